/-! The promise of needs: what a line adds. -/
def dl (R : Int → List Int) (ν : am_M) (l s : Int) : Int := cnt s (R l) - (if ν 1003 l = s then 1 else 0) - (if ν 1004 l = s then 1 else 0)
def vad (R : Int → List Int) (ν : am_M) (v : Int → Int) (l : Int) : Int → Int := fun s => v s + dl R ν l s
def LK (v : Int → Int) (μ : am_M) : Prop := ∀ s, 0 ≤ s → s < 10 → μ 55 s = w32 (v s)
def OV (v : Int → Int) (ν : am_M) : Prop := ∀ s, 0 ≤ s → s < 10 → ν 1052 s = w32 (v s)
theorem LK.eq {v w : Int → Int} {μ : am_M} (h : LK v μ) (e : ∀ s, w s = v s) : LK w μ := fun s p q => by rw [e s]; exact h s p q
theorem OV.eq {v w : Int → Int} {μ : am_M} (h : OV v μ) (e : ∀ s, w s = v s) : OV w μ := fun s p q => by rw [e s]; exact h s p q
theorem cnt_cons (s x : Int) (r : List Int) : cnt s (x :: r) = (if x = s then 1 else 0) + cnt s r := rfl
theorem addLack_s {a d : Int} {v : Int → Int} {μ : am_M} (ha : -1 ≤ a ∧ a < 10) (h : LK v μ) : ∃ μ', Wy_addLack a d μ = some (0, μ') ∧ LK (fun s => v s + (if a = s then d else 0)) μ' ∧ (∀ c i, c ≠ 55 → μ' c i = μ c i) := by
  unfold Wy_addLack
  rw [X_at_55, q_bd_s, X_put_55, q_bd_s]
  by_cases c : 0 ≤ a ∧ a < 10
  · rw [if_pos c, if_pos c]
    refine ⟨_, rfl, fun s p q => ?_, fun c i z => m_st_c z⟩
    by_cases y : a = s
    · subst y
      rw [m_st_d, if_pos ⟨rfl, rfl⟩, h a p q, w32_add]
      show _ = w32 (v a + (if a = a then d else 0))
      rw [if_pos rfl]
    · rw [m_st_i (by omega), h s p q]
      show _ = w32 (v s + (if a = s then d else 0))
      rw [if_neg y]
      congr 1
      omega
  · rw [if_neg c]
    refine ⟨_, rfl, fun s p q => ?_, fun _ _ _ => rfl⟩
    rw [h s p q]
    show _ = w32 (v s + (if a = s then d else 0))
    rw [if_neg (by omega)]
    congr 1
    omega
/-- lines of a bill for needs -/
def ND (b F E : Int) (R : Int → List Int) (μ ν : am_M) : Prop := (KD2 b F E μ ν) ∧ (∀ l, F ≤ l → l < E → CKC b l (R l) μ ν)
theorem ND.kd {b F E : Int} {R : Int → List Int} {μ ν : am_M} (h : ND b F E R μ ν) : KD2 b F E μ ν := h.1
theorem ND.ck {b F E : Int} {R : Int → List Int} {μ ν : am_M} (h : ND b F E R μ ν) : ∀ l, F ≤ l → l < E → CKC b l (R l) μ ν := h.2
theorem ND.mk {b F E : Int} {R : Int → List Int} {μ ν : am_M} (kd : KD2 b F E μ ν) (ck : ∀ l, F ≤ l → l < E → CKC b l (R l) μ ν) : ND b F E R μ ν := ⟨kd, ck⟩
theorem weigh_L {b l sg : Int} {μ0 : am_M} (hb : bOk b) (hl : 0 ≤ l ∧ l < 60) : ∀ (C : List Int) (fu : Nat) (p : Int) (v : Int → Int) (μ : am_M), fsg (μ0 (b + 11)) p C → (∀ c ∈ C, cOk c) → (∀ s ∈ nm C, 0 ≤ s ∧ s < 10) → 0 ≤ p → p + C.length ≤ 1000 → C.length < fu → LK v μ → (∀ c i, c ≠ 55 → μ c i = μ0 c i) → ∃ μ', Wy_weigh_L20 fu (b + 1) l sg (p + C.length) p μ = (q_bd (Wy_addLack (μ0 (b + 3) l) (w32 (-sg)) μ') fun _ μ5 => q_bd (Wy_addLack (μ5 (b + 4) l) (w32 (-sg)) μ5) fun _ μ9 => some (0, μ9)) ∧ LK (fun s => v s + sg * cnt s (nm C)) μ' ∧ (∀ c i, c ≠ 55 → μ' c i = μ0 c i)
  | _, 0, _, _, _, _, _, _, _, _, h, _, _ => by omega
  | [], fu + 1, p, v, μ, hf, hc, hn, h0, h1, _, hv, hμ => by
    have hb' : b = 100 ∨ b = 200 := hb
    have e3 : b + 1 + 2 = b + 3 := by omega
    have e4 : b + 1 + 3 = b + 4 := by omega
    refine ⟨μ, ?_, hv.eq (fun s => ?_), hμ⟩
    · have e : (([] : List Int).length : Int) = 0 := rfl
      show Wy_weigh_L20_b (Wy_weigh_L20 fu) (b + 1) l sg (p + (([] : List Int).length : Int)) p μ = _
      unfold Wy_weigh_L20_b
      rw [if_neg (by omega), q_gd_s (bO2 hb), e3, e4, bat3 hb, if_pos hl, q_bd_s, hμ _ _ (by omega)]
      congr 1
      funext a m
      rw [bat4 hb, if_pos hl, q_bd_s]
    · show v s + sg * 0 = v s
      omega
  | w :: C, fu + 1, p, v, μ, hf, hc, hn, h0, h1, hfu, hv, hμ => by
    have hb' : b = 100 ∨ b = 200 := hb
    rw [List.length_cons] at h1 hfu
    have hk := codeK_s (μ := μ) hb (by rw [hμ _ _ (by omega)]; exact hf.1) (hc w List.mem_cons_self) h0 (by omega)
    have ep : p + ((C.length + 1 : Nat) : Int) = p + 1 + C.length := by omega
    have e0 : Wy_weigh_L20 (fu + 1) (b + 1) l sg (p + ((w :: C).length : Int)) p μ = Wy_weigh_L20_b (Wy_weigh_L20 fu) (b + 1) l sg (p + 1 + C.length) p μ := by rw [List.length_cons, ← ep]; rfl
    have hn' : ∀ s ∈ nm C, 0 ≤ s ∧ s < 10 := fun s y => hn s (by rw [nm_c]; split; exact List.mem_cons_of_mem _ y; exact y)
    rw [e0]
    unfold Wy_weigh_L20_b Wy_weigh_B48
    rw [if_pos (by omega), q_gd_s (bO2 hb), hk.1, q_bd_s, w32_i (x := p + 1) (by omega) (by omega)]
    by_cases q2 : w % 128 = 2
    · have hs := hn (w / 128) (by rw [nm_c, if_pos q2]; exact List.mem_cons_self)
      obtain ⟨μ1, a1, a2, a3⟩ := addLack_s (a := w / 128) (d := sg) (by omega) hv
      rw [if_pos q2, hk.2, q_bd_s, a1, q_bd_s]
      obtain ⟨μ', b1, b2, b3⟩ := weigh_L (sg := sg) hb hl C fu (p + 1) _ μ1 hf.2 (fun x hx => hc x (List.mem_cons_of_mem _ hx)) hn' (by omega) (by omega) (by omega) a2 (fun c i z => by rw [a3 c i z, hμ c i z])
      refine ⟨μ', b1, b2.eq (fun s => ?_), b3⟩
      rw [nm_c, if_pos q2]
      show v s + sg * (cnt s (w / 128 :: nm C)) = v s + (if w / 128 = s then sg else 0) + sg * cnt s (nm C)
      have ec : cnt s (w / 128 :: nm C) = (if w / 128 = s then 1 else 0) + cnt s (nm C) := cnt_cons _ _ _
      rw [ec]
      by_cases y : w / 128 = s
      · rw [if_pos y, if_pos y, Int.mul_add]; omega
      · rw [if_neg y, if_neg y, Int.mul_add]; omega
    · rw [if_neg q2]
      obtain ⟨μ', b1, b2, b3⟩ := weigh_L (sg := sg) hb hl C fu (p + 1) v μ hf.2 (fun x hx => hc x (List.mem_cons_of_mem _ hx)) hn' (by omega) (by omega) (by omega) hv hμ
      exact ⟨μ', b1, b2.eq (fun s => by rw [nm_c, if_neg q2]), b3⟩
theorem weigh_s {b F E l sg : Int} {R : Int → List Int} {v : Int → Int} {μ ν μ1 : am_M} (h : ND b F E R μ ν) (hl : F ≤ l ∧ l < E) (hsg : sg = 1 ∨ sg = -1) (hμ : ∀ c, b ≤ c → c ≤ b + 22 → μ1 c = μ c) (hv : LK v μ1) : ∃ μ2, Wy_weigh (b + 1) l sg μ1 = some (0, μ2) ∧ LK (fun s => v s + sg * dl R ν l s) μ2 ∧ (∀ c i, c ≠ 55 → μ2 c i = μ1 c i) := by
  have hFU := am_FU_ge
  have hb := h.kd.bo
  have hb' : b = 100 ∨ b = 200 := hb
  have ck := h.ck l hl.1 hl.2
  obtain ⟨C, c1, c2, c3, c4, c5, c6⟩ := ck.rl.cl
  have hla := ck.la
  have hbe := ck.be
  have e9 : b + 1 + 9 = b + 10 := by omega
  have e8 : b + 1 + 8 = b + 9 := by omega
  have es : w32 (-sg) = -sg := w32_id (by unfold r32; omega)
  obtain ⟨μ2, a1, a2, a3⟩ := weigh_L (sg := sg) (μ0 := μ1) hb ck.l0 C am_FU (μ (b + 9) l) v μ1 (by rw [hμ _ (by omega) (by omega)]; exact c1) c4 (by rw [c3]; exact ck.rl.sl) c5 (by omega) (by omega) hv (fun _ _ _ => rfl)
  obtain ⟨μ3, b1, b2, b3⟩ := addLack_s (a := ν 1003 l) (d := -sg) ⟨hla.2.1, hla.2.2⟩ a2
  obtain ⟨μ4, d1, d2, d3⟩ := addLack_s (a := ν 1004 l) (d := -sg) ⟨hbe.2.1, hbe.2.2⟩ b2
  refine ⟨μ4, ?_, d2.eq (fun s => ?_), fun c i z => by rw [d3 c i z, b3 c i z, a3 c i z]⟩
  · unfold Wy_weigh
    rw [q_gd_s (bO2 hb), e9, e8, bat10 hb, if_pos ck.l0, q_bd_s, bat9 hb, if_pos ck.l0, q_bd_s, hμ (b + 10) (by omega) (by omega), hμ (b + 9) (by omega) (by omega), c2, a1, es, hμ (b + 3) (by omega) (by omega), hla.1, b1, q_bd_s, b3 _ _ (by omega), a3 _ _ (by omega), hμ (b + 4) (by omega) (by omega), hbe.1, d1, q_bd_s]
  · rw [c3]
    unfold dl
    show v s + sg * (cnt s (R l) - (if ν 1003 l = s then 1 else 0) - (if ν 1004 l = s then 1 else 0)) = v s + sg * cnt s (R l) + (if ν 1003 l = s then -sg else 0) + (if ν 1004 l = s then -sg else 0)
    rcases hsg with z | z
    · subst z
      split <;> split <;> omega
    · subst z
      split <;> split <;> omega
theorem laysOf_s {l s : Int} {ν : am_M} (hl : 0 ≤ l ∧ l < 120) : M_laysOf l s ν = some ((if ν 1003 l = s then 1 else 0) + (if ν 1004 l = s then 1 else 0), ν) := by
  unfold M_laysOf M_laysOf_B15 M_laysOf_B30
  rw [q_ld_s hl.1 hl.2]
  by_cases c : ν 1003 l = s
  · rw [if_pos c, if_pos c, q_ld_s hl.1 hl.2]
    by_cases d : ν 1004 l = s
    · rw [if_pos d, if_pos d]; rfl
    · rw [if_neg d, if_neg d]; rfl
  · rw [if_neg c, if_neg c, q_ld_s hl.1 hl.2]
    by_cases d : ν 1004 l = s
    · rw [if_pos d, if_pos d]; rfl
    · rw [if_neg d, if_neg d]; rfl
theorem w32_mul {x k y : Int} (hk : k = 1 ∨ k = -1) : w32 (w32 x + w32 (k * w32 y)) = w32 (x + k * y) := by
  rcases hk with z | z
  · subst z
    unfold w32
    omega
  · subst z
    unfold w32
    omega
/-- what the reference may change in needs -/
def NFR (ν ν' : am_M) : Prop := ∀ c i, ¬ (c = 1000 ∧ (i = 77 ∨ i = 78)) → ¬ (1052 ≤ c ∧ c ≤ 1053) → ν' c i = ν c i
theorem RL.nf {b l : Int} {r : List Int} {μ ν ν' : am_M} (h : RL b l r μ ν) (g : NFR ν ν') : RL b l r μ ν' := h.cg (fun _ _ _ _ => rfl) (fun c p q => funext fun i => g c i (by omega) (by omega))
theorem counts_L {b F E l sg : Int} {R : Int → List Int} {v : Int → Int} {μ ν : am_M} (h : ND b F E R μ ν) (hl : F ≤ l ∧ l < E) (hsg : sg = 1 ∨ sg = -1) : ∀ (n fu : Nat) (i : Int) (ν1 : am_M), i + n = 10 → 0 ≤ i → n < fu → NFR ν ν1 → (∀ s, i ≤ s → s < 10 → ν1 1052 s = w32 (v s)) → (∀ s, 0 ≤ s → s < i → ν1 1052 s = w32 (v s + sg * dl R ν l s)) → ∃ ν2, M_counts_L2 fu l sg i ν1 = some (0, ν2) ∧ OV (fun s => v s + sg * dl R ν l s) ν2 ∧ (∀ c x, c ≠ 1052 → ν2 c x = ν1 c x)
  | n, 0, _, _, _, _, h, _, _, _ => by omega
  | 0, fu + 1, i, ν1, hi, h0, _, _, _, hd => by
    refine ⟨ν1, ?_, fun s p q => hd s p (by omega), fun _ _ _ => rfl⟩
    show M_counts_L2_b (M_counts_L2 fu) l sg i ν1 = _
    unfold M_counts_L2_b
    rw [if_neg (by omega)]
  | n + 1, fu + 1, i, ν1, hi, h0, hf, hν, hu, hd => by
    have ck := h.ck l hl.1 hl.2
    have l0 := ck.l0
    have e : w32 (w32 (v i) + w32 (sg * w32 (cnt i (R l) - ((if ν1 1003 l = i then 1 else 0) + (if ν1 1004 l = i then 1 else 0))))) = w32 (v i + sg * dl R ν l i) := by
      rw [w32_mul hsg, hν 1003 l (by omega) (by omega), hν 1004 l (by omega) (by omega)]
      unfold dl
      congr 3
      omega
    obtain ⟨ν2, a1, a2, a3⟩ := counts_L (v := v) h hl hsg n fu (i + 1) (m_st ν1 1052 i (w32 (v i + sg * dl R ν l i))) (by omega) (by omega) (by omega) (fun c x p q => by rw [m_st_c (by omega)]; exact hν c x p q) (fun s p q => by rw [m_st_i (by omega)]; exact hu s (by omega) q) (fun s p q => by
      by_cases y : s = i
      · rw [y, m_st_d, if_pos ⟨rfl, rfl⟩]
      · rw [m_st_i y]; exact hd s p (by omega))
    refine ⟨ν2, ?_, a2, fun c x z => by rw [a3 c x z, m_st_c z]⟩
    rw [← a1]
    show M_counts_L2_b (M_counts_L2 fu) l sg i ν1 = _
    unfold M_counts_L2_b
    rw [if_pos (by omega), q_ld_s h0 (by omega), readsOf_s (ck.rl.nf hν) l0 (by omega), q_bd_s, laysOf_s (by omega), q_bd_s, hu i (Int.le_refl _) (by omega), e, q_st_s h0 (by omega), w32_i (x := i + 1) (by omega) (by omega)]
theorem counts_s {b F E l sg : Int} {R : Int → List Int} {v : Int → Int} {μ ν ν1 : am_M} (h : ND b F E R μ ν) (hl : F ≤ l ∧ l < E) (hsg : sg = 1 ∨ sg = -1) (hν : NFR ν ν1) (hv : OV v ν1) : ∃ ν2, M_counts l sg ν1 = some (0, ν2) ∧ OV (fun s => v s + sg * dl R ν l s) ν2 ∧ (∀ c x, c ≠ 1052 → ν2 c x = ν1 c x) := by
  have hFU := am_FU_ge
  exact counts_L h hl hsg 10 am_FU 0 ν1 (by omega) (by omega) (by omega) hν (fun s p q => hv s p q) (fun s p q => by omega)
