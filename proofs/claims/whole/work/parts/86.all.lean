/-! CHECK of all bills. -/
theorem snd_33 {b k F E : Int} {μ ν : am_M} (hb : bOk b) (hk : 0 ≤ k ∧ k < 4) (hF : 0 ≤ F) (hE : E ≤ 60) (hc : ∀ l, F ≤ l → l < E → μ (b + 6) l = ν 1006 l ∧ -1 ≤ ν 1006 l ∧ ν 1006 l < 4) : ∀ (n f : Nat) (l v : Int), l + n = E → F ≤ l → n < f → (v = 0 ∨ v = 1) → ((∀ x, l ≤ x → x < E → ν 1006 x = -1 ∨ ν 1006 x = k ∨ μ (b + 22) (ν 1006 x) ≠ 0) ∧ Ck_isSound_L33 f b k v E l μ = some (v, μ)) ∨ ((∃ x, l ≤ x ∧ x < E ∧ 0 ≤ ν 1006 x ∧ ν 1006 x ≠ k ∧ μ (b + 22) (ν 1006 x) = 0) ∧ Ck_isSound_L33 f b k v E l μ = some (0, μ))
  | n, 0, _, _, _, _, h, _ => by omega
  | 0, f + 1, l, v, hl, h0, _, hv => by
    refine Or.inl ⟨fun x p q => by omega, ?_⟩
    show Ck_isSound_L33_b (Ck_isSound_L33 f) b k v E l μ = _
    unfold Ck_isSound_L33_b
    rw [if_neg (by omega)]
    rcases hv with z | z
    · subst z; rw [q_rb0]
    · subst z; rw [q_rb1]
  | n + 1, f + 1, l, v, hl, h0, hf, hv => by
    obtain ⟨c1, c2, c3⟩ := hc l h0 (by omega)
    have e6 : b + 1 + 5 = b + 6 := by omega
    have e0 : Ck_isSound_L33 (f + 1) b k v E l μ = Ck_isSound_L33_b (Ck_isSound_L33 f) b k v E l μ := rfl
    have fine : (ν 1006 l = -1 ∨ ν 1006 l = k ∨ μ (b + 22) (ν 1006 l) ≠ 0) → ((∀ x, l ≤ x → x < E → ν 1006 x = -1 ∨ ν 1006 x = k ∨ μ (b + 22) (ν 1006 x) ≠ 0) ∧ Ck_isSound_L33 f b k v E (l + 1) μ = some (v, μ)) ∨ ((∃ x, l ≤ x ∧ x < E ∧ 0 ≤ ν 1006 x ∧ ν 1006 x ≠ k ∧ μ (b + 22) (ν 1006 x) = 0) ∧ Ck_isSound_L33 f b k v E (l + 1) μ = some (0, μ)) := by
      intro z
      rcases snd_33 hb hk hF hE hc n f (l + 1) v (by omega) (by omega) (by omega) hv with ⟨a1, a2⟩ | ⟨⟨x, x0, x1, x2⟩, a2⟩
      · refine Or.inl ⟨fun x p q => ?_, a2⟩
        by_cases y : x = l
        · subst y; exact z
        · exact a1 x (by omega) q
      · exact Or.inr ⟨⟨x, by omega, x1, x2⟩, a2⟩
    rw [e0]
    unfold Ck_isSound_L33_b Ck_isSound_B79
    rw [if_pos (show l < E by omega), q_gd_s (bO0 hb), q_gd_s (bO2 hb), e6, bat6 hb, if_pos (show 0 ≤ l ∧ l < 60 by omega), q_bd_s, c1, w32_i (x := l + 1) (by omega) (by omega)]
    by_cases q1 : ν 1006 l = -1
    · rw [if_pos q1]; exact fine (Or.inl q1)
    rw [if_neg q1]
    by_cases q2 : ν 1006 l = k
    · rw [if_pos q2]; exact fine (Or.inr (Or.inl q2))
    rw [if_neg q2, bat22 hb, if_pos (show 0 ≤ ν 1006 l ∧ ν 1006 l < 4 by omega), q_bd_s]
    by_cases q3 : μ (b + 22) (ν 1006 l) = 0
    · rw [if_pos q3]
      refine Or.inr ⟨⟨l, Int.le_refl _, by omega, by omega, q2, q3⟩, ?_⟩
      rcases snd_33 hb hk hF hE hc n f (l + 1) 0 (by omega) (by omega) (by omega) (Or.inl rfl) with ⟨a1, a2⟩ | ⟨a1, a2⟩
      · exact a2
      · exact a2
    · rw [if_neg q3]; exact fine (Or.inr (Or.inr q3))
theorem isSound_c {b B W n k : Int} {Wn : Int → Int} {μ ν : am_M} (h : TB b B W n Wn μ ν) (hk : 0 ≤ k ∧ k < B) : (Ck_isSound b k μ = some (1, μ) ∧ μ (b + 19) k = 0 ∧ ∀ c, Cal ν k c → c = k ∨ μ (b + 22) c ≠ 0) ∨ (Ck_isSound b k μ = some (0, μ) ∧ ¬ (μ (b + 19) k = 0 ∧ ∀ c, Cal ν k c → c = k ∨ μ (b + 22) c ≠ 0)) := by
  have hs := HS.of h
  have hB := h.cB
  have hn := h.cn
  have hF := am_FU_ge
  have hr := hs.rw k hk.1 hk.2
  have hkk : 0 ≤ k ∧ k < 4 := by omega
  obtain ⟨f, m, t, S, σ, e, w⟩ := h.bw k hk.1 hk.2
  have e0 : (0 : Int) + k = k := by omega
  have r15 := w.r15
  have r16 := w.r16
  have hfn := w.fn
  have htt := w.tt
  rw [e0] at r15 r16
  have hc : ∀ l, f ≤ l → l < f + m → μ (b + 6) l = ν 1006 l ∧ -1 ≤ ν 1006 l ∧ ν 1006 l < 4 := fun l l0 l1 => by
    obtain ⟨u, a1, -⟩ := w.ln l l0 l1
    have ca := a1.ca
    have el : (0 : Int) + l = l := by omega
    rw [el] at ca
    have := hs.cl k hk.1 hk.2 l (by omega) (by omega)
    exact ⟨ca.1, by omega, by omega⟩
  have eS : ∀ v, (v = 0 ∨ v = 1) → (Ck_isSound_B16 b k v μ = some (v, μ) ∧ ∀ c, Cal ν k c → c = k ∨ μ (b + 22) c ≠ 0) ∨ (Ck_isSound_B16 b k v μ = some (0, μ) ∧ ¬ ∀ c, Cal ν k c → c = k ∨ μ (b + 22) c ≠ 0) := by
    intro v hv
    have ex : Ck_isSound_B16 b k v μ = Ck_isSound_L33 am_FU b k v (f + m) f μ := by
      unfold Ck_isSound_B16 Bi_lineBehind
      rw [q_gd_s (bO0 h.bo), q_gd_s (bO0 h.bo), bat15 h.bo, if_pos hkk, q_bd_s, bat16 h.bo, if_pos hkk, q_bd_s, q_bd_s, bat15 h.bo, if_pos hkk, q_bd_s, r15.1, r16.1, w32_i (x := f + m) (by omega) (by omega)]
    rw [ex]
    rcases snd_33 (k := k) (E := f + m) h.bo hkk (show 0 ≤ f by omega) (by omega) hc m.toNat am_FU f v (by omega) (Int.le_refl _) (by omega) hv with ⟨a1, a2⟩ | ⟨⟨x, x0, x1, x2, x3, x4⟩, a2⟩
    · refine Or.inl ⟨a2, fun c ⟨x, x0, x1, x2, x3⟩ => ?_⟩
      rcases a1 x (by omega) (by omega) with z | z | z
      · omega
      · exact Or.inl (by omega)
      · rw [x2] at z; exact Or.inr z
    · refine Or.inr ⟨a2, fun z => ?_⟩
      rcases z _ ⟨x, by omega, by omega, rfl, x2⟩ with y | y
      · exact x3 y
      · exact y x4
  unfold Ck_isSound
  rw [q_gd_s (bO0 h.bo), bat19 h.bo, if_pos hkk, q_bd_s]
  by_cases q : μ (b + 19) k = 0
  · rw [if_pos q]
    rcases eS 1 (Or.inr rfl) with ⟨a1, a2⟩ | ⟨a1, a2⟩
    · exact Or.inl ⟨a1, q, a2⟩
    · exact Or.inr ⟨a1, fun z => a2 z.2⟩
  · rw [if_neg q]
    rcases eS 0 (Or.inl rfl) with ⟨a1, a2⟩ | ⟨a1, a2⟩
    · exact Or.inr ⟨a1, fun z => q z.1⟩
    · exact Or.inr ⟨a1, fun z => q z.1⟩
theorem FLW.cg {b z l : Int} {μ ν μ' ν' : am_M} {G J : Int → Int} {T : Int → Int → Prop} (h : FLW b μ ν G J T z l) (f : ∀ c, b + 1 ≤ c → c ≤ b + 11 → c ≠ b + 8 → μ' c = μ c) (g : ∀ c, 1001 ≤ c → c ≤ 1020 → ν' c = ν c) : FLW b μ' ν' G J T z l := by
  obtain ⟨r, a1, a2, a3, a4, a5, a6⟩ := h
  have e2 := g 1002 (by decide) (by decide)
  have e3 := g 1003 (by decide) (by decide)
  have e4 := g 1004 (by decide) (by decide)
  have e8 := g 1008 (by decide) (by decide)
  have e9 := g 1009 (by decide) (by decide)
  refine ⟨r, a1.cg f g, a2, ?_, ?_, ?_, ?_⟩
  · rw [e2, e3, e4]; exact a3
  · rw [e2, e8]; exact a4
  · rw [e2, e9]; exact a5
  · rw [e2]; exact a6
/-- what lies on the table along a bill without fault -/
def TBL (b k : Int) (μ ν : am_M) : Prop := ∃ T : Int → Int → Prop, (∀ t, ¬ T (ν 1017 k) t) ∧ (∀ l, ν 1017 k ≤ l → l < ν 1017 k + ν 1018 k - 1 → FLW b μ ν (μ (b + 8)) (ν 1042) T (ν 1017 k + ν 1018 k - 1) l) ∧ ∃ r, CKC b (ν 1017 k + ν 1018 k - 1) r μ ν ∧ ∀ s ∈ r, T (ν 1017 k + ν 1018 k - 1) s
/-- a bill checked -/
def BC (b k : Int) (μ ν : am_M) : Prop := ∃ x ln s, μ (b + 19) k = x ∧ μ (b + 20) k = ln ∧ μ (b + 21) k = s ∧ FND k x ln s ν ∧ 0 ≤ x ∧ (x ≠ 0 → ν 1017 k ≤ ln ∧ ln < ν 1017 k + ν 1018 k) ∧ (x = 0 → ln = -1 ∧ s = -1 ∧ TBL b k μ ν)
theorem BC.cong {b k : Int} {μ ν μ' ν' : am_M} (h : BC b k μ ν) (f : ∀ c, b + 1 ≤ c → c ≤ b + 11 → c ≠ b + 8 → μ' c = μ c) (g : ∀ c, 1001 ≤ c → c ≤ 1020 → ν' c = ν c) (r : ∀ c, b + 19 ≤ c → c ≤ b + 21 → μ' c k = μ c k) (q : ∀ c, 1039 ≤ c → c ≤ 1041 → ν' c k = ν c k) (G : ∀ l, ν 1017 k ≤ l → l < ν 1017 k + ν 1018 k → μ' (b + 8) l = μ (b + 8) l ∧ ν' 1042 l = ν 1042 l) : BC b k μ' ν' := by
  obtain ⟨x, ln, s, a1, a2, a3, ⟨a4, a5, a6⟩, a7, a8, a9⟩ := h
  have e7 := g 1017 (by decide) (by decide)
  have e8 := g 1018 (by decide) (by decide)
  refine ⟨x, ln, s, by rw [r _ (by omega) (by omega)]; exact a1, by rw [r _ (by omega) (by omega)]; exact a2, by rw [r _ (by omega) (by omega)]; exact a3, ⟨by rw [q _ (by decide) (by decide)]; exact a4, by rw [q _ (by decide) (by decide)]; exact a5, by rw [q _ (by decide) (by decide)]; exact a6⟩, a7, by rw [e7, e8]; exact a8, fun z => ?_⟩
  obtain ⟨b1, b2, T, b3, b4, rr, b5, b6⟩ := a9 z
  refine ⟨b1, b2, T, ?_⟩
  rw [e7, e8]
  refine ⟨b3, fun l l0 l1 => ?_, rr, b5.cg f g, b6⟩
  exact ((b4 l l0 l1).cg f g).up l1 (Int.le_refl _) (fun _ _ _ => rfl) (G l l0 (by omega)).1 (fun x p y => (G x (by omega) (by omega)).2)
theorem BC.of {b k F E x ln s : Int} {μ0 ν0 μ ν : am_M} (hb : bOk b) (h : CB b k F E μ0 ν0 μ ν x ln s) (h1 : ν0 1017 k = F) (h2 : ν0 1017 k + ν0 1018 k = E) : BC b k μ ν := by
  have hb' : b = 100 ∨ b = 200 := hb
  obtain ⟨a1, a2, a3, a4, a5, a6, a7, a8, a9⟩ := h
  have f : ∀ c, b + 1 ≤ c → c ≤ b + 11 → c ≠ b + 8 → μ c = μ0 c := fun c p q w => funext fun i => a5 c i (by omega)
  have g := a6.fn
  have e7 : ν 1017 k = F := by rw [g 1017 (by decide) (by decide)]; exact h1
  have e8 : ν 1017 k + ν 1018 k = E := by rw [g 1017 (by decide) (by decide), g 1018 (by decide) (by decide)]; exact h2
  refine ⟨x, ln, s, a1, a2, a3, a4, a7, by rw [e8, e7]; exact a8, fun z => ?_⟩
  obtain ⟨b1, b2, T, b3, b4, rr, b5, b6⟩ := a9 z
  refine ⟨b1, b2, T, ?_⟩
  rw [e8, e7]
  exact ⟨b3, fun l l0 l1 => (b4 l l0 l1).cg f g, rr, b5.cg f g, b6⟩
