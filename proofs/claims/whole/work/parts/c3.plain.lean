/-! The promise of plain. -/
theorem fsg_get {g : Int → Int} : ∀ (L : List Int) (q i : Int), fsg g q L → q ≤ i → i < q + L.length → g i ∈ L
  | [], q, i, _, h0, h1 => by
    have e : ((([] : List Int).length : Nat) : Int) = 0 := rfl
    omega
  | c :: L, q, i, h, h0, h1 => by
    rw [List.length_cons] at h1
    by_cases y : i = q
    · rw [y, h.1]; exact List.mem_cons_self
    · exact List.mem_cons_of_mem _ (fsg_get L (q + 1) i h.2 (by omega) (by omega))
theorem LQ_mono {b W k f n t S : Int} {Wn σ : Int → Int} {μ ν : am_M} (w : BW b 0 0 0 W k f n t S Wn σ μ ν) : ∀ l, f ≤ l → l ≤ f + n → σ l ≤ S := by
  have go : ∀ (j : Nat) (l : Int), f + n - l = j → f ≤ l → σ l ≤ S := by
    intro j
    induction j with
    | zero =>
      intro l h _
      have e : l = f + n := by omega
      rw [e, w.sn]
      exact Int.le_refl _
    | succ j ih =>
      intro l h h0
      obtain ⟨u, a1, a2⟩ := w.ln l h0 (by omega)
      have := a2.ss
      have := ih (l + 1) (by omega) (by omega)
      omega
  intro l h0 h1
  exact go (f + n - l).toNat l (by omega) h0
theorem sub_0 {x y : Int} : aAnd x (aXor y (-1)) = 0 ↔ ∀ s, 0 ≤ s → s < 32 → tb x s = true → tb y s = true := by
  have r0 : r32 0 := by unfold r32; omega
  constructor
  · intro h s p q z
    have : tb (aAnd x (aXor y (-1))) s = false := by rw [h, tb_0]
    rw [tb_and, tb_not p q, z, Bool.true_and] at this
    cases t : tb y s with
    | true => rfl
    | false => rw [t] at this; cases this
  · intro h
    refine tb_ext (aAnd_r _ _) r0 (fun s p q => ?_)
    rw [tb_and, tb_not p q, tb_0]
    cases t : tb x s with
    | false => rfl
    | true => rw [h s p q t]; rfl
theorem and_0 {x y : Int} : aAnd x y = 0 ↔ ∀ s, 0 ≤ s → s < 32 → tb x s = true → tb y s = false := by
  have r0 : r32 0 := by unfold r32; omega
  constructor
  · intro h s p q z
    have : tb (aAnd x y) s = false := by rw [h, tb_0]
    rw [tb_and, z, Bool.true_and] at this
    exact this
  · intro h
    refine tb_ext (aAnd_r _ _) r0 (fun s p q => ?_)
    rw [tb_and, tb_0]
    cases t : tb x s with
    | false => rfl
    | true => rw [h s p q t]; rfl
/-- a plain bill -/
def PL (b F E t N : Int) (μ ν : am_M) : Prop := (bOk b) ∧ (0 ≤ F ∧ E ≤ 60) ∧ (0 ≤ t ∧ t ≤ 4) ∧ (0 ≤ N ∧ t + N ≤ 10) ∧ (E = F + t + N + 1) ∧ (∀ l, F ≤ l → l < E → CKC b l (RR b μ l) μ ν) ∧ (∀ j, 0 ≤ j → j < t → ν 1002 (F + j) = 0) ∧ (∀ k, 0 ≤ k → k < N → ν 1002 (F + t + k) = 1) ∧ (ν 1002 (E - 1) = 8) ∧ (∀ j, 0 ≤ j → j < t + N → ν 1003 (F + j) = j) ∧ (∀ l s, F ≤ l → l < E → s ∈ RR b μ l → 0 ≤ s ∧ s < l - F) ∧ (∀ j, 0 ≤ j → j < t → RR b μ (F + j) = [])
theorem PL.bo {b F E t N : Int} {μ ν : am_M} (h : PL b F E t N μ ν) : bOk b := h.1
theorem PL.F0 {b F E t N : Int} {μ ν : am_M} (h : PL b F E t N μ ν) : 0 ≤ F ∧ E ≤ 60 := h.2.1
theorem PL.t0 {b F E t N : Int} {μ ν : am_M} (h : PL b F E t N μ ν) : 0 ≤ t ∧ t ≤ 4 := h.2.2.1
theorem PL.N0 {b F E t N : Int} {μ ν : am_M} (h : PL b F E t N μ ν) : 0 ≤ N ∧ t + N ≤ 10 := h.2.2.2.1
theorem PL.NE {b F E t N : Int} {μ ν : am_M} (h : PL b F E t N μ ν) : E = F + t + N + 1 := h.2.2.2.2.1
theorem PL.ck {b F E t N : Int} {μ ν : am_M} (h : PL b F E t N μ ν) : ∀ l, F ≤ l → l < E → CKC b l (RR b μ l) μ ν := h.2.2.2.2.2.1
theorem PL.k0 {b F E t N : Int} {μ ν : am_M} (h : PL b F E t N μ ν) : ∀ j, 0 ≤ j → j < t → ν 1002 (F + j) = 0 := h.2.2.2.2.2.2.1
theorem PL.k1 {b F E t N : Int} {μ ν : am_M} (h : PL b F E t N μ ν) : ∀ k, 0 ≤ k → k < N → ν 1002 (F + t + k) = 1 := h.2.2.2.2.2.2.2.1
theorem PL.k8 {b F E t N : Int} {μ ν : am_M} (h : PL b F E t N μ ν) : ν 1002 (E - 1) = 8 := h.2.2.2.2.2.2.2.2.1
theorem PL.la {b F E t N : Int} {μ ν : am_M} (h : PL b F E t N μ ν) : ∀ j, 0 ≤ j → j < t + N → ν 1003 (F + j) = j := h.2.2.2.2.2.2.2.2.2.1
theorem PL.rd {b F E t N : Int} {μ ν : am_M} (h : PL b F E t N μ ν) : ∀ l s, F ≤ l → l < E → s ∈ RR b μ l → 0 ≤ s ∧ s < l - F := h.2.2.2.2.2.2.2.2.2.2.1
theorem PL.r0 {b F E t N : Int} {μ ν : am_M} (h : PL b F E t N μ ν) : ∀ j, 0 ≤ j → j < t → RR b μ (F + j) = [] := h.2.2.2.2.2.2.2.2.2.2.2
theorem PL.mk {b F E t N : Int} {μ ν : am_M} (bo : bOk b) (F0 : 0 ≤ F ∧ E ≤ 60) (t0 : 0 ≤ t ∧ t ≤ 4) (N0 : 0 ≤ N ∧ t + N ≤ 10) (NE : E = F + t + N + 1) (ck : ∀ l, F ≤ l → l < E → CKC b l (RR b μ l) μ ν) (k0 : ∀ j, 0 ≤ j → j < t → ν 1002 (F + j) = 0) (k1 : ∀ k, 0 ≤ k → k < N → ν 1002 (F + t + k) = 1) (k8 : ν 1002 (E - 1) = 8) (la : ∀ j, 0 ≤ j → j < t + N → ν 1003 (F + j) = j) (rd : ∀ l s, F ≤ l → l < E → s ∈ RR b μ l → 0 ≤ s ∧ s < l - F) (r0 : ∀ j, 0 ≤ j → j < t → RR b μ (F + j) = []) : PL b F E t N μ ν := ⟨bo, F0, t0, N0, NE, ck, k0, k1, k8, la, rd, r0⟩
/-- how far it is plain -/
def PF (b F l : Int) (μ ν : am_M) (σ : Int → Int) : Prop := (l - F ≤ 10 ∧ σ l = l - F) ∧ (∀ j, 0 ≤ j → j < l - F → ν 1003 (F + j) = j) ∧ (∀ x, F ≤ x → x < l → ν 1002 x = 0 ∨ ν 1002 x = 1) ∧ (∀ x s, F ≤ x → x < l → s ∈ RR b μ x → 0 ≤ s ∧ s < x - F)
theorem reads10_L {l x v : Int} {b : Int} {r : List Int} {k9 : Int → Int → Int → am_M → am_O} {μ ν : am_M} (hl : 0 ≤ l ∧ l < 60) (hr : RL b l r μ ν) : ∀ (n fu : Nat) (i : Int), i + n = 10 → 0 ≤ i → n < fu → ((∀ s, i ≤ s → s < 10 → s ∈ r → tb x s = true) ∧ M_isPlain_L53 k9 fu v x l i ν = (q_ld 120 1003 l ν fun a1 => if a1 < 0 then (M_isPlain_B112 k9 v x l ν) else (q_ld 120 1003 l ν fun a2 => if (aAnd (aShr x a2) 1) = 1 then (some (0, ν)) else (M_isPlain_B112 k9 v x l ν)))) ∨ ((∃ s, i ≤ s ∧ s < 10 ∧ s ∈ r ∧ tb x s = false) ∧ M_isPlain_L53 k9 fu v x l i ν = some (0, ν))
  | n, 0, _, _, _, h => by omega
  | 0, fu + 1, i, hi, h0, _ => by
    refine Or.inl ⟨fun s p q => by omega, ?_⟩
    show M_isPlain_L53_b k9 (M_isPlain_L53 k9 fu) v x l i ν = _
    unfold M_isPlain_L53_b
    rw [if_neg (by omega)]
  | n + 1, fu + 1, i, hi, h0, hf => by
    have e0 : M_isPlain_L53 k9 (fu + 1) v x l i ν = M_isPlain_L53_b k9 (M_isPlain_L53 k9 fu) v x l i ν := rfl
    have hc := cnt_0 i r
    have ih := reads10_L (x := x) (v := v) (k9 := k9) hl hr n fu (i + 1) (by omega) (by omega) (by omega)
    rw [e0]
    unfold M_isPlain_L53_b M_isPlain_B81
    rw [if_pos (show i < 10 by omega), readsOf_s hr hl ⟨h0, by omega⟩, q_bd_s, w32_i (x := i + 1) (by omega) (by omega)]
    have go : (i ∈ r → tb x i = true) → ((∀ s, i ≤ s → s < 10 → s ∈ r → tb x s = true) ∧ M_isPlain_L53 k9 fu v x l (i + 1) ν = (q_ld 120 1003 l ν fun a1 => if a1 < 0 then (M_isPlain_B112 k9 v x l ν) else (q_ld 120 1003 l ν fun a2 => if (aAnd (aShr x a2) 1) = 1 then (some (0, ν)) else (M_isPlain_B112 k9 v x l ν)))) ∨ ((∃ s, i ≤ s ∧ s < 10 ∧ s ∈ r ∧ tb x s = false) ∧ M_isPlain_L53 k9 fu v x l (i + 1) ν = some (0, ν)) := by
      intro z
      rcases ih with ⟨a1, a2⟩ | ⟨⟨s, a1⟩, a2⟩
      · refine Or.inl ⟨fun s p q w => ?_, a2⟩
        by_cases y : s = i
        · rw [y]; exact z (by rw [← y]; exact w)
        · exact a1 s (by omega) q w
      · exact Or.inr ⟨⟨s, by omega, a1.2⟩, a2⟩
    by_cases c : cnt i r ≤ 0
    · rw [if_pos c]
      exact go (fun y => by have := hc.mpr y; omega)
    · rw [if_neg c]
      by_cases t : tb x i = true
      · rw [if_neg (fun z => by rw [bit_0 h0 (by omega)] at z; rw [z] at t; cases t)]
        exact go (fun _ => t)
      · have t' : tb x i = false := by cases z : tb x i with
          | true => exact absurd z t
          | false => rfl
        rw [if_pos ((bit_0 h0 (by omega)).mpr t')]
        exact Or.inr ⟨⟨i, Int.le_refl _, by omega, hc.mp (by omega), t'⟩, rfl⟩
theorem plain_L {b B W n v f m t S : Int} {Wn σ : Int → Int} {μ ν : am_M} (h : TB b B W n Wn μ ν) (hv : 0 ≤ v ∧ v < B) (w : BW b 0 0 0 W v f m t S Wn σ μ ν) (hfm : f + m ≤ n) : ∀ (j fu fu' : Nat) (l x : Int), f + m - l = j → f ≤ l → l < f + m → j < fu → j < fu' → PF b f l μ ν σ → S10 x → (∀ s, 0 ≤ s → s < 10 → (tb x s = true ↔ s < l - f)) → (Bi_isPlain_L18 fu b x (f + m) l μ = some (0, μ) ∧ M_isPlain_L9 fu' v x l ν = some (0, ν)) ∨ (Bi_isPlain_L18 fu b x (f + m) l μ = some (1, μ) ∧ M_isPlain_L9 fu' v x l ν = some (1, ν) ∧ PF b f (f + m - 1) μ ν σ ∧ (∀ s, s ∈ RR b μ (f + m - 1) → 0 ≤ s ∧ s < m - 1))
  | 0, _, _, l, _, h1, _, h2, _, _, _, _, _ => by omega
  | _ + 1, 0, _, _, _, _, _, _, h, _, _, _, _ => by omega
  | _ + 1, _ + 1, 0, _, _, _, _, _, _, h, _, _, _ => by omega
  | j + 1, fu + 1, fu' + 1, l, x, hj, hF, hL, hfu, hfu', hp, hx, hb => by
    have hFU := am_FU_ge
    have hbo := h.bo
    have hb' : b = 100 ∨ b = 200 := hbo
    have hn := h.cn
    have hW := h.cW
    have hB := h.cB
    have hfn := w.fn
    have htt := w.tt
    have ez : (0 : Int) + v = v := by omega
    have r15 := w.r15
    have r16 := w.r16
    rw [ez] at r15 r16
    have el : (0 : Int) + l = l := by omega
    obtain ⟨u, a1, a2⟩ := w.ln l hF hL
    obtain ⟨S', u', a0, a⟩ := h.al l (by omega) (by omega)
    obtain ⟨r, ck⟩ := CKC_of a (by omega) a0 (by omega) h.wv
    have eR := RR_of ck.rl
    have l0 := ck.l0
    have hla := ck.la
    have hbe := ck.be
    have hkd := ck.kd
    obtain ⟨⟨p10, pσ⟩, p2, p3, p4⟩ := hp
    have gv := w.gv
    have eg : (0 : Int) + (f + m - 1) = f + m - 1 := by omega
    rw [eg] at gv
    obtain ⟨nb, bk⟩ := wZ_of w.bk
    have I := blk_i nb 3 _ _ bk
    have k8 : ν 1002 l = 8 ↔ l = f + m - 1 := by
      constructor
      · intro z
        by_cases y : l < f + t
        · have := (w.tk (l - f) (by omega) (by omega)).1
          have e1 : (0 : Int) + (f + (l - f)) = l := by omega
          rw [e1] at this
          omega
        · by_cases y2 : l = f + m - 1
          · exact y2
          · have q : 1 ≤ ν 1002 l ∧ ν 1002 l ≤ 7 := (I l (by omega) (by omega)).1
            omega
      · intro z; rw [z]; exact gv
    have sl := a.sl
    have sb := a.sb
    rw [el] at sl sb
    -- the class
    obtain ⟨y, y1, y2, y3⟩ := laidSet_s (l := l) (μ := μ) hbo l0 hla.1 hbe.1 hla.2 hbe.2
    have tr := timesRead_s hbo ck.rl l0
    have hS := rsF_S r 0 S10_0 ck.rl.sl
    have hT : ∀ t, 0 ≤ t → t < 10 → (tb (rsF 0 r) t = true ↔ t ∈ r) := fun t p z => by
      rw [rsF_tb r 0 t ck.rl.sl p (by omega), tb_0]
      exact ⟨fun y => y.elim (fun w => by cases w) (fun w => w), Or.inr⟩
    have e2 : b + 1 + 1 = b + 2 := by omega
    have eC : Bi_isPlain_L18 (fu + 1) b x (f + m) l μ = if ν 1002 l = 0 ∨ ν 1002 l = 1 ∨ ν 1002 l = 8 then (if aAnd (rsF 0 r) (aXor x (-1)) = 0 then (if aAnd y x = 0 then Bi_isPlain_L18 fu b (aOr x y) (f + m) (l + 1) μ else some (0, μ)) else some (0, μ)) else some (0, μ) := by
      show Bi_isPlain_L18_b (Bi_isPlain_L18 fu) b x (f + m) l μ = _
      unfold Bi_isPlain_L18_b Bi_isPlain_B69
      rw [if_pos hL, q_gd_s (bO0 hbo), q_gd_s (bO2 hbo), e2, bat2 hbo, if_pos l0, q_bd_s, y1, q_bd_s, hkd.1, q_gd_s (bO0 hbo), q_gd_s (bO2 hbo), tr.2.1, q_bd_s, w32_i (x := l + 1) (by omega) (by omega)]
      by_cases c0 : ν 1002 l = 0
      · rw [if_pos c0, if_pos (Or.inl c0)]
      rw [if_neg c0]
      by_cases c1 : ν 1002 l = 1
      · rw [if_pos c1, if_pos (Or.inr (Or.inl c1))]
      rw [if_neg c1]
      by_cases c8 : ν 1002 l = 8
      · rw [if_pos c8, if_pos (Or.inr (Or.inr c8))]
      · rw [if_neg c8, if_neg (by omega)]
    -- the reference
    have ll : M_lastLine v ν = some (f + m - 1, ν) := last_s (by omega) (by rw [r15.2, r16.2]) (by omega)
    have eM : M_isPlain_L9 (fu' + 1) v x l ν = if ν 1002 l = 0 ∨ ν 1002 l = 1 ∨ ν 1002 l = 8 then M_isPlain_L53 (M_isPlain_L9 fu') am_FU v x l 0 ν else some (0, ν) := by
      show M_isPlain_L9_b (M_isPlain_L9 fu') v x l ν = _
      unfold M_isPlain_L9_b M_isPlain_B50
      rw [ll, q_bd_s, if_pos (by omega), q_ld_s (by omega) (by omega)]
      by_cases c0 : ν 1002 l = 0
      · rw [if_pos c0, if_pos (Or.inl c0)]
      rw [if_neg c0, q_ld_s (by omega) (by omega)]
      by_cases c1 : ν 1002 l = 1
      · rw [if_pos c1, if_pos (Or.inr (Or.inl c1))]
      rw [if_neg c1, q_ld_s (by omega) (by omega)]
      by_cases c8 : ν 1002 l = 8
      · rw [if_pos c8, if_pos (Or.inr (Or.inr c8))]
      · rw [if_neg c8, if_neg (by omega)]
    rw [eC, eM]
    by_cases kk : ν 1002 l = 0 ∨ ν 1002 l = 1 ∨ ν 1002 l = 8
    rotate_left
    · rw [if_neg kk, if_neg kk]; exact Or.inl ⟨rfl, rfl⟩
    rw [if_pos kk, if_pos kk]
    rcases reads10_L (x := x) (v := v) (k9 := M_isPlain_L9 fu') l0 ck.rl 10 am_FU 0 (by omega) (by omega) (by omega) with ⟨b1, b2⟩ | ⟨⟨s, s1, s2, s3, s4⟩, b2⟩
    rotate_left
    · rw [b2, if_neg (fun z => by
        have := sub_0.mp z s s1 (by omega) ((hT s s1 s2).mpr s3)
        rw [s4] at this
        cases this)]
      exact Or.inl ⟨rfl, rfl⟩
    have rin : ∀ s, s ∈ r → 0 ≤ s ∧ s < l - f := fun s hs => by
      have s0 := ck.rl.sl s hs
      exact ⟨s0.1, (hb s s0.1 s0.2).mp (b1 s s0.1 s0.2 hs)⟩
    have cR : aAnd (rsF 0 r) (aXor x (-1)) = 0 := sub_0.mpr (fun s p q z => by
      by_cases c : s < 10
      · exact b1 s p c ((hT s p c).mp z)
      · rw [S10_hi hS (by omega)] at z; cases z)
    rw [if_pos cR, b2, q_ld_s (by omega) (by omega)]
    have be1 : ν 1004 l = -1 := by omega
    by_cases c8 : ν 1002 l = 8
    · -- give
      have la1 : ν 1003 l = -1 := by omega
      have le := k8.mp c8
      have y0 : ∀ s, 0 ≤ s → s < 10 → tb y s = false := fun s p q => by
        cases t : tb y s with
        | false => rfl
        | true =>
          have := (y3 s p q).mp t
          omega
      have cy : aAnd y x = 0 := and_0.mpr (fun s p q z => by
        by_cases c : s < 10
        · rw [y0 s p c] at z; cases z
        · rw [S10_hi y2 (by omega)] at z; cases z)
      rw [if_pos cy, if_pos (show ν 1003 l < 0 by omega)]
      unfold M_isPlain_B112 M_isPlain_B134
      rw [q_ld_s (by omega) (by omega), if_pos (show ν 1003 l < 0 by omega), w32_i (x := l + 1) (by omega) (by omega)]
      have ee : l + 1 = f + m := by omega
      match fu, fu', hfu, hfu' with
      | 0, _, hfu, _ => omega
      | _, 0, _, hfu' => omega
      | fu + 1, fu' + 1, _, _ =>
      refine Or.inr ⟨?_, ?_, ?_, ?_⟩
      · show Bi_isPlain_L18_b (Bi_isPlain_L18 fu) b _ (f + m) (l + 1) μ = _
        unfold Bi_isPlain_L18_b
        rw [if_neg (by omega)]
      · show M_isPlain_L9_b (M_isPlain_L9 fu') v _ (l + 1) ν = _
        unfold M_isPlain_L9_b
        rw [ll, q_bd_s, if_neg (by omega)]
      · rw [← le]; exact ⟨⟨p10, pσ⟩, p2, p3, p4⟩
      · rw [← le, eR]
        intro s hs
        have := rin s hs
        omega
    · -- take, let
      have la0 : 0 ≤ ν 1003 l := by omega
      have lt1 : l < f + m - 1 := by omega
      have LQla := a2.la
      have LQns := a2.ns
      have LQn0 := a2.n0
      rw [el] at LQla LQns LQn0
      have laσ := LQla (by omega)
      have laS := a1.la
      rw [el] at laS
      rw [if_neg (show ¬ ν 1003 l < 0 by omega), q_ld_s (by omega) (by omega), bit_1 la0 (by omega)]
      by_cases ct : tb x (ν 1003 l) = true
      · rw [if_pos ct, if_pos rfl, if_neg (fun z => by
          have := and_0.mp z (ν 1003 l) la0 (by omega) ((y3 _ la0 (by omega)).mpr (Or.inl rfl))
          rw [ct] at this
          cases this)]
        exact Or.inl ⟨rfl, rfl⟩
      have lae : ν 1003 l = l - f := by
        have : ¬ ν 1003 l < l - f := fun z => ct ((hb _ la0 (by omega)).mpr z)
        omega
      have cy : aAnd y x = 0 := and_0.mpr (fun s p q z => by
        by_cases c : s < 10
        · have := (y3 s p c).mp z
          have e : s = ν 1003 l := by omega
          rw [e]
          cases t : tb x (ν 1003 l) with
          | false => rfl
          | true => exact absurd t ct
        · rw [S10_hi y2 (by omega)] at z; cases z)
      rw [if_neg ct, if_pos cy, if_neg (show ¬ (0 : Int) = 1 by decide)]
      unfold M_isPlain_B112 M_isPlain_B134
      rw [q_ld_s (by omega) (by omega), if_neg (show ¬ ν 1003 l < 0 by omega), q_ld_s (by omega) (by omega), w32_i (x := l + 1) (by omega) (by omega)]
      have ey : y = aShl 1 (ν 1003 l) := S10_eq y2 (S10_shl la0 hla.2.2) (fun s p q => by
        rw [y3 s p q, tb_shl la0 (by omega) p (by omega), decide_eq_true_eq]
        omega)
      rw [ey]
      have σ1 : σ (l + 1) = l + 1 - f := by
        have low : l - f < σ (l + 1) := by omega
        have up : ∀ z, l - f ≤ z → z < σ (l + 1) → z = l - f := by
          intro z z0 z1
          by_cases c0 : ν 1002 l = 0
          · rw [LQn0 c0 z (by omega) z1, lae]
          · rcases LQns (by omega) z (by omega) z1 with q | ⟨i, i0, i1, i2⟩
            · rw [q, lae]
            · rcases ck.rl.re with ⟨hE', ⟨L, e1, e2', e3, e4, e5, e6⟩, -⟩ | ⟨hE', -⟩
              · have hm : 1 + z ∈ L := by
                  have := fsg_get L (ν 1010 l) i e1 i0 (by omega)
                  rw [i2] at this
                  exact this
                have hz9 : z ≤ 9 := by have hsx := w.sx; have hmo := LQ_mono w (l + 1) (by omega) (by omega); omega
                have : z ∈ r := by rw [← e3]; exact (nmL_in L z).mpr ⟨hm, by omega, hz9⟩
                have := rin z this
                omega
              · exact absurd (show hE (ν 1002 l) by unfold hE; omega) hE'
        by_cases c : l + 1 - f < σ (l + 1)
        · have := up (l + 1 - f) (by omega) c
          omega
        · omega
      have hl10 : l + 1 - f ≤ 10 := by
        have hs := w.sn
        have hsx := w.sx
        have hmono := LQ_mono w (l + 1) (by omega) (by omega)
        omega
      refine plain_L h hv w hfm j fu fu' (l + 1) _ (by omega) (by omega) (by omega) (by omega) (by omega) ⟨⟨hl10, σ1⟩, fun i i0 i1 => ?_, fun z z0 z1 => ?_, fun z s z0 z1 hs => ?_⟩ (S10_or hx (S10_shl la0 hla.2.2)) (fun s p q => ?_)
      · by_cases y : i = l - f
        · have e : f + i = l := by omega
          rw [e, lae, y]
        · exact p2 i i0 (by omega)
      · by_cases y : z = l
        · rw [y]; omega
        · exact p3 z z0 (by omega)
      · by_cases y : z = l
        · rw [y] at hs ⊢
          rw [eR] at hs
          exact rin s hs
        · exact p4 z s z0 (by omega) hs
      · rw [lay_tb ⟨la0, hla.2.2⟩ p q, hb s p q, lae]
        omega
theorem isPlain_s {b B W n v : Int} {Wn : Int → Int} {μ ν : am_M} (h : TB b B W n Wn μ ν) (hv : 0 ≤ v ∧ v < B) : ∃ e, Bi_isPlain b v μ = some (e, μ) ∧ M_isPlain v ν = some (e, ν) ∧ (e = 0 ∨ (e = 1 ∧ PL b (ν 1017 v) (ν 1017 v + ν 1018 v) (ν 1019 v) (ν 1018 v - ν 1019 v - 1) μ ν ∧ ν 1020 v = ν 1018 v - 1)) := by
  have hFU := am_FU_ge
  have bi := BI_of h hv
  have hB := h.cB
  have hn := h.cn
  have hW := h.cW
  have hfn := bi.fn
  have htt := bi.tt
  obtain ⟨f, m, t, S, σ, e, w⟩ := h.bw v hv.1 hv.2
  have e0 : (0 : Int) + v = v := by omega
  have r15 := w.r15
  have r16 := w.r16
  have r17 := w.r17
  have r18 := w.r18
  rw [e0] at r15 r16 r17 r18
  have hbh := behind_s bi
  have eC : Bi_isPlain b v μ = Bi_isPlain_L18 am_FU b 0 (f + m) f μ := by
    unfold Bi_isPlain
    rw [q_gd_s (bO0 h.bo), hbh, q_bd_s, bat15 h.bo, if_pos (by omega), q_bd_s, r15.1, r15.2, r16.2]
  have eM : M_isPlain v ν = M_isPlain_L9 am_FU v 0 f ν := by
    unfold M_isPlain
    rw [q_ld_s (by omega) (by omega), r15.2]
  rw [eC, eM]
  rcases plain_L h hv w e m.toNat am_FU am_FU f 0 (by omega) (Int.le_refl _) (by omega) (by omega) (by omega) ⟨⟨by omega, by rw [w.s0]; omega⟩, fun j p q => by omega, fun x p q => by omega, fun x s p q => by omega⟩ S10_0 (fun s p q => by rw [tb_0]; exact ⟨fun z => (by cases z), fun z => by omega⟩) with ⟨a1, a2⟩ | ⟨a1, a2, ⟨⟨p10, pσ⟩, p2, p3, p4⟩, a4⟩
  · exact ⟨0, a1, a2, Or.inl rfl⟩
  refine ⟨1, a1, a2, Or.inr ⟨rfl, ?_, ?_⟩⟩
  · have gv := w.gv
    have eg : (0 : Int) + (f + m - 1) = f + m - 1 := by omega
    rw [eg] at gv
    obtain ⟨nb, bk⟩ := wZ_of w.bk
    have I := blk_i nb 3 _ _ bk
    have cks : ∀ l, f ≤ l → l < f + m → CKC b l (RR b μ l) μ ν := fun l p q => by
      obtain ⟨S', u', a0, a⟩ := h.al l (by omega) (by omega)
      obtain ⟨r, ck⟩ := CKC_of a (by omega) a0 (by omega) h.wv
      rw [RR_of ck.rl]
      exact ck
    have tk : ∀ j, 0 ≤ j → j < t → ν 1002 (f + j) = 0 := fun j p q => by
      have := (w.tk j p q).1
      have e1 : (0 : Int) + (f + j) = f + j := by omega
      rw [e1] at this
      exact this
    rw [r15.2, r16.2, r17.2]
    refine (PL.mk (bo := h.bo) (F0 := by omega) (t0 := by omega) (N0 := by omega) (NE := by omega) (ck := cks) (k0 := tk) (k1 := fun k p q => ?_) (k8 := gv) (la := fun j p q => p2 j p (by omega)) (rd := fun l s p q hs => ?_) (r0 := fun j p q => ?_))
    · have x : 1 ≤ ν 1002 (f + t + k) ∧ ν 1002 (f + t + k) ≤ 7 := (I (f + t + k) (by omega) (by omega)).1
      have := p3 (f + t + k) (by omega) (by omega)
      omega
    · by_cases y : l = f + m - 1
      · rw [y] at hs ⊢
        have := a4 s hs
        omega
      · exact p4 l s p (by omega) hs
    · obtain ⟨S', u', a0, a⟩ := h.al (f + j) (by omega) (by omega)
      have ne := a.ne
      have e1 : (0 : Int) + (f + j) = f + j := by omega
      rw [e1] at ne
      have k0 := tk j p q
      have y1 := (ne (by unfold hE; omega)).1
      have y2 : nS (ν 1002 (f + j)) u' = 0 := by unfold nS; rw [if_neg (by omega), if_neg (by omega)]
      obtain ⟨C, d1, d2, d3, -⟩ := (cks (f + j) (by omega) (by omega)).rl.cl
      have : C = [] := List.length_eq_zero_iff.mp (by omega)
      rw [this] at d3
      exact d3.symm
  · -- slips
    rw [r18.2, r16.2]
    obtain ⟨u, a1', a2'⟩ := w.ln (f + m - 1) (by omega) (by omega)
    have eg : (0 : Int) + (f + m - 1) = f + m - 1 := by omega
    have gv := w.gv
    have LQns := a2'.ns
    rw [eg] at gv LQns
    have ss := a2'.ss
    have e1 : f + m - 1 + 1 = f + m := by omega
    rw [e1] at LQns ss
    rw [w.sn] at LQns ss
    have la1 : ν 1003 (f + m - 1) = -1 := by
      have sl := a1'.sl
      have la := a1'.la
      rw [eg] at sl la
      omega
    by_cases c : m - 1 < S
    · obtain ⟨S', u', a0, a⟩ := h.al (f + m - 1) (by omega) (by omega)
      obtain ⟨r, ck⟩ := CKC_of a (by omega) a0 (by omega) h.wv
      rcases LQns (by omega) (m - 1) (by omega) c with q | ⟨i, i0, i1, i2⟩
      · omega
      · rcases ck.rl.re with ⟨hE', ⟨L, e1, e2', e3, e4, e5, e6⟩, -⟩ | ⟨hE', -⟩
        · have hm : 1 + (m - 1) ∈ L := by
            have := fsg_get L (ν 1010 (f + m - 1)) i e1 i0 (by omega)
            rw [i2] at this
            exact this
          have hsx := w.sx
          have : m - 1 ∈ r := by rw [← e3]; exact (nmL_in L (m - 1)).mpr ⟨hm, by omega, by omega⟩
          have := a4 (m - 1) (by rw [RR_of ck.rl]; exact this)
          omega
        · exact absurd (show hE (ν 1002 (f + m - 1)) by unfold hE; omega) hE'
    · have := LQ_mono w (f + m - 1) (by omega) (by omega)
      omega
theorem plain_p {b B W n v : Int} {Wn : Int → Int} {μ ν : am_M} (h8 : μ 0 8 = b) (h : TB b B W n Wn μ ν) : ∃ r, X_plain v μ = some (r, μ) ∧ M_plain v ν = some (r, m_st ν 1000 0 0) := by
  have hbo := h.bo
  have tb1 := h.z (i := 0) (v := 0)
  have hB := tb1.cB
  unfold X_plain M_plain
  rw [h8, q_gd_s (bO0 hbo), q_pf_d]
  generalize m_st ν 1000 0 0 = ν1 at *
  rw [has_s hbo hB.1, isBill_p hB.2.1, q_bd_s, q_bd_s]
  by_cases c : 0 ≤ v ∧ v < B
  rotate_left
  · rw [if_pos (if_neg c), if_pos (if_neg c)]; exact ⟨_, rfl, rfl⟩
  have hz : (if 0 ≤ v ∧ v < B then (1 : Int) else 0) = 1 := if_pos c
  obtain ⟨e, a1, a2, a3⟩ := isPlain_s tb1 c
  rw [hz, if_neg (show ¬ (1 : Int) = 0 by decide), if_neg (show ¬ (1 : Int) = 0 by decide), h8, q_gd_s (bO0 hbo), a1, a2, q_bd_s, q_bd_s]
  by_cases z : e = 0
  · rw [if_pos z, if_pos z]; exact ⟨_, rfl, rfl⟩
  · rw [if_neg z, if_neg z]; exact ⟨_, rfl, rfl⟩
