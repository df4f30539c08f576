/-! The machine, both sides: a bill is opened. -/
def tset (t : Int) : Int := w32 (aShl 1 t - 1)
theorem tset_all : ∀ t : Fin 5, (0 ≤ tset (t.val : Int) ∧ tset (t.val : Int) < 1024) ∧ ∀ s : Fin 10, tb (tset (t.val : Int)) (s.val : Int) = decide ((s.val : Int) < (t.val : Int)) := by decide +kernel
theorem tset_s {t : Int} (h : 0 ≤ t ∧ t ≤ 4) : S10 (tset t) ∧ ∀ s, 0 ≤ s → s < 10 → (tb (tset t) s = true ↔ s < t) := by
  obtain ⟨a1, a2⟩ := tset_all ⟨t.toNat, by omega⟩
  have et : ((t.toNat : Nat) : Int) = t := by omega
  simp only [et] at a1 a2
  refine ⟨a1, fun s p q => ?_⟩
  have := a2 ⟨s.toNat, by omega⟩
  have es : ((s.toNat : Nat) : Int) = s := by omega
  simp only [es] at this
  rw [this, decide_eq_true_eq]
theorem enter_s {b B c d k : Int} {μ ν : am_M} (hc : mOk c) (hd : 0 ≤ d ∧ d < 16) (h : BI b B k μ ν) (h5 : μ c 5 = d) : ∃ μ', Mc_enter c b k μ = some (0, μ') ∧ μ' (c + 1) d = ν 1017 k + ν 1019 k ∧ μ' (c + 2) d = tset (ν 1019 k) ∧ μ' c 5 = d + 1 ∧ (∀ y i, ¬ (y = c + 1 ∧ i = d) → ¬ (y = c + 2 ∧ i = d) → ¬ (y = c ∧ i = 5) → μ' y i = μ y i) := by
  have hk := h.kk
  have hfn := h.fn
  have htt := h.tt
  have hr := hc.r
  have hb' : b = 100 ∨ b = 200 := h.bo
  refine ⟨m_st (m_st (m_st μ (c + 1) d (ν 1017 k + ν 1019 k)) (c + 2) d (tset (ν 1019 k))) c 5 (d + 1), ?_, by rw [m_st_c (by omega), m_st_c (by omega), m_st_d, if_pos ⟨rfl, rfl⟩], by rw [m_st_c (by omega), m_st_d, if_pos ⟨rfl, rfl⟩], by rw [m_st_d, if_pos ⟨rfl, rfl⟩], fun y i p q w => by rw [m_st_d, if_neg w, m_st_d, if_neg q, m_st_d, if_neg p]⟩
  have e1 : ∀ v, m_st μ (c + 1) d v c 5 = d := fun v => by rw [m_st_c (by omega)]; exact h5
  have e2 : ∀ v w, m_st (m_st μ (c + 1) d v) (c + 2) d w c 5 = d := fun v w => by rw [m_st_c (by omega), m_st_c (by omega)]; exact h5
  unfold Mc_enter
  rw [q_gd_s (bO0 h.bo), bat17 h.bo, if_pos (by omega), q_bd_s, q_gd_s (mO3 hc), bat15 h.bo, if_pos (by omega), q_bd_s, h.r15, h.r17, h5, w32_i (x := ν 1017 k + ν 1019 k) (by omega) (by omega), mput1 hc, if_pos (by omega), q_bd_s, e1, mput2 hc, if_pos (by omega), q_bd_s, q_pf_d]
  show some (0, m_st (m_st (m_st μ (c + 1) d (ν 1017 k + ν 1019 k)) (c + 2) d (w32 (aShl 1 (ν 1019 k) - 1))) c 5 (w32 (m_st (m_st μ (c + 1) d (ν 1017 k + ν 1019 k)) (c + 2) d (w32 (aShl 1 (ν 1019 k) - 1)) c 5 + 1))) = _
  rw [e2, w32_i (x := d + 1) (by omega) (by omega)]
  rfl
theorem opens_L {b B d k : Int} (hd : 0 ≤ d ∧ d < 16) : ∀ (n fu : Nat) (i : Int) (μ ν : am_M), BI b B k μ ν → i + n = ν 1019 k → 0 ≤ i → n < fu → ν 1000 58 = d → S10 (ν 1045 d) → ∃ ν', M_opensBill_L44 fu k i ν = some (0, ν') ∧ S10 (ν' 1045 d) ∧ (∀ s, 0 ≤ s → s < 10 → (tb (ν' 1045 d) s = true ↔ tb (ν 1045 d) s = true ∨ (i ≤ s ∧ s < ν 1019 k))) ∧ ν' 1000 58 = d + 1 ∧ (∀ s, i ≤ s → s < ν 1019 k → ν' 1046 (10 * d + s) = ν 1047 s) ∧ (∀ c x, ¬ (c = 1045 ∧ x = d) → ¬ (c = 1046 ∧ 10 * d + i ≤ x ∧ x < 10 * d + ν 1019 k) → ¬ (c = 1000 ∧ x = 58) → ν' c x = ν c x)
  | n, 0, _, _, _, _, _, _, h, _, _ => by omega
  | 0, fu + 1, i, μ, ν, h, hi, h0, _, h58, hs => by
    have hk := h.kk
    refine ⟨m_st ν 1000 58 (d + 1), ?_, by rw [m_st_c (by decide)]; exact hs, fun s p q => by rw [m_st_c (by decide)]; exact ⟨Or.inl, fun z => z.elim (fun w => w) (fun w => by omega)⟩, by rw [m_st_d, if_pos ⟨rfl, rfl⟩], fun s p q => by omega, fun c x _ _ z => by rw [m_st_d, if_neg z]⟩
    show M_opensBill_L44_b (M_opensBill_L44 fu) k i ν = _
    unfold M_opensBill_L44_b
    rw [q_ld_s (by omega) (by omega), if_neg (by omega), q_pf_d, h58, w32_i (x := d + 1) (by omega) (by omega)]
  | n + 1, fu + 1, i, μ, ν, h, hi, h0, hf, h58, hs => by
    have hk := h.kk
    have hfn := h.fn
    have htt := h.tt
    obtain ⟨-, tk⟩ := h.tk i h0 (by omega)
    obtain ⟨ν1, a1, a2, a3, a4⟩ := laysIn_s (f := d) (s := i) (v := ν 1047 i) (ν := ν) hd (by omega)
    have g : ∀ y, 1002 ≤ y → y ≤ 1020 → ν1 y = ν y := fun y p q => funext fun x => a4 y x (by omega) (by omega)
    have e19 : ν1 1019 k = ν 1019 k := by rw [g _ (by decide) (by decide)]
    have h1 : BI b B k μ ν1 := (BI.mk (bo := h.bo) (kk := h.kk) (r15 := by rw [g 1017 (by decide) (by decide)]; exact h.r15) (r16 := by rw [g 1018 (by decide) (by decide)]; exact h.r16) (r17 := by rw [e19]; exact h.r17) (r18 := by rw [g 1020 (by decide) (by decide)]; exact h.r18) (fn := by rw [g 1017 (by decide) (by decide), g 1018 (by decide) (by decide), e19]; exact h.fn) (tt := by rw [e19]; exact h.tt) (sx := by rw [g 1020 (by decide) (by decide)]; exact h.sx) (tk := by rw [e19, g 1017 (by decide) (by decide), g 1002 (by decide) (by decide), g 1003 (by decide) (by decide)]; exact h.tk))
    obtain ⟨ν', b1, b2, b3, b4, b5, b6⟩ := opens_L (b := b) (B := B) hd n fu (i + 1) μ ν1 h1 (by omega) (by omega) (by omega) (by rw [a4 _ _ (by omega) (by omega)]; exact h58) (by rw [a2]; exact S10_or hs (S10_shl h0 (by omega)))
    rw [e19] at b3 b5 b6
    refine ⟨ν', ?_, b2, fun s p q => ?_, b4, fun s p q => ?_, fun c x p q w => by rw [b6 c x p (by omega) w, a4 c x p (by omega)]⟩
    · rw [← b1]
      show M_opensBill_L44_b (M_opensBill_L44 fu) k i ν = _
      unfold M_opensBill_L44_b
      rw [q_ld_s (by omega) (by omega), if_pos (by omega), q_ld_s (by omega) (by omega), w32_i (x := ν 1017 k + i) (by omega) (by omega), q_ld_s (by omega) (by omega), tk, q_ld_s (by omega) (by omega), h58, a1, q_bd_s, w32_i (x := i + 1) (by omega) (by omega)]
    · rw [b3 s p q, a2, lay_tb (by omega) p q]
      constructor
      · rintro ((z | z) | z)
        · exact Or.inl z
        · exact Or.inr (by omega)
        · exact Or.inr (by omega)
      · rintro (z | z)
        · exact Or.inl (Or.inl z)
        · by_cases y : s = i
          · exact Or.inl (Or.inr y)
          · exact Or.inr (by omega)
    · by_cases y : s = i
      · rw [y, b6 _ _ (by omega) (by omega) (by omega)]; exact a3
      · rw [b5 s (by omega) q, a4 _ _ (by omega) (by omega)]
theorem opensB_s {b B d k : Int} {μ ν : am_M} (hd : 0 ≤ d ∧ d < 16) (h : BI b B k μ ν) (h58 : ν 1000 58 = d) : ∃ ν', M_opensBill k ν = some (0, ν') ∧ ν' 1043 d = k ∧ ν' 1044 d = ν 1017 k + ν 1019 k ∧ ν' 1045 d = tset (ν 1019 k) ∧ ν' 1000 58 = d + 1 ∧ (∀ s, 0 ≤ s → s < ν 1019 k → ν' 1046 (10 * d + s) = ν 1047 s) ∧ (∀ c x, ¬ (1043 ≤ c ∧ c ≤ 1045 ∧ x = d) → ¬ (c = 1046 ∧ 10 * d ≤ x ∧ x < 10 * d + 10) → ¬ (c = 1000 ∧ x = 58) → ν' c x = ν c x) := by
  have hFU := am_FU_ge
  have hk := h.kk
  have hfn := h.fn
  have htt := h.tt
  generalize hν1 : m_st (m_st (m_st ν 1043 d k) 1045 d 0) 1044 d (ν 1017 k + ν 1019 k) = ν1
  have f1 : ∀ y i, ¬ (1043 ≤ y ∧ y ≤ 1045 ∧ i = d) → ν1 y i = ν y i := fun y i z => by rw [← hν1, m_st_d, if_neg (by omega), m_st_d, if_neg (by omega), m_st_d, if_neg (by omega)]
  have g : ∀ y, 1002 ≤ y → y ≤ 1020 → ν1 y = ν y := fun y p q => funext fun x => f1 y x (by omega)
  have e19 : ν1 1019 k = ν 1019 k := by rw [g _ (by decide) (by decide)]
  have h1 : BI b B k μ ν1 := (BI.mk (bo := h.bo) (kk := h.kk) (r15 := by rw [g 1017 (by decide) (by decide)]; exact h.r15) (r16 := by rw [g 1018 (by decide) (by decide)]; exact h.r16) (r17 := by rw [e19]; exact h.r17) (r18 := by rw [g 1020 (by decide) (by decide)]; exact h.r18) (fn := by rw [g 1017 (by decide) (by decide), g 1018 (by decide) (by decide), e19]; exact h.fn) (tt := by rw [e19]; exact h.tt) (sx := by rw [g 1020 (by decide) (by decide)]; exact h.sx) (tk := by rw [e19, g 1017 (by decide) (by decide), g 1002 (by decide) (by decide), g 1003 (by decide) (by decide)]; exact h.tk))
  have e45 : ν1 1045 d = 0 := by rw [← hν1, m_st_c (by decide), m_st_d, if_pos ⟨rfl, rfl⟩]
  obtain ⟨ν', b1, b2, b3, b4, b5, b6⟩ := opens_L (b := b) (B := B) hd (ν 1019 k).toNat am_FU 0 μ ν1 h1 (by omega) (by omega) (by omega) (by rw [f1 _ _ (by omega)]; exact h58) (by rw [e45]; exact S10_0)
  rw [e19] at b3 b5 b6
  refine ⟨ν', ?_, by rw [b6 _ _ (by omega) (by omega) (by omega), ← hν1, m_st_c (by decide), m_st_c (by decide), m_st_d, if_pos ⟨rfl, rfl⟩], by rw [b6 _ _ (by omega) (by omega) (by omega), ← hν1, m_st_d, if_pos ⟨rfl, rfl⟩], ?_, b4, fun s p q => by rw [b5 s p q, f1 _ _ (by omega)], fun c x p q w => by rw [b6 c x (by omega) (by omega) w, f1 c x (by omega)]⟩
  · have a1 : ∀ v, m_st ν 1043 d v 1000 58 = d := fun v => by rw [m_st_c (by decide)]; exact h58
    have a2 : ∀ v w, m_st (m_st ν 1043 d v) 1045 d w 1000 58 = d := fun v w => by rw [m_st_c (by decide), m_st_c (by decide)]; exact h58
    have a3 : ∀ v w y i, y ≠ 1043 → y ≠ 1045 → m_st (m_st ν 1043 d v) 1045 d w y i = ν y i := fun v w y i p q => by rw [m_st_c q, m_st_c p]
    unfold M_opensBill
    rw [h58, q_st_s hd.1 hd.2, a1, q_st_s hd.1 hd.2, q_ld_s (by omega) (by omega), q_ld_s (by omega) (by omega), a2, a3 _ _ _ _ (by decide) (by decide), a3 _ _ _ _ (by decide) (by decide), w32_i (x := ν 1017 k + ν 1019 k) (by omega) (by omega), q_st_s hd.1 hd.2, hν1, b1]
  · obtain ⟨t1, t2⟩ := tset_s htt
    refine S10_eq b2 t1 (fun s p q => ?_)
    rw [b3 s p q, t2 s p q, e45, tb_0]
    exact ⟨fun z => z.elim (fun w => by cases w) (fun w => w.2), fun z => Or.inr ⟨p, z⟩⟩
/-- what lies on the table when a bill is opened -/
theorem take_T {b B W n k : Int} {Wn : Int → Int} {T : Int → Int → Prop} {μ ν : am_M} (ht : TB b B W n Wn μ ν) (hk : 0 ≤ k ∧ k < B) (h : TBW b k T μ ν) : ∀ s, 0 ≤ s → s < 10 → (T (ν 1017 k + ν 1019 k) s ↔ s < ν 1019 k) := by
  have bi := BI_of ht hk
  have hfn := bi.fn
  have htt := bi.tt
  obtain ⟨h1, h2, -⟩ := h
  have go : ∀ i : Nat, (i : Int) ≤ ν 1019 k → ∀ s, 0 ≤ s → s < 10 → (T (ν 1017 k + i) s ↔ s < i) := by
    intro i
    induction i with
    | zero =>
      intro _ s p q
      have e : ν 1017 k + ((0 : Nat) : Int) = ν 1017 k := by show ν 1017 k + 0 = _; omega
      rw [e]
      exact ⟨fun z => absurd z (h1 s), fun z => by have e : ((0 : Nat) : Int) = 0 := rfl
                                                   omega⟩
    | succ i ih =>
      intro hi s p q
      have ih := ih (by omega) s p q
      obtain ⟨k0, l0⟩ := bi.tk i (by omega) (by omega)
      obtain ⟨r, c1, -, c3, -⟩ := h2 (ν 1017 k + i) (by omega) (by omega)
      have c3 := c3 (by omega) s p q
      have e : ν 1017 k + ((i + 1 : Nat) : Int) = ν 1017 k + i + 1 := by omega
      have l1 := c1.l0
      obtain ⟨f, m, t, S, σ, e1, w⟩ := ht.bw k hk.1 hk.2
      have ez : (0 : Int) + k = k := by omega
      have r15 := w.r15
      have r16 := w.r16
      rw [ez] at r15 r16
      obtain ⟨S', u', a0, a⟩ := ht.al (ν 1017 k + i) (by omega) (by omega)
      have el : (0 : Int) + (ν 1017 k + i) = ν 1017 k + i := by omega
      have ne := a.ne
      have sb := a.sb
      have be := a.be
      rw [el] at ne sb be
      have y1 := (ne (by unfold hE; omega)).1
      have y2 : nS (ν 1002 (ν 1017 k + i)) u' = 0 := by unfold nS; rw [if_neg (by omega), if_neg (by omega)]
      have rn : r = [] := by
        obtain ⟨C, d1, d2, d3, -⟩ := c1.rl.cl
        have : C = [] := List.length_eq_zero_iff.mp (by omega)
        rw [this] at d3
        exact d3.symm
      have b1 : ν 1004 (ν 1017 k + i) = -1 := by omega
      rw [e, c3, ih, l0, b1, rn]
      constructor
      · rintro (z | z | z)
        · have := z.1; omega
        · omega
        · omega
      · intro z
        by_cases y : s = i
        · exact Or.inr (Or.inl y)
        · exact Or.inl ⟨by omega, by simp⟩
  have e : ((ν 1019 k).toNat : Int) = ν 1019 k := by omega
  have := go (ν 1019 k).toNat (by omega)
  rw [e] at this
  exact this
theorem TBW_of {b B W n k : Int} {Wn : Int → Int} {μ ν : am_M} (h : CD b B W n B Wn μ ν) (hk : 0 ≤ k ∧ k < B) (hs : μ (b + 22) k ≠ 0) : ∃ T, TBW b k T μ ν := by
  have h1 := ((h.sr k hk.1 hk.2).mp hs).1
  obtain ⟨x, ln, s, a1, a2, a3, a4, a5, a6, a7⟩ := h.ck k hk.1 hk.2
  unfold Wr at h1
  have := a4.1
  obtain ⟨-, -, T, t1, t2, t3⟩ := a7 (by omega)
  exact ⟨T, t1, t2, t3⟩
/-- a frame just opened -/
theorem FO_new {b B W n k : Int} {Wn : Int → Int} {w : Prop} {μ ν : am_M} (h : CD b B W n B Wn μ ν) (hk : 0 ≤ k ∧ k < B) (hs : μ (b + 22) k ≠ 0) (hw : ¬ w) : FO b B k (ν 1017 k + ν 1019 k) (tset (ν 1019 k)) w μ ν := by
  have bi := BI_of h.tb hk
  have hfn := bi.fn
  obtain ⟨T, hT⟩ := TBW_of h hk hs
  refine ⟨T, hT, hk, hs, by omega, Or.inl ⟨hw, fun t p q => ?_⟩⟩
  rw [(tset_s bi.tt).2 t p q, take_T h.tb hk hT t p q]
