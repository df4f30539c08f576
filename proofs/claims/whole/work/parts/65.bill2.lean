/-! Heads: a bill, both sides. -/
theorem bilM_c {B cn w : Int} {ν ν1 : am_M} {c i : Int} (h : ν1 c i = ν c i) : bilM B cn w ν1 c i = bilM B cn w ν c i := by
  unfold bilM
  simp only [m_st_d, h]
theorem bilM_e {B cn : Int} {ν : am_M} (h4 : ν 1013 4 = B) (h5 : ν 1013 5 = cn) (hB : 0 ≤ B ∧ B < 4) (hc : 0 ≤ cn ∧ cn ≤ 60) (k : am_M → am_O) : (q_ld 6 1013 4 ν fun a10 => q_st 4 1016 a10 (ν 1000 7) ν fun μ11 => q_ld 6 1013 4 μ11 fun a12 => q_ld 6 1013 5 μ11 fun a13 => q_st 8 1017 (w32 (4 + a12)) a13 μ11 fun μ14 => q_st 8 1018 (w32 (4 + a12)) 0 μ14 fun μ15 => q_st 8 1019 (w32 (4 + a12)) 0 μ15 fun μ16 => q_st 8 1020 (w32 (4 + a12)) 0 μ16 fun μ17 => q_ld 6 1013 4 μ17 fun a18 => q_st 6 1013 4 (w32 (a18 + 1)) μ17 fun μ19 => q_pfb 1000 43 1 μ19 fun μ20 => q_pfb 1000 44 0 μ20 fun μ21 => q_pf 1000 45 0 μ21 fun μ22 => k μ22) = k (bilM B cn (ν 1000 7) ν) := by
  have e1 : m_st ν 1016 B (ν 1000 7) 1013 4 = B := by rw [m_st_c (by decide)]; exact h4
  have e2 : m_st ν 1016 B (ν 1000 7) 1013 5 = cn := by rw [m_st_c (by decide)]; exact h5
  have e3 : m_st (m_st (m_st (m_st (m_st ν 1016 B (ν 1000 7)) 1017 (4 + B) cn) 1018 (4 + B) 0) 1019 (4 + B) 0) 1020 (4 + B) 0 1013 4 = B := by rw [m_st_c (by decide), m_st_c (by decide), m_st_c (by decide), m_st_c (by decide)]; exact e1
  rw [q_ld_s (by decide) (by decide), h4, q_st_s (by omega) (by omega), q_ld_s (by decide) (by decide), e1, q_ld_s (by decide) (by decide), e2, w32_i (x := 4 + B) (by omega) (by omega), q_st_s (by omega) (by omega), q_st_s (by omega) (by omega), q_st_s (by omega) (by omega), q_st_s (by omega) (by omega), q_ld_s (by decide) (by decide), e3, w32_i (x := B + 1) (by omega) (by omega), q_st_s (by omega) (by omega), q_pfb_1, q_pfb_0, q_pf_d]
  rfl
set_option maxHeartbeats 2000000 in
theorem bill_s {b B W : Int} {Wn : Int → Int} {μ ν : am_M} (hb : bOk b) (h : PB b B W Wn μ ν) (hf : FB b W B (ν 1013 5) Wn μ ν) (hcl : ν 1000 43 = 0) (hK : μ 10 5 = 110) : RES b μ ν (fun μ' ν' => PS b (B + 1) W Wn μ' ν' ∧ ν' 1013 5 = ν 1013 5) (fun K => q_bd (Rd_readHead μ) fun _ x => K x) (M_readsBill ν) := by
  have hb' : b = 100 ∨ b = 200 := hb
  have hcB := h.cB
  have hB0 := h.nw.b0
  have hbc := h.nw.bc
  have hc6 := h.c6
  have eH : Rd_readHead μ = Rd_readHead_B53 0 μ := by
    unfold Rd_readHead
    rw [if_neg (by omega)]
    unfold Rd_readHead_B26 Rd_readHead_B27
    rw [if_pos rfl, if_pos hK]
  unfold M_readsBill
  rw [if_pos hcl, q_ld_s (by decide) (by decide), hcB]
  by_cases c4 : B = 4
  · rw [if_pos c4]
    refine RES_f h.tr h.rd.rf (by decide : (1 : Int) ≤ 5 ∧ (5 : Int) ≤ 5) (fun K => ?_) rfl FA.rf FN.rf
    have hf := (fail_s (k := 5) h.tr h.rd.rf (by decide)).1
    rw [eH]
    unfold Rd_readHead_B53 Rd_readHead_B82
    rw [if_pos rfl, h.rd.rb, q_gd_s (bO0 hb), if_neg (by omega), hf, q_bd_s, q_bd_s]
  rw [if_neg c4]
  have eH2 : Rd_readHead μ = Rd_readHead_B91 0 μ := by
    rw [eH]
    unfold Rd_readHead_B53
    rw [if_pos rfl, h.rd.rb, q_gd_s (bO0 hb), if_pos (by omega)]
  obtain ⟨μ1, ν1, a1, a2, a3, a4, a5, a6, a7⟩ := TR_adv h.tr.base
  have hl1 := h.tr.lst (fun z => by have := (tkN h.tr).2.1.mp z; omega)
  have rd1 : RD b μ1 := h.rd.cong (fun i z => by rw [a4 _ _ (by decide)])
  have nw1 : NW b μ1 ν1 := h.nw.cong (fun c i z => by rw [a4 _ _ (by omega)]) (fun c i z => by rw [a5 _ _ (by omega)])
  rw [a2, q_bd_s, isKp a3, q_bd_s]
  have eH3 : ∀ K : am_M → am_O, (q_bd (Rd_readHead μ) fun _ x => K x) = q_bd (q_bd (Rd_readNewName μ1) fun a3 μ4 => if a3 = 0 then (some (0, μ4)) else (q_bd (Rd_endHead 0 (μ1 10 7) μ4) fun a5 μ6 => some (0, μ6))) fun _ x => K x := by
    intro K
    rw [eH2]
    unfold Rd_readHead_B91
    rw [a1, q_bd_s]
  obtain ⟨n1, n2, n3⟩ := newName_s hb a3 rd1 nw1
  by_cases c2 : μ1 10 5 = 2
  rotate_left
  · rw [if_neg c2, if_neg (by decide)]
    refine RES_f a3 rd1.rf (by decide : (1 : Int) ≤ 1 ∧ (1 : Int) ≤ 5) (fun K => ?_) rfl (FA_10 a4) (FN_t a5)
    show (q_bd (Rd_readHead μ) fun _ x => K x) = _
    rw [eH3, n1 c2, q_bd_s, if_pos rfl, q_bd_s]
  have hk := (tkN a3).2.2 c2
  have hwf := wf_s hb a3 nw1 hk
  have hbf := bf_s hb a3 nw1 hk
  have ec4 : ν1 1013 4 = B := by rw [a5 _ _ (by omega)]; exact hcB
  have ec5 : ν1 1013 5 = ν 1013 5 := a5 _ _ (by omega)
  have hw1 := nw1.w0
  have hwr : wf ν1 = -1 ∨ (0 ≤ wf ν1 ∧ wf ν1 < ν1 1013 3) := ft_r (by omega)
  have hbr : bf ν1 = -1 ∨ (0 ≤ bf ν1 ∧ bf ν1 < ν1 1013 4) := ft_r (by omega)
  rw [if_pos c2, if_pos rfl, hwf.2, q_bd_s]
  have f3 : (wf ν1 ≠ -1 ∨ bf ν1 ≠ -1) → RES b μ ν (fun μ' ν' => PS b (B + 1) W Wn μ' ν' ∧ ν' 1013 5 = ν 1013 5) (fun K => q_bd (Rd_readHead μ) fun _ x => K x) (M_readsBill_B60 ν1) := by
    intro z
    refine RES_f a3 rd1.rf (by decide : (1 : Int) ≤ 3 ∧ (3 : Int) ≤ 5) (fun K => ?_) rfl (FA_10 a4) (FN_t a5)
    show (q_bd (Rd_readHead μ) fun _ x => K x) = _
    rw [eH3, n2 c2 z, q_bd_s, if_pos rfl, q_bd_s]
  by_cases c3 : wf ν1 = -1
  rotate_left
  · rw [if_neg (show ¬ wf ν1 < 0 by omega)]
    exact f3 (Or.inl c3)
  rw [if_pos (show wf ν1 < 0 by omega), hbf.2, q_bd_s]
  by_cases c5 : bf ν1 = -1
  rotate_left
  · rw [if_neg (show ¬ bf ν1 < 0 by omega)]
    exact f3 (Or.inr c5)
  rw [if_pos (show bf ν1 < 0 by omega), bilM_e ec4 ec5 (by omega) hc6]
  have hnam := a3.nam hk
  have trB : TR μ1 (bilM B (ν 1013 5) (ν1 1000 7) ν1) := a3.cong (fun _ _ _ => rfl) (fun c i z => bilM_f c i (by clear a4 a5; omega))
  have vB := (bilM_v (B := B) (cn := ν 1013 5) (w := ν1 1000 7) (ν := ν1)).1
  have cB : ∀ c i, ¬ (c = 1000 ∧ 4 ≤ i ∧ i ≤ 8) → bilM B (ν 1013 5) (ν1 1000 7) ν1 c i = bilM B (ν 1013 5) (ν1 1000 7) ν c i := fun c i z => bilM_c (a5 c i z)
  have fnB : FN ν (bilM B (ν 1013 5) (ν1 1000 7) ν1) := (FN_t a5).tr (fun c i z => bilM_f c i (by omega))
  generalize bilM B (ν 1013 5) (ν1 1000 7) ν1 = νB at *
  obtain ⟨μ2, ν2, b1, b2, b3, b4, b5, b6, b7⟩ := TR_adv trB.base
  have rf2 : μ2 20 10 = 0 := by rw [b4 _ _ (by decide)]; exact rd1.rf
  rw [b2, q_bd_s]
  obtain ⟨r, μ4, ν4, g1, g2, g3⟩ := ends_s b3 rf2
  rw [g2, q_bd_s]
  have eH4 : ∀ K : am_M → am_O, (q_bd (Rd_readHead μ) fun _ x => K x) = q_bd (q_bd (Rd_endHead 0 (μ1 10 7) μ2) fun a5 μ6 => some (0, μ6)) fun _ x => K x := by
    intro K
    rw [eH3, n3 c2 c3 c5, b1, q_bd_s, q_bd_s, if_neg (by decide)]
  rcases g3 with ⟨z1, z2, za, zb⟩ | ⟨z1, z2, z3, z4, z5⟩
  · subst z1
    refine ⟨μ4, fun K => ?_, ((FA_10 a4).tr (FA_10 b4)).tr (FA_f za), ν4, (fnB.tr (FN_t b5)).tr (FN_f zb), Or.inl ⟨q_rb0, z2⟩⟩
    show (q_bd (Rd_readHead μ) fun _ x => K x) = _
    rw [eH4]
    unfold Rd_endHead
    rw [if_pos rfl, g1, q_bd_s, if_pos rfl, q_bd_s, q_bd_s]
  · subst z1
    have m4 : ∀ c i, c ≠ 10 → μ4 c i = μ c i := fun c i z => by rw [z3 c i z, b4 c i z, a4 c i z]
    have n16 : ν4 1016 B = ν1 1000 7 := by rw [z4 _ _ (fun z => absurd z.1 (by decide)), b5 _ _ (fun z => absurd z.1 (by decide))]; exact vB
    have n4 : ∀ c i, ¬ (c = 1000 ∧ 4 ≤ i ∧ i ≤ 8) → ν4 c i = bilM B (ν 1013 5) (ν4 1016 B) ν c i := fun c i z => by rw [n16, z4 c i z, b5 c i z, cB c i z]
    have t2 := a3.be1
    have t3 := b3.be1
    have hX := addBill_s (B := B) (cn := ν 1013 5) (w := μ1 10 7) (μ := μ4) hb (by rw [m4 _ _ (by omega)]; omega) (by omega) (by rw [m4 _ _ (by omega)]; exact h.cn) (by rw [m4 _ _ (by decide)]; exact h.rd.rb)
    refine ⟨bilX b B (ν 1013 5) (μ1 10 7) μ4, fun K => ?_, (FA_10 m4).tr (fun c i z => bilX_f c i (by clear a4 a5 b4 b5 z3 z4 m4 n4 cB fnB; omega)), ν4, (fnB.tr (FN_t b5)).tr (FN_t z4), Or.inr ⟨q_rb1, ?_⟩⟩
    · show (q_bd (Rd_readHead μ) fun _ x => K x) = _
      rw [eH4]
      unfold Rd_endHead
      rw [if_pos rfl, g1, q_bd_s, if_neg (by decide), hX, q_bd_s, q_bd_s]
    · have h43 : μ 10 3 ≤ μ4 10 3 := by clear a4 a5 b4 b5 z3 z4 m4 n4 cB fnB; omega
      exact bill_ps (ν3 := ν4) hb h hf (by clear a4 a5 b4 b5 z3 z4 m4 n4 cB fnB; omega) (z2.cong (fun c i z => bilX_f c i (by clear a4 a5 b4 b5 z3 z4 m4 n4 cB fnB; omega)) (fun _ _ _ => rfl)) m4 rfl n4 (by rw [n16]; exact hnam) h43
