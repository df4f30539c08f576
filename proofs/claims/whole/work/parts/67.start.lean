/-! The reading from its beginning. -/
def TI (μ ν : am_M) : Prop := (0 ≤ μ 10 2) ∧ (μ 10 2 ≤ 1000) ∧ (ν 1000 1 = μ 10 2) ∧ (ν 1001 = μ 11) ∧ (∀ i, 0 ≤ i → i < 17 → μ 12 i = rsv i)
theorem TI.n0 {μ ν : am_M} (h : TI μ ν) : 0 ≤ μ 10 2 := h.1
theorem TI.n1 {μ ν : am_M} (h : TI μ ν) : μ 10 2 ≤ 1000 := h.2.1
theorem TI.tp {μ ν : am_M} (h : TI μ ν) : ν 1000 1 = μ 10 2 := h.2.2.1
theorem TI.row {μ ν : am_M} (h : TI μ ν) : ν 1001 = μ 11 := h.2.2.2.1
theorem TI.res {μ ν : am_M} (h : TI μ ν) : ∀ i, 0 ≤ i → i < 17 → μ 12 i = rsv i := h.2.2.2.2
theorem TI.mk {μ ν : am_M} (n0 : 0 ≤ μ 10 2) (n1 : μ 10 2 ≤ 1000) (tp : ν 1000 1 = μ 10 2) (row : ν 1001 = μ 11) (res : ∀ i, 0 ≤ i → i < 17 → μ 12 i = rsv i) : TI μ ν := ⟨n0, n1, tp, row, res⟩
theorem rdL2_s {ν : am_M} : M_readsAll ν = (q_pfb 1000 43 0 (m_st (m_st (m_st ν 1013 3 0) 1013 4 0) 1013 5 0) fun μ1 => q_pf 1000 30 1000 μ1 fun μ2 => q_pf 1000 3 (μ2 1000 1) μ2 fun μ3 => q_pf 1000 1 0 μ3 fun μ4 => q_pf 1000 4 0 μ4 fun μ5 => q_bd (M_nextToken μ5) fun a6 μ7 => M_readsAll_L55 am_FU μ7) := by
  have hF : ∃ f, am_FU = f + 4 := ⟨am_FU - 4, by have := am_FU_ge; omega⟩
  obtain ⟨f, hF⟩ := hF
  have st : ∀ (g : Nat) (v : Int) (m : am_M), 0 ≤ v → v < 6 → M_readsAll_L2 (g + 1) v m = M_readsAll_L2 g (v + 1) (m_st m 1013 v 0) := by
    intro g v m h0 h1
    show M_readsAll_L2_b (M_readsAll_L2 g) v m = _
    unfold M_readsAll_L2_b
    rw [if_pos h1, q_st_s h0 h1, w32_i (x := v + 1) (by omega) (by omega)]
  have e : M_readsAll ν = M_readsAll_L2 (f + 4) 3 ν := by rw [← hF]; rfl
  rw [e, st _ _ _ (by decide) (by decide), st _ _ _ (by decide) (by decide), st _ _ _ (by decide) (by decide)]
  show M_readsAll_L2_b (M_readsAll_L2 f) 6 _ = _
  unfold M_readsAll_L2_b
  rw [if_neg (by decide)]
  rfl
set_option maxHeartbeats 1000000 in
theorem reads_s {b : Int} {μ ν : am_M} (hb : bOk b) (h : TI μ ν) : ∃ r μ' ν', Rd_readInto b μ = some (μ' 20 10, μ') ∧ M_readsAll ν = some (r, ν') ∧ ((r = 0 ∧ FL μ' ν') ∨ (r = 1 ∧ μ' 20 10 = 0 ∧ ∃ B W Wn, PS b B W Wn μ' ν' ∧ ν' 1000 43 = 0)) ∧ FA b μ μ' ∧ (∀ c i, ¬ (c = 1000 ∧ (i = 1 ∨ i = 3)) → ¬ ((c = 1000 ∧ ((4 ≤ i ∧ i ≤ 9) ∨ i = 30 ∨ (43 ≤ i ∧ i ≤ 45))) ∨ (1002 ≤ c ∧ c ≤ 1006 ∧ 60 ≤ i) ∨ (c = 1007 ∧ 240 ≤ i) ∨ (1008 ≤ c ∧ c ≤ 1011 ∧ 60 ≤ i) ∨ (c = 1012 ∧ 1000 ≤ i) ∨ (c = 1013 ∧ 3 ≤ i) ∨ c = 1014 ∨ (c = 1015 ∧ 4 ≤ i) ∨ c = 1016 ∨ (1017 ≤ c ∧ c ≤ 1020 ∧ 4 ≤ i) ∨ (1021 ≤ c ∧ c ≤ 1023) ∨ c = 1034 ∨ c = 1035) → ν' c i = ν c i) ∧ ν' 1000 1 = 0 := by
  have hb' : b = 100 ∨ b = 200 := hb
  -- the class's beginning
  have ge : ∀ (m : am_M) (c i v : Int), m_st m c i v c i = v := fun m c i v => by rw [m_st_d, if_pos ⟨rfl, rfl⟩]
  have hX : ∃ μa, Rd_readInto b μ = (q_bd (q_bd (Tp_advance μa) fun _ x => some (0, x)) fun _ x => Rd_readInto_L39 am_FU 0 x) ∧ μa 20 4 = b ∧ μa 20 5 = b + 1 ∧ μa 20 10 = 0 ∧ μa 20 13 = 0 ∧ μa (b + 1) 10 = 0 ∧ μa (b + 1) 11 = 0 ∧ μa b 12 = 0 ∧ μa b 13 = 0 ∧ μa 10 4 = 0 ∧ (∀ c i, ¬ ((c = 20 ∧ (i = 4 ∨ i = 5 ∨ i = 10 ∨ i = 13)) ∨ (c = b + 1 ∧ (i = 10 ∨ i = 11)) ∨ (c = b ∧ (i = 12 ∨ i = 13)) ∨ (c = 10 ∧ i = 4)) → μa c i = μ c i) := by
    refine ⟨m_st (m_st (m_st (m_st (m_st (m_st (m_st (m_st (m_st μ 20 4 b) 20 5 (b + 1)) (b + 1) 10 0) (b + 1) 11 0) b 12 0) b 13 0) 20 10 0) 20 13 0) 10 4 0, ?_, ?_, ?_, ?_, ?_, ?_, ?_, ?_, ?_, ?_, ?_⟩
    · unfold Rd_readInto
      have e1 : m_st (m_st μ 20 4 b) 20 5 (b + 1) 20 4 = b := by rw [m_st_i (by decide), ge]
      rw [q_pf_d, q_gd_s (bO0 hb), q_pf_d, e1, q_gd_s (bO0 hb)]
      unfold Bi_empty Ln_empty
      rw [q_gd_s (bO0 hb), q_gd_s (bO2 hb), q_gd_s (bO2 hb), q_pf_d, q_pf_d, q_bd_s, q_pf_d, q_pf_d, q_bd_s, q_pf_d, q_pfb_0]
      unfold Tp_rewind
      rw [q_pf_d]
    · rw [m_st_c (by decide), m_st_i (by decide), m_st_i (by decide), m_st_c (by omega), m_st_c (by omega), m_st_c (by omega), m_st_c (by omega), m_st_i (by decide), ge]
    · rw [m_st_c (by decide), m_st_i (by decide), m_st_i (by decide), m_st_c (by omega), m_st_c (by omega), m_st_c (by omega), m_st_c (by omega), ge]
    · rw [m_st_c (by decide), m_st_i (by decide), ge]
    · rw [m_st_c (by decide), ge]
    · rw [m_st_c (by omega), m_st_c (by omega), m_st_c (by omega), m_st_c (by omega), m_st_c (by omega), m_st_i (by decide), ge]
    · rw [m_st_c (by omega), m_st_c (by omega), m_st_c (by omega), m_st_c (by omega), m_st_c (by omega), ge]
    · rw [m_st_c (by omega), m_st_c (by omega), m_st_c (by omega), m_st_i (by decide), ge]
    · rw [m_st_c (by omega), m_st_c (by omega), m_st_c (by omega), ge]
    · rw [ge]
    · intro c i z
      rw [m_st_d, if_neg (by omega), m_st_d, if_neg (by omega), m_st_d, if_neg (by omega), m_st_d, if_neg (by omega), m_st_d, if_neg (by omega), m_st_d, if_neg (by omega), m_st_d, if_neg (by omega), m_st_d, if_neg (by omega), m_st_d, if_neg (by omega)]
  obtain ⟨μa, x0, x1, x2, x3, x4, x5, x6, x7, x8, x9, x10⟩ := hX
  -- the reference's
  have hY : ∃ νa, M_readsAll ν = (q_bd (M_nextToken νa) fun _ y => M_readsAll_L55 am_FU y) ∧ νa 1013 3 = 0 ∧ νa 1013 4 = 0 ∧ νa 1013 5 = 0 ∧ νa 1000 43 = 0 ∧ νa 1000 30 = 1000 ∧ νa 1000 3 = ν 1000 1 ∧ νa 1000 1 = 0 ∧ νa 1000 4 = 0 ∧ (∀ c i, ¬ ((c = 1013 ∧ (i = 3 ∨ i = 4 ∨ i = 5)) ∨ (c = 1000 ∧ (i = 43 ∨ i = 30 ∨ i = 3 ∨ i = 1 ∨ i = 4))) → νa c i = ν c i) := by
    have e1 : m_st (m_st (m_st (m_st (m_st ν 1013 3 0) 1013 4 0) 1013 5 0) 1000 43 0) 1000 30 1000 1000 1 = ν 1000 1 := rfl
    refine ⟨m_st (m_st (m_st (m_st (m_st (m_st (m_st (m_st ν 1013 3 0) 1013 4 0) 1013 5 0) 1000 43 0) 1000 30 1000) 1000 3 (ν 1000 1)) 1000 1 0) 1000 4 0, ?_, rfl, rfl, rfl, rfl, rfl, rfl, rfl, rfl, ?_⟩
    · rw [rdL2_s, q_pfb_0, q_pf_d, e1, q_pf_d, q_pf_d, q_pf_d]
    · intro c i z
      rw [m_st_d, if_neg (by omega), m_st_d, if_neg (by omega), m_st_d, if_neg (by omega), m_st_d, if_neg (by omega), m_st_d, if_neg (by omega), m_st_d, if_neg (by omega), m_st_d, if_neg (by omega), m_st_d, if_neg (by omega)]
  obtain ⟨νa, y0, y1, y2, y3, y4, y5, y6, y7, y8, y9⟩ := hY
  have e11 : μa 11 = μ 11 := funext fun i => x10 _ _ (by omega)
  have e01 : νa 1001 = ν 1001 := funext fun i => y9 _ _ (by omega)
  have e102 : μa 10 2 = μ 10 2 := x10 _ _ (by omega)
  have hn0 := h.n0
  have tp : TP μa νa := (TP.mk (n0 := by rw [e102]; exact h.n0) (n1 := by rw [e102]; exact h.n1) (len := by rw [y6, e102]; exact h.tp) (row := by rw [e11, e01]; exact h.row) (at1 := by rw [y8, x9]) (at2 := by rw [x9]; omega) (at3 := by rw [x9, e102]; exact hn0) (res := fun i p q => by rw [x10 _ _ (by omega)]; exact h.res i p q))
  obtain ⟨μ1, ν1, a1, a2, a3, a4, a5, a6, a7⟩ := TR_adv tp
  rw [x0, y0, a1, a2, q_bd_s, q_bd_s, q_bd_s]
  have f1 : FA b μ μ1 := fun c i z => by rw [a4 c i (by omega), x10 c i (by omega)]
  have f2 : ∀ c i, ¬ (c = 1000 ∧ (i = 1 ∨ i = 3)) → ¬ ((c = 1000 ∧ ((4 ≤ i ∧ i ≤ 9) ∨ i = 30 ∨ (43 ≤ i ∧ i ≤ 45))) ∨ (1002 ≤ c ∧ c ≤ 1006 ∧ 60 ≤ i) ∨ (c = 1007 ∧ 240 ≤ i) ∨ (1008 ≤ c ∧ c ≤ 1011 ∧ 60 ≤ i) ∨ (c = 1012 ∧ 1000 ≤ i) ∨ (c = 1013 ∧ 3 ≤ i) ∨ c = 1014 ∨ (c = 1015 ∧ 4 ≤ i) ∨ c = 1016 ∨ (1017 ≤ c ∧ c ≤ 1020 ∧ 4 ≤ i) ∨ (1021 ≤ c ∧ c ≤ 1023) ∨ c = 1034 ∨ c = 1035) → ν1 c i = ν c i := fun c i z y => by rw [a5 c i (by omega), y9 c i (by omega)]
  have n4 : ν1 1013 4 = 0 := by rw [a5 _ _ (by omega)]; exact y2
  have n3 : ν1 1013 3 = 0 := by rw [a5 _ _ (by omega)]; exact y1
  have n5 : ν1 1013 5 = 0 := by rw [a5 _ _ (by omega)]; exact y3
  have n43 : ν1 1000 43 = 0 := by rw [a5 _ _ (by omega)]; exact y4
  have n30 : ν1 1000 30 = 1000 := by rw [a5 _ _ (by omega)]; exact y5
  have hbe := a3.be0
  have ps : PS b 0 0 (fun _ => 0) μ1 ν1 := by
    refine ⟨?_, fun _ => n5, Or.inl ⟨n43, fun k k0 k1 => by omega⟩⟩
    refine (PB.mk (tr := a3) (rd := (RD.mk (rb := by rw [a4 _ _ (by omega)]; exact x1) (rl := by rw [a4 _ _ (by omega)]; exact x2) (rf := by rw [a4 _ _ (by omega)]; exact x3))) (nw := (NW.mk (w0 := by rw [n3]; omega) (b0 := by rw [n4]; omega) (wc := by rw [n3, a4 _ _ (by omega)]; exact x7) (bc := by rw [n4, a4 _ _ (by omega)]; exact x8) (wn := fun i p q => by rw [n3] at q; omega) (wv := fun i p q => by rw [n3] at q; omega) (bn := fun i p q => by rw [n4] at q; omega))) (cB := n4) (cW := n3) (cn := by rw [n5, a4 _ _ (by omega)]; exact x5) (c6 := by rw [n5]; omega) (p0 := by rw [a4 _ _ (by omega), x6]; omega) (cap := by rw [a4 _ _ (by omega), x6]; exact hbe) (q0 := by rw [n30]; omega) (caq := by rw [n30]; omega) (op := by rw [n43, a4 _ _ (by omega)]; exact x4) (wr := fun _ => by unfold r32; omega) (wn := fun w x y => by omega) (al := fun l x y => by rw [n5] at y; omega))
  have hF := am_FU_ge
  obtain ⟨r, μ', ν', w1, w2, w3, w4, w5⟩ := reads_L hb 68 am_FU am_FU 0 0 0 _ μ1 ν1 ps (by rw [n5]; omega) (by omega) (by omega) (by omega) (by rw [n5]; omega)
  refine ⟨r, μ', ν', w1, w2, w3, f1.tr w4, fun c i z y => by rw [w5 c i y, f2 c i z y], ?_⟩
  rw [w5 _ _ (by omega), a5 _ _ (by omega)]
  exact y7
