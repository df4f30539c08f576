/-! The promise of bills, both sides. -/
def BFC (b : Int) (μ μ' : am_M) : Prop := ∀ c i, ¬ (c = 10 ∨ (20 ≤ c ∧ c ≤ 23) ∨ (30 ≤ c ∧ c ≤ 35) ∨ (b ≤ c ∧ c ≤ b + 22) ∨ (c = 0 ∧ 8 ≤ i ∧ i ≤ 10) ∨ (c = 300 ∧ 5 ≤ i ∧ i ≤ 11) ∨ (c = 50 ∧ i = 10) ∨ (c = 60 ∧ i = 9)) → μ' c i = μ c i
def BFR (ν ν' : am_M) : Prop := ∀ c i, ¬ ((c = 1000 ∧ (i = 0 ∨ i = 1 ∨ i = 3 ∨ (4 ≤ i ∧ i ≤ 9) ∨ i = 30 ∨ (43 ≤ i ∧ i ≤ 45) ∨ i = 57 ∨ i = 58)) ∨ (1002 ≤ c ∧ c ≤ 1023) ∨ (1034 ≤ c ∧ c ≤ 1042) ∨ c = 1062) → ν' c i = ν c i
theorem stand_s {c : Int} {m : am_M} (h : am_isO c 3 = true) : ∃ m', Mc_stand c m = some (0, m') ∧ (∀ i, 5 ≤ i → i ≤ 11 → m' c i = 0) ∧ (∀ x i, ¬ (x = c ∧ 5 ≤ i ∧ i ≤ 11) → m' x i = m x i) := by
  refine ⟨m_st (m_st (m_st (m_st (m_st (m_st (m_st m c 5 0) c 6 0) c 7 0) c 8 0) c 9 0) c 10 0) c 11 0, ?_, fun i p q => ?_, fun x i z => ?_⟩
  · unfold Mc_stand
    rw [q_gd_s h, q_pf_d, q_pf_d, q_pf_d, q_pf_d, q_pf_d, q_pf_d, q_pf_d]
  · have : i = 5 ∨ i = 6 ∨ i = 7 ∨ i = 8 ∨ i = 9 ∨ i = 10 ∨ i = 11 := by omega
    rcases this with z | z | z | z | z | z | z <;> (rw [z]; simp [m_st_d])
  · rw [m_st_d, if_neg (by omega), m_st_d, if_neg (by omega), m_st_d, if_neg (by omega), m_st_d, if_neg (by omega), m_st_d, if_neg (by omega), m_st_d, if_neg (by omega), m_st_d, if_neg (by omega)]
theorem CD.cong {b B W n : Int} {Wn : Int → Int} {μ ν μ' ν' : am_M} (h : CD b B W n B Wn μ ν) (f : ∀ c, b ≤ c → c ≤ b + 22 → μ' c = μ c) (g : ∀ c, 1001 ≤ c → c ≤ 1020 → ν' c = ν c) (g2 : ∀ c, 1039 ≤ c → c ≤ 1042 → ν' c = ν c) : CD b B W n B Wn μ' ν' := by
  have e22 := f (b + 22) (by omega) (by omega)
  have e8 := f (b + 8) (by omega) (by omega)
  refine (CD.mk (tb := h.tb.cong (fun c i p q _ => by rw [f c p (by omega)]) (fun c i z => by unfold Lo at z; rw [g c (by omega) (by omega)])) (ck := fun k k0 k1 => (h.ck k k0 k1).cong (fun c p q _ => f c (by omega) (by omega)) g (fun c p q => by rw [f c (by omega) (by omega)]) (fun c p q => by rw [g2 c p (by omega)]) (fun l _ _ => ⟨by rw [e8], by rw [g2 1042 (by decide) (by decide)]⟩)) (sd := fun k k0 k1 => by rw [e22]; exact h.sd k k0 k1) (sr := fun k k0 k1 => ?_))
  have w : Wr ν' k ↔ Wr ν k := by unfold Wr; rw [g2 1039 (by decide) (by decide)]
  rw [e22, w, h.sr k k0 k1]
  exact ⟨fun y => ⟨y.1, fun c hc => y.2 c ((Cal.cg g k c).mp hc)⟩, fun y => ⟨y.1, fun c hc => y.2 c ((Cal.cg g k c).mpr hc)⟩⟩
/-- the state just after new bills -/
def BNW (b b' : Int) (μ ν : am_M) : Prop := (μ 0 8 = b') ∧ (μ 0 9 = b) ∧ (μ 0 10 = 0) ∧ (∀ i, 5 ≤ i → i ≤ 11 → μ 300 i = 0) ∧ (μ 50 10 = -1) ∧ (μ 60 9 = -1) ∧ (ν 1000 57 = 0) ∧ (ν 1000 58 = 0) ∧ (∀ s, 0 ≤ s → s < 4 → ν 1062 s = 0)
theorem BNW.s8 {b b' : Int} {μ ν : am_M} (h : BNW b b' μ ν) : μ 0 8 = b' := h.1
theorem BNW.s9 {b b' : Int} {μ ν : am_M} (h : BNW b b' μ ν) : μ 0 9 = b := h.2.1
theorem BNW.s10 {b b' : Int} {μ ν : am_M} (h : BNW b b' μ ν) : μ 0 10 = 0 := h.2.2.1
theorem BNW.m0 {b b' : Int} {μ ν : am_M} (h : BNW b b' μ ν) : ∀ i, 5 ≤ i → i ≤ 11 → μ 300 i = 0 := h.2.2.2.1
theorem BNW.wy {b b' : Int} {μ ν : am_M} (h : BNW b b' μ ν) : μ 50 10 = -1 := h.2.2.2.2.1
theorem BNW.od {b b' : Int} {μ ν : am_M} (h : BNW b b' μ ν) : μ 60 9 = -1 := h.2.2.2.2.2.1
theorem BNW.r57 {b b' : Int} {μ ν : am_M} (h : BNW b b' μ ν) : ν 1000 57 = 0 := h.2.2.2.2.2.2.1
theorem BNW.r58 {b b' : Int} {μ ν : am_M} (h : BNW b b' μ ν) : ν 1000 58 = 0 := h.2.2.2.2.2.2.2.1
theorem BNW.r62 {b b' : Int} {μ ν : am_M} (h : BNW b b' μ ν) : ∀ s, 0 ≤ s → s < 4 → ν 1062 s = 0 := h.2.2.2.2.2.2.2.2
theorem BNW.mk {b b' : Int} {μ ν : am_M} (s8 : μ 0 8 = b') (s9 : μ 0 9 = b) (s10 : μ 0 10 = 0) (m0 : ∀ i, 5 ≤ i → i ≤ 11 → μ 300 i = 0) (wy : μ 50 10 = -1) (od : μ 60 9 = -1) (r57 : ν 1000 57 = 0) (r58 : ν 1000 58 = 0) (r62 : ∀ s, 0 ≤ s → s < 4 → ν 1062 s = 0) : BNW b b' μ ν := ⟨s8, s9, s10, m0, wy, od, r57, r58, r62⟩
theorem bills_s {b b' : Int} {μ ν : am_M} (hb : bOk b) (hb' : bOk b') (hne : b ≠ b') (t : TI μ ν) (s8 : μ 0 8 = b) (s9 : μ 0 9 = b') : ∃ r μ' ν', X_bills μ = some (r, μ') ∧ M_bills ν = some (r, ν') ∧ TI μ' ν' ∧ ((r ≠ 0 ∧ FA b' μ μ' ∧ ∀ c i, ¬ (c = 1000 ∧ (i = 0 ∨ i = 1 ∨ i = 3)) → ¬ ((c = 1000 ∧ ((4 ≤ i ∧ i ≤ 9) ∨ i = 30 ∨ (43 ≤ i ∧ i ≤ 45))) ∨ (1002 ≤ c ∧ c ≤ 1006 ∧ 60 ≤ i) ∨ (c = 1007 ∧ 240 ≤ i) ∨ (1008 ≤ c ∧ c ≤ 1011 ∧ 60 ≤ i) ∨ (c = 1012 ∧ 1000 ≤ i) ∨ (c = 1013 ∧ 3 ≤ i) ∨ c = 1014 ∨ (c = 1015 ∧ 4 ≤ i) ∨ c = 1016 ∨ (1017 ≤ c ∧ c ≤ 1020 ∧ 4 ≤ i) ∨ (1021 ≤ c ∧ c ≤ 1023) ∨ c = 1034 ∨ c = 1035) → ν' c i = ν c i) ∨
    (r = 0 ∧ (∃ B W n Wn, CD b' B W n B Wn μ' ν') ∧ BNW b b' μ' ν' ∧ BFC b' μ μ' ∧ BFR ν ν')) := by
  have hbb : b = 100 ∨ b = 200 := hb
  have hbb' : b' = 100 ∨ b' = 200 := hb'
  have hF := am_FU_ge
  have t0 : TI μ (m_st ν 1000 0 0) := (TI.mk (n0 := t.n0) (n1 := t.n1) (tp := by rw [m_st_i (by decide)]; exact t.tp) (row := by rw [← t.row]; rfl) (res := t.res))
  obtain ⟨r, μ1, ν1, a1, a2, a3, a4, a5, a6⟩ := reads_s hb' t0
  have ge : ∀ (m : am_M) (c i v : Int), m_st m c i v c i = v := fun m c i v => by rw [m_st_d, if_pos ⟨rfl, rfl⟩]
  have eX : X_bills μ = (if μ1 20 10 = 0 then (q_bd (Ck_checkAll b' (m_st μ1 10 2 0)) fun a5 μ6 => q_pf 0 8 (μ6 0 9) μ6 fun μ7 => q_pf 0 9 (μ6 0 8) μ7 fun μ8 => q_bd (Mc_stand 300 μ8) fun a9 μ10 => q_pf 0 10 0 μ10 fun μ11 => q_bd (Wy_forget μ11) fun a12 μ13 => q_bd (Or_forget μ13) fun a14 μ15 => some (μ1 20 10, μ15)) else (some (μ1 20 10, m_st μ1 10 2 0))) := by
    have e9 : m_st μ1 10 2 0 0 9 = b' := by rw [m_st_c (by decide), a4 _ _ (by omega)]; exact s9
    unfold X_bills Tp_clear
    rw [s9, a1, q_bd_s, q_pf_d, q_bd_s, e9]
  have eM : M_bills ν = (if r = 0 then some (ν1 1000 9, ν1) else M_bills_L19 am_FU 0 ν1) := by
    unfold M_bills
    rw [q_pf_d, a2, q_bd_s]
  have row1 : ν1 1001 = μ1 11 := by
    have e1 : ν1 1001 = ν 1001 := funext fun i => by rw [a5 _ _ (by omega) (by omega), m_st_c (by decide)]
    have e2 : μ1 11 = μ 11 := funext fun i => a4 _ _ (by omega)
    rw [e1, e2]; exact t.row
  have res1 : ∀ i, 0 ≤ i → i < 17 → μ1 12 i = rsv i := fun i p q => by rw [a4 _ _ (by omega)]; exact t.res i p q
  rcases a3 with ⟨z1, z2⟩ | ⟨z1, z2, B, W, Wn, ps, hcl⟩
  · refine ⟨μ1 20 10, m_st μ1 10 2 0, ν1, by rw [eX, if_neg z2.2], by rw [eM, if_pos z1, ← z2.1], ?_, Or.inl ⟨z2.2, fun c i w => by rw [m_st_c (by omega), a4 c i w], fun c i w w2 => by rw [a5 c i (by omega) w2, m_st_d, if_neg (by omega)]⟩⟩
    exact (TI.mk (n0 := by rw [ge]; decide) (n1 := by rw [ge]; decide) (tp := by rw [ge]; exact a6) (row := by rw [row1]; rfl) (res := fun i p q => by rw [m_st_c (by decide)]; exact res1 i p q))
  · obtain ⟨ν2, c1, c2⟩ := copy_s ν1
    have tb := (TB_cp hb' ps hcl c2).cong (μ' := m_st μ1 10 2 0) (ν' := ν2) (fun c i p q _ => m_st_c (by omega)) (fun _ _ _ => rfl)
    obtain ⟨μ3, ν3, d1, d2, d3, d4, d5⟩ := ckAll_s tb
    obtain ⟨ν4, e1, e2, e3⟩ := L393_s 4 am_FU 0 (m_st (m_st ν3 1000 57 0) 1000 58 0) (by omega) (by omega) (by omega)
    have m8 : μ3 0 8 = b := by rw [d4 _ _ (by omega), m_st_c (by decide), a4 _ _ (by omega)]; exact s8
    have m9 : μ3 0 9 = b' := by rw [d4 _ _ (by omega), m_st_c (by decide), a4 _ _ (by omega)]; exact s9
    obtain ⟨m5, f1, f2, f3⟩ := stand_s (c := 300) (m := m_st (m_st μ3 0 8 b') 0 9 b) rfl
    have hfin : X_bills μ = some (0, m_st (m_st (m_st m5 0 10 0) 50 10 (-1)) 60 9 (-1)) := by
      have q9 : m_st μ3 0 8 b' 0 9 = b' := by rw [m_st_i (by decide)]; exact m9
      rw [eX, if_pos z2, d1, q_bd_s, q_pf_d, q_pf_d, m9, m8, f1, q_bd_s, q_pf_d]
      unfold Wy_forget Or_forget
      rw [q_pf_d, q_bd_s, q_pf_d, q_bd_s, z2]
    have hM : M_bills ν = some (0, ν4) := by
      rw [eM, if_neg (by omega), c1, d2, q_pf_d, q_pf_d, e1]
    have F : ∀ c i, ¬ ((c = 0 ∧ 8 ≤ i ∧ i ≤ 10) ∨ (c = 300 ∧ 5 ≤ i ∧ i ≤ 11) ∨ (c = 50 ∧ i = 10) ∨ (c = 60 ∧ i = 9)) → m_st (m_st (m_st m5 0 10 0) 50 10 (-1)) 60 9 (-1) c i = μ3 c i := fun c i w => by rw [m_st_d, if_neg (by omega), m_st_d, if_neg (by omega), m_st_d, if_neg (by omega), f3 c i (by omega), m_st_d, if_neg (by omega), m_st_d, if_neg (by omega)]
    have N : BNW b b' (m_st (m_st (m_st m5 0 10 0) 50 10 (-1)) 60 9 (-1)) ν4 := (BNW.mk (s8 := by rw [m_st_c (by decide), m_st_c (by decide), m_st_i (by decide), f3 _ _ (by omega), m_st_i (by decide), ge]) (s9 := by rw [m_st_c (by decide), m_st_c (by decide), m_st_i (by decide), f3 _ _ (by omega), ge]) (s10 := by rw [m_st_c (by decide), m_st_c (by decide), ge]) (m0 := fun i p q => by rw [m_st_c (by decide), m_st_c (by decide), m_st_c (by decide)]; exact f2 i p q) (wy := by rw [m_st_c (by decide), ge]) (od := by rw [ge]) (r57 := by rw [e3 _ _ (by omega), m_st_i (by decide), ge]) (r58 := by rw [e3 _ _ (by omega), ge]) (r62 := fun s p q => e2 s p q))
    generalize m_st (m_st (m_st m5 0 10 0) 50 10 (-1)) 60 9 (-1) = μ9 at *
    have G : ∀ c i, ¬ ((c = 1000 ∧ (i = 57 ∨ i = 58)) ∨ c = 1062) → ν4 c i = ν3 c i := fun c i w => by rw [e3 c i (by omega), m_st_d, if_neg (by omega), m_st_d, if_neg (by omega)]
    have Fa : ∀ c i, ¬ ((c = 0 ∧ 8 ≤ i ∧ i ≤ 10) ∨ (c = 300 ∧ 5 ≤ i ∧ i ≤ 11) ∨ (c = 50 ∧ i = 10) ∨ (c = 60 ∧ i = 9) ∨ (30 ≤ c ∧ c ≤ 35) ∨ (b' ≤ c ∧ c ≤ b' + 22)) → μ9 c i = m_st μ1 10 2 0 c i := fun c i w => by rw [F c i (by omega), d4 c i (by omega)]
    have Ga : ∀ c i, ¬ ((c = 1000 ∧ (i = 57 ∨ i = 58)) ∨ c = 1062 ∨ (1036 ≤ c ∧ c ≤ 1042) ∨ (1002 ≤ c ∧ c ≤ 1013) ∨ c = 1015 ∨ (1017 ≤ c ∧ c ≤ 1020)) → ν4 c i = ν1 c i := fun c i w => by rw [G c i (by omega), d5 c i (by omega), c2.fr c i (by omega)]
    have cd := d3.cong (μ' := μ9) (ν' := ν4) (fun c p q => funext fun i => F c i (by omega)) (fun c p q => funext fun i => G c i (by omega)) (fun c p q => funext fun i => G c i (by omega))
    have ti : TI μ9 ν4 := by
      have q2 : μ9 10 2 = 0 := by rw [Fa _ _ (by omega), ge]
      exact (TI.mk (n0 := by rw [q2]; decide) (n1 := by rw [q2]; decide) (tp := by rw [q2, Ga _ _ (by omega)]; exact a6) (row := funext fun i => by rw [Ga _ _ (by omega), Fa _ _ (by omega), m_st_c (by decide), row1]) (res := fun i p q => by rw [Fa _ _ (by omega), m_st_c (by decide)]; exact res1 i p q))
    refine ⟨0, μ9, ν4, hfin, hM, ti, Or.inr ⟨rfl, ⟨B, W, _, Wn, cd⟩, N, fun c i w => ?_, fun c i w => ?_⟩⟩
    · rw [Fa c i (by omega), m_st_d, if_neg (by omega), a4 c i (by omega)]
    · rw [Ga c i (by omega), a5 c i (by omega) (by omega), m_st_d, if_neg (by omega)]
