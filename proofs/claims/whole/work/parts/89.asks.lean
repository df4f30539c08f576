/-! The promises line, bill, check, room and price. -/
theorem CD.z {b B W n i v : Int} {Wn : Int → Int} {μ ν : am_M} (h : CD b B W n B Wn μ ν) : CD b B W n B Wn μ (m_st ν 1000 i v) := h.cong (fun _ _ _ => rfl) (fun c p q => funext fun x => m_st_c (by omega)) (fun c p q => funext fun x => m_st_c (by omega))
theorem within_g {v a z : Int} {ν : am_M} : M_within v a z ν = some (if a ≤ v ∧ v ≤ z then 1 else 0, ν) := by
  unfold M_within
  by_cases c0 : v < a
  · rw [if_pos c0, if_neg (by omega)]
  rw [if_neg c0]
  by_cases c1 : v ≤ z
  · rw [if_pos c1, if_pos (by omega)]
  · rw [if_neg c1, if_neg (by omega)]
theorem line_p {b B W n l f : Int} {Wn : Int → Int} {μ ν : am_M} (h8 : μ 0 8 = b) (cd : CD b B W n B Wn μ ν) : ∃ r, X_line l f μ = some (r, μ) ∧ M_line l f ν = some (r, m_st ν 1000 0 0) := by
  have hbo := cd.tb.bo
  have tb := (cd.z (i := 0) (v := 0)).tb
  have hcn := tb.cn
  have hW := tb.cW
  unfold X_line M_line
  rw [h8, q_gd_s (bO0 hbo), q_pf_d]
  generalize m_st ν 1000 0 0 = ν1 at *
  by_cases c0 : l < 0
  · rw [if_pos c0, if_pos c0]; exact ⟨_, rfl, rfl⟩
  rw [if_neg c0, if_neg c0, q_gd_s (bO2 hbo), q_ld_s (by omega) (by omega), hcn.1, hcn.2.1]
  by_cases c1 : l < n
  rotate_left
  · rw [if_neg c1, if_neg c1]; exact ⟨_, rfl, rfl⟩
  rw [if_pos c1, if_pos c1, within_g, q_bd_s]
  obtain ⟨S, u, a0, lr⟩ := tb.al l (by omega) c1
  have kd := lr.kd
  have la := lr.la
  have be := lr.be
  have ca := lr.ca
  have el : (0 : Int) + l = l := by omega
  rw [el] at kd la be ca
  have hl : 0 ≤ l ∧ l < 60 := by omega
  obtain ⟨r, rl⟩ := RL_of lr a0 (by omega) tb.wv
  have e1 : b + 1 + 1 = b + 2 := by omega
  have e2 : b + 1 + 2 = b + 3 := by omega
  have e3 : b + 1 + 3 = b + 4 := by omega
  have e5 : b + 1 + 5 = b + 6 := by omega
  rw [e1, e2, e3, e5]
  by_cases f0 : f = 0
  · rw [if_pos f0, if_pos f0, if_neg (by rw [if_pos (by omega)]; decide), bat2 hbo, if_pos hl, q_bd_s, q_ld_s (by omega) (by omega), kd.1]; exact ⟨_, rfl, rfl⟩
  rw [if_neg f0, if_neg f0]
  by_cases f1 : f = 1
  · rw [if_pos f1, if_pos f1, if_neg (by rw [if_pos (by omega)]; decide), bat3 hbo, if_pos hl, q_bd_s, q_ld_s (by omega) (by omega), la.1]; exact ⟨_, rfl, rfl⟩
  rw [if_neg f1, if_neg f1]
  by_cases f2 : f = 2
  · rw [if_pos f2, if_pos f2, if_neg (by rw [if_pos (by omega)]; decide), bat4 hbo, if_pos hl, q_bd_s, q_ld_s (by omega) (by omega), be.1]; exact ⟨_, rfl, rfl⟩
  rw [if_neg f2, if_neg f2]
  by_cases f3 : f = 3
  · rw [if_pos f3, if_pos f3, if_neg (by rw [if_pos (by omega)]; decide), (timesRead_s hbo rl hl).1, q_bd_s, readsMany_s rl hl, q_bd_s]; exact ⟨_, rfl, rfl⟩
  rw [if_neg f3, if_neg f3]
  by_cases f4 : f = 4
  · rw [if_pos f4, if_neg (by rw [if_pos (by omega)]; decide), bat6 hbo, if_pos hl, q_bd_s, q_ld_s (by omega) (by omega), ca.1]; exact ⟨_, rfl, rfl⟩
  rw [if_neg f4, if_pos (by rw [if_neg (by omega)])]
  exact ⟨_, rfl, rfl⟩
theorem has_s {b B v : Int} {μ : am_M} (hb : bOk b) (h : μ b 13 = B) : Bi_has b v μ = some (if 0 ≤ v ∧ v < B then 1 else 0, μ) := by
  unfold Bi_has
  rw [q_gd_s (bO0 hb), h]
  by_cases c0 : v < 0
  · rw [if_pos c0, if_neg (by omega)]
  rw [if_neg c0]
  by_cases c1 : v < B
  · rw [if_pos c1, if_pos (by omega)]
  · rw [if_neg c1, if_neg (by omega)]
theorem isBill_p {B v : Int} {ν : am_M} (h : ν 1013 1 = B) : M_isBill v ν = some (if 0 ≤ v ∧ v < B then 1 else 0, ν) := by
  unfold M_isBill
  by_cases c0 : v < 0
  · rw [if_pos c0, if_neg (by omega)]
  rw [if_neg c0, q_ld_s (by omega) (by omega), h]
  by_cases c1 : v < B
  · rw [if_pos c1, if_pos (by omega)]
  · rw [if_neg c1, if_neg (by omega)]
theorem check_p {b B W n v f : Int} {Wn : Int → Int} {μ ν : am_M} (h8 : μ 0 8 = b) (cd : CD b B W n B Wn μ ν) : ∃ r, X_check v f μ = some (r, μ) ∧ M_check v f ν = some (r, m_st ν 1000 0 0) := by
  have hbo := cd.tb.bo
  have cd1 := cd.z (i := 0) (v := 0)
  have hB := cd1.tb.cB
  unfold X_check M_check
  rw [h8, q_gd_s (bO0 hbo), q_pf_d]
  generalize m_st ν 1000 0 0 = ν1 at *
  rw [has_s hbo hB.1, isBill_p hB.2.1, q_bd_s, q_bd_s]
  by_cases c : 0 ≤ v ∧ v < B
  rotate_left
  · rw [if_pos (if_neg c), if_pos (if_neg c)]; exact ⟨_, rfl, rfl⟩
  obtain ⟨x, ln, s, a1, a2, a3, ⟨a4, a5, a6⟩, -⟩ := cd1.ck v c.1 c.2
  have hv : 0 ≤ v ∧ v < 4 := by omega
  have hz : (if 0 ≤ v ∧ v < B then (1 : Int) else 0) = 1 := if_pos c
  rw [hz, if_neg (show ¬ (1 : Int) = 0 by decide), if_neg (show ¬ (1 : Int) = 0 by decide), within_g, q_bd_s, h8, q_gd_s (bO0 hbo), q_gd_s (bO0 hbo), q_gd_s (bO0 hbo), bat19 hbo, bat20 hbo, bat21 hbo, if_pos hv, if_pos hv, if_pos hv, q_bd_s, q_bd_s, q_bd_s, q_ld_s hv.1 hv.2, q_ld_s hv.1 hv.2, q_ld_s hv.1 hv.2, a1, a2, a3, a4, a5, a6]
  by_cases f0 : f = 0
  · rw [if_pos f0, if_pos f0, if_neg (by rw [if_pos (by omega)]; decide)]; exact ⟨_, rfl, rfl⟩
  rw [if_neg f0, if_neg f0]
  by_cases f1 : f = 1
  · rw [if_pos f1, if_pos f1, if_neg (by rw [if_pos (by omega)]; decide)]; exact ⟨_, rfl, rfl⟩
  rw [if_neg f1, if_neg f1]
  by_cases f2 : f = 2
  · rw [if_pos f2, if_neg (by rw [if_pos (by omega)]; decide)]; exact ⟨_, rfl, rfl⟩
  rw [if_neg f2, if_pos (by rw [if_neg (by omega)])]
  exact ⟨_, rfl, rfl⟩
theorem bill_p {b B W n v f : Int} {Wn : Int → Int} {μ ν : am_M} (h8 : μ 0 8 = b) (cd : CD b B W n B Wn μ ν) : ∃ r, X_bill v f μ = some (r, μ) ∧ M_bill v f ν = some (r, m_st ν 1000 0 0) := by
  have hbo := cd.tb.bo
  have cd1 := cd.z (i := 0) (v := 0)
  have hB := cd1.tb.cB
  unfold X_bill M_bill
  rw [h8, q_gd_s (bO0 hbo), q_pf_d]
  generalize m_st ν 1000 0 0 = ν1 at *
  rw [has_s hbo hB.1, isBill_p hB.2.1, q_bd_s, q_bd_s]
  by_cases c : 0 ≤ v ∧ v < B
  rotate_left
  · rw [if_pos (if_neg c), if_pos (if_neg c)]; exact ⟨_, rfl, rfl⟩
  obtain ⟨x, ln, s, a1, a2, a3, ⟨a4, a5, a6⟩, -⟩ := cd1.ck v c.1 c.2
  obtain ⟨g, m, t, S, σ, e, w⟩ := cd1.tb.bw v c.1 c.2
  have ev : (0 : Int) + v = v := by omega
  have r15 := w.r15
  have r16 := w.r16
  have r17 := w.r17
  have r18 := w.r18
  rw [ev] at r15 r16 r17 r18
  have hv : 0 ≤ v ∧ v < 4 := by omega
  have hs := isSound_r (HS.of cd1.tb) c (P := fun k => μ (b + 22) k ≠ 0) (fun k k0 k1 => cd1.sr k k0 k1)
  have hd := cd1.sd v c.1 c.2
  have hz : (if 0 ≤ v ∧ v < B then (1 : Int) else 0) = 1 := if_pos c
  rw [hz, if_neg (show ¬ (1 : Int) = 0 by decide), if_neg (show ¬ (1 : Int) = 0 by decide), within_g, q_bd_s, h8, q_gd_s (bO0 hbo), q_gd_s (bO0 hbo), q_gd_s (bO0 hbo), q_gd_s (bO0 hbo), q_gd_s (bO0 hbo), q_gd_s (bO0 hbo), bat15 hbo, bat16 hbo, bat17 hbo, bat18 hbo, bat19 hbo, bat22 hbo, if_pos hv, if_pos hv, if_pos hv, if_pos hv, if_pos hv, if_pos hv, q_bd_s, q_bd_s, q_bd_s, q_bd_s, q_bd_s, q_bd_s, q_ld_s hv.1 (by omega), q_ld_s hv.1 (by omega), q_ld_s hv.1 (by omega), q_ld_s hv.1 (by omega), q_ld_s hv.1 hv.2, a1, a4, r15.1, r16.1, r17.1, r18.1, r15.2, r16.2, r17.2, r18.2]
  by_cases f0 : f = 0
  · rw [if_pos f0, if_neg (by rw [if_pos (by omega)]; decide), if_pos (by omega), if_pos f0]; exact ⟨_, rfl, rfl⟩
  rw [if_neg f0, if_neg f0]
  by_cases f1 : f = 1
  · rw [if_pos f1, if_neg (by rw [if_pos (by omega)]; decide), if_pos (by omega), if_pos f1]; exact ⟨_, rfl, rfl⟩
  rw [if_neg f1, if_neg f1]
  by_cases f2 : f = 2
  · rw [if_pos f2, if_neg (by rw [if_pos (by omega)]; decide), if_pos (by omega), if_pos f2]; exact ⟨_, rfl, rfl⟩
  rw [if_neg f2, if_neg f2]
  by_cases f3 : f = 3
  · rw [if_pos f3, if_neg (by rw [if_pos (by omega)]; decide), if_pos (by omega)]; exact ⟨_, rfl, rfl⟩
  rw [if_neg f3]
  by_cases f4 : f = 4
  · have hw : (if 0 ≤ f ∧ f ≤ 5 then (1 : Int) else 0) = 1 := if_pos (by omega)
    rw [if_pos f4, hw, if_neg (show ¬ (1 : Int) = 0 by decide), if_neg (show ¬ f < 4 by omega), if_pos f4]
    by_cases z : x = 0
    · rw [if_pos z, if_pos z]; exact ⟨_, rfl, rfl⟩
    · rw [if_neg z, if_neg z]; exact ⟨_, rfl, rfl⟩
  rw [if_neg f4]
  by_cases f5 : f = 5
  · have hw : (if 0 ≤ f ∧ f ≤ 5 then (1 : Int) else 0) = 1 := if_pos (by omega)
    rw [if_pos f5, hw, if_neg (show ¬ (1 : Int) = 0 by decide), if_neg (show ¬ f < 4 by omega), if_neg f4]
    rcases hs with ⟨h1, h2⟩ | ⟨h1, h2⟩
    · have e1 : μ (b + 22) v = 1 := hd.elim (fun z => absurd z h2) (fun z => z)
      rw [h1, q_bd_s, if_neg (by decide), e1]; exact ⟨_, rfl, rfl⟩
    · have e1 : μ (b + 22) v = 0 := Decidable.byContradiction h2
      rw [h1, q_bd_s, if_pos rfl, e1]; exact ⟨_, rfl, rfl⟩
  rw [if_neg f5, if_pos (by rw [if_neg (by omega)])]
  exact ⟨_, rfl, rfl⟩
theorem room_p {v : Int} {μ ν : am_M} : ∃ r, X_room v μ = some (r, if 1 ≤ v ∧ v ≤ 99 then m_st μ 300 12 v else μ) ∧ M_room v ν = some (r, if 1 ≤ v ∧ v ≤ 99 then m_st (m_st ν 1000 0 0) 1000 55 v else m_st ν 1000 0 0) := by
  unfold X_room M_room
  rw [q_pf_d, q_pf_d, within_g, q_bd_s]
  by_cases c : 1 ≤ v ∧ v ≤ 99
  · have hw : (if 1 ≤ v ∧ v ≤ 99 then (1 : Int) else 0) = 1 := if_pos c
    rw [hw, if_pos c, if_pos c, if_neg (show ¬ v < 1 by omega), if_pos c.2, if_neg (show ¬ (1 : Int) = 0 by decide), q_pf_d]
    exact ⟨_, rfl, rfl⟩
  · have hw : (if 1 ≤ v ∧ v ≤ 99 then (1 : Int) else 0) = 0 := if_neg c
    rw [hw, if_neg c, if_neg c, if_pos (show (0 : Int) = 0 from rfl)]
    by_cases c0 : v < 1
    · rw [if_pos c0]; exact ⟨_, rfl, rfl⟩
    · rw [if_neg c0, if_neg (show ¬ v ≤ 99 by omega)]; exact ⟨_, rfl, rfl⟩
theorem price_p {v : Int} {μ ν : am_M} : ∃ r, X_price v μ = some (r, if 0 ≤ v ∧ v ≤ 99 then m_st μ 300 13 v else μ) ∧ M_price v ν = some (r, if 0 ≤ v ∧ v ≤ 99 then m_st (m_st ν 1000 0 0) 1000 56 v else m_st ν 1000 0 0) := by
  unfold X_price M_price
  rw [q_pf_d, q_pf_d, within_g, q_bd_s]
  by_cases c : 0 ≤ v ∧ v ≤ 99
  · have hw : (if 0 ≤ v ∧ v ≤ 99 then (1 : Int) else 0) = 1 := if_pos c
    rw [hw, if_pos c, if_pos c, if_neg (show ¬ v < 0 by omega), if_pos c.2, if_neg (show ¬ (1 : Int) = 0 by decide), q_pf_d]
    exact ⟨_, rfl, rfl⟩
  · have hw : (if 0 ≤ v ∧ v ≤ 99 then (1 : Int) else 0) = 0 := if_neg c
    rw [hw, if_neg c, if_neg c, if_pos (show (0 : Int) = 0 from rfl)]
    by_cases c0 : v < 0
    · rw [if_pos c0]; exact ⟨_, rfl, rfl⟩
    · rw [if_neg c0, if_neg (show ¬ v ≤ 99 by omega)]; exact ⟨_, rfl, rfl⟩
theorem count_p {b B W n f rm pr : Int} {Wn : Int → Int} {μ ν : am_M} (h8 : μ 0 8 = b) (tb : TB b B W n Wn μ ν) (t : TI μ ν) (hr : μ 300 12 = rm ∧ ν 1000 55 = rm) (hp : μ 300 13 = pr ∧ ν 1000 56 = pr) : ∃ r, X_count f μ = some (r, μ) ∧ M_count f ν = some (r, m_st ν 1000 0 0) := by
  have hbo := tb.bo
  have hW := tb.cW
  have hB := tb.cB
  have hn := tb.cn
  have ht := t.tp
  have e3 : ∀ i, m_st ν 1000 0 0 1013 i = ν 1013 i := fun i => m_st_c (by decide)
  have e5 : m_st ν 1000 0 0 1000 55 = rm := by rw [m_st_i (by decide)]; exact hr.2
  have e6 : m_st ν 1000 0 0 1000 56 = pr := by rw [m_st_i (by decide)]; exact hp.2
  have e1 : m_st ν 1000 0 0 1000 1 = μ 10 2 := by rw [m_st_i (by decide)]; exact ht
  unfold X_count M_count
  rw [h8, q_gd_s (bO0 hbo), q_gd_s (bO0 hbo), q_gd_s (bO0 hbo), q_gd_s (bO2 hbo), q_pf_d, within_g, q_bd_s, e5, e6, e1, hr.1, hp.1, hW.1, hB.1, hn.1]
  generalize m_st ν 1000 0 0 = ν1 at *
  by_cases f0 : f = 0
  · rw [if_pos f0, if_neg (by rw [if_pos (by omega)]; decide), if_pos (by omega), q_ld_s (by omega) (by omega), f0, e3, hW.2.1]; exact ⟨_, rfl, rfl⟩
  rw [if_neg f0]
  by_cases f1 : f = 1
  · rw [if_pos f1, if_neg (by rw [if_pos (by omega)]; decide), if_pos (by omega), q_ld_s (by omega) (by omega), f1, e3, hB.2.1]; exact ⟨_, rfl, rfl⟩
  rw [if_neg f1]
  by_cases f2 : f = 2
  · rw [if_pos f2, if_neg (by rw [if_pos (by omega)]; decide), if_pos (by omega), q_ld_s (by omega) (by omega), f2, e3, hn.2.1]; exact ⟨_, rfl, rfl⟩
  rw [if_neg f2]
  by_cases f3 : f = 3
  · rw [if_pos f3, if_neg (by rw [if_pos (by omega)]; decide), if_neg (show ¬ f < 3 by omega), if_pos f3]; exact ⟨_, rfl, rfl⟩
  rw [if_neg f3]
  by_cases f4 : f = 4
  · rw [if_pos f4, if_neg (by rw [if_pos (by omega)]; decide), if_neg (show ¬ f < 3 by omega), if_neg f3, if_pos f4]; exact ⟨_, rfl, rfl⟩
  rw [if_neg f4]
  by_cases f5 : f = 5
  · rw [if_pos f5, if_neg (by rw [if_pos (by omega)]; decide), if_neg (show ¬ f < 3 by omega), if_neg f3, if_neg f4]; exact ⟨_, rfl, rfl⟩
  rw [if_neg f5, if_pos (by rw [if_neg (by omega)])]
  exact ⟨_, rfl, rfl⟩
