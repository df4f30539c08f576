/-! twin, both sides: the whole line. -/
theorem LO_fail {b B W l p q t : Int} {Wn : Int → Int} {μ ν μ1 ν1 : am_M} (f1 : FL1 b l p μ μ1) (f2 : FL2 B l q ν ν1) (hf : FL μ1 ν1) : LO b B W l p q t Wn μ ν (some (0, μ1)) (some (0, ν1)) := ⟨0, μ1, rfl, f1, Or.inl ⟨rfl, ν1, rfl, hf, f2⟩⟩
theorem FRS.one {b l p : Int} {μ μ' : am_M} (h : FRS b l 1 μ μ') : FL1 b l p μ μ' := fun c i z => h c i (by omega)
theorem FRS.two {b l p : Int} {μ μ' : am_M} (h : FRS b l 2 μ μ') : FL1 b l p μ μ' := fun c i z => h c i (by omega)
theorem FRS.row {b l pt : Int} {μ μ' : am_M} (hb : bOk b) (h : FRS b l pt μ μ') {c i : Int} (hc : b + 1 ≤ c ∧ c ≤ b + 11) (h0 : pt = 0 → ¬ ((c = b + 1 ∧ i = 11) ∨ (c = b + 11 ∧ i = μ (b + 1) 11) ∨ (c = b + 10 ∧ i = l))) (h1 : pt = 1 → ¬ (c = b + 3 ∧ i = l)) (h2 : pt = 2 → ¬ (c = b + 4 ∧ i = l)) : μ' c i = μ c i := by
  have hb' : b = 100 ∨ b = 200 := hb
  refine h c i ?_
  rintro (z | z | z | ⟨z, y⟩ | ⟨z, y⟩ | ⟨z, y⟩)
  · omega
  · omega
  · omega
  · exact h0 z y
  · exact h1 z y
  · exact h2 z y
set_option maxHeartbeats 4000000 in
theorem twin_s {b B W l p q : Int} {Wn : Int → Int} {μ ν : am_M} (hb : bOk b) (h : LB b B W l p 2 μ ν) : LO b B W l p q 0 Wn μ ν (q_bd (Rd_readSlip 0 μ) fun a16 μ17 => if a16 = 0 then (some (0, μ17)) else (q_bd (Rd_expect 113 μ17) fun a18 μ19 => if a18 = 0 then (some (0, μ19)) else (q_bd (Rd_readSlip 1 μ19) fun a20 μ21 => if a20 = 0 then (some (0, μ21)) else (q_bd (Rd_readSlip 2 μ21) fun a22 μ23 => if a22 = 0 then (some (0, μ23)) else (some (1, μ23)))))) (M_readsTwin (60 + l) ν) := by
  have hb' : b = 100 ∨ b = 200 := hb
  have hl := h.ln.l0
  have hpc := h.pc
  unfold M_readsTwin
  obtain ⟨r, μ1, s0, ν1, a1, a2, a3, a4, a5⟩ := slip_read hb (Or.inl rfl) h.ln
  rw [a1, a2, q_bd_s, q_bd_s, w32_i (x := 4 * (60 + l)) (by omega) (by omega), q_st_s (by omega) (by omega), q_ld_s (by omega) (by omega)]
  have e7 : m_st ν1 1007 (4 * (60 + l)) s0 1007 (4 * (60 + l)) = s0 := by rw [m_st_d, if_pos ⟨rfl, rfl⟩]
  rw [e7]
  have fl1 := a3.fl1 hpc
  have fl2 : FL2 B l q ν (m_st ν1 1007 (4 * (60 + l)) s0) := a4.fl2.tr (FL2_set (by omega))
  rcases a5 with ⟨b1, b2, b3⟩ | ⟨b1, b2, b3, b4, b5, b6, b7, -, -, b8, -⟩
  · subst b1; subst b2
    rw [if_pos rfl, if_pos (by decide)]
    exact LO_fail fl1 fl2 (FL_set b3 (by decide))
  subst b1
  rw [if_neg (by decide), if_neg (by omega)]
  have ln1 := LN_set (c := 1007) (i := 4 * (60 + l)) (v := s0) b5 (by decide)
  have k1 := (b7 rfl).1
  have k2 := (b7 rfl).2
  rw [hpc] at k1 k2
  generalize hν1 : m_st ν1 1007 (4 * (60 + l)) s0 = ν1' at *
  obtain ⟨r2, μ2, ν2, c1, c2, c3⟩ := expect_s ln1.tr ln1.rd.rf (isWd ln1.tr (by decide : (100 : Int) ≤ 113) kwI13) (by decide)
  rw [c1, c2, q_bd_s, q_bd_s]
  rcases c3 with ⟨d1, d2, d3, d4⟩ | ⟨d1, d2, d3, d4, d5⟩
  · subst d1
    rw [if_pos rfl, if_pos rfl]
    exact LO_fail (fl1.tr (FL1_f d3)) (fl2.tr (FL2_f d4)) d2
  subst d1
  rw [if_neg (by decide), if_neg (by decide)]
  have ln2 := LN_adv hb ln1 d2 d3 d4 d5
  have fl1b := fl1.tr (FL1_10 d3)
  have fl2b := fl2.tr (FL2_t d4)
  obtain ⟨r3, μ3, s1, ν3, g1, g2, g3, g4, g5⟩ := slip_read hb (Or.inr (Or.inl rfl)) ln2
  rw [g1, g2, q_bd_s, q_bd_s, q_st_s (by omega) (by omega), q_ld_s (by omega) (by omega)]
  have e8 : m_st ν3 1003 (60 + l) s1 1003 (60 + l) = s1 := by rw [m_st_d, if_pos ⟨rfl, rfl⟩]
  rw [e8]
  have fl1c := fl1b.tr g3.one
  have fl2c : FL2 B l q ν (m_st ν3 1003 (60 + l) s1) := (fl2b.tr g4.fl2).tr (FL2_set (by omega))
  rcases g5 with ⟨i1, i2, i3⟩ | ⟨i1, i2, i3, i4, i5, i6, -, i7, -, i8, -⟩
  · subst i1; subst i2
    rw [if_pos rfl, if_pos (by decide)]
    exact LO_fail fl1c fl2c (FL_set i3 (by decide))
  subst i1
  rw [if_neg (by decide), if_neg (by omega)]
  have ln3 := LN_set (c := 1003) (i := 60 + l) (v := s1) i5 (by decide)
  have k3 := i7 rfl
  generalize hν3 : m_st ν3 1003 (60 + l) s1 = ν3' at *
  obtain ⟨r4, μ4, s2, ν4, j1, j2, j3, j4, j5⟩ := slip_read hb (Or.inr (Or.inr rfl)) ln3
  rw [j1, j2, q_bd_s, q_bd_s, q_st_s (by omega) (by omega), q_ld_s (by omega) (by omega)]
  have e9 : m_st ν4 1004 (60 + l) s2 1004 (60 + l) = s2 := by rw [m_st_d, if_pos ⟨rfl, rfl⟩]
  rw [e9]
  have fl1d := fl1c.tr j3.two
  have fl2d : FL2 B l q ν (m_st ν4 1004 (60 + l) s2) := (fl2c.tr j4.fl2).tr (FL2_set (by omega))
  rcases j5 with ⟨o1, o2, o3⟩ | ⟨o1, o2, o3, o4, o5, o6, -, -, o7, o8, -⟩
  · subst o1; subst o2
    rw [if_pos rfl, if_pos (by decide)]
    exact LO_fail fl1d fl2d (FL_set o3 (by decide))
  subst o1
  rw [if_neg (by decide), if_neg (by omega)]
  have ln4 := LN_set (c := 1004) (i := 60 + l) (v := s2) o5 (by decide)
  have k4 := o7 rfl
  have u2 : μ2 20 6 = μ1 20 6 := d3 _ _ (by decide)
  have u3 : ν4 1007 = ν1' 1007 := funext fun i => by rw [j4 1007 i (by omega), ← hν3, m_st_c (by decide), g4 1007 i (by omega), d4 1007 i (by omega)]
  have v1 : ∀ c i, b + 1 ≤ c → c ≤ b + 11 → ¬ (c = b + 3 ∧ i = l) → ¬ (c = b + 4 ∧ i = l) → μ4 c i = μ1 c i := fun c i x y z z2 => by rw [j3.row hb ⟨x, y⟩ (fun q => by omega) (fun q => by omega) (fun _ => z2), g3.row hb ⟨x, y⟩ (fun q => by omega) (fun _ => z) (fun q => by omega), d3 c i (by omega)]
  have v2 : ∀ c, (c = 1002 ∨ c = 1005 ∨ c = 1006 ∨ c = 1010 ∨ c = 1011) → ν4 c (60 + l) = ν c (60 + l) := fun c x => by rw [j4 c _ (by omega), ← hν3, m_st_c (by omega), g4 c _ (by omega), d4 c _ (by omega), ← hν1, m_st_c (by omega), a4 c _ (by omega)]
  have v3 : ν4 1003 (60 + l) = s1 := by rw [j4 _ _ (by omega), e8]
  have v4 : ∀ i, ν1' 1007 i = if i = 4 * (60 + l) then s0 else ν 1007 i := by
    intro i
    rw [← hν1, m_st_d]
    by_cases z : i = 4 * (60 + l)
    · rw [if_pos ⟨rfl, z⟩, if_pos z]
    · rw [if_neg (fun y => z y.2), if_neg z, a4 _ _ (by omega)]
  have w3 : μ4 (b + 3) l = s1 := by rw [j3.row hb (by omega) (fun q => by omega) (fun q => by omega) (fun _ => by omega)]; exact k3
  have w2 : μ4 (b + 2) l = μ (b + 2) l := by rw [v1 _ _ (by omega) (by omega) (by omega) (by omega), a3.row hb (by omega) (fun _ => by omega) (fun q => by omega) (fun q => by omega)]
  have w5 : μ4 (b + 5) l = μ (b + 5) l := by rw [v1 _ _ (by omega) (by omega) (by omega) (by omega), a3.row hb (by omega) (fun _ => by omega) (fun q => by omega) (fun q => by omega)]
  have w6 : μ4 (b + 6) l = μ (b + 6) l := by rw [v1 _ _ (by omega) (by omega) (by omega) (by omega), a3.row hb (by omega) (fun _ => by omega) (fun q => by omega) (fun q => by omega)]
  have w11 : μ4 (b + 1) 11 = p + 1 := by rw [v1 _ _ (by omega) (by omega) (by omega) (by omega)]; exact k1
  have wco : μ4 (b + 11) p = 2 + s0 * 128 := by rw [v1 _ _ (by omega) (by omega) (by omega) (by omega)]; exact k2
  have v30 : ν4 1000 30 = ν 1000 30 := by rw [j4 _ _ (by omega), ← hν3, m_st_c (by omega), g4 _ _ (by omega), d4 _ _ (by omega), ← hν1, m_st_c (by omega), a4 _ _ (by omega)]
  clear a1 a2 a3 a4 c1 c2 d3 d4 g1 g2 g3 g4 j1 j2 j3 j4
  refine line_end hb ln4 fl1d fl2d (by omega) (by omega) ⟨by rw [m_st_c (by decide)]; exact v30, by rw [m_st_c (by decide)]; exact v2 _ (by omega), by rw [m_st_c (by decide)]; exact v2 _ (by omega)⟩ (fun μ5 ν5 ln5 q1 q2 => ?_)
  have e6 : μ5 20 6 = μ4 20 6 := q1 _ _ (by decide)
  have q3 : ∀ c i, c ≠ 1000 → c ≠ 1004 → ν5 c i = ν4 c i := fun c i x y => by rw [q2 c i (by omega), m_st_c y]
  have hm7 : ∀ i, 0 ≤ i → i < 4 → ν5 1007 (4 * (60 + l) + i) = if i = 0 then s0 else -1 := by
    intro i x y
    rw [q3 _ _ (by decide) (by decide), u3, v4]
    by_cases z : i = 0
    · rw [if_pos (by omega), if_pos z]
    · rw [if_neg (by omega), if_neg z]; exact h.m7 i x y
  refine LR_ne (k0 := 2) (t := 0) (s1 := s1) (s2 := s2) (cl := -1) (kp := 1) hb h ln5 (by unfold hE; omega) (by decide) (by decide) (by rw [q1 _ _ (by omega), w2]; exact h.k2) (by rw [q1 _ _ (by omega)]; exact w3) (by rw [q1 _ _ (by omega)]; exact k4) (by rw [q1 _ _ (by omega), w5, h.k5]; rfl) (by rw [q1 _ _ (by omega), w6]; exact h.k6) (by rw [q3 _ _ (by decide) (by decide), v2 _ (by omega)]; exact h.m2) (by rw [q3 _ _ (by decide) (by decide)]; exact v3) (by rw [q2 _ _ (by omega)]; exact e9) (by rw [q3 _ _ (by decide) (by decide), v2 _ (by omega)]; exact h.m5) (by rw [q3 _ _ (by decide) (by decide), v2 _ (by omega)]; exact h.m6) (by rw [q3 _ _ (by decide) (by decide), v2 _ (by omega)]; exact h.m10) (by rw [q3 _ _ (by decide) (by decide), v2 _ (by omega)]; exact h.m11) (by omega) (by omega) (Or.inl rfl) (by decide) (by omega) (by omega) (by decide) (by decide) (by rw [q1 _ _ (by omega)]; exact w11) (fun i x y => ?_) (fun i x y => ?_)
  · have y : i < 1 := y
    have hi : i = 0 := by omega
    subst hi
    rw [hm7 0 (by decide) (by decide), if_pos rfl]
    have ep : p + 0 = p := by omega
    rw [ep, q1 (b + 11) p (by omega)]
    exact ⟨b2, by omega, wco⟩
  · have x : 1 ≤ i := x
    rw [hm7 i (by omega) y, if_neg (by omega)]
