/-! let, give. -/
theorem LOQ.idx {b B W l p q t : Int} {Wn : Int → Int} {μ ν : am_M} {x y : am_O} (h : LOQ b B W l p q t Wn μ ν x y) : q_bd x (fun a z => q_rb a (some (a, z))) = x ∧ q_bd x (fun a z => if a = 0 then (some (0, z)) else (some (1, z))) = x ∧ q_bd y (fun a z => q_rb a (some (a, z))) = y := by
  obtain ⟨r, μ1, a1, -, a3⟩ := h
  rcases a3 with ⟨z, ν1, y1, -⟩ | ⟨z, r2, μ2, ν2, -, y1, -, -, y2⟩
  · subst z; rw [a1, y1]; exact ⟨q_rb0, rfl, q_rb0⟩
  · subst z; rw [a1, y1]
    refine ⟨q_rb1, rfl, ?_⟩
    rcases y2 with ⟨z, -⟩ | ⟨z, -⟩
    · subst z; exact q_rb0
    · subst z; exact q_rb1
theorem give_s {b B W l p q : Int} {Wn : Int → Int} {μ ν : am_M} (hb : bOk b) (h : LB b B W l p 8 μ ν) (hq : ν 1000 30 = q) (hWr : ∀ w, r32 (Wn w)) (hWn : ∀ w, 0 ≤ w → w < W → Wn w = ν 1015 (4 + w)) : LOQ b B W l p q 0 Wn μ ν (q_bd (Rd_readSum μ) fun a50 μ51 => q_rb a50 (some (a50, μ51))) (q_bd (M_readsE (60 + l) ν) fun a9 μ10 => q_rb a9 (some (a9, μ10))) := by
  have hs := h.ln.sl.s0
  have := E_line hb (μ0 := μ) (ν0 := ν) (EL.mk (ln := h.ln) (pc := h.pc) (qc := hq) (f1 := fun _ _ _ => rfl) (f2 := fun _ _ _ => rfl) (ke := Or.inr (Or.inr rfl)) (k2 := h.k2) (k3 := h.k3) (k4 := h.k4) (k5 := (show μ (b + 5) l = if (1 : Int) = 1 then 1 else 0 from h.k5)) (k6 := h.k6) (m2 := h.m2) (m3 := h.m3) (m4 := h.m4) (m5 := h.m5) (m6 := h.m6) (m7 := h.m7) (kk := Or.inl rfl) (sr := by omega) (x1 := by decide) (x4 := by decide) (ns := fun n x y => by omega) (s6 := Int.le_refl _) (t3 := Int.le_refl _) (wr := hWr) (wn := hWn))
  rw [this.idx.1, this.idx.2.2]
  exact this
set_option maxHeartbeats 4000000 in
theorem let_s {b B W l p q : Int} {Wn : Int → Int} {μ ν : am_M} (hb : bOk b) (h : LB b B W l p 1 μ ν) (hq : ν 1000 30 = q) (hWr : ∀ w, r32 (Wn w)) (hWn : ∀ w, 0 ≤ w → w < W → Wn w = ν 1015 (4 + w)) : LOQ b B W l p q 0 Wn μ ν (q_bd (Rd_readSlip 1 μ) fun a10 μ11 => if a10 = 0 then (some (0, μ11)) else (q_bd (Rd_readKind μ11) fun a12 μ13 => if a12 = 0 then (some (0, μ13)) else (q_bd (Rd_readSum μ13) fun a14 μ15 => if a14 = 0 then (some (0, μ15)) else (some (1, μ15)))))
    (q_bd (M_needsSlip ν) fun a3 μ4 => q_st 120 1003 (60 + l) a3 μ4 fun μ5 => q_ld 120 1003 (60 + l) μ5 fun a6 => if a6 < 0 then (some (0, μ5)) else (q_bd (M_kindAt μ5) fun a7 μ8 => q_st 120 1005 (60 + l) a7 μ8 fun μ9 => q_ld 120 1005 (60 + l) μ9 fun a10 => if a10 = 0 then (q_bd (M_fails 1 μ9) fun a15 μ16 => q_rb a15 (some (a15, μ16))) else (q_bd (M_nextToken μ9) fun a11 μ12 => q_bd (M_readsE (60 + l) μ12) fun a13 μ14 => q_rb a13 (some (a13, μ14))))) := by
  have hb' : b = 100 ∨ b = 200 := hb
  have hl := h.ln.l0
  have hpc := h.pc
  obtain ⟨r3, μ3, s1, ν3, g1, g2, g3, g4, g5⟩ := slip_read hb (Or.inr (Or.inl rfl)) h.ln
  rw [g1, g2, q_bd_s, q_bd_s, q_st_s (by omega) (by omega), q_ld_s (by omega) (by omega)]
  have e8 : m_st ν3 1003 (60 + l) s1 1003 (60 + l) = s1 := by rw [m_st_d, if_pos ⟨rfl, rfl⟩]
  have e9 : ∀ c i, ¬ (c = 1003 ∧ i = 60 + l) → m_st ν3 1003 (60 + l) s1 c i = ν3 c i := fun c i z => by rw [m_st_d, if_neg z]
  rw [e8]
  have fl2c : FL2 B l q ν (m_st ν3 1003 (60 + l) s1) := g4.fl2.tr (FL2_set (by omega))
  rcases g5 with ⟨i1, i2, i3⟩ | ⟨i1, i2, i3, i4, i5, i6, -, i7, -, i8, -, -, i9, i10⟩
  · subst i1; subst i2
    rw [if_pos rfl, if_pos (by decide)]
    exact LOQ_fail g3.one fl2c (FL_set i3 (by decide))
  subst i1
  rw [if_neg (by decide), if_neg (by omega)]
  have ln3 := LN_set (c := 1003) (i := 60 + l) (v := s1) i5 (by decide)
  have k3 := i7 rfl
  generalize m_st ν3 1003 (60 + l) s1 = ν4 at *
  rw [kindAt_s ln3.tr, q_bd_s, q_st_s (by omega) (by omega), q_ld_s (by omega) (by omega)]
  obtain ⟨j1, j2, j3⟩ := readKind_s hb ln3
  have e5 : ∀ v, m_st ν4 1005 (60 + l) v 1005 (60 + l) = v := fun v => by rw [m_st_d, if_pos ⟨rfl, rfl⟩]
  rw [e5]
  -- a kind that is told
  have go : ∀ x y : Int, (x = 1 ∧ y = 1) ∨ (x = 0 ∧ y = 2) → ν4 1000 6 ≠ 0 → LOQ b B W l p q 0 Wn μ ν (q_bd (q_bd (Tp_advance (m_st μ3 (b + 5) l x)) fun _ z => some (1, z)) fun a12 μ13 => if a12 = 0 then (some (0, μ13)) else (q_bd (Rd_readSum μ13) fun a14 μ15 => if a14 = 0 then (some (0, μ15)) else (some (1, μ15)))) (q_bd (M_nextToken (m_st ν4 1005 (60 + l) y)) fun a11 μ12 => q_bd (M_readsE (60 + l) μ12) fun a13 μ14 => q_rb a13 (some (a13, μ14))) := by
    intro x y hxy ht
    have ln4 := LN_set (c := 1005) (i := 60 + l) (v := y) ln3 (by decide)
    have ef : ∀ c i, ¬ (c = 1005 ∧ i = 60 + l) → m_st ν4 1005 (60 + l) y c i = ν4 c i := fun c i z => by rw [m_st_d, if_neg z]
    have ey := e5 y
    have f2d : FL2 B l q ν (m_st ν4 1005 (60 + l) y) := fl2c.tr (FL2_set (by omega))
    have kf : ∀ c i, ¬ (c = b + 5 ∧ i = l) → m_st μ3 (b + 5) l x c i = μ3 c i := fun c i z => by rw [m_st_d, if_neg z]
    have kx : m_st μ3 (b + 5) l x (b + 5) l = x := by rw [m_st_d, if_pos ⟨rfl, rfl⟩]
    have f1d : FL1 b l p μ (m_st μ3 (b + 5) l x) := g3.one.tr (fun c i z => by rw [m_st_d, if_neg (by omega)])
    generalize m_st ν4 1005 (60 + l) y = ν5 at *
    generalize m_st μ3 (b + 5) l x = μ5 at *
    obtain ⟨μ', ν', a1, a2, a3, a4, a5, a6⟩ := LN_next (μ2 := μ5) (ν2 := ν5) hb ln4 (by rw [ef _ _ (by omega)]; exact ht) (ln4.sl.cong (fun c i z => kf _ _ (by omega)) (fun _ _ _ => rfl)) (fun c i z => kf _ _ (by omega)) (fun _ _ _ => rfl) (by rw [kf _ _ (by omega), kf _ _ (by omega)]; exact ln4.sp) (by rw [kf _ _ (by omega)]; omega)
    rw [a1, a2, q_bd_s, q_bd_s, q_bd_s, if_neg (by decide)]
    have r0 : ∀ c i, b + 1 ≤ c → c ≤ b + 11 → ¬ (c = b + 3 ∧ i = l) → ¬ (c = b + 5 ∧ i = l) → μ' c i = μ c i := fun c i u v w z => by rw [a4 _ _ (by omega), kf _ _ z, g3.row hb ⟨u, v⟩ (fun q => by omega) (fun _ => w) (fun q => by omega)]
    have n0 : ∀ c i, c ≠ 1000 → ¬ (c = 1005 ∧ i = 60 + l) → ¬ (c = 1003 ∧ i = 60 + l) → c < 1020 → ν' c i = ν c i := fun c i u v w z => by rw [a5 _ _ (by omega), ef _ _ v, e9 _ _ w, g4 _ _ (by omega)]
    have e6 : μ' 20 6 = μ3 20 6 := by rw [a4 _ _ (by decide), kf _ _ (by omega)]
    have e3 : ν' 1003 (60 + l) = s1 := by rw [a5 _ _ (by omega), ef _ _ (by omega)]; exact e8
    have e30 : ν' 1000 30 = q := by rw [a5 _ _ (by omega), ef _ _ (by omega), e9 _ _ (by omega), g4 _ _ (by omega)]; exact hq
    have hs : s1 ≤ μ 20 6 ∧ ∀ n, μ 20 6 ≤ n → n < μ3 20 6 → n = s1 := by
      by_cases z : sf ν = -1
      · have := i9 z; exact ⟨by omega, fun n u v => by omega⟩
      · have := i10 z; exact ⟨by omega, fun n u v => by omega⟩
    have := E_line hb (μ0 := μ) (ν0 := ν) (k0 := 1) (s1 := s1) (kp := y) (q := q) (p := p) (Wn := Wn) (EL.mk (ln := a3) (pc := by rw [r0 _ _ (by omega) (by omega) (by omega) (by omega)]; exact hpc) (qc := e30) (f1 := f1d.tr (FL1_10 a4)) (f2 := f2d.tr (FL2_t a5)) (ke := Or.inl rfl) (k2 := by rw [r0 _ _ (by omega) (by omega) (by omega) (by omega)]; exact h.k2) (k3 := by rw [a4 _ _ (by omega), kf _ _ (by omega)]; exact k3) (k4 := by rw [r0 _ _ (by omega) (by omega) (by omega) (by omega)]; exact h.k4) (k5 := by rw [a4 _ _ (by omega), kx]; rcases hxy with ⟨u, v⟩ | ⟨u, v⟩ <;> (subst u; subst v; rfl)) (k6 := by rw [r0 _ _ (by omega) (by omega) (by omega) (by omega)]; exact h.k6) (m2 := by rw [n0 _ _ (by omega) (by omega) (by omega) (by omega)]; exact h.m2) (m3 := e3) (m4 := by rw [n0 _ _ (by omega) (by omega) (by omega) (by omega)]; exact h.m4) (m5 := by rw [a5 _ _ (by omega)]; exact ey) (m6 := by rw [n0 _ _ (by omega) (by omega) (by omega) (by omega)]; exact h.m6) (m7 := fun i u v => by rw [n0 _ _ (by omega) (by omega) (by omega) (by omega)]; exact h.m7 i u v) (kk := by omega) (sr := by omega) (x1 := by omega) (x4 := fun _ => rfl) (ns := fun n u v => hs.2 n u (by omega)) (s6 := by omega) (t3 := by
        have z3 : μ5 10 3 = μ3 10 3 := kf _ _ (by omega)
        have z4 := ln4.tr.lst (by rw [ef _ _ (by omega)]; exact ht)
        omega) (wr := hWr) (wn := fun w u v => by rw [n0 _ _ (by omega) (by omega) (by omega) (by omega)]; exact hWn w u v))
    rw [this.idx.2.1, this.idx.2.2]
    exact this
  have tk := (tkN ln3.tr).2.1
  by_cases c1 : μ3 10 5 = 111
  · rw [if_pos c1, if_neg (by decide), j1 c1]
    exact go 1 1 (Or.inl ⟨rfl, rfl⟩) (fun z => by have := tk.mp z; omega)
  rw [if_neg c1]
  by_cases c2 : μ3 10 5 = 112
  · rw [if_pos c2, if_neg (by decide), j2 c2]
    exact go 0 2 (Or.inr ⟨rfl, rfl⟩) (fun z => by have := tk.mp z; omega)
  rw [if_neg c2, if_pos rfl, j3 c1 c2, q_bd_s, if_pos rfl]
  have ln4 := LN_set (c := 1005) (i := 60 + l) (v := 0) ln3 (by decide)
  have kf : ∀ c i, ¬ (c = b + 5 ∧ i = l) → m_st μ3 (b + 5) l 0 c i = μ3 c i := fun c i z => by rw [m_st_d, if_neg z]
  have tr5 : TR (m_st μ3 (b + 5) l 0) (m_st ν4 1005 (60 + l) 0) := ln4.tr.cong (fun c i z => kf _ _ (by omega)) (fun _ _ _ => rfl)
  obtain ⟨x1, x2, x3⟩ := fail_s (k := 1) tr5 (by rw [kf _ _ (by omega)]; exact ln3.rd.rf) (by decide)
  rw [kf 10 3 (by omega)] at x2 x3
  rw [x2, q_bd_s, q_rb0]
  have fA : FL1 b l p μ (m_st μ3 (b + 5) l 0) := g3.one.tr (fun c i z => kf c i (by omega))
  have fB : FL2 B l q ν (m_st ν4 1005 (60 + l) 0) := fl2c.tr (FL2_set (by omega))
  exact LOQ_fail (fA.tr (FL1_f fun c i z => by rw [m_st_d, if_neg z])) (fB.tr (FL2_f fun c i z => by rw [m_st_d, if_neg z])) x3
