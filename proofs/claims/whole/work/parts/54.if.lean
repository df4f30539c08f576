/-! if, else, end. -/
/-- all that the reading of a tape may change -/
def FA (b : Int) (μ μ' : am_M) : Prop := ∀ c i, ¬ (c = 10 ∨ (20 ≤ c ∧ c ≤ 23) ∨ (b ≤ c ∧ c ≤ b + 18)) → μ' c i = μ c i
def FN (ν ν' : am_M) : Prop := ∀ c i, ¬ ((c = 1000 ∧ ((4 ≤ i ∧ i ≤ 9) ∨ i = 30 ∨ (43 ≤ i ∧ i ≤ 45))) ∨ (1002 ≤ c ∧ c ≤ 1006 ∧ 60 ≤ i) ∨ (c = 1007 ∧ 240 ≤ i) ∨ (1008 ≤ c ∧ c ≤ 1011 ∧ 60 ≤ i) ∨ (c = 1012 ∧ 1000 ≤ i) ∨ (c = 1013 ∧ 3 ≤ i) ∨ c = 1014 ∨ (c = 1015 ∧ 4 ≤ i) ∨ c = 1016 ∨ (1017 ≤ c ∧ c ≤ 1020 ∧ 4 ≤ i) ∨ (1021 ≤ c ∧ c ≤ 1023) ∨ c = 1034 ∨ c = 1035) → ν' c i = ν c i
theorem FA.rf {b : Int} {μ : am_M} : FA b μ μ := fun _ _ _ => rfl
theorem FN.rf {ν : am_M} : FN ν ν := fun _ _ _ => rfl
theorem FA.tr {b : Int} {μ μ' μ'' : am_M} (h : FA b μ μ') (h' : FA b μ' μ'') : FA b μ μ'' := fun c i z => by rw [h' c i z, h c i z]
theorem FN.tr {μ μ' μ'' : am_M} (h : FN μ μ') (h' : FN μ' μ'') : FN μ μ'' := fun c i z => by rw [h' c i z, h c i z]
theorem FA_10 {b : Int} {μ μ' : am_M} (h : ∀ c i, c ≠ 10 → μ' c i = μ c i) : FA b μ μ' := fun c i z => h c i (by omega)
theorem FA_f {b : Int} {μ μ' : am_M} (h : ∀ c i, ¬ (c = 20 ∧ i = 10) → μ' c i = μ c i) : FA b μ μ' := fun c i z => h c i (by omega)
theorem FN_t {ν ν' : am_M} (h : ∀ c i, ¬ (c = 1000 ∧ 4 ≤ i ∧ i ≤ 8) → ν' c i = ν c i) : FN ν ν' := fun c i z => h c i (by omega)
theorem FN_f {ν ν' : am_M} (h : ∀ c i, ¬ (c = 1000 ∧ i = 9) → ν' c i = ν c i) : FN ν ν' := fun c i z => h c i (by omega)
theorem FA_fail {b v : Int} {μ : am_M} : FA b μ (m_st μ 20 10 v) := FA_f fun c i z => by rw [m_st_d, if_neg z]
theorem FN_fail {v : Int} {ν : am_M} : FN ν (m_st ν 1000 9 v) := FN_f fun c i z => by rw [m_st_d, if_neg z]
theorem FL1.fa {b l p : Int} {μ μ' : am_M} (h : FL1 b l p μ μ') : FA b μ μ' := fun c i z => h c i (by omega)
theorem FL2.fn {B l q : Int} {ν ν' : am_M} (hl : 0 ≤ l) (hq : 1000 ≤ q) (hB : 1 ≤ B) (h : FL2 B l q ν ν') : FN ν ν' := fun c i z => h c i (by omega)
/-- a line's outcome: the class x and then its sign, the reference y; P: what then holds -/
def LOG (b : Int) (μ ν : am_M) (P : am_M → am_M → Prop) (x y : am_O) : Prop :=
  ∃ r μ1, x = some (r, μ1) ∧ ((r = 0 ∧ ∃ ν1, y = some (0, ν1) ∧ FL μ1 ν1 ∧ FA b μ μ1 ∧ FN ν ν1) ∨
    (r = 1 ∧ ∃ r2 μ2 ν2, Rd_expect 59 μ1 = some (r2, μ2) ∧ y = some (r2, ν2) ∧ ((r2 = 0 ∧ FL μ2 ν2 ∧ FA b μ μ2 ∧ FN ν ν2) ∨ (r2 = 1 ∧ P μ2 ν2))))
theorem LOG.base {b : Int} {μ ν μa νa : am_M} {P : am_M → am_M → Prop} {x y : am_O} (h : LOG b μa νa P x y) (h1 : FA b μ μa) (h2 : FN ν νa) : LOG b μ ν P x y := by
  obtain ⟨r, μ1, a1, a2⟩ := h
  refine ⟨r, μ1, a1, ?_⟩
  rcases a2 with ⟨z, ν1, y1, y2, y3, y4⟩ | ⟨z, r2, μ2, ν2, y1, y2, y3⟩
  · exact Or.inl ⟨z, ν1, y1, y2, h1.tr y3, h2.tr y4⟩
  · refine Or.inr ⟨z, r2, μ2, ν2, y1, y2, ?_⟩
    rcases y3 with ⟨u1, u2, u3, u4⟩ | u
    · exact Or.inl ⟨u1, u2, h1.tr u3, h2.tr u4⟩
    · exact Or.inr u
/-- a line was read, from states that had its other cells -/
def LZ (b B W l p q S0 : Int) (Wn : Int → Int) (μ ν μ2 ν2 : am_M) : Prop :=
  FL1 b l p μ μ2 ∧ FL2 B l q ν ν2 ∧ LN b B W l p μ2 ν2 ∧ RZ l q ν2 ∧ ∃ t, LR b 60 1000 W (μ2 20 6) t l Wn μ2 ν2 ∧ LQ 60 4 B t l S0 (μ2 20 6) ν2
theorem LOQ.g {b B W l p q t : Int} {Wn : Int → Int} {μ ν : am_M} {x y : am_O} (h : LOQ b B W l p q t Wn μ ν x y) (hl : 0 ≤ l) (hq : 1000 ≤ q) (hB : 1 ≤ B) : LOG b μ ν (LZ b B W l p q (μ 20 6) Wn μ ν) x y := by
  obtain ⟨r, μ1, a1, a2, a3⟩ := h
  refine ⟨r, μ1, a1, ?_⟩
  rcases a3 with ⟨z, ν1, y1, y2, y3⟩ | ⟨z, r2, μ2, ν2, y1, y2, y3, y4, y5⟩
  · exact Or.inl ⟨z, ν1, y1, y2, a2.fa, y3.fn hl hq hB⟩
  · refine Or.inr ⟨z, r2, μ2, ν2, y1, y2, ?_⟩
    rcases y5 with y | ⟨u1, u2, u3, u4, u5⟩
    · exact Or.inl ⟨y.1, y.2, y3.fa, y4.fn hl hq hB⟩
    · exact Or.inr ⟨u1, y3, y4, u2, u5, t, u3, u4⟩
theorem ends_rb {μ ν : am_M} (h : TR μ ν) (hf : μ 20 10 = 0) : q_bd (M_ends ν) (fun a x => q_rb a (some (a, x))) = q_bd (M_ends ν) (fun a x => if a = 0 then (some (0, x)) else (some (1, x))) := by
  obtain ⟨r2, μ3, ν3, -, c2, c3⟩ := ends_s h hf
  rw [c2, q_bd_s, q_bd_s]
  rcases c3 with ⟨d1, -⟩ | ⟨d1, -⟩
  · subst d1; rw [q_rb0]; rfl
  · subst d1; rw [q_rb1]; rfl
/-- other cells of the class -/
theorem LB_setμ {b B W l p k c i v : Int} {μ ν : am_M} (hb : bOk b) (h : LB b B W l p k μ ν) (hc : (c = 22) ∨ (c = 20 ∧ i = 7) ∨ (c = b + 7)) : LB b B W l p k (m_st μ c i v) ν := by
  have hb' : b = 100 ∨ b = 200 := hb
  have g : ∀ c' i', ¬ (c' = 22 ∨ (c' = 20 ∧ i' = 7) ∨ c' = b + 7) → m_st μ c i v c' i' = μ c' i' := by
    intro c' i' z
    rw [m_st_d, if_neg]
    intro y
    rw [y.1, y.2] at z
    exact z hc
  have h1 := h.ln
  exact (LB.mk (ln := (LN.mk (tr := h1.tr.cong (fun c i z => g c i (by omega)) (fun _ _ _ => rfl)) (rd := h1.rd.cong (fun i z => g _ _ (by omega))) (nw := h1.nw.cong (fun c i z => g c i (by omega)) (fun _ _ _ => rfl)) (sl := h1.sl.cong (fun c i z => g c i (by omega)) (fun _ _ _ => rfl)) (cB := h1.cB) (cW := h1.cW) (B1 := h1.B1) (cnt := by rw [g _ _ (by omega)]; exact h1.cnt) (reg := by rw [g _ _ (by omega)]; exact h1.reg) (l0 := h1.l0) (st := by rw [g _ _ (by omega)]; exact h1.st) (sp := by rw [g _ _ (by omega), g _ _ (by omega)]; exact h1.sp) (p0 := by rw [g _ _ (by omega)]; exact h1.p0) (cap := by rw [g _ _ (by omega), g _ _ (by omega)]; exact h1.cap) (q0 := h1.q0) (caq := by rw [g _ _ (by omega)]; exact h1.caq))) (pc := by rw [g _ _ (by omega)]; exact h.pc) (k2 := by rw [g _ _ (by omega)]; exact h.k2) (k3 := by rw [g _ _ (by omega)]; exact h.k3) (k4 := by rw [g _ _ (by omega)]; exact h.k4) (k5 := by rw [g _ _ (by omega)]; exact h.k5) (k6 := by rw [g _ _ (by omega)]; exact h.k6) (m2 := h.m2) (m3 := h.m3) (m4 := h.m4) (m5 := h.m5) (m6 := h.m6) (m7 := h.m7) (m10 := h.m10) (m11 := h.m11))
/-- other cells of the reference -/
theorem LB_setν {b B W l p k c i v : Int} {μ ν : am_M} (h : LB b B W l p k μ ν) (hc : c = 1008 ∨ c = 1009 ∨ c = 1034 ∨ c = 1035 ∨ (c = 1000 ∧ 43 ≤ i)) : LB b B W l p k μ (m_st ν c i v) := by
  have g : ∀ c' i', ¬ (c' = 1008 ∨ c' = 1009 ∨ c' = 1034 ∨ c' = 1035 ∨ (c' = 1000 ∧ 43 ≤ i')) → m_st ν c i v c' i' = ν c' i' := by
    intro c' i' z
    rw [m_st_d, if_neg]
    intro y
    rw [y.1, y.2] at z
    exact z hc
  have h1 := h.ln
  exact (LB.mk (ln := (LN.mk (tr := h1.tr.cong (fun _ _ _ => rfl) (fun c i z => g c i (by omega))) (rd := h1.rd) (nw := h1.nw.cong (fun _ _ _ => rfl) (fun c i z => g c i (by omega))) (sl := h1.sl.cong (fun _ _ _ => rfl) (fun c i z => g c i (by omega))) (cB := by rw [g _ _ (by omega)]; exact h1.cB) (cW := by rw [g _ _ (by omega)]; exact h1.cW) (B1 := h1.B1) (cnt := h1.cnt) (reg := h1.reg) (l0 := h1.l0) (st := h1.st) (sp := h1.sp) (p0 := h1.p0) (cap := h1.cap) (q0 := by rw [g _ _ (by omega)]; exact h1.q0) (caq := by rw [g _ _ (by omega)]; exact h1.caq))) (pc := h.pc) (k2 := h.k2) (k3 := h.k3) (k4 := h.k4) (k5 := h.k5) (k6 := h.k6) (m2 := by rw [g _ _ (by omega)]; exact h.m2) (m3 := by rw [g _ _ (by omega)]; exact h.m3) (m4 := by rw [g _ _ (by omega)]; exact h.m4) (m5 := by rw [g _ _ (by omega)]; exact h.m5) (m6 := by rw [g _ _ (by omega)]; exact h.m6) (m7 := fun i x y => by rw [g _ _ (by omega)]; exact h.m7 i x y) (m10 := by rw [g _ _ (by omega), g _ _ (by omega)]; exact h.m10) (m11 := by rw [g _ _ (by omega), g _ _ (by omega)]; exact h.m11))
/-- a line of one word -/
theorem word_s {b B W l p q k0 : Int} {Wn : Int → Int} {μ ν : am_M} (hb : bOk b) (h : LB b B W l p k0 μ ν) (hk : k0 = 6 ∨ k0 = 7) (hq : ν 1000 30 = q) : LOQ b B W l p q 0 Wn μ ν (some (1, μ)) (q_bd (M_ends ν) fun a x => q_rb a (some (a, x))) := by
  have hb' : b = 100 ∨ b = 200 := hb
  have hl := h.ln.l0
  rw [ends_rb h.ln.tr h.ln.rd.rf]
  refine line_endQ hb h.ln (fun _ _ _ => rfl) (fun _ _ _ => rfl) ⟨by rw [h.m10]; exact hq, h.m11⟩ (fun μ5 ν5 ln5 q1 q2 => ?_)
  have hs := ln5.sl.s0
  have e6 : μ5 20 6 = μ 20 6 := q1 _ _ (by decide)
  have m2 : ν5 1002 (60 + l) = k0 := by rw [q2 _ _ (by omega)]; exact h.m2
  have hn0 : nS k0 0 = 0 := by unfold nS; rw [if_neg (by omega), if_neg (by omega)]
  refine ⟨LR_ne (k0 := k0) (t := 0) (s1 := -1) (s2 := -1) (cl := -1) (kp := 1) hb h ln5 (by unfold hE; omega) (by decide) (by omega) (by rw [q1 _ _ (by omega)]; exact h.k2) (by rw [q1 _ _ (by omega)]; exact h.k3) (by rw [q1 _ _ (by omega)]; exact h.k4) (by rw [q1 _ _ (by omega), h.k5]; rfl) (by rw [q1 _ _ (by omega)]; exact h.k6) m2 (by rw [q2 _ _ (by omega)]; exact h.m3) (by rw [q2 _ _ (by omega)]; exact h.m4) (by rw [q2 _ _ (by omega)]; exact h.m5) (by rw [q2 _ _ (by omega)]; exact h.m6) (by rw [q2 _ _ (by omega)]; exact h.m10) (by rw [q2 _ _ (by omega)]; exact h.m11) (by omega) (by omega) (Or.inl rfl) (by decide) (by omega) (by omega) (by omega) (by omega) (by rw [q1 _ _ (by omega), hn0, h.pc]; omega) (fun i x y => by omega) (fun i x y => by rw [q2 _ _ (by omega)]; exact h.m7 i (by omega) y), (LQ.mk (cl := fun z => by omega) (la := fun z => by omega) (ns := fun z => by omega) (ss := by omega) (n0 := fun z => by omega))⟩
/-- else -/
theorem else_s {b B W l p q D i0 : Int} {Wn : Int → Int} {μ ν : am_M} (hb : bOk b) (h : LB b B W l p 6 μ ν) (hq : ν 1000 30 = q) (hD : 1 ≤ D ∧ D ≤ 3) (d1 : μ 20 7 = D) (d2 : ν 1000 45 = D) (t1 : μ 22 (D - 1) = i0) (t2 : ν 1034 (D - 1) = 60 + i0) (hi : 0 ≤ i0 ∧ i0 < 60) :
    LOQ b B W l p q 0 Wn (m_st (m_st μ (b + 7) i0 l) 22 (D - 1) l) (m_st (m_st ν 1035 (D - 1) 1) 1008 (60 + i0) (60 + l)) (q_gd 2 (μ 20 5) <| q_bd (X_at 22 (w32 ((μ 20 7) - 1)) μ) fun a38 μ39 => q_bd (X_put ((μ 20 5) + 6) a38 (μ39 20 12) μ39) fun a40 μ41 => q_bd (X_put 22 (w32 ((μ41 20 7) - 1)) (μ41 20 12) μ41) fun a42 μ43 => some (1, μ43))
      (q_stb 3 1035 (w32 ((ν 1000 45) - 1)) 1 ν fun μ3 => q_ld 3 1034 (w32 ((μ3 1000 45) - 1)) μ3 fun a4 => q_st 120 1008 a4 (60 + l) μ3 fun μ5 => q_bd (M_ends μ5) fun a6 μ7 => q_rb a6 (some (a6, μ7))) := by
  have hb' : b = 100 ∨ b = 200 := hb
  have hl := h.ln.l0
  have eb : b + 1 + 6 = b + 7 := by omega
  rw [h.ln.rd.rl, q_gd_s (bO2 hb), d1, w32_i (x := D - 1) (by omega) (by omega), X_at_22, if_pos (by omega), q_bd_s, t1, eb, h.ln.reg, bput7 hb, if_pos hi, q_bd_s]
  have e1 : m_st μ (b + 7) i0 l 20 7 = D := by rw [m_st_c (by omega)]; exact d1
  have e2 : m_st μ (b + 7) i0 l 20 12 = l := by rw [m_st_c (by omega)]; exact h.ln.reg
  rw [e1, e2, w32_i (x := D - 1) (by omega) (by omega), X_put_22, if_pos (by omega), q_bd_s, d2, w32_i (x := D - 1) (by omega) (by omega), q_stb_s (by omega) (by omega) (Or.inr rfl)]
  have e3 : m_st ν 1035 (D - 1) 1 1000 45 = D := by rw [m_st_c (by decide)]; exact d2
  have e4 : m_st ν 1035 (D - 1) 1 1034 (D - 1) = 60 + i0 := by rw [m_st_c (by decide)]; exact t2
  rw [e3, w32_i (x := D - 1) (by omega) (by omega), q_ld_s (by omega) (by omega), e4, q_st_s (by omega) (by omega)]
  exact word_s hb (LB_setν (LB_setν (LB_setμ hb (LB_setμ hb h (by omega)) (by omega)) (by omega)) (by omega)) (Or.inl rfl) (by rw [m_st_c (by decide), m_st_c (by decide)]; exact hq)
/-- end -/
theorem end_s {b B W l p q D i0 e0 : Int} {Wn : Int → Int} {μ ν : am_M} (hb : bOk b) (h : LB b B W l p 7 μ ν) (hq : ν 1000 30 = q) (hD : 1 ≤ D ∧ D ≤ 3) (d1 : μ 20 7 = D) (d2 : ν 1000 45 = D) (t1 : μ 22 (D - 1) = e0) (t2 : ν 1034 (D - 1) = 60 + i0) (hi : 0 ≤ i0 ∧ i0 < 60) (he : 0 ≤ e0 ∧ e0 < 60) (t3 : ν 1008 (60 + i0) = 60 + e0) :
    LOQ b B W l p q 0 Wn (m_st (m_st μ 20 7 (D - 1)) (b + 7) e0 l) (m_st (m_st (m_st ν 1000 45 (D - 1)) 1009 (60 + i0) (60 + l)) 1009 (60 + e0) (60 + l)) (q_pf 20 7 (w32 ((μ 20 7) - 1)) μ fun μ44 => q_gd 2 (μ44 20 5) <| q_bd (X_at 22 (μ44 20 7) μ44) fun a46 μ47 => q_bd (X_put ((μ44 20 5) + 6) a46 (μ47 20 12) μ47) fun a48 μ49 => some (1, μ49))
      (q_pf 1000 45 (w32 ((ν 1000 45) - 1)) ν fun μ3 => q_ld 3 1034 (μ3 1000 45) μ3 fun a4 => q_st 120 1009 a4 (60 + l) μ3 fun μ5 => q_ld 3 1034 (μ5 1000 45) μ5 fun a6 => q_ld 120 1008 a6 μ5 fun a7 => q_st 120 1009 a7 (60 + l) μ5 fun μ8 => q_bd (M_ends μ8) fun a9 μ10 => q_rb a9 (some (a9, μ10))) := by
  have hb' : b = 100 ∨ b = 200 := hb
  have hl := h.ln.l0
  have eb : b + 1 + 6 = b + 7 := by omega
  rw [d1, w32_i (x := D - 1) (by omega) (by omega), q_pf_d]
  have e1 : m_st μ 20 7 (D - 1) 20 5 = b + 1 := by rw [m_st_i (by decide)]; exact h.ln.rd.rl
  have e2 : m_st μ 20 7 (D - 1) 20 7 = D - 1 := by rw [m_st_d, if_pos ⟨rfl, rfl⟩]
  have e3 : m_st μ 20 7 (D - 1) 20 12 = l := by rw [m_st_i (by decide)]; exact h.ln.reg
  have e4 : m_st μ 20 7 (D - 1) 22 (D - 1) = e0 := by rw [m_st_c (by decide)]; exact t1
  rw [e1, q_gd_s (bO2 hb), e2, X_at_22, if_pos (by omega), q_bd_s, e3, e4, eb, bput7 hb, if_pos he, q_bd_s, d2, w32_i (x := D - 1) (by omega) (by omega), q_pf_d]
  have n1 : m_st ν 1000 45 (D - 1) 1000 45 = D - 1 := by rw [m_st_d, if_pos ⟨rfl, rfl⟩]
  have n2 : m_st ν 1000 45 (D - 1) 1034 (D - 1) = 60 + i0 := by rw [m_st_c (by decide)]; exact t2
  rw [n1, q_ld_s (by omega) (by omega), n2, q_st_s (by omega) (by omega)]
  have n3 : m_st (m_st ν 1000 45 (D - 1)) 1009 (60 + i0) (60 + l) 1000 45 = D - 1 := by rw [m_st_c (by decide)]; exact n1
  have n4 : m_st (m_st ν 1000 45 (D - 1)) 1009 (60 + i0) (60 + l) 1034 (D - 1) = 60 + i0 := by rw [m_st_c (by decide)]; exact n2
  have n5 : m_st (m_st ν 1000 45 (D - 1)) 1009 (60 + i0) (60 + l) 1008 (60 + i0) = 60 + e0 := by rw [m_st_c (by decide), m_st_c (by decide)]; exact t3
  rw [n3, q_ld_s (by omega) (by omega), n4, q_ld_s (by omega) (by omega), n5, q_st_s (by omega) (by omega)]
  exact word_s hb (LB_setν (LB_setν (LB_setν (LB_setμ hb (LB_setμ hb h (by omega)) (by omega)) (by omega)) (by omega)) (by omega)) (Or.inr rfl) (by rw [m_st_c (by decide), m_st_c (by decide), m_st_i (by decide)]; exact hq)
/-- what if leaves with the reference -/
def ifM (D l : Int) (ν : am_M) : am_M := m_st (m_st (m_st ν 1034 D (60 + l)) 1035 D 0) 1000 45 (D + 1)
theorem if_s {b B W l p q D : Int} {Wn : Int → Int} {μ ν : am_M} (hb : bOk b) (h : LB b B W l p 5 μ ν) (hq : ν 1000 30 = q) (hWr : ∀ w, r32 (Wn w)) (hWn : ∀ w, 0 ≤ w → w < W → Wn w = ν 1015 (4 + w)) (hD : 0 ≤ D ∧ D ≤ 2) (d1 : μ 20 7 = D) (d2 : ν 1000 45 = D) :
    LOG b μ ν (fun μ2 ν2 => ∃ ν3, ν2 = ifM D l ν3 ∧ LZ b B W l p q (μ 20 6) Wn (m_st (m_st μ 22 D l) 20 7 (D + 1)) ν μ2 ν3) (q_bd (X_put 22 (μ 20 7) (μ 20 12) μ) fun a32 μ33 => q_pf 20 7 (w32 ((μ33 20 7) + 1)) μ33 fun μ34 => q_bd (Rd_readSum μ34) fun a35 μ36 => q_rb a35 (some (a35, μ36)))
      (q_bd (M_readsE (60 + l) ν) fun a3 μ4 => if a3 = 0 then (some (0, μ4)) else (q_st 3 1034 (μ4 1000 45) (60 + l) μ4 fun μ5 => q_stb 3 1035 (μ5 1000 45) 0 μ5 fun μ6 => q_pf 1000 45 (w32 ((μ6 1000 45) + 1)) μ6 fun μ7 => some (1, μ7))) := by
  have hb' : b = 100 ∨ b = 200 := hb
  have hl := h.ln.l0
  have hs := h.ln.sl.s0
  rw [d1, h.ln.reg, X_put_22, if_pos (by omega), q_bd_s]
  have e1 : m_st μ 22 D l 20 7 = D := by rw [m_st_c (by decide)]; exact d1
  rw [e1, w32_i (x := D + 1) (by omega) (by omega), q_pf_d]
  have h1 : LB b B W l p 5 (m_st (m_st μ 22 D l) 20 7 (D + 1)) ν := LB_setμ hb (LB_setμ hb h (by omega)) (by omega)
  have e6 : m_st (m_st μ 22 D l) 20 7 (D + 1) 20 6 = μ 20 6 := by rw [m_st_i (by decide), m_st_c (by decide)]
  have hqq := h.ln.q0
  have hB1 := h.ln.B1
  have fa : FA b μ (m_st (m_st μ 22 D l) 20 7 (D + 1)) := fun c i z => by rw [m_st_d, if_neg (by omega), m_st_d, if_neg (by omega)]
  generalize m_st (m_st μ 22 D l) 20 7 (D + 1) = μa at *
  have hE := E_line hb (μ0 := μa) (ν0 := ν) (EL.mk (ln := h1.ln) (pc := h1.pc) (qc := hq) (f1 := fun _ _ _ => rfl) (f2 := fun _ _ _ => rfl) (ke := Or.inr (Or.inl rfl)) (k2 := h1.k2) (k3 := h1.k3) (k4 := h1.k4) (k5 := (show μa (b + 5) l = if (1 : Int) = 1 then 1 else 0 from h1.k5)) (k6 := h1.k6) (m2 := h1.m2) (m3 := h1.m3) (m4 := h1.m4) (m5 := h1.m5) (m6 := h1.m6) (m7 := h1.m7) (kk := Or.inl rfl) (sr := by omega) (x1 := by decide) (x4 := by decide) (ns := fun n x y => by omega) (s6 := Int.le_refl _) (t3 := Int.le_refl _) (wr := hWr) (wn := hWn))
  rw [hE.idx.1]
  obtain ⟨r, μ1, a1, a2, a3⟩ := hE
  refine ⟨r, μ1, a1, ?_⟩
  rcases a3 with ⟨z, ν1, y1, y2, y3⟩ | ⟨z, r2, μ2, ν2, y1, y2, y3, y4, y5⟩
  · refine Or.inl ⟨z, ν1, ?_, y2, fa.tr a2.fa, y3.fn (by omega) (by omega) hB1⟩
    rw [y1, q_bd_s, if_pos rfl]
  · refine Or.inr ⟨z, r2, μ2, ?_⟩
    rcases y5 with ⟨u1, u2⟩ | ⟨u1, u2, u3, u4, u5⟩
    · subst u1
      exact ⟨ν2, y1, by rw [y2, q_bd_s, if_pos rfl], Or.inl ⟨rfl, u2, fa.tr y3.fa, y4.fn (by omega) (by omega) hB1⟩⟩
    · subst u1
      refine ⟨ifM D l ν2, y1, ?_, Or.inr ⟨rfl, ν2, rfl, y3, y4, u2, u5, 0, u3, by rw [← e6]; exact u4⟩⟩
      have n1 : ν2 1000 45 = D := by rw [y4 _ _ (by omega)]; exact d2
      have n2 : m_st ν2 1034 D (60 + l) 1000 45 = D := by rw [m_st_c (by decide)]; exact n1
      have n3 : m_st (m_st ν2 1034 D (60 + l)) 1035 D 0 1000 45 = D := by rw [m_st_c (by decide)]; exact n2
      rw [y2, q_bd_s, if_neg (by decide), n1, q_st_s (by omega) (by omega), n2, q_stb_s (by omega) (by omega) (Or.inl rfl), n3, w32_i (x := D + 1) (by omega) (by omega), q_pf_d]
      rfl
