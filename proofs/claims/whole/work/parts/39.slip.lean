/-! A slip's name in a line, on both sides. -/
def LN (b B W l p : Int) (μ ν : am_M) : Prop := (TR μ ν) ∧ (RD b μ) ∧ (NW b μ ν) ∧ (SL μ ν) ∧ (ν 1013 4 = B) ∧ (ν 1013 3 = W) ∧ (1 ≤ B) ∧ (μ (b + 1) 10 = l + 1) ∧ (μ 20 12 = l) ∧ (0 ≤ l ∧ l < 60) ∧ (μ (b + 9) l = p) ∧ (μ (b + 10) l = μ (b + 1) 11) ∧ (0 ≤ p ∧ p ≤ μ (b + 1) 11) ∧ (μ (b + 1) 11 ≤ μ 10 3) ∧ (1000 ≤ ν 1000 30) ∧ (ν 1000 30 ≤ 1000 + μ 10 3)
theorem LN.tr {b B W l p : Int} {μ ν : am_M} (h : LN b B W l p μ ν) : TR μ ν := h.1
theorem LN.rd {b B W l p : Int} {μ ν : am_M} (h : LN b B W l p μ ν) : RD b μ := h.2.1
theorem LN.nw {b B W l p : Int} {μ ν : am_M} (h : LN b B W l p μ ν) : NW b μ ν := h.2.2.1
theorem LN.sl {b B W l p : Int} {μ ν : am_M} (h : LN b B W l p μ ν) : SL μ ν := h.2.2.2.1
theorem LN.cB {b B W l p : Int} {μ ν : am_M} (h : LN b B W l p μ ν) : ν 1013 4 = B := h.2.2.2.2.1
theorem LN.cW {b B W l p : Int} {μ ν : am_M} (h : LN b B W l p μ ν) : ν 1013 3 = W := h.2.2.2.2.2.1
theorem LN.B1 {b B W l p : Int} {μ ν : am_M} (h : LN b B W l p μ ν) : 1 ≤ B := h.2.2.2.2.2.2.1
theorem LN.cnt {b B W l p : Int} {μ ν : am_M} (h : LN b B W l p μ ν) : μ (b + 1) 10 = l + 1 := h.2.2.2.2.2.2.2.1
theorem LN.reg {b B W l p : Int} {μ ν : am_M} (h : LN b B W l p μ ν) : μ 20 12 = l := h.2.2.2.2.2.2.2.2.1
theorem LN.l0 {b B W l p : Int} {μ ν : am_M} (h : LN b B W l p μ ν) : 0 ≤ l ∧ l < 60 := h.2.2.2.2.2.2.2.2.2.1
theorem LN.st {b B W l p : Int} {μ ν : am_M} (h : LN b B W l p μ ν) : μ (b + 9) l = p := h.2.2.2.2.2.2.2.2.2.2.1
theorem LN.sp {b B W l p : Int} {μ ν : am_M} (h : LN b B W l p μ ν) : μ (b + 10) l = μ (b + 1) 11 := h.2.2.2.2.2.2.2.2.2.2.2.1
theorem LN.p0 {b B W l p : Int} {μ ν : am_M} (h : LN b B W l p μ ν) : 0 ≤ p ∧ p ≤ μ (b + 1) 11 := h.2.2.2.2.2.2.2.2.2.2.2.2.1
theorem LN.cap {b B W l p : Int} {μ ν : am_M} (h : LN b B W l p μ ν) : μ (b + 1) 11 ≤ μ 10 3 := h.2.2.2.2.2.2.2.2.2.2.2.2.2.1
theorem LN.q0 {b B W l p : Int} {μ ν : am_M} (h : LN b B W l p μ ν) : 1000 ≤ ν 1000 30 := h.2.2.2.2.2.2.2.2.2.2.2.2.2.2.1
theorem LN.caq {b B W l p : Int} {μ ν : am_M} (h : LN b B W l p μ ν) : ν 1000 30 ≤ 1000 + μ 10 3 := h.2.2.2.2.2.2.2.2.2.2.2.2.2.2.2
theorem LN.mk {b B W l p : Int} {μ ν : am_M} (tr : TR μ ν) (rd : RD b μ) (nw : NW b μ ν) (sl : SL μ ν) (cB : ν 1013 4 = B) (cW : ν 1013 3 = W) (B1 : 1 ≤ B) (cnt : μ (b + 1) 10 = l + 1) (reg : μ 20 12 = l) (l0 : 0 ≤ l ∧ l < 60) (st : μ (b + 9) l = p) (sp : μ (b + 10) l = μ (b + 1) 11) (p0 : 0 ≤ p ∧ p ≤ μ (b + 1) 11) (cap : μ (b + 1) 11 ≤ μ 10 3) (q0 : 1000 ≤ ν 1000 30) (caq : ν 1000 30 ≤ 1000 + μ 10 3) : LN b B W l p μ ν := ⟨tr, rd, nw, sl, cB, cW, B1, cnt, reg, l0, st, sp, p0, cap, q0, caq⟩
/-- the next token, cells of the line as they may -/
theorem LN_next {b B W l p : Int} {μ ν μ2 ν2 : am_M} (hb : bOk b) (h : LN b B W l p μ ν) (ht : ν 1000 6 ≠ 0) (sl : SL μ2 ν2)
    (f1 : ∀ c i, ¬ ((c = 20 ∧ (i = 6 ∨ i = 8 ∨ i = 9)) ∨ c = 21 ∨ c = 23 ∨ (c = b + 1 ∧ i = 11) ∨ (b + 3 ≤ c ∧ c ≤ b + 6 ∧ i = l) ∨ (c = b + 10 ∧ i = l) ∨ (c = b + 11 ∧ p ≤ i)) → μ2 c i = μ c i)
    (f2 : ∀ c i, ¬ ((c = 1020 ∧ i = 3 + B) ∨ c = 1021) → ν2 c i = ν c i)
    (sp : μ2 (b + 10) l = μ2 (b + 1) 11) (hc : μ (b + 1) 11 ≤ μ2 (b + 1) 11 ∧ μ2 (b + 1) 11 ≤ μ (b + 1) 11 + 1) :
    ∃ μ' ν', Tp_advance μ2 = some (0, μ') ∧ M_nextToken ν2 = some (0, ν') ∧ LN b B W l p μ' ν' ∧ (∀ c i, c ≠ 10 → μ' c i = μ2 c i) ∧ (∀ c i, ¬ (c = 1000 ∧ 4 ≤ i ∧ i ≤ 8) → ν' c i = ν2 c i) ∧ μ 10 3 < μ' 10 3 := by
  have hb' : b = 100 ∨ b = 200 := hb
  have tr2 : TR μ2 ν2 := h.tr.cong (fun c i z => f1 c i (by omega)) (fun c i z => f2 c i (by omega))
  obtain ⟨μ', ν', a1, a2, a3, a4, a5, a6, a7⟩ := TR_adv tr2.base
  have hl := tr2.lst (by rw [f2 _ _ (by omega)]; exact ht)
  have e3 : μ2 10 3 = μ 10 3 := f1 _ _ (by omega)
  have hcap := h.cap
  have hcaq := h.caq
  have hp := h.p0
  refine ⟨μ', ν', a1, a2, ?_, a4, a5, by omega⟩
  exact (LN.mk (tr := a3) (rd := h.rd.cong (fun i z => by rw [a4 _ _ (by omega), f1 _ _ (by omega)])) (nw := h.nw.cong (fun c i z => by rw [a4 _ _ (by omega), f1 _ _ (by omega)]) (fun c i z => by rw [a5 _ _ (by omega), f2 _ _ (by omega)])) (sl := sl.cong (fun c i z => a4 _ _ (by omega)) (fun c i z => a5 _ _ (by omega))) (cB := by rw [a5 _ _ (by omega), f2 _ _ (by omega)]; exact h.cB) (cW := by rw [a5 _ _ (by omega), f2 _ _ (by omega)]; exact h.cW) (B1 := h.B1) (cnt := by rw [a4 _ _ (by omega), f1 _ _ (by omega)]; exact h.cnt) (reg := by rw [a4 _ _ (by omega), f1 _ _ (by omega)]; exact h.reg) (l0 := h.l0) (st := by rw [a4 _ _ (by omega), f1 _ _ (by omega)]; exact h.st) (sp := by rw [a4 _ _ (by omega), a4 _ _ (by omega)]; exact sp) (p0 := by rw [a4 _ _ (by omega)]; omega) (cap := by rw [a4 _ _ (by omega)]; omega) (q0 := by rw [a5 _ _ (by omega), f2 _ _ (by omega)]; exact h.q0) (caq := by rw [a5 _ _ (by omega), f2 _ _ (by omega)]; omega))
/-- what reading a slip's name may change -/
def FRS (b l pt : Int) (μ μ' : am_M) : Prop := ∀ c i, ¬ (c = 10 ∨ (c = 20 ∧ (i = 6 ∨ i = 10)) ∨ c = 21 ∨ (pt = 0 ∧ ((c = b + 1 ∧ i = 11) ∨ (c = b + 11 ∧ i = μ (b + 1) 11) ∨ (c = b + 10 ∧ i = l))) ∨ (pt = 1 ∧ c = b + 3 ∧ i = l) ∨ (pt = 2 ∧ c = b + 4 ∧ i = l)) → μ' c i = μ c i
def FMS (B : Int) (ν ν' : am_M) : Prop := ∀ c i, ¬ ((c = 1000 ∧ 4 ≤ i ∧ i ≤ 9) ∨ (c = 1020 ∧ i = 3 + B) ∨ c = 1021) → ν' c i = ν c i
theorem FRS_0 {b l n : Int} {μ μs μa μ' : am_M} (s4 : ∀ c i, ¬ ((c = 20 ∧ i = 6) ∨ c = 21) → μs c i = μ c i) (g5 : ∀ c i, ¬ ((c = b + 1 ∧ i = 11) ∨ (c = b + 11 ∧ i = n) ∨ (c = b + 10 ∧ i = l)) → μa c i = μs c i) (a4 : ∀ c i, c ≠ 10 → μ' c i = μa c i) (hn : n = μ (b + 1) 11) : FRS b l 0 μ μ' := by
  subst hn
  intro c i z
  have z1 : c ≠ 10 := fun y => z (Or.inl y)
  have z2 : ¬ ((c = 20 ∧ i = 6) ∨ c = 21) := by omega
  have z3 : ¬ ((c = b + 1 ∧ i = 11) ∨ (c = b + 11 ∧ i = μ (b + 1) 11) ∨ (c = b + 10 ∧ i = l)) := fun y => z (Or.inr (Or.inr (Or.inr (Or.inl ⟨rfl, y⟩))))
  rw [a4 c i z1, g5 c i z3, s4 c i z2]
theorem FRS_1 {b l : Int} {μ μs μa μ' : am_M} (s4 : ∀ c i, ¬ ((c = 20 ∧ i = 6) ∨ c = 21) → μs c i = μ c i) (g5 : ∀ c i, ¬ (c = b + 3 ∧ i = l) → μa c i = μs c i) (a4 : ∀ c i, c ≠ 10 → μ' c i = μa c i) : FRS b l 1 μ μ' := by
  intro c i z
  have z1 : c ≠ 10 := fun y => z (Or.inl y)
  have z2 : ¬ ((c = 20 ∧ i = 6) ∨ c = 21) := by omega
  have z3 : ¬ (c = b + 3 ∧ i = l) := fun y => z (Or.inr (Or.inr (Or.inr (Or.inr (Or.inl ⟨rfl, y⟩)))))
  rw [a4 c i z1, g5 c i z3, s4 c i z2]
theorem FRS_2 {b l : Int} {μ μs μa μ' : am_M} (s4 : ∀ c i, ¬ ((c = 20 ∧ i = 6) ∨ c = 21) → μs c i = μ c i) (g5 : ∀ c i, ¬ (c = b + 4 ∧ i = l) → μa c i = μs c i) (a4 : ∀ c i, c ≠ 10 → μ' c i = μa c i) : FRS b l 2 μ μ' := by
  intro c i z
  have z1 : c ≠ 10 := fun y => z (Or.inl y)
  have z2 : ¬ ((c = 20 ∧ i = 6) ∨ c = 21) := by omega
  have z3 : ¬ (c = b + 4 ∧ i = l) := fun y => z (Or.inr (Or.inr (Or.inr (Or.inr (Or.inr ⟨rfl, y⟩)))))
  rw [a4 c i z1, g5 c i z3, s4 c i z2]
set_option maxHeartbeats 8000000 in
theorem slip_read {b B W l p pt : Int} {μ ν : am_M} (hb : bOk b) (hpt : pt = 0 ∨ pt = 1 ∨ pt = 2) (h : LN b B W l p μ ν) : ∃ r μ' s ν', Rd_readSlip pt μ = some (r, μ') ∧ M_needsSlip ν = some (s, ν') ∧ FRS b l pt μ μ' ∧ FMS B ν ν' ∧
    ((r = 0 ∧ s = -1 ∧ FL μ' ν') ∨ (r = 1 ∧ 0 ≤ s ∧ s < μ' 20 6 ∧ s < 10 ∧ LN b B W l p μ' ν' ∧ μ 10 3 < μ' 10 3 ∧ (pt = 0 → μ' (b + 1) 11 = μ (b + 1) 11 + 1 ∧ μ' (b + 11) (μ (b + 1) 11) = 2 + s * 128) ∧ (pt = 1 → μ' (b + 3) l = s) ∧ (pt = 2 → μ' (b + 4) l = s) ∧ μ 20 6 ≤ μ' 20 6 ∧ μ 10 5 = 2 ∧ wf ν = -1 ∧ (sf ν = -1 → s = μ 20 6 ∧ μ' 20 6 = μ 20 6 + 1) ∧ (sf ν ≠ -1 → s = sf ν ∧ μ' 20 6 = μ 20 6))) := by
  have hb' : b = 100 ∨ b = 200 := hb
  have hB := h.cB
  have hB1 := h.B1
  have hW := h.nw.w0
  have hl0 := h.l0
  unfold Rd_readSlip M_needsSlip
  rw [isKp h.tr, q_bd_s]
  by_cases c2 : μ 10 5 = 2
  · rw [if_pos c2, if_pos c2, if_pos rfl]
    have hk := (tkN h.tr).2.2 c2
    have hwf := wf_s hb h.tr h.nw hk
    have hwr : wf ν = -1 ∨ (0 ≤ wf ν ∧ wf ν < ν 1013 3) := by
      unfold wf
      rcases fnd_b (ν 1014) (ν 1000 7) (ν 1013 3).toNat 0 (Int.le_refl _) with z | ⟨z1, z2, -⟩
      · exact Or.inl z
      · right; omega
    rw [Rd_isWall_s hb h.tr h.rd h.nw hk, q_bd_s, hwf.2, q_bd_s]
    by_cases c3 : wf ν = -1
    · rw [if_pos c3, if_pos rfl, if_pos (show wf ν < 0 by omega)]
      obtain ⟨s, μs, νs, s1, s2, s3, s4, s5, s6, s7, s8, s9⟩ := slip_s h.tr h.nw h.sl hk (by omega)
      rw [hB] at s5
      rw [s1, s2, q_bd_s, q_bd_s]
      have trs : TR μs νs := h.tr.cong (fun c i z => s4 c i (by omega)) (fun c i z => s5 c i (by omega))
      by_cases c4 : s = -1
      · rw [if_pos c4, if_pos (show s < 0 by omega)]
        obtain ⟨f1, f2, f3⟩ := fail_s (k := 5) trs (by rw [s4 _ _ (by omega)]; exact h.rd.rf) (by decide)
        rw [f1, f2, q_bd_s, q_bd_s, q_rb0, if_pos rfl]
        exact ⟨0, _, -1, _, rfl, rfl, fun c i z => by rw [m_st_d, if_neg (by omega), s4 c i (by omega)], fun c i z => by rw [m_st_d, if_neg (by omega), s5 c i (by omega)], Or.inl ⟨rfl, rfl, f3⟩⟩
      · rw [if_neg c4, if_neg (show ¬ s < 0 by omega)]
        have hrl : μs 20 5 = b + 1 := by rw [s4 _ _ (by omega)]; exact h.rd.rl
        have hrg : μs 20 12 = l := by rw [s4 _ _ (by omega)]; exact h.reg
        have e11 : μs (b + 1) 11 = μ (b + 1) 11 := s4 _ _ (by omega)
        have hp0 := h.p0
        have hcap := h.cap
        have hlst := h.tr.lst (by omega)
        have hat := h.tr.base.at3
        have hn1 := h.tr.base.n1
        have ht : ν 1000 6 ≠ 0 := by omega
        rw [hrl]
        by_cases p0 : pt = 0
        · subst p0
          clear hpt hwr
          rw [if_pos rfl, q_gd_s (bO2 hb)]
          have ecn : μs (b + 1) 10 = l + 1 := by rw [s4 _ _ (by omega)]; exact h.cnt
          obtain ⟨μa, g1, g2, g3, g4, g5⟩ := addCode_s (k := 2) (v := s) hb (μ := μs) (by omega) (by omega) (by omega) (by omega) (by omega) (by omega)
          rw [e11] at g2 g3 g4 g5
          rw [ecn] at g4 g5
          have el : l + 1 - 1 = l := by omega
          rw [el] at g4 g5
          rw [g1, q_bd_s]
          obtain ⟨μ', ν', a1, a2, a3, a4, a5, a6⟩ := LN_next hb h ht (s3.cong (fun c i z => g5 _ _ (by omega)) (fun _ _ _ => rfl)) (fun c i z => by rw [g5 c i (by omega), s4 c i (by omega)]) s5 (by rw [g4, g2]) (by rw [g2]; omega)
          unfold Rd_readSlip_B92
          rw [a1, q_bd_s, a2, q_bd_s]
          have e6 : μ' 20 6 = μs 20 6 := by rw [a4 _ _ (by omega), g5 _ _ (by omega)]
          exact ⟨1, μ', s, ν', rfl, rfl, FRS_0 s4 g5 a4 rfl, fun c i z => by rw [a5 c i (by omega), s5 c i (by omega)], Or.inr ⟨rfl, by omega, by omega, by omega, a3, a6, fun _ => ⟨by rw [a4 _ _ (by omega), g2], by rw [a4 _ _ (by omega), g3]⟩, fun z => by omega, fun z => by omega, by omega, c2, c3, fun z => by have := s8 z c4; omega, fun z => by have := s9 z; omega⟩⟩
        · rw [if_neg p0]
          by_cases p1 : pt = 1
          · subst p1
            clear hpt hwr p0
            rw [if_pos rfl, q_gd_s (bO2 hb)]
            unfold Rd_readSlip_B84
            have eb : b + 1 + 2 = b + 3 := by omega
            rw [hrg, eb, bput3 hb, if_pos (by omega), q_bd_s]
            have g5 : ∀ c i, ¬ (c = b + 3 ∧ i = l) → m_st μs (b + 3) l s c i = μs c i := fun c i z => by rw [m_st_d, if_neg z]
            obtain ⟨μ', ν', a1, a2, a3, a4, a5, a6⟩ := LN_next hb h ht (s3.cong (fun c i z => g5 _ _ (by omega)) (fun _ _ _ => rfl)) (fun c i z => by rw [g5 c i (by omega), s4 c i (by omega)]) s5 (by rw [g5 _ _ (by omega), g5 _ _ (by omega), s4 _ _ (by omega), e11]; exact h.sp) (by rw [g5 _ _ (by omega), e11]; omega)
            unfold Rd_readSlip_B92
            rw [a1, q_bd_s, a2, q_bd_s]
            have e6 : μ' 20 6 = μs 20 6 := by rw [a4 _ _ (by omega), g5 _ _ (by omega)]
            exact ⟨1, μ', s, ν', rfl, rfl, FRS_1 s4 g5 a4, fun c i z => by rw [a5 c i (by omega), s5 c i (by omega)], Or.inr ⟨rfl, by omega, by omega, by omega, a3, a6, fun z => by omega, fun _ => by rw [a4 _ _ (by omega), m_st_d, if_pos ⟨rfl, rfl⟩], fun z => by omega, by omega, c2, c3, fun z => by have := s8 z c4; omega, fun z => by have := s9 z; omega⟩⟩
          · have p2 : pt = 2 := by omega
            subst p2
            clear hpt hwr p0 p1
            rw [if_neg (by decide), q_gd_s (bO2 hb)]
            unfold Rd_readSlip_B84
            have eb : b + 1 + 3 = b + 4 := by omega
            rw [hrg, eb, bput4 hb, if_pos (by omega), q_bd_s]
            have g5 : ∀ c i, ¬ (c = b + 4 ∧ i = l) → m_st μs (b + 4) l s c i = μs c i := fun c i z => by rw [m_st_d, if_neg z]
            obtain ⟨μ', ν', a1, a2, a3, a4, a5, a6⟩ := LN_next hb h ht (s3.cong (fun c i z => g5 _ _ (by omega)) (fun _ _ _ => rfl)) (fun c i z => by rw [g5 c i (by omega), s4 c i (by omega)]) s5 (by rw [g5 _ _ (by omega), g5 _ _ (by omega), s4 _ _ (by omega), e11]; exact h.sp) (by rw [g5 _ _ (by omega), e11]; omega)
            unfold Rd_readSlip_B92
            rw [a1, q_bd_s, a2, q_bd_s]
            have e6 : μ' 20 6 = μs 20 6 := by rw [a4 _ _ (by omega), g5 _ _ (by omega)]
            exact ⟨1, μ', s, ν', rfl, rfl, FRS_2 s4 g5 a4, fun c i z => by rw [a5 c i (by omega), s5 c i (by omega)], Or.inr ⟨rfl, by omega, by omega, by omega, a3, a6, fun z => by omega, fun z => by omega, fun _ => by rw [a4 _ _ (by omega), m_st_d, if_pos ⟨rfl, rfl⟩], by omega, c2, c3, fun z => by have := s8 z c4; omega, fun z => by have := s9 z; omega⟩⟩
    · rw [if_neg c3, if_neg (by decide), if_neg (show ¬ wf ν < 0 by omega)]
      obtain ⟨f1, f2, f3⟩ := fail_s (k := 3) h.tr h.rd.rf (by decide)
      rw [f1, f2, q_bd_s, q_bd_s, q_rb0, if_pos rfl]
      exact ⟨0, _, -1, _, rfl, rfl, fun c i z => by rw [m_st_d, if_neg (by omega)], fun c i z => by rw [m_st_d, if_neg (by omega)], Or.inl ⟨rfl, rfl, f3⟩⟩
  · rw [if_neg c2, if_neg c2, if_neg (by decide)]
    obtain ⟨f1, f2, f3⟩ := fail_s (k := 1) h.tr h.rd.rf (by decide)
    rw [f1, f2, q_bd_s, q_bd_s, q_rb0, if_pos rfl]
    exact ⟨0, _, -1, _, rfl, rfl, fun c i z => by rw [m_st_d, if_neg (by omega)], fun c i z => by rw [m_st_d, if_neg (by omega)], Or.inl ⟨rfl, rfl, f3⟩⟩
