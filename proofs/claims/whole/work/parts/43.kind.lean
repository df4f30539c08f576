/-! once or most. -/
theorem kindAt_s {μ ν : am_M} (h : TR μ ν) : M_kindAt ν = some (if μ 10 5 = 111 then 1 else if μ 10 5 = 112 then 2 else 0, ν) := by
  unfold M_kindAt
  rw [isWd h (by decide : (100 : Int) ≤ 111) kwI11, q_bd_s]
  by_cases c1 : μ 10 5 = 111
  · rw [if_pos c1, if_pos c1, if_neg (by decide)]
  · rw [if_neg c1, if_neg c1, if_pos rfl, isWd h (by decide : (100 : Int) ≤ 112) kwI12, q_bd_s]
    by_cases c2 : μ 10 5 = 112
    · rw [if_pos c2, if_pos c2, if_neg (by decide)]
    · rw [if_neg c2, if_neg c2, if_pos rfl]
theorem readKind_s {b B W l p : Int} {μ ν : am_M} (hb : bOk b) (h : LN b B W l p μ ν) : (μ 10 5 = 111 → Rd_readKind μ = q_bd (Tp_advance (m_st μ (b + 5) l 1)) fun _ x => some (1, x)) ∧ (μ 10 5 = 112 → Rd_readKind μ = q_bd (Tp_advance (m_st μ (b + 5) l 0)) fun _ x => some (1, x)) ∧ (μ 10 5 ≠ 111 → μ 10 5 ≠ 112 → Rd_readKind μ = some (0, m_st (m_st μ (b + 5) l 0) 20 10 (1 + 16 * μ 10 3))) := by
  have hb' : b = 100 ∨ b = 200 := hb
  have hl := h.l0
  have e5 : b + 1 + 4 = b + 5 := by omega
  have k5 : ∀ v, m_st μ (b + 5) l v 10 5 = μ 10 5 := fun v => m_st_c (by omega)
  refine ⟨fun c => ?_, fun c => ?_, fun c c2 => ?_⟩
  · unfold Rd_readKind
    rw [h.rd.rl, q_gd_s (bO2 hb), if_pos c]
    unfold Rd_readKind_B28
    rw [h.reg, e5, bput5 hb, if_pos hl, q_bd_s, k5, if_pos c]
    unfold Rd_readKind_B51 Rd_expect
    rw [k5, if_pos c]
    cases hA : Tp_advance (m_st μ (b + 5) l 1) with
    | none => rfl
    | some x =>
      obtain ⟨a, μ2⟩ := x
      rw [q_bd_s, q_bd_s, q_rb1]
  · unfold Rd_readKind
    rw [h.rd.rl, q_gd_s (bO2 hb), if_neg (by omega)]
    unfold Rd_readKind_B28
    rw [h.reg, e5, bput5 hb, if_pos hl, q_bd_s, k5, if_neg (by omega)]
    unfold Rd_readKind_B51 Rd_expect
    rw [k5, if_pos c]
    cases hA : Tp_advance (m_st μ (b + 5) l 0) with
    | none => rfl
    | some x =>
      obtain ⟨a, μ2⟩ := x
      rw [q_bd_s, q_bd_s, q_rb1]
  · unfold Rd_readKind
    rw [h.rd.rl, q_gd_s (bO2 hb), if_neg c]
    unfold Rd_readKind_B28
    rw [h.reg, e5, bput5 hb, if_pos hl, q_bd_s, k5, if_neg c]
    unfold Rd_readKind_B51 Rd_expect
    rw [k5, if_neg c2]
    have tr' : TR (m_st μ (b + 5) l 0) ν := h.tr.cong (fun c i z => m_st_c (by omega)) (fun _ _ _ => rfl)
    have rf' : m_st μ (b + 5) l 0 20 10 = 0 := by rw [m_st_c (by omega)]; exact h.rd.rf
    have k3 : m_st μ (b + 5) l 0 10 3 = μ 10 3 := m_st_c (by omega)
    obtain ⟨f1, -, -⟩ := fail_s (k := 1) tr' rf' (by decide)
    rw [k3] at f1
    rw [f1, q_bd_s, q_rb0, q_bd_s, q_rb0]
