/-! A line begun: the reference's rows of it. -/
def preM (k ln : Int) (ν : am_M) : am_M :=
  m_st (m_st (m_st (m_st (m_st (m_st (m_st (m_st (m_st (m_st (m_st ν 1002 ln k) 1003 ln (-1)) 1004 ln (-1)) 1005 ln 1) 1006 ln (-1)) 1010 ln (ν 1000 30)) 1011 ln (ν 1000 30)) 1007 (4 * ln + 0) (-1)) 1007 (4 * ln + 1) (-1)) 1007 (4 * ln + 2) (-1)) 1007 (4 * ln + 3) (-1)
theorem preM_f {k ln : Int} {ν : am_M} : ∀ c i, ¬ ((((1002 ≤ c ∧ c ≤ 1006) ∨ c = 1010 ∨ c = 1011) ∧ i = ln) ∨ (c = 1007 ∧ 4 * ln ≤ i ∧ i < 4 * ln + 4)) → preM k ln ν c i = ν c i := by
  intro c i z
  unfold preM
  rw [m_st_d, if_neg (by omega), m_st_d, if_neg (by omega), m_st_d, if_neg (by omega), m_st_d, if_neg (by omega), m_st_d, if_neg (by omega), m_st_d, if_neg (by omega), m_st_d, if_neg (by omega), m_st_d, if_neg (by omega), m_st_d, if_neg (by omega), m_st_d, if_neg (by omega), m_st_d, if_neg (by omega)]
theorem pre_L1 {f : Nat} {k v2 ln v5 : Int} {μ : am_M} (h0 : 0 ≤ v5) (h4 : v5 < 4) (hl : 0 ≤ ln ∧ ln < 120) : M_readsLine_L246 (f + 1) k v2 ln v5 μ = M_readsLine_L246 f k v2 ln (v5 + 1) (m_st μ 1007 (4 * ln + v5) (-1)) := by
  show M_readsLine_L246_b (M_readsLine_L246 f) k v2 ln v5 μ = _
  unfold M_readsLine_L246_b
  rw [if_pos h4, w32_i (x := 4 * ln) (by omega) (by omega), w32_i (x := 4 * ln + v5) (by omega) (by omega), w32_i (x := v5 + 1) (by omega) (by omega), q_st_s (by omega) (by omega)]
theorem pre_s {k v2 ln : Int} {ν : am_M} (hl : 0 ≤ ln ∧ ln < 120) : M_readsLine_B188 k v2 ln ν = (if k = 0 then (q_bd (M_readsTake v2 ln (preM k ln ν)) fun a4 μ5 => M_readsLine_B298 k v2 a4 μ5) else (q_pfb 1000 44 1 (preM k ln ν) fun μ1 => q_bd (M_readsOther k ln μ1) fun a2 μ3 => M_readsLine_B298 k v2 a2 μ3)) := by
  have hF : ∃ f, am_FU = f + 5 := ⟨am_FU - 5, by have := am_FU_ge; omega⟩
  obtain ⟨f, hF⟩ := hF
  unfold M_readsLine_B188
  rw [q_st_s hl.1 hl.2, q_st_s hl.1 hl.2, q_st_s hl.1 hl.2, q_st_s hl.1 hl.2, q_st_s hl.1 hl.2, q_st_s hl.1 hl.2, q_st_s hl.1 hl.2, hF, pre_L1 (by decide) (by decide) hl, pre_L1 (by decide) (by decide) hl, pre_L1 (by decide) (by decide) hl, pre_L1 (by decide) (by decide) hl]
  rfl
