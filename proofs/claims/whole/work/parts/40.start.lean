/-! A line begun: the class's rows of it. -/
/-- what adding a line writes -/
def addM (b k : Int) (μ : am_M) : am_M :=
  m_st (m_st (m_st (m_st (m_st (m_st (m_st (m_st (m_st (m_st μ (b + 2) (μ (b + 1) 10) k) (b + 3) (μ (b + 1) 10) (-1)) (b + 4) (μ (b + 1) 10) (-1)) (b + 5) (μ (b + 1) 10) 1) (b + 6) (μ (b + 1) 10) (-1)) (b + 7) (μ (b + 1) 10) (-1)) (b + 8) (μ (b + 1) 10) 0) (b + 9) (μ (b + 1) 10) (μ (b + 1) 11)) (b + 10) (μ (b + 1) 10) (μ (b + 1) 11)) (b + 1) 10 (μ (b + 1) 10 + 1)
theorem addM_f {b k : Int} {μ : am_M} : ∀ c i, ¬ ((b + 2 ≤ c ∧ c ≤ b + 10 ∧ i = μ (b + 1) 10) ∨ (c = b + 1 ∧ i = 10)) → addM b k μ c i = μ c i := by
  intro c i z
  unfold addM
  rw [m_st_d, if_neg (by omega), m_st_d, if_neg (by omega), m_st_d, if_neg (by omega), m_st_d, if_neg (by omega), m_st_d, if_neg (by omega), m_st_d, if_neg (by omega), m_st_d, if_neg (by omega), m_st_d, if_neg (by omega), m_st_d, if_neg (by omega), m_st_d, if_neg (by omega)]
theorem add_s {b k : Int} {μ : am_M} (hb : bOk b) (h0 : 0 ≤ μ (b + 1) 10) (h1 : μ (b + 1) 10 < 60) : Ln_add (b + 1) k μ = some (μ (b + 1) 10, addM b k μ) := by
  have hb' : b = 100 ∨ b = 200 := hb
  unfold Ln_add
  have e2 : b + 1 + 1 = b + 2 := by omega
  have e3 : b + 1 + 2 = b + 3 := by omega
  have e4 : b + 1 + 3 = b + 4 := by omega
  have e5 : b + 1 + 4 = b + 5 := by omega
  have e6 : b + 1 + 5 = b + 6 := by omega
  have e7 : b + 1 + 6 = b + 7 := by omega
  have e8 : b + 1 + 7 = b + 8 := by omega
  have e9 : b + 1 + 8 = b + 9 := by omega
  have e10 : b + 1 + 9 = b + 10 := by omega
  rw [q_gd_s (bO2 hb), e2, e3, e4, e5, e6, e7, e8, e9, e10]
  simp only [bput2 hb, bput3 hb, bput4 hb, bput5 hb, bput6 hb, bput7 hb, bput8 hb, bput9 hb, bput10 hb, q_bd_s, if_pos (And.intro h0 h1), q_pf_d]
  have g : ∀ (c : Int) (i : Int) (v : Int) (m : am_M), b + 1 ≠ c → m_st m c i v (b + 1) = m (b + 1) := fun c i v m z => funext fun j => m_st_c z
  simp only [g (b + 2) _ _ _ (by omega), g (b + 3) _ _ _ (by omega), g (b + 4) _ _ _ (by omega), g (b + 5) _ _ _ (by omega), g (b + 6) _ _ _ (by omega), g (b + 7) _ _ _ (by omega), g (b + 8) _ _ _ (by omega), g (b + 9) _ _ _ (by omega), g (b + 10) _ _ _ (by omega)]
  rw [w32_i (x := μ (b + 1) 10 + 1) (by omega) (by omega)]
  rfl
