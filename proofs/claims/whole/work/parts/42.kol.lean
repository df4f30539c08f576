/-! Which line it is. -/
theorem kol_s {μ ν : am_M} (h : TR μ ν) : M_kindOfLine ν = some (if 100 ≤ μ 10 5 ∧ μ 10 5 ≤ 108 then μ 10 5 - 100 else -1, ν) := by
  unfold M_kindOfLine
  by_cases c0 : μ 10 5 = 100
  · rw [isWd h (by decide : (100 : Int) ≤ 100) kwI0, if_pos c0, q_bd_s, if_neg (by decide), if_pos (by omega), c0]; rfl
  rw [isWd h (by decide : (100 : Int) ≤ 100) kwI0, if_neg c0, q_bd_s, if_pos rfl]
  by_cases c1 : μ 10 5 = 101
  · rw [isWd h (by decide : (100 : Int) ≤ 101) kwI1, if_pos c1, q_bd_s, if_neg (by decide), if_pos (by omega), c1]; rfl
  rw [isWd h (by decide : (100 : Int) ≤ 101) kwI1, if_neg c1, q_bd_s, if_pos rfl]
  by_cases c2 : μ 10 5 = 102
  · rw [isWd h (by decide : (100 : Int) ≤ 102) kwI2, if_pos c2, q_bd_s, if_neg (by decide), if_pos (by omega), c2]; rfl
  rw [isWd h (by decide : (100 : Int) ≤ 102) kwI2, if_neg c2, q_bd_s, if_pos rfl]
  by_cases c3 : μ 10 5 = 103
  · rw [isWd h (by decide : (100 : Int) ≤ 103) kwI3, if_pos c3, q_bd_s, if_neg (by decide), if_pos (by omega), c3]; rfl
  rw [isWd h (by decide : (100 : Int) ≤ 103) kwI3, if_neg c3, q_bd_s, if_pos rfl]
  by_cases c4 : μ 10 5 = 104
  · rw [isWd h (by decide : (100 : Int) ≤ 104) kwI4, if_pos c4, q_bd_s, if_neg (by decide), if_pos (by omega), c4]; rfl
  rw [isWd h (by decide : (100 : Int) ≤ 104) kwI4, if_neg c4, q_bd_s, if_pos rfl]
  by_cases c5 : μ 10 5 = 105
  · rw [isWd h (by decide : (100 : Int) ≤ 105) kwI5, if_pos c5, q_bd_s, if_neg (by decide), if_pos (by omega), c5]; rfl
  rw [isWd h (by decide : (100 : Int) ≤ 105) kwI5, if_neg c5, q_bd_s, if_pos rfl]
  by_cases c6 : μ 10 5 = 106
  · rw [isWd h (by decide : (100 : Int) ≤ 106) kwI6, if_pos c6, q_bd_s, if_neg (by decide), if_pos (by omega), c6]; rfl
  rw [isWd h (by decide : (100 : Int) ≤ 106) kwI6, if_neg c6, q_bd_s, if_pos rfl]
  by_cases c7 : μ 10 5 = 107
  · rw [isWd h (by decide : (100 : Int) ≤ 107) kwI7, if_pos c7, q_bd_s, if_neg (by decide), if_pos (by omega), c7]; rfl
  rw [isWd h (by decide : (100 : Int) ≤ 107) kwI7, if_neg c7, q_bd_s, if_pos rfl]
  by_cases c8 : μ 10 5 = 108
  · rw [isWd h (by decide : (100 : Int) ≤ 108) kwI8, if_pos c8, q_bd_s, if_neg (by decide), if_pos (by omega), c8]; rfl
  rw [isWd h (by decide : (100 : Int) ≤ 108) kwI8, if_neg c8, q_bd_s, if_pos rfl]
  rw [if_neg (by omega)]
