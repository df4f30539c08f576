/-! CHECK: what a line lays. -/
theorem tv_r (o m s : Int) : tv o m s = 0 ∨ tv o m s = 1 ∨ tv o m s = 2 := by
  unfold tv
  split
  · exact Or.inr (Or.inl rfl)
  · split
    · exact Or.inr (Or.inr rfl)
    · exact Or.inl rfl
theorem tv_z {o m s : Int} : tv o m s = 0 ↔ tb o s = false ∧ tb m s = false := by
  unfold tv
  cases tb o s <;> cases tb m s <;> simp
def layF (o m s a : Int) : Int × Int × Int := if s = -1 then (o, m, -1) else if tv o m s = 0 then (if a = 1 then (aOr o (aShl 1 s), m, -1) else (o, aOr m (aShl 1 s), -1)) else (o, m, s)
/-- no slip lies there as both -/
def DJ (o m : Int) : Prop := ∀ s, 0 ≤ s → s < 10 → ¬ (tb o s = true ∧ tb m s = true)
theorem layF_S {o m s a : Int} (h1 : S10 o) (h2 : S10 m) (hs : -1 ≤ s ∧ s < 10) : S10 (layF o m s a).1 ∧ S10 (layF o m s a).2.1 := by
  unfold layF
  by_cases c : s = -1
  · rw [if_pos c]; exact ⟨h1, h2⟩
  rw [if_neg c]
  split
  · split
    · exact ⟨S10_or h1 (S10_shl (by omega) hs.2), h2⟩
    · exact ⟨h1, S10_or h2 (S10_shl (by omega) hs.2)⟩
  · exact ⟨h1, h2⟩
theorem layF_f {o m s a : Int} : (layF o m s a).2.2 = -1 ∨ (layF o m s a).2.2 = s := by
  unfold layF
  split
  · exact Or.inl rfl
  · split
    · split
      · exact Or.inl rfl
      · exact Or.inl rfl
    · exact Or.inr rfl
theorem layF_tb {o m s a : Int} (hs : -1 ≤ s ∧ s < 10) (h : (layF o m s a).2.2 = -1) : ∀ t, 0 ≤ t → t < 10 → (tb (layF o m s a).1 t = (tb o t || (decide (t = s) && decide (a = 1)))) ∧ (tb (layF o m s a).2.1 t = (tb m t || (decide (t = s) && !decide (a = 1)))) ∧ tv (layF o m s a).1 (layF o m s a).2.1 t = if t = s then (if a = 1 then 1 else 2) else tv o m t := by
  intro t t0 t1
  unfold layF at h ⊢
  by_cases c : s = -1
  · rw [if_pos c]
    have : ¬ t = s := by omega
    rw [decide_eq_false this, if_neg this]
    simp
  rw [if_neg c] at h ⊢
  by_cases z : tv o m s = 0
  · obtain ⟨z1, z2⟩ := tv_z.mp z
    rw [if_pos z]
    by_cases q : a = 1
    · rw [if_pos q, if_pos q, decide_eq_true q]
      have e : tb (aOr o (aShl 1 s)) t = (tb o t || decide (t = s)) := by rw [tb_or, tb_shl (by omega) (by omega) t0 (by omega)]
      refine ⟨by rw [e]; simp, by simp, ?_⟩
      unfold tv
      rw [e]
      by_cases y : t = s
      · rw [decide_eq_true y, if_pos y]; simp
      · rw [decide_eq_false y, if_neg y]; simp
    · rw [if_neg q, if_neg q, decide_eq_false q]
      have e : tb (aOr m (aShl 1 s)) t = (tb m t || decide (t = s)) := by rw [tb_or, tb_shl (by omega) (by omega) t0 (by omega)]
      refine ⟨by simp, by rw [e]; simp, ?_⟩
      unfold tv
      rw [e]
      by_cases y : t = s
      · rw [decide_eq_true y, if_pos y, y, z1]; simp
      · rw [decide_eq_false y, if_neg y]; simp
  · rw [if_neg z] at h
    have h : s = -1 := h
    exact absurd h c
theorem layF_DJ {o m s a : Int} (hs : -1 ≤ s ∧ s < 10) (h : (layF o m s a).2.2 = -1) (hd : DJ o m) : DJ (layF o m s a).1 (layF o m s a).2.1 := by
  intro t t0 t1
  obtain ⟨a1, a2, -⟩ := layF_tb hs h t t0 t1
  rw [a1, a2]
  have := hd t t0 t1
  by_cases y : t = s
  · unfold layF at h
    rw [if_neg (by omega)] at h
    by_cases z : tv o m s = 0
    · obtain ⟨z1, z2⟩ := tv_z.mp z
      rw [y, z1, z2]
      cases decide (a = 1) <;> simp
    · rw [if_neg z] at h
      have h : s = -1 := h
      omega
  · rw [decide_eq_false y]
    simpa using this
theorem lay_W {s a : Int} {μ : am_M} (hw : μ 30 8 ≠ 0) : ∃ μ', Ck_lay s a μ = some (0, μ') ∧ (∀ c i, ¬ (c = 30 ∧ (i = 5 ∨ i = 6)) → μ' c i = μ c i) := by
  have bl : ∀ x y, Ck_blame x y μ = some (0, μ) := fun x y => by unfold Ck_blame; rw [if_neg hw]
  unfold Ck_lay
  by_cases c : s = -1
  · rw [if_pos c]; exact ⟨μ, rfl, fun _ _ _ => rfl⟩
  rw [if_neg c]
  by_cases z : aAnd (aShr (aOr (μ 30 5) (μ 30 6)) s) 1 = 0
  · rw [if_pos z]
    by_cases q : a = 1
    · rw [if_pos q, q_pf_d]; exact ⟨_, rfl, fun c i z => by rw [m_st_d, if_neg (by omega)]⟩
    · rw [if_neg q, q_pf_d]; exact ⟨_, rfl, fun c i z => by rw [m_st_d, if_neg (by omega)]⟩
  · rw [if_neg z, bl, q_bd_s]; exact ⟨μ, rfl, fun _ _ _ => rfl⟩
theorem lay_s {s a : Int} {μ : am_M} (hw : μ 30 8 = 0) (hs : -1 ≤ s ∧ s < 10) : ∃ μ', Ck_lay s a μ = some (0, μ') ∧ (∀ c i, ¬ (c = 30 ∧ (i = 5 ∨ i = 6 ∨ i = 8 ∨ i = 9)) → μ' c i = μ c i) ∧ (((layF (μ 30 5) (μ 30 6) s a).2.2 = -1 ∧ μ' 30 5 = (layF (μ 30 5) (μ 30 6) s a).1 ∧ μ' 30 6 = (layF (μ 30 5) (μ 30 6) s a).2.1 ∧ μ' 30 8 = 0 ∧ μ' 30 9 = μ 30 9) ∨ ((layF (μ 30 5) (μ 30 6) s a).2.2 ≠ -1 ∧ μ' 30 8 = 2 ∧ μ' 30 9 = (layF (μ 30 5) (μ 30 6) s a).2.2)) := by
  unfold Ck_lay layF
  by_cases c : s = -1
  · rw [if_pos c, if_pos c]; exact ⟨μ, rfl, fun _ _ _ => rfl, Or.inl ⟨rfl, rfl, rfl, hw, rfl⟩⟩
  rw [if_neg c, if_neg c]
  by_cases z : tv (μ 30 5) (μ 30 6) s = 0
  · rw [if_pos ((tv_0 (by omega)).mpr z), if_pos z]
    by_cases q : a = 1
    · rw [if_pos q, if_pos q, q_pf_d]
      exact ⟨_, rfl, fun c i z => by rw [m_st_d, if_neg (by omega)], Or.inl ⟨rfl, by rw [m_st_d, if_pos ⟨rfl, rfl⟩], by rw [m_st_i (by decide)], by rw [m_st_i (by decide)]; exact hw, by rw [m_st_i (by decide)]⟩⟩
    · rw [if_neg q, if_neg q, q_pf_d]
      exact ⟨_, rfl, fun c i z => by rw [m_st_d, if_neg (by omega)], Or.inl ⟨rfl, by rw [m_st_i (by decide)], by rw [m_st_d, if_pos ⟨rfl, rfl⟩], by rw [m_st_i (by decide)]; exact hw, by rw [m_st_i (by decide)]⟩⟩
  · have bl : Ck_blame 2 s μ = some (0, m_st (m_st μ 30 8 2) 30 9 s) := by
      unfold Ck_blame
      rw [if_pos hw, q_pf_d, q_pf_d]
    rw [if_neg (fun y => z ((tv_0 (by omega)).mp y)), if_neg z, bl, q_bd_s]
    exact ⟨_, rfl, fun c i z => by rw [m_st_d, if_neg (by omega), m_st_d, if_neg (by omega)], Or.inr ⟨c, by rw [m_st_i (by decide), m_st_d, if_pos ⟨rfl, rfl⟩], by rw [m_st_d, if_pos ⟨rfl, rfl⟩]⟩⟩
theorem putsDown_s {k l s a o m : Int} {ν : am_M} (hk : 0 ≤ k ∧ k < 4) (hl : 0 ≤ l ∧ l < 60) (hs : -1 ≤ s ∧ s < 10) (ha : ν 1005 l = if a = 1 then 1 else 2) (hT : TTn o m ν) : ((layF o m s a).2.2 = -1 ∧ ∃ ν', M_putsDown k l s ν = some (1, ν') ∧ TTn (layF o m s a).1 (layF o m s a).2.1 ν' ∧ (∀ c i, c ≠ 1036 → ν' c i = ν c i)) ∨ ((layF o m s a).2.2 ≠ -1 ∧ ∃ ν', M_putsDown k l s ν = some (0, ν') ∧ FND k 2 l (layF o m s a).2.2 ν' ∧ (∀ c i, ¬ (c = 1036 ∨ (1039 ≤ c ∧ c ≤ 1041 ∧ i = k)) → ν' c i = ν c i)) := by
  unfold M_putsDown
  by_cases c : s = -1
  · have e : layF o m s a = (o, m, -1) := by unfold layF; rw [if_pos c]
    rw [e, if_pos (by omega)]
    exact Or.inl ⟨rfl, ν, rfl, hT, fun _ _ _ => rfl⟩
  rw [if_neg (by omega), q_ld_s (by omega) (by omega), hT s (by omega) (by omega)]
  by_cases z : tv o m s = 0
  · have e : (layF o m s a).2.2 = -1 := by
      unfold layF
      rw [if_neg c, if_pos z]
      split <;> rfl
    refine Or.inl ⟨e, m_st ν 1036 s (if a = 1 then 1 else 2), ?_, fun t t0 t1 => ?_, fun c i z => m_st_c z⟩
    · rw [if_pos (by omega), q_ld_s (by omega) (by omega), ha, q_st_s (by omega) (by omega)]
    · rw [(layF_tb hs e t t0 t1).2.2, m_st_d]
      by_cases y : t = s
      · rw [if_pos ⟨rfl, y⟩, if_pos y]
      · rw [if_neg (fun w => y w.2), if_neg y]; exact hT t t0 t1
  · have e : layF o m s a = (o, m, s) := by unfold layF; rw [if_neg c, if_neg z]
    have := tv_r o m s
    obtain ⟨ν', a1, a2, a3⟩ := finds_s (k := k) (w := 2) (l := l) (s := s) (ν := ν) hk
    rw [e, if_neg (by omega), a1, q_bd_s, q_rb0]
    exact Or.inr ⟨c, ν', rfl, a2, fun c i z => a3 c i (by omega)⟩
