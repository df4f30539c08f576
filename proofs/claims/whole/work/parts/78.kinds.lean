/-! CHECK: what the kinds of lines ask. -/
def CK (o m d : Int) (μ ν : am_M) : Prop := (μ 30 5 = o) ∧ (μ 30 6 = m) ∧ (μ 30 7 = d) ∧ (μ 30 8 = 0) ∧ (μ 30 9 = -1) ∧ (S10 o) ∧ (S10 m) ∧ (DJ o m) ∧ (TTn o m ν)
theorem CK.c5 {o m d : Int} {μ ν : am_M} (h : CK o m d μ ν) : μ 30 5 = o := h.1
theorem CK.c6 {o m d : Int} {μ ν : am_M} (h : CK o m d μ ν) : μ 30 6 = m := h.2.1
theorem CK.c7 {o m d : Int} {μ ν : am_M} (h : CK o m d μ ν) : μ 30 7 = d := h.2.2.1
theorem CK.c8 {o m d : Int} {μ ν : am_M} (h : CK o m d μ ν) : μ 30 8 = 0 := h.2.2.2.1
theorem CK.c9 {o m d : Int} {μ ν : am_M} (h : CK o m d μ ν) : μ 30 9 = -1 := h.2.2.2.2.1
theorem CK.so {o m d : Int} {μ ν : am_M} (h : CK o m d μ ν) : S10 o := h.2.2.2.2.2.1
theorem CK.sm {o m d : Int} {μ ν : am_M} (h : CK o m d μ ν) : S10 m := h.2.2.2.2.2.2.1
theorem CK.dj {o m d : Int} {μ ν : am_M} (h : CK o m d μ ν) : DJ o m := h.2.2.2.2.2.2.2.1
theorem CK.tt {o m d : Int} {μ ν : am_M} (h : CK o m d μ ν) : TTn o m ν := h.2.2.2.2.2.2.2.2
theorem CK.mk {o m d : Int} {μ ν : am_M} (c5 : μ 30 5 = o) (c6 : μ 30 6 = m) (c7 : μ 30 7 = d) (c8 : μ 30 8 = 0) (c9 : μ 30 9 = -1) (so : S10 o) (sm : S10 m) (dj : DJ o m) (tt : TTn o m ν) : CK o m d μ ν := ⟨c5, c6, c7, c8, c9, so, sm, dj, tt⟩
/-- frames: class, reference; rows of the outer ifs -/
def FC (b a z : Int) (μ μ' : am_M) : Prop := ∀ c i, ¬ ((c = 30 ∧ 5 ≤ i ∧ i ≤ 9) ∨ (31 ≤ c ∧ c ≤ 35) ∨ (c = b + 8 ∧ a ≤ i ∧ i < z)) → μ' c i = μ c i
def FR (k a z : Int) (ν ν' : am_M) : Prop := ∀ c i, ¬ ((1036 ≤ c ∧ c ≤ 1038) ∨ (1039 ≤ c ∧ c ≤ 1041 ∧ i = k) ∨ (c = 1042 ∧ a ≤ i ∧ i < z)) → ν' c i = ν c i
def SP (D : Int) (μ μ' : am_M) : Prop := ∀ c i, 31 ≤ c → c ≤ 35 → i < D → μ' c i = μ c i
def SR (D : Int) (ν ν' : am_M) : Prop := ∀ c i, (c = 1037 ∨ c = 1038) → i < 10 * D → ν' c i = ν c i
theorem rest_W {b l : Int} {μ : am_M} (hb : bOk b) (hl : 0 ≤ l ∧ l < 60) (h7 : μ (b + 2) l ≠ 7) (hw : μ 30 8 ≠ 0) : ∃ μ', ckRest b l μ = some (0, μ') ∧ (∀ c i, ¬ ((c = 30 ∧ 5 ≤ i ∧ i ≤ 7) ∨ (31 ≤ c ∧ c ≤ 35)) → μ' c i = μ c i) := by
  have hb' : b = 100 ∨ b = 200 := hb
  unfold ckRest
  rw [bat2 hb, if_pos hl, q_bd_s]
  have pu : ∀ (c i v : Int) (m : am_M), (c = 31 ∨ c = 32 ∨ c = 33 ∨ c = 34 ∨ c = 35) → ∃ m', X_put c i v m = some (0, m') ∧ (∀ c i, ¬ (31 ≤ c ∧ c ≤ 35) → m' c i = m c i) := by
    intro c i v m hc
    have go : ∀ n : Int, am_lenA c = n → am_lenK 0 c = n → 0 ≤ n → ∃ m', X_put c i v m = some (0, m') ∧ (∀ c i, ¬ (31 ≤ c ∧ c ≤ 35) → m' c i = m c i) := by
      intro n h1 h2 h3
      rw [X_put_s i v m h1 h2 h3]
      refine ⟨_, rfl, fun c' i' z => ?_⟩
      split
      · rw [m_st_d, if_neg (by omega)]
      · rfl
    rcases hc with z | z | z | z | z <;> (subst z; exact go 3 rfl rfl (by decide))
  by_cases c5 : μ (b + 2) l = 5
  · rw [if_pos c5]
    obtain ⟨m1, a1, a2⟩ := pu 31 (μ 30 7) (μ 30 5) μ (by omega)
    rw [a1, q_bd_s]
    obtain ⟨m2, b1, b2⟩ := pu 32 (m1 30 7) (m1 30 6) m1 (by omega)
    rw [b1, q_bd_s, q_pf_d]
    exact ⟨_, rfl, fun c i z => by rw [m_st_d, if_neg (by omega), b2 c i (by omega), a2 c i (by omega)]⟩
  rw [if_neg c5]
  by_cases c6 : μ (b + 2) l = 6
  · rw [if_pos c6]
    unfold Ck_turnToElse
    obtain ⟨m1, a1, a2⟩ := pu 33 (w32 ((μ 30 7) - 1)) (μ 30 5) μ (by omega)
    rw [a1, q_bd_s]
    obtain ⟨m2, b1, b2⟩ := pu 34 (w32 ((μ 30 7) - 1)) (m1 30 6) m1 (by omega)
    rw [b1, q_bd_s]
    obtain ⟨m3, c1, c2⟩ := pu 35 (w32 ((μ 30 7) - 1)) l m2 (by omega)
    rw [c1, q_bd_s, X_at_31, q_bd_s, q_pf_d, X_at_32, q_bd_s, q_pf_d, q_bd_s]
    exact ⟨_, rfl, fun c i z => by rw [m_st_d, if_neg (by omega), m_st_d, if_neg (by omega), c2 c i (by omega), b2 c i (by omega), a2 c i (by omega)]⟩
  rw [if_neg c6, if_neg h7]
  by_cases c8 : μ (b + 2) l = 8
  · rw [if_pos c8]
    by_cases c0 : μ 30 5 = 0
    · rw [if_pos c0]; exact ⟨μ, rfl, fun _ _ _ => rfl⟩
    · rw [if_neg c0, nz_e, q_bd_s]
      unfold Ck_blame
      rw [if_neg hw, q_bd_s]
      exact ⟨μ, rfl, fun _ _ _ => rfl⟩
  · rw [if_neg c8]; exact ⟨μ, rfl, fun _ _ _ => rfl⟩
/-- the reference's loop over the slips, kind by kind -/
theorem L65_0 {k l d : Int} {ν : am_M} (hl : 0 ≤ l ∧ l < 60) (h5 : ν 1002 l ≠ 5) (h6 : ν 1002 l ≠ 6) (h8 : ν 1002 l ≠ 8) : ∀ (n f : Nat) (i : Int), i + n = 10 → 0 ≤ i → n < f → M_goesBy_L65 f k l d i ν = some (1, ν)
  | n, 0, _, _, _, h => by omega
  | 0, f + 1, i, h, h0, _ => by
    show M_goesBy_L65_b (M_goesBy_L65 f) k l d i ν = _
    unfold M_goesBy_L65_b
    rw [if_neg (by omega)]
  | n + 1, f + 1, i, h, h0, hf => by
    show M_goesBy_L65_b (M_goesBy_L65 f) k l d i ν = _
    unfold M_goesBy_L65_b M_goesBy_B101 M_goesBy_B134 M_goesBy_B167 M_goesBy_B199
    rw [if_pos (by omega), q_ld_s (by omega) (by omega), if_neg h5, q_ld_s (by omega) (by omega), if_neg h6, q_ld_s (by omega) (by omega), if_neg h6, q_ld_s (by omega) (by omega), if_neg h8, w32_i (x := i + 1) (by omega) (by omega)]
    exact L65_0 hl h5 h6 h8 n f (i + 1) (by omega) (by omega) (by omega)
theorem L65_5 {k l d : Int} (hl : 0 ≤ l ∧ l < 60) (hd : 0 ≤ d ∧ d < 3) : ∀ (n f : Nat) (i : Int) (ν : am_M), ν 1002 l = 5 → i + n = 10 → 0 ≤ i → n < f → ∃ ν', M_goesBy_L65 f k l d i ν = some (1, ν') ∧ (∀ s, i ≤ s → s < 10 → ν' 1037 (10 * d + s) = ν 1036 s) ∧ (∀ c j, ¬ (c = 1037 ∧ 10 * d + i ≤ j ∧ j < 10 * d + 10) → ν' c j = ν c j)
  | n, 0, _, _, _, _, _, h => by omega
  | 0, f + 1, i, ν, h5, h, h0, _ => by
    refine ⟨ν, ?_, fun s a b => by omega, fun _ _ _ => rfl⟩
    show M_goesBy_L65_b (M_goesBy_L65 f) k l d i ν = _
    unfold M_goesBy_L65_b
    rw [if_neg (by omega)]
  | n + 1, f + 1, i, ν, h5, h, h0, hf => by
    have g : ∀ c j, c ≠ 1037 → m_st ν 1037 (10 * d + i) (ν 1036 i) c j = ν c j := fun c j z => m_st_c z
    obtain ⟨ν', a1, a2, a3⟩ := L65_5 (k := k) hl hd n f (i + 1) (m_st ν 1037 (10 * d + i) (ν 1036 i)) (by rw [g _ _ (by decide)]; exact h5) (by omega) (by omega) (by omega)
    refine ⟨ν', ?_, fun s x y => ?_, fun c j z => by rw [a3 c j (by omega), m_st_d, if_neg (by omega)]⟩
    · rw [← a1]
      show M_goesBy_L65_b (M_goesBy_L65 f) k l d i ν = _
      unfold M_goesBy_L65_b M_goesBy_B101 M_goesBy_B134 M_goesBy_B167 M_goesBy_B199
      have e5 : m_st ν 1037 (10 * d + i) (ν 1036 i) 1002 l = 5 := by rw [g _ _ (by decide)]; exact h5
      rw [if_pos (by omega), q_ld_s (by omega) (by omega), if_pos h5, q_ld_s (by omega) (by omega), w32_i (x := 10 * d) (by omega) (by omega), w32_i (x := 10 * d + i) (by omega) (by omega), q_st_s (by omega) (by omega), q_ld_s (by omega) (by omega), e5, if_neg (by decide), q_ld_s (by omega) (by omega), e5, if_neg (by decide), q_ld_s (by omega) (by omega), e5, if_neg (by decide), w32_i (x := i + 1) (by omega) (by omega)]
    · by_cases z : s = i
      · rw [z, a3 _ _ (by omega), m_st_d, if_pos ⟨rfl, rfl⟩]
      · rw [a2 s (by omega) y, g _ _ (by decide)]
theorem L65_6 {k l d : Int} (hl : 0 ≤ l ∧ l < 60) (hd : 1 ≤ d ∧ d ≤ 3) : ∀ (n f : Nat) (i : Int) (ν : am_M), ν 1002 l = 6 → i + n = 10 → 0 ≤ i → n < f → ∃ ν', M_goesBy_L65 f k l d i ν = some (1, ν') ∧ (∀ s, i ≤ s → s < 10 → ν' 1038 (10 * (d - 1) + s) = ν 1036 s ∧ ν' 1036 s = ν 1037 (10 * (d - 1) + s)) ∧ (∀ c j, ¬ (c = 1038 ∧ 10 * (d - 1) + i ≤ j ∧ j < 10 * (d - 1) + 10) → ¬ (c = 1036 ∧ i ≤ j) → ν' c j = ν c j)
  | n, 0, _, _, _, _, _, h => by omega
  | 0, f + 1, i, ν, h5, h, h0, _ => by
    refine ⟨ν, ?_, fun s a b => by omega, fun _ _ _ _ => rfl⟩
    show M_goesBy_L65_b (M_goesBy_L65 f) k l d i ν = _
    unfold M_goesBy_L65_b
    rw [if_neg (by omega)]
  | n + 1, f + 1, i, ν, h6, h, h0, hf => by
    have g : ∀ c j, ¬ (c = 1038 ∧ j = 10 * (d - 1) + i) → ¬ (c = 1036 ∧ j = i) → m_st (m_st ν 1038 (10 * (d - 1) + i) (ν 1036 i)) 1036 i (ν 1037 (10 * (d - 1) + i)) c j = ν c j := fun c j z y => by rw [m_st_d, if_neg y, m_st_d, if_neg z]
    obtain ⟨ν', a1, a2, a3⟩ := L65_6 (k := k) hl hd n f (i + 1) (m_st (m_st ν 1038 (10 * (d - 1) + i) (ν 1036 i)) 1036 i (ν 1037 (10 * (d - 1) + i))) (by rw [g _ _ (by omega) (by omega)]; exact h6) (by omega) (by omega) (by omega)
    refine ⟨ν', ?_, fun s x y => ?_, fun c j z y => by rw [a3 c j (by omega) (by omega), g c j (by omega) (by omega)]⟩
    · rw [← a1]
      show M_goesBy_L65_b (M_goesBy_L65 f) k l d i ν = _
      unfold M_goesBy_L65_b M_goesBy_B101 M_goesBy_B134 M_goesBy_B167 M_goesBy_B199
      have e1 : m_st ν 1038 (10 * (d - 1) + i) (ν 1036 i) 1002 l = 6 := by rw [m_st_c (by decide)]; exact h6
      have e2 : m_st ν 1038 (10 * (d - 1) + i) (ν 1036 i) 1037 (10 * (d - 1) + i) = ν 1037 (10 * (d - 1) + i) := m_st_c (by decide)
      have e3 : m_st (m_st ν 1038 (10 * (d - 1) + i) (ν 1036 i)) 1036 i (ν 1037 (10 * (d - 1) + i)) 1002 l = 6 := by rw [m_st_c (by decide)]; exact e1
      have ed : 10 * d - 10 = 10 * (d - 1) := by omega
      rw [if_pos (by omega), q_ld_s (by omega) (by omega), h6, if_neg (by decide), q_ld_s (by omega) (by omega), h6, if_pos rfl, q_ld_s (by omega) (by omega), w32_i (x := 10 * d) (by omega) (by omega), w32_i (x := 10 * d - 10) (by omega) (by omega), ed, w32_i (x := 10 * (d - 1) + i) (by omega) (by omega), q_st_s (by omega) (by omega), q_ld_s (by omega) (by omega), e1, if_pos rfl, q_ld_s (by omega) (by omega), e2, q_st_s (by omega) (by omega), q_ld_s (by omega) (by omega), e3, if_neg (by decide), w32_i (x := i + 1) (by omega) (by omega)]
    · by_cases z : s = i
      · subst z
        refine ⟨?_, ?_⟩
        · rw [a3 _ _ (by omega) (by omega), m_st_c (by decide), m_st_d, if_pos ⟨rfl, rfl⟩]
        · rw [a3 _ _ (by omega) (by omega), m_st_d, if_pos ⟨rfl, rfl⟩]
      · obtain ⟨b1, b2⟩ := a2 s (by omega) y
        rw [b1, b2, g _ _ (by omega) (by omega), g _ _ (by omega) (by omega)]
        exact ⟨rfl, rfl⟩
theorem L65_8 {k l d o m : Int} {ν : am_M} (hk : 0 ≤ k ∧ k < 4) (hl : 0 ≤ l ∧ l < 60) (h8 : ν 1002 l = 8) (hT : TTn o m ν) : ∀ (n f : Nat) (i : Int), i + n = 10 → 0 ≤ i → n < f → (low o n i = -1 ∧ M_goesBy_L65 f k l d i ν = some (1, ν)) ∨ (low o n i ≠ -1 ∧ ∃ ν', M_goesBy_L65 f k l d i ν = some (0, ν') ∧ FND k 4 l (low o n i) ν' ∧ (∀ c j, ¬ (1039 ≤ c ∧ c ≤ 1041 ∧ j = k) → ν' c j = ν c j))
  | n, 0, _, _, _, h => by omega
  | 0, f + 1, i, h, h0, _ => by
    refine Or.inl ⟨rfl, ?_⟩
    show M_goesBy_L65_b (M_goesBy_L65 f) k l d i ν = _
    unfold M_goesBy_L65_b
    rw [if_neg (by omega)]
  | n + 1, f + 1, i, h, h0, hf => by
    have e : low o (n + 1) i = if tb o i = true then i else low o n (i + 1) := rfl
    have e0 : M_goesBy_L65 (f + 1) k l d i ν = M_goesBy_L65_b (M_goesBy_L65 f) k l d i ν := rfl
    rw [e0, e]
    unfold M_goesBy_L65_b M_goesBy_B101 M_goesBy_B134 M_goesBy_B167 M_goesBy_B199
    rw [if_pos (show i < 10 by omega), q_ld_s (by omega) (by omega), h8, if_neg (show ¬ (8 : Int) = 5 by decide), q_ld_s (by omega) (by omega), h8, if_neg (show ¬ (8 : Int) = 6 by decide), q_ld_s (by omega) (by omega), h8, if_neg (show ¬ (8 : Int) = 6 by decide), q_ld_s (by omega) (by omega), h8, if_pos (show (8 : Int) = 8 from rfl), q_ld_s (by omega) (by omega), hT i h0 (by omega), w32_i (x := i + 1) (by omega) (by omega)]
    by_cases c : tb o i = true
    · have e1 : tv o m i = 1 := by unfold tv; rw [if_pos c]
      obtain ⟨ν', a1, a2, a3⟩ := finds_s (k := k) (w := 4) (l := l) (s := i) (ν := ν) hk
      rw [e1, if_pos (show (1 : Int) = 1 from rfl), if_pos c, a1, q_bd_s, q_rb0]
      exact Or.inr ⟨by omega, ν', rfl, a2, a3⟩
    · have e1 : tv o m i ≠ 1 := by
        unfold tv
        rw [if_neg c]
        split <;> omega
      rw [if_neg e1, if_neg c]
      exact L65_8 hk hl h8 hT n f (i + 1) (by omega) (by omega) (by omega)
