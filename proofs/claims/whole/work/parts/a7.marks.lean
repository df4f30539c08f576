/-! The promise of mark. -/
theorem mO_k {k : Int} (h : 0 ≤ k ∧ k < 4) : mOk (320 + 10 * k) := by
  have : k = 0 ∨ k = 1 ∨ k = 2 ∨ k = 3 := by omega
  unfold mOk
  omega
theorem cp_s {c0 c1 n : Int} {μ : am_M} {K : am_M → am_O} (h0 : am_lenK 0 c0 = n) (h1 : am_lenK 0 c1 = n) (hn : 0 ≤ n) : ∃ μ', q_cp c0 0 c1 0 n μ K = K μ' ∧ (∀ i, 0 ≤ i → i < n → μ' c1 i = μ c0 i) ∧ (∀ y i, y ≠ c1 → μ' y i = μ y i) := by
  refine ⟨am_cpy μ c0 0 c1 0 n, ?_, fun i p q => ?_, fun y i p => ?_⟩
  · unfold q_cp
    rw [if_pos (by omega)]
  · unfold am_cpy
    rw [if_pos (by omega)]
    congr 1
    omega
  · unfold am_cpy
    rw [if_neg (by omega)]
theorem become_s {c c' : Int} {μ : am_M} (hc : mOk c) (hc' : mOk c') (hne : c' ≠ c) : ∃ μ', Mc_become c' c μ = some (0, μ') ∧ (∀ i, 0 ≤ i → i < 16 → μ' (c' + 1) i = μ (c + 1) i) ∧ (∀ i, 0 ≤ i → i < 16 → μ' (c' + 2) i = μ (c + 2) i) ∧ (∀ i, 0 ≤ i → i < 160 → μ' (c' + 3) i = μ (c + 3) i) ∧ (∀ i, 5 ≤ i → i ≤ 13 → μ' c' i = μ c i) ∧ (∀ y i, ¬ (y = c' ∧ 5 ≤ i ∧ i ≤ 13) → ¬ (c' + 1 ≤ y ∧ y ≤ c' + 3) → μ' y i = μ y i) := by
  have far : c' + 10 ≤ c ∨ c + 10 ≤ c' := by
    rcases hc with h | h | h | h | h | h <;> rcases hc' with h' | h' | h' | h' | h' | h' <;> omega
  obtain ⟨μ1, a1, a2, a3⟩ := cp_s (c0 := c + 1) (c1 := c' + 1) (n := 16) (μ := μ) (K := fun μ4 => q_cp (c + 2) 0 (c' + 2) 0 16 μ4 fun μ6 => q_cp (c + 3) 0 (c' + 3) 0 160 μ6 fun μ8 => q_pf c' 5 (μ8 c 5) μ8 fun μ9 => q_pf c' 6 (μ9 c 6) μ9 fun μ10 => q_pf c' 7 (μ10 c 7) μ10 fun μ11 => q_pf c' 8 (μ11 c 8) μ11 fun μ12 => q_pf c' 9 (μ12 c 9) μ12 fun μ13 => q_pf c' 10 (μ13 c 10) μ13 fun μ14 => q_pf c' 11 (μ14 c 11) μ14 fun μ15 => q_pf c' 12 (μ15 c 12) μ15 fun μ16 => q_pf c' 13 (μ16 c 13) μ16 fun μ17 => some (0, μ17)) (mK1 hc) (mK1 hc') (by decide)
  obtain ⟨μ2, b1, b2, b3⟩ := cp_s (c0 := c + 2) (c1 := c' + 2) (n := 16) (μ := μ1) (K := fun μ6 => q_cp (c + 3) 0 (c' + 3) 0 160 μ6 fun μ8 => q_pf c' 5 (μ8 c 5) μ8 fun μ9 => q_pf c' 6 (μ9 c 6) μ9 fun μ10 => q_pf c' 7 (μ10 c 7) μ10 fun μ11 => q_pf c' 8 (μ11 c 8) μ11 fun μ12 => q_pf c' 9 (μ12 c 9) μ12 fun μ13 => q_pf c' 10 (μ13 c 10) μ13 fun μ14 => q_pf c' 11 (μ14 c 11) μ14 fun μ15 => q_pf c' 12 (μ15 c 12) μ15 fun μ16 => q_pf c' 13 (μ16 c 13) μ16 fun μ17 => some (0, μ17)) (mK2 hc) (mK2 hc') (by decide)
  obtain ⟨μ3, d1, d2, d3⟩ := cp_s (c0 := c + 3) (c1 := c' + 3) (n := 160) (μ := μ2) (K := fun μ8 => q_pf c' 5 (μ8 c 5) μ8 fun μ9 => q_pf c' 6 (μ9 c 6) μ9 fun μ10 => q_pf c' 7 (μ10 c 7) μ10 fun μ11 => q_pf c' 8 (μ11 c 8) μ11 fun μ12 => q_pf c' 9 (μ12 c 9) μ12 fun μ13 => q_pf c' 10 (μ13 c 10) μ13 fun μ14 => q_pf c' 11 (μ14 c 11) μ14 fun μ15 => q_pf c' 12 (μ15 c 12) μ15 fun μ16 => q_pf c' 13 (μ16 c 13) μ16 fun μ17 => some (0, μ17)) (mK3 hc) (mK3 hc') (by decide)
  have f3 : ∀ y i, y ≠ c' + 1 → y ≠ c' + 2 → y ≠ c' + 3 → μ3 y i = μ y i := fun y i p q w => by rw [d3 y i w, b3 y i q, a3 y i p]
  have fc : ∀ i, μ3 c i = μ c i := fun i => f3 c i (by omega) (by omega) (by omega)
  have oc : ∀ (m : am_M) (j v i : Int), m_st m c' j v c i = m c i := fun m j v i => m_st_c (by omega)
  refine ⟨m_st (m_st (m_st (m_st (m_st (m_st (m_st (m_st (m_st μ3 c' 5 (μ c 5)) c' 6 (μ c 6)) c' 7 (μ c 7)) c' 8 (μ c 8)) c' 9 (μ c 9)) c' 10 (μ c 10)) c' 11 (μ c 11)) c' 12 (μ c 12)) c' 13 (μ c 13), ?_, ?_, ?_, ?_, ?_, ?_⟩
  · have q16 : ∀ (x : Int) (K : Int → am_O), am_lenA x = 16 → q_len x K = K 16 := fun x K e => by rw [q_len_s (by rw [e]; decide), e]
    have q160 : ∀ (x : Int) (K : Int → am_O), am_lenA x = 160 → q_len x K = K 160 := fun x K e => by rw [q_len_s (by rw [e]; decide), e]
    have e0 : Mc_become c' c μ = q_cp (c + 1) 0 (c' + 1) 0 16 μ fun μ4 => q_cp (c + 2) 0 (c' + 2) 0 16 μ4 fun μ6 => q_cp (c + 3) 0 (c' + 3) 0 160 μ6 fun μ8 => q_pf c' 5 (μ8 c 5) μ8 fun μ9 => q_pf c' 6 (μ9 c 6) μ9 fun μ10 => q_pf c' 7 (μ10 c 7) μ10 fun μ11 => q_pf c' 8 (μ11 c 8) μ11 fun μ12 => q_pf c' 9 (μ12 c 9) μ12 fun μ13 => q_pf c' 10 (μ13 c 10) μ13 fun μ14 => q_pf c' 11 (μ14 c 11) μ14 fun μ15 => q_pf c' 12 (μ15 c 12) μ15 fun μ16 => q_pf c' 13 (μ16 c 13) μ16 fun μ17 => some (0, μ17) := by
      unfold Mc_become
      rw [q_gd_s (mO3 hc), q_gd_s (mO3 hc'), q16 _ _ (mA1 hc')]
      congr 1
      funext m4
      rw [q16 _ _ (mA2 hc')]
      congr 1
      funext m6
      rw [q160 _ _ (mA3 hc')]
    rw [e0, a1, b1, d1, q_pf_d, q_pf_d, q_pf_d, q_pf_d, q_pf_d, q_pf_d, q_pf_d, q_pf_d, q_pf_d]
    simp only [oc, fc]
  · intro i p q
    rw [m_st_c (by omega), m_st_c (by omega), m_st_c (by omega), m_st_c (by omega), m_st_c (by omega), m_st_c (by omega), m_st_c (by omega), m_st_c (by omega), m_st_c (by omega), d3 _ _ (by omega), b3 _ _ (by omega)]
    exact a2 i p q
  · intro i p q
    rw [m_st_c (by omega), m_st_c (by omega), m_st_c (by omega), m_st_c (by omega), m_st_c (by omega), m_st_c (by omega), m_st_c (by omega), m_st_c (by omega), m_st_c (by omega), d3 _ _ (by omega), b2 i p q, a3 _ _ (by omega)]
  · intro i p q
    rw [m_st_c (by omega), m_st_c (by omega), m_st_c (by omega), m_st_c (by omega), m_st_c (by omega), m_st_c (by omega), m_st_c (by omega), m_st_c (by omega), m_st_c (by omega), d2 i p q, b3 _ _ (by omega), a3 _ _ (by omega)]
  · intro i p q
    have : i = 5 ∨ i = 6 ∨ i = 7 ∨ i = 8 ∨ i = 9 ∨ i = 10 ∨ i = 11 ∨ i = 12 ∨ i = 13 := by omega
    rcases this with z | z | z | z | z | z | z | z | z <;> (subst z; simp [m_st_d])
  · intro y i p q
    rw [m_st_d, if_neg (by omega), m_st_d, if_neg (by omega), m_st_d, if_neg (by omega), m_st_d, if_neg (by omega), m_st_d, if_neg (by omega), m_st_d, if_neg (by omega), m_st_d, if_neg (by omega), m_st_d, if_neg (by omega), m_st_d, if_neg (by omega)]
    exact f3 y i (by omega) (by omega) (by omega)
/-- the cells that a mark keeps, one behind the other -/
def clc (p : Int) : Int := if p < 9 then 1000 else if p < 57 then 1043 + (p - 9) % 3 else 1046
def cli (p : Int) : Int := if p < 4 then 55 + p else if p < 9 then 59 + p else if p < 57 then (p - 9) / 3 else p - 57
theorem cl_inj {p q : Int} (hp : 0 ≤ p) (hq : 0 ≤ q) (h : p ≠ q) : ¬ (clc p = clc q ∧ cli p = cli q) := by
  unfold clc cli
  split <;> split <;> split <;> split <;> (try split) <;> (try split) <;> (try split) <;> omega
theorem cl_r {p : Int} (h0 : 0 ≤ p) (h1 : p < 217) : (clc p = 1000 ∧ ((55 ≤ cli p ∧ cli p ≤ 58) ∨ (63 ≤ cli p ∧ cli p ≤ 67))) ∨ (1043 ≤ clc p ∧ clc p ≤ 1046 ∧ 0 ≤ cli p) := by
  unfold clc cli
  split <;> split <;> (try split) <;> (try split) <;> omega
def KPS (k v j : Int) (ν ν' : am_M) : Prop := (ν' 1000 90 = 240 * k + j) ∧ (v = 0 → ∀ p, 0 ≤ p → p < j → ν' 1063 (240 * k + p) = ν (clc p) (cli p)) ∧ (v ≠ 0 → ∀ p, 0 ≤ p → p < j → ν' (clc p) (cli p) = ν 1063 (240 * k + p)) ∧ (∀ p, j ≤ p → p < 217 → ν' (clc p) (cli p) = ν (clc p) (cli p)) ∧ (v = 0 → ∀ p, 0 ≤ p → p < j → ν' (clc p) (cli p) = ν (clc p) (cli p)) ∧ (v = 0 → ∀ i, ¬ (240 * k ≤ i ∧ i < 240 * k + j) → ν' 1063 i = ν 1063 i) ∧ (v ≠ 0 → ∀ i, ν' 1063 i = ν 1063 i) ∧ (∀ c i, ¬ (c = 1000 ∧ ((55 ≤ i ∧ i ≤ 58) ∨ (63 ≤ i ∧ i ≤ 67) ∨ i = 90)) → ¬ (1043 ≤ c ∧ c ≤ 1046) → c ≠ 1063 → ν' c i = ν c i)
theorem KPS.at_ {k v j : Int} {ν ν' : am_M} (h : KPS k v j ν ν') : ν' 1000 90 = 240 * k + j := h.1
theorem KPS.s0 {k v j : Int} {ν ν' : am_M} (h : KPS k v j ν ν') : v = 0 → ∀ p, 0 ≤ p → p < j → ν' 1063 (240 * k + p) = ν (clc p) (cli p) := h.2.1
theorem KPS.s1 {k v j : Int} {ν ν' : am_M} (h : KPS k v j ν ν') : v ≠ 0 → ∀ p, 0 ≤ p → p < j → ν' (clc p) (cli p) = ν 1063 (240 * k + p) := h.2.2.1
theorem KPS.nx {k v j : Int} {ν ν' : am_M} (h : KPS k v j ν ν') : ∀ p, j ≤ p → p < 217 → ν' (clc p) (cli p) = ν (clc p) (cli p) := h.2.2.2.1
theorem KPS.k0 {k v j : Int} {ν ν' : am_M} (h : KPS k v j ν ν') : v = 0 → ∀ p, 0 ≤ p → p < j → ν' (clc p) (cli p) = ν (clc p) (cli p) := h.2.2.2.2.1
theorem KPS.m1 {k v j : Int} {ν ν' : am_M} (h : KPS k v j ν ν') : v = 0 → ∀ i, ¬ (240 * k ≤ i ∧ i < 240 * k + j) → ν' 1063 i = ν 1063 i := h.2.2.2.2.2.1
theorem KPS.m2 {k v j : Int} {ν ν' : am_M} (h : KPS k v j ν ν') : v ≠ 0 → ∀ i, ν' 1063 i = ν 1063 i := h.2.2.2.2.2.2.1
theorem KPS.fr {k v j : Int} {ν ν' : am_M} (h : KPS k v j ν ν') : ∀ c i, ¬ (c = 1000 ∧ ((55 ≤ i ∧ i ≤ 58) ∨ (63 ≤ i ∧ i ≤ 67) ∨ i = 90)) → ¬ (1043 ≤ c ∧ c ≤ 1046) → c ≠ 1063 → ν' c i = ν c i := h.2.2.2.2.2.2.2
theorem KPS.mk {k v j : Int} {ν ν' : am_M} (at_ : ν' 1000 90 = 240 * k + j) (s0 : v = 0 → ∀ p, 0 ≤ p → p < j → ν' 1063 (240 * k + p) = ν (clc p) (cli p)) (s1 : v ≠ 0 → ∀ p, 0 ≤ p → p < j → ν' (clc p) (cli p) = ν 1063 (240 * k + p)) (nx : ∀ p, j ≤ p → p < 217 → ν' (clc p) (cli p) = ν (clc p) (cli p)) (k0 : v = 0 → ∀ p, 0 ≤ p → p < j → ν' (clc p) (cli p) = ν (clc p) (cli p)) (m1 : v = 0 → ∀ i, ¬ (240 * k ≤ i ∧ i < 240 * k + j) → ν' 1063 i = ν 1063 i) (m2 : v ≠ 0 → ∀ i, ν' 1063 i = ν 1063 i) (fr : ∀ c i, ¬ (c = 1000 ∧ ((55 ≤ i ∧ i ≤ 58) ∨ (63 ≤ i ∧ i ≤ 67) ∨ i = 90)) → ¬ (1043 ≤ c ∧ c ≤ 1046) → c ≠ 1063 → ν' c i = ν c i) : KPS k v j ν ν' := ⟨at_, s0, s1, nx, k0, m1, m2, fr⟩
theorem KPS.step {k v j x : Int} {ν ν1 : am_M} (hk : 0 ≤ k ∧ k < 4) (hj : 0 ≤ j ∧ j < 217) (h : KPS k v j ν ν1) (hx : ν1 (clc j) (cli j) = x) : ∃ a m1, M_keeps x v ν1 = some (a, m1) ∧ KPS k v (j + 1) ν (m_st m1 (clc j) (cli j) a) ∧ (∀ c i, c ≠ 1000 → c ≠ 1063 → m1 c i = ν1 c i) ∧ (∀ i, i ≠ 90 → m1 1000 i = ν1 1000 i) := by
  have hcl := cl_r hj.1 hj.2
  have hat := h.at_
  by_cases z : v = 0
  · have f : ∀ c i, ¬ (c = 1000 ∧ i = 90) → ¬ (c = 1063 ∧ i = 240 * k + j) → ¬ (c = clc j ∧ i = cli j) → m_st (m_st (m_st ν1 1000 90 (240 * k + j + 1)) 1063 (240 * k + j) x) (clc j) (cli j) x c i = ν1 c i := fun c i p q w => by rw [m_st_d, if_neg w, m_st_d, if_neg q, m_st_d, if_neg p]
    have fk : ∀ c i, ¬ (c = 1000 ∧ i = 90) → ¬ (c = 1063 ∧ i = 240 * k + j) → m_st (m_st (m_st ν1 1000 90 (240 * k + j + 1)) 1063 (240 * k + j) x) (clc j) (cli j) x c i = ν1 c i := fun c i p q => by
      by_cases w : c = clc j ∧ i = cli j
      · rw [m_st_d, if_pos w, w.1, w.2, hx]
      · exact f c i p q w
    refine ⟨x, m_st (m_st ν1 1000 90 (240 * k + j + 1)) 1063 (240 * k + j) x, ?_, ?_, fun c i p q => by rw [m_st_c q, m_st_c p], fun i p => by rw [m_st_c (by decide), m_st_i p]⟩
    · unfold M_keeps
      rw [q_pf_d, if_pos z, hat, w32_i (x := 240 * k + j + 1) (by omega) (by omega), q_st_s (by omega) (by omega)]
    · refine (KPS.mk (at_ := ?_) (s0 := fun _ p p0 p1 => ?_) (s1 := fun y => absurd z y) (nx := fun p p0 p1 => ?_) (k0 := fun _ p p0 p1 => ?_) (m1 := fun _ i p => ?_) (m2 := fun y => absurd z y) (fr := fun c i p q w => ?_))
      · rw [m_st_d, if_neg (by omega), m_st_c (by decide), m_st_d, if_pos ⟨rfl, rfl⟩]; omega
      · by_cases y : p = j
        · subst y
          rw [m_st_d, if_neg (by omega), m_st_d, if_pos ⟨rfl, rfl⟩, ← hx]
          exact h.nx p (Int.le_refl _) hj.2
        · rw [fk _ _ (by omega) (by omega)]
          exact h.s0 z p p0 (by omega)
      · have := cl_r (p := p) (by omega) p1
        rw [fk _ _ (by omega) (by omega)]
        exact h.nx p (by omega) p1
      · have := cl_r (p := p) (by omega) (by omega)
        rw [fk _ _ (by omega) (by omega)]
        by_cases y : p = j
        · rw [y]; exact h.nx j (Int.le_refl _) hj.2
        · exact h.k0 z p p0 (by omega)
      · rw [fk _ _ (by omega) (by omega)]
        exact h.m1 z i (by omega)
      · rw [fk c i (by omega) (by omega)]
        exact h.fr c i p q w
  · generalize ha : ν 1063 (240 * k + j) = a
    have ha1 : ν1 1063 (240 * k + j) = a := by rw [h.m2 z]; exact ha
    have f : ∀ c i, ¬ (c = 1000 ∧ i = 90) → ¬ (c = clc j ∧ i = cli j) → m_st (m_st ν1 1000 90 (240 * k + j + 1)) (clc j) (cli j) a c i = ν1 c i := fun c i p w => by rw [m_st_d, if_neg w, m_st_d, if_neg p]
    refine ⟨a, m_st ν1 1000 90 (240 * k + j + 1), ?_, ?_, fun c i p q => m_st_c p, fun i p => m_st_i p⟩
    · unfold M_keeps
      rw [q_pf_d, if_neg z, hat, w32_i (x := 240 * k + j + 1) (by omega) (by omega), q_ld_s (by omega) (by omega), m_st_c (by decide), ha1]
    · refine (KPS.mk (at_ := ?_) (s0 := fun y => absurd y z) (s1 := fun _ p p0 p1 => ?_) (nx := fun p p0 p1 => ?_) (k0 := fun y => absurd y z) (m1 := fun y => absurd y z) (m2 := fun _ i => ?_) (fr := fun c i p q w => ?_))
      · rw [m_st_d, if_neg (by omega), m_st_d, if_pos ⟨rfl, rfl⟩]; omega
      · by_cases y : p = j
        · subst y
          rw [m_st_d, if_pos ⟨rfl, rfl⟩, ha]
        · have := cl_r (p := p) (by omega) (by omega)
          rw [f _ _ (by omega) (cl_inj p0 hj.1 y)]
          exact h.s1 z p p0 (by omega)
      · have := cl_r (p := p) (by omega) p1
        rw [f _ _ (by omega) (cl_inj (by omega) hj.1 (by omega))]
        exact h.nx p (by omega) p1
      · rw [f _ _ (by omega) (by omega)]
        exact h.m2 z i
      · rw [f c i (by omega) (by omega)]
        exact h.fr c i p q w
