/-! The reference's copying of what it has read. -/
theorem cp19 : ∀ (n f : Nat) (v : Int) (ν : am_M), v + n = 3 → 0 ≤ v → n < f → ∃ ν', M_bills_L19 f v ν = M_bills_L46 am_FU 0 ν' ∧ (∀ k, v ≤ k → k < 3 → ν' 1013 k = ν 1013 (3 + k)) ∧ (∀ c i, ¬ (c = 1013 ∧ v ≤ i ∧ i < 3) → ν' c i = ν c i)
  | n, 0, _, _, _, _, h => by omega
  | 0, f + 1, v, ν, h, h0, _ => by
    refine ⟨ν, ?_, fun k a b => by omega, fun _ _ _ => rfl⟩
    show M_bills_L19_b (M_bills_L19 f) v ν = _
    unfold M_bills_L19_b
    rw [if_neg (by omega)]
  | n + 1, f + 1, v, ν, h, h0, hf => by
    obtain ⟨ν', a1, a2, a3⟩ := cp19 n f (v + 1) (m_st ν 1013 v (ν 1013 (3 + v))) (by omega) (by omega) (by omega)
    refine ⟨ν', ?_, fun k a b => ?_, fun c i z => by rw [a3 c i (by omega), m_st_d, if_neg (by omega)]⟩
    · rw [← a1]
      show M_bills_L19_b (M_bills_L19 f) v ν = _
      unfold M_bills_L19_b
      rw [if_pos (by omega), w32_i (x := 3 + v) (by omega) (by omega), q_ld_s (by omega) (by omega), q_st_s (by omega) (by omega), w32_i (x := v + 1) (by omega) (by omega)]
    · by_cases z : k = v
      · rw [z, a3 _ _ (by omega), m_st_d, if_pos ⟨rfl, rfl⟩]
      · rw [a2 k (by omega) b, m_st_d, if_neg (by omega)]
def cp5 (v : Int) (ν : am_M) : am_M := m_st (m_st (m_st (m_st (m_st ν 1015 v (ν 1015 (4 + v))) 1017 v (ν 1017 (4 + v))) 1018 v (ν 1018 (4 + v))) 1019 v (ν 1019 (4 + v))) 1020 v (ν 1020 (4 + v))
theorem cp5_f {v : Int} {ν : am_M} : ∀ c i, ¬ ((c = 1015 ∨ (1017 ≤ c ∧ c ≤ 1020)) ∧ i = v) → cp5 v ν c i = ν c i := fun c i z => by
  unfold cp5
  rw [m_st_d, if_neg (by omega), m_st_d, if_neg (by omega), m_st_d, if_neg (by omega), m_st_d, if_neg (by omega), m_st_d, if_neg (by omega)]
theorem cp5_v {v : Int} {ν : am_M} : ∀ c, (c = 1015 ∨ (1017 ≤ c ∧ c ≤ 1020)) → cp5 v ν c v = ν c (4 + v) := by
  intro c hc
  unfold cp5
  have h5 : c = 1015 ∨ c = 1017 ∨ c = 1018 ∨ c = 1019 ∨ c = 1020 := by omega
  rcases h5 with z | z | z | z | z <;> (subst z; simp [m_st_d])
theorem cp46 : ∀ (n f : Nat) (v : Int) (ν : am_M), v + n = 4 → 0 ≤ v → n < f → ∃ ν', M_bills_L46 f v ν = M_bills_L129 am_FU 0 ν' ∧ (∀ c k, (c = 1015 ∨ (1017 ≤ c ∧ c ≤ 1020)) → v ≤ k → k < 4 → ν' c k = ν c (4 + k)) ∧ (∀ c i, ¬ ((c = 1015 ∨ (1017 ≤ c ∧ c ≤ 1020)) ∧ v ≤ i ∧ i < 4) → ν' c i = ν c i)
  | n, 0, _, _, _, _, h => by omega
  | 0, f + 1, v, ν, h, h0, _ => by
    refine ⟨ν, ?_, fun c k _ a b => by omega, fun _ _ _ => rfl⟩
    show M_bills_L46_b (M_bills_L46 f) v ν = _
    unfold M_bills_L46_b
    rw [if_neg (by omega)]
  | n + 1, f + 1, v, ν, h, h0, hf => by
    obtain ⟨ν', a1, a2, a3⟩ := cp46 n f (v + 1) (cp5 v ν) (by omega) (by omega) (by omega)
    refine ⟨ν', ?_, fun c k hc a b => ?_, fun c i z => by rw [a3 c i (by omega), cp5_f c i (by omega)]⟩
    · rw [← a1]
      show M_bills_L46_b (M_bills_L46 f) v ν = _
      unfold M_bills_L46_b
      have h1 : 0 ≤ 4 + v := by omega
      have h2 : 4 + v < 8 := by omega
      have h3 : v < 8 := by omega
      rw [if_pos (by omega), w32_i (x := 4 + v) (by omega) (by omega), q_ld_s h1 h2, q_st_s h0 h3, q_ld_s h1 h2, q_st_s h0 h3, q_ld_s h1 h2, q_st_s h0 h3, q_ld_s h1 h2, q_st_s h0 h3, q_ld_s h1 h2, q_st_s h0 h3, w32_i (x := v + 1) (by omega) (by omega)]
      unfold cp5
      simp (disch := decide) only [m_st_c]
    · by_cases z : k = v
      · rw [z, a3 _ _ (by omega), cp5_v c hc]
      · rw [a2 c k hc (by omega) b, cp5_f _ _ (by omega)]
def cpl (v : Int) (ν : am_M) : am_M := m_st (m_st (m_st (m_st (m_st (m_st (m_st (m_st (m_st ν 1002 v (ν 1002 (60 + v))) 1003 v (ν 1003 (60 + v))) 1004 v (ν 1004 (60 + v))) 1005 v (ν 1005 (60 + v))) 1006 v (ν 1006 (60 + v))) 1008 v (w32 (ν 1008 (60 + v) - 60))) 1009 v (w32 (ν 1009 (60 + v) - 60))) 1010 v (w32 (ν 1010 (60 + v) - 1000))) 1011 v (w32 (ν 1011 (60 + v) - 1000))
theorem cpl_f {v : Int} {ν : am_M} : ∀ c i, ¬ (((1002 ≤ c ∧ c ≤ 1006) ∨ (1008 ≤ c ∧ c ≤ 1011)) ∧ i = v) → cpl v ν c i = ν c i := fun c i z => by
  unfold cpl
  rw [m_st_d, if_neg (by omega), m_st_d, if_neg (by omega), m_st_d, if_neg (by omega), m_st_d, if_neg (by omega), m_st_d, if_neg (by omega), m_st_d, if_neg (by omega), m_st_d, if_neg (by omega), m_st_d, if_neg (by omega), m_st_d, if_neg (by omega)]
/-- a cell of a line as it is copied -/
def cpv (c x : Int) : Int := if c ≤ 1006 then x else if c ≤ 1009 then w32 (x - 60) else w32 (x - 1000)
theorem cpl_v {v : Int} {ν : am_M} : ∀ c, ((1002 ≤ c ∧ c ≤ 1006) ∨ (1008 ≤ c ∧ c ≤ 1011)) → cpl v ν c v = cpv c (ν c (60 + v)) := by
  intro c hc
  unfold cpl cpv
  have h5 : c = 1002 ∨ c = 1003 ∨ c = 1004 ∨ c = 1005 ∨ c = 1006 ∨ c = 1008 ∨ c = 1009 ∨ c = 1010 ∨ c = 1011 := by omega
  rcases h5 with z | z | z | z | z | z | z | z | z <;> (subst z; simp [m_st_d])
theorem cp286 {k129 : Int → am_M → am_O} {v : Int} (h0 : 0 ≤ v) (h60 : v < 60) : ∀ (n f : Nat) (w : Int) (ν : am_M), w + n = 4 → 0 ≤ w → n < f → ∃ ν', M_bills_L286 k129 f v w ν = k129 (v + 1) ν' ∧ (∀ i, w ≤ i → i < 4 → ν' 1007 (4 * v + i) = ν 1007 (240 + 4 * v + i)) ∧ (∀ c i, ¬ (c = 1007 ∧ 4 * v + w ≤ i ∧ i < 4 * v + 4) → ν' c i = ν c i)
  | n, 0, _, _, _, _, h => by omega
  | 0, f + 1, w, ν, h, hw, _ => by
    refine ⟨ν, ?_, fun i a b => by omega, fun _ _ _ => rfl⟩
    show M_bills_L286_b k129 (M_bills_L286 k129 f) v w ν = _
    unfold M_bills_L286_b
    rw [if_neg (by omega), w32_i (x := v + 1) (by omega) (by omega)]
  | n + 1, f + 1, w, ν, h, hw, hf => by
    obtain ⟨ν', a1, a2, a3⟩ := cp286 (k129 := k129) h0 h60 n f (w + 1) (m_st ν 1007 (4 * v + w) (ν 1007 (240 + 4 * v + w))) (by omega) (by omega) (by omega)
    refine ⟨ν', ?_, fun i a b => ?_, fun c i z => by rw [a3 c i (by omega), m_st_d, if_neg (by omega)]⟩
    · rw [← a1]
      show M_bills_L286_b k129 (M_bills_L286 k129 f) v w ν = _
      unfold M_bills_L286_b
      rw [if_pos (by omega), w32_i (x := 4 * v) (by omega) (by omega), w32_i (x := 240 + 4 * v) (by omega) (by omega), w32_i (x := 240 + 4 * v + w) (by omega) (by omega), w32_i (x := 4 * v + w) (by omega) (by omega), q_ld_s (by omega) (by omega), q_st_s (by omega) (by omega), w32_i (x := w + 1) (by omega) (by omega)]
    · by_cases z : i = w
      · rw [z, a3 _ _ (by omega), m_st_d, if_pos ⟨rfl, rfl⟩]
      · rw [a2 i (by omega) b, m_st_d, if_neg (by omega)]
theorem cp129 : ∀ (n f : Nat) (v : Int) (ν : am_M), v + n = 60 → 0 ≤ v → n < f → ∃ ν', M_bills_L129 f v ν = M_bills_L329 am_FU 0 ν' ∧ (∀ c k, ((1002 ≤ c ∧ c ≤ 1006) ∨ (1008 ≤ c ∧ c ≤ 1011)) → v ≤ k → k < 60 → ν' c k = cpv c (ν c (60 + k))) ∧ (∀ i, 4 * v ≤ i → i < 240 → ν' 1007 i = ν 1007 (240 + i)) ∧ (∀ c i, ¬ (((1002 ≤ c ∧ c ≤ 1006) ∨ (1008 ≤ c ∧ c ≤ 1011)) ∧ v ≤ i ∧ i < 60) → ¬ (c = 1007 ∧ 4 * v ≤ i ∧ i < 240) → ν' c i = ν c i)
  | n, 0, _, _, _, _, h => by omega
  | 0, f + 1, v, ν, h, h0, _ => by
    refine ⟨ν, ?_, fun c k _ a b => by omega, fun i a b => by omega, fun _ _ _ _ => rfl⟩
    show M_bills_L129_b (M_bills_L129 f) v ν = _
    unfold M_bills_L129_b
    rw [if_neg (by omega)]
  | n + 1, f + 1, v, ν, h, h0, hf => by
    obtain ⟨νb, b1, b2, b3⟩ := cp286 (k129 := M_bills_L129 f) (v := v) h0 (by omega) 4 am_FU 0 (cpl v ν) (by omega) (by omega) (by have := am_FU_ge; omega)
    obtain ⟨ν', a1, a2, a4, a3⟩ := cp129 n f (v + 1) νb (by omega) (by omega) (by omega)
    refine ⟨ν', ?_, fun c k hc a b => ?_, fun i a b => ?_, fun c i z y => by rw [a3 c i (by omega) (by omega), b3 c i (by omega), cpl_f c i (by omega)]⟩
    · rw [← a1, ← b1]
      show M_bills_L129_b (M_bills_L129 f) v ν = _
      unfold M_bills_L129_b
      have h1 : 0 ≤ 60 + v := by omega
      have h2 : 60 + v < 120 := by omega
      have h3 : v < 120 := by omega
      rw [if_pos (by omega), w32_i (x := 60 + v) (by omega) (by omega), q_ld_s h1 h2, q_st_s h0 h3, q_ld_s h1 h2, q_st_s h0 h3, q_ld_s h1 h2, q_st_s h0 h3, q_ld_s h1 h2, q_st_s h0 h3, q_ld_s h1 h2, q_st_s h0 h3, q_ld_s h1 h2, q_st_s h0 h3, q_ld_s h1 h2, q_st_s h0 h3, q_ld_s h1 h2, q_st_s h0 h3, q_ld_s h1 h2, q_st_s h0 h3]
      unfold cpl
      simp (disch := decide) only [m_st_c]
    · by_cases z : k = v
      · rw [z, a3 _ _ (by omega) (by omega), b3 _ _ (by omega), cpl_v c hc]
      · rw [a2 c k hc (by omega) b, b3 _ _ (by omega), cpl_f _ _ (by omega)]
    · by_cases z : i < 4 * (v + 1)
      · have e := b2 (i - 4 * v) (by omega) (by omega)
        have e1 : 4 * v + (i - 4 * v) = i := by omega
        have e2 : 240 + 4 * v + (i - 4 * v) = 240 + i := by omega
        rw [e1, e2] at e
        rw [a3 _ _ (by omega) (by omega), e, cpl_f _ _ (by omega)]
      · rw [a4 i (by omega) b, b3 _ _ (by omega), cpl_f _ _ (by omega)]
theorem cp329 : ∀ (n f : Nat) (v : Int) (ν : am_M), v + n = 1000 → 0 ≤ v → n < f → ∃ ν', M_bills_L329 f v ν = M_bills_L360 am_FU 0 ν' ∧ (∀ k, v ≤ k → k < 1000 → ν' 1012 k = ν 1012 (1000 + k)) ∧ (∀ c i, ¬ (c = 1012 ∧ v ≤ i ∧ i < 1000) → ν' c i = ν c i)
  | n, 0, _, _, _, _, h => by omega
  | 0, f + 1, v, ν, h, h0, _ => by
    refine ⟨ν, ?_, fun k a b => by omega, fun _ _ _ => rfl⟩
    show M_bills_L329_b (M_bills_L329 f) v ν = _
    unfold M_bills_L329_b
    rw [if_neg (by omega)]
  | n + 1, f + 1, v, ν, h, h0, hf => by
    obtain ⟨ν', a1, a2, a3⟩ := cp329 n f (v + 1) (m_st ν 1012 v (ν 1012 (1000 + v))) (by omega) (by omega) (by omega)
    refine ⟨ν', ?_, fun k a b => ?_, fun c i z => by rw [a3 c i (by omega), m_st_d, if_neg (by omega)]⟩
    · rw [← a1]
      show M_bills_L329_b (M_bills_L329 f) v ν = _
      unfold M_bills_L329_b
      rw [if_pos (by omega), w32_i (x := 1000 + v) (by omega) (by omega), q_ld_s (by omega) (by omega), q_st_s (by omega) (by omega), w32_i (x := v + 1) (by omega) (by omega)]
    · by_cases z : k = v
      · rw [z, a3 _ _ (by omega), m_st_d, if_pos ⟨rfl, rfl⟩]
      · rw [a2 k (by omega) b, m_st_d, if_neg (by omega)]
/-- what is told now is what was read -/
def CPD (ν ν' : am_M) : Prop := (∀ k, 0 ≤ k → k < 3 → ν' 1013 k = ν 1013 (3 + k)) ∧ (∀ c k, (c = 1015 ∨ (1017 ≤ c ∧ c ≤ 1020)) → 0 ≤ k → k < 4 → ν' c k = ν c (4 + k)) ∧ (∀ c k, ((1002 ≤ c ∧ c ≤ 1006) ∨ (1008 ≤ c ∧ c ≤ 1011)) → 0 ≤ k → k < 60 → ν' c k = cpv c (ν c (60 + k))) ∧ (∀ i, 0 ≤ i → i < 240 → ν' 1007 i = ν 1007 (240 + i)) ∧ (∀ k, 0 ≤ k → k < 1000 → ν' 1012 k = ν 1012 (1000 + k)) ∧ (∀ c i, ¬ ((1002 ≤ c ∧ c ≤ 1013) ∨ c = 1015 ∨ (1017 ≤ c ∧ c ≤ 1020)) → ν' c i = ν c i)
theorem CPD.c13 {ν ν' : am_M} (h : CPD ν ν') : ∀ k, 0 ≤ k → k < 3 → ν' 1013 k = ν 1013 (3 + k) := h.1
theorem CPD.c5 {ν ν' : am_M} (h : CPD ν ν') : ∀ c k, (c = 1015 ∨ (1017 ≤ c ∧ c ≤ 1020)) → 0 ≤ k → k < 4 → ν' c k = ν c (4 + k) := h.2.1
theorem CPD.cl {ν ν' : am_M} (h : CPD ν ν') : ∀ c k, ((1002 ≤ c ∧ c ≤ 1006) ∨ (1008 ≤ c ∧ c ≤ 1011)) → 0 ≤ k → k < 60 → ν' c k = cpv c (ν c (60 + k)) := h.2.2.1
theorem CPD.c7 {ν ν' : am_M} (h : CPD ν ν') : ∀ i, 0 ≤ i → i < 240 → ν' 1007 i = ν 1007 (240 + i) := h.2.2.2.1
theorem CPD.c12 {ν ν' : am_M} (h : CPD ν ν') : ∀ k, 0 ≤ k → k < 1000 → ν' 1012 k = ν 1012 (1000 + k) := h.2.2.2.2.1
theorem CPD.fr {ν ν' : am_M} (h : CPD ν ν') : ∀ c i, ¬ ((1002 ≤ c ∧ c ≤ 1013) ∨ c = 1015 ∨ (1017 ≤ c ∧ c ≤ 1020)) → ν' c i = ν c i := h.2.2.2.2.2
theorem CPD.mk {ν ν' : am_M} (c13 : ∀ k, 0 ≤ k → k < 3 → ν' 1013 k = ν 1013 (3 + k)) (c5 : ∀ c k, (c = 1015 ∨ (1017 ≤ c ∧ c ≤ 1020)) → 0 ≤ k → k < 4 → ν' c k = ν c (4 + k)) (cl : ∀ c k, ((1002 ≤ c ∧ c ≤ 1006) ∨ (1008 ≤ c ∧ c ≤ 1011)) → 0 ≤ k → k < 60 → ν' c k = cpv c (ν c (60 + k))) (c7 : ∀ i, 0 ≤ i → i < 240 → ν' 1007 i = ν 1007 (240 + i)) (c12 : ∀ k, 0 ≤ k → k < 1000 → ν' 1012 k = ν 1012 (1000 + k)) (fr : ∀ c i, ¬ ((1002 ≤ c ∧ c ≤ 1013) ∨ c = 1015 ∨ (1017 ≤ c ∧ c ≤ 1020)) → ν' c i = ν c i) : CPD ν ν' := ⟨c13, c5, cl, c7, c12, fr⟩
theorem copy_s (ν : am_M) : ∃ ν', M_bills_L19 am_FU 0 ν = M_bills_L360 am_FU 0 ν' ∧ CPD ν ν' := by
  have hF := am_FU_ge
  obtain ⟨ν1, a1, a2, a3⟩ := cp19 3 am_FU 0 ν (by omega) (by omega) (by omega)
  obtain ⟨ν2, b1, b2, b3⟩ := cp46 4 am_FU 0 ν1 (by omega) (by omega) (by omega)
  obtain ⟨ν3, c1, c2, c3, c4⟩ := cp129 60 am_FU 0 ν2 (by omega) (by omega) (by omega)
  obtain ⟨ν4, d1, d2, d3⟩ := cp329 1000 am_FU 0 ν3 (by omega) (by omega) (by omega)
  refine ⟨ν4, by rw [a1, b1, c1, d1], ?_⟩
  refine (CPD.mk (c13 := fun k p q => by rw [d3 _ _ (by omega), c4 _ _ (by omega) (by omega), b3 _ _ (by omega)]; exact a2 k p q) (c5 := fun c k h p q => by rw [d3 _ _ (by omega), c4 _ _ (by omega) (by omega), b2 c k h p q, a3 _ _ (by omega)]) (cl := fun c k h p q => by rw [d3 _ _ (by omega), c2 c k h p q, b3 _ _ (by omega), a3 _ _ (by omega)]) (c7 := fun i p q => by rw [d3 _ _ (by omega), c3 i (by omega) q, b3 _ _ (by omega), a3 _ _ (by omega)]) (c12 := fun k p q => by rw [d2 k p q, c4 _ _ (by omega) (by omega), b3 _ _ (by omega), a3 _ _ (by omega)]) (fr := fun c i z => by rw [d3 _ _ (by omega), c4 _ _ (by omega) (by omega), b3 _ _ (by omega), a3 _ _ (by omega)]))
