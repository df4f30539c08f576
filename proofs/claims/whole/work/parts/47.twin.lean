/-! twin. -/
theorem LN_set {b B W l p c i v : Int} {μ ν : am_M} (h : LN b B W l p μ ν) (hc : 1002 ≤ c ∧ c ≤ 1011) : LN b B W l p μ (m_st ν c i v) := by
  have g : ∀ c' i', c' < 1002 ∨ 1011 < c' → m_st ν c i v c' i' = ν c' i' := fun c' i' z => m_st_c (by omega)
  exact (LN.mk (tr := h.tr.cong (fun _ _ _ => rfl) (fun c i z => g c i (by omega))) (rd := h.rd) (nw := h.nw.cong (fun _ _ _ => rfl) (fun c i z => g c i (by omega))) (sl := h.sl.cong (fun _ _ _ => rfl) (fun c i z => g c i (by omega))) (cB := by rw [g _ _ (by omega)]; exact h.cB) (cW := by rw [g _ _ (by omega)]; exact h.cW) (B1 := h.B1) (cnt := h.cnt) (reg := h.reg) (l0 := h.l0) (st := h.st) (sp := h.sp) (p0 := h.p0) (cap := h.cap) (q0 := by rw [g _ _ (by omega)]; exact h.q0) (caq := by rw [g _ _ (by omega)]; exact h.caq))
theorem FL1.tr {b l p : Int} {μ μ' μ'' : am_M} (h : FL1 b l p μ μ') (h' : FL1 b l p μ' μ'') : FL1 b l p μ μ'' := fun c i z => by rw [h' c i z, h c i z]
theorem FL2.tr {B l q : Int} {μ μ' μ'' : am_M} (h : FL2 B l q μ μ') (h' : FL2 B l q μ' μ'') : FL2 B l q μ μ'' := fun c i z => by rw [h' c i z, h c i z]
theorem FL2_set {B l q c i v : Int} {ν : am_M} (h : (((1003 ≤ c ∧ c ≤ 1006) ∨ c = 1010 ∨ c = 1011) ∧ i = 60 + l) ∨ (c = 1007 ∧ 4 * (60 + l) ≤ i ∧ i < 4 * (60 + l) + 4)) : FL2 B l q ν (m_st ν c i v) := fun c' i' z => by
  rw [m_st_d, if_neg]
  intro y
  rw [y.1, y.2] at z
  omega
theorem FL_set {μ ν : am_M} {c i v : Int} (h : FL μ ν) (hc : c ≠ 1000) : FL μ (m_st ν c i v) := ⟨by rw [h.1, m_st_c (by omega)], h.2⟩
theorem FL1_10 {b l p : Int} {μ μ' : am_M} (h : ∀ c i, c ≠ 10 → μ' c i = μ c i) : FL1 b l p μ μ' := fun c i z => h c i (by omega)
theorem FL1_f {b l p : Int} {μ μ' : am_M} (h : ∀ c i, ¬ (c = 20 ∧ i = 10) → μ' c i = μ c i) : FL1 b l p μ μ' := fun c i z => h c i (by omega)
theorem FL2_t {B l q : Int} {ν ν' : am_M} (h : ∀ c i, ¬ (c = 1000 ∧ 4 ≤ i ∧ i ≤ 8) → ν' c i = ν c i) : FL2 B l q ν ν' := fun c i z => h c i (by omega)
theorem FL2_f {B l q : Int} {ν ν' : am_M} (h : ∀ c i, ¬ (c = 1000 ∧ i = 9) → ν' c i = ν c i) : FL2 B l q ν ν' := fun c i z => h c i (by omega)
