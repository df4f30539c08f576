/-! A line begun on both sides; burn. -/
def LB (b B W l p k : Int) (μ ν : am_M) : Prop := (LN b B W l p μ ν) ∧ (μ (b + 1) 11 = p) ∧ (μ (b + 2) l = k) ∧ (μ (b + 3) l = -1) ∧ (μ (b + 4) l = -1) ∧ (μ (b + 5) l = 1) ∧ (μ (b + 6) l = -1) ∧ (ν 1002 (60 + l) = k) ∧ (ν 1003 (60 + l) = -1) ∧ (ν 1004 (60 + l) = -1) ∧ (ν 1005 (60 + l) = 1) ∧ (ν 1006 (60 + l) = -1) ∧ (∀ i, 0 ≤ i → i < 4 → ν 1007 (4 * (60 + l) + i) = -1) ∧ (ν 1010 (60 + l) = ν 1000 30) ∧ (ν 1011 (60 + l) = ν 1000 30)
theorem LB.ln {b B W l p k : Int} {μ ν : am_M} (h : LB b B W l p k μ ν) : LN b B W l p μ ν := h.1
theorem LB.pc {b B W l p k : Int} {μ ν : am_M} (h : LB b B W l p k μ ν) : μ (b + 1) 11 = p := h.2.1
theorem LB.k2 {b B W l p k : Int} {μ ν : am_M} (h : LB b B W l p k μ ν) : μ (b + 2) l = k := h.2.2.1
theorem LB.k3 {b B W l p k : Int} {μ ν : am_M} (h : LB b B W l p k μ ν) : μ (b + 3) l = -1 := h.2.2.2.1
theorem LB.k4 {b B W l p k : Int} {μ ν : am_M} (h : LB b B W l p k μ ν) : μ (b + 4) l = -1 := h.2.2.2.2.1
theorem LB.k5 {b B W l p k : Int} {μ ν : am_M} (h : LB b B W l p k μ ν) : μ (b + 5) l = 1 := h.2.2.2.2.2.1
theorem LB.k6 {b B W l p k : Int} {μ ν : am_M} (h : LB b B W l p k μ ν) : μ (b + 6) l = -1 := h.2.2.2.2.2.2.1
theorem LB.m2 {b B W l p k : Int} {μ ν : am_M} (h : LB b B W l p k μ ν) : ν 1002 (60 + l) = k := h.2.2.2.2.2.2.2.1
theorem LB.m3 {b B W l p k : Int} {μ ν : am_M} (h : LB b B W l p k μ ν) : ν 1003 (60 + l) = -1 := h.2.2.2.2.2.2.2.2.1
theorem LB.m4 {b B W l p k : Int} {μ ν : am_M} (h : LB b B W l p k μ ν) : ν 1004 (60 + l) = -1 := h.2.2.2.2.2.2.2.2.2.1
theorem LB.m5 {b B W l p k : Int} {μ ν : am_M} (h : LB b B W l p k μ ν) : ν 1005 (60 + l) = 1 := h.2.2.2.2.2.2.2.2.2.2.1
theorem LB.m6 {b B W l p k : Int} {μ ν : am_M} (h : LB b B W l p k μ ν) : ν 1006 (60 + l) = -1 := h.2.2.2.2.2.2.2.2.2.2.2.1
theorem LB.m7 {b B W l p k : Int} {μ ν : am_M} (h : LB b B W l p k μ ν) : ∀ i, 0 ≤ i → i < 4 → ν 1007 (4 * (60 + l) + i) = -1 := h.2.2.2.2.2.2.2.2.2.2.2.2.1
theorem LB.m10 {b B W l p k : Int} {μ ν : am_M} (h : LB b B W l p k μ ν) : ν 1010 (60 + l) = ν 1000 30 := h.2.2.2.2.2.2.2.2.2.2.2.2.2.1
theorem LB.m11 {b B W l p k : Int} {μ ν : am_M} (h : LB b B W l p k μ ν) : ν 1011 (60 + l) = ν 1000 30 := h.2.2.2.2.2.2.2.2.2.2.2.2.2.2
theorem LB.mk {b B W l p k : Int} {μ ν : am_M} (ln : LN b B W l p μ ν) (pc : μ (b + 1) 11 = p) (k2 : μ (b + 2) l = k) (k3 : μ (b + 3) l = -1) (k4 : μ (b + 4) l = -1) (k5 : μ (b + 5) l = 1) (k6 : μ (b + 6) l = -1) (m2 : ν 1002 (60 + l) = k) (m3 : ν 1003 (60 + l) = -1) (m4 : ν 1004 (60 + l) = -1) (m5 : ν 1005 (60 + l) = 1) (m6 : ν 1006 (60 + l) = -1) (m7 : ∀ i, 0 ≤ i → i < 4 → ν 1007 (4 * (60 + l) + i) = -1) (m10 : ν 1010 (60 + l) = ν 1000 30) (m11 : ν 1011 (60 + l) = ν 1000 30) : LB b B W l p k μ ν := ⟨ln, pc, k2, k3, k4, k5, k6, m2, m3, m4, m5, m6, m7, m10, m11⟩
/-- what a line's reading may change -/
def FL1 (b l p : Int) (μ μ' : am_M) : Prop := ∀ c i, ¬ (c = 10 ∨ (c = 20 ∧ (i = 6 ∨ i = 8 ∨ i = 9 ∨ i = 10)) ∨ c = 21 ∨ c = 23 ∨ (c = b + 1 ∧ i = 11) ∨ (b + 3 ≤ c ∧ c ≤ b + 6 ∧ i = l) ∨ (c = b + 10 ∧ i = l) ∨ (c = b + 11 ∧ p ≤ i)) → μ' c i = μ c i
def FL2 (B l q : Int) (ν ν' : am_M) : Prop := ∀ c i, ¬ ((c = 1000 ∧ ((4 ≤ i ∧ i ≤ 9) ∨ i = 30)) ∨ (c = 1012 ∧ q ≤ i) ∨ (c = 1020 ∧ i = 3 + B) ∨ c = 1021 ∨ c = 1022 ∨ c = 1023 ∨ (((1003 ≤ c ∧ c ≤ 1006) ∨ c = 1010 ∨ c = 1011) ∧ i = 60 + l) ∨ (c = 1007 ∧ 4 * (60 + l) ≤ i ∧ i < 4 * (60 + l) + 4)) → ν' c i = ν c i
/-- no code was laid -/
def NZ (l : Int) (ν ν2 : am_M) : Prop := ν2 1000 30 = ν 1000 30 ∧ ν2 1010 (60 + l) = ν 1010 (60 + l) ∧ ν2 1011 (60 + l) = ν 1011 (60 + l)
/-- a line's outcome: class x then its sign, reference y -/
def LO (b B W l p q t : Int) (Wn : Int → Int) (μ ν : am_M) (x y : am_O) : Prop :=
  ∃ r μ1, x = some (r, μ1) ∧ FL1 b l p μ μ1 ∧ ((r = 0 ∧ ∃ ν1, y = some (0, ν1) ∧ FL μ1 ν1 ∧ FL2 B l q ν ν1) ∨
    (r = 1 ∧ ∃ r2 μ2 ν2, Rd_expect 59 μ1 = some (r2, μ2) ∧ y = some (r2, ν2) ∧ FL1 b l p μ μ2 ∧ FL2 B l q ν ν2 ∧ ((r2 = 0 ∧ FL μ2 ν2) ∨ (r2 = 1 ∧ LN b B W l p μ2 ν2 ∧ LR b 60 1000 W (μ2 20 6) t l Wn μ2 ν2 ∧ μ 20 6 ≤ μ2 20 6 ∧ μ 10 3 < μ2 10 3 ∧ NZ l ν ν2))))
theorem LN_adv {b B W l p : Int} {μ ν : am_M} (hb : bOk b) (h : LN b B W l p μ ν) {μ' ν' : am_M} (a3 : TR μ' ν') (a4 : ∀ c i, c ≠ 10 → μ' c i = μ c i) (a5 : ∀ c i, ¬ (c = 1000 ∧ 4 ≤ i ∧ i ≤ 8) → ν' c i = ν c i) (a6 : μ 10 3 < μ' 10 3) : LN b B W l p μ' ν' := by
  have hb' : b = 100 ∨ b = 200 := hb
  have hcap := h.cap
  have hcaq := h.caq
  exact (LN.mk (tr := a3) (rd := h.rd.cong (fun i z => a4 _ _ (by omega))) (nw := h.nw.cong (fun c i z => a4 _ _ (by omega)) (fun c i z => a5 _ _ (by omega))) (sl := h.sl.cong (fun c i z => a4 _ _ (by omega)) (fun c i z => a5 _ _ (by omega))) (cB := by rw [a5 _ _ (by omega)]; exact h.cB) (cW := by rw [a5 _ _ (by omega)]; exact h.cW) (B1 := h.B1) (cnt := by rw [a4 _ _ (by omega)]; exact h.cnt) (reg := by rw [a4 _ _ (by omega)]; exact h.reg) (l0 := h.l0) (st := by rw [a4 _ _ (by omega)]; exact h.st) (sp := by rw [a4 _ _ (by omega), a4 _ _ (by omega)]; exact h.sp) (p0 := by rw [a4 _ _ (by omega)]; exact h.p0) (cap := by rw [a4 _ _ (by omega)]; omega) (q0 := by rw [a5 _ _ (by omega)]; exact h.q0) (caq := by rw [a5 _ _ (by omega)]; omega))
