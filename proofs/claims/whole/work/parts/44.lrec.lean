/-! A line as both sides keep it. -/
def hE (k : Int) : Prop := k = 1 ∨ k = 5 ∨ k = 8
/-- how many slips a line without an E reads; t: what its callee takes -/
def nS (k t : Int) : Int := if k = 2 ∨ k = 3 then 1 else if k = 4 then t else 0
def LR (b o oc W S t l : Int) (Wn : Int → Int) (μ ν : am_M) : Prop := (μ (b + 2) l = ν 1002 (o + l) ∧ 0 ≤ ν 1002 (o + l) ∧ ν 1002 (o + l) ≤ 8) ∧ (μ (b + 3) l = ν 1003 (o + l) ∧ -1 ≤ ν 1003 (o + l) ∧ ν 1003 (o + l) < S) ∧ (μ (b + 4) l = ν 1004 (o + l) ∧ -1 ≤ ν 1004 (o + l) ∧ ν 1004 (o + l) < S) ∧ ((ν 1005 (o + l) = 1 ∧ μ (b + 5) l = 1) ∨ (ν 1005 (o + l) = 2 ∧ μ (b + 5) l = 0)) ∧ (μ (b + 6) l = ν 1006 (o + l) ∧ -1 ≤ ν 1006 (o + l)) ∧ (0 ≤ μ (b + 9) l ∧ μ (b + 9) l ≤ μ (b + 10) l ∧ μ (b + 10) l ≤ 1000) ∧ (oc ≤ ν 1010 (o + l) ∧ ν 1010 (o + l) ≤ ν 1011 (o + l) ∧ ν 1011 (o + l) ≤ oc + 1000) ∧ (∀ i, 0 ≤ i → i < 4 → -1 ≤ ν 1007 (4 * (o + l) + i) ∧ ν 1007 (4 * (o + l) + i) < S) ∧ (hE (ν 1002 (o + l)) → (∀ i, 0 ≤ i → i < 4 → ν 1007 (4 * (o + l) + i) = -1) ∧ ∃ L, fsg (ν 1012) (ν 1010 (o + l)) L ∧ ν 1011 (o + l) = ν 1010 (o + l) + L.length ∧ okE L ∧ dpR L st0 ∧ hR (convR Wn L) = some 1 ∧ (∀ c ∈ L, vC S W c) ∧ rsg (μ (b + 11)) (μ (b + 9) l) (convR Wn L) ∧ μ (b + 10) l = μ (b + 9) l + (convR Wn L).length) ∧ (¬ hE (ν 1002 (o + l)) → μ (b + 10) l = μ (b + 9) l + nS (ν 1002 (o + l)) t ∧ (∀ i, 0 ≤ i → i < nS (ν 1002 (o + l)) t → 0 ≤ ν 1007 (4 * (o + l) + i) ∧ μ (b + 11) (μ (b + 9) l + i) = 2 + ν 1007 (4 * (o + l) + i) * 128) ∧ (∀ i, nS (ν 1002 (o + l)) t ≤ i → i < 4 → ν 1007 (4 * (o + l) + i) = -1)) ∧ ((0 ≤ ν 1003 (o + l) ↔ ν 1002 (o + l) = 0 ∨ ν 1002 (o + l) = 1 ∨ ν 1002 (o + l) = 2 ∨ ν 1002 (o + l) = 4)) ∧ ((0 ≤ ν 1004 (o + l) ↔ ν 1002 (o + l) = 2)) ∧ ((0 ≤ ν 1006 (o + l) ↔ ν 1002 (o + l) = 4)) ∧ (ν 1005 (o + l) = 2 → ν 1002 (o + l) = 0 ∨ ν 1002 (o + l) = 1) ∧ (0 ≤ t ∧ t ≤ 4)
theorem LR.kd {b o oc W S t l : Int} {Wn : Int → Int} {μ ν : am_M} (h : LR b o oc W S t l Wn μ ν) : μ (b + 2) l = ν 1002 (o + l) ∧ 0 ≤ ν 1002 (o + l) ∧ ν 1002 (o + l) ≤ 8 := h.1
theorem LR.la {b o oc W S t l : Int} {Wn : Int → Int} {μ ν : am_M} (h : LR b o oc W S t l Wn μ ν) : μ (b + 3) l = ν 1003 (o + l) ∧ -1 ≤ ν 1003 (o + l) ∧ ν 1003 (o + l) < S := h.2.1
theorem LR.be {b o oc W S t l : Int} {Wn : Int → Int} {μ ν : am_M} (h : LR b o oc W S t l Wn μ ν) : μ (b + 4) l = ν 1004 (o + l) ∧ -1 ≤ ν 1004 (o + l) ∧ ν 1004 (o + l) < S := h.2.2.1
theorem LR.on {b o oc W S t l : Int} {Wn : Int → Int} {μ ν : am_M} (h : LR b o oc W S t l Wn μ ν) : (ν 1005 (o + l) = 1 ∧ μ (b + 5) l = 1) ∨ (ν 1005 (o + l) = 2 ∧ μ (b + 5) l = 0) := h.2.2.2.1
theorem LR.ca {b o oc W S t l : Int} {Wn : Int → Int} {μ ν : am_M} (h : LR b o oc W S t l Wn μ ν) : μ (b + 6) l = ν 1006 (o + l) ∧ -1 ≤ ν 1006 (o + l) := h.2.2.2.2.1
theorem LR.st {b o oc W S t l : Int} {Wn : Int → Int} {μ ν : am_M} (h : LR b o oc W S t l Wn μ ν) : 0 ≤ μ (b + 9) l ∧ μ (b + 9) l ≤ μ (b + 10) l ∧ μ (b + 10) l ≤ 1000 := h.2.2.2.2.2.1
theorem LR.fr {b o oc W S t l : Int} {Wn : Int → Int} {μ ν : am_M} (h : LR b o oc W S t l Wn μ ν) : oc ≤ ν 1010 (o + l) ∧ ν 1010 (o + l) ≤ ν 1011 (o + l) ∧ ν 1011 (o + l) ≤ oc + 1000 := h.2.2.2.2.2.2.1
theorem LR.so {b o oc W S t l : Int} {Wn : Int → Int} {μ ν : am_M} (h : LR b o oc W S t l Wn μ ν) : ∀ i, 0 ≤ i → i < 4 → -1 ≤ ν 1007 (4 * (o + l) + i) ∧ ν 1007 (4 * (o + l) + i) < S := h.2.2.2.2.2.2.2.1
theorem LR.ee {b o oc W S t l : Int} {Wn : Int → Int} {μ ν : am_M} (h : LR b o oc W S t l Wn μ ν) : hE (ν 1002 (o + l)) → (∀ i, 0 ≤ i → i < 4 → ν 1007 (4 * (o + l) + i) = -1) ∧ ∃ L, fsg (ν 1012) (ν 1010 (o + l)) L ∧ ν 1011 (o + l) = ν 1010 (o + l) + L.length ∧ okE L ∧ dpR L st0 ∧ hR (convR Wn L) = some 1 ∧ (∀ c ∈ L, vC S W c) ∧ rsg (μ (b + 11)) (μ (b + 9) l) (convR Wn L) ∧ μ (b + 10) l = μ (b + 9) l + (convR Wn L).length := h.2.2.2.2.2.2.2.2.1
theorem LR.ne {b o oc W S t l : Int} {Wn : Int → Int} {μ ν : am_M} (h : LR b o oc W S t l Wn μ ν) : ¬ hE (ν 1002 (o + l)) → μ (b + 10) l = μ (b + 9) l + nS (ν 1002 (o + l)) t ∧ (∀ i, 0 ≤ i → i < nS (ν 1002 (o + l)) t → 0 ≤ ν 1007 (4 * (o + l) + i) ∧ μ (b + 11) (μ (b + 9) l + i) = 2 + ν 1007 (4 * (o + l) + i) * 128) ∧ (∀ i, nS (ν 1002 (o + l)) t ≤ i → i < 4 → ν 1007 (4 * (o + l) + i) = -1) := h.2.2.2.2.2.2.2.2.2.1
theorem LR.sl {b o oc W S t l : Int} {Wn : Int → Int} {μ ν : am_M} (h : LR b o oc W S t l Wn μ ν) : (0 ≤ ν 1003 (o + l) ↔ ν 1002 (o + l) = 0 ∨ ν 1002 (o + l) = 1 ∨ ν 1002 (o + l) = 2 ∨ ν 1002 (o + l) = 4) := h.2.2.2.2.2.2.2.2.2.2.1
theorem LR.sb {b o oc W S t l : Int} {Wn : Int → Int} {μ ν : am_M} (h : LR b o oc W S t l Wn μ ν) : (0 ≤ ν 1004 (o + l) ↔ ν 1002 (o + l) = 2) := h.2.2.2.2.2.2.2.2.2.2.2.1
theorem LR.sc {b o oc W S t l : Int} {Wn : Int → Int} {μ ν : am_M} (h : LR b o oc W S t l Wn μ ν) : (0 ≤ ν 1006 (o + l) ↔ ν 1002 (o + l) = 4) := h.2.2.2.2.2.2.2.2.2.2.2.2.1
theorem LR.sk {b o oc W S t l : Int} {Wn : Int → Int} {μ ν : am_M} (h : LR b o oc W S t l Wn μ ν) : ν 1005 (o + l) = 2 → ν 1002 (o + l) = 0 ∨ ν 1002 (o + l) = 1 := h.2.2.2.2.2.2.2.2.2.2.2.2.2.1
theorem LR.t0 {b o oc W S t l : Int} {Wn : Int → Int} {μ ν : am_M} (h : LR b o oc W S t l Wn μ ν) : 0 ≤ t ∧ t ≤ 4 := h.2.2.2.2.2.2.2.2.2.2.2.2.2.2
theorem LR.mk {b o oc W S t l : Int} {Wn : Int → Int} {μ ν : am_M} (kd : μ (b + 2) l = ν 1002 (o + l) ∧ 0 ≤ ν 1002 (o + l) ∧ ν 1002 (o + l) ≤ 8) (la : μ (b + 3) l = ν 1003 (o + l) ∧ -1 ≤ ν 1003 (o + l) ∧ ν 1003 (o + l) < S) (be : μ (b + 4) l = ν 1004 (o + l) ∧ -1 ≤ ν 1004 (o + l) ∧ ν 1004 (o + l) < S) (on : (ν 1005 (o + l) = 1 ∧ μ (b + 5) l = 1) ∨ (ν 1005 (o + l) = 2 ∧ μ (b + 5) l = 0)) (ca : μ (b + 6) l = ν 1006 (o + l) ∧ -1 ≤ ν 1006 (o + l)) (st : 0 ≤ μ (b + 9) l ∧ μ (b + 9) l ≤ μ (b + 10) l ∧ μ (b + 10) l ≤ 1000) (fr : oc ≤ ν 1010 (o + l) ∧ ν 1010 (o + l) ≤ ν 1011 (o + l) ∧ ν 1011 (o + l) ≤ oc + 1000) (so : ∀ i, 0 ≤ i → i < 4 → -1 ≤ ν 1007 (4 * (o + l) + i) ∧ ν 1007 (4 * (o + l) + i) < S) (ee : hE (ν 1002 (o + l)) → (∀ i, 0 ≤ i → i < 4 → ν 1007 (4 * (o + l) + i) = -1) ∧ ∃ L, fsg (ν 1012) (ν 1010 (o + l)) L ∧ ν 1011 (o + l) = ν 1010 (o + l) + L.length ∧ okE L ∧ dpR L st0 ∧ hR (convR Wn L) = some 1 ∧ (∀ c ∈ L, vC S W c) ∧ rsg (μ (b + 11)) (μ (b + 9) l) (convR Wn L) ∧ μ (b + 10) l = μ (b + 9) l + (convR Wn L).length) (ne : ¬ hE (ν 1002 (o + l)) → μ (b + 10) l = μ (b + 9) l + nS (ν 1002 (o + l)) t ∧ (∀ i, 0 ≤ i → i < nS (ν 1002 (o + l)) t → 0 ≤ ν 1007 (4 * (o + l) + i) ∧ μ (b + 11) (μ (b + 9) l + i) = 2 + ν 1007 (4 * (o + l) + i) * 128) ∧ (∀ i, nS (ν 1002 (o + l)) t ≤ i → i < 4 → ν 1007 (4 * (o + l) + i) = -1)) (sl : (0 ≤ ν 1003 (o + l) ↔ ν 1002 (o + l) = 0 ∨ ν 1002 (o + l) = 1 ∨ ν 1002 (o + l) = 2 ∨ ν 1002 (o + l) = 4)) (sb : (0 ≤ ν 1004 (o + l) ↔ ν 1002 (o + l) = 2)) (sc : (0 ≤ ν 1006 (o + l) ↔ ν 1002 (o + l) = 4)) (sk : ν 1005 (o + l) = 2 → ν 1002 (o + l) = 0 ∨ ν 1002 (o + l) = 1) (t0 : 0 ≤ t ∧ t ≤ 4) : LR b o oc W S t l Wn μ ν := ⟨kd, la, be, on, ca, st, fr, so, ee, ne, sl, sb, sc, sk, t0⟩
/-- it speaks of these cells alone -/
theorem LR.cong {b o oc W S t l : Int} {Wn : Int → Int} {μ ν μ' ν' : am_M} (h : LR b o oc W S t l Wn μ ν) (hS0 : S ≤ S) (f : ∀ c i, (b + 2 ≤ c ∧ c ≤ b + 6 ∧ i = l) ∨ (b + 9 ≤ c ∧ c ≤ b + 10 ∧ i = l) ∨ (c = b + 11 ∧ i < μ (b + 10) l) → μ' c i = μ c i) (g : ∀ c i, (1002 ≤ c ∧ c ≤ 1006 ∧ i = o + l) ∨ (1010 ≤ c ∧ c ≤ 1011 ∧ i = o + l) ∨ (c = 1007 ∧ 4 * (o + l) ≤ i ∧ i < 4 * (o + l) + 4) ∨ (c = 1012 ∧ i < ν 1011 (o + l)) → ν' c i = ν c i) : LR b o oc W S t l Wn μ' ν' := by
  have a2 := f (b + 2) l (by omega)
  have a3 := f (b + 3) l (by omega)
  have a4 := f (b + 4) l (by omega)
  have a5 := f (b + 5) l (by omega)
  have a6 := f (b + 6) l (by omega)
  have a9 := f (b + 9) l (by omega)
  have a10 := f (b + 10) l (by omega)
  have c2 := g 1002 (o + l) (by omega)
  have c3 := g 1003 (o + l) (by omega)
  have c4 := g 1004 (o + l) (by omega)
  have c5 := g 1005 (o + l) (by omega)
  have c6 := g 1006 (o + l) (by omega)
  have c10 := g 1010 (o + l) (by omega)
  have c11 := g 1011 (o + l) (by omega)
  have c7 : ∀ i, 0 ≤ i → i < 4 → ν' 1007 (4 * (o + l) + i) = ν 1007 (4 * (o + l) + i) := fun i x y => g 1007 _ (by omega)
  refine (LR.mk (kd := by rw [a2, c2]; exact h.kd) (la := by rw [a3, c3]; exact h.la) (be := by rw [a4, c4]; exact h.be) (on := by rw [a5, c5]; exact h.on) (ca := by rw [a6, c6]; exact h.ca) (st := by rw [a9, a10]; exact h.st) (fr := by rw [c10, c11]; exact h.fr) (so := fun i x y => by rw [c7 i x y]; exact h.so i x y) (ee := ?_) (ne := ?_) (sl := by rw [c2, c3]; exact h.sl) (sb := by rw [c2, c4]; exact h.sb) (sc := by rw [c2, c6]; exact h.sc) (sk := by rw [c2, c5]; exact h.sk) (t0 := h.t0))
  · rw [c2, c10, c11, a9, a10]
    intro z
    obtain ⟨y0, L, y1, y2, y3, y4, y5, y6, y7, y8⟩ := h.ee z
    exact ⟨fun i p q => by rw [c7 i p q]; exact y0 i p q, L, fsg_c L _ (fun i p q => g 1012 i (by omega)) y1, y2, y3, y4, y5, y6, rsg_c _ (fun i p q => f (b + 11) i (by omega)) y7, y8⟩
  · rw [c2, a9, a10]
    intro z
    obtain ⟨y1, y2, y3⟩ := h.ne z
    have hn : 0 ≤ nS (ν 1002 (o + l)) t ∧ nS (ν 1002 (o + l)) t ≤ 4 := by
      have := h.t0
      unfold nS
      split
      · omega
      · split <;> omega
    exact ⟨y1, fun i p q => by rw [c7 i p (by omega), f (b + 11) _ (by omega)]; exact y2 i p q, fun i p q => by rw [c7 i (by omega) q]; exact y3 i p q⟩
