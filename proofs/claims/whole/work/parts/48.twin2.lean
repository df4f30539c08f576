/-! A line that reads no E: the record out of the cells. -/
theorem LR_ne {b B W l p k0 t s1 s2 cl kp : Int} {Wn : Int → Int} {μ ν μ3 ν3 : am_M} (hb : bOk b) (h : LB b B W l p k0 μ ν) (hn : LN b B W l p μ3 ν3) (hE' : ¬ hE k0) (ht : 0 ≤ t ∧ t ≤ 4) (hk : 0 ≤ k0 ∧ k0 ≤ 8)
    (c2 : μ3 (b + 2) l = k0) (c3 : μ3 (b + 3) l = s1) (c4 : μ3 (b + 4) l = s2) (c5 : μ3 (b + 5) l = if kp = 1 then 1 else 0) (c6 : μ3 (b + 6) l = cl)
    (m2 : ν3 1002 (60 + l) = k0) (m3 : ν3 1003 (60 + l) = s1) (m4 : ν3 1004 (60 + l) = s2) (m5 : ν3 1005 (60 + l) = kp) (m6 : ν3 1006 (60 + l) = cl) (m10 : ν3 1010 (60 + l) = ν 1000 30) (m11 : ν3 1011 (60 + l) = ν 1000 30)
    (hs1 : -1 ≤ s1 ∧ s1 < μ3 20 6) (hs2 : -1 ≤ s2 ∧ s2 < μ3 20 6) (hkp : kp = 1 ∨ kp = 2) (hcl : -1 ≤ cl)
    (x1 : 0 ≤ s1 ↔ k0 = 0 ∨ k0 = 1 ∨ k0 = 2 ∨ k0 = 4) (x2 : 0 ≤ s2 ↔ k0 = 2) (x3 : 0 ≤ cl ↔ k0 = 4) (x4 : kp = 2 → k0 = 0 ∨ k0 = 1)
    (cc : μ3 (b + 1) 11 = p + nS k0 t) (src : ∀ i, 0 ≤ i → i < nS k0 t → 0 ≤ ν3 1007 (4 * (60 + l) + i) ∧ ν3 1007 (4 * (60 + l) + i) < μ3 20 6 ∧ μ3 (b + 11) (p + i) = 2 + ν3 1007 (4 * (60 + l) + i) * 128) (srn : ∀ i, nS k0 t ≤ i → i < 4 → ν3 1007 (4 * (60 + l) + i) = -1) :
    LR b 60 1000 W (μ3 20 6) t l Wn μ3 ν3 := by
  have est := hn.st
  have esp := hn.sp
  have ecap := hn.cap
  have ehp := hn.p0
  have ebe := hn.tr.be1
  have eat := hn.tr.base.at3
  have en1 := hn.tr.base.n1
  have ecq := h.ln.caq
  have ecq0 := h.ln.q0
  have hbe := h.ln.tr.be1
  have hat := h.ln.tr.base.at3
  have hn1 := h.ln.tr.base.n1
  have es0 := hn.sl.s0
  refine (LR.mk (kd := by rw [c2, m2]; omega) (la := by rw [c3, m3]; omega) (be := by rw [c4, m4]; omega) (on := ?_) (ca := by rw [c6, m6]; omega) (st := by rw [est]; omega) (fr := by rw [m10, m11]; omega) (so := fun i x y => ?_) (ee := fun z => by rw [m2] at z; exact absurd z hE') (ne := fun _ => ?_) (sl := by rw [m2, m3]; exact x1) (sb := by rw [m2, m4]; exact x2) (sc := by rw [m2, m6]; exact x3) (sk := by rw [m2, m5]; exact x4) (t0 := ht))
  · rw [m5, c5]
    rcases hkp with z | z
    · left; subst z; exact ⟨rfl, rfl⟩
    · right; subst z; exact ⟨rfl, rfl⟩
  · by_cases z : i < nS k0 t
    · have := src i x z; omega
    · have := srn i (by omega) y; omega
  · rw [m2, est, esp, cc]
    exact ⟨rfl, fun i x y => ⟨(src i x y).1, (src i x y).2.2⟩, srn⟩
