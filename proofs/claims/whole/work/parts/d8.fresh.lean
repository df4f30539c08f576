/-! Fresh objects are in the relation. -/
def IN (m : am_M) : Prop := (m 10 2 = 0) ∧ (m 1000 1 = 0) ∧ (m 1001 = m 11) ∧ (∀ i, 0 ≤ i → i < 17 → m 12 i = rsv i) ∧ (m 0 8 = 100) ∧ (m 0 9 = 200) ∧ (m 0 10 = 0) ∧ (m 100 13 = 0) ∧ (m 100 12 = 0) ∧ (m 101 10 = 0) ∧ (∀ i, 0 ≤ i → i < 3 → m 1013 i = 0) ∧ (∀ i, 5 ≤ i → i ≤ 11 → m 300 i = 0) ∧ (m 300 12 = m 1000 55) ∧ (m 300 13 = m 1000 56) ∧ (m 300 1 = 1) ∧ (m 310 1 = 0) ∧ (m 1000 57 = 0) ∧ (m 1000 58 = 0) ∧ (∀ k, 0 ≤ k → k < 4 → m 70 k = 320 + 10 * k) ∧ (∀ k, 0 ≤ k → k < 4 → m (320 + 10 * k) 1 = 1) ∧ (∀ k, 0 ≤ k → k < 4 → m 1062 k = 0) ∧ (m 50 10 = -1) ∧ (∀ x, 0 ≤ x → x < 60 → m 57 x = 0) ∧ (m 60 9 = -1)
theorem IN.t2 {m : am_M} (h : IN m) : m 10 2 = 0 := h.1
theorem IN.tp {m : am_M} (h : IN m) : m 1000 1 = 0 := h.2.1
theorem IN.row {m : am_M} (h : IN m) : m 1001 = m 11 := h.2.2.1
theorem IN.res {m : am_M} (h : IN m) : ∀ i, 0 ≤ i → i < 17 → m 12 i = rsv i := h.2.2.2.1
theorem IN.s8 {m : am_M} (h : IN m) : m 0 8 = 100 := h.2.2.2.2.1
theorem IN.s9 {m : am_M} (h : IN m) : m 0 9 = 200 := h.2.2.2.2.2.1
theorem IN.s10 {m : am_M} (h : IN m) : m 0 10 = 0 := h.2.2.2.2.2.2.1
theorem IN.b13 {m : am_M} (h : IN m) : m 100 13 = 0 := h.2.2.2.2.2.2.2.1
theorem IN.b12 {m : am_M} (h : IN m) : m 100 12 = 0 := h.2.2.2.2.2.2.2.2.1
theorem IN.l10 {m : am_M} (h : IN m) : m 101 10 = 0 := h.2.2.2.2.2.2.2.2.2.1
theorem IN.nu {m : am_M} (h : IN m) : ∀ i, 0 ≤ i → i < 3 → m 1013 i = 0 := h.2.2.2.2.2.2.2.2.2.2.1
theorem IN.m0 {m : am_M} (h : IN m) : ∀ i, 5 ≤ i → i ≤ 11 → m 300 i = 0 := h.2.2.2.2.2.2.2.2.2.2.2.1
theorem IN.rm {m : am_M} (h : IN m) : m 300 12 = m 1000 55 := h.2.2.2.2.2.2.2.2.2.2.2.2.1
theorem IN.pr {m : am_M} (h : IN m) : m 300 13 = m 1000 56 := h.2.2.2.2.2.2.2.2.2.2.2.2.2.1
theorem IN.m1 {m : am_M} (h : IN m) : m 300 1 = 1 := h.2.2.2.2.2.2.2.2.2.2.2.2.2.2.1
theorem IN.f1 {m : am_M} (h : IN m) : m 310 1 = 0 := h.2.2.2.2.2.2.2.2.2.2.2.2.2.2.2.1
theorem IN.r57 {m : am_M} (h : IN m) : m 1000 57 = 0 := h.2.2.2.2.2.2.2.2.2.2.2.2.2.2.2.2.1
theorem IN.r58 {m : am_M} (h : IN m) : m 1000 58 = 0 := h.2.2.2.2.2.2.2.2.2.2.2.2.2.2.2.2.2.1
theorem IN.m70 {m : am_M} (h : IN m) : ∀ k, 0 ≤ k → k < 4 → m 70 k = 320 + 10 * k := h.2.2.2.2.2.2.2.2.2.2.2.2.2.2.2.2.2.2.1
theorem IN.mb {m : am_M} (h : IN m) : ∀ k, 0 ≤ k → k < 4 → m (320 + 10 * k) 1 = 1 := h.2.2.2.2.2.2.2.2.2.2.2.2.2.2.2.2.2.2.2.1
theorem IN.r62 {m : am_M} (h : IN m) : ∀ k, 0 ≤ k → k < 4 → m 1062 k = 0 := h.2.2.2.2.2.2.2.2.2.2.2.2.2.2.2.2.2.2.2.2.1
theorem IN.wy {m : am_M} (h : IN m) : m 50 10 = -1 := h.2.2.2.2.2.2.2.2.2.2.2.2.2.2.2.2.2.2.2.2.2.1
theorem IN.w57 {m : am_M} (h : IN m) : ∀ x, 0 ≤ x → x < 60 → m 57 x = 0 := h.2.2.2.2.2.2.2.2.2.2.2.2.2.2.2.2.2.2.2.2.2.2.1
theorem IN.od {m : am_M} (h : IN m) : m 60 9 = -1 := h.2.2.2.2.2.2.2.2.2.2.2.2.2.2.2.2.2.2.2.2.2.2.2
theorem IN.mk {m : am_M} (t2 : m 10 2 = 0) (tp : m 1000 1 = 0) (row : m 1001 = m 11) (res : ∀ i, 0 ≤ i → i < 17 → m 12 i = rsv i) (s8 : m 0 8 = 100) (s9 : m 0 9 = 200) (s10 : m 0 10 = 0) (b13 : m 100 13 = 0) (b12 : m 100 12 = 0) (l10 : m 101 10 = 0) (nu : ∀ i, 0 ≤ i → i < 3 → m 1013 i = 0) (m0 : ∀ i, 5 ≤ i → i ≤ 11 → m 300 i = 0) (rm : m 300 12 = m 1000 55) (pr : m 300 13 = m 1000 56) (m1 : m 300 1 = 1) (f1 : m 310 1 = 0) (r57 : m 1000 57 = 0) (r58 : m 1000 58 = 0) (m70 : ∀ k, 0 ≤ k → k < 4 → m 70 k = 320 + 10 * k) (mb : ∀ k, 0 ≤ k → k < 4 → m (320 + 10 * k) 1 = 1) (r62 : ∀ k, 0 ≤ k → k < 4 → m 1062 k = 0) (wy : m 50 10 = -1) (w57 : ∀ x, 0 ≤ x → x < 60 → m 57 x = 0) (od : m 60 9 = -1) : IN m := ⟨t2, tp, row, res, s8, s9, s10, b13, b12, l10, nu, m0, rm, pr, m1, f1, r57, r58, m70, mb, r62, wy, w57, od⟩
theorem GR_0 {m : am_M} (h : IN m) : GR m m := by
  have m0 := h.m0
  have t2 := h.t2
  have tb0 : TB 100 0 0 0 (fun _ => 0) m m := (TB.mk (bo := Or.inl rfl) (cB := ⟨h.b13, h.nu 1 (by decide) (by decide), by decide, by decide⟩) (cW := ⟨h.b12, h.nu 0 (by decide) (by decide), by decide, by decide⟩) (cn := ⟨h.l10, h.nu 2 (by decide) (by decide), by decide, by decide⟩) (wr := fun _ => by unfold r32; omega) (wn := fun w p q => by omega) (wv := fun w p q => by omega) (al := fun l p q => by omega) (od := fun k j p q r => by omega) (bw := fun k p q => by omega))
  have cd : CD 100 0 0 0 0 (fun _ => 0) m m := (CD.mk (tb := tb0) (ck := fun k p q => by omega) (sd := fun k p q => by omega) (sr := fun k p q => by omega))
  have mr : MR 100 300 0 0 0 0 0 (fun _ => 0) m m := (MR.mk (cd := cd) (mc := Or.inl rfl) (dd := by omega) (c5 := m0 5 (by decide) (by decide)) (r5 := h.r58) (c6 := m0 6 (by decide) (by decide)) (r6 := h.r57) (s4 := by omega) (rm := h.rm) (pr := h.pr) (cn := fun z => absurd rfl z) (cz := fun _ => ⟨rfl, m0 8 (by decide) (by decide), m0 9 (by decide) (by decide), m0 10 (by decide) (by decide), m0 11 (by decide) (by decide)⟩) (gf := fun z => by omega) (nl := fun f p q => by omega) (ft := (FT.mk (d0 := by omega) (tb := fun f p q => by omega))) (vl := fun f s p q => by omega) (fr := fun f p q => by omega) (s1 := fun z => by omega) (bu := h.m1))
  have mk : MKS 100 0 0 0 (fun _ => 0) m m := (MKS.mk (m70 := h.m70) (mb := h.mb) (s10 := by rw [h.s10]; exact S10_0) (bit := fun k p q => Or.inr ⟨by rw [h.s10, tb_0], h.r62 k p q⟩))
  have ti : TI m m := (TI.mk (n0 := by omega) (n1 := by omega) (tp := by rw [h.tp, h.t2]) (row := h.row) (res := h.res))
  exact ⟨100, 200, 0, 0, 0, 0, 0, fun _ => 0, (GX.mk (ti := ti) (s8 := h.s8) (s9 := h.s9) (bb := Or.inl ⟨rfl, rfl⟩) (mr := mr) (mks := mk) (nc := ⟨Or.inl h.wy, fun x p q => Or.inl (h.w57 x p q)⟩) (oc := Or.inl h.od) (bu := h.f1))⟩
