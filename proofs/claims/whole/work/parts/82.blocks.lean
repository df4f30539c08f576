/-! CHECK of a block of lines. -/
/-- told lines of a bill, as CHECK finds them -/
def HB (b k F E : Int) (μ0 ν0 : am_M) : Prop := (bOk b) ∧ (0 ≤ k ∧ k < 4) ∧ (0 ≤ F ∧ E ≤ 60) ∧ (ν0 1017 k + ν0 1018 k = E ∧ 0 ≤ E) ∧ (∀ l, F ≤ l → l < E → ∃ r, CKC b l r μ0 ν0)
theorem HB.hb {b k F E : Int} {μ0 ν0 : am_M} (h : HB b k F E μ0 ν0) : bOk b := h.1
theorem HB.hk {b k F E : Int} {μ0 ν0 : am_M} (h : HB b k F E μ0 ν0) : 0 ≤ k ∧ k < 4 := h.2.1
theorem HB.FE {b k F E : Int} {μ0 ν0 : am_M} (h : HB b k F E μ0 ν0) : 0 ≤ F ∧ E ≤ 60 := h.2.2.1
theorem HB.hE {b k F E : Int} {μ0 ν0 : am_M} (h : HB b k F E μ0 ν0) : ν0 1017 k + ν0 1018 k = E ∧ 0 ≤ E := h.2.2.2.1
theorem HB.hl {b k F E : Int} {μ0 ν0 : am_M} (h : HB b k F E μ0 ν0) : ∀ l, F ≤ l → l < E → ∃ r, CKC b l r μ0 ν0 := h.2.2.2.2
theorem HB.mk {b k F E : Int} {μ0 ν0 : am_M} (hb : bOk b) (hk : 0 ≤ k ∧ k < 4) (FE : 0 ≤ F ∧ E ≤ 60) (hE : ν0 1017 k + ν0 1018 k = E ∧ 0 ≤ E) (hl : ∀ l, F ≤ l → l < E → ∃ r, CKC b l r μ0 ν0) : HB b k F E μ0 ν0 := ⟨hb, hk, FE, hE, hl⟩
def BR (b k F E d a z : Int) (f g : Nat) (o m : Int) (μ0 ν0 μ ν : am_M) : Prop := FLT b k F E (Ck_checkBill_L44 f b k (-1) E a μ) (M_checks_L39 g k d a ν) μ ν ∨ ∃ f' g' μ' ν' o' m', ∃ T : Int → Int → Prop, GO b k E a z a z f g f' g' d d d μ ν μ' ν' ∧ CK o' m' d μ' ν' ∧ (∀ t, T a t ↔ tv o m t ≠ 0) ∧ (∀ t, T z t ↔ tv o' m' t ≠ 0) ∧ ∀ l, a ≤ l → l < z → FLW b μ0 ν0 (μ' (b + 8)) (ν' 1042) T z l
theorem HB.ck {b k F E l : Int} {μ0 ν0 μ ν : am_M} (h : HB b k F E μ0 ν0) (h1 : F ≤ l) (h2 : l < E) (f : FC b F E μ0 μ) (g : FR k F E ν0 ν) : ∃ r, CKC b l r μ0 ν0 ∧ CKC b l r μ ν := by
  obtain ⟨r, a⟩ := h.hl l h1 h2
  exact ⟨r, a, a.cg (f.fn h.hb) g.fn⟩
theorem HB.eE {b k F E : Int} {μ0 ν0 ν : am_M} (h : HB b k F E μ0 ν0) (g : FR k F E ν0 ν) : ν 1017 k + ν 1018 k = E := by
  have e1 := congrFun (g.fn 1017 (by decide) (by decide)) k
  have e2 := congrFun (g.fn 1018 (by decide) (by decide)) k
  rw [e1, e2]
  exact h.hE.1
/-- one line of kind 1 to 4 ahead of the rest -/
theorem BR.one {b k F E d a z o m : Int} {f g : Nat} {μ0 ν0 μ ν : am_M} (h : HB b k F E μ0 ν0) (haz : a < z) (hF : F ≤ a) (hz : z ≤ E) (hd : 0 ≤ d ∧ d ≤ 3) (hk : ν0 1002 a ≤ 4) (fc : FC b F E μ0 μ) (fr : FR k F E ν0 ν) (c : CK o m d μ ν) (hf : E - a + 2 ≤ f) (hg : E - a + 2 ≤ g)
    (rest : ∀ (f' g' : Nat) (o' m' : Int) (μ' ν' : am_M), FC b F E μ0 μ' → FR k F E ν0 ν' → CK o' m' d μ' ν' → E - (a + 1) + 2 ≤ f' → E - (a + 1) + 2 ≤ g' → BR b k F E d (a + 1) z f' g' o' m' μ0 ν0 μ' ν') : BR b k F E d a z f g o m μ0 ν0 μ ν := by
  have hFE := h.FE
  have hkk := hk
  obtain ⟨r, r0, r1⟩ := h.ck hF (by omega) fc fr
  have e2 : ∀ x, ν 1002 x = ν0 1002 x := fun x => congrFun (fr.fn 1002 (by decide) (by decide)) x
  have e3 : ∀ x, ν 1003 x = ν0 1003 x := fun x => congrFun (fr.fn 1003 (by decide) (by decide)) x
  have e4 : ∀ x, ν 1004 x = ν0 1004 x := fun x => congrFun (fr.fn 1004 (by decide) (by decide)) x
  rcases ck_A (a := a) (z := a + 1) h.hb h.hk r1 c (by rw [e2]; omega) with x | ⟨μ1, ν1, o1, m1, x1, x2, x3, x4, x5, x6, x7, x8, x9, x10⟩
  · exact Or.inl (st_no h.hb h.hk ⟨h.hE.2, hFE.2⟩ (h.eE fr) ⟨hFE.1, hF⟩ (by omega) c.c8 (x.up hF (by omega)) hf hg)
  · obtain ⟨f1, g1, y1, y2, y3, y4⟩ := st_ok (k := k) (E := E) (f := f) (g := g) h.hb h.hk ⟨h.hE.2, hFE.2⟩ (h.eE fr) ⟨by omega, by omega⟩ c.c8 x1 x2 x3.c8 (x5 _ _ (by omega)) hf hg hd
    rw [e2, if_neg (show ¬ ν0 1002 a = 5 by omega), if_neg (show ¬ ν0 1002 a = 7 by omega)] at y4
    have G1 : GO b k E a (a + 1) a (a + 1) f g f1 g1 d d 3 μ ν μ1 ν1 := (GO.mk (e1 := y3) (e2 := y4) (f1 := y1) (f2 := y2) (fc := x4) (fr := x5) (f4 := x8) (sp := x6) (sr := x7))
    rcases rest f1 g1 o1 m1 μ1 ν1 (fc.tr (x4.up hF (by omega))) (fr.tr (x5.up hF (by omega))) x3 y1 y2 with z1 | ⟨f2, g2, μ2, ν2, o2, m2, T, G2, z2, z3, z4, z5⟩
    · exact Or.inl (z1.of y3 y4 (x4.up hF (by omega)) (x5.up hF (by omega)))
    · refine Or.inr ⟨f2, g2, μ2, ν2, o2, m2, fun x => if x = a then fun t => tv o m t ≠ 0 else T x, (G1.up (Int.le_refl _) (by omega) (by omega)).tr (G2.up (by omega) (Int.le_refl _) (Int.le_refl _)), z2, fun t => ?_, fun t => ?_, fun l l0 l1 => ?_⟩
      · show (if a = a then fun t => tv o m t ≠ 0 else T a) t ↔ _
        rw [if_pos rfl]
      · show (if z = a then fun t => tv o m t ≠ 0 else T z) t ↔ _
        rw [if_neg (by omega)]
        exact z4 t
      · by_cases q : l = a
        · subst q
          refine ⟨r, r0, fun s hs => ?_, fun _ t t0 t1 => ?_, fun p => by omega, fun p => by omega, fun p => by omega⟩
          · show (if l = l then fun t => tv o m t ≠ 0 else T l) s
            rw [if_pos rfl]
            exact x9 s hs
          · show (if l + 1 = l then fun t => tv o m t ≠ 0 else T (l + 1)) t ↔ ((if l = l then fun t => tv o m t ≠ 0 else T l) t ∧ _) ∨ _
            rw [if_pos rfl, if_neg (by omega), z3 t, x10 t t0 t1, e3, e4]
        · exact (z5 l (by omega) l1).up l1 (Int.le_refl _) (fun x p q => if_neg (by omega)) rfl (fun _ _ _ => rfl)
