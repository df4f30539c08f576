/-! CHECK of an if with its branches. -/
theorem ck_B1 {b k F E d a z o m e q : Int} {f g : Nat} {μ0 ν0 μ ν : am_M} (h : HB b k F E μ0 ν0) (hae : a < e) (heq : e < q) (hqz : q < z) (hF : F ≤ a) (hz : z ≤ E) (hd : 0 ≤ d ∧ d < 3) (k5 : ν0 1002 a = 5) (k6 : ν0 1002 e = 6) (k7 : ν0 1002 q = 7) (w1 : ν0 1008 a = e) (w2 : ν0 1009 e = q) (fc : FC b F E μ0 μ) (fr : FR k F E ν0 ν) (c : CK o m d μ ν) (hf : E - a + 2 ≤ f) (hg : E - a + 2 ≤ g)
    (in1 : ∀ (f' g' : Nat) (o' m' : Int) (μ' ν' : am_M), FC b F E μ0 μ' → FR k F E ν0 ν' → CK o' m' (d + 1) μ' ν' → E - (a + 1) + 2 ≤ f' → E - (a + 1) + 2 ≤ g' → BR b k F E (d + 1) (a + 1) e f' g' o' m' μ0 ν0 μ' ν')
    (in2 : ∀ (f' g' : Nat) (o' m' : Int) (μ' ν' : am_M), FC b F E μ0 μ' → FR k F E ν0 ν' → CK o' m' (d + 1) μ' ν' → E - (e + 1) + 2 ≤ f' → E - (e + 1) + 2 ≤ g' → BR b k F E (d + 1) (e + 1) q f' g' o' m' μ0 ν0 μ' ν')
    (rest : ∀ (f' g' : Nat) (o' m' : Int) (μ' ν' : am_M), FC b F E μ0 μ' → FR k F E ν0 ν' → CK o' m' d μ' ν' → E - (q + 1) + 2 ≤ f' → E - (q + 1) + 2 ≤ g' → BR b k F E d (q + 1) z f' g' o' m' μ0 ν0 μ' ν') : BR b k F E d a z f g o m μ0 ν0 μ ν := by
  have hFE := h.FE
  have hE := h.hE
  have e2 : ∀ {ν}, FR k F E ν0 ν → ∀ x, ν 1002 x = ν0 1002 x := fun fr x => congrFun (fr.fn 1002 (by decide) (by decide)) x
  have ed : d + 1 - 1 = d := by omega
  -- the if
  obtain ⟨r, r0, r1⟩ := h.ck hF (by omega) fc fr
  rcases ck_I (a := a) (z := a + 1) h.hb h.hk r1 c (by rw [e2 fr]; exact k5) hd with x | ⟨μ1, ν1, o1, m1, x1, x2, x3, xs, x4, x5, x6, x7, x8, x9, x10⟩
  · exact Or.inl (st_no h.hb h.hk ⟨h.hE.2, hFE.2⟩ (h.eE fr) ⟨hFE.1, hF⟩ (by omega) c.c8 (x.up hF (by omega)) hf hg)
  obtain ⟨f1, g1, y1, y2, y3, y4⟩ := st_ok (k := k) (E := E) (f := f) (g := g) h.hb h.hk ⟨h.hE.2, hFE.2⟩ (h.eE fr) ⟨by omega, by omega⟩ c.c8 x1 x2 x3.c8 (x5 _ _ (by omega)) hf hg (by omega)
  rw [e2 fr, if_pos k5] at y4
  have G1 : GO b k E a (a + 1) a (a + 1) f g f1 g1 d (d + 1) d μ ν μ1 ν1 := (GO.mk (e1 := y3) (e2 := y4) (f1 := y1) (f2 := y2) (fc := x4) (fr := x5) (f4 := x8) (sp := x6) (sr := x7))
  have fc1 := fc.tr (x4.up hF (by omega : a + 1 ≤ E))
  have fr1 := fr.tr (x5.up hF (by omega : a + 1 ≤ E))
  -- its branch
  rcases in1 f1 g1 o1 m1 μ1 ν1 fc1 fr1 x3 y1 y2 with z1 | ⟨f2, g2, μ2, ν2, o2, m2, T1, G2, c2, T1a, T1z, T1l⟩
  · exact Or.inl (z1.of G1.e1 G1.e2 (G1.fc.up hF (by omega)) (G1.fr.up hF (by omega)))
  have H2 := (G1.up (A' := a) (Z' := e) (D' := d) (Int.le_refl _) (by omega) (Int.le_refl _)).tr (G2.up (A' := a) (Z' := e) (D' := d) (by omega) (Int.le_refl _) (by omega))
  have fc2 := fc.tr (H2.fc.up hF (by omega : e ≤ E))
  have fr2 := fr.tr (H2.fr.up hF (by omega : e ≤ E))
  have s2 : SI d o1 m1 μ2 ν2 := xs.cong hd.2 (by omega) G2.sp G2.sr
  -- the else
  obtain ⟨rE, rE0, rE1⟩ := h.ck (l := e) (by omega) (by omega) fc2 fr2
  obtain ⟨μ3, ν3, u1, u2, u3, u4, u5, u6, u7, u8, u9⟩ := ck_E (a := e) (z := e + 1) (oI := o1) (mI := m1) h.hb h.hk rE1 c2 (by rw [e2 fr2]; exact k6) (by omega) (by rw [ed]; exact s2)
  rw [ed] at u4 u7 u8
  obtain ⟨f3, g3, v1, v2, v3, v4⟩ := st_ok (k := k) (E := E) (f := f2) (g := g2) h.hb h.hk ⟨h.hE.2, hFE.2⟩ (h.eE fr2) ⟨by omega, by omega⟩ c2.c8 u1 u2 u3.c8 (u6 _ _ (by omega)) G2.f1 G2.f2 (by omega)
  rw [e2 fr2, if_neg (by omega), if_neg (by omega)] at v4
  have G3 : GO b k E e (e + 1) e (e + 1) f2 g2 f3 g3 (d + 1) (d + 1) d μ2 ν2 μ3 ν3 := (GO.mk (e1 := v3) (e2 := v4) (f1 := v1) (f2 := v2) (fc := u5) (fr := u6) (f4 := u9) (sp := u7) (sr := u8))
  have H3 := (H2.up (A' := a) (Z' := e + 1) (D' := d) (Int.le_refl _) (by omega) (Int.le_refl _)).tr (G3.up (A' := a) (Z' := e + 1) (D' := d) (by omega) (Int.le_refl _) (by omega))
  have fc3 := fc.tr (H3.fc.up hF (by omega : e + 1 ≤ E))
  have fr3 := fr.tr (H3.fr.up hF (by omega : e + 1 ≤ E))
  -- its branch
  rcases in2 f3 g3 o1 m1 μ3 ν3 fc3 fr3 u3 v1 v2 with z1 | ⟨f4, g4, μ4, ν4, o4, m4, T2, G4, c4, T2a, T2z, T2l⟩
  · exact Or.inl (z1.of H3.e1 H3.e2 (H3.fc.up hF (by omega)) (H3.fr.up hF (by omega)))
  have H4 := (H3.up (A' := a) (Z' := q) (D' := d) (Int.le_refl _) (by omega) (Int.le_refl _)).tr (G4.up (A' := a) (Z' := q) (D' := d) (by omega) (Int.le_refl _) (by omega))
  have fc4 := fc.tr (H4.fc.up hF (by omega : q ≤ E))
  have fr4 := fr.tr (H4.fr.up hF (by omega : q ≤ E))
  have s4 : SE d e o2 m2 μ4 ν4 := u4.cong hd.2 (by omega) G4.sp G4.sr
  -- the end
  obtain ⟨rD, rD0, rD1⟩ := h.ck (l := q) (by omega) (by omega) fc4 fr4
  rcases ck_D (a := e) (z := q + 1) (e := e) (oE := o2) (mE := m2) h.hb h.hk rD1 c4 (by rw [e2 fr4]; exact k7) (by omega) (by rw [ed]; exact s4) (by omega) (by omega) with x | ⟨μ5, ν5, o5, m5, p1, p2, p3, p4, p5, p6, p7, p8, p9, p10, p11, p12, p13, p14⟩
  · exact Or.inl ((st_no (f := f4) (g := g4) h.hb h.hk ⟨h.hE.2, hFE.2⟩ (h.eE fr4) ⟨hFE.1, by omega⟩ (by omega) c4.c8 (x.up (by omega) (by omega)) G4.f1 G4.f2).of H4.e1 H4.e2 (H4.fc.up hF (by omega)) (H4.fr.up hF (by omega)))
  rw [ed] at p3 p6 p7
  obtain ⟨f5, g5, q1, q2, q3, q4⟩ := st_ok (k := k) (E := E) (f := f4) (g := g4) h.hb h.hk ⟨h.hE.2, hFE.2⟩ (h.eE fr4) ⟨by omega, by omega⟩ c4.c8 p1 p2 p3.c8 (p5 _ _ (by omega)) G4.f1 G4.f2 (by omega)
  rw [e2 fr4, if_neg (by omega), if_pos k7, ed] at q4
  have G5 : GO b k E e (q + 1) q (q + 1) f4 g4 f5 g5 (d + 1) d d μ4 ν4 μ5 ν5 := (GO.mk (e1 := q3) (e2 := q4) (f1 := q1) (f2 := q2) (fc := p4) (fr := p5) (f4 := p8) (sp := p6) (sr := p7))
  have H5 := (H4.up (A' := a) (Z' := q + 1) (D' := d) (Int.le_refl _) (by omega) (Int.le_refl _)).tr (G5.up (A' := a) (Z' := q + 1) (D' := d) (by omega) (Int.le_refl _) (by omega))
  -- what follows
  rcases rest f5 g5 o5 m5 μ5 ν5 (fc.tr (H5.fc.up hF (by omega))) (fr.tr (H5.fr.up hF (by omega))) p3 q1 q2 with z1 | ⟨f6, g6, μ6, ν6, o6, m6, T3, G6, c6, T3a, T3z, T3l⟩
  · exact Or.inl (z1.of H5.e1 H5.e2 (H5.fc.up hF (by omega)) (H5.fr.up hF (by omega)))
  have H6 := (H5.up (A' := a) (Z' := z) (D' := d) (Int.le_refl _) (by omega) (Int.le_refl _)).tr (G6.up (A' := a) (Z' := z) (D' := d) (by omega) (Int.le_refl _) (by omega))
  have hb' : b = 100 ∨ b = 200 := h.hb
  have gE : ∀ x, x < q + 1 → x ≠ e → x ≠ q → μ6 (b + 8) x = μ4 (b + 8) x := fun x y1 y2 y3 => by rw [G6.fc _ _ (by omega), p12 x y2 y3]
  have g2 : ∀ x, x < e → μ6 (b + 8) x = μ2 (b + 8) x := fun x y => by rw [gE x (by omega) (by omega) (by omega), G4.fc _ _ (by omega), G3.fc _ _ (by omega)]
  have j4 : ∀ x, x < q → ν6 1042 x = ν4 1042 x := fun x y => by rw [G6.fr _ _ (by omega), p13 x (by omega)]
  have j2 : ∀ x, x < e → ν6 1042 x = ν2 1042 x := fun x y => by rw [j4 x (by omega), G4.fr _ _ (by omega), G3.fr _ _ (by omega)]
  have ge6 : μ6 (b + 8) e = μ5 (b + 8) e := G6.fc _ _ (by omega)
  have gq6 : μ6 (b + 8) q = μ5 (b + 8) q := G6.fc _ _ (by omega)
  have jq6 : ν6 1042 q = ν5 1042 q := G6.fr _ _ (by omega)
  refine Or.inr ⟨f6, g6, μ6, ν6, o6, m6, fun x => if x = a then fun t => tv o m t ≠ 0 else if x ≤ e then T1 x else if x ≤ q then T2 x else T3 x, H6, c6, fun t => ?_, fun t => ?_, fun l l0 l1 => ?_⟩
  · show (if a = a then fun t => tv o m t ≠ 0 else if a ≤ e then T1 a else if a ≤ q then T2 a else T3 a) t ↔ _
    rw [if_pos rfl]
  · show (if z = a then fun t => tv o m t ≠ 0 else if z ≤ e then T1 z else if z ≤ q then T2 z else T3 z) t ↔ _
    rw [if_neg (show ¬ z = a by omega), if_neg (show ¬ z ≤ e by omega), if_neg (show ¬ z ≤ q by omega)]
    exact T3z t
  · generalize hT : (fun x => if x = a then fun t => tv o m t ≠ 0 else if x ≤ e then T1 x else if x ≤ q then T2 x else T3 x) = T
    have t0 : ∀ t, T a t ↔ tv o m t ≠ 0 := fun t => by
      rw [← hT]
      show (if a = a then fun t => tv o m t ≠ 0 else if a ≤ e then T1 a else if a ≤ q then T2 a else T3 a) t ↔ _
      rw [if_pos rfl]
    have t1 : ∀ x, a < x → x ≤ e → T x = T1 x := fun x y1 y2 => by
      rw [← hT]
      show (if x = a then fun t => tv o m t ≠ 0 else if x ≤ e then T1 x else if x ≤ q then T2 x else T3 x) = _
      rw [if_neg (show ¬ x = a by omega), if_pos y2]
    have t2 : ∀ x, e < x → x ≤ q → T x = T2 x := fun x y1 y2 => by
      rw [← hT]
      show (if x = a then fun t => tv o m t ≠ 0 else if x ≤ e then T1 x else if x ≤ q then T2 x else T3 x) = _
      rw [if_neg (show ¬ x = a by omega), if_neg (show ¬ x ≤ e by omega), if_pos y2]
    have t3 : ∀ x, q < x → T x = T3 x := fun x y1 => by
      rw [← hT]
      show (if x = a then fun t => tv o m t ≠ 0 else if x ≤ e then T1 x else if x ≤ q then T2 x else T3 x) = _
      rw [if_neg (show ¬ x = a by omega), if_neg (show ¬ x ≤ e by omega), if_neg (show ¬ x ≤ q by omega)]
    clear hT
    have cases : l = a ∨ (a < l ∧ l < e) ∨ l = e ∨ (e < l ∧ l < q) ∨ l = q ∨ q < l := by omega
    rcases cases with p | ⟨n1, n2⟩ | p | ⟨n1, n2⟩ | p | p
    · subst p
      refine ⟨r, r0, fun s hs => (t0 s).mpr (x9 s hs), fun p => by omega, fun _ => ⟨by omega, by omega, fun t s0 s1 => ?_⟩, fun p => by omega, fun p => by omega⟩
      rw [w1, t1 (l + 1) (by omega) (by omega), t2 (e + 1) (by omega) (by omega), T1a t, T2a t, t0 t, x10 t s0 s1]
      exact ⟨Iff.rfl, Iff.rfl⟩
    · exact (T1l l (by omega) n2).up n2 (by omega) (fun x y1 y2 => t1 x (by omega) y2) (g2 l n2) (fun x y1 y2 => j2 x y2)
    · subst p
      refine ⟨rE, rE0, fun s hs => ?_, fun p => by omega, fun p => by omega, fun _ => ⟨by omega, by omega, by rw [ge6]; exact p9, fun t s0 s1 => ?_⟩, fun p => by omega⟩
      · rw [(rE0.n0 (Or.inl k6)).1] at hs
        cases hs
      · obtain ⟨n1, n2, n3⟩ := p14 t s0 s1
        rw [w2, ge6, jq6, t3 (q + 1) (by omega), t1 l (by omega) (Int.le_refl _), T3a t, T1z t, n3]
        exact ⟨n2, Iff.rfl⟩
    · exact (T2l l (by omega) n2).up n2 (by omega) (fun x y1 y2 => t2 x (by omega) y2) (gE l (by omega) (by omega) (by omega)) (fun x y1 y2 => j4 x y2)
    · subst p
      refine ⟨rD, rD0, fun s hs => ?_, fun p => by omega, fun p => by omega, fun p => by omega, fun _ => ⟨by rw [gq6]; exact p10, by rw [jq6]; exact p11, fun t s0 s1 => ?_⟩⟩
      · rw [(rD0.n0 (Or.inr k7)).1] at hs
        cases hs
      · obtain ⟨n1, n2, n3⟩ := p14 t s0 s1
        rw [gq6, jq6, t3 (l + 1) (by omega), t2 l (by omega) (Int.le_refl _), T3a t, T2z t, n3]
        exact ⟨n1, Iff.rfl⟩
    · exact (T3l l (by omega) l1).up l1 (Int.le_refl _) (fun x y1 y2 => t3 x (by omega)) rfl (fun _ _ _ => rfl)
/-- a block -/
theorem ck_B {b k F E : Int} {μ0 ν0 : am_M} (h : HB b k F E μ0 ν0) : ∀ (n dd : Nat) (d a z o m : Int) (f g : Nat) (μ ν : am_M), blk (wZ b μ0 ν0) n dd a z → 0 ≤ d → d + dd ≤ 3 → F ≤ a → z ≤ E → FC b F E μ0 μ → FR k F E ν0 ν → CK o m d μ ν → E - a + 2 ≤ f → E - a + 2 ≤ g → BR b k F E d a z f g o m μ0 ν0 μ ν
  | 0, dd, d, a, z, o, m, f, g, μ, ν, hb, h0, h3, hF, hz, fc, fr, c, hf, hg => by
    have hb : a = z := hb
    subst hb
    exact Or.inr ⟨f, g, μ, ν, o, m, fun _ t => tv o m t ≠ 0, (GO.mk (e1 := rfl) (e2 := rfl) (f1 := hf) (f2 := hg) (fc := fun _ _ _ => rfl) (fr := fun _ _ _ => rfl) (f4 := fun _ _ _ => rfl) (sp := fun _ _ _ _ _ => rfl) (sr := fun _ _ _ _ => rfl)), c, fun _ => Iff.rfl, fun _ => Iff.rfl, fun l x y => by omega⟩
  | n + 1, dd, d, a, z, o, m, f, g, μ, ν, hb, h0, h3, hF, hz, fc, fr, c, hf, hg => by
    rcases hb with hb | ⟨b1, b2, b3⟩ | ⟨k5, b2, b3, b4, b5, k6, k7, b8, b9, b10, b11, b12, b13⟩
    · exact ck_B h 0 dd d a z o m f g μ ν hb h0 h3 hF hz fc fr c hf hg
    · exact BR.one h b1 hF hz ⟨h0, by omega⟩ b2.2 fc fr c hf hg (fun f' g' o' m' μ' ν' x1 x2 x3 x4 x5 => ck_B h n dd d (a + 1) z o' m' f' g' μ' ν' b3 h0 h3 (by omega) hz x1 x2 x3 x4 x5)
    · exact ck_B1 (e := wZ b μ0 ν0 1 a) (q := wZ b μ0 ν0 2 a) h b3 b4 b5 hF hz ⟨h0, by omega⟩ k5 k6 k7 rfl b8 fc fr c hf hg
        (fun f' g' o' m' μ' ν' x1 x2 x3 x4 x5 => ck_B h n (dd - 1) (d + 1) _ _ o' m' f' g' μ' ν' b11 (by omega) (by omega) (by omega) (by omega) x1 x2 x3 x4 x5)
        (fun f' g' o' m' μ' ν' x1 x2 x3 x4 x5 => ck_B h n (dd - 1) (d + 1) _ _ o' m' f' g' μ' ν' b12 (by omega) (by omega) (by omega) (by omega) x1 x2 x3 x4 x5)
        (fun f' g' o' m' μ' ν' x1 x2 x3 x4 x5 => ck_B h n dd d _ _ o' m' f' g' μ' ν' b13 h0 h3 (by omega) hz x1 x2 x3 x4 x5)
