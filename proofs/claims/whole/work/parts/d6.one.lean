/-! room, price, bills keep the relation; one memory. -/
theorem MR.rp {b c B W n d st : Int} {Wn : Int → Int} {μ ν μ' ν' : am_M} (h : MR b c B W n d st Wn μ ν) (f : ∀ x i, ¬ (x = c ∧ (i = 12 ∨ i = 13)) → μ' x i = μ x i) (g : ∀ x i, ¬ (x = 1000 ∧ (i = 0 ∨ i = 55 ∨ i = 56)) → ν' x i = ν x i) (rm : μ' c 12 = ν' 1000 55) (pr : μ' c 13 = ν' 1000 56) : MR b c B W n d st Wn μ' ν' := by
  have hb' : b = 100 ∨ b = 200 := h.cd.tb.bo
  have hr := h.mc.r
  have tf : TF b μ μ' := fun x p q => funext fun i => f x i (by omega)
  have tg : TG ν ν' := fun x p => funext fun i => g x i (by omega)
  have e1 : μ' (c + 1) = μ (c + 1) := funext fun i => f _ i (by omega)
  have e2 : μ' (c + 2) = μ (c + 2) := funext fun i => f _ i (by omega)
  have e3 : μ' (c + 3) = μ (c + 3) := funext fun i => f _ i (by omega)
  have e43 : ν' 1043 = ν 1043 := funext fun i => g 1043 i (by omega)
  have e44 : ν' 1044 = ν 1044 := funext fun i => g 1044 i (by omega)
  have e45 : ν' 1045 = ν 1045 := funext fun i => g 1045 i (by omega)
  have e46 : ν' 1046 = ν 1046 := funext fun i => g 1046 i (by omega)
  exact (MR.mk (cd := h.cd.cong tf (fun x p q => tg x (by omega)) (fun x p q => tg x (by omega))) (mc := h.mc) (dd := h.dd) (c5 := by rw [f _ _ (by omega)]; exact h.c5) (r5 := by rw [g _ _ (by omega)]; exact h.r5) (c6 := by rw [f _ _ (by omega)]; exact h.c6) (r6 := by rw [g _ _ (by omega)]; exact h.r6) (s4 := h.s4) (rm := rm) (pr := pr) (cn := by rw [f c 8 (by omega), f c 9 (by omega), f c 10 (by omega), f c 11 (by omega), g 1000 63 (by omega), g 1000 64 (by omega), g 1000 65 (by omega), g 1000 66 (by omega)]; exact h.cn) (cz := by rw [f c 8 (by omega), f c 9 (by omega), f c 10 (by omega), f c 11 (by omega)]; exact h.cz) (gf := by rw [f c 7 (by omega), g 1000 67 (by omega)]; exact h.gf) (nl := by rw [e1, e44]; exact h.nl) (ft := (FT.mk (d0 := h.ft.d0) (tb := by rw [e2, e45]; exact h.ft.tb))) (vl := by rw [e3, e45, e46]; exact h.vl) (fr := fun f' p q => by rw [e43, e44, e45]; exact (h.fr f' p q).cong tf tg) (s1 := h.s1) (bu := by rw [f _ _ (by omega)]; exact h.bu))
theorem GX.rp {b b' B W n d st : Int} {Wn : Int → Int} {μ ν μ' ν' : am_M} (x : GX b b' B W n d st Wn μ ν) (e : ∀ c i, ¬ (c = 300 ∧ (i = 12 ∨ i = 13)) → μ' c i = μ c i) (q : ∀ c i, ¬ (c = 1000 ∧ (i = 0 ∨ i = 55 ∨ i = 56)) → ν' c i = ν c i) (rm : μ' 300 12 = ν' 1000 55) (pr : μ' 300 13 = ν' 1000 56) : GX b b' B W n d st Wn μ' ν' := by
  have bb := x.bb
  have t : TF b μ μ' := fun c p q => funext fun i => e c i (by omega)
  have g : TH ν ν' := TG.th (fun c p => funext fun i => q c i (by omega))
  exact (GX.mk (ti := x.ti.mv (fun c i p q => e c i (by omega)) (q _ _ (by omega)) (funext fun i => q _ _ (by omega))) (s8 := by rw [e _ _ (by omega)]; exact x.s8) (s9 := by rw [e _ _ (by omega)]; exact x.s9) (bb := x.bb) (mr := x.mr.rp e q rm pr) (mks := x.mk2 t (fun c i p => e c i (by omega)) g (fun c i p => q c i (by omega))) (nc := x.nc2 t (fun c i p => e c i (by omega)) g) (oc := x.oc2 t (fun c i p => e c i (by omega)) g) (bu := by rw [e _ _ (by omega)]; exact x.bu))
theorem room_t (v : Int) : ST (X_room v) (M_room v) := by
  rintro μ ν ⟨b, b', B, W, n, d, st, Wn, x⟩
  obtain ⟨r, a1, a2⟩ := room_p (v := v) (μ := μ) (ν := ν)
  by_cases c : 1 ≤ v ∧ v ≤ 99
  · rw [if_pos c] at a1 a2
    refine ⟨r, _, _, a1, a2, ⟨b, b', B, W, n, d, st, Wn, x.rp (fun c i p => by rw [m_st_d, if_neg (by omega)]) (fun c i p => by rw [m_st_d, if_neg (by omega), m_st_d, if_neg (by omega)]) ?_ ?_⟩, fun c i p => m_st_c (by omega), fun c i p => by rw [m_st_c (by omega)]; exact m_st_c (by omega)⟩
    · rw [m_st_d, if_pos ⟨rfl, rfl⟩, m_st_d, if_pos ⟨rfl, rfl⟩]
    · rw [m_st_i (by decide), m_st_i (by decide), m_st_i (by decide)]; exact x.mr.pr
  · rw [if_neg c] at a1 a2
    exact ⟨r, _, _, a1, a2, ⟨b, b', B, W, n, d, st, Wn, x.z⟩, fun _ _ _ => rfl, fun c i p => m_st_c (by omega)⟩
theorem price_t (v : Int) : ST (X_price v) (M_price v) := by
  rintro μ ν ⟨b, b', B, W, n, d, st, Wn, x⟩
  obtain ⟨r, a1, a2⟩ := price_p (v := v) (μ := μ) (ν := ν)
  by_cases c : 0 ≤ v ∧ v ≤ 99
  · rw [if_pos c] at a1 a2
    refine ⟨r, _, _, a1, a2, ⟨b, b', B, W, n, d, st, Wn, x.rp (fun c i p => by rw [m_st_d, if_neg (by omega)]) (fun c i p => by rw [m_st_d, if_neg (by omega), m_st_d, if_neg (by omega)]) ?_ ?_⟩, fun c i p => m_st_c (by omega), fun c i p => by rw [m_st_c (by omega)]; exact m_st_c (by omega)⟩
    · rw [m_st_i (by decide), m_st_i (by decide), m_st_i (by decide)]; exact x.mr.rm
    · rw [m_st_d, if_pos ⟨rfl, rfl⟩, m_st_d, if_pos ⟨rfl, rfl⟩]
  · rw [if_neg c] at a1 a2
    exact ⟨r, _, _, a1, a2, ⟨b, b', B, W, n, d, st, Wn, x.z⟩, fun _ _ _ => rfl, fun c i p => m_st_c (by omega)⟩
theorem bills_t : ST X_bills M_bills := by
  rintro μ ν ⟨b, b', B, W, n, d, st, Wn, x⟩
  have bb := x.bb
  have hb : bOk b := by unfold bOk; omega
  have hb' : bOk b' := by unfold bOk; omega
  obtain ⟨r, μ', ν', a1, a2, a3, a4⟩ := bills_s hb hb' (by omega) x.ti x.s8 x.s9
  rcases a4 with ⟨-, e, q⟩ | ⟨-, ⟨B', W', n', Wn', cd⟩, w, e, q⟩
  · have t : TF b μ μ' := fun c p q => funext fun i => e c i (by omega)
    have g : TH ν ν' := ⟨fun c i z => q c i (by unfold Lo at z; omega) (by unfold Lo at z; omega), fun c p w => funext fun i => q c i (by omega) (by omega)⟩
    exact ⟨r, μ', ν', a1, a2, ⟨b, b', B, W, n, d, st, Wn, (GX.mk (ti := a3) (s8 := by rw [e _ _ (by omega)]; exact x.s8) (s9 := by rw [e _ _ (by omega)]; exact x.s9) (bb := x.bb) (mr := x.mr2 t (fun c i p w => e c i (by omega)) g (fun i p => q _ _ (by omega) (by omega)) (fun c i p w => q c i (by omega) (by omega))) (mks := x.mk2 t (fun c i p => e c i (by omega)) g (fun c i p => q c i (by omega) (by omega))) (nc := x.nc2 t (fun c i p => e c i (by omega)) g) (oc := x.oc2 t (fun c i p => e c i (by omega)) g) (bu := by rw [e _ _ (by omega)]; exact x.bu))⟩, fun c i p => e c i (by omega), fun c i p => q c i (by omega) (by omega)⟩
  · have m0 := w.m0
    have mr : MR b' 300 B' W' n' 0 0 Wn' μ' ν' := (MR.mk (cd := cd) (mc := Or.inl rfl) (dd := by omega) (c5 := m0 5 (by decide) (by decide)) (r5 := w.r58) (c6 := m0 6 (by decide) (by decide)) (r6 := w.r57) (s4 := by omega) (rm := by rw [e _ _ (by omega), q _ _ (by omega)]; exact x.mr.rm) (pr := by rw [e _ _ (by omega), q _ _ (by omega)]; exact x.mr.pr) (cn := fun z => absurd rfl z) (cz := fun _ => ⟨rfl, m0 8 (by decide) (by decide), m0 9 (by decide) (by decide), m0 10 (by decide) (by decide), m0 11 (by decide) (by decide)⟩) (gf := fun z => by omega) (nl := fun f p q => by omega) (ft := (FT.mk (d0 := by omega) (tb := fun f p q => by omega))) (vl := fun f s p q => by omega) (fr := fun f p q => by omega) (s1 := fun z => by omega) (bu := by rw [e _ _ (by omega)]; exact x.mr.bu))
    have mk : MKS b' B' W' n' Wn' μ' ν' := (MKS.mk (m70 := fun k p q => by rw [e _ _ (by omega)]; exact x.mks.m70 k p q) (mb := fun k p q => by rw [e _ _ (by omega)]; exact x.mks.mb k p q) (s10 := by rw [w.s10]; exact S10_0) (bit := fun k p q => Or.inr ⟨by rw [w.s10, tb_0], w.r62 k p q⟩))
    exact ⟨r, μ', ν', a1, a2, ⟨b', b, B', W', n', 0, 0, Wn', (GX.mk (ti := a3) (s8 := w.s8) (s9 := w.s9) (bb := by omega) (mr := mr) (mks := mk) (nc := ⟨Or.inl w.wy, fun y p q => by rw [e _ _ (by omega)]; exact x.nc.2 y p q⟩) (oc := Or.inl w.od) (bu := by rw [e _ _ (by omega)]; exact x.bu))⟩, fun c i p => e c i (by omega), fun c i p => q c i (by omega)⟩
/-- class cells and reference cells by themselves -/
theorem GR.own {μ ν μ' ν' : am_M} (h : GR μ ν) (f : ∀ c i, c < 1000 → μ' c i = μ c i) (g : ∀ c i, 1000 ≤ c → ν' c i = ν c i) : GR μ' ν' := by
  obtain ⟨b, b', B, W, n, d, st, Wn, x⟩ := h
  have bb := x.bb
  have t : TF b μ μ' := fun c p q => funext fun i => f c i (by omega)
  have th : TH ν ν' := TG.th (fun c p => funext fun i => g c i (by omega))
  exact ⟨b, b', B, W, n, d, st, Wn, (GX.mk (ti := x.ti.mv (fun c i p q => f c i (by omega)) (g _ _ (by omega)) (funext fun i => g _ _ (by omega))) (s8 := by rw [f _ _ (by omega)]; exact x.s8) (s9 := by rw [f _ _ (by omega)]; exact x.s9) (bb := x.bb) (mr := x.mr2 t (fun c i p w => f c i (by omega)) th (fun i p => g _ _ (by omega)) (fun c i p w => g c i (by omega))) (mks := x.mk2 t (fun c i p => f c i (by omega)) th (fun c i p => g c i (by omega))) (nc := x.nc2 t (fun c i p => f c i (by omega)) th) (oc := x.oc2 t (fun c i p => f c i (by omega)) th) (bu := by rw [f _ _ (by omega)]; exact x.bu))⟩
/-- in one memory, one after the other -/
theorem ST.one {X M : am_M → am_O} (h : ST X M) {m : am_M} (g : GR m m) : ∃ r m1 m2, X m = some (r, m1) ∧ M m1 = some (r, m2) ∧ GR m2 m2 := by
  obtain ⟨r, m1, ν1, a1, a2, a3, a4, a5⟩ := h m m g
  obtain ⟨r', m1', m2, b1, b2, b3, b4, b5⟩ := h m m1 (g.own (fun _ _ _ => rfl) a4)
  have e := Option.some.inj (a1.symm.trans b1)
  have er : r = r' := congrArg Prod.fst e
  have em : m1 = m1' := congrArg Prod.snd e
  rw [← er] at b2
  rw [← em] at b3
  exact ⟨r, m1, m2, a1, b2, b3.own b5 (fun _ _ _ => rfl)⟩
