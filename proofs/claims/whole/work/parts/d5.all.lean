/-! The one relation between the class's memory and the reference's. -/
def GX (b b' B W n d st : Int) (Wn : Int → Int) (μ ν : am_M) : Prop := (TI μ ν) ∧ (μ 0 8 = b) ∧ (μ 0 9 = b') ∧ ((b = 100 ∧ b' = 200) ∨ (b = 200 ∧ b' = 100)) ∧ (MR b 300 B W n d st Wn μ ν) ∧ (MKS b B W n Wn μ ν) ∧ (NCH b B μ ν) ∧ (OCH b B μ ν) ∧ (μ 310 1 = 0)
theorem GX.ti {b b' B W n d st : Int} {Wn : Int → Int} {μ ν : am_M} (h : GX b b' B W n d st Wn μ ν) : TI μ ν := h.1
theorem GX.s8 {b b' B W n d st : Int} {Wn : Int → Int} {μ ν : am_M} (h : GX b b' B W n d st Wn μ ν) : μ 0 8 = b := h.2.1
theorem GX.s9 {b b' B W n d st : Int} {Wn : Int → Int} {μ ν : am_M} (h : GX b b' B W n d st Wn μ ν) : μ 0 9 = b' := h.2.2.1
theorem GX.bb {b b' B W n d st : Int} {Wn : Int → Int} {μ ν : am_M} (h : GX b b' B W n d st Wn μ ν) : (b = 100 ∧ b' = 200) ∨ (b = 200 ∧ b' = 100) := h.2.2.2.1
theorem GX.mr {b b' B W n d st : Int} {Wn : Int → Int} {μ ν : am_M} (h : GX b b' B W n d st Wn μ ν) : MR b 300 B W n d st Wn μ ν := h.2.2.2.2.1
theorem GX.mks {b b' B W n d st : Int} {Wn : Int → Int} {μ ν : am_M} (h : GX b b' B W n d st Wn μ ν) : MKS b B W n Wn μ ν := h.2.2.2.2.2.1
theorem GX.nc {b b' B W n d st : Int} {Wn : Int → Int} {μ ν : am_M} (h : GX b b' B W n d st Wn μ ν) : NCH b B μ ν := h.2.2.2.2.2.2.1
theorem GX.oc {b b' B W n d st : Int} {Wn : Int → Int} {μ ν : am_M} (h : GX b b' B W n d st Wn μ ν) : OCH b B μ ν := h.2.2.2.2.2.2.2.1
theorem GX.bu {b b' B W n d st : Int} {Wn : Int → Int} {μ ν : am_M} (h : GX b b' B W n d st Wn μ ν) : μ 310 1 = 0 := h.2.2.2.2.2.2.2.2
theorem GX.mk {b b' B W n d st : Int} {Wn : Int → Int} {μ ν : am_M} (ti : TI μ ν) (s8 : μ 0 8 = b) (s9 : μ 0 9 = b') (bb : (b = 100 ∧ b' = 200) ∨ (b = 200 ∧ b' = 100)) (mr : MR b 300 B W n d st Wn μ ν) (mks : MKS b B W n Wn μ ν) (nc : NCH b B μ ν) (oc : OCH b B μ ν) (bu : μ 310 1 = 0) : GX b b' B W n d st Wn μ ν := ⟨ti, s8, s9, bb, mr, mks, nc, oc, bu⟩
def GR (μ ν : am_M) : Prop := ∃ b b' B W n d st Wn, GX b b' B W n d st Wn μ ν
theorem TG.rf (ν : am_M) : TG ν ν := fun _ _ => rfl
theorem TH.rf (ν : am_M) : TH ν ν := ⟨fun _ _ _ => rfl, fun _ _ _ => rfl⟩
theorem TI.mv {μ ν μ' ν' : am_M} (h : TI μ ν) (a : ∀ c i, 10 ≤ c → c ≤ 12 → μ' c i = μ c i) (g1 : ν' 1000 1 = ν 1000 1) (g2 : ν' 1001 = ν 1001) : TI μ' ν' := (TI.mk (n0 := by rw [a _ _ (by decide) (by decide)]; exact h.n0) (n1 := by rw [a _ _ (by decide) (by decide)]; exact h.n1) (tp := by rw [g1, a _ _ (by decide) (by decide)]; exact h.tp) (row := by rw [g2, show μ' 11 = μ 11 from funext fun i => a 11 i (by decide) (by decide)]; exact h.row) (res := fun i p q => by rw [a _ _ (by decide) (by decide)]; exact h.res i p q))
theorem MR.cl {b c B W n d st : Int} {Wn : Int → Int} {μ ν μ' : am_M} (h : MR b c B W n d st Wn μ ν) (f : TF b μ μ') (a : ∀ x i, c ≤ x → x ≤ c + 3 → μ' x i = μ x i) : MR b c B W n d st Wn μ' ν := h.mv h.mc f (TG.rf ν) (fun i _ _ => a _ i (by omega) (by omega)) (fun i _ _ => a _ i (by omega) (by omega)) (fun i _ _ => a _ i (by omega) (by omega)) (fun i _ _ => a _ i (by omega) (by omega)) (by rw [a _ _ (by omega) (by omega)]; exact h.bu) (fun _ _ => rfl) (fun _ _ _ _ _ _ => rfl) (fun _ _ _ => rfl)
theorem GX.mr2 {b b' B W n d st : Int} {Wn : Int → Int} {μ ν μ' ν' : am_M} (h : GX b b' B W n d st Wn μ ν) (f : TF b μ μ') (a : ∀ x i, 300 ≤ x → x ≤ 303 → μ' x i = μ x i) (g : TH ν ν') (b1 : ∀ i, (55 ≤ i ∧ i ≤ 58) ∨ (63 ≤ i ∧ i ≤ 67) → ν' 1000 i = ν 1000 i) (b2 : ∀ x i, 1043 ≤ x → x ≤ 1046 → ν' x i = ν x i) : MR b 300 B W n d st Wn μ' ν' := (h.mr.lo g b1 b2).cl f (fun x i p q => a x i p (by omega))
theorem GX.mk2 {b b' B W n d st : Int} {Wn : Int → Int} {μ ν μ' ν' : am_M} (h : GX b b' B W n d st Wn μ ν) (f : TF b μ μ') (a : ∀ x i, (x = 70 ∨ (320 ≤ x ∧ x ≤ 353) ∨ (x = 0 ∧ i = 10)) → μ' x i = μ x i) (g : TH ν ν') (c : ∀ x i, x = 1062 ∨ x = 1063 → ν' x i = ν x i) : MKS b B W n Wn μ' ν' := (h.mks.lo g c).cong f (TG.rf ν') a (fun _ _ _ => rfl)
theorem GX.nc2 {b b' B W n d st : Int} {Wn : Int → Int} {μ ν μ' ν' : am_M} (h : GX b b' B W n d st Wn μ ν) (f : TF b μ μ') (e : ∀ x i, (x = 50 ∧ i = 10) ∨ x = 57 ∨ x = 58 → μ' x i = μ x i) (g : TH ν ν') : NCH b B μ' ν' := (h.nc.lo h.mr.cd.tb g.1).cong h.mr.cd.tb.bo f (TG.rf ν') e
theorem GX.oc2 {b b' B W n d st : Int} {Wn : Int → Int} {μ ν μ' ν' : am_M} (h : GX b b' B W n d st Wn μ ν) (f : TF b μ μ') (k : ∀ c i, (c = 60 ∧ 7 ≤ i ∧ i ≤ 9) ∨ c = 61 ∨ c = 62 ∨ c = 65 ∨ c = 66 → μ' c i = μ c i) (g : TH ν ν') : OCH b B μ' ν' := (h.oc.lo h.mr.cd.tb.cB.2.2.2 g.1).cong f (TG.rf ν') k
/-- alike, and each keeps to its own -/
def ST (X M : am_M → am_O) : Prop := ∀ μ ν, GR μ ν → ∃ r μ' ν', X μ = some (r, μ') ∧ M ν = some (r, ν') ∧ GR μ' ν' ∧ (∀ c i, 1000 ≤ c → μ' c i = μ c i) ∧ ∀ c i, c < 1000 → ν' c i = ν c i
/-- the reference only sets its field 0 -/
theorem GX.z {b b' B W n d st v : Int} {Wn : Int → Int} {μ ν : am_M} (h : GX b b' B W n d st Wn μ ν) : GX b b' B W n d st Wn μ (m_st ν 1000 0 v) := by
  have g : TH ν (m_st ν 1000 0 v) := TG.th (fun c p => funext fun i => m_st_c (by omega))
  have f : TF b μ μ := fun _ _ _ => rfl
  exact (GX.mk (ti := h.ti.mv (fun _ _ _ _ => rfl) (m_st_i (by decide)) (funext fun i => m_st_c (by decide))) (s8 := h.s8) (s9 := h.s9) (bb := h.bb) (mr := h.mr.z) (mks := h.mk2 f (fun _ _ _ => rfl) g (fun x i p => m_st_c (by omega))) (nc := h.nc2 f (fun _ _ _ => rfl) g) (oc := h.oc2 f (fun _ _ _ => rfl) g) (bu := h.bu))
theorem ST.same {X M : am_M → am_O} (h : ∀ b b' B W n d st Wn μ ν, GX b b' B W n d st Wn μ ν → ∃ r, X μ = some (r, μ) ∧ M ν = some (r, m_st ν 1000 0 0)) : ST X M := by
  rintro μ ν ⟨b, b', B, W, n, d, st, Wn, x⟩
  obtain ⟨r, a1, a2⟩ := h _ _ _ _ _ _ _ _ _ _ x
  exact ⟨r, μ, m_st ν 1000 0 0, a1, a2, ⟨b, b', B, W, n, d, st, Wn, x.z⟩, fun _ _ _ => rfl, fun c i p => m_st_c (by omega)⟩
theorem line_t (l f : Int) : ST (X_line l f) (M_line l f) := ST.same (fun _ _ _ _ _ _ _ _ _ _ x => line_p x.s8 x.mr.cd)
theorem bill_t (v f : Int) : ST (X_bill v f) (M_bill v f) := ST.same (fun _ _ _ _ _ _ _ _ _ _ x => bill_p x.s8 x.mr.cd)
theorem check_t (v f : Int) : ST (X_check v f) (M_check v f) := ST.same (fun _ _ _ _ _ _ _ _ _ _ x => check_p x.s8 x.mr.cd)
theorem count_t (f : Int) : ST (X_count f) (M_count f) := ST.same (fun _ _ _ _ _ _ _ _ _ _ x => count_p x.s8 x.mr.cd.tb x.ti ⟨x.mr.rm, rfl⟩ ⟨x.mr.pr, rfl⟩)
theorem machine_t (v : Int) : ST (X_machine v) (M_machine v) := ST.same (fun _ _ _ _ _ _ _ _ _ _ x => machine_p x.mr)
theorem plain_t (v : Int) : ST (X_plain v) (M_plain v) := ST.same (fun _ _ _ _ _ _ _ _ _ _ x => plain_p x.s8 x.mr.cd.tb)
/-- the class changes no more than scratch cells -/
theorem GX.sc {b b' B W n d st : Int} {Wn : Int → Int} {μ ν μ' : am_M} (h : GX b b' B W n d st Wn μ ν) (e : MST μ μ') : GX b b' B W n d st Wn μ' ν := by
  have bb := h.bb
  have f : TF b μ μ' := fun c p q => funext fun i => e c i (by omega) (by omega)
  exact (GX.mk (ti := h.ti.mv (fun c i p q => e c i (by omega) (by omega)) rfl rfl) (s8 := by rw [e _ _ (by omega) (by omega)]; exact h.s8) (s9 := by rw [e _ _ (by omega) (by omega)]; exact h.s9) (bb := h.bb) (mr := h.mr2 f (fun c i p q => e c i (by omega) (by omega)) (TH.rf ν) (fun _ _ => rfl) (fun _ _ _ _ => rfl)) (mks := h.mk2 f (fun c i p => e c i (by omega) (by omega)) (TH.rf ν) (fun _ _ _ => rfl)) (nc := h.nc2 f (fun c i p => e c i (by omega) (by omega)) (TH.rf ν)) (oc := h.oc2 f (fun c i p => e c i (by omega) (by omega)) (TH.rf ν)) (bu := by rw [e _ _ (by omega) (by omega)]; exact h.bu))
theorem ways_t (v f : Int) : ST (X_ways v f) (M_ways v f) := by
  rintro μ ν ⟨b, b', B, W, n, d, st, Wn, x⟩
  obtain ⟨r, μ', a1, a2, a3⟩ := ways_p (v := v) (f := f) x.s8 x.mr.cd.tb
  exact ⟨r, μ', _, a1, a2, ⟨b, b', B, W, n, d, st, Wn, x.z.sc a3⟩, fun c i p => a3 c i (by omega) (by omega), fun c i p => m_st_c (by omega)⟩
theorem reads_t (v s f : Int) : ST (X_reads v s f) (M_reads v s f) := by
  rintro μ ν ⟨b, b', B, W, n, d, st, Wn, x⟩
  obtain ⟨r, μ', a1, a2, a3⟩ := reads_p (v := v) (s := s) (f := f) x.s8 x.mr.cd.tb
  exact ⟨r, μ', _, a1, a2, ⟨b, b', B, W, n, d, st, Wn, x.z.sc a3⟩, fun c i p => a3 c i (by omega) (by omega), fun c i p => m_st_c (by omega)⟩
/-- begin and run -/
theorem GX.step {b b' B W n d st d' st' : Int} {Wn : Int → Int} {μ ν μ' ν' : am_M} (h : GX b b' B W n d st Wn μ ν) (mr : MR b 300 B W n d' st' Wn μ' ν') (e : SFC 300 μ μ') (r : SFR ν ν') : GX b b' B W n d' st' Wn μ' ν' := by
  have bb := h.bb
  have f : TF b μ μ' := fun c p q => funext fun i => e c i (by omega) (by omega) (by omega)
  have g : TH ν ν' := TG.th (fun c p => funext fun i => r c i (by omega) (by omega) (by omega))
  exact (GX.mk (ti := h.ti.mv (fun c i p q => e c i (by omega) (by omega) (by omega)) (r _ _ (by omega) (by omega) (by omega)) (funext fun i => r _ _ (by omega) (by omega) (by omega))) (s8 := by rw [e _ _ (by omega) (by omega) (by omega)]; exact h.s8) (s9 := by rw [e _ _ (by omega) (by omega) (by omega)]; exact h.s9) (bb := h.bb) (mr := mr) (mks := h.mk2 f (fun c i p => e c i (by omega) (by omega) (by omega)) g (fun c i p => r c i (by omega) (by omega) (by omega))) (nc := h.nc2 f (fun c i p => e c i (by omega) (by omega) (by omega)) g) (oc := h.oc2 f (fun c i p => e c i (by omega) (by omega) (by omega)) g) (bu := by rw [e _ _ (by omega) (by omega) (by omega)]; exact h.bu))
theorem begin_t (v v1 v2 v3 v4 : Int) (r1 : r32 v1) (r2 : r32 v2) (r3 : r32 v3) (r4 : r32 v4) : ST (X_begin v v1 v2 v3 v4) (M_begin v v1 v2 v3 v4) := by
  rintro μ ν ⟨b, b', B, W, n, d, st, Wn, x⟩
  obtain ⟨r, μ', ν', d', st', a1, a2, a3, a4, a5⟩ := begin_p (v := v) x.s8 x.mr r1 r2 r3 r4
  exact ⟨r, μ', ν', a1, a2, ⟨b, b', B, W, n, d', st', Wn, x.z.step a3 a4 a5⟩, fun c i p => a4 c i (by omega) (by omega) (by omega), fun c i p => by rw [a5 c i (by omega) (by omega) (by omega)]; exact m_st_c (by omega)⟩
theorem run_t (v : Int) : ST (X_run v) (M_run v) := by
  rintro μ ν ⟨b, b', B, W, n, d, st, Wn, x⟩
  obtain ⟨r, μ', ν', d', st', a1, a2, a3, a4, a5⟩ := run_p (v := v) x.s8 x.mr
  exact ⟨r, μ', ν', a1, a2, ⟨b, b', B, W, n, d', st', Wn, x.z.step a3 a4 a5⟩, fun c i p => a4 c i (by omega) (by omega) (by omega), fun c i p => by rw [a5 c i (by omega) (by omega) (by omega)]; exact m_st_c (by omega)⟩
theorem mark_t (k v : Int) : ST (X_mark k v) (M_mark k v) := by
  rintro μ ν ⟨b, b', B, W, n, d, st, Wn, x⟩
  obtain ⟨r, μ', ν', d', st', a1, a2, a3, a4, e, q, z⟩ := mark_p (k := k) (v := v) x.mr x.mks
  have bb := x.bb
  have f : TF b μ μ' := fun c p q => funext fun i => e c i (by omega) (by omega) (by omega)
  have g : TH ν ν' := TG.th (fun c p => funext fun i => q c i (by omega) (by omega) (by omega))
  exact ⟨r, μ', ν', a1, a2, ⟨b, b', B, W, n, d', st', Wn, (GX.mk (ti := x.ti.mv (fun c i p q => e c i (by omega) (by omega) (by omega)) (z 1 (by decide) (by omega) (by omega) (by decide)) (funext fun i => q _ _ (by omega) (by omega) (by omega))) (s8 := by rw [e _ _ (by omega) (by omega) (by omega)]; exact x.s8) (s9 := by rw [e _ _ (by omega) (by omega) (by omega)]; exact x.s9) (bb := x.bb) (mr := a3) (mks := a4) (nc := x.nc2 f (fun c i p => e c i (by omega) (by omega) (by omega)) g) (oc := x.oc2 f (fun c i p => e c i (by omega) (by omega) (by omega)) g) (bu := by rw [e _ _ (by omega) (by omega) (by omega)]; exact x.bu))⟩, fun c i p => e c i (by omega) (by omega) (by omega), fun c i p => q c i (by omega) (by omega) (by omega)⟩
theorem needs_t (v f : Int) : ST (X_needs v f) (M_needs v f) := by
  rintro μ ν ⟨b, b', B, W, n, d, st, Wn, x⟩
  obtain ⟨r, μ', ν', a1, a2, a3, e, q⟩ := needs_p (v := v) (f := f) x.s8 x.mr.cd.tb x.nc
  have y := x.z (v := 0)
  have bb := x.bb
  have t : TF b μ μ' := fun c p q => funext fun i => e c i (by omega) (by omega)
  have g : TH (m_st ν 1000 0 0) ν' := TG.th (fun c p => funext fun i => q c i (by omega) (by omega))
  exact ⟨r, μ', ν', a1, a2, ⟨b, b', B, W, n, d, st, Wn, (GX.mk (ti := y.ti.mv (fun c i p q => e c i (by omega) (by omega)) (q _ _ (by omega) (by omega)) (funext fun i => q _ _ (by omega) (by omega))) (s8 := by rw [e _ _ (by omega) (by omega)]; exact x.s8) (s9 := by rw [e _ _ (by omega) (by omega)]; exact x.s9) (bb := x.bb) (mr := y.mr2 t (fun c i p w => e c i (by omega) (by omega)) g (fun i p => q _ _ (by omega) (by omega)) (fun c i p w => q c i (by omega) (by omega))) (mks := y.mk2 t (fun c i p => e c i (by omega) (by omega)) g (fun c i p => q c i (by omega) (by omega))) (nc := a3) (oc := y.oc2 t (fun c i p => e c i (by omega) (by omega)) g) (bu := by rw [e _ _ (by omega) (by omega)]; exact x.bu))⟩, fun c i p => e c i (by omega) (by omega), fun c i p => by rw [q c i (by omega) (by omega)]; exact m_st_c (by omega)⟩
theorem ST.ord {X M : am_M → am_O} (h : ∀ b b' B W n d st Wn μ ν, GX b b' B W n d st Wn μ ν → ∃ r μ' ν', X μ = some (r, μ') ∧ M ν = some (r, ν') ∧ OCH b B μ' ν' ∧ OFC μ μ' ∧ OFR ν ν') : ST X M := by
  rintro μ ν ⟨b, b', B, W, n, d, st, Wn, x⟩
  obtain ⟨r, μ', ν', a1, a2, a3, e, q⟩ := h _ _ _ _ _ _ _ _ _ _ x
  have bb := x.bb
  have t : TF b μ μ' := fun c p q => funext fun i => e c i (by omega)
  have g : TH ν ν' := TG.th (fun c p => funext fun i => q c i (by omega) (by omega))
  exact ⟨r, μ', ν', a1, a2, ⟨b, b', B, W, n, d, st, Wn, (GX.mk (ti := x.ti.mv (fun c i p q => e c i (by omega)) (q _ _ (by omega) (by omega)) (funext fun i => q _ _ (by omega) (by omega))) (s8 := by rw [e _ _ (by omega)]; exact x.s8) (s9 := by rw [e _ _ (by omega)]; exact x.s9) (bb := x.bb) (mr := x.mr2 t (fun c i p w => e c i (by omega)) g (fun i p => q _ _ (by omega) (by omega)) (fun c i p w => q c i (by omega) (by omega))) (mks := x.mk2 t (fun c i p => e c i (by omega)) g (fun c i p => q c i (by omega) (by omega))) (nc := x.nc2 t (fun c i p => e c i (by omega)) g) (oc := a3) (bu := by rw [e _ _ (by omega)]; exact x.bu))⟩, fun c i p => e c i (by omega), fun c i p => q c i (by omega) (by omega)⟩
theorem fewest_t (v : Int) : ST (X_fewest v) (M_fewest v) := ST.ord (fun _ _ _ _ _ _ _ _ _ _ x => fewest_p x.s8 x.mr.cd.tb x.oc)
theorem order_t (v i : Int) : ST (X_order v i) (M_order v i) := ST.ord (fun _ _ _ _ _ _ _ _ _ _ x => order_p x.s8 x.mr.cd.tb x.oc)
theorem asTold_t (v : Int) : ST (X_asTold v) (M_asTold v) := ST.ord (fun _ _ _ _ _ _ _ _ _ _ x => asTold_p x.s8 x.mr.cd.tb x.oc)
theorem orders_t (v y : Int) : ST (X_orders v y) (M_orders v y) := ST.ord (fun _ _ _ _ _ _ _ _ _ _ x => orders_p x.s8 x.mr.cd.tb x.oc)
theorem cheapest_t (v p q : Int) : ST (X_cheapest v p q) (M_cheapest v p q) := ST.ord (fun _ _ _ _ _ _ _ _ _ _ x => cheapest_p x.s8 x.mr.cd.tb x.oc)
theorem feed_t (v1 v3 v5 : Int) : ST (X_feed v1 v3 v5) (M_feed v1 v3 v5) := by
  rintro μ ν ⟨b, b', B, W, n, d, st, Wn, x⟩
  obtain ⟨r, μ', ν', a1, a2, a3, e, q⟩ := feed_p (v1 := v1) (v3 := v3) (v5 := v5) x.ti
  have y := x.z (v := 0)
  have bb := x.bb
  have t : TF b μ μ' := fun c p q => funext fun i => e c i (by omega)
  have g : TH (m_st ν 1000 0 0) ν' := ⟨fun c i z => q c i (by unfold Lo at z; omega), fun c p w => funext fun i => q c i (by omega)⟩
  exact ⟨r, μ', ν', a1, a2, ⟨b, b', B, W, n, d, st, Wn, (GX.mk (ti := a3) (s8 := by rw [e _ _ (by omega)]; exact x.s8) (s9 := by rw [e _ _ (by omega)]; exact x.s9) (bb := x.bb) (mr := y.mr2 t (fun c i p w => e c i (by omega)) g (fun i p => q _ _ (by omega)) (fun c i p w => q c i (by omega))) (mks := y.mk2 t (fun c i p => e c i (by omega)) g (fun c i p => q c i (by omega))) (nc := y.nc2 t (fun c i p => e c i (by omega)) g) (oc := y.oc2 t (fun c i p => e c i (by omega)) g) (bu := by rw [e _ _ (by omega)]; exact x.bu))⟩, fun c i p => e c i (by omega), fun c i p => by rw [q c i (by omega)]; exact m_st_c (by omega)⟩
