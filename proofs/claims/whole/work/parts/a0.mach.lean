/-! The machine, both sides: frames of bills that are worked. -/
def TBW (b k : Int) (T : Int → Int → Prop) (μ ν : am_M) : Prop := (∀ t, ¬ T (ν 1017 k) t) ∧ (∀ l, ν 1017 k ≤ l → l < ν 1017 k + ν 1018 k - 1 → FLW b μ ν (μ (b + 8)) (ν 1042) T (ν 1017 k + ν 1018 k - 1) l) ∧ ∃ r, CKC b (ν 1017 k + ν 1018 k - 1) r μ ν ∧ ∀ s ∈ r, T (ν 1017 k + ν 1018 k - 1) s
/-- a frame: bill k, its next line l, its table; w: it waits for what it called -/
def FO (b B k l tab : Int) (w : Prop) (μ ν : am_M) : Prop := ∃ T : Int → Int → Prop, TBW b k T μ ν ∧ (0 ≤ k ∧ k < B) ∧ μ (b + 22) k ≠ 0 ∧ (ν 1017 k + ν 1019 k ≤ l ∧ l < ν 1017 k + ν 1018 k) ∧ ((¬ w ∧ ∀ t, 0 ≤ t → t < 10 → (tb tab t = true ↔ T l t)) ∨ (w ∧ ν 1017 k + ν 1019 k ≤ l - 1 ∧ ν 1002 (l - 1) = 4 ∧ ∃ r, CKC b (l - 1) r μ ν ∧ ∀ t, 0 ≤ t → t < 10 → (tb tab t = true ↔ T (l - 1) t ∧ t ∉ r)))
def TF (b : Int) (μ μ' : am_M) : Prop := ∀ c, b ≤ c → c ≤ b + 22 → μ' c = μ c
def TG (ν ν' : am_M) : Prop := ∀ c, (1001 ≤ c ∧ c ≤ 1020) ∨ (1039 ≤ c ∧ c ≤ 1042) → ν' c = ν c
theorem TBW.cong {b k : Int} {T : Int → Int → Prop} {μ ν μ' ν' : am_M} (h : TBW b k T μ ν) (f : TF b μ μ') (g : TG ν ν') : TBW b k T μ' ν' := by
  obtain ⟨a1, a2, r, a3, a4⟩ := h
  have f' : ∀ c, b + 1 ≤ c → c ≤ b + 11 → c ≠ b + 8 → μ' c = μ c := fun c p q _ => f c (by omega) (by omega)
  have g' : ∀ c, 1001 ≤ c → c ≤ 1020 → ν' c = ν c := fun c p q => g c (Or.inl ⟨p, q⟩)
  unfold TBW
  rw [g' 1017 (by decide) (by decide), g' 1018 (by decide) (by decide), f (b + 8) (by omega) (by omega), g 1042 (by omega)]
  exact ⟨a1, fun l p q => (a2 l p q).cg f' g', r, a3.cg f' g', a4⟩
theorem FO.cong {b B k l tab : Int} {w : Prop} {μ ν μ' ν' : am_M} (h : FO b B k l tab w μ ν) (f : TF b μ μ') (g : TG ν ν') : FO b B k l tab w μ' ν' := by
  obtain ⟨T, a1, a2, a3, a4, a5⟩ := h
  have f' : ∀ c, b + 1 ≤ c → c ≤ b + 11 → c ≠ b + 8 → μ' c = μ c := fun c p q _ => f c (by omega) (by omega)
  have g' : ∀ c, 1001 ≤ c → c ≤ 1020 → ν' c = ν c := fun c p q => g c (Or.inl ⟨p, q⟩)
  refine ⟨T, a1.cong f g, a2, by rw [f (b + 22) (by omega) (by omega)]; exact a3, ?_, ?_⟩
  · rw [g' 1017 (by decide) (by decide), g' 1018 (by decide) (by decide), g' 1019 (by decide) (by decide)]
    exact a4
  · rw [g' 1017 (by decide) (by decide), g' 1019 (by decide) (by decide), g' 1002 (by decide) (by decide)]
    rcases a5 with x | ⟨x1, x2, x3, r, x4, x5⟩
    · exact Or.inl x
    · exact Or.inr ⟨x1, x2, x3, r, x4.cg f' g', x5⟩
theorem FO.w {b B k l tab : Int} {w w' : Prop} {μ ν : am_M} (h : FO b B k l tab w μ ν) (e : w ↔ w') : FO b B k l tab w' μ ν := by
  obtain ⟨T, a1, a2, a3, a4, a5⟩ := h
  exact ⟨T, a1, a2, a3, a4, a5.elim (fun x => Or.inl ⟨fun y => x.1 (e.mpr y), x.2⟩) (fun x => Or.inr ⟨e.mp x.1, x.2⟩)⟩
def MR (b c B W n d st : Int) (Wn : Int → Int) (μ ν : am_M) : Prop := (CD b B W n B Wn μ ν) ∧ (mOk c) ∧ (0 ≤ d ∧ d ≤ 16) ∧ (μ c 5 = d) ∧ (ν 1000 58 = d) ∧ (μ c 6 = st) ∧ (ν 1000 57 = st) ∧ (0 ≤ st ∧ st ≤ 4) ∧ (μ c 12 = ν 1000 55) ∧ (μ c 13 = ν 1000 56) ∧ (st ≠ 0 → μ c 8 = ν 1000 63 ∧ μ c 9 = ν 1000 64 ∧ μ c 10 = ν 1000 65 ∧ μ c 11 = ν 1000 66 ∧ r32 (ν 1000 64) ∧ r32 (ν 1000 65)) ∧ (st = 0 → d = 0 ∧ μ c 8 = 0 ∧ μ c 9 = 0 ∧ μ c 10 = 0 ∧ μ c 11 = 0) ∧ (st = 2 → μ c 7 = ν 1000 67) ∧ (∀ f, 0 ≤ f → f < d → μ (c + 1) f = ν 1044 f) ∧ (FT c d μ ν) ∧ (∀ f s, 0 ≤ f → f < d → 0 ≤ s → s < 10 → tb (ν 1045 f) s = true → μ (c + 3) (10 * f + s) = ν 1046 (10 * f + s) ∧ r32 (ν 1046 (10 * f + s))) ∧ (∀ f, 0 ≤ f → f < d → FO b B (ν 1043 f) (ν 1044 f) (ν 1045 f) (f < d - 1) μ ν) ∧ (st = 1 → 1 ≤ d) ∧ (μ c 1 = 1)
theorem MR.cd {b c B W n d st : Int} {Wn : Int → Int} {μ ν : am_M} (h : MR b c B W n d st Wn μ ν) : CD b B W n B Wn μ ν := h.1
theorem MR.mc {b c B W n d st : Int} {Wn : Int → Int} {μ ν : am_M} (h : MR b c B W n d st Wn μ ν) : mOk c := h.2.1
theorem MR.dd {b c B W n d st : Int} {Wn : Int → Int} {μ ν : am_M} (h : MR b c B W n d st Wn μ ν) : 0 ≤ d ∧ d ≤ 16 := h.2.2.1
theorem MR.c5 {b c B W n d st : Int} {Wn : Int → Int} {μ ν : am_M} (h : MR b c B W n d st Wn μ ν) : μ c 5 = d := h.2.2.2.1
theorem MR.r5 {b c B W n d st : Int} {Wn : Int → Int} {μ ν : am_M} (h : MR b c B W n d st Wn μ ν) : ν 1000 58 = d := h.2.2.2.2.1
theorem MR.c6 {b c B W n d st : Int} {Wn : Int → Int} {μ ν : am_M} (h : MR b c B W n d st Wn μ ν) : μ c 6 = st := h.2.2.2.2.2.1
theorem MR.r6 {b c B W n d st : Int} {Wn : Int → Int} {μ ν : am_M} (h : MR b c B W n d st Wn μ ν) : ν 1000 57 = st := h.2.2.2.2.2.2.1
theorem MR.s4 {b c B W n d st : Int} {Wn : Int → Int} {μ ν : am_M} (h : MR b c B W n d st Wn μ ν) : 0 ≤ st ∧ st ≤ 4 := h.2.2.2.2.2.2.2.1
theorem MR.rm {b c B W n d st : Int} {Wn : Int → Int} {μ ν : am_M} (h : MR b c B W n d st Wn μ ν) : μ c 12 = ν 1000 55 := h.2.2.2.2.2.2.2.2.1
theorem MR.pr {b c B W n d st : Int} {Wn : Int → Int} {μ ν : am_M} (h : MR b c B W n d st Wn μ ν) : μ c 13 = ν 1000 56 := h.2.2.2.2.2.2.2.2.2.1
theorem MR.cn {b c B W n d st : Int} {Wn : Int → Int} {μ ν : am_M} (h : MR b c B W n d st Wn μ ν) : st ≠ 0 → μ c 8 = ν 1000 63 ∧ μ c 9 = ν 1000 64 ∧ μ c 10 = ν 1000 65 ∧ μ c 11 = ν 1000 66 ∧ r32 (ν 1000 64) ∧ r32 (ν 1000 65) := h.2.2.2.2.2.2.2.2.2.2.1
theorem MR.cz {b c B W n d st : Int} {Wn : Int → Int} {μ ν : am_M} (h : MR b c B W n d st Wn μ ν) : st = 0 → d = 0 ∧ μ c 8 = 0 ∧ μ c 9 = 0 ∧ μ c 10 = 0 ∧ μ c 11 = 0 := h.2.2.2.2.2.2.2.2.2.2.2.1
theorem MR.gf {b c B W n d st : Int} {Wn : Int → Int} {μ ν : am_M} (h : MR b c B W n d st Wn μ ν) : st = 2 → μ c 7 = ν 1000 67 := h.2.2.2.2.2.2.2.2.2.2.2.2.1
theorem MR.nl {b c B W n d st : Int} {Wn : Int → Int} {μ ν : am_M} (h : MR b c B W n d st Wn μ ν) : ∀ f, 0 ≤ f → f < d → μ (c + 1) f = ν 1044 f := h.2.2.2.2.2.2.2.2.2.2.2.2.2.1
theorem MR.ft {b c B W n d st : Int} {Wn : Int → Int} {μ ν : am_M} (h : MR b c B W n d st Wn μ ν) : FT c d μ ν := h.2.2.2.2.2.2.2.2.2.2.2.2.2.2.1
theorem MR.vl {b c B W n d st : Int} {Wn : Int → Int} {μ ν : am_M} (h : MR b c B W n d st Wn μ ν) : ∀ f s, 0 ≤ f → f < d → 0 ≤ s → s < 10 → tb (ν 1045 f) s = true → μ (c + 3) (10 * f + s) = ν 1046 (10 * f + s) ∧ r32 (ν 1046 (10 * f + s)) := h.2.2.2.2.2.2.2.2.2.2.2.2.2.2.2.1
theorem MR.fr {b c B W n d st : Int} {Wn : Int → Int} {μ ν : am_M} (h : MR b c B W n d st Wn μ ν) : ∀ f, 0 ≤ f → f < d → FO b B (ν 1043 f) (ν 1044 f) (ν 1045 f) (f < d - 1) μ ν := h.2.2.2.2.2.2.2.2.2.2.2.2.2.2.2.2.1
theorem MR.s1 {b c B W n d st : Int} {Wn : Int → Int} {μ ν : am_M} (h : MR b c B W n d st Wn μ ν) : st = 1 → 1 ≤ d := h.2.2.2.2.2.2.2.2.2.2.2.2.2.2.2.2.2.1
theorem MR.bu {b c B W n d st : Int} {Wn : Int → Int} {μ ν : am_M} (h : MR b c B W n d st Wn μ ν) : μ c 1 = 1 := h.2.2.2.2.2.2.2.2.2.2.2.2.2.2.2.2.2.2
theorem MR.mk {b c B W n d st : Int} {Wn : Int → Int} {μ ν : am_M} (cd : CD b B W n B Wn μ ν) (mc : mOk c) (dd : 0 ≤ d ∧ d ≤ 16) (c5 : μ c 5 = d) (r5 : ν 1000 58 = d) (c6 : μ c 6 = st) (r6 : ν 1000 57 = st) (s4 : 0 ≤ st ∧ st ≤ 4) (rm : μ c 12 = ν 1000 55) (pr : μ c 13 = ν 1000 56) (cn : st ≠ 0 → μ c 8 = ν 1000 63 ∧ μ c 9 = ν 1000 64 ∧ μ c 10 = ν 1000 65 ∧ μ c 11 = ν 1000 66 ∧ r32 (ν 1000 64) ∧ r32 (ν 1000 65)) (cz : st = 0 → d = 0 ∧ μ c 8 = 0 ∧ μ c 9 = 0 ∧ μ c 10 = 0 ∧ μ c 11 = 0) (gf : st = 2 → μ c 7 = ν 1000 67) (nl : ∀ f, 0 ≤ f → f < d → μ (c + 1) f = ν 1044 f) (ft : FT c d μ ν) (vl : ∀ f s, 0 ≤ f → f < d → 0 ≤ s → s < 10 → tb (ν 1045 f) s = true → μ (c + 3) (10 * f + s) = ν 1046 (10 * f + s) ∧ r32 (ν 1046 (10 * f + s))) (fr : ∀ f, 0 ≤ f → f < d → FO b B (ν 1043 f) (ν 1044 f) (ν 1045 f) (f < d - 1) μ ν) (s1 : st = 1 → 1 ≤ d) (bu : μ c 1 = 1) : MR b c B W n d st Wn μ ν := ⟨cd, mc, dd, c5, r5, c6, r6, s4, rm, pr, cn, cz, gf, nl, ft, vl, fr, s1, bu⟩
/-- what both sides hold of a frame f, d frames deep -/
def FB1 (b c B d f : Int) (μ ν : am_M) : Prop := μ (c + 1) f = ν 1044 f ∧ (μ (c + 2) f = ν 1045 f ∧ S10 (ν 1045 f)) ∧ (∀ s, 0 ≤ s → s < 10 → tb (ν 1045 f) s = true → μ (c + 3) (10 * f + s) = ν 1046 (10 * f + s) ∧ r32 (ν 1046 (10 * f + s))) ∧ FO b B (ν 1043 f) (ν 1044 f) (ν 1045 f) (f < d - 1) μ ν
theorem MR.fb {b c B W n d st f : Int} {Wn : Int → Int} {μ ν : am_M} (h : MR b c B W n d st Wn μ ν) (h0 : 0 ≤ f) (h1 : f < d) : FB1 b c B d f μ ν := ⟨h.nl f h0 h1, h.ft.tb f h0 h1, fun s p q => h.vl f s h0 h1 p q, h.fr f h0 h1⟩
/-- m frames stay as they are -/
theorem MR.gen {b c B W n d st d' st' : Int} {Wn : Int → Int} {μ ν μ' ν' : am_M} (h : MR b c B W n d st Wn μ ν) (m : Int) (hm : 0 ≤ m ∧ m ≤ d - 1) (hm2 : m = 0 ∨ m ≤ d' - 1) (dd : 0 ≤ d' ∧ d' ≤ 16) (f : TF b μ μ') (g : TG ν ν')
    (c5 : μ' c 5 = d') (r5 : ν' 1000 58 = d') (c6 : μ' c 6 = st') (r6 : ν' 1000 57 = st') (s4 : 1 ≤ st' ∧ st' ≤ 4) (rm : μ' c 12 = μ c 12 ∧ ν' 1000 55 = ν 1000 55) (pr : μ' c 13 = μ c 13 ∧ ν' 1000 56 = ν 1000 56)
    (cn : μ' c 8 = ν' 1000 63 ∧ μ' c 9 = ν' 1000 64 ∧ μ' c 10 = ν' 1000 65 ∧ μ' c 11 = ν' 1000 66 ∧ r32 (ν' 1000 64) ∧ r32 (ν' 1000 65)) (gf : st' = 2 → μ' c 7 = ν' 1000 67) (s1 : st' = 1 → 1 ≤ d') (bu : μ' c 1 = μ c 1)
    (lo : ∀ x i, i < m → (x = c + 1 ∨ x = c + 2) → μ' x i = μ x i) (lv : ∀ i, i < 10 * m → μ' (c + 3) i = μ (c + 3) i) (ro : ∀ x i, i < m → 1043 ≤ x → x ≤ 1045 → ν' x i = ν x i) (rv : ∀ i, i < 10 * m → ν' 1046 i = ν 1046 i)
    (hi : ∀ f, m ≤ f → f < d' → FB1 b c B d' f μ' ν') : MR b c B W n d' st' Wn μ' ν' := by
  have F : ∀ f', 0 ≤ f' → f' < d' → FB1 b c B d' f' μ' ν' := by
    intro f' p q
    by_cases z : f' < m
    · obtain ⟨a1, ⟨a2, a3⟩, a4, a5⟩ := h.fb p (by omega)
      have e1 := ro 1043 f' z (by decide) (by decide)
      have e2 := ro 1044 f' z (by decide) (by decide)
      have e3 := ro 1045 f' z (by decide) (by decide)
      unfold FB1
      rw [lo _ f' z (Or.inl rfl), lo _ f' z (Or.inr rfl), e1, e2, e3]
      refine ⟨a1, ⟨a2, a3⟩, fun s s0 s1 y => ?_, (a5.cong f g).w ⟨fun _ => by omega, fun _ => by omega⟩⟩
      rw [lv _ (by omega), rv _ (by omega)]
      exact a4 s s0 s1 y
    · exact hi f' (by omega) q
  exact (MR.mk (cd := h.cd.cong f (fun c p q => g c (Or.inl ⟨p, q⟩)) (fun c p q => g c (Or.inr ⟨p, q⟩))) (mc := h.mc) (dd := dd) (c5 := c5) (r5 := r5) (c6 := c6) (r6 := r6) (s4 := by omega) (rm := by rw [rm.1, rm.2]; exact h.rm) (pr := by rw [pr.1, pr.2]; exact h.pr) (cn := fun _ => cn) (cz := fun z => by omega) (gf := gf) (nl := fun f p q => (F f p q).1) (ft := (FT.mk (d0 := dd) (tb := fun f p q => (F f p q).2.1))) (vl := fun f s p q s0 s1 y => (F f p q).2.2.1 s s0 s1 y) (fr := fun f p q => (F f p q).2.2.2) (s1 := s1) (bu := by rw [bu]; exact h.bu))
/-- what a step may change -/
def SFC (c : Int) (μ μ' : am_M) : Prop := ∀ y i, ¬ (y = c ∧ 5 ≤ i ∧ i ≤ 11) → ¬ (c + 1 ≤ y ∧ y ≤ c + 3) → y ≠ 41 → μ' y i = μ y i
def SFR (ν ν' : am_M) : Prop := ∀ y i, ¬ (y = 1000 ∧ (i = 57 ∨ i = 58 ∨ (63 ≤ i ∧ i ≤ 67))) → ¬ (1024 ≤ y ∧ y ≤ 1033) → ¬ (1043 ≤ y ∧ y ≤ 1047) → ν' y i = ν y i
theorem SFC.rf {c : Int} {μ : am_M} : SFC c μ μ := fun _ _ _ _ _ => rfl
theorem SFR.rf {ν : am_M} : SFR ν ν := fun _ _ _ _ _ => rfl
theorem SFC.tr {c : Int} {μ μ1 μ2 : am_M} (h : SFC c μ μ1) (h2 : SFC c μ1 μ2) : SFC c μ μ2 := fun y i p q r => by rw [h2 y i p q r, h y i p q r]
theorem SFR.tr {ν ν1 ν2 : am_M} (h : SFR ν ν1) (h2 : SFR ν1 ν2) : SFR ν ν2 := fun y i p q r => by rw [h2 y i p q r, h y i p q r]
theorem mOk.r {c : Int} (h : mOk c) : 300 ≤ c ∧ c ≤ 350 ∧ c + 3 < 1000 := by rcases h with h | h | h | h | h | h <;> omega
theorem SFC.tf {b c : Int} {μ μ' : am_M} (h : SFC c μ μ') (hb : bOk b) (hc : mOk c) : TF b μ μ' := fun x p q => funext fun i => by
  have hb' : b = 100 ∨ b = 200 := hb
  have := hc.r
  exact h x i (by omega) (by omega) (by omega)
theorem SFR.tg {ν ν' : am_M} (h : SFR ν ν') : TG ν ν' := fun x p => funext fun i => h x i (by omega) (by omega) (by omega)
theorem MR_looks {b c B W n d st : Int} {Wn : Int → Int} {μ ν : am_M} (h : MR b c B W n d st Wn μ ν) (hst : st ≠ 0) : ∃ μ' ν' st', Mc_lookAtTable c μ = some (0, μ') ∧ M_looks ν = some (0, ν') ∧ MR b c B W n d st' Wn μ' ν' ∧ (st' = st ∨ (st = 1 ∧ st' = 3)) ∧ SFC c μ μ' ∧ SFR ν ν' ∧ ν' 1000 66 = ν 1000 66 := by
  have hs4 := h.s4
  have hdd := h.dd
  have hr := h.mc.r
  have hcn := h.cn hst
  obtain ⟨μ', ν', a1, a2, a3, a4, a5, a6, a7⟩ := looks_s h.mc h.ft h.c5 h.r5 (by rw [h.bu]; decide) (by rw [h.c6, h.r6]) hcn.1 h.rm
  have sc : SFC c μ μ' := fun y i p q r => a6 y i (by omega)
  have sr : SFR ν ν' := fun y i p q r => a7 y i (by omega)
  have hr6 := h.r6
  have hst' : ν' 1000 57 = st ∨ (st = 1 ∧ ν' 1000 57 = 3) := by rcases a4 with z | ⟨z1, z2⟩ <;> omega
  refine ⟨μ', ν', ν' 1000 57, a1, a2, ?_, hst', sc, sr, a7 _ _ (by omega)⟩
  have hbo := h.cd.tb.bo
  have g := sc.tf hbo h.mc
  have gg := sr.tg
  have C : ∀ i, ¬ (i = 6 ∨ i = 8) → μ' c i = μ c i := fun i z => a6 c i (by omega)
  have A : ∀ x i, x ≠ c → μ' x i = μ x i := fun x i z => a6 x i (by omega)
  have R : ∀ i, ¬ (i = 57 ∨ i = 63) → ν' 1000 i = ν 1000 i := fun i z => a7 1000 i (by omega)
  have N : ∀ x i, x ≠ 1000 → ν' x i = ν x i := fun x i z => a7 x i (by omega)
  exact (MR.mk (cd := h.cd.cong g (fun c p q => gg c (Or.inl ⟨p, q⟩)) (fun c p q => gg c (Or.inr ⟨p, q⟩))) (mc := h.mc) (dd := h.dd) (c5 := by rw [C 5 (by omega)]; exact h.c5) (r5 := by rw [R 58 (by omega)]; exact h.r5) (c6 := a3) (r6 := rfl) (s4 := by omega) (rm := by rw [C 12 (by omega), R 55 (by omega)]; exact h.rm) (pr := by rw [C 13 (by omega), R 56 (by omega)]; exact h.pr) (cn := fun _ => by rw [C 9 (by omega), C 10 (by omega), C 11 (by omega), R 64 (by omega), R 65 (by omega), R 66 (by omega)]; exact ⟨a5, hcn.2⟩) (cz := fun z => by omega) (gf := fun z => by rw [C 7 (by omega), R 67 (by omega)]; exact h.gf (by omega)) (nl := fun f p q => by rw [A _ _ (by omega), N _ _ (by omega)]; exact h.nl f p q) (ft := h.ft.cong (fun i _ _ => A _ _ (by omega)) (fun i _ _ => N _ _ (by omega))) (vl := fun f s p q s0 s1 => by rw [A _ _ (by omega), N _ _ (by omega), N _ _ (by omega)]; exact h.vl f s p q s0 s1) (fr := fun f p q => by rw [N _ _ (by omega), N _ _ (by omega), N _ _ (by omega)]; exact (h.fr f p q).cong g gg) (s1 := fun z => h.s1 (by omega)) (bu := by rw [C 1 (by omega)]; exact h.bu))
/-- the line that is next -/
def TOP (b c B W n d k l x : Int) (Wn : Int → Int) (T : Int → Int → Prop) (r : List Int) (μ ν : am_M) : Prop := (MR b c B W n d 1 Wn μ ν) ∧ (ν 1043 (d - 1) = k) ∧ (ν 1044 (d - 1) = l) ∧ (ν 1045 (d - 1) = x) ∧ (1 ≤ d) ∧ (TBW b k T μ ν) ∧ (μ (b + 22) k ≠ 0) ∧ (BI b B k μ ν) ∧ (LI b B k l W Wn r μ ν) ∧ (∀ t, 0 ≤ t → t < 10 → (tb x t = true ↔ T l t)) ∧ (∀ s ∈ r, T l s) ∧ (S10 x) ∧ (l < ν 1017 k + ν 1018 k - 1 → (ν 1002 l ≤ 4 → ∀ t, 0 ≤ t → t < 10 → (T (l + 1) t ↔ (T l t ∧ t ∉ r) ∨ t = ν 1003 l ∨ t = ν 1004 l)) ∧ (ν 1002 l = 5 → l < ν 1008 l ∧ ν 1008 l < ν 1017 k + ν 1018 k - 1 ∧ ∀ t, 0 ≤ t → t < 10 → (T (l + 1) t ↔ T l t ∧ t ∉ r) ∧ (T (ν 1008 l + 1) t ↔ T l t ∧ t ∉ r)) ∧ (ν 1002 l = 6 → l < ν 1009 l ∧ ν 1009 l < ν 1017 k + ν 1018 k - 1 ∧ S10 (μ (b + 8) l) ∧ ∀ t, 0 ≤ t → t < 10 → (T (ν 1009 l + 1) t ↔ T l t ∧ tb (μ (b + 8) l) t = false) ∧ (T (ν 1009 l + 1) t ↔ tb (ν 1042 (ν 1009 l)) t = true)) ∧ (ν 1002 l = 7 → S10 (μ (b + 8) l) ∧ S10 (ν 1042 l) ∧ ∀ t, 0 ≤ t → t < 10 → (T (l + 1) t ↔ T l t ∧ tb (μ (b + 8) l) t = false) ∧ (T (l + 1) t ↔ tb (ν 1042 l) t = true)))
theorem TOP.mr {b c B W n d k l x : Int} {Wn : Int → Int} {T : Int → Int → Prop} {r : List Int} {μ ν : am_M} (h : TOP b c B W n d k l x Wn T r μ ν) : MR b c B W n d 1 Wn μ ν := h.1
theorem TOP.ek {b c B W n d k l x : Int} {Wn : Int → Int} {T : Int → Int → Prop} {r : List Int} {μ ν : am_M} (h : TOP b c B W n d k l x Wn T r μ ν) : ν 1043 (d - 1) = k := h.2.1
theorem TOP.el {b c B W n d k l x : Int} {Wn : Int → Int} {T : Int → Int → Prop} {r : List Int} {μ ν : am_M} (h : TOP b c B W n d k l x Wn T r μ ν) : ν 1044 (d - 1) = l := h.2.2.1
theorem TOP.ex {b c B W n d k l x : Int} {Wn : Int → Int} {T : Int → Int → Prop} {r : List Int} {μ ν : am_M} (h : TOP b c B W n d k l x Wn T r μ ν) : ν 1045 (d - 1) = x := h.2.2.2.1
theorem TOP.d1 {b c B W n d k l x : Int} {Wn : Int → Int} {T : Int → Int → Prop} {r : List Int} {μ ν : am_M} (h : TOP b c B W n d k l x Wn T r μ ν) : 1 ≤ d := h.2.2.2.2.1
theorem TOP.tw {b c B W n d k l x : Int} {Wn : Int → Int} {T : Int → Int → Prop} {r : List Int} {μ ν : am_M} (h : TOP b c B W n d k l x Wn T r μ ν) : TBW b k T μ ν := h.2.2.2.2.2.1
theorem TOP.sk {b c B W n d k l x : Int} {Wn : Int → Int} {T : Int → Int → Prop} {r : List Int} {μ ν : am_M} (h : TOP b c B W n d k l x Wn T r μ ν) : μ (b + 22) k ≠ 0 := h.2.2.2.2.2.2.1
theorem TOP.bi {b c B W n d k l x : Int} {Wn : Int → Int} {T : Int → Int → Prop} {r : List Int} {μ ν : am_M} (h : TOP b c B W n d k l x Wn T r μ ν) : BI b B k μ ν := h.2.2.2.2.2.2.2.1
theorem TOP.li {b c B W n d k l x : Int} {Wn : Int → Int} {T : Int → Int → Prop} {r : List Int} {μ ν : am_M} (h : TOP b c B W n d k l x Wn T r μ ν) : LI b B k l W Wn r μ ν := h.2.2.2.2.2.2.2.2.1
theorem TOP.tt {b c B W n d k l x : Int} {Wn : Int → Int} {T : Int → Int → Prop} {r : List Int} {μ ν : am_M} (h : TOP b c B W n d k l x Wn T r μ ν) : ∀ t, 0 ≤ t → t < 10 → (tb x t = true ↔ T l t) := h.2.2.2.2.2.2.2.2.2.1
theorem TOP.rT {b c B W n d k l x : Int} {Wn : Int → Int} {T : Int → Int → Prop} {r : List Int} {μ ν : am_M} (h : TOP b c B W n d k l x Wn T r μ ν) : ∀ s ∈ r, T l s := h.2.2.2.2.2.2.2.2.2.2.1
theorem TOP.sx {b c B W n d k l x : Int} {Wn : Int → Int} {T : Int → Int → Prop} {r : List Int} {μ ν : am_M} (h : TOP b c B W n d k l x Wn T r μ ν) : S10 x := h.2.2.2.2.2.2.2.2.2.2.2.1
theorem TOP.fl {b c B W n d k l x : Int} {Wn : Int → Int} {T : Int → Int → Prop} {r : List Int} {μ ν : am_M} (h : TOP b c B W n d k l x Wn T r μ ν) : l < ν 1017 k + ν 1018 k - 1 → (ν 1002 l ≤ 4 → ∀ t, 0 ≤ t → t < 10 → (T (l + 1) t ↔ (T l t ∧ t ∉ r) ∨ t = ν 1003 l ∨ t = ν 1004 l)) ∧ (ν 1002 l = 5 → l < ν 1008 l ∧ ν 1008 l < ν 1017 k + ν 1018 k - 1 ∧ ∀ t, 0 ≤ t → t < 10 → (T (l + 1) t ↔ T l t ∧ t ∉ r) ∧ (T (ν 1008 l + 1) t ↔ T l t ∧ t ∉ r)) ∧ (ν 1002 l = 6 → l < ν 1009 l ∧ ν 1009 l < ν 1017 k + ν 1018 k - 1 ∧ S10 (μ (b + 8) l) ∧ ∀ t, 0 ≤ t → t < 10 → (T (ν 1009 l + 1) t ↔ T l t ∧ tb (μ (b + 8) l) t = false) ∧ (T (ν 1009 l + 1) t ↔ tb (ν 1042 (ν 1009 l)) t = true)) ∧ (ν 1002 l = 7 → S10 (μ (b + 8) l) ∧ S10 (ν 1042 l) ∧ ∀ t, 0 ≤ t → t < 10 → (T (l + 1) t ↔ T l t ∧ tb (μ (b + 8) l) t = false) ∧ (T (l + 1) t ↔ tb (ν 1042 l) t = true)) := h.2.2.2.2.2.2.2.2.2.2.2.2
theorem TOP.mk {b c B W n d k l x : Int} {Wn : Int → Int} {T : Int → Int → Prop} {r : List Int} {μ ν : am_M} (mr : MR b c B W n d 1 Wn μ ν) (ek : ν 1043 (d - 1) = k) (el : ν 1044 (d - 1) = l) (ex : ν 1045 (d - 1) = x) (d1 : 1 ≤ d) (tw : TBW b k T μ ν) (sk : μ (b + 22) k ≠ 0) (bi : BI b B k μ ν) (li : LI b B k l W Wn r μ ν) (tt : ∀ t, 0 ≤ t → t < 10 → (tb x t = true ↔ T l t)) (rT : ∀ s ∈ r, T l s) (sx : S10 x) (fl : l < ν 1017 k + ν 1018 k - 1 → (ν 1002 l ≤ 4 → ∀ t, 0 ≤ t → t < 10 → (T (l + 1) t ↔ (T l t ∧ t ∉ r) ∨ t = ν 1003 l ∨ t = ν 1004 l)) ∧ (ν 1002 l = 5 → l < ν 1008 l ∧ ν 1008 l < ν 1017 k + ν 1018 k - 1 ∧ ∀ t, 0 ≤ t → t < 10 → (T (l + 1) t ↔ T l t ∧ t ∉ r) ∧ (T (ν 1008 l + 1) t ↔ T l t ∧ t ∉ r)) ∧ (ν 1002 l = 6 → l < ν 1009 l ∧ ν 1009 l < ν 1017 k + ν 1018 k - 1 ∧ S10 (μ (b + 8) l) ∧ ∀ t, 0 ≤ t → t < 10 → (T (ν 1009 l + 1) t ↔ T l t ∧ tb (μ (b + 8) l) t = false) ∧ (T (ν 1009 l + 1) t ↔ tb (ν 1042 (ν 1009 l)) t = true)) ∧ (ν 1002 l = 7 → S10 (μ (b + 8) l) ∧ S10 (ν 1042 l) ∧ ∀ t, 0 ≤ t → t < 10 → (T (l + 1) t ↔ T l t ∧ tb (μ (b + 8) l) t = false) ∧ (T (l + 1) t ↔ tb (ν 1042 l) t = true))) : TOP b c B W n d k l x Wn T r μ ν := ⟨mr, ek, el, ex, d1, tw, sk, bi, li, tt, rT, sx, fl⟩
theorem TOP_of {b c B W n d : Int} {Wn : Int → Int} {μ ν : am_M} (h : MR b c B W n d 1 Wn μ ν) : ∃ k l x T r, TOP b c B W n d k l x Wn T r μ ν := by
  have hd := h.s1 rfl
  obtain ⟨a1, ⟨a2, a3⟩, a4, T, b1, b2, b3, b4, b5⟩ := h.fb (f := d - 1) (by omega) (by omega)
  rcases b5 with ⟨-, b5⟩ | ⟨b5, -⟩
  · obtain ⟨c1, c2, r0, c3, c4⟩ := b1
    have bi := BI_of h.cd.tb b2
    have hfn := bi.fn
    have htt := bi.tt
    by_cases z : ν 1044 (d - 1) < ν 1017 (ν 1043 (d - 1)) + ν 1018 (ν 1043 (d - 1)) - 1
    · obtain ⟨r, e1, e2, e3⟩ := c2 _ (by omega) z
      exact ⟨_, _, _, T, r, (TOP.mk (mr := h) (ek := rfl) (el := rfl) (ex := rfl) (d1 := hd) (tw := ⟨c1, c2, r0, c3, c4⟩) (sk := b3) (bi := bi) (li := LI_of h.cd.tb b2 b4 e1) (tt := b5) (rT := e2) (sx := a3) (fl := fun _ => e3))⟩
    · have e : ν 1044 (d - 1) = ν 1017 (ν 1043 (d - 1)) + ν 1018 (ν 1043 (d - 1)) - 1 := by omega
      rw [← e] at c3 c4
      exact ⟨_, _, _, T, r0, (TOP.mk (mr := h) (ek := rfl) (el := rfl) (ex := rfl) (d1 := hd) (tw := ⟨c1, c2, r0, by rw [← e]; exact c3, by rw [← e]; exact c4⟩) (sk := b3) (bi := bi) (li := LI_of h.cd.tb b2 b4 c3) (tt := b5) (rT := c4) (sx := a3) (fl := fun y => absurd y z))⟩
  · omega
/-- the class's slips are laid -/
theorem mlay_s {c d s v x : Int} {μ : am_M} (hc : mOk c) (hd : 1 ≤ d ∧ d ≤ 16) (h5 : μ c 5 = d) (hx : μ (c + 2) (d - 1) = x) (hs : 0 ≤ s ∧ s < 10) : ∃ μ', Mc_lay c s v μ = some (0, μ') ∧ μ' (c + 2) (d - 1) = aOr x (aShl 1 s) ∧ μ' (c + 3) (10 * (d - 1) + s) = v ∧ (∀ y i, ¬ (y = c + 2 ∧ i = d - 1) → ¬ (y = c + 3 ∧ i = 10 * (d - 1) + s) → μ' y i = μ y i) := by
  have e10 : (d - 1) * 10 = 10 * (d - 1) := by omega
  refine ⟨m_st (m_st μ (c + 2) (d - 1) (aOr x (aShl 1 s))) (c + 3) (10 * (d - 1) + s) v, ?_, by rw [m_st_c (by omega), m_st_d, if_pos ⟨rfl, rfl⟩], by rw [m_st_d, if_pos ⟨rfl, rfl⟩], fun y i p q => by rw [m_st_d, if_neg q, m_st_d, if_neg p]⟩
  unfold Mc_lay
  rw [if_neg (by omega), q_gd_s (mO3 hc), h5, w32_i (x := d - 1) (by omega) (by omega), mat2 hc, if_pos (by omega), q_bd_s, hx, mput2 hc, if_pos (by omega), q_bd_s, w32_i (x := (d - 1) * 10) (by omega) (by omega), e10, w32_i (x := 10 * (d - 1) + s) (by omega) (by omega), mput3 hc, if_pos (by omega), q_bd_s]
theorem mlay_n {c v : Int} {μ : am_M} : Mc_lay c (-1) v μ = some (0, μ) := by
  unfold Mc_lay
  rw [if_pos rfl]
