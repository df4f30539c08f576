/-! What is told stays told, whatever the reference reads beside it. -/
def LoS (ν ν' : am_M) : Prop := ∀ c i, Lo c i → ν' c i = ν c i
def TH (ν ν' : am_M) : Prop := LoS ν ν' ∧ ∀ c, 1039 ≤ c → c ≤ 1042 → ν' c = ν c
theorem TG.th {ν ν' : am_M} (g : TG ν ν') : TH ν ν' := ⟨fun c i z => by unfold Lo at z; rw [g c (by omega)], fun c p q => g c (Or.inr ⟨p, q⟩)⟩
theorem LoS.ln {ν ν' : am_M} (g : LoS ν ν') {c l : Int} (hc : (1002 ≤ c ∧ c ≤ 1006) ∨ (1008 ≤ c ∧ c ≤ 1011)) (hl : l < 60) : ν' c l = ν c l := g c l (by unfold Lo; omega)
theorem LoS.bl {ν ν' : am_M} (g : LoS ν ν') {c k : Int} (hc : 1017 ≤ c ∧ c ≤ 1020) (hk : k < 4) : ν' c k = ν c k := g c k (by unfold Lo; omega)
theorem RL.lo {b l : Int} {r : List Int} {μ ν ν' : am_M} (h : RL b l r μ ν) (hl : 0 ≤ l ∧ l < 60) (g : LoS ν ν') : RL b l r μ ν' := by
  have e7 : ∀ i, i < 4 → ν' 1007 (4 * l + i) = ν 1007 (4 * l + i) := fun i p => g _ _ (by unfold Lo; omega)
  refine (RL.mk (cl := h.cl) (re := ?_) (sl := h.sl))
  rw [g.ln (c := 1002) (by omega) hl.2, g.ln (c := 1010) (by omega) hl.2, g.ln (c := 1011) (by omega) hl.2]
  rcases h.re with ⟨a1, ⟨L, a2, a3, a4, a5, a6, a7⟩, a8⟩ | ⟨a1, a2, a3, a4, a5, a6, a7⟩
  · exact Or.inl ⟨a1, ⟨L, fsg_c L _ (fun i p q => g _ _ (by unfold Lo; omega)) a2, a3, a4, a5, a6, a7⟩, fun i p q => by rw [e7 i q]; exact a8 i p q⟩
  · exact Or.inr ⟨a1, a2, a3, a4, a5, fun i p => by rw [e7 i (by omega)]; exact a6 i p, fun i p q => by rw [e7 i q]; exact a7 i p q⟩
theorem CKC.lo {b l : Int} {r : List Int} {μ ν ν' : am_M} (h : CKC b l r μ ν) (g : LoS ν ν') : CKC b l r μ ν' := by
  have l0 := h.l0
  have e2 := g.ln (c := 1002) (by omega) l0.2
  have e3 := g.ln (c := 1003) (by omega) l0.2
  have e4 := g.ln (c := 1004) (by omega) l0.2
  have e5 := g.ln (c := 1005) (by omega) l0.2
  exact (CKC.mk (l0 := h.l0) (rl := h.rl.lo l0 g) (kd := by rw [e2]; exact h.kd) (la := by rw [e3]; exact h.la) (be := by rw [e4]; exact h.be) (on := by rw [e5]; exact h.on) (n0 := by rw [e2, e3, e4]; exact h.n0) (n5 := by rw [e2, e3, e4]; exact h.n5))
theorem FLW.lo {b z l : Int} {μ ν ν' : am_M} {G J : Int → Int} {T : Int → Int → Prop} (h : FLW b μ ν G J T z l) (g : LoS ν ν') : FLW b μ ν' G J T z l := by
  obtain ⟨r, a1, a2, a3, a4, a5, a6⟩ := h
  have l0 := a1.l0
  unfold FLW
  rw [g.ln (c := 1002) (by omega) l0.2, g.ln (c := 1003) (by omega) l0.2, g.ln (c := 1004) (by omega) l0.2, g.ln (c := 1008) (by omega) l0.2, g.ln (c := 1009) (by omega) l0.2]
  exact ⟨r, a1.lo g, a2, a3, a4, a5, a6⟩
theorem TBL.lo {b k : Int} {μ ν ν' : am_M} (h : TBL b k μ ν) (hk : k < 4) (g : TH ν ν') : TBL b k μ ν' := by
  obtain ⟨T, a1, a2, r, a3, a4⟩ := h
  unfold TBL
  rw [g.1.bl (c := 1017) (by omega) hk, g.1.bl (c := 1018) (by omega) hk, g.2 1042 (by omega) (by omega)]
  exact ⟨T, a1, fun l p q => (a2 l p q).lo g.1, r, a3.lo g.1, a4⟩
theorem TBW.lo {b k : Int} {T : Int → Int → Prop} {μ ν ν' : am_M} (h : TBW b k T μ ν) (hk : k < 4) (g : TH ν ν') : TBW b k T μ ν' := by
  obtain ⟨a1, a2, r, a3, a4⟩ := h
  unfold TBW
  rw [g.1.bl (c := 1017) (by omega) hk, g.1.bl (c := 1018) (by omega) hk, g.2 1042 (by omega) (by omega)]
  exact ⟨a1, fun l p q => (a2 l p q).lo g.1, r, a3.lo g.1, a4⟩
theorem FO.lo {b B k l tab : Int} {w : Prop} {μ ν ν' : am_M} (h : FO b B k l tab w μ ν) (hB : B ≤ 4) (g : TH ν ν') : FO b B k l tab w μ ν' := by
  obtain ⟨T, a1, a2, a3, a4, a5⟩ := h
  unfold FO
  rw [g.1.bl (c := 1017) (by omega) (by omega), g.1.bl (c := 1018) (by omega) (by omega), g.1.bl (c := 1019) (by omega) (by omega)]
  refine ⟨T, a1.lo (by omega) g, a2, a3, a4, ?_⟩
  rcases a5 with x | ⟨x1, x2, x3, r, x4, x5⟩
  · exact Or.inl x
  · exact Or.inr ⟨x1, x2, by rw [g.1.ln (c := 1002) (by omega) x4.l0.2]; exact x3, r, x4.lo g.1, x5⟩
theorem BC.lo {b k : Int} {μ ν ν' : am_M} (h : BC b k μ ν) (hk : k < 4) (g : TH ν ν') : BC b k μ ν' := by
  obtain ⟨x, ln, s, a1, a2, a3, ⟨a4, a5, a6⟩, a7, a8, a9⟩ := h
  unfold BC FND
  rw [g.1.bl (c := 1017) (by omega) hk, g.1.bl (c := 1018) (by omega) hk, g.2 1039 (by omega) (by omega), g.2 1040 (by omega) (by omega), g.2 1041 (by omega) (by omega)]
  exact ⟨x, ln, s, a1, a2, a3, ⟨a4, a5, a6⟩, a7, a8, fun z => ⟨(a9 z).1, (a9 z).2.1, (a9 z).2.2.lo hk g⟩⟩
theorem CD.lo {b B W n : Int} {Wn : Int → Int} {μ ν ν' : am_M} (h : CD b B W n B Wn μ ν) (g : TH ν ν') : CD b B W n B Wn μ ν' := by
  have hB := h.tb.cB
  have hs := HS.of h.tb
  have cal : ∀ v c, 0 ≤ v → v < B → (Cal ν' v c ↔ Cal ν v c) := fun v c p q => by
    have rw1 := hs.rw v p q
    unfold Cal
    rw [g.1.bl (c := 1017) (by omega) (by omega), g.1.bl (c := 1018) (by omega) (by omega)]
    constructor
    · rintro ⟨l, l0, l1, l2, l3⟩
      exact ⟨l, l0, l1, by rw [← g.1.ln (c := 1006) (by omega) (by omega)]; exact l2, l3⟩
    · rintro ⟨l, l0, l1, l2, l3⟩
      exact ⟨l, l0, l1, by rw [g.1.ln (c := 1006) (by omega) (by omega)]; exact l2, l3⟩
  refine (CD.mk (tb := h.tb.cong (fun _ _ _ _ _ => rfl) g.1) (ck := fun k p q => (h.ck k p q).lo (by omega) g) (sd := h.sd) (sr := fun k p q => ?_))
  have s := h.sr k p q
  unfold Wr at s ⊢
  rw [g.2 1039 (by omega) (by omega), s]
  exact ⟨fun z => ⟨z.1, fun c y => z.2 c ((cal k c p q).mp y)⟩, fun z => ⟨z.1, fun c y => z.2 c ((cal k c p q).mpr y)⟩⟩
theorem MR.lo {b c B W n d st : Int} {Wn : Int → Int} {μ ν ν' : am_M} (h : MR b c B W n d st Wn μ ν) (g : TH ν ν') (b1 : ∀ i, (55 ≤ i ∧ i ≤ 58) ∨ (63 ≤ i ∧ i ≤ 67) → ν' 1000 i = ν 1000 i) (b2 : ∀ x i, 1043 ≤ x → x ≤ 1046 → ν' x i = ν x i) : MR b c B W n d st Wn μ ν' := by
  have hB := h.cd.tb.cB
  have e43 : ν' 1043 = ν 1043 := funext fun i => b2 1043 i (by decide) (by decide)
  have e44 : ν' 1044 = ν 1044 := funext fun i => b2 1044 i (by decide) (by decide)
  have e45 : ν' 1045 = ν 1045 := funext fun i => b2 1045 i (by decide) (by decide)
  have e46 : ν' 1046 = ν 1046 := funext fun i => b2 1046 i (by decide) (by decide)
  exact (MR.mk (cd := h.cd.lo g) (mc := h.mc) (dd := h.dd) (c5 := h.c5) (r5 := by rw [b1 58 (by decide)]; exact h.r5) (c6 := h.c6) (r6 := by rw [b1 57 (by decide)]; exact h.r6) (s4 := h.s4) (rm := by rw [b1 55 (by decide)]; exact h.rm) (pr := by rw [b1 56 (by decide)]; exact h.pr) (cn := by rw [b1 63 (by decide), b1 64 (by decide), b1 65 (by decide), b1 66 (by decide)]; exact h.cn) (cz := h.cz) (gf := by rw [b1 67 (by decide)]; exact h.gf) (nl := by rw [e44]; exact h.nl) (ft := (FT.mk (d0 := h.ft.d0) (tb := by rw [e45]; exact h.ft.tb))) (vl := by rw [e45, e46]; exact h.vl) (fr := fun f p q => by rw [e43, e44, e45]; exact (h.fr f p q).lo hB.2.2.2 g) (s1 := h.s1) (bu := h.bu))
theorem MKS.lo {b B W n : Int} {Wn : Int → Int} {μ ν ν' : am_M} (h : MKS b B W n Wn μ ν) (g : TH ν ν') (c : ∀ x i, x = 1062 ∨ x = 1063 → ν' x i = ν x i) : MKS b B W n Wn μ ν' := by
  refine (MKS.mk (m70 := h.m70) (mb := h.mb) (s10 := h.s10) (bit := fun k p q => ?_))
  rw [c 1062 k (Or.inl rfl)]
  rcases h.bit k p q with ⟨y1, y2, d, st, y3⟩ | y
  · have e63 : ν' 1063 = ν 1063 := funext fun i => c 1063 i (Or.inr rfl)
    refine Or.inl ⟨y1, y2, d, st, y3.lo ⟨fun x i z => ?_, fun x p q => ?_⟩ (fun i z => ?_) (fun x i p q => ?_)⟩
    · have z' := z
      unfold Lo at z'
      rw [vw_o (by omega) (by omega), vw_o (by omega) (by omega)]
      exact g.1 x i z
    · rw [vw_o (by omega) (by omega), vw_o (by omega) (by omega)]
      exact g.2 x p q
    · unfold vw
      rw [e63]
      rcases z with z | z
      · rw [if_pos ⟨rfl, z⟩, if_pos ⟨rfl, z⟩]
      · rw [if_neg (by omega), if_pos ⟨rfl, z⟩, if_neg (by omega), if_pos ⟨rfl, z⟩]
    · unfold vw
      rw [e63]
      by_cases y : x = 1046
      · rw [if_neg (by omega), if_neg (by omega), if_neg (by omega), if_pos y, if_neg (by omega), if_neg (by omega), if_neg (by omega), if_pos y]
      · rw [if_neg (by omega), if_neg (by omega), if_pos (by omega), if_neg (by omega), if_neg (by omega), if_pos (by omega)]
  · exact Or.inr y
theorem WS.lo {F E : Int} {R : Int → List Int} {ν ν' : am_M} (hj : NJ F E ν) (hE : E ≤ 60) (g : LoS ν ν') : ∀ (n : Nat) (l : Int) (v u : Int → Int), F ≤ l → l < E → (WS R ν' n l v u ↔ WS R ν n l v u)
  | 0, _, _, _, _, _ => Iff.rfl
  | n + 1, l, v, u, h0, h1 => by
    have e2 := g.ln (c := 1002) (l := l) (by omega) (by omega)
    have e8 := g.ln (c := 1008) (l := l) (by omega) (by omega)
    have e9 := g.ln (c := 1009) (l := l) (by omega) (by omega)
    have ev : vad R ν' v l = vad R ν v l := by
      unfold vad dl
      rw [g.ln (c := 1003) (l := l) (by omega) (by omega), g.ln (c := 1004) (l := l) (by omega) (by omega)]
    have j5 := hj.j5 l h0 h1
    have j6 := hj.j6 l h0 h1
    have j8 := hj.j8 l h0 h1
    show (if ν' 1002 l = 8 then _ else if ν' 1002 l = 5 then _ else if ν' 1002 l = 6 then _ else _) ↔ (if ν 1002 l = 8 then _ else if ν 1002 l = 5 then _ else if ν 1002 l = 6 then _ else _)
    rw [e2, e8, e9, ev]
    by_cases c8 : ν 1002 l = 8
    · rw [if_pos c8, if_pos c8]
    rw [if_neg c8, if_neg c8]
    have hl : l ≠ E - 1 := fun z => c8 (j8.mpr z)
    by_cases c5 : ν 1002 l = 5
    · have := j5 c5
      rw [if_pos c5, if_pos c5, WS.lo hj hE g n (l + 1) _ u (by omega) (by omega), WS.lo hj hE g n (ν 1008 l + 1) _ u (by omega) (by omega)]
    rw [if_neg c5, if_neg c5]
    by_cases c6 : ν 1002 l = 6
    · have := j6 c6
      rw [if_pos c6, if_pos c6]
      exact WS.lo hj hE g n (ν 1009 l + 1) _ u (by omega) (by omega)
    · rw [if_neg c6, if_neg c6]
      exact WS.lo hj hE g n (l + 1) _ u (by omega) (by omega)
theorem NVal.lo {b F E f x : Int} {μ ν ν' : am_M} (h : NVal b F E μ ν f x) (nb : NB b F E μ ν) (g : LoS ν ν') : NVal b F E μ ν' f x := by
  have F0 := nb.nd.kd.F0
  have eo : onF b F E μ ν' = onF b F E μ ν := by
    funext s
    have : ON b F E μ ν' s ↔ ON b F E μ ν s := by
      unfold ON
      constructor
      · rintro ⟨y, y0, y1, y2, y3⟩
        rw [g.ln (c := 1003) (by omega) (by omega), g.ln (c := 1004) (by omega) (by omega)] at y3
        exact ⟨y, y0, y1, y2, y3⟩
      · rintro ⟨y, y0, y1, y2, y3⟩
        rw [← g.ln (c := 1003) (by omega) (by omega), ← g.ln (c := 1004) (by omega) (by omega)] at y3
        exact ⟨y, y0, y1, y2, y3⟩
    unfold onF
    by_cases c : ON b F E μ ν s
    · rw [if_pos c, if_pos (this.mpr c)]
    · rw [if_neg c, if_neg (fun z => c (this.mp z))]
  have ew : WS (RR b μ) ν' 60 F (fun _ => 0) = WS (RR b μ) ν 60 F (fun _ => 0) := by
    funext u
    exact propext (WS.lo nb.nj F0.2 g 60 F _ u (Int.le_refl _) nb.FE)
  unfold NVal at h ⊢
  rw [eo, ew]
  exact h
theorem NCH.lo {b B W n : Int} {Wn : Int → Int} {μ ν ν' : am_M} (h : NCH b B μ ν) (t : TB b B W n Wn μ ν) (g : LoS ν ν') : NCH b B μ ν' := by
  have hB := t.cB
  refine ⟨?_, h.2⟩
  rcases h.1 with z | ⟨z1, z2, z3⟩
  · exact Or.inl z
  · have nb := NB_of t ⟨z1, z2⟩
    refine Or.inr ⟨z1, z2, fun f p q => ?_⟩
    rw [g.bl (c := 1017) (by omega) (by omega), g.bl (c := 1018) (by omega) (by omega)]
    exact (z3 f p q).lo nb g
theorem OCH.lo {b B : Int} {μ ν ν' : am_M} (h : OCH b B μ ν) (hB : B ≤ 4) (g : LoS ν ν') : OCH b B μ ν' := by
  rcases h with z | ⟨z1, z2, z3⟩
  · exact Or.inl z
  · refine Or.inr ⟨z1, z2, ?_⟩
    rw [g.bl (c := 1017) (by omega) (by omega), g.bl (c := 1018) (by omega) (by omega), g.bl (c := 1019) (by omega) (by omega)]
    exact z3
