/-! CHECK: the lines of a bill, one after another; what lies on the table ahead of each. -/
theorem FC.tr {b a z : Int} {μ μ1 μ2 : am_M} (h : FC b a z μ μ1) (h2 : FC b a z μ1 μ2) : FC b a z μ μ2 := fun c i w => by rw [h2 c i w, h c i w]
theorem FC.up {b a z a' z' : Int} {μ μ1 : am_M} (h : FC b a z μ μ1) (ha : a' ≤ a) (hz : z ≤ z') : FC b a' z' μ μ1 := fun c i w => h c i (by omega)
theorem FR.tr {k a z : Int} {μ μ1 μ2 : am_M} (h : FR k a z μ μ1) (h2 : FR k a z μ1 μ2) : FR k a z μ μ2 := fun c i w => by rw [h2 c i w, h c i w]
theorem FR.up {k a z a' z' : Int} {μ μ1 : am_M} (h : FR k a z μ μ1) (ha : a' ≤ a) (hz : z ≤ z') : FR k a' z' μ μ1 := fun c i w => h c i (by omega)
theorem SP.lo {D D' : Int} {μ μ1 : am_M} (h : SP D μ μ1) (hd : D' ≤ D) : SP D' μ μ1 := fun c i p q w => h c i p q (by omega)
theorem SP.tr {D : Int} {μ μ1 μ2 : am_M} (h : SP D μ μ1) (h2 : SP D μ1 μ2) : SP D μ μ2 := fun c i p q w => by rw [h2 c i p q w, h c i p q w]
theorem SR.lo {D D' : Int} {μ μ1 : am_M} (h : SR D μ μ1) (hd : D' ≤ D) : SR D' μ μ1 := fun c i p w => h c i p (by omega)
theorem SR.tr {D : Int} {μ μ1 μ2 : am_M} (h : SR D μ μ1) (h2 : SR D μ1 μ2) : SR D μ μ2 := fun c i p w => by rw [h2 c i p w, h c i p w]
theorem RL.cg {b l : Int} {r : List Int} {μ ν μ' ν' : am_M} (h : RL b l r μ ν) (f : ∀ c, b + 1 ≤ c → c ≤ b + 11 → c ≠ b + 8 → μ' c = μ c) (g : ∀ c, 1001 ≤ c → c ≤ 1020 → ν' c = ν c) : RL b l r μ' ν' := by
  refine (RL.mk (cl := ?_) (re := ?_) (sl := h.sl))
  · rw [f (b + 9) (by omega) (by omega) (by omega), f (b + 10) (by omega) (by omega) (by omega), f (b + 11) (by omega) (by omega) (by omega)]
    exact h.cl
  · rw [g 1002 (by decide) (by decide), g 1007 (by decide) (by decide), g 1010 (by decide) (by decide), g 1011 (by decide) (by decide), g 1012 (by decide) (by decide)]
    exact h.re
theorem CKC.cg {b l : Int} {r : List Int} {μ ν μ' ν' : am_M} (h : CKC b l r μ ν) (f : ∀ c, b + 1 ≤ c → c ≤ b + 11 → c ≠ b + 8 → μ' c = μ c) (g : ∀ c, 1001 ≤ c → c ≤ 1020 → ν' c = ν c) : CKC b l r μ' ν' := by
  have e2 := g 1002 (by decide) (by decide)
  have e3 := g 1003 (by decide) (by decide)
  have e4 := g 1004 (by decide) (by decide)
  refine (CKC.mk (l0 := h.l0) (rl := h.rl.cg f g) (kd := ?_) (la := ?_) (be := ?_) (on := ?_) (n0 := ?_) (n5 := ?_))
  · rw [e2, f (b + 2) (by omega) (by omega) (by omega)]; exact h.kd
  · rw [e3, f (b + 3) (by omega) (by omega) (by omega)]; exact h.la
  · rw [e4, f (b + 4) (by omega) (by omega) (by omega)]; exact h.be
  · rw [g 1005 (by decide) (by decide), f (b + 5) (by omega) (by omega) (by omega)]; exact h.on
  · rw [e2, e3, e4]; exact h.n0
  · rw [e2, e3, e4]; exact h.n5
theorem FC.fn {b a z : Int} {μ μ' : am_M} (hb : bOk b) (h : FC b a z μ μ') : ∀ c, b + 1 ≤ c → c ≤ b + 11 → c ≠ b + 8 → μ' c = μ c := fun c p q w => funext fun i => h c i (by have hb' : b = 100 ∨ b = 200 := hb; omega)
theorem FR.fn {k a z : Int} {ν ν' : am_M} (h : FR k a z ν ν') : ∀ c, 1001 ≤ c → c ≤ 1020 → ν' c = ν c := fun c p q => funext fun i => h c i (by omega)
def FCR (b k a z : Int) (μ μ' : am_M) : Prop := ∀ c i, ¬ ((c = 30 ∧ 5 ≤ i ∧ i ≤ 9) ∨ (31 ≤ c ∧ c ≤ 35) ∨ (c = b + 8 ∧ a ≤ i ∧ i < z) ∨ (b + 19 ≤ c ∧ c ≤ b + 21 ∧ i = k)) → μ' c i = μ c i
/-- both find the same fault -/
def FLT (b k F E : Int) (y1 y2 : am_O) (μ ν : am_M) : Prop := ∃ μ' ν' w ln s, y1 = some (0, μ') ∧ y2 = some (0, ν') ∧ 0 < w ∧ F ≤ ln ∧ ln < E ∧ μ' (b + 19) k = w ∧ μ' (b + 20) k = ln ∧ μ' (b + 21) k = s ∧ FND k w ln s ν' ∧ FCR b k F E μ μ' ∧ FR k F E ν ν'
theorem FLT.of {b k F E : Int} {y1 y2 x1 x2 : am_O} {μ ν μ1 ν1 : am_M} (h : FLT b k F E y1 y2 μ1 ν1) (e1 : x1 = y1) (e2 : x2 = y2) (f : FC b F E μ μ1) (g : FR k F E ν ν1) : FLT b k F E x1 x2 μ ν := by
  obtain ⟨μ', ν', w, ln, s, a1, a2, a3, a4, a5, a6, a7, a8, a9, a10, a11⟩ := h
  exact ⟨μ', ν', w, ln, s, by rw [e1, a1], by rw [e2, a2], a3, a4, a5, a6, a7, a8, a9, fun c i z => by rw [a10 c i z, f c i (by omega)], g.tr a11⟩
theorem ckb_88 {b k l w s : Int} {μ : am_M} (hb : bOk b) (hk : 0 ≤ k ∧ k < 4) (h8 : μ 30 8 = w) (h9 : μ 30 9 = s) : ∃ μ', Ck_checkBill_B88 b k l μ = some (0, μ') ∧ μ' (b + 19) k = w ∧ μ' (b + 20) k = l ∧ μ' (b + 21) k = s ∧ (∀ c i, ¬ (b + 19 ≤ c ∧ c ≤ b + 21 ∧ i = k) → μ' c i = μ c i) := by
  have hb' : b = 100 ∨ b = 200 := hb
  refine ⟨m_st (m_st (m_st μ (b + 19) k w) (b + 20) k l) (b + 21) k s, ?_, ?_, ?_, ?_, fun c i z => by rw [m_st_d, if_neg (by omega), m_st_d, if_neg (by omega), m_st_d, if_neg (by omega)]⟩
  · unfold Ck_checkBill_B88
    have e : m_st (m_st μ (b + 19) k w) (b + 20) k l 30 9 = s := by rw [m_st_c (by omega), m_st_c (by omega)]; exact h9
    rw [q_gd_s (bO0 hb), bput19 hb, if_pos hk, q_bd_s, bput20 hb, if_pos hk, q_bd_s, bput21 hb, if_pos hk, h8, e, q_bd_s]
  · rw [m_st_c (by omega), m_st_c (by omega), m_st_d, if_pos ⟨rfl, rfl⟩]
  · rw [m_st_c (by omega), m_st_d, if_pos ⟨rfl, rfl⟩]
  · rw [m_st_d, if_pos ⟨rfl, rfl⟩]
theorem last_s {k E : Int} {ν : am_M} (hk : 0 ≤ k ∧ k < 4) (hE : ν 1017 k + ν 1018 k = E) (h0 : 0 ≤ E ∧ E ≤ 60) : M_lastLine k ν = some (E - 1, ν) := by
  unfold M_lastLine
  rw [q_ld_s (by omega) (by omega), q_ld_s (by omega) (by omega), hE, w32_i (x := E) (by omega) (by omega), w32_i (x := E - 1) (by omega) (by omega)]
/-- a good line -/
theorem st_ok {b k E l d : Int} {f g : Nat} {μ ν μ' ν' : am_M} (hb : bOk b) (hk : 0 ≤ k ∧ k < 4) (h0 : 0 ≤ E ∧ E ≤ 60) (hE : ν 1017 k + ν 1018 k = E) (hl : 0 ≤ l ∧ l < E) (c8 : μ 30 8 = 0) (h1 : Ck_checkLine (b + 1) l μ = some (0, μ')) (h2 : M_goesBy k l d ν = some (1, ν')) (c9 : μ' 30 8 = 0) (kd : ν' 1002 l = ν 1002 l) (hf : E - l + 2 ≤ f) (hg : E - l + 2 ≤ g) (hd : 0 ≤ d ∧ d ≤ 3) : ∃ f' g' : Nat, E - (l + 1) + 2 ≤ f' ∧ E - (l + 1) + 2 ≤ g' ∧ Ck_checkBill_L44 f b k (-1) E l μ = Ck_checkBill_L44 f' b k (-1) E (l + 1) μ' ∧ M_checks_L39 g k d l ν = M_checks_L39 g' k (if ν 1002 l = 5 then d + 1 else if ν 1002 l = 7 then d - 1 else d) (l + 1) ν' := by
  cases f with
  | zero => omega
  | succ f =>
    cases g with
    | zero => omega
    | succ g =>
      refine ⟨f, g, by omega, by omega, ?_, ?_⟩
      · show Ck_checkBill_L44_b (Ck_checkBill_L44 f) b k (-1) E l μ = _
        unfold Ck_checkBill_L44_b Ck_checkBill_B81
        rw [if_pos hl.2, if_pos c8, q_gd_s (bO0 hb), h1, q_bd_s, if_pos c9, w32_i (x := l + 1) (by omega) (by omega)]
      · show M_checks_L39_b (M_checks_L39 g) k d l ν = _
        unfold M_checks_L39_b M_checks_B90
        rw [last_s hk hE h0, q_bd_s, if_pos (show l ≤ E - 1 by omega), h2, q_bd_s, if_neg (show ¬ (1 : Int) = 0 by decide), q_ld_s (by omega) (by omega), kd, q_ld_s (by omega) (by omega), kd, w32_i (x := d + 1) (by omega) (by omega), w32_i (x := l + 1) (by omega) (by omega), w32_i (x := d + -1) (by omega) (by omega), w32_i (x := d + 0) (by omega) (by omega)]
        have e0 : d + 0 = d := by omega
        have e1 : d + -1 = d - 1 := by omega
        rw [e0, e1]
        split
        · rfl
        · split
          · rfl
          · rfl
/-- a line with a fault -/
theorem st_no {b k F E l d : Int} {f g : Nat} {μ ν : am_M} (hb : bOk b) (hk : 0 ≤ k ∧ k < 4) (h0 : 0 ≤ E ∧ E ≤ 60) (hE : ν 1017 k + ν 1018 k = E) (hF : 0 ≤ F ∧ F ≤ l) (hl : l < E) (c8 : μ 30 8 = 0) (h : CFT b k l d F E μ ν) (hf : E - l + 2 ≤ f) (hg : E - l + 2 ≤ g) : FLT b k F E (Ck_checkBill_L44 f b k (-1) E l μ) (M_checks_L39 g k d l ν) μ ν := by
  have hb' : b = 100 ∨ b = 200 := hb
  obtain ⟨μ', ν', w, s, h1, h2, h3, h4, h5, h6, h7, h8⟩ := h
  obtain ⟨μ2, a1, a2, a3, a4, a5⟩ := ckb_88 (l := l) hb hk h3 h5
  match f, g, hf, hg with
  | 0, _, p, _ => omega
  | 1, _, p, _ => omega
  | _, 0, _, p => omega
  | f + 2, g + 1, _, _ =>
    refine ⟨μ2, ν', w, l, s, ?_, ?_, h4, hF.2, hl, a2, a3, a4, h6, fun c i z => by rw [a5 c i (by omega), h7 c i (by omega)], h8⟩
    · show Ck_checkBill_L44_b (Ck_checkBill_L44 (f + 1)) b k (-1) E l μ = _
      unfold Ck_checkBill_L44_b Ck_checkBill_B81
      rw [if_pos hl, if_pos c8, q_gd_s (bO0 hb), h1, q_bd_s, if_neg (by omega)]
      show Ck_checkBill_L44_b (Ck_checkBill_L44 f) b k l E (w32 (l + 1)) μ' = _
      unfold Ck_checkBill_L44_b
      rw [if_neg (show ¬ μ' 30 8 = 0 by omega), a1]
      split
      · rfl
      · rfl
    · show M_checks_L39_b (M_checks_L39 g) k d l ν = _
      unfold M_checks_L39_b
      rw [last_s hk hE h0, q_bd_s, if_pos (show l ≤ E - 1 by omega), h2, q_bd_s, if_pos rfl]
theorem CFT.up {b k l d a z a' z' : Int} {μ ν : am_M} (h : CFT b k l d a z μ ν) (ha : a' ≤ a) (hz : z ≤ z') : CFT b k l d a' z' μ ν := by
  obtain ⟨μ', ν', w, s, h1, h2, h3, h4, h5, h6, h7, h8⟩ := h
  exact ⟨μ', ν', w, s, h1, h2, h3, h4, h5, h6, h7.up ha hz, h8.up ha hz⟩
/-- both go from line a to line z -/
def GO (b k E A Z a z : Int) (f g f' g' : Nat) (d d' D : Int) (μ ν μ' ν' : am_M) : Prop := (Ck_checkBill_L44 f b k (-1) E a μ = Ck_checkBill_L44 f' b k (-1) E z μ') ∧ (M_checks_L39 g k d a ν = M_checks_L39 g' k d' z ν') ∧ (E - z + 2 ≤ f') ∧ (E - z + 2 ≤ g') ∧ (FC b A Z μ μ') ∧ (FR k A Z ν ν') ∧ (FR 4 A Z ν ν') ∧ (SP D μ μ') ∧ (SR D ν ν')
theorem GO.e1 {b k E A Z a z : Int} {f g f' g' : Nat} {d d' D : Int} {μ ν μ' ν' : am_M} (h : GO b k E A Z a z f g f' g' d d' D μ ν μ' ν') : Ck_checkBill_L44 f b k (-1) E a μ = Ck_checkBill_L44 f' b k (-1) E z μ' := h.1
theorem GO.e2 {b k E A Z a z : Int} {f g f' g' : Nat} {d d' D : Int} {μ ν μ' ν' : am_M} (h : GO b k E A Z a z f g f' g' d d' D μ ν μ' ν') : M_checks_L39 g k d a ν = M_checks_L39 g' k d' z ν' := h.2.1
theorem GO.f1 {b k E A Z a z : Int} {f g f' g' : Nat} {d d' D : Int} {μ ν μ' ν' : am_M} (h : GO b k E A Z a z f g f' g' d d' D μ ν μ' ν') : E - z + 2 ≤ f' := h.2.2.1
theorem GO.f2 {b k E A Z a z : Int} {f g f' g' : Nat} {d d' D : Int} {μ ν μ' ν' : am_M} (h : GO b k E A Z a z f g f' g' d d' D μ ν μ' ν') : E - z + 2 ≤ g' := h.2.2.2.1
theorem GO.fc {b k E A Z a z : Int} {f g f' g' : Nat} {d d' D : Int} {μ ν μ' ν' : am_M} (h : GO b k E A Z a z f g f' g' d d' D μ ν μ' ν') : FC b A Z μ μ' := h.2.2.2.2.1
theorem GO.fr {b k E A Z a z : Int} {f g f' g' : Nat} {d d' D : Int} {μ ν μ' ν' : am_M} (h : GO b k E A Z a z f g f' g' d d' D μ ν μ' ν') : FR k A Z ν ν' := h.2.2.2.2.2.1
theorem GO.f4 {b k E A Z a z : Int} {f g f' g' : Nat} {d d' D : Int} {μ ν μ' ν' : am_M} (h : GO b k E A Z a z f g f' g' d d' D μ ν μ' ν') : FR 4 A Z ν ν' := h.2.2.2.2.2.2.1
theorem GO.sp {b k E A Z a z : Int} {f g f' g' : Nat} {d d' D : Int} {μ ν μ' ν' : am_M} (h : GO b k E A Z a z f g f' g' d d' D μ ν μ' ν') : SP D μ μ' := h.2.2.2.2.2.2.2.1
theorem GO.sr {b k E A Z a z : Int} {f g f' g' : Nat} {d d' D : Int} {μ ν μ' ν' : am_M} (h : GO b k E A Z a z f g f' g' d d' D μ ν μ' ν') : SR D ν ν' := h.2.2.2.2.2.2.2.2
theorem GO.mk {b k E A Z a z : Int} {f g f' g' : Nat} {d d' D : Int} {μ ν μ' ν' : am_M} (e1 : Ck_checkBill_L44 f b k (-1) E a μ = Ck_checkBill_L44 f' b k (-1) E z μ') (e2 : M_checks_L39 g k d a ν = M_checks_L39 g' k d' z ν') (f1 : E - z + 2 ≤ f') (f2 : E - z + 2 ≤ g') (fc : FC b A Z μ μ') (fr : FR k A Z ν ν') (f4 : FR 4 A Z ν ν') (sp : SP D μ μ') (sr : SR D ν ν') : GO b k E A Z a z f g f' g' d d' D μ ν μ' ν' := ⟨e1, e2, f1, f2, fc, fr, f4, sp, sr⟩
theorem GO.tr {b k E A Z a m z : Int} {f g f1 g1 f2 g2 : Nat} {d d1 d2 D : Int} {μ ν μ1 ν1 μ2 ν2 : am_M} (h : GO b k E A Z a m f g f1 g1 d d1 D μ ν μ1 ν1) (h2 : GO b k E A Z m z f1 g1 f2 g2 d1 d2 D μ1 ν1 μ2 ν2) : GO b k E A Z a z f g f2 g2 d d2 D μ ν μ2 ν2 := (GO.mk (e1 := by rw [h.e1, h2.e1]) (e2 := by rw [h.e2, h2.e2]) (f1 := h2.f1) (f2 := h2.f2) (fc := h.fc.tr h2.fc) (fr := h.fr.tr h2.fr) (f4 := h.f4.tr h2.f4) (sp := h.sp.tr h2.sp) (sr := h.sr.tr h2.sr))
theorem GO.up {b k E A Z A' Z' a z : Int} {f g f' g' : Nat} {d d' D D' : Int} {μ ν μ' ν' : am_M} (h : GO b k E A Z a z f g f' g' d d' D μ ν μ' ν') (ha : A' ≤ A) (hz : Z ≤ Z') (hd : D' ≤ D) : GO b k E A' Z' a z f g f' g' d d' D' μ ν μ' ν' := (GO.mk (e1 := h.e1) (e2 := h.e2) (f1 := h.f1) (f2 := h.f2) (fc := h.fc.up ha hz) (fr := h.fr.up ha hz) (f4 := h.f4.up ha hz) (sp := h.sp.lo hd) (sr := h.sr.lo hd))
/-- what lies on the table goes from line to line so -/
def FLW (b : Int) (μ ν : am_M) (G J : Int → Int) (T : Int → Int → Prop) (z l : Int) : Prop := ∃ r, CKC b l r μ ν ∧ (∀ s ∈ r, T l s) ∧
  (ν 1002 l ≤ 4 → ∀ t, 0 ≤ t → t < 10 → (T (l + 1) t ↔ (T l t ∧ t ∉ r) ∨ t = ν 1003 l ∨ t = ν 1004 l)) ∧
  (ν 1002 l = 5 → l < ν 1008 l ∧ ν 1008 l < z ∧ ∀ t, 0 ≤ t → t < 10 → (T (l + 1) t ↔ T l t ∧ t ∉ r) ∧ (T (ν 1008 l + 1) t ↔ T l t ∧ t ∉ r)) ∧
  (ν 1002 l = 6 → l < ν 1009 l ∧ ν 1009 l < z ∧ S10 (G l) ∧ ∀ t, 0 ≤ t → t < 10 → (T (ν 1009 l + 1) t ↔ T l t ∧ tb (G l) t = false) ∧ (T (ν 1009 l + 1) t ↔ tb (J (ν 1009 l)) t = true)) ∧
  (ν 1002 l = 7 → S10 (G l) ∧ S10 (J l) ∧ ∀ t, 0 ≤ t → t < 10 → (T (l + 1) t ↔ T l t ∧ tb (G l) t = false) ∧ (T (l + 1) t ↔ tb (J l) t = true))
theorem FLW.up {b z z' l : Int} {μ ν : am_M} {G J G' J' : Int → Int} {T T' : Int → Int → Prop} (h : FLW b μ ν G J T z l) (hl : l < z) (hz : z ≤ z') (hT : ∀ x, l ≤ x → x ≤ z → T' x = T x) (hG : G' l = G l) (hJ : ∀ x, l ≤ x → x < z → J' x = J x) : FLW b μ ν G' J' T' z' l := by
  obtain ⟨r, a1, a2, a3, a4, a5, a6⟩ := h
  have t0 := hT l (Int.le_refl _) (by omega)
  have t1 := hT (l + 1) (by omega) (by omega)
  refine ⟨r, a1, by rw [t0]; exact a2, fun p => ?_, fun p => ?_, fun p => ?_, fun p => ?_⟩
  · rw [t0, t1]; exact a3 p
  · obtain ⟨b1, b2, b3⟩ := a4 p
    rw [t0, t1, hT (ν 1008 l + 1) (by omega) (by omega)]
    exact ⟨b1, by omega, b3⟩
  · obtain ⟨b1, b2, b3, b4⟩ := a5 p
    rw [t0, hG, hT (ν 1009 l + 1) (by omega) (by omega), hJ (ν 1009 l) (by omega) (by omega)]
    exact ⟨b1, by omega, b3, b4⟩
  · rw [t0, t1, hG, hJ l (Int.le_refl _) hl]
    exact a6 p
def wZ (b : Int) (μ ν : am_M) : Int → Int → Int := fun c x => if c = 0 then ν 1002 x else if c = 1 then ν 1008 x else if c = 2 then ν 1009 x else μ (b + 7) x
theorem wZ_of {b a z : Int} {dd : Nat} {μ ν : am_M} (h : BL (wP b 0 μ ν) dd a z) : BL (wZ b μ ν) dd a z := by
  refine h.cong (fun c x p q _ _ => ?_)
  have e0 : (0 : Int) + x = x := by omega
  unfold wP wZ
  rw [e0]
  by_cases c0 : c = 0
  · rw [if_pos c0, if_pos c0]
  rw [if_neg c0, if_neg c0]
  by_cases c1 : c = 1
  · rw [if_pos c1, if_pos c1]; omega
  rw [if_neg c1, if_neg c1]
  by_cases c2 : c = 2
  · rw [if_pos c2, if_pos c2]; omega
  rw [if_neg c2, if_neg c2, if_pos (show c = 3 by omega)]
