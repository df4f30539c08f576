/-! A whole line, both sides. -/
theorem endLine_0 {μ1 μ2 : am_M} (he : Rd_expect 59 μ1 = some (0, μ2)) : Rd_endLine μ1 = some (0, μ2) := by
  unfold Rd_endLine
  rw [he, q_bd_s, if_pos rfl]
theorem endLine_s {b k l B : Int} {μ1 μ2 : am_M} (hb : bOk b) (he : Rd_expect 59 μ1 = some (1, μ2)) (rl : μ2 20 5 = b + 1) (rb : μ2 20 4 = b) (reg : μ2 20 12 = l) (hl : 0 ≤ l ∧ l < 60) (kd : μ2 (b + 2) l = k) (kk : μ2 20 11 = B - 1) (hB : 1 ≤ B ∧ B ≤ 4) : (k ≠ 8 → Rd_endLine μ1 = some (0, μ2)) ∧ (k = 8 → Rd_endLine μ1 = some (0, m_st (m_st μ2 (b + 18) (B - 1) (μ2 20 6)) 20 13 0)) := by
  have e2 : b + 1 + 1 = b + 2 := by omega
  unfold Rd_endLine
  rw [he, q_bd_s, if_neg (by decide), rl, q_gd_s (bO2 hb), reg, e2, bat2 hb, if_pos hl, q_bd_s, kd]
  refine ⟨fun z => by rw [if_neg z], fun z => ?_⟩
  rw [if_pos z, rb, q_gd_s (bO0 hb), kk, bput18 hb, if_pos (by omega), q_bd_s, q_pfb_0]
theorem fin_s {b : Int} {μ ν : am_M} {P Q : am_M → am_M → Prop} {x y : am_O} {k B : Int} (h : LOG b μ ν P x y) (HQ : ∀ μ' ν', Q μ' ν' → FA b μ μ' ∧ FN ν ν') (H : ∀ μ1 μ2 ν2, Rd_expect 59 μ1 = some (1, μ2) → P μ2 ν2 → ∃ μ4 ν4, Rd_endLine μ1 = some (0, μ4) ∧ M_readsLine_B298 k (3 + B) 1 ν2 = some (1, ν4) ∧ Q μ4 ν4) : RES b μ ν Q (fun K => q_bd x fun a3 μ4 => if a3 = 0 then K μ4 else (q_bd (Rd_endLine μ4) fun a5 μ6 => K μ6)) (q_bd y fun a z => M_readsLine_B298 k (3 + B) a z) := by
  have b0 : ∀ ν1, M_readsLine_B298 k (3 + B) 0 ν1 = some (0, ν1) := fun ν1 => by unfold M_readsLine_B298; rw [if_pos rfl]
  obtain ⟨r, μ1, a1, a2⟩ := h
  rcases a2 with ⟨z, ν1, y1, y2, ya, yb⟩ | ⟨z, r2, μ2, ν2, y1, y2, y3⟩
  · subst z
    exact ⟨μ1, fun K => by show (q_bd x _) = _; rw [a1, q_bd_s, if_pos rfl], ya, ν1, yb, Or.inl ⟨by rw [y1, q_bd_s, b0], y2⟩⟩
  · subst z
    rcases y3 with ⟨z, y4, ya, yb⟩ | ⟨z, y4⟩
    · subst z
      exact ⟨μ2, fun K => by show (q_bd x _) = _; rw [a1, q_bd_s, if_neg (by decide), endLine_0 y1, q_bd_s], ya, ν2, yb, Or.inl ⟨by rw [y2, q_bd_s, b0], y4⟩⟩
    · subst z
      obtain ⟨μ4, ν4, c1, c2, c3⟩ := H μ1 μ2 ν2 y1 y4
      exact ⟨μ4, fun K => by show (q_bd x _) = _; rw [a1, q_bd_s, if_neg (by decide), c1, q_bd_s], (HQ _ _ c3).1, ν4, (HQ _ _ c3).2, Or.inr ⟨by rw [y2, q_bd_s, c2], c3⟩⟩
def BG (b B W f T D k : Int) (μ ν ν0 μ1 ν1 : am_M) : Prop := (LB b B W (ν 1013 5) (μ (b + 1) 11) k μ1 ν1) ∧ (GM b f (μ (b + 1) 11) (ν 1013 5) B μ μ1) ∧ (GN f (ν 1000 30) (ν 1013 5) B ν ν1) ∧ (ν1 1000 30 = ν 1000 30) ∧ (μ1 (b + 16) (B - 1) = ν 1013 5 + 1 - f) ∧ (∀ x, μ1 (b + 17) x = μ (b + 17) x ∧ ν1 1019 x = ν 1019 x) ∧ (μ1 20 13 = 1) ∧ (μ1 20 11 = B - 1) ∧ (μ1 20 7 = D ∧ ν1 1000 45 = D) ∧ (μ1 20 6 = μ 20 6) ∧ (ν1 1018 (3 + B) = ν 1013 5 - f) ∧ (ν1 1013 5 = ν 1013 5) ∧ (ν1 1000 44 = ν0 1000 44) ∧ (∀ x, x ≠ ν 1013 5 → μ1 (b + 7) x = μ (b + 7) x) ∧ (∀ x, μ1 22 x = μ 22 x) ∧ (∀ c x, c = 1008 ∨ c = 1009 ∨ c = 1034 ∨ c = 1035 ∨ c = 1015 ∨ (c = 1002 ∧ x ≠ 60 + ν 1013 5) → ν1 c x = ν c x)
theorem BG.lb {b B W f T D k : Int} {μ ν ν0 μ1 ν1 : am_M} (h : BG b B W f T D k μ ν ν0 μ1 ν1) : LB b B W (ν 1013 5) (μ (b + 1) 11) k μ1 ν1 := h.1
theorem BG.gm {b B W f T D k : Int} {μ ν ν0 μ1 ν1 : am_M} (h : BG b B W f T D k μ ν ν0 μ1 ν1) : GM b f (μ (b + 1) 11) (ν 1013 5) B μ μ1 := h.2.1
theorem BG.gn {b B W f T D k : Int} {μ ν ν0 μ1 ν1 : am_M} (h : BG b B W f T D k μ ν ν0 μ1 ν1) : GN f (ν 1000 30) (ν 1013 5) B ν ν1 := h.2.2.1
theorem BG.hq {b B W f T D k : Int} {μ ν ν0 μ1 ν1 : am_M} (h : BG b B W f T D k μ ν ν0 μ1 ν1) : ν1 1000 30 = ν 1000 30 := h.2.2.2.1
theorem BG.b16 {b B W f T D k : Int} {μ ν ν0 μ1 ν1 : am_M} (h : BG b B W f T D k μ ν ν0 μ1 ν1) : μ1 (b + 16) (B - 1) = ν 1013 5 + 1 - f := h.2.2.2.2.1
theorem BG.b17 {b B W f T D k : Int} {μ ν ν0 μ1 ν1 : am_M} (h : BG b B W f T D k μ ν ν0 μ1 ν1) : ∀ x, μ1 (b + 17) x = μ (b + 17) x ∧ ν1 1019 x = ν 1019 x := h.2.2.2.2.2.1
theorem BG.op {b B W f T D k : Int} {μ ν ν0 μ1 ν1 : am_M} (h : BG b B W f T D k μ ν ν0 μ1 ν1) : μ1 20 13 = 1 := h.2.2.2.2.2.2.1
theorem BG.kk {b B W f T D k : Int} {μ ν ν0 μ1 ν1 : am_M} (h : BG b B W f T D k μ ν ν0 μ1 ν1) : μ1 20 11 = B - 1 := h.2.2.2.2.2.2.2.1
theorem BG.d7 {b B W f T D k : Int} {μ ν ν0 μ1 ν1 : am_M} (h : BG b B W f T D k μ ν ν0 μ1 ν1) : μ1 20 7 = D ∧ ν1 1000 45 = D := h.2.2.2.2.2.2.2.2.1
theorem BG.s6 {b B W f T D k : Int} {μ ν ν0 μ1 ν1 : am_M} (h : BG b B W f T D k μ ν ν0 μ1 ν1) : μ1 20 6 = μ 20 6 := h.2.2.2.2.2.2.2.2.2.1
theorem BG.n18 {b B W f T D k : Int} {μ ν ν0 μ1 ν1 : am_M} (h : BG b B W f T D k μ ν ν0 μ1 ν1) : ν1 1018 (3 + B) = ν 1013 5 - f := h.2.2.2.2.2.2.2.2.2.2.1
theorem BG.n5 {b B W f T D k : Int} {μ ν ν0 μ1 ν1 : am_M} (h : BG b B W f T D k μ ν ν0 μ1 ν1) : ν1 1013 5 = ν 1013 5 := h.2.2.2.2.2.2.2.2.2.2.2.1
theorem BG.p44 {b B W f T D k : Int} {μ ν ν0 μ1 ν1 : am_M} (h : BG b B W f T D k μ ν ν0 μ1 ν1) : ν1 1000 44 = ν0 1000 44 := h.2.2.2.2.2.2.2.2.2.2.2.2.1
theorem BG.m7 {b B W f T D k : Int} {μ ν ν0 μ1 ν1 : am_M} (h : BG b B W f T D k μ ν ν0 μ1 ν1) : ∀ x, x ≠ ν 1013 5 → μ1 (b + 7) x = μ (b + 7) x := h.2.2.2.2.2.2.2.2.2.2.2.2.2.1
theorem BG.m22 {b B W f T D k : Int} {μ ν ν0 μ1 ν1 : am_M} (h : BG b B W f T D k μ ν ν0 μ1 ν1) : ∀ x, μ1 22 x = μ 22 x := h.2.2.2.2.2.2.2.2.2.2.2.2.2.2.1
theorem BG.w {b B W f T D k : Int} {μ ν ν0 μ1 ν1 : am_M} (h : BG b B W f T D k μ ν ν0 μ1 ν1) : ∀ c x, c = 1008 ∨ c = 1009 ∨ c = 1034 ∨ c = 1035 ∨ c = 1015 ∨ (c = 1002 ∧ x ≠ 60 + ν 1013 5) → ν1 c x = ν c x := h.2.2.2.2.2.2.2.2.2.2.2.2.2.2.2
theorem BG.mk {b B W f T D k : Int} {μ ν ν0 μ1 ν1 : am_M} (lb : LB b B W (ν 1013 5) (μ (b + 1) 11) k μ1 ν1) (gm : GM b f (μ (b + 1) 11) (ν 1013 5) B μ μ1) (gn : GN f (ν 1000 30) (ν 1013 5) B ν ν1) (hq : ν1 1000 30 = ν 1000 30) (b16 : μ1 (b + 16) (B - 1) = ν 1013 5 + 1 - f) (b17 : ∀ x, μ1 (b + 17) x = μ (b + 17) x ∧ ν1 1019 x = ν 1019 x) (op : μ1 20 13 = 1) (kk : μ1 20 11 = B - 1) (d7 : μ1 20 7 = D ∧ ν1 1000 45 = D) (s6 : μ1 20 6 = μ 20 6) (n18 : ν1 1018 (3 + B) = ν 1013 5 - f) (n5 : ν1 1013 5 = ν 1013 5) (p44 : ν1 1000 44 = ν0 1000 44) (m7 : ∀ x, x ≠ ν 1013 5 → μ1 (b + 7) x = μ (b + 7) x) (m22 : ∀ x, μ1 22 x = μ 22 x) (w : ∀ c x, c = 1008 ∨ c = 1009 ∨ c = 1034 ∨ c = 1035 ∨ c = 1015 ∨ (c = 1002 ∧ x ≠ 60 + ν 1013 5) → ν1 c x = ν c x) : BG b B W f T D k μ ν ν0 μ1 ν1 := ⟨lb, gm, gn, hq, b16, b17, op, kk, d7, s6, n18, n5, p44, m7, m22, w⟩
theorem bg_s {b B W f T D k : Int} {Wn σ : Int → Int} {μ ν ν0 : am_M} (hb : bOk b) (h : PB b B W Wn μ ν) (o : OB b B W f T D Wn σ μ ν) (hop : ν 1000 43 = 1) (hk : 0 ≤ k ∧ k ≤ 8) (hK : μ 10 5 = 100 + k) (h60 : ν 1013 5 < 60)
    (g0 : ∀ c i, ¬ (c = 1000 ∧ i = 44) → ν0 c i = preM k (60 + ν 1013 5) ν c i) :
    ∃ μ1 ν1, Tp_advance (stM b k B (ν 1013 5 - f + 1) μ) = some (0, μ1) ∧ M_nextToken ν0 = some (0, ν1) ∧ BG b B W f T D k μ ν ν0 μ1 ν1 := by
  have hb' : b = 100 ∨ b = 200 := hb
  have hcn := h.cn
  have hB0 := h.nw.b0
  have hcB := h.cB
  have hb1 := o.b1
  have hf0 := o.f0
  obtain ⟨μ1, ν1, a1, a2, a3, a4, a5⟩ := beg_s hb h o hk hK h60 g0
  have v := stM_v (k := k) (B := B) (n := ν 1013 5 - f + 1) (μ := μ) hb
  have fs : ∀ c i, ¬ ((b + 2 ≤ c ∧ c ≤ b + 10 ∧ i = ν 1013 5) ∨ (c = b + 1 ∧ i = 10) ∨ (c = 20 ∧ i = 12) ∨ (c = b + 16 ∧ i = B - 1)) → c ≠ 10 → μ1 c i = μ c i := fun c i z y => by rw [a4 c i y]; exact stM_f c i (by rw [hcn]; exact z)
  have fp : ∀ c i, ¬ (c = 1000 ∧ 4 ≤ i ∧ i ≤ 8) → ¬ (c = 1000 ∧ i = 44) → ¬ ((((1002 ≤ c ∧ c ≤ 1006) ∨ c = 1010 ∨ c = 1011) ∧ i = 60 + ν 1013 5) ∨ (c = 1007 ∧ 4 * (60 + ν 1013 5) ≤ i ∧ i < 4 * (60 + ν 1013 5) + 4)) → ν1 c i = ν c i := fun c i x z y => by rw [a5 c i x, g0 c i z]; exact preM_f c i y
  have gm := beg_gm (b := b) (B := B) (f := f) (k := k) (n := ν 1013 5 - f + 1) (p := μ (b + 1) 11) a4
  rw [hcn] at gm
  refine ⟨μ1, ν1, a1, a2, ?_⟩
  exact (BG.mk (lb := a3) (gm := gm) (gn := beg_gn g0 a5) (hq := fp _ _ (by omega) (by omega) (by omega)) (b16 := by rw [a4 _ _ (by omega), v.2.2.2.2.2.2.2.2.2]; omega) (b17 := fun x => ⟨fs _ _ (by omega) (by omega), fp _ _ (by omega) (by omega) (by omega)⟩) (op := by rw [fs _ _ (by omega) (by omega), h.op]; exact hop) (kk := by rw [fs _ _ (by omega) (by omega)]; exact o.kk) (d7 := ⟨by rw [fs _ _ (by omega) (by omega)]; exact o.dp.1, by rw [fp _ _ (by omega) (by omega) (by omega)]; exact o.dp.2.1⟩) (s6 := fs _ _ (by omega) (by omega)) (n18 := by rw [fp _ _ (by omega) (by omega) (by omega)]; exact o.cl.2) (n5 := fp _ _ (by omega) (by omega) (by omega)) (p44 := a5 _ _ (by omega)) (m7 := fun x z => fs _ _ (by omega) (by omega)) (m22 := fun x => fs _ _ (by omega) (by omega)) (w := fun c x z => fp _ _ (by omega) (by omega) (by omega)))
/-- let, twin, burn, call -/
theorem fin_A {b B W f T D k : Int} {Wn σ : Int → Int} {μ ν ν0 μ1 ν1 : am_M} (hb : bOk b) (h : PB b B W Wn μ ν) (hf : FB b W (B - 1) f Wn μ ν) (o : OB b B W f T D Wn σ μ ν) (h60 : ν 1013 5 < 60) (g : BG b B W f T D k μ ν ν0 μ1 ν1) (hk : sK k) (h44 : ν0 1000 44 = 1) : ∀ μx μ2 ν2, Rd_expect 59 μx = some (1, μ2) → LZ b B W (ν 1013 5) (μ (b + 1) 11) (ν 1000 30) (μ1 20 6) Wn μ1 ν1 μ2 ν2 → ∃ μ4 ν4, Rd_endLine μx = some (0, μ4) ∧ M_readsLine_B298 k (3 + B) 1 ν2 = some (1, ν4) ∧ PS b B W Wn μ4 ν4 ∧ ν4 1013 5 = ν 1013 5 + 1 ∧ FA b μ μ4 ∧ FN ν ν4 := by
  intro μx μ2 ν2 he hz
  have hb' : b = 100 ∨ b = 200 := hb
  have hB0 := h.nw.b0
  have hcB := h.cB
  have hb1 := o.b1
  have hf0 := o.f0
  have hc6 := h.c6
  unfold sK at hk
  obtain ⟨z1, z2, z3, z4, t, z5, z6⟩ := hz
  have k2 : μ2 (b + 2) (ν 1013 5) = k := by rw [z1 _ _ (by omega)]; exact g.lb.k2
  have m2 : ν2 1002 (60 + ν 1013 5) = k := by rw [z2 _ _ (by omega)]; exact g.lb.m2
  have e1 := (endLine_s hb he z3.rd.rl z3.rd.rb z3.reg (by omega) k2 (by rw [z1 _ _ (by omega)]; exact g.kk) ⟨hb1, by omega⟩).1 (by omega)
  have e2 := B298_s (k := k) (B := B) (n := ν 1013 5) (m := ν 1013 5 - f) (ν := ν2) ⟨hb1, by omega⟩ (by rw [z2 _ _ (by omega)]; exact g.n5) (by rw [z2 _ _ (by omega)]; exact g.n18) (by omega) (by omega)
  rw [if_neg (by omega)] at e2
  obtain ⟨q1, q2⟩ := fin_open (T' := T) (D' := D) hb h hf o h60 (g.gm.tr z1.gm) (g.gn.tr z2.gn) z3 z4 ⟨t, z5, by rw [← g.s6]; exact z6⟩ (by rw [z1 _ _ (by omega)]; exact g.b16) (by rw [z1 _ _ (by omega)]; exact g.op) (by rw [z1 _ _ (by omega), z2 _ _ (by omega), (g.b17 _).1, (g.b17 _).2]; exact o.tk) (by rw [z1 _ _ (by omega), z2 _ _ (by omega)]; exact ⟨g.d7.1, g.d7.2, o.dp.2.2⟩) (Or.inl ⟨rfl, by rw [z2 _ _ (by omega), g.p44]; exact h44⟩) (by
    refine ctx_one _ _ _ _ _ (ctx_c _ _ _ _ _ ?_ ?_ o.cx) (by show sK (ν2 1002 (60 + ν 1013 5)); rw [m2]; exact hk)
    · intro c x p q r s
      refine wP_c (fun _ => by rw [z2 _ _ (by omega)]; exact g.w _ _ (by omega)) (fun _ => by rw [z2 _ _ (by omega)]; exact g.w _ _ (by omega)) (fun _ => by rw [z2 _ _ (by omega)]; exact g.w _ _ (by omega)) (fun _ => by rw [z1 _ _ (by omega)]; exact g.m7 _ (by omega)) (fun z => by omega) (fun z => by omega) (fun z => by omega) (by omega)
    · intro c x p q r s
      refine wP_c (fun z => by omega) (fun z => by omega) (fun z => by omega) (fun z => by omega) (fun _ => by rw [z1 _ _ (by omega)]; exact g.m22 _) (fun _ => by rw [z2 _ _ (by omega)]; exact g.w _ _ (by omega)) (fun _ => by rw [z2 _ _ (by omega)]; exact g.w _ _ (by omega)) (by omega))
  exact ⟨μ2, _, e1, e2, q1, q2⟩
/-- give -/
theorem fin_G {b B W f T : Int} {Wn σ : Int → Int} {μ ν ν0 μ1 ν1 : am_M} (hb : bOk b) (h : PB b B W Wn μ ν) (hf : FB b W (B - 1) f Wn μ ν) (o : OB b B W f T 0 Wn σ μ ν) (h60 : ν 1013 5 < 60) (g : BG b B W f T 0 8 μ ν ν0 μ1 ν1) : ∀ μx μ2 ν2, Rd_expect 59 μx = some (1, μ2) → LZ b B W (ν 1013 5) (μ (b + 1) 11) (ν 1000 30) (μ1 20 6) Wn μ1 ν1 μ2 ν2 → ∃ μ4 ν4, Rd_endLine μx = some (0, μ4) ∧ M_readsLine_B298 8 (3 + B) 1 ν2 = some (1, ν4) ∧ PS b B W Wn μ4 ν4 ∧ ν4 1013 5 = ν 1013 5 + 1 ∧ FA b μ μ4 ∧ FN ν ν4 := by
  intro μx μ2 ν2 he hz
  have hb' : b = 100 ∨ b = 200 := hb
  have hB0 := h.nw.b0
  have hcB := h.cB
  have hb1 := o.b1
  have hf0 := o.f0
  have hc6 := h.c6
  obtain ⟨z1, z2, z3, z4, t, z5, z6⟩ := hz
  have k2 : μ2 (b + 2) (ν 1013 5) = 8 := by rw [z1 _ _ (by omega)]; exact g.lb.k2
  have m2 : ν2 1002 (60 + ν 1013 5) = 8 := by rw [z2 _ _ (by omega)]; exact g.lb.m2
  have e1 := (endLine_s hb he z3.rd.rl z3.rd.rb z3.reg (by omega) k2 (by rw [z1 _ _ (by omega)]; exact g.kk) ⟨hb1, by omega⟩).2 rfl
  have e2 := B298_s (k := 8) (B := B) (n := ν 1013 5) (m := ν 1013 5 - f) (ν := ν2) ⟨hb1, by omega⟩ (by rw [z2 _ _ (by omega)]; exact g.n5) (by rw [z2 _ _ (by omega)]; exact g.n18) (by omega) (by omega)
  rw [if_pos rfl] at e2
  have hcx : BL (wP b 60 μ ν) 3 (f + T) (ν 1013 5) := o.cx
  obtain ⟨q1, q2⟩ := fin_give hb h hf o h60 (g.gm.tr z1.gm) (g.gn.tr z2.gn) z3 z4 ⟨t, z5, by rw [← g.s6]; exact z6⟩ (by rw [z1 _ _ (by omega)]; exact g.b16) (by rw [z1 _ _ (by omega), z2 _ _ (by omega), (g.b17 _).1, (g.b17 _).2]; exact o.tk) m2 (by
    refine hcx.cong ?_
    intro c x p q r s
    refine wP_c (fun _ => by rw [z2 _ _ (by omega)]; exact g.w _ _ (by omega)) (fun _ => by rw [z2 _ _ (by omega)]; exact g.w _ _ (by omega)) (fun _ => by rw [z2 _ _ (by omega)]; exact g.w _ _ (by omega)) (fun _ => by rw [z1 _ _ (by omega)]; exact g.m7 _ (by omega)) (fun z => by omega) (fun z => by omega) (fun z => by omega) (by omega))
  exact ⟨_, _, e1, e2, q1, q2⟩
/-- take -/
theorem fin_T {b B W f T D : Int} {Wn σ : Int → Int} {μ ν ν0 μ1 ν1 : am_M} (hb : bOk b) (h : PB b B W Wn μ ν) (hf : FB b W (B - 1) f Wn μ ν) (o : OB b B W f T D Wn σ μ ν) (h60 : ν 1013 5 < 60) (g : BG b B W f T D 0 μ ν ν0 μ1 ν1) (h44 : ν0 1000 44 = 0) (h44' : ν 1000 44 = 0) (hT : T ≤ 3) : ∀ μx μ2 ν2, Rd_expect 59 μx = some (1, μ2) → (LZ b B W (ν 1013 5) (μ (b + 1) 11) (ν 1000 30) T Wn (m_st μ1 (b + 17) (B - 1) (T + 1)) (m_st ν1 1019 (3 + B) (T + 1)) μ2 ν2 ∧ μ2 20 6 = T + 1 ∧ ν2 1003 (60 + ν 1013 5) = T) → ∃ μ4 ν4, Rd_endLine μx = some (0, μ4) ∧ M_readsLine_B298 0 (3 + B) 1 ν2 = some (1, ν4) ∧ PS b B W Wn μ4 ν4 ∧ ν4 1013 5 = ν 1013 5 + 1 ∧ FA b μ μ4 ∧ FN ν ν4 := by
  intro μx μ2 ν2 he hz
  have hb' : b = 100 ∨ b = 200 := hb
  have hB0 := h.nw.b0
  have hcB := h.cB
  have hb1 := o.b1
  have hf0 := o.f0
  have hc6 := h.c6
  have hpt := o.pt
  obtain ⟨⟨z1, z2, z3, z4, t, z5, z6⟩, y1, y2⟩ := hz
  have x1 : ∀ c i, ¬ (c = b + 17 ∧ i = B - 1) → m_st μ1 (b + 17) (B - 1) (T + 1) c i = μ1 c i := fun c i z => by rw [m_st_d, if_neg z]
  have x2 : ∀ c i, ¬ (c = 1019 ∧ i = 3 + B) → m_st ν1 1019 (3 + B) (T + 1) c i = ν1 c i := fun c i z => by rw [m_st_d, if_neg z]
  have x3 : m_st μ1 (b + 17) (B - 1) (T + 1) (b + 17) (B - 1) = T + 1 := by rw [m_st_d, if_pos ⟨rfl, rfl⟩]
  have x4 : m_st ν1 1019 (3 + B) (T + 1) 1019 (3 + B) = T + 1 := by rw [m_st_d, if_pos ⟨rfl, rfl⟩]
  generalize m_st μ1 (b + 17) (B - 1) (T + 1) = μa at *
  generalize m_st ν1 1019 (3 + B) (T + 1) = νa at *
  have k2 : μ2 (b + 2) (ν 1013 5) = 0 := by rw [z1 _ _ (by omega), x1 _ _ (by omega)]; exact g.lb.k2
  have m2 : ν2 1002 (60 + ν 1013 5) = 0 := by rw [z2 _ _ (by omega), x2 _ _ (by omega)]; exact g.lb.m2
  have e1 := (endLine_s hb he z3.rd.rl z3.rd.rb z3.reg (by omega) k2 (by rw [z1 _ _ (by omega), x1 _ _ (by omega)]; exact g.kk) ⟨hb1, by omega⟩).1 (by omega)
  have e2 := B298_s (k := 0) (B := B) (n := ν 1013 5) (m := ν 1013 5 - f) (ν := ν2) ⟨hb1, by omega⟩ (by rw [z2 _ _ (by omega), x2 _ _ (by omega)]; exact g.n5) (by rw [z2 _ _ (by omega), x2 _ _ (by omega)]; exact g.n18) (by omega) (by omega)
  rw [if_neg (by omega)] at e2
  have g1 : GM b f (μ (b + 1) 11) (ν 1013 5) B μ1 μa := fun c i z => x1 c i (by omega)
  have g2 : GN f (ν 1000 30) (ν 1013 5) B ν1 νa := fun c i z => x2 c i (by omega)
  have hS : μ 20 6 = T := by omega
  have hD : D.toNat = 0 := by
    cases hDn : D.toNat with
    | zero => rfl
    | succ m =>
      exfalso
      have hx := o.cx
      rw [hDn] at hx
      have := ctx_in _ _ _ _ _ hx
      omega
  have hd := o.dp
  have hx : BL (wP b 60 μ2 ν2) 3 (f + (T + 1)) (ν 1013 5 + 1) := by
    have e : f + (T + 1) = ν 1013 5 + 1 := by omega
    rw [e]; exact BL.rf
  obtain ⟨q1, q2⟩ := fin_open (T' := T + 1) (D' := D) hb h hf o h60 ((g.gm.tr g1).tr z1.gm) ((g.gn.tr g2).tr z2.gn) z3 z4 ⟨t, z5, by rw [hS]; exact z6⟩ (by rw [z1 _ _ (by omega), x1 _ _ (by omega)]; exact g.b16) (by rw [z1 _ _ (by omega), x1 _ _ (by omega)]; exact g.op) (by rw [z1 _ _ (by omega), z2 _ _ (by omega)]; exact ⟨x3, x4⟩) (by rw [z1 _ _ (by omega), z2 _ _ (by omega), x1 _ _ (by omega), x2 _ _ (by omega)]; exact ⟨g.d7.1, g.d7.2, o.dp.2.2⟩) (Or.inr ⟨rfl, hT, by rw [z2 _ _ (by omega), x2 _ _ (by omega), g.p44]; exact h44, h44', y1, m2, y2⟩) (by rw [hD]; exact hx)
  exact ⟨μ2, _, e1, e2, q1, q2⟩
/-- if -/
theorem fin_I {b B W f T D : Int} {Wn σ : Int → Int} {μ ν ν0 μ1 ν1 : am_M} (hb : bOk b) (h : PB b B W Wn μ ν) (hf : FB b W (B - 1) f Wn μ ν) (o : OB b B W f T D Wn σ μ ν) (h60 : ν 1013 5 < 60) (g : BG b B W f T D 5 μ ν ν0 μ1 ν1) (h44 : ν0 1000 44 = 1) (hD : D ≤ 2) : ∀ μx μ2 ν2, Rd_expect 59 μx = some (1, μ2) → (∃ ν3, ν2 = ifM D (ν 1013 5) ν3 ∧ LZ b B W (ν 1013 5) (μ (b + 1) 11) (ν 1000 30) (μ1 20 6) Wn (m_st (m_st μ1 22 D (ν 1013 5)) 20 7 (D + 1)) ν1 μ2 ν3) → ∃ μ4 ν4, Rd_endLine μx = some (0, μ4) ∧ M_readsLine_B298 5 (3 + B) 1 ν2 = some (1, ν4) ∧ PS b B W Wn μ4 ν4 ∧ ν4 1013 5 = ν 1013 5 + 1 ∧ FA b μ μ4 ∧ FN ν ν4 := by
  intro μx μ2 ν2 he hz
  have hb' : b = 100 ∨ b = 200 := hb
  have hB0 := h.nw.b0
  have hcB := h.cB
  have hb1 := o.b1
  have hf0 := o.f0
  have hc6 := h.c6
  obtain ⟨d1, d2, d3, d4⟩ := o.dp
  obtain ⟨ν3, e3, z1, z2, z3, z4, t, z5, z6⟩ := hz
  have x1 : ∀ c i, ¬ ((c = 22 ∧ i = D) ∨ (c = 20 ∧ i = 7)) → m_st (m_st μ1 22 D (ν 1013 5)) 20 7 (D + 1) c i = μ1 c i := fun c i z => by rw [m_st_d, if_neg (by omega), m_st_d, if_neg (by omega)]
  have x2 : ∀ c i, ¬ ((c = 1034 ∧ i = D) ∨ (c = 1035 ∧ i = D) ∨ (c = 1000 ∧ i = 45)) → ν2 c i = ν3 c i := fun c i z => by rw [e3]; unfold ifM; rw [m_st_d, if_neg (by omega), m_st_d, if_neg (by omega), m_st_d, if_neg (by omega)]
  have x3 : m_st (m_st μ1 22 D (ν 1013 5)) 20 7 (D + 1) 22 D = ν 1013 5 := by rw [m_st_c (by decide), m_st_d, if_pos ⟨rfl, rfl⟩]
  have x4 : m_st (m_st μ1 22 D (ν 1013 5)) 20 7 (D + 1) 20 7 = D + 1 := by rw [m_st_d, if_pos ⟨rfl, rfl⟩]
  have y1 : ν2 1034 D = 60 + ν 1013 5 := by rw [e3]; unfold ifM; rw [m_st_c (by decide), m_st_c (by decide), m_st_d, if_pos ⟨rfl, rfl⟩]
  have y2 : ν2 1035 D = 0 := by rw [e3]; unfold ifM; rw [m_st_c (by decide), m_st_d, if_pos ⟨rfl, rfl⟩]
  have y3 : ν2 1000 45 = D + 1 := by rw [e3]; unfold ifM; rw [m_st_d, if_pos ⟨rfl, rfl⟩]
  have ln2 : LN b B W (ν 1013 5) (μ (b + 1) 11) μ2 ν2 := by
    rw [e3]; unfold ifM
    exact LN_setν (LN_setν (LN_setν z3 (by omega)) (by omega)) (by omega)
  clear e3
  generalize m_st (m_st μ1 22 D (ν 1013 5)) 20 7 (D + 1) = μa at *
  have k2 : μ2 (b + 2) (ν 1013 5) = 5 := by rw [z1 _ _ (by omega), x1 _ _ (by omega)]; exact g.lb.k2
  have m2 : ν2 1002 (60 + ν 1013 5) = 5 := by rw [x2 _ _ (by omega), z2 _ _ (by omega)]; exact g.lb.m2
  have e1 := (endLine_s hb he z3.rd.rl z3.rd.rb z3.reg (by omega) k2 (by rw [z1 _ _ (by omega), x1 _ _ (by omega)]; exact g.kk) ⟨hb1, by omega⟩).1 (by omega)
  have e2 := B298_s (k := 5) (B := B) (n := ν 1013 5) (m := ν 1013 5 - f) (ν := ν2) ⟨hb1, by omega⟩ (by rw [x2 _ _ (by omega), z2 _ _ (by omega)]; exact g.n5) (by rw [x2 _ _ (by omega), z2 _ _ (by omega)]; exact g.n18) (by omega) (by omega)
  rw [if_neg (by omega)] at e2
  have g1 : GM b f (μ (b + 1) 11) (ν 1013 5) B μ1 μa := fun c i z => x1 c i (by omega)
  have g2 : GN f (ν 1000 30) (ν 1013 5) B ν3 ν2 := fun c i z => x2 c i (by omega)
  have eD : (D + 1).toNat = D.toNat + 1 := by omega
  have ej : (0 : Int) + (D.toNat : Int) = D := by omega
  obtain ⟨q1, q2⟩ := fin_open (T' := T) (D' := D + 1) hb h hf o h60 ((g.gm.tr g1).tr z1.gm) ((g.gn.tr z2.gn).tr g2) ln2 ⟨by rw [x2 _ _ (by omega)]; exact z4.1, by rw [x2 _ _ (by omega), x2 _ _ (by omega)]; exact z4.2⟩ ⟨t, LR_ν z5 (fun c i z => x2 c i (by omega)), by rw [← g.s6]; exact z6.cong (fun c i z => x2 c i (by omega)) (fun _ => x2 _ _ (by omega))⟩ (by rw [z1 _ _ (by omega), x1 _ _ (by omega)]; exact g.b16) (by rw [z1 _ _ (by omega), x1 _ _ (by omega)]; exact g.op) (by rw [z1 _ _ (by omega), x1 _ _ (by omega), x2 _ _ (by omega), z2 _ _ (by omega), (g.b17 _).1, (g.b17 _).2]; exact o.tk) (by rw [z1 _ _ (by omega)]; exact ⟨x4, y3, by omega, by omega⟩) (Or.inl ⟨rfl, by rw [x2 _ _ (by omega), z2 _ _ (by omega), g.p44]; exact h44⟩) (by
    rw [eD]
    refine ctx_if _ _ _ _ _ (ctx_c _ _ _ _ _ ?_ ?_ o.cx) (by omega) (by show ν2 1002 (60 + ν 1013 5) = 5; exact m2) ?_ ?_ ?_
    · intro c x p q r s
      refine wP_c (fun _ => by rw [x2 _ _ (by omega), z2 _ _ (by omega)]; exact g.w _ _ (by omega)) (fun _ => by rw [x2 _ _ (by omega), z2 _ _ (by omega)]; exact g.w _ _ (by omega)) (fun _ => by rw [x2 _ _ (by omega), z2 _ _ (by omega)]; exact g.w _ _ (by omega)) (fun _ => by rw [z1 _ _ (by omega), x1 _ _ (by omega)]; exact g.m7 _ (by omega)) (fun z => by omega) (fun z => by omega) (fun z => by omega) (by omega)
    · intro c x p q r s
      refine wP_c (fun z => by omega) (fun z => by omega) (fun z => by omega) (fun z => by omega) (fun _ => by rw [z1 _ _ (by omega), x1 _ _ (by omega)]; exact g.m22 _) (fun _ => by rw [x2 _ _ (by omega), z2 _ _ (by omega)]; exact g.w _ _ (by omega)) (fun _ => by rw [x2 _ _ (by omega), z2 _ _ (by omega)]; exact g.w _ _ (by omega)) (by omega)
    · rw [ej]; show μ2 22 D = ν 1013 5; rw [z1 _ _ (by omega)]; exact x3
    · rw [ej]; show ν2 1034 D - 60 = ν 1013 5; omega
    · rw [ej]; show ν2 1035 D = 0; exact y2)
  exact ⟨μ2, _, e1, e2, q1, q2⟩
/-- else -/
theorem fin_E {b B W f T D i0 : Int} {Wn σ : Int → Int} {μ ν ν0 μ1 ν1 : am_M} (hb : bOk b) (h : PB b B W Wn μ ν) (hf : FB b W (B - 1) f Wn μ ν) (o : OB b B W f T D Wn σ μ ν) (h60 : ν 1013 5 < 60) (g : BG b B W f T D 6 μ ν ν0 μ1 ν1) (h44 : ν0 1000 44 = 1) (hD : 1 ≤ D) (t1 : ν 1034 (D - 1) = 60 + i0) (t2 : ν 1035 (D - 1) = 0) (ti : f + T ≤ i0 ∧ i0 < ν 1013 5) : ∀ μx μ2 ν2, Rd_expect 59 μx = some (1, μ2) → LZ b B W (ν 1013 5) (μ (b + 1) 11) (ν 1000 30) (m_st (m_st μ1 (b + 7) i0 (ν 1013 5)) 22 (D - 1) (ν 1013 5) 20 6) Wn (m_st (m_st μ1 (b + 7) i0 (ν 1013 5)) 22 (D - 1) (ν 1013 5)) (m_st (m_st ν1 1035 (D - 1) 1) 1008 (60 + i0) (60 + ν 1013 5)) μ2 ν2 → ∃ μ4 ν4, Rd_endLine μx = some (0, μ4) ∧ M_readsLine_B298 6 (3 + B) 1 ν2 = some (1, ν4) ∧ PS b B W Wn μ4 ν4 ∧ ν4 1013 5 = ν 1013 5 + 1 ∧ FA b μ μ4 ∧ FN ν ν4 := by
  intro μx μ2 ν2 he hz
  have hb' : b = 100 ∨ b = 200 := hb
  have hB0 := h.nw.b0
  have hcB := h.cB
  have hb1 := o.b1
  have hf0 := o.f0
  have hc6 := h.c6
  obtain ⟨d1, d2, d3, d4⟩ := o.dp
  obtain ⟨z1, z2, z3, z4, t, z5, z6⟩ := hz
  have x1 : ∀ c i, ¬ ((c = b + 7 ∧ i = i0) ∨ (c = 22 ∧ i = D - 1)) → m_st (m_st μ1 (b + 7) i0 (ν 1013 5)) 22 (D - 1) (ν 1013 5) c i = μ1 c i := fun c i z => by rw [m_st_d, if_neg (by omega), m_st_d, if_neg (by omega)]
  have x2 : ∀ c i, ¬ ((c = 1035 ∧ i = D - 1) ∨ (c = 1008 ∧ i = 60 + i0)) → m_st (m_st ν1 1035 (D - 1) 1) 1008 (60 + i0) (60 + ν 1013 5) c i = ν1 c i := fun c i z => by rw [m_st_d, if_neg (by omega), m_st_d, if_neg (by omega)]
  have x3 : m_st (m_st μ1 (b + 7) i0 (ν 1013 5)) 22 (D - 1) (ν 1013 5) (b + 7) i0 = ν 1013 5 := by rw [m_st_c (by omega), m_st_d, if_pos ⟨rfl, rfl⟩]
  have x4 : m_st (m_st μ1 (b + 7) i0 (ν 1013 5)) 22 (D - 1) (ν 1013 5) 22 (D - 1) = ν 1013 5 := by rw [m_st_d, if_pos ⟨rfl, rfl⟩]
  have y1 : m_st (m_st ν1 1035 (D - 1) 1) 1008 (60 + i0) (60 + ν 1013 5) 1035 (D - 1) = 1 := by rw [m_st_c (by decide), m_st_d, if_pos ⟨rfl, rfl⟩]
  have y2 : m_st (m_st ν1 1035 (D - 1) 1) 1008 (60 + i0) (60 + ν 1013 5) 1008 (60 + i0) = 60 + ν 1013 5 := by rw [m_st_d, if_pos ⟨rfl, rfl⟩]
  generalize m_st (m_st μ1 (b + 7) i0 (ν 1013 5)) 22 (D - 1) (ν 1013 5) = μa at *
  generalize m_st (m_st ν1 1035 (D - 1) 1) 1008 (60 + i0) (60 + ν 1013 5) = νa at *
  have k2 : μ2 (b + 2) (ν 1013 5) = 6 := by rw [z1 _ _ (by omega), x1 _ _ (by omega)]; exact g.lb.k2
  have m2 : ν2 1002 (60 + ν 1013 5) = 6 := by rw [z2 _ _ (by omega), x2 _ _ (by omega)]; exact g.lb.m2
  have e1 := (endLine_s hb he z3.rd.rl z3.rd.rb z3.reg (by omega) k2 (by rw [z1 _ _ (by omega), x1 _ _ (by omega)]; exact g.kk) ⟨hb1, by omega⟩).1 (by omega)
  have e2 := B298_s (k := 6) (B := B) (n := ν 1013 5) (m := ν 1013 5 - f) (ν := ν2) ⟨hb1, by omega⟩ (by rw [z2 _ _ (by omega), x2 _ _ (by omega)]; exact g.n5) (by rw [z2 _ _ (by omega), x2 _ _ (by omega)]; exact g.n18) (by omega) (by omega)
  rw [if_neg (by omega)] at e2
  have g1 : GM b f (μ (b + 1) 11) (ν 1013 5) B μ1 μa := fun c i z => x1 c i (by omega)
  have g2 : GN f (ν 1000 30) (ν 1013 5) B ν1 νa := fun c i z => x2 c i (by omega)
  have ea6 : μa 20 6 = μ 20 6 := by rw [x1 _ _ (by omega)]; exact g.s6
  rw [ea6] at z6
  have eD : D.toNat = (D.toNat - 1) + 1 := by omega
  have ej : (0 : Int) + ((D.toNat - 1 : Nat) : Int) = D - 1 := by omega
  have w5 : wP b 60 μ ν 5 (D - 1) = i0 := by show ν 1034 (D - 1) - 60 = i0; omega
  obtain ⟨q1, q2⟩ := fin_open (T' := T) (D' := D) hb h hf o h60 ((g.gm.tr g1).tr z1.gm) ((g.gn.tr g2).tr z2.gn) z3 z4 ⟨t, z5, z6⟩ (by rw [z1 _ _ (by omega), x1 _ _ (by omega)]; exact g.b16) (by rw [z1 _ _ (by omega), x1 _ _ (by omega)]; exact g.op) (by rw [z1 _ _ (by omega), x1 _ _ (by omega), z2 _ _ (by omega), x2 _ _ (by omega), (g.b17 _).1, (g.b17 _).2]; exact o.tk) (by rw [z1 _ _ (by omega), x1 _ _ (by omega), z2 _ _ (by omega), x2 _ _ (by omega)]; exact ⟨g.d7.1, g.d7.2, by omega, by omega⟩) (Or.inl ⟨rfl, by rw [z2 _ _ (by omega), x2 _ _ (by omega), g.p44]; exact h44⟩) (by
    have hcx := o.cx
    rw [eD] at hcx ⊢
    refine ctx_else _ _ _ _ _ hcx ?_ ?_ ?_ ?_ ?_ ?_ ?_ ?_
    · rw [ej]; exact t2
    · exact m2
    · intro c x p q r y
      rw [ej, w5] at y
      exact wP_c (fun _ => by rw [z2 _ _ (by omega), x2 _ _ (by omega)]; exact g.w _ _ (by omega)) (fun _ => by rw [z2 _ _ (by omega), x2 _ _ (by omega)]; exact g.w _ _ (by omega)) (fun _ => by rw [z2 _ _ (by omega), x2 _ _ (by omega)]; exact g.w _ _ (by omega)) (fun _ => by rw [z1 _ _ (by omega), x1 _ _ (by omega)]; exact g.m7 _ (by omega)) (fun z => by omega) (fun z => by omega) (fun z => by omega) (by omega)
    · intro c x p q r
      rw [ej] at r
      exact wP_c (fun z => by omega) (fun z => by omega) (fun z => by omega) (fun z => by omega) (fun _ => by rw [z1 _ _ (by omega), x1 _ _ (by omega)]; exact g.m22 _) (fun _ => by rw [z2 _ _ (by omega), x2 _ _ (by omega)]; exact g.w _ _ (by omega)) (fun _ => by rw [z2 _ _ (by omega), x2 _ _ (by omega)]; exact g.w _ _ (by omega)) (by omega)
    · rw [ej, w5]; show ν2 1008 (60 + i0) - 60 = ν 1013 5; rw [z2 _ _ (by omega), y2]; omega
    · rw [ej, w5]; show μ2 (b + 7) i0 = ν 1013 5; rw [z1 _ _ (by omega)]; exact x3
    · rw [ej]; show μ2 22 (D - 1) = ν 1013 5; rw [z1 _ _ (by omega)]; exact x4
    · rw [ej]; show ν2 1035 (D - 1) = 1; rw [z2 _ _ (by omega)]; exact y1)
  exact ⟨μ2, _, e1, e2, q1, q2⟩
/-- end -/
theorem fin_D {b B W f T D i0 e0 : Int} {Wn σ : Int → Int} {μ ν ν0 μ1 ν1 : am_M} (hb : bOk b) (h : PB b B W Wn μ ν) (hf : FB b W (B - 1) f Wn μ ν) (o : OB b B W f T D Wn σ μ ν) (h60 : ν 1013 5 < 60) (g : BG b B W f T D 7 μ ν ν0 μ1 ν1) (h44 : ν0 1000 44 = 1) (hD : 1 ≤ D) (t1 : ν 1034 (D - 1) = 60 + i0) (t2 : ν 1035 (D - 1) = 1) (t3 : μ 22 (D - 1) = e0) (ti : f + T ≤ i0 ∧ i0 < e0 ∧ e0 < ν 1013 5) : ∀ μx μ2 ν2, Rd_expect 59 μx = some (1, μ2) → LZ b B W (ν 1013 5) (μ (b + 1) 11) (ν 1000 30) (m_st (m_st μ1 20 7 (D - 1)) (b + 7) e0 (ν 1013 5) 20 6) Wn (m_st (m_st μ1 20 7 (D - 1)) (b + 7) e0 (ν 1013 5)) (m_st (m_st (m_st ν1 1000 45 (D - 1)) 1009 (60 + i0) (60 + ν 1013 5)) 1009 (60 + e0) (60 + ν 1013 5)) μ2 ν2 → ∃ μ4 ν4, Rd_endLine μx = some (0, μ4) ∧ M_readsLine_B298 7 (3 + B) 1 ν2 = some (1, ν4) ∧ PS b B W Wn μ4 ν4 ∧ ν4 1013 5 = ν 1013 5 + 1 ∧ FA b μ μ4 ∧ FN ν ν4 := by
  intro μx μ2 ν2 he hz
  have hb' : b = 100 ∨ b = 200 := hb
  have hB0 := h.nw.b0
  have hcB := h.cB
  have hb1 := o.b1
  have hf0 := o.f0
  have hc6 := h.c6
  obtain ⟨d1, d2, d3, d4⟩ := o.dp
  obtain ⟨z1, z2, z3, z4, t, z5, z6⟩ := hz
  have x1 : ∀ c i, ¬ ((c = b + 7 ∧ i = e0) ∨ (c = 20 ∧ i = 7)) → m_st (m_st μ1 20 7 (D - 1)) (b + 7) e0 (ν 1013 5) c i = μ1 c i := fun c i z => by rw [m_st_d, if_neg (by omega), m_st_d, if_neg (by omega)]
  have x2 : ∀ c i, ¬ ((c = 1000 ∧ i = 45) ∨ (c = 1009 ∧ (i = 60 + i0 ∨ i = 60 + e0))) → m_st (m_st (m_st ν1 1000 45 (D - 1)) 1009 (60 + i0) (60 + ν 1013 5)) 1009 (60 + e0) (60 + ν 1013 5) c i = ν1 c i := fun c i z => by rw [m_st_d, if_neg (by omega), m_st_d, if_neg (by omega), m_st_d, if_neg (by omega)]
  have x3 : m_st (m_st μ1 20 7 (D - 1)) (b + 7) e0 (ν 1013 5) (b + 7) e0 = ν 1013 5 := by rw [m_st_d, if_pos ⟨rfl, rfl⟩]
  have x4 : m_st (m_st μ1 20 7 (D - 1)) (b + 7) e0 (ν 1013 5) 20 7 = D - 1 := by rw [m_st_c (by omega), m_st_d, if_pos ⟨rfl, rfl⟩]
  have y1 : m_st (m_st (m_st ν1 1000 45 (D - 1)) 1009 (60 + i0) (60 + ν 1013 5)) 1009 (60 + e0) (60 + ν 1013 5) 1000 45 = D - 1 := by rw [m_st_c (by decide), m_st_c (by decide), m_st_d, if_pos ⟨rfl, rfl⟩]
  have y2 : m_st (m_st (m_st ν1 1000 45 (D - 1)) 1009 (60 + i0) (60 + ν 1013 5)) 1009 (60 + e0) (60 + ν 1013 5) 1009 (60 + i0) = 60 + ν 1013 5 := by rw [m_st_d, if_neg (by omega), m_st_d, if_pos ⟨rfl, rfl⟩]
  have y3 : m_st (m_st (m_st ν1 1000 45 (D - 1)) 1009 (60 + i0) (60 + ν 1013 5)) 1009 (60 + e0) (60 + ν 1013 5) 1009 (60 + e0) = 60 + ν 1013 5 := by rw [m_st_d, if_pos ⟨rfl, rfl⟩]
  generalize m_st (m_st μ1 20 7 (D - 1)) (b + 7) e0 (ν 1013 5) = μa at *
  generalize m_st (m_st (m_st ν1 1000 45 (D - 1)) 1009 (60 + i0) (60 + ν 1013 5)) 1009 (60 + e0) (60 + ν 1013 5) = νa at *
  have k2 : μ2 (b + 2) (ν 1013 5) = 7 := by rw [z1 _ _ (by omega), x1 _ _ (by omega)]; exact g.lb.k2
  have m2 : ν2 1002 (60 + ν 1013 5) = 7 := by rw [z2 _ _ (by omega), x2 _ _ (by omega)]; exact g.lb.m2
  have e1 := (endLine_s hb he z3.rd.rl z3.rd.rb z3.reg (by omega) k2 (by rw [z1 _ _ (by omega), x1 _ _ (by omega)]; exact g.kk) ⟨hb1, by omega⟩).1 (by omega)
  have e2 := B298_s (k := 7) (B := B) (n := ν 1013 5) (m := ν 1013 5 - f) (ν := ν2) ⟨hb1, by omega⟩ (by rw [z2 _ _ (by omega), x2 _ _ (by omega)]; exact g.n5) (by rw [z2 _ _ (by omega), x2 _ _ (by omega)]; exact g.n18) (by omega) (by omega)
  rw [if_neg (by omega)] at e2
  have g1 : GM b f (μ (b + 1) 11) (ν 1013 5) B μ1 μa := fun c i z => x1 c i (by omega)
  have g2 : GN f (ν 1000 30) (ν 1013 5) B ν1 νa := fun c i z => x2 c i (by omega)
  have ea6 : μa 20 6 = μ 20 6 := by rw [x1 _ _ (by omega)]; exact g.s6
  rw [ea6] at z6
  have eD : D.toNat = (D.toNat - 1) + 1 := by omega
  have eD2 : (D - 1).toNat = D.toNat - 1 := by omega
  have ej : (0 : Int) + ((D.toNat - 1 : Nat) : Int) = D - 1 := by omega
  have w5 : wP b 60 μ ν 5 (D - 1) = i0 := by show ν 1034 (D - 1) - 60 = i0; omega
  have w4 : wP b 60 μ ν 4 (D - 1) = e0 := t3
  obtain ⟨q1, q2⟩ := fin_open (T' := T) (D' := D - 1) hb h hf o h60 ((g.gm.tr g1).tr z1.gm) ((g.gn.tr g2).tr z2.gn) z3 z4 ⟨t, z5, z6⟩ (by rw [z1 _ _ (by omega), x1 _ _ (by omega)]; exact g.b16) (by rw [z1 _ _ (by omega), x1 _ _ (by omega)]; exact g.op) (by rw [z1 _ _ (by omega), x1 _ _ (by omega), z2 _ _ (by omega), x2 _ _ (by omega), (g.b17 _).1, (g.b17 _).2]; exact o.tk) (by rw [z1 _ _ (by omega), z2 _ _ (by omega)]; exact ⟨x4, y1, by omega, by omega⟩) (Or.inl ⟨rfl, by rw [z2 _ _ (by omega), x2 _ _ (by omega), g.p44]; exact h44⟩) (by
    have hcx := o.cx
    rw [eD] at hcx
    rw [eD2]
    refine ctx_end _ _ _ _ _ hcx ?_ ?_ ?_ ?_ ?_ ?_ ?_
    · rw [ej]; exact t2
    · exact m2
    · intro c x p q r y
      rw [ej, w5, w4] at y
      exact wP_c (fun _ => by rw [z2 _ _ (by omega), x2 _ _ (by omega)]; exact g.w _ _ (by omega)) (fun _ => by rw [z2 _ _ (by omega), x2 _ _ (by omega)]; exact g.w _ _ (by omega)) (fun _ => by rw [z2 _ _ (by omega), x2 _ _ (by omega)]; exact g.w _ _ (by omega)) (fun _ => by rw [z1 _ _ (by omega), x1 _ _ (by omega)]; exact g.m7 _ (by omega)) (fun z => by omega) (fun z => by omega) (fun z => by omega) (by omega)
    · intro c x p q
      exact wP_c (fun z => by omega) (fun z => by omega) (fun z => by omega) (fun z => by omega) (fun _ => by rw [z1 _ _ (by omega), x1 _ _ (by omega)]; exact g.m22 _) (fun _ => by rw [z2 _ _ (by omega), x2 _ _ (by omega)]; exact g.w _ _ (by omega)) (fun _ => by rw [z2 _ _ (by omega), x2 _ _ (by omega)]; exact g.w _ _ (by omega)) (by omega)
    · rw [ej, w5]; show ν2 1009 (60 + i0) - 60 = ν 1013 5; rw [z2 _ _ (by omega), y2]; omega
    · rw [ej, w4]; show ν2 1009 (60 + e0) - 60 = ν 1013 5; rw [z2 _ _ (by omega), y3]; omega
    · rw [ej, w4]; show μ2 (b + 7) e0 = ν 1013 5; rw [z1 _ _ (by omega)]; exact x3)
  exact ⟨μ2, _, e1, e2, q1, q2⟩
