/-! A line begun, both sides; what a line's reading may change. -/
theorem stM_v {b k B n : Int} {μ : am_M} (hb : bOk b) : stM b k B n μ (b + 2) (μ (b + 1) 10) = k ∧ stM b k B n μ (b + 3) (μ (b + 1) 10) = -1 ∧ stM b k B n μ (b + 4) (μ (b + 1) 10) = -1 ∧ stM b k B n μ (b + 5) (μ (b + 1) 10) = 1 ∧ stM b k B n μ (b + 6) (μ (b + 1) 10) = -1 ∧ stM b k B n μ (b + 9) (μ (b + 1) 10) = μ (b + 1) 11 ∧ stM b k B n μ (b + 10) (μ (b + 1) 10) = μ (b + 1) 11 ∧ stM b k B n μ (b + 1) 10 = μ (b + 1) 10 + 1 ∧ stM b k B n μ 20 12 = μ (b + 1) 10 ∧ stM b k B n μ (b + 16) (B - 1) = n := by
  have hb' : b = 100 ∨ b = 200 := hb
  have g : ∀ c i, c ≠ 20 → c ≠ b + 16 → stM b k B n μ c i = addM b k μ c i := fun c i x y => by unfold stM; rw [m_st_c y, m_st_c x]
  have ge : ∀ (ν : am_M) (c i v : Int), m_st ν c i v c i = v := fun ν c i v => by rw [m_st_d, if_pos ⟨rfl, rfl⟩]
  refine ⟨?_, ?_, ?_, ?_, ?_, ?_, ?_, ?_, ?_, ?_⟩
  · rw [g _ _ (by omega) (by omega)]; unfold addM
    rw [m_st_c (by omega), m_st_c (by omega), m_st_c (by omega), m_st_c (by omega), m_st_c (by omega), m_st_c (by omega), m_st_c (by omega), m_st_c (by omega), m_st_c (by omega), ge]
  · rw [g _ _ (by omega) (by omega)]; unfold addM
    rw [m_st_c (by omega), m_st_c (by omega), m_st_c (by omega), m_st_c (by omega), m_st_c (by omega), m_st_c (by omega), m_st_c (by omega), m_st_c (by omega), ge]
  · rw [g _ _ (by omega) (by omega)]; unfold addM
    rw [m_st_c (by omega), m_st_c (by omega), m_st_c (by omega), m_st_c (by omega), m_st_c (by omega), m_st_c (by omega), m_st_c (by omega), ge]
  · rw [g _ _ (by omega) (by omega)]; unfold addM
    rw [m_st_c (by omega), m_st_c (by omega), m_st_c (by omega), m_st_c (by omega), m_st_c (by omega), m_st_c (by omega), ge]
  · rw [g _ _ (by omega) (by omega)]; unfold addM
    rw [m_st_c (by omega), m_st_c (by omega), m_st_c (by omega), m_st_c (by omega), m_st_c (by omega), ge]
  · rw [g _ _ (by omega) (by omega)]; unfold addM
    rw [m_st_c (by omega), m_st_c (by omega), ge]
  · rw [g _ _ (by omega) (by omega)]; unfold addM
    rw [m_st_c (by omega), ge]
  · rw [g _ _ (by omega) (by omega)]; unfold addM
    rw [ge]
  · unfold stM; rw [m_st_c (by omega), ge]
  · unfold stM; rw [ge]
theorem preM_v {k ln : Int} {ν : am_M} : preM k ln ν 1002 ln = k ∧ preM k ln ν 1003 ln = -1 ∧ preM k ln ν 1004 ln = -1 ∧ preM k ln ν 1005 ln = 1 ∧ preM k ln ν 1006 ln = -1 ∧ preM k ln ν 1010 ln = ν 1000 30 ∧ preM k ln ν 1011 ln = ν 1000 30 ∧ ∀ i, 0 ≤ i → i < 4 → preM k ln ν 1007 (4 * ln + i) = -1 := by
  have ge : ∀ (ν : am_M) (c i v : Int), m_st ν c i v c i = v := fun ν c i v => by rw [m_st_d, if_pos ⟨rfl, rfl⟩]
  unfold preM
  refine ⟨?_, ?_, ?_, ?_, ?_, ?_, ?_, ?_⟩
  · rw [m_st_c (by decide), m_st_c (by decide), m_st_c (by decide), m_st_c (by decide), m_st_c (by decide), m_st_c (by decide), m_st_c (by decide), m_st_c (by decide), m_st_c (by decide), m_st_c (by decide), ge]
  · rw [m_st_c (by decide), m_st_c (by decide), m_st_c (by decide), m_st_c (by decide), m_st_c (by decide), m_st_c (by decide), m_st_c (by decide), m_st_c (by decide), m_st_c (by decide), ge]
  · rw [m_st_c (by decide), m_st_c (by decide), m_st_c (by decide), m_st_c (by decide), m_st_c (by decide), m_st_c (by decide), m_st_c (by decide), m_st_c (by decide), ge]
  · rw [m_st_c (by decide), m_st_c (by decide), m_st_c (by decide), m_st_c (by decide), m_st_c (by decide), m_st_c (by decide), m_st_c (by decide), ge]
  · rw [m_st_c (by decide), m_st_c (by decide), m_st_c (by decide), m_st_c (by decide), m_st_c (by decide), m_st_c (by decide), ge]
  · rw [m_st_c (by decide), m_st_c (by decide), m_st_c (by decide), m_st_c (by decide), m_st_c (by decide), ge]
  · rw [m_st_c (by decide), m_st_c (by decide), m_st_c (by decide), m_st_c (by decide), ge]
  · intro i x y
    rw [m_st_d, m_st_d, m_st_d, m_st_d]
    by_cases z3 : i = 3
    · rw [if_pos (by omega)]
    rw [if_neg (by omega)]
    by_cases z2 : i = 2
    · rw [if_pos (by omega)]
    rw [if_neg (by omega)]
    by_cases z1 : i = 1
    · rw [if_pos (by omega)]
    rw [if_neg (by omega), if_pos (by omega)]
theorem beg_s {b B W f T D k : Int} {Wn σ : Int → Int} {μ ν ν0 : am_M} (hb : bOk b) (h : PB b B W Wn μ ν) (o : OB b B W f T D Wn σ μ ν) (hk : 0 ≤ k ∧ k ≤ 8) (hK : μ 10 5 = 100 + k) (h60 : ν 1013 5 < 60)
    (g0 : ∀ c i, ¬ (c = 1000 ∧ i = 44) → ν0 c i = preM k (60 + ν 1013 5) ν c i) :
    ∃ μ1 ν1, Tp_advance (stM b k B (ν 1013 5 - f + 1) μ) = some (0, μ1) ∧ M_nextToken ν0 = some (0, ν1) ∧ LB b B W (ν 1013 5) (μ (b + 1) 11) k μ1 ν1 ∧ (∀ c i, c ≠ 10 → μ1 c i = stM b k B (ν 1013 5 - f + 1) μ c i) ∧ (∀ c i, ¬ (c = 1000 ∧ 4 ≤ i ∧ i ≤ 8) → ν1 c i = ν0 c i) := by
  have hb' : b = 100 ∨ b = 200 := hb
  have hcn := h.cn
  have hc6 := h.c6
  have hp0 := h.p0
  have hcap := h.cap
  have hcaq := h.caq
  have hB0 := h.nw.b0
  have hcB := h.cB
  have v := stM_v (k := k) (B := B) (n := ν 1013 5 - f + 1) (μ := μ) hb
  have w := preM_v (k := k) (ln := 60 + ν 1013 5) (ν := ν)
  have fs : ∀ c i, ¬ ((b + 2 ≤ c ∧ c ≤ b + 10 ∧ i = ν 1013 5) ∨ (c = b + 1 ∧ i = 10) ∨ (c = 20 ∧ i = 12) ∨ (c = b + 16 ∧ i = B - 1)) → stM b k B (ν 1013 5 - f + 1) μ c i = μ c i := fun c i z => stM_f c i (by rw [hcn]; exact z)
  have fp : ∀ c i, ¬ (c = 1000 ∧ i = 44) → ¬ ((((1002 ≤ c ∧ c ≤ 1006) ∨ c = 1010 ∨ c = 1011) ∧ i = 60 + ν 1013 5) ∨ (c = 1007 ∧ 4 * (60 + ν 1013 5) ≤ i ∧ i < 4 * (60 + ν 1013 5) + 4)) → ν0 c i = ν c i := fun c i z y => by rw [g0 c i z]; exact preM_f c i y
  rw [hcn] at v
  generalize stM b k B (ν 1013 5 - f + 1) μ = μs at *
  have trs : TR μs ν0 := h.tr.cong (fun c i z => fs c i (by omega)) (fun c i z => fp c i (by omega) (by omega))
  obtain ⟨μ1, ν1, a1, a2, a3, a4, a5, a6, a7⟩ := TR_adv trs.base
  have hlst := h.tr.lst (fun z => by have := (tkN h.tr).2.1.mp z; omega)
  have e3 : μs 10 4 = μ 10 4 := fs _ _ (by omega)
  have e10 : ∀ i, μs 10 i = μ 10 i := fun i => fs _ _ (by omega)
  have e11 : μ1 (b + 1) 11 = μ (b + 1) 11 := by rw [a4 _ _ (by omega), fs _ _ (by omega)]
  have e30 : ν1 1000 30 = ν 1000 30 := by rw [a5 _ _ (by omega), fp _ _ (by omega) (by omega)]
  obtain ⟨v2, v3, v4, v5, v6, v9, v10, vn, v12, v16⟩ := v
  obtain ⟨w2, w3, w4, w5, w6, w10, w11, w7⟩ := w
  refine ⟨μ1, ν1, a1, a2, ?_, a4, a5⟩
  refine (LB.mk (ln := ?_) (pc := e11) (k2 := by rw [a4 _ _ (by omega)]; exact v2) (k3 := by rw [a4 _ _ (by omega)]; exact v3) (k4 := by rw [a4 _ _ (by omega)]; exact v4) (k5 := by rw [a4 _ _ (by omega)]; exact v5) (k6 := by rw [a4 _ _ (by omega)]; exact v6) (m2 := by rw [a5 _ _ (by omega), g0 _ _ (by omega)]; exact w2) (m3 := by rw [a5 _ _ (by omega), g0 _ _ (by omega)]; exact w3) (m4 := by rw [a5 _ _ (by omega), g0 _ _ (by omega)]; exact w4) (m5 := by rw [a5 _ _ (by omega), g0 _ _ (by omega)]; exact w5) (m6 := by rw [a5 _ _ (by omega), g0 _ _ (by omega)]; exact w6) (m7 := fun i x y => by rw [a5 _ _ (by omega), g0 _ _ (by omega)]; exact w7 i x y) (m10 := by rw [e30, a5 _ _ (by omega), g0 _ _ (by omega)]; exact w10) (m11 := by rw [e30, a5 _ _ (by omega), g0 _ _ (by omega)]; exact w11))
  exact (LN.mk (tr := a3) (rd := h.rd.cong (fun i z => by rw [a4 _ _ (by omega), fs _ _ (by omega)])) (nw := h.nw.cong (fun c i z => by rw [a4 _ _ (by omega), fs _ _ (by omega)]) (fun c i z => by rw [a5 _ _ (by omega), fp _ _ (by omega) (by omega)])) (sl := o.sl.cong (fun c i z => by rw [a4 _ _ (by omega), fs _ _ (by omega)]) (fun c i z => by rw [a5 _ _ (by omega), fp _ _ (by omega) (by omega)])) (cB := by rw [a5 _ _ (by omega), fp _ _ (by omega) (by omega)]; exact h.cB) (cW := by rw [a5 _ _ (by omega), fp _ _ (by omega) (by omega)]; exact h.cW) (B1 := o.b1) (cnt := by rw [a4 _ _ (by omega)]; exact vn) (reg := by rw [a4 _ _ (by omega)]; exact v12) (l0 := by omega) (st := by rw [a4 _ _ (by omega)]; exact v9) (sp := by rw [e11, a4 _ _ (by omega)]; exact v10) (p0 := by rw [e11]; omega) (cap := by rw [e11]; have := e10 3; omega) (q0 := by rw [e30]; exact h.q0) (caq := by rw [e30]; have := e10 3; omega))
/-- all that the reading of line l of bill B - 1 may change -/
def GM (b f p l B : Int) (μ μ4 : am_M) : Prop := ∀ c i, ¬ (c = 10 ∨ (c = 20 ∧ ((6 ≤ i ∧ i ≤ 10) ∨ i = 12 ∨ i = 13)) ∨ c = 21 ∨ c = 22 ∨ c = 23 ∨ (c = b + 1 ∧ (i = 10 ∨ i = 11)) ∨ (b + 2 ≤ c ∧ c ≤ b + 10 ∧ i = l) ∨ (c = b + 7 ∧ f ≤ i) ∨ (c = b + 11 ∧ p ≤ i) ∨ (b + 16 ≤ c ∧ c ≤ b + 18 ∧ i = B - 1)) → μ4 c i = μ c i
def GN (f q l B : Int) (ν ν4 : am_M) : Prop := ∀ c i, ¬ ((c = 1000 ∧ ((4 ≤ i ∧ i ≤ 9) ∨ i = 30 ∨ (43 ≤ i ∧ i ≤ 45))) ∨ (((1002 ≤ c ∧ c ≤ 1006) ∨ c = 1010 ∨ c = 1011) ∧ i = 60 + l) ∨ (c = 1007 ∧ 4 * (60 + l) ≤ i ∧ i < 4 * (60 + l) + 4) ∨ ((c = 1008 ∨ c = 1009) ∧ 60 + f ≤ i) ∨ (c = 1012 ∧ q ≤ i) ∨ (c = 1013 ∧ i = 5) ∨ (1018 ≤ c ∧ c ≤ 1020 ∧ i = 3 + B) ∨ (1021 ≤ c ∧ c ≤ 1023) ∨ c = 1034 ∨ c = 1035) → ν4 c i = ν c i
theorem GM.tr {b f p l B : Int} {μ μ' μ'' : am_M} (h : GM b f p l B μ μ') (h' : GM b f p l B μ' μ'') : GM b f p l B μ μ'' := fun c i z => by rw [h' c i z, h c i z]
theorem GN.tr {f q l B : Int} {μ μ' μ'' : am_M} (h : GN f q l B μ μ') (h' : GN f q l B μ' μ'') : GN f q l B μ μ'' := fun c i z => by rw [h' c i z, h c i z]
theorem FL1.gm {b f p l B : Int} {μ μ' : am_M} (h : FL1 b l p μ μ') : GM b f p l B μ μ' := fun c i z => h c i (by omega)
theorem FL2.gn {f q l B : Int} {μ μ' : am_M} (h : FL2 B l q μ μ') : GN f q l B μ μ' := fun c i z => h c i (by omega)
theorem GM.fa {b f p l B : Int} {μ μ' : am_M} (h : GM b f p l B μ μ') : FA b μ μ' := fun c i z => h c i (by omega)
theorem GN.fn {f q l B : Int} {μ μ' : am_M} (h : GN f q l B μ μ') (hf : 0 ≤ f) (hq : 1000 ≤ q) (hl : 0 ≤ l) (hB : 1 ≤ B) : FN μ μ' := fun c i z => h c i (by omega)
theorem beg_gm {b B f k n p : Int} {μ μ1 : am_M} (a4 : ∀ c i, c ≠ 10 → μ1 c i = stM b k B n μ c i) : GM b f p (μ (b + 1) 10) B μ μ1 := fun c i z => by rw [a4 c i (by omega), stM_f c i (by omega)]
theorem beg_gn {f q k B : Int} {ν ν0 ν1 : am_M} {ln : Int} (g0 : ∀ c i, ¬ (c = 1000 ∧ i = 44) → ν0 c i = preM k (60 + ln) ν c i) (a5 : ∀ c i, ¬ (c = 1000 ∧ 4 ≤ i ∧ i ≤ 8) → ν1 c i = ν0 c i) : GN f q ln B ν ν1 := fun c i z => by rw [a5 c i (by omega), g0 c i (by omega), preM_f c i (by omega)]
theorem LQ.cong {o oB B t l S0 S1 : Int} {ν ν' : am_M} (h : LQ o oB B t l S0 S1 ν) (g : ∀ c i, (1002 ≤ c ∧ c ≤ 1006 ∧ i = o + l) ∨ (1010 ≤ c ∧ c ≤ 1011 ∧ i = o + l) ∨ (c = 1012 ∧ i < ν 1011 (o + l)) → ν' c i = ν c i) (g2 : ν 1002 (o + l) = 4 → ν' 1019 (oB + ν 1006 (o + l)) = ν 1019 (oB + ν 1006 (o + l))) : LQ o oB B t l S0 S1 ν' := by
  have c2 := g 1002 (o + l) (by omega)
  have c3 := g 1003 (o + l) (by omega)
  have c6 := g 1006 (o + l) (by omega)
  have c10 := g 1010 (o + l) (by omega)
  have c11 := g 1011 (o + l) (by omega)
  refine (LQ.mk (cl := ?_) (la := by rw [c2, c3]; exact h.la) (ns := ?_) (ss := h.ss) (n0 := by rw [c2, c3]; exact h.n0))
  · rw [c2, c6]
    intro z
    rw [g2 z]
    exact h.cl z
  · rw [c2, c3, c10, c11]
    intro z n x y
    rcases h.ns z n x y with y | ⟨i, y1, y2, y3⟩
    · exact Or.inl y
    · exact Or.inr ⟨i, y1, y2, by rw [g 1012 i (by omega)]; exact y3⟩
