/-! What else is known of a line that was read; call. -/
/-- of its callee, of the slips that it names first -/
def LQ (o oB B t l S0 S1 : Int) (ν : am_M) : Prop := (ν 1002 (o + l) = 4 → ν 1006 (o + l) < B ∧ t = ν 1019 (oB + ν 1006 (o + l))) ∧ ((ν 1002 (o + l) = 0 ∨ ν 1002 (o + l) = 1 ∨ ν 1002 (o + l) = 8) → ν 1003 (o + l) ≤ S0) ∧ ((ν 1002 (o + l) = 0 ∨ ν 1002 (o + l) = 1 ∨ ν 1002 (o + l) = 8) → ∀ n, S0 ≤ n → n < S1 → n = ν 1003 (o + l) ∨ ∃ i, ν 1010 (o + l) ≤ i ∧ i < ν 1011 (o + l) ∧ ν 1012 i = 1 + n) ∧ (S0 ≤ S1) ∧ (ν 1002 (o + l) = 0 → ∀ n, S0 ≤ n → n < S1 → n = ν 1003 (o + l))
theorem LQ.cl {o oB B t l S0 S1 : Int} {ν : am_M} (h : LQ o oB B t l S0 S1 ν) : ν 1002 (o + l) = 4 → ν 1006 (o + l) < B ∧ t = ν 1019 (oB + ν 1006 (o + l)) := h.1
theorem LQ.la {o oB B t l S0 S1 : Int} {ν : am_M} (h : LQ o oB B t l S0 S1 ν) : (ν 1002 (o + l) = 0 ∨ ν 1002 (o + l) = 1 ∨ ν 1002 (o + l) = 8) → ν 1003 (o + l) ≤ S0 := h.2.1
theorem LQ.ns {o oB B t l S0 S1 : Int} {ν : am_M} (h : LQ o oB B t l S0 S1 ν) : (ν 1002 (o + l) = 0 ∨ ν 1002 (o + l) = 1 ∨ ν 1002 (o + l) = 8) → ∀ n, S0 ≤ n → n < S1 → n = ν 1003 (o + l) ∨ ∃ i, ν 1010 (o + l) ≤ i ∧ i < ν 1011 (o + l) ∧ ν 1012 i = 1 + n := h.2.2.1
theorem LQ.ss {o oB B t l S0 S1 : Int} {ν : am_M} (h : LQ o oB B t l S0 S1 ν) : S0 ≤ S1 := h.2.2.2.1
theorem LQ.n0 {o oB B t l S0 S1 : Int} {ν : am_M} (h : LQ o oB B t l S0 S1 ν) : ν 1002 (o + l) = 0 → ∀ n, S0 ≤ n → n < S1 → n = ν 1003 (o + l) := h.2.2.2.2
theorem LQ.mk {o oB B t l S0 S1 : Int} {ν : am_M} (cl : ν 1002 (o + l) = 4 → ν 1006 (o + l) < B ∧ t = ν 1019 (oB + ν 1006 (o + l))) (la : (ν 1002 (o + l) = 0 ∨ ν 1002 (o + l) = 1 ∨ ν 1002 (o + l) = 8) → ν 1003 (o + l) ≤ S0) (ns : (ν 1002 (o + l) = 0 ∨ ν 1002 (o + l) = 1 ∨ ν 1002 (o + l) = 8) → ∀ n, S0 ≤ n → n < S1 → n = ν 1003 (o + l) ∨ ∃ i, ν 1010 (o + l) ≤ i ∧ i < ν 1011 (o + l) ∧ ν 1012 i = 1 + n) (ss : S0 ≤ S1) (n0 : ν 1002 (o + l) = 0 → ∀ n, S0 ≤ n → n < S1 → n = ν 1003 (o + l)) : LQ o oB B t l S0 S1 ν := ⟨cl, la, ns, ss, n0⟩
/-- where its codes lie with the reference -/
def RZ (l q : Int) (ν : am_M) : Prop := ν 1010 (60 + l) = q ∧ ν 1011 (60 + l) = ν 1000 30
/-- a line's outcome, with all of it -/
def LOQ (b B W l p q t : Int) (Wn : Int → Int) (μ ν : am_M) (x y : am_O) : Prop :=
  ∃ r μ1, x = some (r, μ1) ∧ FL1 b l p μ μ1 ∧ ((r = 0 ∧ ∃ ν1, y = some (0, ν1) ∧ FL μ1 ν1 ∧ FL2 B l q ν ν1) ∨
    (r = 1 ∧ ∃ r2 μ2 ν2, Rd_expect 59 μ1 = some (r2, μ2) ∧ y = some (r2, ν2) ∧ FL1 b l p μ μ2 ∧ FL2 B l q ν ν2 ∧ ((r2 = 0 ∧ FL μ2 ν2) ∨ (r2 = 1 ∧ LN b B W l p μ2 ν2 ∧ LR b 60 1000 W (μ2 20 6) t l Wn μ2 ν2 ∧ LQ 60 4 B t l (μ 20 6) (μ2 20 6) ν2 ∧ RZ l q ν2))))
theorem LO.toQ {b B W l p q t : Int} {Wn : Int → Int} {μ ν : am_M} {x y : am_O} (h : LO b B W l p q t Wn μ ν x y) (hk : ν 1002 (60 + l) = 2 ∨ ν 1002 (60 + l) = 3) (h30 : ν 1000 30 = q) (h10 : ν 1010 (60 + l) = ν 1000 30) (h11 : ν 1011 (60 + l) = ν 1000 30) : LOQ b B W l p q t Wn μ ν x y := by
  obtain ⟨r, μ1, a1, a2, a3⟩ := h
  refine ⟨r, μ1, a1, a2, ?_⟩
  rcases a3 with z | ⟨z1, r2, μ2, ν2, b1, b2, b3, b4, b5⟩
  · exact Or.inl z
  · refine Or.inr ⟨z1, r2, μ2, ν2, b1, b2, b3, b4, ?_⟩
    rcases b5 with y | ⟨y1, y2, y3, y4, y5, y6, y7, y8⟩
    · exact Or.inl y
    · have e : ν2 1002 (60 + l) = ν 1002 (60 + l) := b4 _ _ (by omega)
      exact Or.inr ⟨y1, y2, y3, (LQ.mk (cl := fun w => by omega) (la := fun w => by omega) (ns := fun w => by omega) (ss := y4) (n0 := fun w => by omega)), by rw [y7, h10, h30], by rw [y8, y6, h11]⟩
theorem LOQ_fail {b B W l p q t : Int} {Wn : Int → Int} {μ ν μ1 ν1 : am_M} (f1 : FL1 b l p μ μ1) (f2 : FL2 B l q ν ν1) (hf : FL μ1 ν1) : LOQ b B W l p q t Wn μ ν (some (0, μ1)) (some (0, ν1)) := ⟨0, μ1, rfl, f1, Or.inl ⟨rfl, ν1, rfl, hf, f2⟩⟩
theorem line_endQ {b B W l p q t : Int} {Wn : Int → Int} {μ ν μ1 ν1 : am_M} (hb : bOk b) (ln1 : LN b B W l p μ1 ν1) (f1 : FL1 b l p μ μ1) (f2 : FL2 B l q ν ν1) (hz : RZ l q ν1)
    (H : ∀ μ2 ν2, LN b B W l p μ2 ν2 → (∀ c i, c ≠ 10 → μ2 c i = μ1 c i) → (∀ c i, ¬ (c = 1000 ∧ 4 ≤ i ∧ i ≤ 8) → ν2 c i = ν1 c i) → LR b 60 1000 W (μ2 20 6) t l Wn μ2 ν2 ∧ LQ 60 4 B t l (μ 20 6) (μ2 20 6) ν2) : LOQ b B W l p q t Wn μ ν (some (1, μ1)) (q_bd (M_ends ν1) fun a7 μ8 => if a7 = 0 then (some (0, μ8)) else (some (1, μ8))) := by
  obtain ⟨r2, μ3, ν3, c1, c2, c3⟩ := ends_s ln1.tr ln1.rd.rf
  rw [c2, q_bd_s]
  refine ⟨1, μ1, rfl, f1, Or.inr ⟨rfl, r2, μ3, ν3, c1, ?_, ?_⟩⟩
  · rcases c3 with ⟨d1, -⟩ | ⟨d1, -⟩ <;> (subst d1; rfl)
  · rcases c3 with ⟨d1, d2, d3, d4⟩ | ⟨d1, d2, d3, d4, d5⟩
    · exact ⟨f1.tr (FL1_f d3), f2.tr (FL2_f d4), Or.inl ⟨d1, d2⟩⟩
    · have ln3 := LN_adv hb ln1 d2 d3 d4 d5
      obtain ⟨H1, H2⟩ := H μ3 ν3 ln3 d3 d4
      exact ⟨f1.tr (FL1_10 d3), f2.tr (FL2_t d4), Or.inr ⟨d1, ln3, H1, H2, by rw [d4 _ _ (by omega)]; exact hz.1, by rw [d4 _ _ (by omega), d4 _ _ (by omega)]; exact hz.2⟩⟩
theorem FRS.fl1' {b l p pt : Int} {μ μ' : am_M} (h : FRS b l pt μ μ') (hp : p ≤ μ (b + 1) 11) : FL1 b l p μ μ' := fun c i z => h c i (by omega)
/-- while a callee's slips are read -/
def CI (b B W l p q t cal k : Int) (μ0 ν0 μ ν : am_M) : Prop := (LN b B W l p μ ν) ∧ (FL1 b l p μ0 μ) ∧ (FL2 B l q ν0 ν) ∧ (μ0 20 6 ≤ μ 20 6) ∧ (μ0 10 3 ≤ μ 10 3) ∧ (μ (b + 1) 11 = p + k) ∧ (ν 1000 30 = q) ∧ (0 ≤ k ∧ k ≤ t) ∧ (μ (b + 6) l = cal) ∧ (∀ c, b + 2 ≤ c → c ≤ b + 5 → μ c l = μ0 c l) ∧ (ν 1006 (60 + l) = cal) ∧ (∀ c, (c = 1002 ∨ c = 1003 ∨ c = 1004 ∨ c = 1005 ∨ c = 1010 ∨ c = 1011) → ν c (60 + l) = ν0 c (60 + l)) ∧ (∀ i, 0 ≤ i → i < k → 0 ≤ ν 1007 (4 * (60 + l) + i) ∧ ν 1007 (4 * (60 + l) + i) < μ 20 6 ∧ μ (b + 11) (p + i) = 2 + ν 1007 (4 * (60 + l) + i) * 128) ∧ (∀ i, k ≤ i → i < 4 → ν 1007 (4 * (60 + l) + i) = -1)
theorem CI.ln {b B W l p q t cal k : Int} {μ0 ν0 μ ν : am_M} (h : CI b B W l p q t cal k μ0 ν0 μ ν) : LN b B W l p μ ν := h.1
theorem CI.f1 {b B W l p q t cal k : Int} {μ0 ν0 μ ν : am_M} (h : CI b B W l p q t cal k μ0 ν0 μ ν) : FL1 b l p μ0 μ := h.2.1
theorem CI.f2 {b B W l p q t cal k : Int} {μ0 ν0 μ ν : am_M} (h : CI b B W l p q t cal k μ0 ν0 μ ν) : FL2 B l q ν0 ν := h.2.2.1
theorem CI.s6 {b B W l p q t cal k : Int} {μ0 ν0 μ ν : am_M} (h : CI b B W l p q t cal k μ0 ν0 μ ν) : μ0 20 6 ≤ μ 20 6 := h.2.2.2.1
theorem CI.t3 {b B W l p q t cal k : Int} {μ0 ν0 μ ν : am_M} (h : CI b B W l p q t cal k μ0 ν0 μ ν) : μ0 10 3 ≤ μ 10 3 := h.2.2.2.2.1
theorem CI.cc {b B W l p q t cal k : Int} {μ0 ν0 μ ν : am_M} (h : CI b B W l p q t cal k μ0 ν0 μ ν) : μ (b + 1) 11 = p + k := h.2.2.2.2.2.1
theorem CI.c30 {b B W l p q t cal k : Int} {μ0 ν0 μ ν : am_M} (h : CI b B W l p q t cal k μ0 ν0 μ ν) : ν 1000 30 = q := h.2.2.2.2.2.2.1
theorem CI.k0 {b B W l p q t cal k : Int} {μ0 ν0 μ ν : am_M} (h : CI b B W l p q t cal k μ0 ν0 μ ν) : 0 ≤ k ∧ k ≤ t := h.2.2.2.2.2.2.2.1
theorem CI.c6 {b B W l p q t cal k : Int} {μ0 ν0 μ ν : am_M} (h : CI b B W l p q t cal k μ0 ν0 μ ν) : μ (b + 6) l = cal := h.2.2.2.2.2.2.2.2.1
theorem CI.cr {b B W l p q t cal k : Int} {μ0 ν0 μ ν : am_M} (h : CI b B W l p q t cal k μ0 ν0 μ ν) : ∀ c, b + 2 ≤ c → c ≤ b + 5 → μ c l = μ0 c l := h.2.2.2.2.2.2.2.2.2.1
theorem CI.m6 {b B W l p q t cal k : Int} {μ0 ν0 μ ν : am_M} (h : CI b B W l p q t cal k μ0 ν0 μ ν) : ν 1006 (60 + l) = cal := h.2.2.2.2.2.2.2.2.2.2.1
theorem CI.mr {b B W l p q t cal k : Int} {μ0 ν0 μ ν : am_M} (h : CI b B W l p q t cal k μ0 ν0 μ ν) : ∀ c, (c = 1002 ∨ c = 1003 ∨ c = 1004 ∨ c = 1005 ∨ c = 1010 ∨ c = 1011) → ν c (60 + l) = ν0 c (60 + l) := h.2.2.2.2.2.2.2.2.2.2.2.1
theorem CI.so {b B W l p q t cal k : Int} {μ0 ν0 μ ν : am_M} (h : CI b B W l p q t cal k μ0 ν0 μ ν) : ∀ i, 0 ≤ i → i < k → 0 ≤ ν 1007 (4 * (60 + l) + i) ∧ ν 1007 (4 * (60 + l) + i) < μ 20 6 ∧ μ (b + 11) (p + i) = 2 + ν 1007 (4 * (60 + l) + i) * 128 := h.2.2.2.2.2.2.2.2.2.2.2.2.1
theorem CI.sn {b B W l p q t cal k : Int} {μ0 ν0 μ ν : am_M} (h : CI b B W l p q t cal k μ0 ν0 μ ν) : ∀ i, k ≤ i → i < 4 → ν 1007 (4 * (60 + l) + i) = -1 := h.2.2.2.2.2.2.2.2.2.2.2.2.2
theorem CI.mk {b B W l p q t cal k : Int} {μ0 ν0 μ ν : am_M} (ln : LN b B W l p μ ν) (f1 : FL1 b l p μ0 μ) (f2 : FL2 B l q ν0 ν) (s6 : μ0 20 6 ≤ μ 20 6) (t3 : μ0 10 3 ≤ μ 10 3) (cc : μ (b + 1) 11 = p + k) (c30 : ν 1000 30 = q) (k0 : 0 ≤ k ∧ k ≤ t) (c6 : μ (b + 6) l = cal) (cr : ∀ c, b + 2 ≤ c → c ≤ b + 5 → μ c l = μ0 c l) (m6 : ν 1006 (60 + l) = cal) (mr : ∀ c, (c = 1002 ∨ c = 1003 ∨ c = 1004 ∨ c = 1005 ∨ c = 1010 ∨ c = 1011) → ν c (60 + l) = ν0 c (60 + l)) (so : ∀ i, 0 ≤ i → i < k → 0 ≤ ν 1007 (4 * (60 + l) + i) ∧ ν 1007 (4 * (60 + l) + i) < μ 20 6 ∧ μ (b + 11) (p + i) = 2 + ν 1007 (4 * (60 + l) + i) * 128) (sn : ∀ i, k ≤ i → i < 4 → ν 1007 (4 * (60 + l) + i) = -1) : CI b B W l p q t cal k μ0 ν0 μ ν := ⟨ln, f1, f2, s6, t3, cc, c30, k0, c6, cr, m6, mr, so, sn⟩
theorem CI_step {b B W l p q t cal k s : Int} {μ0 ν0 μ ν μ1 ν1 : am_M} (hb : bOk b) (h : CI b B W l p q t cal k μ0 ν0 μ ν) (hk : k < t) (ht : t ≤ 4) (a3 : FRS b l 0 μ μ1) (a4 : FMS B ν ν1) (ln : LN b B W l p μ1 ν1) (s0 : 0 ≤ s) (s1 : s < μ1 20 6) (cc : μ1 (b + 1) 11 = μ (b + 1) 11 + 1 ∧ μ1 (b + 11) (μ (b + 1) 11) = 2 + s * 128) (h6 : μ 20 6 ≤ μ1 20 6) (h3 : μ 10 3 < μ1 10 3) : CI b B W l p q t cal (k + 1) μ0 ν0 μ1 (m_st ν1 1007 (4 * (60 + l) + k) s) := by
  have hb' : b = 100 ∨ b = 200 := hb
  have hl := h.ln.l0
  have hc := h.cc
  have hk0 := h.k0
  have h66 := h.s6
  have h33 := h.t3
  have g : ∀ c i, ¬ (c = 1007 ∧ i = 4 * (60 + l) + k) → m_st ν1 1007 (4 * (60 + l) + k) s c i = ν1 c i := fun c i z => by rw [m_st_d, if_neg z]
  have gs : m_st ν1 1007 (4 * (60 + l) + k) s 1007 (4 * (60 + l) + k) = s := by rw [m_st_d, if_pos ⟨rfl, rfl⟩]
  refine (CI.mk (ln := LN_set ln (by decide)) (f1 := h.f1.tr (a3.fl1' (by omega))) (f2 := (h.f2.tr a4.fl2).tr (FL2_set (by omega))) (s6 := by omega) (t3 := by omega) (cc := by omega) (c30 := by rw [g _ _ (by omega), a4 _ _ (by omega)]; exact h.c30) (k0 := by omega) (c6 := ?_) (cr := fun c x y => ?_) (m6 := ?_) (mr := fun c x => ?_) (so := fun i x y => ?_) (sn := fun i x y => ?_))
  · rw [a3.row hb (by omega) (fun _ => by omega) (fun z => by omega) (fun z => by omega)]; exact h.c6
  · rw [a3.row hb (by omega) (fun _ => by omega) (fun z => by omega) (fun z => by omega)]; exact h.cr c x y
  · rw [g _ _ (by omega), a4 _ _ (by omega)]; exact h.m6
  · rw [g _ _ (by omega), a4 _ _ (by omega)]; exact h.mr c x
  · by_cases z : i = k
    · subst z
      rw [gs]
      refine ⟨s0, s1, ?_⟩
      rw [← hc]; exact cc.2
    · have := h.so i x (by omega)
      rw [g _ _ (by omega), a4 _ _ (by omega), a3.row (c := b + 11) (i := p + i) hb (by omega) (fun _ => by omega) (fun z => by omega) (fun z => by omega)]
      exact ⟨this.1, by omega, this.2.2⟩
  · rw [g _ _ (by omega), a4 _ _ (by omega)]; exact h.sn i (by omega) y
set_option maxHeartbeats 4000000 in
theorem call_end {b B W l p q t cal : Int} {Wn : Int → Int} {μ0 ν0 μ ν : am_M} (hb : bOk b) (h0 : LB b B W l p 4 μ0 ν0) (h : CI b B W l p q t cal t μ0 ν0 μ ν) (ht : 0 ≤ t ∧ t ≤ 4) (hcal : 0 ≤ cal ∧ cal < B) (htk : ν0 1019 (4 + cal) = t) (hq : ν0 1000 30 = q) :
    LOQ b B W l p q t Wn μ0 ν0 (q_bd (if (μ 10 5) = 2 then (q_bd (Rd_isWall μ) fun a1 μ2 => if a1 = 0 then (Rd_readCall_B134 5 μ2) else (Rd_readCall_B134 3 μ2)) else (some (1, μ))) fun a26 μ27 => if a26 = 0 then (some (0, μ27)) else (q_bd (Rd_expect 113 μ27) fun a28 μ29 => if a28 = 0 then (some (0, μ29)) else (q_bd (Rd_readSlip 1 μ29) fun a30 μ31 => if a30 = 0 then (some (0, μ31)) else (some (1, μ31)))))
      (q_bd (M_isKept ν) fun a2 μ3 => if a2 = 0 then (q_bd (M_wallOf μ3) fun a12 μ13 => if a12 < 0 then (M_readsCall_B108 5 μ13) else (M_readsCall_B108 3 μ13)) else (q_bd (M_needsWord 46 μ3) fun a4 μ5 => if a4 = 0 then (some (0, μ5)) else (q_bd (M_needsSlip μ5) fun a6 μ7 => q_st 120 1003 (60 + l) a6 μ7 fun μ8 => q_ld 120 1003 (60 + l) μ8 fun a9 => if a9 < 0 then (some (0, μ8)) else (q_bd (M_ends μ8) fun a10 μ11 => if a10 = 0 then (some (0, μ11)) else (some (1, μ11)))))) := by
  have hb' : b = 100 ∨ b = 200 := hb
  have hl := h.ln.l0
  have hW := h.ln.nw.w0
  rw [isKp h.ln.tr, q_bd_s]
  have fl : ∀ k : Int, 1 ≤ k ∧ k ≤ 5 → LOQ b B W l p q t Wn μ0 ν0 (q_bd (Rd_readCall_B134 k μ) fun a26 μ27 => if a26 = 0 then (some (0, μ27)) else (q_bd (Rd_expect 113 μ27) fun a28 μ29 => if a28 = 0 then (some (0, μ29)) else (q_bd (Rd_readSlip 1 μ29) fun a30 μ31 => if a30 = 0 then (some (0, μ31)) else (some (1, μ31))))) (M_readsCall_B108 k ν) := by
    intro k hk
    obtain ⟨x1, x2, x3⟩ := fail_s (k := k) h.ln.tr h.ln.rd.rf hk
    unfold Rd_readCall_B134 M_readsCall_B108
    rw [x1, x2, q_bd_s, q_bd_s, q_rb0, q_rb0, q_bd_s, if_pos rfl]
    exact LOQ_fail (h.f1.tr (FL1_f fun c i z => by rw [m_st_d, if_neg z])) (h.f2.tr (FL2_f fun c i z => by rw [m_st_d, if_neg z])) x3
  by_cases c2 : μ 10 5 = 2
  · rw [if_pos c2, if_pos c2, if_pos rfl]
    have hk := (tkN h.ln.tr).2.2 c2
    have hwf := wf_s hb h.ln.tr h.ln.nw hk
    have hwr : wf ν = -1 ∨ (0 ≤ wf ν ∧ wf ν < ν 1013 3) := by
      unfold wf
      rcases fnd_b (ν 1014) (ν 1000 7) (ν 1013 3).toNat 0 (Int.le_refl _) with z | ⟨z1, z2, -⟩
      · exact Or.inl z
      · right; omega
    rw [Rd_isWall_s hb h.ln.tr h.ln.rd h.ln.nw hk, q_bd_s, hwf.2, q_bd_s]
    by_cases c3 : wf ν = -1
    · rw [if_pos c3, if_pos rfl, if_pos (show wf ν < 0 by omega)]
      exact fl 5 (by decide)
    · rw [if_neg c3, if_neg (by decide), if_neg (show ¬ wf ν < 0 by omega)]
      exact fl 3 (by decide)
  rw [if_neg c2, if_neg c2, if_neg (by decide), q_bd_s, if_neg (by decide)]
  obtain ⟨r2, μ2, ν2, c1, c2, c3⟩ := expect_s h.ln.tr h.ln.rd.rf (isWd h.ln.tr (by decide : (100 : Int) ≤ 113) kwI13) (by decide)
  rw [c1, c2, q_bd_s, q_bd_s]
  rcases c3 with ⟨d1, d2, d3, d4⟩ | ⟨d1, d2, d3, d4, d5⟩
  · subst d1
    rw [if_pos rfl, if_pos rfl]
    exact LOQ_fail (h.f1.tr (FL1_f d3)) (h.f2.tr (FL2_f d4)) d2
  subst d1
  rw [if_neg (by decide), if_neg (by decide)]
  have ln2 := LN_adv hb h.ln d2 d3 d4 d5
  have fl1b := h.f1.tr (FL1_10 d3)
  have fl2b := h.f2.tr (FL2_t d4)
  obtain ⟨r3, μ3, s1, ν3, g1, g2, g3, g4, g5⟩ := slip_read hb (Or.inr (Or.inl rfl)) ln2
  rw [g1, g2, q_bd_s, q_bd_s, q_st_s (by omega) (by omega), q_ld_s (by omega) (by omega)]
  have e8 : m_st ν3 1003 (60 + l) s1 1003 (60 + l) = s1 := by rw [m_st_d, if_pos ⟨rfl, rfl⟩]
  have e9 : ∀ c i, ¬ (c = 1003 ∧ i = 60 + l) → m_st ν3 1003 (60 + l) s1 c i = ν3 c i := fun c i z => by rw [m_st_d, if_neg z]
  rw [e8]
  have fl1c := fl1b.tr g3.one
  have fl2c : FL2 B l q ν0 (m_st ν3 1003 (60 + l) s1) := (fl2b.tr g4.fl2).tr (FL2_set (by omega))
  rcases g5 with ⟨i1, i2, i3⟩ | ⟨i1, i2, i3, i4, i5, i6, -, i7, -, i8, -⟩
  · subst i1; subst i2
    rw [if_pos rfl, if_pos (by decide)]
    exact LOQ_fail fl1c fl2c (FL_set i3 (by decide))
  subst i1
  rw [if_neg (by decide), if_neg (by omega)]
  have ln3 := LN_set (c := 1003) (i := 60 + l) (v := s1) i5 (by decide)
  have k3 := i7 rfl
  have hs6 := h.s6
  have ht3 := h.t3
  have u2 : μ2 20 6 = μ 20 6 := d3 _ _ (by decide)
  have u7 : ∀ i, ν3 1007 i = ν 1007 i := fun i => by rw [g4 1007 i (by omega), d4 1007 i (by omega)]
  have v1 : ∀ c i, b + 1 ≤ c → c ≤ b + 11 → ¬ (c = b + 3 ∧ i = l) → μ3 c i = μ c i := fun c i x y z => by rw [g3.row hb ⟨x, y⟩ (fun q => by omega) (fun _ => z) (fun q => by omega), d3 c i (by omega)]
  have v2 : ∀ c, 1002 ≤ c → c ≤ 1011 → ν3 c (60 + l) = ν c (60 + l) := fun c x y => by rw [g4 c _ (by omega), d4 c _ (by omega)]
  have v3 : ∀ c i, c ≤ b + 10 → b + 1 ≤ c → c ≠ b + 3 → μ3 c i = μ c i := fun c i x y z => v1 c i y (by omega) (by omega)
  have v30 : ν3 1000 30 = q := by rw [g4 _ _ (by omega), d4 _ _ (by omega)]; exact h.c30
  refine line_endQ hb ln3 fl1c fl2c ⟨by rw [e9 _ _ (by omega), v2 _ (by decide) (by decide), h.mr _ (by omega), h0.m10]; exact hq, by rw [e9 _ _ (by omega), e9 _ _ (by omega), v2 _ (by decide) (by decide), h.mr _ (by omega), h0.m11, v30]; exact hq⟩ (fun μ5 ν5 ln5 q1 q2 => ?_)
  have q3 : ∀ c i, c ≠ 1000 → ν5 c i = m_st ν3 1003 (60 + l) s1 c i := fun c i x => q2 c i (by omega)
  have e6 : μ5 20 6 = μ3 20 6 := q1 _ _ (by decide)
  have n7 : ∀ i, ν5 1007 i = ν 1007 i := fun i => by rw [q3 _ _ (by decide), e9 _ _ (by omega), u7]
  have nr : ∀ c, 1002 ≤ c → c ≤ 1011 → c ≠ 1003 → ν5 c (60 + l) = ν c (60 + l) := fun c x y z => by rw [q3 _ _ (by omega), e9 _ _ (by omega), v2 c x y]
  have m2 : ν5 1002 (60 + l) = 4 := by rw [nr _ (by decide) (by decide) (by decide), h.mr _ (by omega)]; exact h0.m2
  have m6 : ν5 1006 (60 + l) = cal := by rw [nr _ (by decide) (by decide) (by decide)]; exact h.m6
  have m19 : ν5 1019 (4 + cal) = t := by rw [fl2c.tr (FL2_t q2) 1019 (4 + cal) (by omega)]; exact htk
  refine ⟨?_, (LQ.mk (cl := fun _ => by rw [m6, m19]; exact ⟨hcal.2, rfl⟩) (la := fun z => by omega) (ns := fun z => by omega) (ss := by omega) (n0 := fun z => by omega))⟩
  refine LR_ne (k0 := 4) (t := t) (s1 := s1) (s2 := -1) (cl := cal) (kp := 1) hb h0 ln5 (by unfold hE; omega) ht (by decide) (by rw [q1 _ _ (by omega), v3 _ _ (by omega) (by omega) (by omega), h.cr _ (by omega) (by omega)]; exact h0.k2) (by rw [q1 _ _ (by omega)]; exact k3) (by rw [q1 _ _ (by omega), v3 _ _ (by omega) (by omega) (by omega), h.cr _ (by omega) (by omega)]; exact h0.k4) (by rw [q1 _ _ (by omega), v3 _ _ (by omega) (by omega) (by omega), h.cr _ (by omega) (by omega), h0.k5]; rfl) (by rw [q1 _ _ (by omega), v3 _ _ (by omega) (by omega) (by omega)]; exact h.c6) m2 (by rw [q3 _ _ (by decide)]; exact e8) (by rw [nr _ (by decide) (by decide) (by decide), h.mr _ (by omega)]; exact h0.m4) (by rw [nr _ (by decide) (by decide) (by decide), h.mr _ (by omega)]; exact h0.m5) m6 (by rw [nr _ (by decide) (by decide) (by decide), h.mr _ (by omega)]; exact h0.m10) (by rw [nr _ (by decide) (by decide) (by decide), h.mr _ (by omega)]; exact h0.m11) (by omega) (by have := ln5.sl.s0; omega) (Or.inl rfl) (by omega) (by omega) (by omega) (by omega) (by omega) (by rw [q1 _ _ (by omega), v3 _ _ (by omega) (by omega) (by omega)]; exact h.cc) (fun i x y => ?_) (fun i x y => ?_)
  · have y : i < t := y
    have := h.so i x y
    rw [n7, q1 (b + 11) _ (by omega), v1 _ _ (by omega) (by omega) (by omega)]
    exact ⟨this.1, by omega, this.2.2⟩
  · have x : t ≤ i := x
    rw [n7]; exact h.sn i x y
theorem call_L {b B W l p q t cal : Int} {Wn : Int → Int} {μ0 ν0 : am_M} (hb : bOk b) (h0 : LB b B W l p 4 μ0 ν0) (ht : 0 ≤ t ∧ t ≤ 4) (hcal : 0 ≤ cal ∧ cal < B) (hB : B ≤ 4) (htk : ν0 1019 (4 + cal) = t) (hq : ν0 1000 30 = q) : ∀ (m f1 f2 : Nat) (k : Int) (μ ν : am_M), CI b B W l p q t cal k μ0 ν0 μ ν → k + m = t → m < f1 → m < f2 →
    LOQ b B W l p q t Wn μ0 ν0 (q_bd (Rd_readCall_L89 f1 t k μ) fun a26 μ27 => if a26 = 0 then (some (0, μ27)) else (q_bd (Rd_expect 113 μ27) fun a28 μ29 => if a28 = 0 then (some (0, μ29)) else (q_bd (Rd_readSlip 1 μ29) fun a30 μ31 => if a30 = 0 then (some (0, μ31)) else (some (1, μ31))))) (M_readsCall_L41 f2 (60 + l) cal k ν)
  | m, 0, _, _, _, _, _, _, h1, _ => by omega
  | m, _ + 1, 0, _, _, _, _, _, _, h2 => by omega
  | m, f1 + 1, f2 + 1, k, μ, ν, h, hm, h1, h2 => by
    have hl := h.ln.l0
    have hk0 := h.k0
    have e1 : Rd_readCall_L89 (f1 + 1) t k μ = Rd_readCall_L89_b (Rd_readCall_L89 f1) t k μ := rfl
    have e2 : M_readsCall_L41 (f2 + 1) (60 + l) cal k ν = M_readsCall_L41_b (M_readsCall_L41 f2) (60 + l) cal k ν := rfl
    rw [e1, e2]
    unfold Rd_readCall_L89_b M_readsCall_L41_b
    have htk' : ν 1019 (4 + cal) = t := by rw [h.f2 _ _ (by omega)]; exact htk
    rw [w32_i (x := 4 + cal) (by omega) (by omega), q_ld_s (by omega) (by omega), htk']
    by_cases c : k < t
    · rw [if_pos c, if_pos c, w32_i (x := 4 * (60 + l)) (by omega) (by omega), w32_i (x := 4 * (60 + l) + k) (by omega) (by omega), w32_i (x := k + 1) (by omega) (by omega)]
      obtain ⟨r, μ1, s, ν1, a1, a2, a3, a4, a5⟩ := slip_read hb (Or.inl rfl) h.ln
      rw [a1, a2, q_bd_s, q_bd_s, q_st_s (by omega) (by omega), q_ld_s (by omega) (by omega)]
      have e7 : m_st ν1 1007 (4 * (60 + l) + k) s 1007 (4 * (60 + l) + k) = s := by rw [m_st_d, if_pos ⟨rfl, rfl⟩]
      rw [e7]
      rcases a5 with ⟨b1, b2, b3⟩ | ⟨b1, b2, b3, b4, b5, b6, b7, -, -, b8, -⟩
      · subst b1; subst b2
        rw [if_pos rfl, if_pos (by decide), q_bd_s, if_pos rfl]
        have hcc := h.cc
        exact LOQ_fail (h.f1.tr (a3.fl1' (by omega))) ((h.f2.tr a4.fl2).tr (FL2_set (by omega))) (FL_set b3 (by decide))
      · subst b1
        rw [if_neg (by decide), if_neg (by omega)]
        cases m with
        | zero => omega
        | succ m =>
          exact call_L hb h0 ht hcal hB htk hq m f1 f2 (k + 1) _ _ (CI_step hb h c ht.2 a3 a4 b5 b2 b3 (b7 rfl) b8 b6) (by omega) (by omega) (by omega)
    · rw [if_neg c, if_neg c]
      have ek : k = t := by omega
      subst ek
      exact call_end hb h0 h ht hcal htk hq
set_option maxHeartbeats 1000000 in
theorem call_s {b B W l p q : Int} {Wn : Int → Int} {μ ν : am_M} (hb : bOk b) (h : LB b B W l p 4 μ ν) (hq : ν 1000 30 = q) (hT : ∀ k, 0 ≤ k → k < B → μ (b + 17) k = ν 1019 (4 + k) ∧ 0 ≤ ν 1019 (4 + k) ∧ ν 1019 (4 + k) ≤ 4) : ∃ t, LOQ b B W l p q t Wn μ ν (q_bd (Rd_readCall μ) fun a26 μ27 => if a26 = 0 then (some (0, μ27)) else (q_bd (Rd_expect 113 μ27) fun a28 μ29 => if a28 = 0 then (some (0, μ29)) else (q_bd (Rd_readSlip 1 μ29) fun a30 μ31 => if a30 = 0 then (some (0, μ31)) else (some (1, μ31))))) (M_readsCall (60 + l) ν) := by
  have hb' : b = 100 ∨ b = 200 := hb
  have hl := h.ln.l0
  have hB := h.ln.cB
  have hB0 := h.ln.nw.b0
  have hpc := h.pc
  unfold Rd_readCall M_readsCall
  rw [isKp h.ln.tr, q_bd_s]
  by_cases c2 : μ 10 5 = 2
  · rw [if_pos c2, if_pos c2, if_pos rfl, h.ln.rd.rb, q_gd_s (bO0 hb)]
    have hk := (tkN h.ln.tr).2.2 c2
    have hbf := bf_s hb h.ln.tr h.ln.nw hk
    have hbr : bf ν = -1 ∨ (0 ≤ bf ν ∧ bf ν < ν 1013 4) := by
      unfold bf
      rcases fnd_b (ν 1016) (ν 1000 7) (ν 1013 4).toNat 0 (Int.le_refl _) with z | ⟨z1, z2, -⟩
      · exact Or.inl z
      · right; omega
    rw [hbf.1, hbf.2, q_bd_s, q_bd_s]
    by_cases c3 : bf ν = -1
    · rw [if_pos c3, if_pos (show bf ν < 0 by omega)]
      obtain ⟨x1, x2, x3⟩ := fail_s (k := 2) h.ln.tr h.ln.rd.rf (by decide)
      rw [x1, x2, q_bd_s, q_bd_s, q_rb0, q_rb0, q_bd_s, if_pos rfl]
      exact ⟨0, LOQ_fail (FL1_f fun c i z => by rw [m_st_d, if_neg z]) (FL2_f fun c i z => by rw [m_st_d, if_neg z]) x3⟩
    · rw [if_neg c3, if_neg (show ¬ bf ν < 0 by omega), h.ln.rd.rl, q_gd_s (bO2 hb), h.ln.reg]
      have eb : b + 1 + 5 = b + 6 := by omega
      rw [eb, bput6 hb, if_pos hl, q_bd_s, q_st_s (by omega) (by omega)]
      obtain ⟨hT1, hT2, hT3⟩ := hT (bf ν) (by omega) (by omega)
      have lnb : LN b B W l p (m_st μ (b + 6) l (bf ν)) (m_st ν 1006 (60 + l) (bf ν)) := by
        have g : ∀ c i, ¬ (c = b + 6 ∧ i = l) → m_st μ (b + 6) l (bf ν) c i = μ c i := fun c i z => by rw [m_st_d, if_neg z]
        have h1 := LN_set (c := 1006) (i := 60 + l) (v := bf ν) h.ln (by decide)
        exact (LN.mk (tr := h1.tr.cong (fun c i z => g c i (by omega)) (fun _ _ _ => rfl)) (rd := h1.rd.cong (fun i z => g _ _ (by omega))) (nw := h1.nw.cong (fun c i z => g c i (by omega)) (fun _ _ _ => rfl)) (sl := h1.sl.cong (fun c i z => g c i (by omega)) (fun _ _ _ => rfl)) (cB := h1.cB) (cW := h1.cW) (B1 := h1.B1) (cnt := by rw [g _ _ (by omega)]; exact h1.cnt) (reg := by rw [g _ _ (by omega)]; exact h1.reg) (l0 := h1.l0) (st := by rw [g _ _ (by omega)]; exact h1.st) (sp := by rw [g _ _ (by omega), g _ _ (by omega)]; exact h1.sp) (p0 := by rw [g _ _ (by omega)]; exact h1.p0) (cap := by rw [g _ _ (by omega), g _ _ (by omega)]; exact h1.cap) (q0 := h1.q0) (caq := by rw [g _ _ (by omega)]; exact h1.caq))
      have ht : m_st ν 1006 (60 + l) (bf ν) 1000 6 ≠ 0 := by rw [m_st_c (by decide), hk]; decide
      have f1a : FL1 b l p μ (m_st μ (b + 6) l (bf ν)) := fun c i z => by rw [m_st_d, if_neg (by omega)]
      have f2a : FL2 B l q ν (m_st ν 1006 (60 + l) (bf ν)) := FL2_set (by omega)
      have k6 : m_st μ (b + 6) l (bf ν) (b + 6) l = bf ν := by rw [m_st_d, if_pos ⟨rfl, rfl⟩]
      have n6 : m_st ν 1006 (60 + l) (bf ν) 1006 (60 + l) = bf ν := by rw [m_st_d, if_pos ⟨rfl, rfl⟩]
      have kf : ∀ c i, ¬ (c = b + 6 ∧ i = l) → m_st μ (b + 6) l (bf ν) c i = μ c i := fun c i z => by rw [m_st_d, if_neg z]
      have nf : ∀ c i, ¬ (c = 1006 ∧ i = 60 + l) → m_st ν 1006 (60 + l) (bf ν) c i = ν c i := fun c i z => by rw [m_st_d, if_neg z]
      generalize m_st μ (b + 6) l (bf ν) = μa at *
      generalize m_st ν 1006 (60 + l) (bf ν) = νa at *
      obtain ⟨μ', ν', a1, a2, a3, a4, a5, a6⟩ := LN_next hb lnb ht lnb.sl (fun _ _ _ => rfl) (fun _ _ _ => rfl) lnb.sp (by omega)
      rw [a1, a2, q_bd_s, q_bd_s, a3.rd.rb, q_gd_s (bO0 hb), bat17 hb, q_bd_s, if_pos (by omega)]
      have e17 : μ' (b + 17) (bf ν) = ν 1019 (4 + bf ν) := by rw [a4 _ _ (by omega), kf _ _ (by omega)]; exact hT1
      rw [e17]
      refine ⟨ν 1019 (4 + bf ν), call_L hb h ⟨hT2, hT3⟩ (by omega) (by omega) rfl hq (ν 1019 (4 + bf ν)).toNat am_FU am_FU 0 μ' ν' ?_ (by omega) (by have := am_FU_ge; omega) (by have := am_FU_ge; omega)⟩
      have ea3 : μa 10 3 = μ 10 3 := kf _ _ (by omega)
      have ea6 : μ' 20 6 = μ 20 6 := by rw [a4 _ _ (by decide), kf _ _ (by omega)]
      exact (CI.mk (ln := a3) (f1 := f1a.tr (FL1_10 a4)) (f2 := f2a.tr (FL2_t a5)) (s6 := by omega) (t3 := by omega) (cc := by rw [a4 _ _ (by omega), kf _ _ (by omega), hpc]; omega) (c30 := by rw [a5 _ _ (by omega), nf _ _ (by omega)]; exact hq) (k0 := by omega) (c6 := by rw [a4 _ _ (by omega)]; exact k6) (cr := fun c x y => by rw [a4 _ _ (by omega), kf _ _ (by omega)]) (m6 := by rw [a5 _ _ (by omega)]; exact n6) (mr := fun c x => by rw [a5 _ _ (by omega), nf _ _ (by omega)]) (so := fun i x y => by omega) (sn := fun i x y => by rw [a5 _ _ (by omega), nf _ _ (by omega)]; exact h.m7 i x y))
  · rw [if_neg c2, if_neg c2, if_neg (by decide)]
    obtain ⟨x1, x2, x3⟩ := fail_s (k := 1) h.ln.tr h.ln.rd.rf (by decide)
    rw [x1, x2, q_bd_s, q_bd_s, q_rb0, q_rb0, q_bd_s, if_pos rfl]
    exact ⟨0, LOQ_fail (FL1_f fun c i z => by rw [m_st_d, if_neg z]) (FL2_f fun c i z => by rw [m_st_d, if_neg z]) x3⟩
