/-! From line to line. -/
theorem LR_step {b B W f S u l : Int} {Wn : Int → Int} {μ ν μ4 ν4 : am_M} (hb : bOk b) (h : PB b B W Wn μ ν) (hμ : GM b f (μ (b + 1) 11) (ν 1013 5) B μ μ4) (hν : GN f (ν 1000 30) (ν 1013 5) B ν ν4) (hl : 0 ≤ l ∧ l < ν 1013 5) (hr : LR b 60 1000 W S u l Wn μ ν) : LR b 60 1000 W S u l Wn μ4 ν4 := by
  have hb' : b = 100 ∨ b = 200 := hb
  obtain ⟨-, a2, a3⟩ := h.al l hl.1 hl.2
  have hc := h.c6
  exact hr.cong (Int.le_refl _) (fun c i z => hμ c i (by omega)) (fun c i z => hν c i (by omega))
theorem LQ_step {b B W B' f S0 S1 u l : Int} {Wn : Int → Int} {μ ν ν4 : am_M} (h : PB b B W Wn μ ν) (hν : GN f (ν 1000 30) (ν 1013 5) B ν ν4) (hl : 0 ≤ l ∧ l < ν 1013 5) (hq : LQ 60 4 B' u l S0 S1 ν) (h4 : ν 1002 (60 + l) = 4 → ν 1006 (60 + l) < B - 1 ∨ ν4 1019 (3 + B) = ν 1019 (3 + B)) (hB : B' ≤ B) : LQ 60 4 B' u l S0 S1 ν4 := by
  obtain ⟨-, a2, a3⟩ := h.al l hl.1 hl.2
  refine hq.cong (fun c i z => hν c i (by omega)) (fun z => ?_)
  rcases h4 z with y | y
  · exact hν _ _ (by omega)
  · by_cases e : ν 1006 (60 + l) = B - 1
    · have e2 : 4 + ν 1006 (60 + l) = 3 + B := by omega
      rw [e2]; exact y
    · exact hν _ _ (by omega)
theorem PB_step {b B W f : Int} {Wn : Int → Int} {μ ν μ4 ν4 : am_M} (hb : bOk b) (h : PB b B W Wn μ ν) (h60 : ν 1013 5 < 60) (hμ : GM b f (μ (b + 1) 11) (ν 1013 5) B μ μ4) (hν : GN f (ν 1000 30) (ν 1013 5) B ν ν4) (tr : TR μ4 ν4) (rf : μ4 20 10 = 0) (c10 : μ4 (b + 1) 10 = ν 1013 5 + 1) (n5 : ν4 1013 5 = ν 1013 5 + 1) (p' : μ (b + 1) 11 ≤ μ4 (b + 1) 11 ∧ μ4 (b + 1) 11 ≤ μ4 10 3) (q' : ν 1000 30 ≤ ν4 1000 30 ∧ ν4 1000 30 ≤ 1000 + μ4 10 3) (op : μ4 20 13 = ν4 1000 43) (lr : ∃ S u, S ≤ 10 ∧ LR b 60 1000 W S u (ν 1013 5) Wn μ4 ν4) (st : μ4 (b + 10) (ν 1013 5) ≤ μ4 (b + 1) 11 ∧ ν4 1011 (60 + ν 1013 5) ≤ ν4 1000 30) : PB b B W Wn μ4 ν4 := by
  have hb' : b = 100 ∨ b = 200 := hb
  have hc := h.c6
  have hp := h.p0
  have hq := h.q0
  refine (PB.mk (tr := tr) (rd := (RD.mk (rb := by rw [hμ _ _ (by omega)]; exact h.rd.rb) (rl := by rw [hμ _ _ (by omega)]; exact h.rd.rl) (rf := rf))) (nw := h.nw.cong (fun c i z => hμ _ _ (by omega)) (fun c i z => hν _ _ (by omega))) (cB := by rw [hν _ _ (by omega)]; exact h.cB) (cW := by rw [hν _ _ (by omega)]; exact h.cW) (cn := by rw [c10, n5]) (c6 := by rw [n5]; omega) (p0 := by omega) (cap := p'.2) (q0 := by omega) (caq := q'.2) (op := op) (wr := h.wr) (wn := fun w x y => by rw [hν _ _ (by omega)]; exact h.wn w x y) (al := fun l x y => ?_))
  rw [n5] at y
  by_cases z : l = ν 1013 5
  · subst z; exact ⟨lr, st⟩
  · obtain ⟨⟨S, u, a0, a1⟩, a2, a3⟩ := h.al l x (by omega)
    refine ⟨⟨S, u, a0, LR_step hb h hμ hν ⟨x, by omega⟩ a1⟩, ?_, ?_⟩
    · rw [hμ _ _ (by omega)]; omega
    · rw [hν _ _ (by omega)]; omega
theorem FB_step {b B W f K lim : Int} {Wn : Int → Int} {μ ν μ4 ν4 : am_M} (hb : bOk b) (h : PB b B W Wn μ ν) (hf : FB b W K lim Wn μ ν) (hK : K ≤ B - 1) (hlim : lim ≤ f) (hfc : f ≤ ν 1013 5) (hμ : GM b f (μ (b + 1) 11) (ν 1013 5) B μ μ4) (hν : GN f (ν 1000 30) (ν 1013 5) B ν ν4) : FB b W K lim Wn μ4 ν4 := by
  have hb' : b = 100 ∨ b = 200 := hb
  intro k k0 k1
  obtain ⟨f', n, t, S, σ, ⟨e, ej⟩, w⟩ := hf k k0 k1
  have hfn := w.fn
  have htt := w.tt
  refine ⟨f', n, t, S, σ, ⟨e, fun j p q => by rw [hν _ _ (by omega)]; exact ej j p q⟩, ?_⟩
  refine (BW.mk (r15 := by rw [hμ _ _ (by omega), hν _ _ (by omega)]; exact w.r15) (r16 := by rw [hμ _ _ (by omega), hν _ _ (by omega)]; exact w.r16) (r17 := by rw [hμ _ _ (by omega), hν _ _ (by omega)]; exact w.r17) (r18 := by rw [hμ _ _ (by omega), hν _ _ (by omega)]; exact w.r18) (fn := w.fn) (tt := w.tt) (s0 := w.s0) (sn := w.sn) (sx := w.sx) (ln := fun l x y => ?_) (tk := fun i x y => by rw [hν _ _ (by omega), hν _ _ (by omega)]; exact w.tk i x y) (bk := ?_) (gv := by rw [hν _ _ (by omega)]; exact w.gv))
  · obtain ⟨u, a1, a2⟩ := w.ln l x y
    exact ⟨u, LR_step hb h hμ hν ⟨by omega, by omega⟩ a1, LQ_step h hν ⟨by omega, by omega⟩ a2 (fun z => Or.inl (by have := (a2.cl z).1; omega)) (by omega)⟩
  · refine w.bk.cong (fun c x p q r s => ?_)
    have e0 : ν4 1002 (60 + x) = ν 1002 (60 + x) := hν _ _ (by omega)
    have e1 : ν4 1008 (60 + x) = ν 1008 (60 + x) := hν _ _ (by omega)
    have e2 : ν4 1009 (60 + x) = ν 1009 (60 + x) := hν _ _ (by omega)
    have e3 : μ4 (b + 7) x = μ (b + 7) x := hμ _ _ (by omega)
    unfold wP
    by_cases c0 : c = 0
    · rw [if_pos c0, if_pos c0, e0]
    rw [if_neg c0, if_neg c0]
    by_cases c1 : c = 1
    · rw [if_pos c1, if_pos c1, e1]
    rw [if_neg c1, if_neg c1]
    by_cases c2 : c = 2
    · rw [if_pos c2, if_pos c2, e2]
    rw [if_neg c2, if_neg c2]
    by_cases c3 : c = 3
    · rw [if_pos c3, if_pos c3, e3]
    omega
/-- the open bill, a line on -/
theorem OB_step {b B W f T D T' D' : Int} {Wn σ : Int → Int} {μ ν μ4 ν4 : am_M} (hb : bOk b) (h : PB b B W Wn μ ν) (o : OB b B W f T D Wn σ μ ν) (hμ : GM b f (μ (b + 1) 11) (ν 1013 5) B μ μ4) (hν : GN f (ν 1000 30) (ν 1013 5) B ν ν4) (n5 : ν4 1013 5 = ν 1013 5 + 1) (sl : SL μ4 ν4) (b16 : μ4 (b + 16) (B - 1) = ν 1013 5 + 1 - f ∧ ν4 1018 (3 + B) = ν 1013 5 + 1 - f) (b17 : μ4 (b + 17) (B - 1) = T' ∧ ν4 1019 (3 + B) = T') (lq : ∃ u, LR b 60 1000 W (μ4 20 6) u (ν 1013 5) Wn μ4 ν4 ∧ LQ 60 4 B u (ν 1013 5) (μ 20 6) (μ4 20 6) ν4) (dp : μ4 20 7 = D' ∧ ν4 1000 45 = D' ∧ 0 ≤ D' ∧ D' ≤ 3)
    (ht : (T' = T ∧ ν4 1000 44 = 1) ∨ (T' = T + 1 ∧ T ≤ 3 ∧ ν4 1000 44 = 0 ∧ ν 1000 44 = 0 ∧ μ4 20 6 = T + 1 ∧ ν4 1002 (60 + ν 1013 5) = 0 ∧ ν4 1003 (60 + ν 1013 5) = T)) (cx : ctx (wP b 60 μ4 ν4) D'.toNat 3 0 (f + T') (ν 1013 5 + 1)) : OB b B W f T' D' Wn (fun x => if x = ν 1013 5 + 1 then μ4 20 6 else σ x) μ4 ν4 := by
  have hb' : b = 100 ∨ b = 200 := hb
  have hc := h.c6
  have hf0 := o.f0
  have hpt := o.pt
  refine (OB.mk (kk := by rw [hμ _ _ (by omega)]; exact o.kk) (b1 := o.b1) (fl := by rw [hμ _ _ (by omega), hν _ _ (by omega)]; exact o.fl) (cl := by rw [n5]; exact b16) (tk := b17) (f0 := by rw [n5]; omega) (sl := sl) (s0 := by rw [if_neg (by omega)]; exact o.s0) (sc := by rw [n5, if_pos rfl]) (dp := dp) (pt := ?_) (ln := fun l x y => ?_) (ti := fun i x y => ?_) (cx := by rw [n5]; exact cx))
  · rw [n5]
    rcases ht with ⟨z1, z2⟩ | ⟨z1, z2, z3, z4, z5, z6, z7⟩
    · right; exact ⟨z2, by omega⟩
    · left; exact ⟨z3, by omega, by omega⟩
  · rw [n5] at y
    by_cases z : l = ν 1013 5
    · subst z
      obtain ⟨u, a1, a2⟩ := lq
      refine ⟨u, ?_, ?_⟩
      · rw [if_pos rfl]; exact a1
      · rw [if_pos rfl, if_neg (by omega), o.sc]; exact a2
    · obtain ⟨u, a1, a2⟩ := o.ln l x (by omega)
      rw [if_neg (by omega), if_neg (by omega)]
      refine ⟨u, LR_step hb h hμ hν ⟨by omega, by omega⟩ a1, LQ_step h hν ⟨by omega, by omega⟩ a2 (fun w => ?_) (Int.le_refl _)⟩
      rcases ht with ⟨z1, z2⟩ | ⟨z1, z2, z3, z4, z5, z6, z7⟩
      · right; rw [b17.2, o.tk.2, z1]
      · exfalso
        have := (o.ti (l - f) (by omega) (by omega)).1
        have e : 60 + (f + (l - f)) = 60 + l := by omega
        rw [e] at this
        omega
  · by_cases z : i < T
    · rw [hν _ _ (by omega), hν _ _ (by omega)]; exact o.ti i x z
    · rcases ht with ⟨z1, z2⟩ | ⟨z1, z2, z3, z4, z5, z6, z7⟩
      · omega
      · have e : f + i = ν 1013 5 := by omega
        rw [e]
        exact ⟨z6, by omega⟩
