/-! Bills told: what both sides hold of them. -/
theorem fsg_sh {g g' : Int → Int} {d : Int} : ∀ (L : List Int) (q : Int), (∀ i, q ≤ i → i < q + L.length → g' (i - d) = g i) → fsg g q L → fsg g' (q - d) L
  | [], _, _, _ => trivial
  | c :: L, q, hg, h => by
    rw [List.length_cons] at hg
    refine ⟨by rw [hg q (by omega) (by omega)]; exact h.1, ?_⟩
    have := fsg_sh (d := d) L (q + 1) (fun i a b => hg i (by omega) (by omega)) h.2
    have e : q + 1 - d = q - d + 1 := by omega
    rw [e] at this
    exact this
theorem blk_c2 {w w' : Int → Int → Int} : ∀ (n d : Nat) (a z : Int), (∀ x, a ≤ x → x < z → w' 0 x = w 0 x ∧ w' 3 x = w 3 x ∧ (a ≤ w 1 x → w 1 x < z → w' 1 x = w 1 x) ∧ (a ≤ w 2 x → w 2 x < z → w' 2 x = w 2 x)) → blk w n d a z → blk w' n d a z
  | 0, _, a, z, _, h => h
  | n + 1, d, a, z, hw, h => by
    rcases h with h | ⟨h1, h2, h3⟩ | ⟨h1, h2, h3, h4, h5, h6, h7, h8, h9, h10, h11, h12, h13⟩
    · exact Or.inl h
    · exact Or.inr (Or.inl ⟨h1, by rw [(hw a (Int.le_refl _) h1).1]; exact h2, blk_c2 n d _ _ (fun x r s => by obtain ⟨p1, p2, p3, p4⟩ := hw x (by omega) s; exact ⟨p1, p2, fun y => p3 (by omega), fun y => p4 (by omega)⟩) h3⟩)
    · obtain ⟨p1, p2, p3, p4⟩ := hw a (Int.le_refl _) (by omega)
      obtain ⟨q1, q2, q3, q4⟩ := hw (w 1 a) (by omega) (by omega)
      obtain ⟨r1, r2, r3, r4⟩ := hw (w 2 a) (by omega) (by omega)
      have e1 := p3 (by omega) (by omega)
      have e2 := p4 (by omega) (by omega)
      have e6 := q4 (by omega) (by omega)
      refine Or.inr (Or.inr ?_)
      rw [p1, e1, e2, p2, q1, r1, e6, q2]
      exact ⟨h1, h2, h3, h4, h5, h6, h7, h8, h9, h10, blk_c2 n _ _ _ (fun x r s => by obtain ⟨p1, p2, p3, p4⟩ := hw x (by omega) (by omega); exact ⟨p1, p2, fun y z => p3 (by omega) (by omega), fun y z => p4 (by omega) (by omega)⟩) h11, blk_c2 n _ _ _ (fun x r s => by obtain ⟨p1, p2, p3, p4⟩ := hw x (by omega) (by omega); exact ⟨p1, p2, fun y z => p3 (by omega) (by omega), fun y z => p4 (by omega) (by omega)⟩) h12, blk_c2 n _ _ _ (fun x r s => by obtain ⟨p1, p2, p3, p4⟩ := hw x (by omega) s; exact ⟨p1, p2, fun y => p3 (by omega), fun y => p4 (by omega)⟩) h13⟩
theorem BL.c2 {w w' : Int → Int → Int} {d : Nat} {a z : Int} (h : BL w d a z) (hw : ∀ x, a ≤ x → x < z → w' 0 x = w 0 x ∧ w' 3 x = w 3 x ∧ (a ≤ w 1 x → w 1 x < z → w' 1 x = w 1 x) ∧ (a ≤ w 2 x → w 2 x < z → w' 2 x = w 2 x)) : BL w' d a z := by
  obtain ⟨n, h⟩ := h
  exact ⟨n, blk_c2 n d a z hw h⟩
/-- the reference's cells of what is told -/
def Lo (c i : Int) : Prop := (1002 ≤ c ∧ c ≤ 1006 ∧ i < 60) ∨ (c = 1007 ∧ i < 240) ∨ (1008 ≤ c ∧ c ≤ 1011 ∧ i < 60) ∨ (c = 1012 ∧ i < 1000) ∨ (c = 1013 ∧ i < 3) ∨ (c = 1015 ∧ i < 4) ∨ (1017 ≤ c ∧ c ≤ 1020 ∧ i < 4)
def TB (b B W n : Int) (Wn : Int → Int) (μ ν : am_M) : Prop := (bOk b) ∧ (μ b 13 = B ∧ ν 1013 1 = B ∧ 0 ≤ B ∧ B ≤ 4) ∧ (μ b 12 = W ∧ ν 1013 0 = W ∧ 0 ≤ W ∧ W ≤ 4) ∧ (μ (b + 1) 10 = n ∧ ν 1013 2 = n ∧ 0 ≤ n ∧ n ≤ 60) ∧ (∀ w, r32 (Wn w)) ∧ (∀ w, 0 ≤ w → w < W → Wn w = ν 1015 w) ∧ (∀ w, 0 ≤ w → w < W → 0 ≤ Wn w ∧ Wn w ≤ 9999) ∧ (∀ l, 0 ≤ l → l < n → ∃ S u, S ≤ 10 ∧ LR b 0 0 W S u l Wn μ ν) ∧ (∀ k j, 0 ≤ k → k < j → j < B → ν 1017 k + ν 1018 k ≤ ν 1017 j) ∧ (∀ k, 0 ≤ k → k < B → ∃ f m t S σ, f + m ≤ n ∧ BW b 0 0 0 W k f m t S Wn σ μ ν)
theorem TB.bo {b B W n : Int} {Wn : Int → Int} {μ ν : am_M} (h : TB b B W n Wn μ ν) : bOk b := h.1
theorem TB.cB {b B W n : Int} {Wn : Int → Int} {μ ν : am_M} (h : TB b B W n Wn μ ν) : μ b 13 = B ∧ ν 1013 1 = B ∧ 0 ≤ B ∧ B ≤ 4 := h.2.1
theorem TB.cW {b B W n : Int} {Wn : Int → Int} {μ ν : am_M} (h : TB b B W n Wn μ ν) : μ b 12 = W ∧ ν 1013 0 = W ∧ 0 ≤ W ∧ W ≤ 4 := h.2.2.1
theorem TB.cn {b B W n : Int} {Wn : Int → Int} {μ ν : am_M} (h : TB b B W n Wn μ ν) : μ (b + 1) 10 = n ∧ ν 1013 2 = n ∧ 0 ≤ n ∧ n ≤ 60 := h.2.2.2.1
theorem TB.wr {b B W n : Int} {Wn : Int → Int} {μ ν : am_M} (h : TB b B W n Wn μ ν) : ∀ w, r32 (Wn w) := h.2.2.2.2.1
theorem TB.wn {b B W n : Int} {Wn : Int → Int} {μ ν : am_M} (h : TB b B W n Wn μ ν) : ∀ w, 0 ≤ w → w < W → Wn w = ν 1015 w := h.2.2.2.2.2.1
theorem TB.wv {b B W n : Int} {Wn : Int → Int} {μ ν : am_M} (h : TB b B W n Wn μ ν) : ∀ w, 0 ≤ w → w < W → 0 ≤ Wn w ∧ Wn w ≤ 9999 := h.2.2.2.2.2.2.1
theorem TB.al {b B W n : Int} {Wn : Int → Int} {μ ν : am_M} (h : TB b B W n Wn μ ν) : ∀ l, 0 ≤ l → l < n → ∃ S u, S ≤ 10 ∧ LR b 0 0 W S u l Wn μ ν := h.2.2.2.2.2.2.2.1
theorem TB.od {b B W n : Int} {Wn : Int → Int} {μ ν : am_M} (h : TB b B W n Wn μ ν) : ∀ k j, 0 ≤ k → k < j → j < B → ν 1017 k + ν 1018 k ≤ ν 1017 j := h.2.2.2.2.2.2.2.2.1
theorem TB.bw {b B W n : Int} {Wn : Int → Int} {μ ν : am_M} (h : TB b B W n Wn μ ν) : ∀ k, 0 ≤ k → k < B → ∃ f m t S σ, f + m ≤ n ∧ BW b 0 0 0 W k f m t S Wn σ μ ν := h.2.2.2.2.2.2.2.2.2
theorem TB.mk {b B W n : Int} {Wn : Int → Int} {μ ν : am_M} (bo : bOk b) (cB : μ b 13 = B ∧ ν 1013 1 = B ∧ 0 ≤ B ∧ B ≤ 4) (cW : μ b 12 = W ∧ ν 1013 0 = W ∧ 0 ≤ W ∧ W ≤ 4) (cn : μ (b + 1) 10 = n ∧ ν 1013 2 = n ∧ 0 ≤ n ∧ n ≤ 60) (wr : ∀ w, r32 (Wn w)) (wn : ∀ w, 0 ≤ w → w < W → Wn w = ν 1015 w) (wv : ∀ w, 0 ≤ w → w < W → 0 ≤ Wn w ∧ Wn w ≤ 9999) (al : ∀ l, 0 ≤ l → l < n → ∃ S u, S ≤ 10 ∧ LR b 0 0 W S u l Wn μ ν) (od : ∀ k j, 0 ≤ k → k < j → j < B → ν 1017 k + ν 1018 k ≤ ν 1017 j) (bw : ∀ k, 0 ≤ k → k < B → ∃ f m t S σ, f + m ≤ n ∧ BW b 0 0 0 W k f m t S Wn σ μ ν) : TB b B W n Wn μ ν := ⟨bo, cB, cW, cn, wr, wn, wv, al, od, bw⟩
theorem LR.cg0 {b W S t l : Int} {Wn : Int → Int} {μ ν μ' ν' : am_M} (h : LR b 0 0 W S t l Wn μ ν) (hl : 0 ≤ l ∧ l < 60) (f : ∀ c i, b ≤ c → c ≤ b + 18 → c ≠ b + 8 → μ' c i = μ c i) (g : ∀ c i, Lo c i → ν' c i = ν c i) : LR b 0 0 W S t l Wn μ' ν' := by
  have hf := h.fr
  exact h.cong (Int.le_refl _) (fun c i z => f c i (by omega) (by omega) (by omega)) (fun c i z => g c i (by unfold Lo; omega))
theorem LQ.cg0 {B t l S0 S1 : Int} {ν ν' : am_M} (h : LQ 0 0 B t l S0 S1 ν) (hl : 0 ≤ l ∧ l < 60) (hB : B ≤ 4) (hf : ν 1011 (0 + l) ≤ 1000) (g : ∀ c i, Lo c i → ν' c i = ν c i) : LQ 0 0 B t l S0 S1 ν' := by
  refine h.cong (fun c i z => g c i (by unfold Lo; omega)) (fun z => g _ _ ?_)
  have := (h.cl z).1
  unfold Lo; omega
theorem BW.cg0 {b W k f n t S : Int} {Wn σ : Int → Int} {μ ν μ' ν' : am_M} (h : BW b 0 0 0 W k f n t S Wn σ μ ν) (hk : 0 ≤ k ∧ k < 4) (hf : ∀ c i, b ≤ c → c ≤ b + 18 → c ≠ b + 8 → μ' c i = μ c i) (g : ∀ c i, Lo c i → ν' c i = ν c i) : BW b 0 0 0 W k f n t S Wn σ μ' ν' := by
  have hfn := h.fn
  have htt := h.tt
  refine (BW.mk (r15 := by rw [hf _ _ (by omega) (by omega) (by omega), g _ _ (by unfold Lo; omega)]; exact h.r15) (r16 := by rw [hf _ _ (by omega) (by omega) (by omega), g _ _ (by unfold Lo; omega)]; exact h.r16) (r17 := by rw [hf _ _ (by omega) (by omega) (by omega), g _ _ (by unfold Lo; omega)]; exact h.r17) (r18 := by rw [hf _ _ (by omega) (by omega) (by omega), g _ _ (by unfold Lo; omega)]; exact h.r18) (fn := h.fn) (tt := h.tt) (s0 := h.s0) (sn := h.sn) (sx := h.sx) (ln := fun l x y => ?_) (tk := fun i x y => by rw [g _ _ (by unfold Lo; omega), g _ _ (by unfold Lo; omega)]; exact h.tk i x y) (bk := ?_) (gv := by rw [g _ _ (by unfold Lo; omega)]; exact h.gv))
  · obtain ⟨u, a1, a2⟩ := h.ln l x y
    have hfr := a1.fr
    exact ⟨u, a1.cg0 (by omega) hf g, a2.cg0 (by omega) (by omega) (by omega) g⟩
  · refine h.bk.cong (fun c x p q r s => ?_)
    have e0 : ν' 1002 (0 + x) = ν 1002 (0 + x) := g _ _ (by unfold Lo; omega)
    have e1 : ν' 1008 (0 + x) = ν 1008 (0 + x) := g _ _ (by unfold Lo; omega)
    have e2 : ν' 1009 (0 + x) = ν 1009 (0 + x) := g _ _ (by unfold Lo; omega)
    have e3 : μ' (b + 7) x = μ (b + 7) x := hf _ _ (by omega) (by omega) (by omega)
    unfold wP
    by_cases c0 : c = 0
    · rw [if_pos c0, if_pos c0, e0]
    rw [if_neg c0, if_neg c0]
    by_cases c1 : c = 1
    · rw [if_pos c1, if_pos c1, e1]
    rw [if_neg c1, if_neg c1]
    by_cases c2 : c = 2
    · rw [if_pos c2, if_pos c2, e2]
    rw [if_neg c2, if_neg c2]
    rw [if_pos (show c = 3 by omega), if_pos (show c = 3 by omega), e3]
theorem TB.cong {b B W n : Int} {Wn : Int → Int} {μ ν μ' ν' : am_M} (h : TB b B W n Wn μ ν) (f : ∀ c i, b ≤ c → c ≤ b + 18 → c ≠ b + 8 → μ' c i = μ c i) (g : ∀ c i, Lo c i → ν' c i = ν c i) : TB b B W n Wn μ' ν' := by
  have hB := h.cB
  have hW := h.cW
  have hn := h.cn
  refine (TB.mk (bo := h.bo) (cB := by rw [f _ _ (by omega) (by omega) (by omega), g _ _ (by unfold Lo; omega)]; exact h.cB) (cW := by rw [f _ _ (by omega) (by omega) (by omega), g _ _ (by unfold Lo; omega)]; exact h.cW) (cn := by rw [f _ _ (by omega) (by omega) (by omega), g _ _ (by unfold Lo; omega)]; exact h.cn) (wr := h.wr) (wn := fun w x y => by rw [g _ _ (by unfold Lo; omega)]; exact h.wn w x y) (wv := h.wv) (al := fun l x y => ?_) (od := fun k j x y z => by rw [g 1017 k (by unfold Lo; omega), g 1018 k (by unfold Lo; omega), g 1017 j (by unfold Lo; omega)]; exact h.od k j x y z) (bw := fun k x y => ?_))
  · obtain ⟨S, u, a0, a⟩ := h.al l x y
    exact ⟨S, u, a0, a.cg0 (by omega) f g⟩
  · obtain ⟨f', m, t, S, σ, e, a⟩ := h.bw k x y
    exact ⟨f', m, t, S, σ, e, a.cg0 (by omega) f g⟩
/-- out of what was read -/
theorem LR_cp {b W S t l : Int} {Wn : Int → Int} {μ ν ν' : am_M} (h : LR b 60 1000 W S t l Wn μ ν) (hl : 0 ≤ l ∧ l < 60) (c : CPD ν ν') : LR b 0 0 W S t l Wn μ ν' := by
  have hfr := h.fr
  have e : (0 : Int) + l = l := by omega
  have c2 : ν' 1002 (0 + l) = ν 1002 (60 + l) := by rw [e, c.cl 1002 l (by omega) hl.1 hl.2]; rfl
  have c3 : ν' 1003 (0 + l) = ν 1003 (60 + l) := by rw [e, c.cl 1003 l (by omega) hl.1 hl.2]; rfl
  have c4 : ν' 1004 (0 + l) = ν 1004 (60 + l) := by rw [e, c.cl 1004 l (by omega) hl.1 hl.2]; rfl
  have c5 : ν' 1005 (0 + l) = ν 1005 (60 + l) := by rw [e, c.cl 1005 l (by omega) hl.1 hl.2]; rfl
  have c6 : ν' 1006 (0 + l) = ν 1006 (60 + l) := by rw [e, c.cl 1006 l (by omega) hl.1 hl.2]; rfl
  have c10 : ν' 1010 (0 + l) = ν 1010 (60 + l) - 1000 := by
    rw [e, c.cl 1010 l (by omega) hl.1 hl.2]
    show w32 (ν 1010 (60 + l) - 1000) = _
    rw [w32_i (x := ν 1010 (60 + l) - 1000) (by omega) (by omega)]
  have c11 : ν' 1011 (0 + l) = ν 1011 (60 + l) - 1000 := by
    rw [e, c.cl 1011 l (by omega) hl.1 hl.2]
    show w32 (ν 1011 (60 + l) - 1000) = _
    rw [w32_i (x := ν 1011 (60 + l) - 1000) (by omega) (by omega)]
  have c7 : ∀ i, 0 ≤ i → i < 4 → ν' 1007 (4 * (0 + l) + i) = ν 1007 (4 * (60 + l) + i) := by
    intro i x y
    rw [c.c7 _ (by omega) (by omega)]
    congr 1
    omega
  refine (LR.mk (kd := by rw [c2]; exact h.kd) (la := by rw [c3]; exact h.la) (be := by rw [c4]; exact h.be) (on := by rw [c5]; exact h.on) (ca := by rw [c6]; exact h.ca) (st := h.st) (fr := by rw [c10, c11]; omega) (so := fun i x y => by rw [c7 i x y]; exact h.so i x y) (ee := ?_) (ne := ?_) (sl := by rw [c2, c3]; exact h.sl) (sb := by rw [c2, c4]; exact h.sb) (sc := by rw [c2, c6]; exact h.sc) (sk := by rw [c2, c5]; exact h.sk) (t0 := h.t0))
  · rw [c2, c10, c11]
    intro z
    obtain ⟨y0, L, y1, y2, y3, y4, y5, y6, y7, y8⟩ := h.ee z
    refine ⟨fun i p q => by rw [c7 i p q]; exact y0 i p q, L, fsg_sh (d := 1000) L _ (fun i p q => ?_) y1, by omega, y3, y4, y5, y6, y7, y8⟩
    rw [c.c12 _ (by omega) (by omega)]
    congr 1
    omega
  · rw [c2]
    intro z
    obtain ⟨y1, y2, y3⟩ := h.ne z
    have hn : 0 ≤ nS (ν 1002 (60 + l)) t ∧ nS (ν 1002 (60 + l)) t ≤ 4 := by
      have := h.t0
      unfold nS
      split
      · omega
      · split <;> omega
    exact ⟨y1, fun i p q => by rw [c7 i p (by omega)]; exact y2 i p q, fun i p q => by rw [c7 i (by omega) q]; exact y3 i p q⟩
theorem LQ_cp {B t l S0 S1 : Int} {ν ν' : am_M} (h : LQ 60 4 B t l S0 S1 ν) (hl : 0 ≤ l ∧ l < 60) (hB : B ≤ 4) (h6 : ν 1002 (60 + l) = 4 → 0 ≤ ν 1006 (60 + l)) (hfr : 1000 ≤ ν 1010 (60 + l) ∧ ν 1010 (60 + l) ≤ ν 1011 (60 + l) ∧ ν 1011 (60 + l) ≤ 2000) (c : CPD ν ν') : LQ 0 0 B t l S0 S1 ν' := by
  have e : (0 : Int) + l = l := by omega
  have c2 : ν' 1002 (0 + l) = ν 1002 (60 + l) := by rw [e, c.cl 1002 l (by omega) hl.1 hl.2]; rfl
  have c3 : ν' 1003 (0 + l) = ν 1003 (60 + l) := by rw [e, c.cl 1003 l (by omega) hl.1 hl.2]; rfl
  have c6 : ν' 1006 (0 + l) = ν 1006 (60 + l) := by rw [e, c.cl 1006 l (by omega) hl.1 hl.2]; rfl
  have c10 : ν' 1010 (0 + l) = ν 1010 (60 + l) - 1000 := by
    rw [e, c.cl 1010 l (by omega) hl.1 hl.2]
    show w32 (ν 1010 (60 + l) - 1000) = _
    rw [w32_i (x := ν 1010 (60 + l) - 1000) (by omega) (by omega)]
  have c11 : ν' 1011 (0 + l) = ν 1011 (60 + l) - 1000 := by
    rw [e, c.cl 1011 l (by omega) hl.1 hl.2]
    show w32 (ν 1011 (60 + l) - 1000) = _
    rw [w32_i (x := ν 1011 (60 + l) - 1000) (by omega) (by omega)]
  refine (LQ.mk (cl := ?_) (la := by rw [c2, c3]; exact h.la) (ns := ?_) (ss := h.ss) (n0 := by rw [c2, c3]; exact h.n0))
  · rw [c2, c6]
    intro z
    have y := h.cl z
    have y6 := h6 z
    have e0 : (0 : Int) + ν 1006 (60 + l) = ν 1006 (60 + l) := by omega
    rw [e0, c.c5 1019 _ (by omega) y6 (by omega)]
    exact y
  · rw [c2, c3, c10, c11]
    intro z n x y
    rcases h.ns z n x y with y | ⟨i, y1, y2, y3⟩
    · exact Or.inl y
    · refine Or.inr ⟨i - 1000, by omega, by omega, ?_⟩
      rw [c.c12 _ (by omega) (by omega), ← y3]
      congr 1
      omega
theorem BW_cp {b W k f n t S : Int} {Wn σ : Int → Int} {μ ν ν' : am_M} (h : BW b 60 1000 4 W k f n t S Wn σ μ ν) (hk : 0 ≤ k ∧ k < 4) (c : CPD ν ν') : BW b 0 0 0 W k f n t S Wn σ μ ν' := by
  have hfn := h.fn
  have htt := h.tt
  have ek : 0 + k = k := by omega
  have e15 : ν' 1017 (0 + k) = ν 1017 (4 + k) := by rw [ek]; exact c.c5 _ _ (by omega) hk.1 hk.2
  have e16 : ν' 1018 (0 + k) = ν 1018 (4 + k) := by rw [ek]; exact c.c5 _ _ (by omega) hk.1 hk.2
  have e17 : ν' 1019 (0 + k) = ν 1019 (4 + k) := by rw [ek]; exact c.c5 _ _ (by omega) hk.1 hk.2
  have e18 : ν' 1020 (0 + k) = ν 1020 (4 + k) := by rw [ek]; exact c.c5 _ _ (by omega) hk.1 hk.2
  have c2 : ∀ x, 0 ≤ x → x < 60 → ν' 1002 (0 + x) = ν 1002 (60 + x) := fun x p q => by
    have e : 0 + x = x := by omega
    rw [e, c.cl 1002 x (by omega) p q]; rfl
  have c3 : ∀ x, 0 ≤ x → x < 60 → ν' 1003 (0 + x) = ν 1003 (60 + x) := fun x p q => by
    have e : 0 + x = x := by omega
    rw [e, c.cl 1003 x (by omega) p q]; rfl
  refine (BW.mk (r15 := by rw [e15]; exact h.r15) (r16 := by rw [e16]; exact h.r16) (r17 := by rw [e17]; exact h.r17) (r18 := by rw [e18]; exact h.r18) (fn := h.fn) (tt := h.tt) (s0 := h.s0) (sn := h.sn) (sx := h.sx) (ln := fun l x y => ?_) (tk := fun i x y => by rw [c2 _ (by omega) (by omega), c3 _ (by omega) (by omega)]; exact h.tk i x y) (bk := ?_) (gv := by rw [c2 _ (by omega) (by omega)]; exact h.gv))
  · obtain ⟨u, a1, a2⟩ := h.ln l x y
    exact ⟨u, LR_cp a1 (by omega) c, LQ_cp a2 (by omega) (by omega) (fun z => by have := a1.sc; omega) (by have := a1.fr; omega) c⟩
  · refine h.bk.c2 (fun x r s => ⟨c2 x (by omega) (by omega), rfl, fun y z => ?_, fun y z => ?_⟩)
    · have y : f + t ≤ ν 1008 (60 + x) - 60 := y
      have z : ν 1008 (60 + x) - 60 < f + n - 1 := z
      show ν' 1008 (0 + x) - 0 = ν 1008 (60 + x) - 60
      have e : 0 + x = x := by omega
      rw [e, c.cl 1008 x (by omega) (by omega) (by omega)]
      show w32 (ν 1008 (60 + x) - 60) - 0 = _
      rw [w32_i (x := ν 1008 (60 + x) - 60) (by omega) (by omega)]
      omega
    · have y : f + t ≤ ν 1009 (60 + x) - 60 := y
      have z : ν 1009 (60 + x) - 60 < f + n - 1 := z
      show ν' 1009 (0 + x) - 0 = ν 1009 (60 + x) - 60
      have e : 0 + x = x := by omega
      rw [e, c.cl 1009 x (by omega) (by omega) (by omega)]
      show w32 (ν 1009 (60 + x) - 60) - 0 = _
      rw [w32_i (x := ν 1009 (60 + x) - 60) (by omega) (by omega)]
      omega
theorem TB_cp {b B W : Int} {Wn : Int → Int} {μ ν ν' : am_M} (hb : bOk b) (h : PS b B W Wn μ ν) (hcl : ν 1000 43 = 0) (c : CPD ν ν') : TB b B W (ν 1013 5) Wn μ ν' := by
  obtain ⟨pb, -, h2⟩ := h
  have hB0 := pb.nw.b0
  have hW0 := pb.nw.w0
  have hcB := pb.cB
  have hcW := pb.cW
  have hc6 := pb.c6
  have k0 : ν' 1013 0 = ν 1013 3 := c.c13 0 (by decide) (by decide)
  have k1 : ν' 1013 1 = ν 1013 4 := c.c13 1 (by decide) (by decide)
  have k2 : ν' 1013 2 = ν 1013 5 := c.c13 2 (by decide) (by decide)
  have fb : FB b W B (ν 1013 5) Wn μ ν := by
    rcases h2 with ⟨-, z⟩ | ⟨z, -⟩
    · exact z
    · omega
  refine (TB.mk (bo := hb) (cB := by rw [k1]; exact ⟨by rw [pb.nw.bc]; exact hcB, hcB, by omega, by omega⟩) (cW := by rw [k0]; exact ⟨by rw [pb.nw.wc]; exact hcW, hcW, by omega, by omega⟩) (cn := ⟨pb.cn, k2, hc6.1, hc6.2⟩) (wr := pb.wr) (wn := fun w x y => by rw [c.c5 1015 w (by omega) x (by omega)]; exact pb.wn w x y) (wv := fun w x y => by rw [pb.wn w x y]; have := pb.nw.wv w x (by omega); omega) (al := fun l x y => ?_) (od := fun k j x y z => ?_) (bw := fun k x y => ?_))
  rotate_left
  · obtain ⟨f, m, t, S, σ, ⟨-, ej⟩, w⟩ := fb k x (by omega)
    have r15 := w.r15.2
    have r16 := w.r16.2
    rw [c.c5 1017 k (by omega) x (by omega), c.c5 1018 k (by omega) x (by omega), c.c5 1017 j (by omega) (by omega) (by omega)]
    show ν 1017 (4 + k) + ν 1018 (4 + k) ≤ ν 1017 (4 + j)
    rw [r15, r16]
    exact ej j y z
  rotate_left
  · obtain ⟨⟨S, u, a0, a⟩, -, -⟩ := pb.al l x y
    exact ⟨S, u, a0, LR_cp a (by omega) c⟩
  · obtain ⟨f, m, t, S, σ, ⟨e, -⟩, w⟩ := fb k x y
    exact ⟨f, m, t, S, σ, e, BW_cp w (by omega) c⟩
