/-! Heads: a bill. -/
/-- what a bill's head leaves with the reference -/
def bilM (B cn w : Int) (ν : am_M) : am_M := m_st (m_st (m_st (m_st (m_st (m_st (m_st (m_st (m_st ν 1016 B w) 1017 (4 + B) cn) 1018 (4 + B) 0) 1019 (4 + B) 0) 1020 (4 + B) 0) 1013 4 (B + 1)) 1000 43 1) 1000 44 0) 1000 45 0
theorem bilM_f {B cn w : Int} {ν : am_M} : ∀ c i, ¬ ((c = 1016 ∧ i = B) ∨ (1017 ≤ c ∧ c ≤ 1020 ∧ i = 4 + B) ∨ (c = 1013 ∧ i = 4) ∨ (c = 1000 ∧ 43 ≤ i ∧ i ≤ 45)) → bilM B cn w ν c i = ν c i := fun c i z => by
  unfold bilM
  rw [m_st_d, if_neg (by omega), m_st_d, if_neg (by omega), m_st_d, if_neg (by omega), m_st_d, if_neg (by omega), m_st_d, if_neg (by omega), m_st_d, if_neg (by omega), m_st_d, if_neg (by omega), m_st_d, if_neg (by omega), m_st_d, if_neg (by omega)]
theorem bilM_v {B cn w : Int} {ν : am_M} : bilM B cn w ν 1016 B = w ∧ bilM B cn w ν 1017 (4 + B) = cn ∧ bilM B cn w ν 1018 (4 + B) = 0 ∧ bilM B cn w ν 1019 (4 + B) = 0 ∧ bilM B cn w ν 1020 (4 + B) = 0 ∧ bilM B cn w ν 1013 4 = B + 1 ∧ bilM B cn w ν 1000 43 = 1 ∧ bilM B cn w ν 1000 44 = 0 ∧ bilM B cn w ν 1000 45 = 0 := by
  have ge : ∀ (ν : am_M) (c i v : Int), m_st ν c i v c i = v := fun ν c i v => by rw [m_st_d, if_pos ⟨rfl, rfl⟩]
  unfold bilM
  refine ⟨?_, ?_, ?_, ?_, ?_, ?_, ?_, ?_, ?_⟩
  · rw [m_st_c (by decide), m_st_c (by decide), m_st_c (by decide), m_st_c (by decide), m_st_c (by decide), m_st_c (by decide), m_st_c (by decide), m_st_c (by decide), ge]
  · rw [m_st_c (by decide), m_st_c (by decide), m_st_c (by decide), m_st_c (by decide), m_st_c (by decide), m_st_c (by decide), m_st_c (by decide), ge]
  · rw [m_st_c (by decide), m_st_c (by decide), m_st_c (by decide), m_st_c (by decide), m_st_c (by decide), m_st_c (by decide), ge]
  · rw [m_st_c (by decide), m_st_c (by decide), m_st_c (by decide), m_st_c (by decide), m_st_c (by decide), ge]
  · rw [m_st_c (by decide), m_st_c (by decide), m_st_c (by decide), m_st_c (by decide), ge]
  · rw [m_st_c (by decide), m_st_c (by decide), m_st_c (by decide), ge]
  · rw [m_st_i (by decide), m_st_i (by decide), ge]
  · rw [m_st_i (by decide), ge]
  · rw [ge]
/-- .. and with the class -/
def bilX (b B cn w : Int) (μ : am_M) : am_M := m_st (m_st (m_st (m_st (m_st (m_st (m_st (m_st (m_st μ 20 11 B) (b + 14) B w) (b + 15) B cn) (b + 16) B 0) (b + 17) B 0) b 13 (B + 1)) 20 6 0) 20 7 0) 20 13 1
theorem bilX_f {b B cn w : Int} {μ : am_M} : ∀ c i, ¬ ((c = 20 ∧ (i = 6 ∨ i = 7 ∨ i = 11 ∨ i = 13)) ∨ (b + 14 ≤ c ∧ c ≤ b + 17 ∧ i = B) ∨ (c = b ∧ i = 13)) → bilX b B cn w μ c i = μ c i := fun c i z => by
  unfold bilX
  rw [m_st_d, if_neg (by omega), m_st_d, if_neg (by omega), m_st_d, if_neg (by omega), m_st_d, if_neg (by omega), m_st_d, if_neg (by omega), m_st_d, if_neg (by omega), m_st_d, if_neg (by omega), m_st_d, if_neg (by omega), m_st_d, if_neg (by omega)]
theorem bilX_v {b B cn w : Int} {μ : am_M} (hb : bOk b) : bilX b B cn w μ 20 11 = B ∧ bilX b B cn w μ (b + 14) B = w ∧ bilX b B cn w μ (b + 15) B = cn ∧ bilX b B cn w μ (b + 16) B = 0 ∧ bilX b B cn w μ (b + 17) B = 0 ∧ bilX b B cn w μ b 13 = B + 1 ∧ bilX b B cn w μ 20 6 = 0 ∧ bilX b B cn w μ 20 7 = 0 ∧ bilX b B cn w μ 20 13 = 1 := by
  have hb' : b = 100 ∨ b = 200 := hb
  have ge : ∀ (ν : am_M) (c i v : Int), m_st ν c i v c i = v := fun ν c i v => by rw [m_st_d, if_pos ⟨rfl, rfl⟩]
  unfold bilX
  refine ⟨?_, ?_, ?_, ?_, ?_, ?_, ?_, ?_, ?_⟩
  · rw [m_st_i (by decide), m_st_i (by decide), m_st_i (by decide), m_st_c (by omega), m_st_c (by omega), m_st_c (by omega), m_st_c (by omega), m_st_c (by omega), ge]
  · rw [m_st_c (by omega), m_st_c (by omega), m_st_c (by omega), m_st_c (by omega), m_st_c (by omega), m_st_c (by omega), m_st_c (by omega), ge]
  · rw [m_st_c (by omega), m_st_c (by omega), m_st_c (by omega), m_st_c (by omega), m_st_c (by omega), m_st_c (by omega), ge]
  · rw [m_st_c (by omega), m_st_c (by omega), m_st_c (by omega), m_st_c (by omega), m_st_c (by omega), ge]
  · rw [m_st_c (by omega), m_st_c (by omega), m_st_c (by omega), m_st_c (by omega), ge]
  · rw [m_st_c (by omega), m_st_c (by omega), m_st_c (by omega), ge]
  · rw [m_st_i (by decide), m_st_i (by decide), ge]
  · rw [m_st_i (by decide), ge]
  · rw [ge]
/-- the class's cells of a bill that is begun -/
theorem addBill_s {b B cn w : Int} {μ : am_M} (hb : bOk b) (hB : μ b 13 = B) (hB4 : 0 ≤ B ∧ B < 4) (hc : μ (b + 1) 10 = cn) (rb : μ 20 4 = b) : (q_gd 0 (μ 20 4) <| q_pf 20 11 (μ (μ 20 4) 13) μ fun μ4 => q_gd 0 (μ4 20 4) <| q_bd (Bi_addBill (μ4 20 4) w μ4) fun a6 μ7 => q_pf 20 6 0 μ7 fun μ8 => q_pf 20 7 0 μ8 fun μ9 => q_pfb 20 13 1 μ9 fun μ10 => some (0, μ10)) = some (0, bilX b B cn w μ) := by
  have hb' : b = 100 ∨ b = 200 := hb
  have e4 : m_st μ 20 11 B 20 4 = b := by rw [m_st_i (by decide)]; exact rb
  have e13 : m_st μ 20 11 B b 13 = B := by rw [m_st_c (by omega)]; exact hB
  rw [rb, q_gd_s (bO0 hb), hB, q_pf_d, e4, q_gd_s (bO0 hb)]
  unfold Bi_addBill
  have f1 : m_st (m_st μ 20 11 B) (b + 14) B w b 13 = B := by rw [m_st_c (by omega)]; exact e13
  have f2 : m_st (m_st μ 20 11 B) (b + 14) B w (b + 1) 10 = cn := by rw [m_st_c (by omega), m_st_c (by omega)]; exact hc
  have f3 : m_st (m_st (m_st μ 20 11 B) (b + 14) B w) (b + 15) B cn b 13 = B := by rw [m_st_c (by omega)]; exact f1
  have f4 : m_st (m_st (m_st (m_st μ 20 11 B) (b + 14) B w) (b + 15) B cn) (b + 16) B 0 b 13 = B := by rw [m_st_c (by omega)]; exact f3
  have f5 : m_st (m_st (m_st (m_st (m_st μ 20 11 B) (b + 14) B w) (b + 15) B cn) (b + 16) B 0) (b + 17) B 0 b 13 = B := by rw [m_st_c (by omega)]; exact f4
  rw [q_gd_s (bO0 hb), e13, if_pos (by omega), q_st_s (by omega) (by rw [bLK14 hb]; omega), q_gd_s (bO2 hb), f1, f2, bput15 hb, if_pos (by omega), q_bd_s, f3, bput16 hb, if_pos (by omega), q_bd_s, f4, bput17 hb, if_pos (by omega), q_bd_s, f5, w32_i (x := B + 1) (by omega) (by omega), q_pf_d, q_bd_s, q_pf_d, q_pf_d, q_pfb_1]
  rfl
/-- a bill more is open -/
theorem bill_ps {b B W w : Int} {Wn : Int → Int} {μ ν μ3 ν3 μ5 ν4 : am_M} (hb : bOk b) (h : PB b B W Wn μ ν) (hf : FB b W B (ν 1013 5) Wn μ ν) (hB4 : B < 4) (tr : TR μ5 ν4) (m : ∀ c i, c ≠ 10 → μ3 c i = μ c i) (e5 : μ5 = bilX b B (ν 1013 5) w μ3) (n : ∀ c i, ¬ (c = 1000 ∧ 4 ≤ i ∧ i ≤ 8) → ν4 c i = bilM B (ν 1013 5) (ν4 1016 B) ν c i) (hnam : NM w (ν4 1016 B)) (h3 : μ 10 3 ≤ μ3 10 3) : PS b (B + 1) W Wn μ5 ν4 ∧ ν4 1013 5 = ν 1013 5 := by
  have hb' : b = 100 ∨ b = 200 := hb
  have hcB := h.cB
  have hcW := h.cW
  have hB0 := h.nw.b0
  have hc6 := h.c6
  have v := bilX_v (B := B) (cn := ν 1013 5) (w := w) (μ := μ3) hb
  have f : ∀ c i, c ≠ 10 → ¬ ((c = 20 ∧ (i = 6 ∨ i = 7 ∨ i = 11 ∨ i = 13)) ∨ (b + 14 ≤ c ∧ c ≤ b + 17 ∧ i = B) ∨ (c = b ∧ i = 13)) → μ5 c i = μ c i := fun c i x y => by rw [e5, bilX_f c i y, m c i x]
  have f10 : ∀ i, μ5 10 i = μ3 10 i := fun i => by rw [e5, bilX_f _ _ (by omega)]
  rw [← e5] at v
  have u := bilM_v (B := B) (cn := ν 1013 5) (w := ν4 1016 B) (ν := ν)
  have g : ∀ c i, ¬ (c = 1000 ∧ 4 ≤ i ∧ i ≤ 8) → ¬ ((c = 1016 ∧ i = B) ∨ (1017 ≤ c ∧ c ≤ 1020 ∧ i = 4 + B) ∨ (c = 1013 ∧ i = 4) ∨ (c = 1000 ∧ 43 ≤ i ∧ i ≤ 45)) → ν4 c i = ν c i := fun c i x y => by rw [n c i x, bilM_f c i y]
  obtain ⟨v1, v2, v3, v4, v5, v6, v7, v8, v9⟩ := v
  obtain ⟨u1, u2, u3, u4, u5, u6, u7, u8, u9⟩ := u
  rw [← n _ _ (by omega)] at u2 u3 u4 u5 u6 u7 u8 u9
  clear n m e5
  have n5 : ν4 1013 5 = ν 1013 5 := g _ _ (by omega) (by omega)
  have n30 : ν4 1000 30 = ν 1000 30 := g _ _ (by omega) (by omega)
  have m11 : μ5 (b + 1) 11 = μ (b + 1) 11 := f _ _ (by omega) (by omega)
  have m3 : μ5 10 3 = μ3 10 3 := f10 3
  have hcap := h.cap
  have hcaq := h.caq
  have nw' : NW b μ5 ν4 := by
    refine (NW.mk (w0 := by rw [g _ _ (by omega) (by omega)]; exact h.nw.w0) (b0 := by rw [u6]; omega) (wc := by rw [f _ _ (by omega) (by omega), g _ _ (by omega) (by omega)]; exact h.nw.wc) (bc := by rw [v6, u6]) (wn := fun i p q => ?_) (wv := fun i p q => ?_) (bn := fun i p q => ?_))
    · rw [g 1013 3 (by omega) (by omega)] at q
      rw [f _ _ (by omega) (by omega), g _ _ (by omega) (by omega)]; exact h.nw.wn i p q
    · rw [g 1013 3 (by omega) (by omega)] at q
      rw [f _ _ (by omega) (by omega), g _ _ (by omega) (by omega)]; exact h.nw.wv i p q
    · rw [u6] at q
      by_cases z : i = B
      · rw [z, v2]; exact hnam
      · rw [f _ _ (by omega) (by omega), g _ _ (by omega) (by omega)]; exact h.nw.bn i p (by omega)
  have lr : ∀ S u l, 0 ≤ l → l < ν 1013 5 → LR b 60 1000 W S u l Wn μ ν → LR b 60 1000 W S u l Wn μ5 ν4 := fun S u l _ _ hr => hr.cong (Int.le_refl _) (fun c i z => f c i (by omega) (by omega)) (fun c i z => g c i (by omega) (by omega))
  have pb : PB b (B + 1) W Wn μ5 ν4 := by
    refine (PB.mk (tr := tr) (rd := (RD.mk (rb := by rw [f _ _ (by omega) (by omega)]; exact h.rd.rb) (rl := by rw [f _ _ (by omega) (by omega)]; exact h.rd.rl) (rf := by rw [f _ _ (by omega) (by omega)]; exact h.rd.rf))) (nw := nw') (cB := u6) (cW := by rw [g _ _ (by omega) (by omega)]; exact hcW) (cn := by rw [n5, f _ _ (by omega) (by omega)]; exact h.cn) (c6 := by rw [n5]; exact hc6) (p0 := by rw [m11]; exact h.p0) (cap := by rw [m11, m3]; omega) (q0 := by rw [n30]; exact h.q0) (caq := by rw [n30, m3]; omega) (op := by rw [v9, u7]) (wr := h.wr) (wn := fun w x y => by rw [g _ _ (by omega) (by omega)]; exact h.wn w x y) (al := fun l x y => ?_))
    rw [n5] at y
    obtain ⟨⟨S, u, a0, a1⟩, a2, a3⟩ := h.al l x y
    exact ⟨⟨S, u, a0, lr S u l x y a1⟩, by rw [f _ _ (by omega) (by omega), m11]; exact a2, by rw [g _ _ (by omega) (by omega), n30]; exact a3⟩
  have e1 : B + 1 - 1 = B := by omega
  have e3 : 3 + (B + 1) = 4 + B := by omega
  refine ⟨⟨pb, fun z => by omega, Or.inr ⟨u7, ν 1013 5, 0, 0, fun _ => 0, ?_, ?_⟩⟩, n5⟩
  · rw [e1]
    intro k k0 k1
    obtain ⟨f', nn, t, S, σ, ⟨e, ej⟩, w'⟩ := hf k k0 k1
    have hfn := w'.fn
    have htt := w'.tt
    refine ⟨f', nn, t, S, σ, ⟨e, fun j p q => by rw [g _ _ (by omega) (by omega)]; exact ej j p q⟩, ?_⟩
    refine (BW.mk (r15 := by rw [f _ _ (by omega) (by omega), g _ _ (by omega) (by omega)]; exact w'.r15) (r16 := by rw [f _ _ (by omega) (by omega), g _ _ (by omega) (by omega)]; exact w'.r16) (r17 := by rw [f _ _ (by omega) (by omega), g _ _ (by omega) (by omega)]; exact w'.r17) (r18 := by rw [f _ _ (by omega) (by omega), g _ _ (by omega) (by omega)]; exact w'.r18) (fn := w'.fn) (tt := w'.tt) (s0 := w'.s0) (sn := w'.sn) (sx := w'.sx) (ln := fun l x y => ?_) (tk := fun i x y => by rw [g _ _ (by omega) (by omega), g _ _ (by omega) (by omega)]; exact w'.tk i x y) (bk := ?_) (gv := by rw [g _ _ (by omega) (by omega)]; exact w'.gv))
    · obtain ⟨u, a1, a2⟩ := w'.ln l x y
      refine ⟨u, lr _ u l (by omega) (by omega) a1, a2.cong (fun c i z => g c i (by omega) (by omega)) (fun z => g _ _ (by omega) ?_)⟩
      have := (a2.cl z).1
      omega
    · exact w'.bk.cong (fun c x p q r s => wP_c (fun _ => g _ _ (by omega) (by omega)) (fun _ => g _ _ (by omega) (by omega)) (fun _ => g _ _ (by omega) (by omega)) (fun _ => f _ _ (by omega) (by omega)) (fun _ => f _ _ (by omega) (by omega)) (fun _ => g _ _ (by omega) (by omega)) (fun _ => g _ _ (by omega) (by omega)) (by omega))
  · refine (OB.mk (kk := by rw [e1]; exact v1) (b1 := by omega) (fl := by rw [e1, e3]; exact ⟨v3, u2⟩) (cl := by rw [e1, e3, n5]; exact ⟨by rw [v4]; omega, by rw [u3]; omega⟩) (tk := by rw [e1, e3]; exact ⟨v5, u4⟩) (f0 := by rw [n5]; omega) (sl := (SL.mk (s0 := by rw [v7]; omega) (sc := by rw [u6, v7, e3]; exact u5) (sn := fun i p q => by rw [v7] at q; omega))) (s0 := rfl) (sc := by rw [v7]) (dp := ⟨v8, u9, by omega, by omega⟩) (pt := Or.inl ⟨u8, by rw [n5]; omega, v7⟩) (ln := fun l x y => by rw [n5] at y; omega) (ti := fun i x y => by omega) (cx := ?_))
    rw [n5]
    have e0 : ν 1013 5 + 0 = ν 1013 5 := by omega
    rw [e0]
    exact BL.rf
