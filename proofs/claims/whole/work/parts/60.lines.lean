/-! A whole line, both sides: what comes behind it. -/
def PS (b B W : Int) (Wn : Int → Int) (μ ν : am_M) : Prop := PB b B W Wn μ ν ∧ (B = 0 → ν 1013 5 = 0) ∧ ((ν 1000 43 = 0 ∧ FB b W B (ν 1013 5) Wn μ ν) ∨ (ν 1000 43 = 1 ∧ ∃ f T D σ, FB b W (B - 1) f Wn μ ν ∧ OB b B W f T D Wn σ μ ν))
/-- a part of the class, a part of the reference: both fail alike, or both go on -/
def RES (b : Int) (μ ν : am_M) (Q : am_M → am_M → Prop) (X : (am_M → am_O) → am_O) (y : am_O) : Prop := ∃ μ', (∀ K, X K = K μ') ∧ FA b μ μ' ∧ ∃ ν', FN ν ν' ∧ ((y = some (0, ν') ∧ FL μ' ν') ∨ (y = some (1, ν') ∧ Q μ' ν'))
def cntM (n1 n2 op B : Int) (ν : am_M) : am_M := m_st (m_st (m_st ν 1013 5 n1) 1018 (3 + B) n2) 1000 43 op
theorem cntM_f {n1 n2 op B : Int} {ν : am_M} : ∀ c i, ¬ ((c = 1013 ∧ i = 5) ∨ (c = 1018 ∧ i = 3 + B) ∨ (c = 1000 ∧ i = 43)) → cntM n1 n2 op B ν c i = ν c i := fun c i z => by unfold cntM; rw [m_st_d, if_neg (by omega), m_st_d, if_neg (by omega), m_st_d, if_neg (by omega)]
theorem cntM_v {n1 n2 op B : Int} {ν : am_M} : cntM n1 n2 op B ν 1013 5 = n1 ∧ cntM n1 n2 op B ν 1018 (3 + B) = n2 ∧ cntM n1 n2 op B ν 1000 43 = op := by
  unfold cntM
  refine ⟨?_, ?_, ?_⟩
  · rw [m_st_c (by decide), m_st_c (by decide), m_st_d, if_pos ⟨rfl, rfl⟩]
  · rw [m_st_c (by decide), m_st_d, if_pos ⟨rfl, rfl⟩]
  · rw [m_st_d, if_pos ⟨rfl, rfl⟩]
theorem B298_s {k B n m : Int} {ν : am_M} (hB : 1 ≤ B ∧ B ≤ 4) (h5 : ν 1013 5 = n) (h18 : ν 1018 (3 + B) = m) (hn : 0 ≤ n ∧ n ≤ 60) (hm : 0 ≤ m ∧ m ≤ 60) : M_readsLine_B298 k (3 + B) 1 ν = some (1, cntM (n + 1) (m + 1) (if k = 8 then 0 else 1) B ν) := by
  unfold M_readsLine_B298
  have e18 : ∀ v, m_st ν 1013 5 v 1018 (3 + B) = m := fun v => by rw [m_st_c (by decide)]; exact h18
  rw [if_neg (by decide), q_ld_s (by decide) (by decide), h5, w32_i (x := n + 1) (by omega) (by omega), q_st_s (by decide) (by decide), q_ld_s (by omega) (by omega), e18, w32_i (x := m + 1) (by omega) (by omega), q_st_s (by omega) (by omega)]
  unfold M_readsLine_B337
  by_cases c : k = 8
  · rw [if_pos c, if_pos c, q_pfb_0]; rfl
  · rw [if_neg c, if_neg c, q_pfb_1]; rfl
theorem wP_c {b : Int} {μ ν μ' ν' : am_M} {c x : Int} (h0 : c = 0 → ν' 1002 (60 + x) = ν 1002 (60 + x)) (h1 : c = 1 → ν' 1008 (60 + x) = ν 1008 (60 + x)) (h2 : c = 2 → ν' 1009 (60 + x) = ν 1009 (60 + x)) (h3 : c = 3 → μ' (b + 7) x = μ (b + 7) x) (h4 : c = 4 → μ' 22 x = μ 22 x) (h5 : c = 5 → ν' 1034 x = ν 1034 x) (h6 : c = 6 → ν' 1035 x = ν 1035 x) (hc : 0 ≤ c ∧ c ≤ 6) : wP b 60 μ' ν' c x = wP b 60 μ ν c x := by
  unfold wP
  by_cases c0 : c = 0
  · rw [if_pos c0, if_pos c0, h0 c0]
  rw [if_neg c0, if_neg c0]
  by_cases c1 : c = 1
  · rw [if_pos c1, if_pos c1, h1 c1]
  rw [if_neg c1, if_neg c1]
  by_cases c2 : c = 2
  · rw [if_pos c2, if_pos c2, h2 c2]
  rw [if_neg c2, if_neg c2]
  by_cases c3 : c = 3
  · rw [if_pos c3, if_pos c3, h3 c3]
  rw [if_neg c3, if_neg c3]
  by_cases c4 : c = 4
  · rw [if_pos c4, if_pos c4, h4 c4]
  rw [if_neg c4, if_neg c4]
  by_cases c5 : c = 5
  · rw [if_pos c5, if_pos c5, h5 c5]
  rw [if_neg c5, if_neg c5, h6 (by omega)]
theorem LN_setν {b B W l p c i v : Int} {μ ν : am_M} (h1 : LN b B W l p μ ν) (hc : c = 1008 ∨ c = 1009 ∨ c = 1034 ∨ c = 1035 ∨ (c = 1000 ∧ 43 ≤ i)) : LN b B W l p μ (m_st ν c i v) := by
  have g : ∀ c' i', ¬ (c' = 1008 ∨ c' = 1009 ∨ c' = 1034 ∨ c' = 1035 ∨ (c' = 1000 ∧ 43 ≤ i')) → m_st ν c i v c' i' = ν c' i' := by
    intro c' i' z
    rw [m_st_d, if_neg]
    intro y
    rw [y.1, y.2] at z
    exact z hc
  exact (LN.mk (tr := h1.tr.cong (fun _ _ _ => rfl) (fun c i z => g c i (by omega))) (rd := h1.rd) (nw := h1.nw.cong (fun _ _ _ => rfl) (fun c i z => g c i (by omega))) (sl := h1.sl.cong (fun _ _ _ => rfl) (fun c i z => g c i (by omega))) (cB := by rw [g _ _ (by omega)]; exact h1.cB) (cW := by rw [g _ _ (by omega)]; exact h1.cW) (B1 := h1.B1) (cnt := h1.cnt) (reg := h1.reg) (l0 := h1.l0) (st := h1.st) (sp := h1.sp) (p0 := h1.p0) (cap := h1.cap) (q0 := by rw [g _ _ (by omega)]; exact h1.q0) (caq := by rw [g _ _ (by omega)]; exact h1.caq))
theorem LR_ν {b W S u l : Int} {Wn : Int → Int} {μ ν ν' : am_M} (h : LR b 60 1000 W S u l Wn μ ν) (g : ∀ c i, ¬ (c = 1000 ∨ c = 1008 ∨ c = 1009 ∨ 1013 ≤ c) → ν' c i = ν c i) : LR b 60 1000 W S u l Wn μ ν' := h.cong (Int.le_refl _) (fun _ _ _ => rfl) (fun c i z => g c i (by omega))
theorem fin_open {b B W f T D T' D' : Int} {Wn σ : Int → Int} {μ ν μ2 ν2 : am_M} (hb : bOk b) (h : PB b B W Wn μ ν) (hf : FB b W (B - 1) f Wn μ ν) (o : OB b B W f T D Wn σ μ ν) (h60 : ν 1013 5 < 60) (hμ : GM b f (μ (b + 1) 11) (ν 1013 5) B μ μ2) (hν : GN f (ν 1000 30) (ν 1013 5) B ν ν2) (ln : LN b B W (ν 1013 5) (μ (b + 1) 11) μ2 ν2) (hz : RZ (ν 1013 5) (ν 1000 30) ν2) (lq : ∃ u, LR b 60 1000 W (μ2 20 6) u (ν 1013 5) Wn μ2 ν2 ∧ LQ 60 4 B u (ν 1013 5) (μ 20 6) (μ2 20 6) ν2) (b16 : μ2 (b + 16) (B - 1) = ν 1013 5 + 1 - f) (op : μ2 20 13 = 1) (b17 : μ2 (b + 17) (B - 1) = T' ∧ ν2 1019 (3 + B) = T') (dp : μ2 20 7 = D' ∧ ν2 1000 45 = D' ∧ 0 ≤ D' ∧ D' ≤ 3)
    (ht : (T' = T ∧ ν2 1000 44 = 1) ∨ (T' = T + 1 ∧ T ≤ 3 ∧ ν2 1000 44 = 0 ∧ ν 1000 44 = 0 ∧ μ2 20 6 = T + 1 ∧ ν2 1002 (60 + ν 1013 5) = 0 ∧ ν2 1003 (60 + ν 1013 5) = T)) (cx : ctx (wP b 60 μ2 ν2) D'.toNat 3 0 (f + T') (ν 1013 5 + 1)) :
    PS b B W Wn μ2 (cntM (ν 1013 5 + 1) (ν 1013 5 - f + 1) 1 B ν2) ∧ cntM (ν 1013 5 + 1) (ν 1013 5 - f + 1) 1 B ν2 1013 5 = ν 1013 5 + 1 ∧ FA b μ μ2 ∧ FN ν (cntM (ν 1013 5 + 1) (ν 1013 5 - f + 1) 1 B ν2) := by
  have hb' : b = 100 ∨ b = 200 := hb
  have hB := h.nw.b0
  have hcB := h.cB
  have hb1 := o.b1
  have hc := h.c6
  have hf0 := o.f0
  have hg : ∀ c i, ¬ ((c = 1013 ∧ i = 5) ∨ (c = 1018 ∧ i = 3 + B) ∨ (c = 1000 ∧ i = 43)) → cntM (ν 1013 5 + 1) (ν 1013 5 - f + 1) 1 B ν2 c i = ν2 c i := cntM_f
  obtain ⟨v1, v2, v3⟩ := cntM_v (n1 := ν 1013 5 + 1) (n2 := ν 1013 5 - f + 1) (op := 1) (B := B) (ν := ν2)
  generalize cntM (ν 1013 5 + 1) (ν 1013 5 - f + 1) 1 B ν2 = ν4 at *
  have hν4 : GN f (ν 1000 30) (ν 1013 5) B ν ν4 := hν.tr (fun c i z => hg c i (by omega))
  obtain ⟨u, l1, l2⟩ := lq
  have l3 : LR b 60 1000 W (μ2 20 6) u (ν 1013 5) Wn μ2 ν4 := LR_ν l1 (fun c i z => hg c i (by omega))
  have l4 : LQ 60 4 B u (ν 1013 5) (μ 20 6) (μ2 20 6) ν4 := l2.cong (fun c i z => hg c i (by omega)) (fun z => hg _ _ (by omega))
  have sl : SL μ2 ν4 := ln.sl.cong (fun _ _ _ => rfl) (fun c i z => hg c i (by omega))
  have hfr := l1.fr
  have hp0 := ln.p0
  have hcap := ln.cap
  have hcaq := ln.caq
  have e30 : ν4 1000 30 = ν2 1000 30 := hg _ _ (by omega)
  have e11 : ν4 1011 (60 + ν 1013 5) = ν2 1011 (60 + ν 1013 5) := hg _ _ (by omega)
  rw [hz.1, hz.2] at hfr
  have pb : PB b B W Wn μ2 ν4 := PB_step hb h h60 hμ hν4 (ln.tr.cong (fun _ _ _ => rfl) (fun c i z => hg c i (by omega))) ln.rd.rf ln.cnt v1 ⟨hp0.2, hcap⟩ (by rw [e30]; omega) (by rw [v3]; exact op) ⟨_, u, ln.sl.s0.2, l3⟩ ⟨by rw [ln.sp]; exact Int.le_refl _, by rw [e30, e11, hz.2]; exact Int.le_refl _⟩
  refine ⟨⟨pb, fun z => by omega, Or.inr ⟨v3, f, T', D', _, FB_step hb h hf (Int.le_refl _) (Int.le_refl _) (by omega) hμ hν4, OB_step hb h o hμ hν4 v1 sl ⟨b16, by rw [v2]; omega⟩ ⟨b17.1, by rw [hg _ _ (by omega)]; exact b17.2⟩ ⟨u, l3, l4⟩ ⟨dp.1, by rw [hg _ _ (by omega)]; exact dp.2.1, dp.2.2⟩ ?_ ?_⟩⟩, v1, hμ.fa, hν4.fn hf0.1 h.q0 hc.1 hb1⟩
  · rw [hg 1000 44 (by omega), hg 1002 _ (by omega), hg 1003 _ (by omega)]; exact ht
  · exact ctx_c _ _ _ _ _ (fun c x p q r s => wP_c (fun _ => hg _ _ (by omega)) (fun _ => hg _ _ (by omega)) (fun _ => hg _ _ (by omega)) (fun _ => rfl) (fun _ => rfl) (fun _ => hg _ _ (by omega)) (fun _ => hg _ _ (by omega)) (by omega)) (fun c x p q r s => wP_c (fun _ => hg _ _ (by omega)) (fun _ => hg _ _ (by omega)) (fun _ => hg _ _ (by omega)) (fun _ => rfl) (fun _ => rfl) (fun _ => hg _ _ (by omega)) (fun _ => hg _ _ (by omega)) (by omega)) cx
/-- .. the give of a bill -/
theorem fin_give {b B W f T : Int} {Wn σ : Int → Int} {μ ν μ2 ν2 : am_M} (hb : bOk b) (h : PB b B W Wn μ ν) (hf : FB b W (B - 1) f Wn μ ν) (o : OB b B W f T 0 Wn σ μ ν) (h60 : ν 1013 5 < 60) (hμ : GM b f (μ (b + 1) 11) (ν 1013 5) B μ μ2) (hν : GN f (ν 1000 30) (ν 1013 5) B ν ν2) (ln : LN b B W (ν 1013 5) (μ (b + 1) 11) μ2 ν2) (hz : RZ (ν 1013 5) (ν 1000 30) ν2) (lq : ∃ u, LR b 60 1000 W (μ2 20 6) u (ν 1013 5) Wn μ2 ν2 ∧ LQ 60 4 B u (ν 1013 5) (μ 20 6) (μ2 20 6) ν2) (b16 : μ2 (b + 16) (B - 1) = ν 1013 5 + 1 - f) (b17 : μ2 (b + 17) (B - 1) = T ∧ ν2 1019 (3 + B) = T) (k8 : ν2 1002 (60 + ν 1013 5) = 8) (cx : BL (wP b 60 μ2 ν2) 3 (f + T) (ν 1013 5)) :
    PS b B W Wn (m_st (m_st μ2 (b + 18) (B - 1) (μ2 20 6)) 20 13 0) (cntM (ν 1013 5 + 1) (ν 1013 5 - f + 1) 0 B ν2) ∧ cntM (ν 1013 5 + 1) (ν 1013 5 - f + 1) 0 B ν2 1013 5 = ν 1013 5 + 1 ∧ FA b μ (m_st (m_st μ2 (b + 18) (B - 1) (μ2 20 6)) 20 13 0) ∧ FN ν (cntM (ν 1013 5 + 1) (ν 1013 5 - f + 1) 0 B ν2) := by
  have hb' : b = 100 ∨ b = 200 := hb
  have hB := h.nw.b0
  have hcB := h.cB
  have hb1 := o.b1
  have hc := h.c6
  have hf0 := o.f0
  have hg : ∀ c i, ¬ ((c = 1013 ∧ i = 5) ∨ (c = 1018 ∧ i = 3 + B) ∨ (c = 1000 ∧ i = 43)) → cntM (ν 1013 5 + 1) (ν 1013 5 - f + 1) 0 B ν2 c i = ν2 c i := cntM_f
  obtain ⟨v1, v2, v3⟩ := cntM_v (n1 := ν 1013 5 + 1) (n2 := ν 1013 5 - f + 1) (op := 0) (B := B) (ν := ν2)
  have hm : ∀ c i, ¬ ((c = b + 18 ∧ i = B - 1) ∨ (c = 20 ∧ i = 13)) → m_st (m_st μ2 (b + 18) (B - 1) (μ2 20 6)) 20 13 0 c i = μ2 c i := fun c i z => by rw [m_st_d, if_neg (by omega), m_st_d, if_neg (by omega)]
  have m18 : m_st (m_st μ2 (b + 18) (B - 1) (μ2 20 6)) 20 13 0 (b + 18) (B - 1) = μ2 20 6 := by rw [m_st_c (by omega), m_st_d, if_pos ⟨rfl, rfl⟩]
  have m13 : m_st (m_st μ2 (b + 18) (B - 1) (μ2 20 6)) 20 13 0 20 13 = 0 := by rw [m_st_d, if_pos ⟨rfl, rfl⟩]
  generalize cntM (ν 1013 5 + 1) (ν 1013 5 - f + 1) 0 B ν2 = ν4 at *
  generalize m_st (m_st μ2 (b + 18) (B - 1) (μ2 20 6)) 20 13 0 = μ4 at *
  have hν4 : GN f (ν 1000 30) (ν 1013 5) B ν ν4 := hν.tr (fun c i z => hg c i (by omega))
  have hμ4 : GM b f (μ (b + 1) 11) (ν 1013 5) B μ μ4 := hμ.tr (fun c i z => hm c i (by omega))
  obtain ⟨u, l1, l2⟩ := lq
  have l3 : LR b 60 1000 W (μ2 20 6) u (ν 1013 5) Wn μ4 ν4 := l1.cong (Int.le_refl _) (fun c i z => hm c i (by omega)) (fun c i z => hg c i (by omega))
  have l4 : LQ 60 4 B u (ν 1013 5) (μ 20 6) (μ2 20 6) ν4 := l2.cong (fun c i z => hg c i (by omega)) (fun z => hg _ _ (by omega))
  have hfr := l1.fr
  have hp0 := ln.p0
  have hcap := ln.cap
  have hcaq := ln.caq
  have hsl := ln.sl.s0
  have hsc := ln.sl.sc
  rw [ln.cB] at hsc
  have e30 : ν4 1000 30 = ν2 1000 30 := hg _ _ (by omega)
  have e11 : ν4 1011 (60 + ν 1013 5) = ν2 1011 (60 + ν 1013 5) := hg _ _ (by omega)
  have p11 : μ4 (b + 1) 11 = μ2 (b + 1) 11 := hm _ _ (by omega)
  have p3 : μ4 10 3 = μ2 10 3 := hm _ _ (by omega)
  rw [hz.1, hz.2] at hfr
  have pb : PB b B W Wn μ4 ν4 := PB_step hb h h60 hμ4 hν4 (ln.tr.cong (fun c i z => hm c i (by omega)) (fun c i z => hg c i (by omega))) (by rw [hm _ _ (by omega)]; exact ln.rd.rf) (by rw [hm _ _ (by omega)]; exact ln.cnt) v1 (by rw [p11, p3]; exact ⟨hp0.2, hcap⟩) (by rw [e30, p3]; omega) (by rw [v3]; exact m13) ⟨_, u, ln.sl.s0.2, l3⟩ ⟨by rw [p11, hm _ _ (by omega), ln.sp]; exact Int.le_refl _, by rw [e30, e11, hz.2]; exact Int.le_refl _⟩
  refine ⟨⟨pb, fun z => by omega, Or.inl ⟨v3, ?_⟩⟩, v1, hμ4.fa, hν4.fn hf0.1 h.q0 hc.1 hb1⟩
  rw [v1]
  have fb := FB_step hb h hf (Int.le_refl _) (Int.le_refl _) (by omega) hμ4 hν4
  intro k k0 k1
  by_cases z : k < B - 1
  · obtain ⟨f', n, t, S, σ', ⟨e, ej⟩, w⟩ := fb k k0 z
    refine ⟨f', n, t, S, σ', ⟨by omega, fun j p q => ?_⟩, w⟩
    by_cases jj : j < B - 1
    · exact ej j p jj
    · have e4 : 4 + j = 3 + B := by omega
      rw [e4, hν4 _ _ (by omega), o.fl.2]
      exact e
  · have ek : k = B - 1 := by omega
    subst ek
    have e4 : 4 + (B - 1) = 3 + B := by omega
    have en : f + (ν 1013 5 + 1 - f) - 1 = ν 1013 5 := by omega
    refine ⟨f, ν 1013 5 + 1 - f, T, μ2 20 6, fun x => if x = ν 1013 5 + 1 then μ2 20 6 else σ x, ⟨by omega, fun j p q => by omega⟩, ?_⟩
    refine (BW.mk (r15 := by rw [hμ4 _ _ (by omega), e4, hν4 _ _ (by omega)]; exact o.fl) (r16 := ⟨by rw [hm _ _ (by omega)]; exact b16, by rw [e4, v2]; omega⟩) (r17 := ⟨by rw [hm _ _ (by omega)]; exact b17.1, by rw [e4, hg _ _ (by omega)]; exact b17.2⟩) (r18 := ⟨m18, by rw [e4, hg _ _ (by omega)]; exact hsc⟩) (fn := by omega) (tt := by omega) (s0 := by rw [if_neg (by omega)]; exact o.s0) (sn := by rw [if_pos (by omega)]) (sx := hsl) (ln := fun l x y => ?_) (tk := fun i x y => by rw [hν4 _ _ (by omega), hν4 _ _ (by omega)]; exact o.ti i x y) (bk := ?_) (gv := by rw [en, hg _ _ (by omega)]; exact k8))
    · have eB : B - 1 + 1 = B := by omega
      rw [eB]
      by_cases w : l = ν 1013 5
      · subst w
        exact ⟨u, by rw [if_pos rfl]; exact l3, by rw [if_pos rfl, if_neg (by omega), o.sc]; exact l4⟩
      · obtain ⟨u', a1, a2⟩ := o.ln l x (by omega)
        rw [if_neg (by omega), if_neg (by omega)]
        exact ⟨u', LR_step hb h hμ4 hν4 ⟨by omega, by omega⟩ a1, LQ_step h hν4 ⟨by omega, by omega⟩ a2 (fun _ => Or.inr (by rw [hg _ _ (by omega), b17.2, o.tk.2])) (Int.le_refl _)⟩
    · rw [en]
      exact cx.cong (fun c x p q r s => wP_c (fun _ => hg _ _ (by omega)) (fun _ => hg _ _ (by omega)) (fun _ => hg _ _ (by omega)) (fun _ => hm _ _ (by omega)) (fun _ => hm _ _ (by omega)) (fun _ => hg _ _ (by omega)) (fun _ => hg _ _ (by omega)) (by omega))
