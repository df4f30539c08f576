/-! Any line, both sides. -/
theorem RES.cong {Q : am_M → am_M → Prop} {X X' : (am_M → am_O) → am_O} {y y' : am_O} {b : Int} {μ ν : am_M} (h : RES b μ ν Q X' y') (hX : ∀ K, X K = X' K) (hy : y = y') : RES b μ ν Q X y := by
  obtain ⟨μ', a1, a2⟩ := h
  exact ⟨μ', fun K => (hX K).trans (a1 K), by rw [hy]; exact a2⟩
theorem LOG.idy {b : Int} {μ ν : am_M} {P : am_M → am_M → Prop} {x y : am_O} (h : LOG b μ ν P x y) : q_bd y (fun a z => q_rb a (some (a, z))) = y := by
  obtain ⟨r, μ1, -, a2⟩ := h
  rcases a2 with ⟨-, ν1, y1, -⟩ | ⟨-, r2, μ2, ν2, -, y1, y2⟩
  · rw [y1]; exact q_rb0
  · rw [y1]
    rcases y2 with ⟨z, -⟩ | ⟨z, -⟩
    · subst z; exact q_rb0
    · subst z; exact q_rb1
theorem rest_e {b B W k l p : Int} {μ1 ν1 : am_M} (hb : bOk b) (lb : LB b B W l p k μ1 ν1) : Rd_readRest μ1 = (if k = 0 then (q_bd (Rd_isUntaken μ1) fun a4 μ5 => if a4 = 0 then (some (0, μ5)) else (q_bd (Rd_readSlip 1 μ5) fun a6 μ7 => if a6 = 0 then (some (0, μ7)) else (q_bd (Rd_readKind μ7) fun a8 μ9 => if a8 = 0 then (some (0, μ9)) else (some (1, μ9)))))
else (if k = 1 then (q_bd (Rd_readSlip 1 μ1) fun a10 μ11 => if a10 = 0 then (some (0, μ11)) else (q_bd (Rd_readKind μ11) fun a12 μ13 => if a12 = 0 then (some (0, μ13)) else (q_bd (Rd_readSum μ13) fun a14 μ15 => if a14 = 0 then (some (0, μ15)) else (some (1, μ15)))))
else (if k = 2 then (q_bd (Rd_readSlip 0 μ1) fun a16 μ17 => if a16 = 0 then (some (0, μ17)) else (q_bd (Rd_expect 113 μ17) fun a18 μ19 => if a18 = 0 then (some (0, μ19)) else (q_bd (Rd_readSlip 1 μ19) fun a20 μ21 => if a20 = 0 then (some (0, μ21)) else (q_bd (Rd_readSlip 2 μ21) fun a22 μ23 => if a22 = 0 then (some (0, μ23)) else (some (1, μ23))))))
else (if k = 3 then (q_bd (Rd_readSlip 0 μ1) fun a24 μ25 => q_rb a24 (some (a24, μ25)))
else (if k = 4 then (q_bd (Rd_readCall μ1) fun a26 μ27 => if a26 = 0 then (some (0, μ27)) else (q_bd (Rd_expect 113 μ27) fun a28 μ29 => if a28 = 0 then (some (0, μ29)) else (q_bd (Rd_readSlip 1 μ29) fun a30 μ31 => if a30 = 0 then (some (0, μ31)) else (some (1, μ31)))))
else (if k = 5 then (q_bd (X_put 22 (μ1 20 7) (μ1 20 12) μ1) fun a32 μ33 => q_pf 20 7 (w32 ((μ33 20 7) + 1)) μ33 fun μ34 => q_bd (Rd_readSum μ34) fun a35 μ36 => q_rb a35 (some (a35, μ36)))
else (if k = 6 then (q_gd 2 (μ1 20 5) <| q_bd (X_at 22 (w32 ((μ1 20 7) - 1)) μ1) fun a38 μ39 => q_bd (X_put ((μ1 20 5) + 6) a38 (μ39 20 12) μ39) fun a40 μ41 => q_bd (X_put 22 (w32 ((μ41 20 7) - 1)) (μ41 20 12) μ41) fun a42 μ43 => some (1, μ43))
else (if k = 7 then (q_pf 20 7 (w32 ((μ1 20 7) - 1)) μ1 fun μ44 => q_gd 2 (μ44 20 5) <| q_bd (X_at 22 (μ44 20 7) μ44) fun a46 μ47 => q_bd (X_put ((μ44 20 5) + 6) a46 (μ47 20 12) μ47) fun a48 μ49 => some (1, μ49))
else (q_bd (Rd_readSum μ1) fun a50 μ51 => q_rb a50 (some (a50, μ51))))))))))) := by
  have e2 : b + 1 + 1 = b + 2 := by omega
  have hg : am_isO (μ1 20 5) 2 = true := by rw [lb.ln.rd.rl]; exact bO2 hb
  have hX : X_at ((μ1 20 5) + 1) (μ1 20 12) μ1 = some (k, μ1) := by rw [lb.ln.rd.rl, lb.ln.reg, e2, bat2 hb, if_pos lb.ln.l0, lb.k2]
  unfold Rd_readRest
  rw [q_gd_s hg, hX, q_bd_s]
set_option maxHeartbeats 4000000 in
theorem line_s {b B W f T D : Int} {Wn σ : Int → Int} {μ ν : am_M} (hb : bOk b) (h : PB b B W Wn μ ν) (hf : FB b W (B - 1) f Wn μ ν) (o : OB b B W f T D Wn σ μ ν) (hop : ν 1000 43 = 1) : RES b μ ν (fun μ' ν' => PS b B W Wn μ' ν' ∧ ν' 1013 5 = ν 1013 5 + 1 ∧ FA b μ μ' ∧ FN ν ν') (fun K => q_bd (Rd_startLine μ) fun a1 μ2 => if a1 = 0 then K μ2 else (q_bd (Rd_readRest μ2) fun a3 μ4 => if a3 = 0 then K μ4 else (q_bd (Rd_endLine μ4) fun a5 μ6 => K μ6))) (M_readsLine ν) := by
  have hb' : b = 100 ∨ b = 200 := hb
  have hB0 := h.nw.b0
  have hcB := h.cB
  have hb1 := o.b1
  have hf0 := o.f0
  have hc6 := h.c6
  obtain ⟨d1, d2, d3, d4⟩ := o.dp
  rcases start_s hb h o hop with ⟨μ1, ν1, e1, e2, e3, e4, e5⟩ | ⟨k, e1, hk0, hk8, hK, h60, hst, hT3, hD2, e2⟩
  · exact ⟨μ1, fun K => by show (q_bd (Rd_startLine μ) _) = _; rw [e1, q_bd_s, if_pos rfl], e4, ν1, e5, Or.inl ⟨e2, e3⟩⟩
  rw [e2]
  have tail : ∀ (ν0 : am_M) (y : am_O), (∀ c i, ¬ (c = 1000 ∧ i = 44) → ν0 c i = preM k (60 + ν 1013 5) ν c i) → (∀ μ1 ν1, M_nextToken ν0 = some (0, ν1) → BG b B W f T D k μ ν ν0 μ1 ν1 → RES b μ ν (fun μ' ν' => PS b B W Wn μ' ν' ∧ ν' 1013 5 = ν 1013 5 + 1 ∧ FA b μ μ' ∧ FN ν ν') (fun K => q_bd (Rd_readRest μ1) fun a3 μ4 => if a3 = 0 then K μ4 else (q_bd (Rd_endLine μ4) fun a5 μ6 => K μ6)) y) → RES b μ ν (fun μ' ν' => PS b B W Wn μ' ν' ∧ ν' 1013 5 = ν 1013 5 + 1 ∧ FA b μ μ' ∧ FN ν ν') (fun K => q_bd (Rd_startLine μ) fun a1 μ2 => if a1 = 0 then K μ2 else (q_bd (Rd_readRest μ2) fun a3 μ4 => if a3 = 0 then K μ4 else (q_bd (Rd_endLine μ4) fun a5 μ6 => K μ6))) y := by
    intro ν0 y g0 H
    obtain ⟨μ1, ν1, a1, a2, g⟩ := bg_s hb h o hop ⟨hk0, hk8⟩ hK h60 g0
    refine (H μ1 ν1 a2 g).cong (fun K => ?_) rfl
    rw [e1, a1, q_bd_s, q_bd_s, if_neg (by decide)]
  by_cases k0 : k = 0
  · subst k0
    rw [if_pos rfl]
    refine tail _ _ (fun _ _ _ => rfl) (fun μ1 ν1 a2 g => ?_)
    have p44 := hst.1 rfl
    have f44 : preM 0 (60 + ν 1013 5) ν 1000 44 = 0 := by rw [preM_f _ _ (by omega)]; exact p44
    have f19 : preM 0 (60 + ν 1013 5) ν 1019 (3 + B) = T := by rw [preM_f _ _ (by omega)]; exact o.tk.2
    have f5 : preM 0 (60 + ν 1013 5) ν 1013 5 = ν 1013 5 := preM_f _ _ (by omega)
    have hT := hT3 rfl
    have hpt := o.pt
    rw [rest_e hb g.lb, if_pos rfl]
    unfold M_readsTake
    rw [f44, if_pos rfl, q_ld_s (by omega) (by omega), f19, if_neg (by omega), q_ld_s (by omega) (by omega), f5, if_neg (by omega), a2, q_bd_s]
    exact fin_s (LOG.base (take_s (Wn := Wn) (q := ν 1000 30) hb g.lb g.kk (by omega) (by rw [(g.b17 _).1]; exact o.tk.1) (by rw [(g.b17 _).2]; exact o.tk.2) ⟨by omega, hT⟩ (by rw [g.s6]; omega) g.hq) g.gm.fa (g.gn.fn hf0.1 h.q0 hc6.1 hb1)) (fun _ _ z => z.2.2) (fin_T hb h hf o h60 g f44 p44 hT)
  rw [if_neg k0, q_pfb_1]
  refine tail (m_st (preM k (60 + ν 1013 5) ν) 1000 44 1) _ (fun c i z => by rw [m_st_d, if_neg z]) (fun μ1 ν1 a2 g => ?_)
  have f44 : m_st (preM k (60 + ν 1013 5) ν) 1000 44 1 1000 44 = 1 := by rw [m_st_d, if_pos ⟨rfl, rfl⟩]
  have hWn : ∀ w, 0 ≤ w → w < W → Wn w = ν1 1015 (4 + w) := fun w x y => by rw [g.w _ _ (by omega)]; exact h.wn w x y
  generalize m_st (preM k (60 + ν 1013 5) ν) 1000 44 1 = ν0 at *
  rw [rest_e hb g.lb, if_neg k0]
  unfold M_readsOther
  by_cases k1 : k = 1
  · subst k1
    rw [if_pos rfl, if_pos rfl]
    have q := let_s hb g.lb g.hq h.wr hWn
    have q2 := q.idx.2.2
    unfold M_readsLet
    rw [a2, q_bd_s, q2]
    exact fin_s ((q.g hc6.1 h.q0 hb1).base g.gm.fa (g.gn.fn hf0.1 h.q0 hc6.1 hb1)) (fun _ _ z => z.2.2) (fin_A hb h hf o h60 g ⟨by decide, by decide⟩ f44)
  rw [if_neg k1, if_neg k1]
  by_cases k5 : k = 5
  · subst k5
    rw [if_pos rfl, if_neg (by decide), if_neg (by decide), if_neg (by decide), if_pos rfl]
    have q := if_s hb g.lb g.hq h.wr hWn ⟨d3, hD2 rfl⟩ g.d7.1 g.d7.2
    have q2 := q.idy
    unfold M_readsIf
    rw [a2, q_bd_s, q2]
    exact fin_s (q.base g.gm.fa (g.gn.fn hf0.1 h.q0 hc6.1 hb1)) (fun _ _ z => z.2.2) (fin_I hb h hf o h60 g f44 (hD2 rfl))
  rw [if_neg k5]
  by_cases k6 : k = 6
  · subst k6
    rw [if_pos rfl, if_neg (by decide), if_neg (by decide), if_neg (by decide), if_neg (by decide), if_pos rfl]
    obtain ⟨s1, s2⟩ := hst.2.1 rfl
    obtain ⟨i0, e0, t1, t2, t3, t4⟩ := top_s h o s1
    rcases t4 with ⟨t5, t6, t7⟩ | ⟨t5, -⟩
    · have q := else_s (Wn := Wn) (q := ν 1000 30) (i0 := i0) hb g.lb g.hq ⟨s1, d4⟩ g.d7.1 g.d7.2 (by rw [g.m22]; exact t6) (by rw [g.w _ _ (by omega)]; exact t3) (by omega)
      have q2 := q.idx.2.2
      have fa1 : FA b μ1 (m_st (m_st μ1 (b + 7) i0 (ν 1013 5)) 22 (D - 1) (ν 1013 5)) := fun c i z => by rw [m_st_d, if_neg (by omega), m_st_d, if_neg (by omega)]
      have fn1 : FN ν1 (m_st (m_st ν1 1035 (D - 1) 1) 1008 (60 + i0) (60 + ν 1013 5)) := fun c i z => by rw [m_st_d, if_neg (by omega), m_st_d, if_neg (by omega)]
      unfold M_readsElse
      rw [a2, q_bd_s, q2]
      exact fin_s ((q.g hc6.1 h.q0 hb1).base (g.gm.fa.tr fa1) ((g.gn.fn hf0.1 h.q0 hc6.1 hb1).tr fn1)) (fun _ _ z => z.2.2) (fin_E hb h hf o h60 g f44 s1 t3 t5 ⟨t1, t2⟩)
    · omega
  rw [if_neg k6]
  by_cases k7 : k = 7
  · subst k7
    rw [if_pos rfl, if_neg (by decide), if_neg (by decide), if_neg (by decide), if_neg (by decide), if_neg (by decide), if_pos rfl]
    obtain ⟨s1, s2⟩ := hst.2.2.1 rfl
    obtain ⟨i0, e0, t1, t2, t3, t4⟩ := top_s h o s1
    rcases t4 with ⟨t5, -⟩ | ⟨t5, t6, t7, t8, t9, t10⟩
    · omega
    · have q := end_s (Wn := Wn) (q := ν 1000 30) (i0 := i0) (e0 := e0) hb g.lb g.hq ⟨s1, d4⟩ g.d7.1 g.d7.2 (by rw [g.m22]; exact t6) (by rw [g.w _ _ (by omega)]; exact t3) (by omega) (by omega) (by rw [g.w _ _ (by omega)]; exact t7)
      have q2 := q.idx.2.2
      have fa1 : FA b μ1 (m_st (m_st μ1 20 7 (D - 1)) (b + 7) e0 (ν 1013 5)) := fun c i z => by rw [m_st_d, if_neg (by omega), m_st_d, if_neg (by omega)]
      have fn1 : FN ν1 (m_st (m_st (m_st ν1 1000 45 (D - 1)) 1009 (60 + i0) (60 + ν 1013 5)) 1009 (60 + e0) (60 + ν 1013 5)) := fun c i z => by rw [m_st_d, if_neg (by omega), m_st_d, if_neg (by omega), m_st_d, if_neg (by omega)]
      unfold M_readsEnd
      rw [a2, q_bd_s, q2]
      exact fin_s ((q.g hc6.1 h.q0 hb1).base (g.gm.fa.tr fa1) ((g.gn.fn hf0.1 h.q0 hc6.1 hb1).tr fn1)) (fun _ _ z => z.2.2) (fin_D hb h hf o h60 g f44 s1 t3 t5 t6 ⟨t1, t8, t9⟩)
  rw [if_neg k7, a2, q_bd_s]
  by_cases k2 : k = 2
  · subst k2
    rw [if_pos rfl, if_pos rfl]
    have q := (twin_s (Wn := Wn) (q := ν 1000 30) hb g.lb).toQ (Or.inl g.lb.m2) g.hq g.lb.m10 g.lb.m11
    rw [q.idx.2.2]
    exact fin_s ((q.g hc6.1 h.q0 hb1).base g.gm.fa (g.gn.fn hf0.1 h.q0 hc6.1 hb1)) (fun _ _ z => z.2.2) (fin_A hb h hf o h60 g ⟨by decide, by decide⟩ f44)
  rw [if_neg k2, if_neg k2]
  by_cases k4 : k = 4
  · subst k4
    rw [if_pos rfl, if_neg (by decide), if_pos rfl]
    have hT : ∀ j, 0 ≤ j → j < B → μ1 (b + 17) j = ν1 1019 (4 + j) ∧ 0 ≤ ν1 1019 (4 + j) ∧ ν1 1019 (4 + j) ≤ 4 := by
      intro j x y
      rw [(g.b17 _).1, (g.b17 _).2]
      by_cases z : j < B - 1
      · obtain ⟨f', n, t, S, σ', -, w⟩ := hf j x z
        rw [w.r17.1, w.r17.2]
        exact ⟨rfl, w.tt⟩
      · have e : j = B - 1 := by omega
        subst e
        have e4 : 4 + (B - 1) = 3 + B := by omega
        rw [e4, o.tk.1, o.tk.2]
        exact ⟨rfl, by omega, by omega⟩
    obtain ⟨t, q⟩ := call_s (Wn := Wn) (q := ν 1000 30) hb g.lb g.hq hT
    rw [q.idx.2.2]
    exact fin_s ((q.g hc6.1 h.q0 hb1).base g.gm.fa (g.gn.fn hf0.1 h.q0 hc6.1 hb1)) (fun _ _ z => z.2.2) (fin_A hb h hf o h60 g ⟨by decide, by decide⟩ f44)
  rw [if_neg k4]
  by_cases k8 : k = 8
  · subst k8
    rw [if_pos rfl, if_neg (by decide), if_neg (by decide), if_neg (by decide), if_neg (by decide), if_neg (by decide)]
    have hD := hst.2.2.2 rfl
    subst hD
    have q := give_s hb g.lb g.hq h.wr hWn
    exact fin_s ((q.g hc6.1 h.q0 hb1).base g.gm.fa (g.gn.fn hf0.1 h.q0 hc6.1 hb1)) (fun _ _ z => z.2.2) (fin_G hb h hf o h60 g)
  rw [if_neg k8]
  have k3 : k = 3 := by omega
  subst k3
  rw [if_pos rfl]
  have q := (burn_s (Wn := Wn) (q := ν 1000 30) hb g.lb g.hq).toQ (Or.inr g.lb.m2) g.hq g.lb.m10 g.lb.m11
  exact fin_s ((q.g hc6.1 h.q0 hb1).base g.gm.fa (g.gn.fn hf0.1 h.q0 hc6.1 hb1)) (fun _ _ z => z.2.2) (fin_A hb h hf o h60 g ⟨by decide, by decide⟩ f44)
