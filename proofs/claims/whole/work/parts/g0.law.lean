/-! The law's loop. -/
theorem lw_sw {X : am_X} {CR : am_CR} {nL : Nat} {rt : Option FieldType} {C : List am_E} {res : am_R} {P : am_P} {e : am_E} {d lo ov : Int} {os : List Int} {x : Int} {t : Nat} {ls : am_L} {r : am_S} {μ : am_M} (hP : am_rul X CR nL rt C res P) (ht : am_tgt e ov = t) (k1 : P t ls r μ) (k2 : P (am_tsw e d (lo + 1) os x) ls r μ) : P (am_tsw e d lo (ov :: os) x) ls r μ := by
  unfold am_tsw
  by_cases q : x = lo
  · rw [if_pos q, ht]; exact k1
  · rw [if_neg q]; exact k2
theorem lw_sw0 {P : am_P} {e : am_E} {d lo : Int} {x : Int} {t : Nat} {ls : am_L} {r : am_S} {μ : am_M} (ht : am_tgt e d = t) (k : P t ls r μ) : P (am_tsw e d lo [] x) ls r μ := by
  unfold am_tsw; rw [ht]; exact k
theorem am_CR80 (l : Launch) (R : Room) (hR : 100 ≤ R.frames ∧ 6000 ≤ R.locals) (dC : Nat → ClassId) (dI : Nat → Nat → Nat) (ad : Int → Nat) (cT : Nat → ClassId) (sb N M : Nat) : am_CRok g_mt l R dC dI ad cT sb (fun _ => N) (fun _ => M) (am_ar g_mt 80) := by
  intro j as μ res h1 h2 h3 h4 h5
  obtain ⟨q1, I, hI, hlen, hM⟩ := am_met g_mw g_mc l dC dI ad cT sb 80 j as μ res h1 h2 h3
  have h8 := (g_mw _ _ hI).2.2.2.2.2.2.2
  exact ⟨q1, ⟨h4, h5⟩, I, _, 0, 0, hI, hlen, rfl, rfl, (show 80 + 1 ≤ R.frames by omega), (show 8 + (I.2.2.1 + 11) + (64 * 80 + 64) ≤ R.locals by omega), rfl, rfl, hM⟩
theorem am_G_out {μ : am_M} (hG : am_G μ) {v : Int} (h : r64 v) : am_G (m_st μ 2000 0 v) := am_G_st hG (fun k hk => by
  obtain rfl : k = (1, 1) := (Option.some.inj (shp_out.symm.trans hk)).symm
  exact ⟨(fun z => absurd z (show ¬ (1 : Nat) = 0 by decide)), (fun _ => h), (fun z => absurd z (show ¬ (1 : Nat) = 2 by decide)), (fun ci z => absurd z (show ¬ (1 : Nat) = 10 + ci by omega))⟩)
theorem r64_of {v : Int} (h : r32 v) : r64 v := by unfold r32 at h; unfold r64; omega
theorem am_G_mach {μ : am_M} (hG : am_G μ) {c : Int} (hc : am_shp c = some (13, 0)) : r32 (μ c 7) := ((hG c _ hc).2.2.2 3 rfl 7 (0, 0) rfl).1 rfl
section LW
variable {p : Program} {l : Launch} {e : Env} {R : Room} {s : State} {m : MethodId} {args : Array Value} {below : List Frame} {meth : Method} {c : Code} {Q : State → Prop}
variable {dC : Nat → ClassId} {dI : Nat → Nat → Nat} {cT : Nat → ClassId} {ad : Int → Nat} {sb : Nat} {A : Nat → Prop} {L : Nat} {xs : Nat → Int32}
theorem lw_rul (C0 : am_cx p s m args c code 7 "BurningSlipsLaw" [] [] kJ_L dC dI cT) (hA : ∀ q : Nat, s.heap.size ≤ q → A q) (hX : am_Xok (some (L, xs)) sb s A s.heap) (hR : 100 ≤ R.frames ∧ 6000 ≤ R.locals) {C : List am_E} (hC : ∀ en ∈ C, am_okE [] ml_L [] kJ_L code en = true) (N M : Nat) : am_rul (some (L, xs)) (am_ar g_mt 80) 7 (some .int) C (none, fun _ _ => 0) (am_PW p l e R s m args below meth c Q 7 dC dI ad cT sb A s.heap (fun _ => N) (fun _ => M)) :=
  am_simG (ml := ml_L) C0 ml_L_ok g_mw hA (cs := fun _ => N) (ss := fun _ => M) (fun _ _ _ => ⟨rfl, rfl⟩) (CR := am_ar g_mt 80) (am_CR80 l R hR dC dI ad cT sb N M) hC hX (by omega) (by omega) rfl rfl
/-- a static call of the law's own -/
theorem lw_stat (C0 : am_cx p s m args c code 7 "BurningSlipsLaw" [] [] kJ_L dC dI cT) (hA : ∀ q : Nat, s.heap.size ≤ q → A q) {sa : Nat → Nat} (hZ : am_Z sa A s s.heap) (hR : 100 ≤ R.frames ∧ 6000 ≤ R.locals) {y : MethodName} {bytes : ByteArray} {maxL : Nat} {hh : List (Nat × Nat × Nat × Nat)} {idx n pc0 : Nat} {as : am_S} {ls : am_L} {μ μ' : am_M} {κ : Int} {N M : Nat}
    (hM : am_G μ → am_G μ' ∧ ∀ sz, Met l y (Cond.codeWith y bytes maxL (some .int) hh :: am_tG) { frames := 61, cells := 1, slots := 6, locals := 4000 } (am_PcX dC dI ad cT sb sa as sz μ) (am_Qc dC dI ad cT sb (va_A (am_wd ad cT μ) sz) (some (0, κ), μ')) 1 6 (va_A (am_wd ad cT μ) sz)) (hκ : r32 κ) (hlk : Cond.methodLink "BurningSlipsLaw" idx y ∈ am_tG) (hstt : Cond.static y ∈ am_tG) (hini : Cond.initialized y.cls ∈ am_tG) (hcode : Cond.codeWith y bytes maxL (some .int) hh ∈ am_tG) (hd : y.cls ≠ "java/lang/invoke/MethodHandle" ∧ y.cls ≠ "java/lang/invoke/VarHandle" ∧ (parseMethodDescriptor y.desc).map (fun d => d.parameters.length) = some n) (hn : as.length = n) (hmL : maxL ≤ 24) (hdg : decode code pc0 = .ok (.invokestatic idx, 3)) (hNM : N + 1 ≤ R.cells ∧ M + 6 ≤ R.slots)
    (K : (am_PW p l e R s m args below meth c Q 7 dC dI ad cT sb A s.heap (fun _ => N + 1) (fun _ => M + 6)) (pc0 + 3) ls [(0, κ)] μ') : (am_PW p l e R s m args below meth c Q 7 dC dI ad cT sb A s.heap (fun _ => N) (fun _ => M)) pc0 ls as.reverse μ := by
  intro H locs larr hl hls hst hG hP hD hS hc1 hs1
  obtain ⟨hx, hb, hmx, hown, hts, hNW, hK, -⟩ := id C0
  obtain ⟨hG', hM⟩ := hM hG
  have hwA : ∀ q, va_A (am_wd ad cT μ) H.size q → A q := fun q h => by
    rcases h with ⟨k, e', h⟩ | h
    · exact hD.2 k _ h
    · exact hA q (Nat.le_trans hS.1 h)
  have hGo : GoodIn am_tG (va_wsS "BurningSlipsLaw" idx y (Cond.codeWith y bytes maxL (some .int) hh :: am_tG)) := fun w hw => by
    have h1 : w ∈ am_tG := by
      rcases List.mem_append.mp hw with h | h
      · simp only [List.mem_cons, List.not_mem_nil, or_false] at h
        rcases h with h | h | h <;> subst h
        · exact hlk
        · exact hstt
        · exact hini
      · exact (List.mem_cons.mp h).elim (fun z => z ▸ hcode) id
    exact ⟨h1, good_of_word (List.mem_filter.mp h1).2⟩
  have hst2 : as.reverse.map (am_cv ad sb) = (as.map (am_cv ad sb)).reverse ++ [] := by rw [List.append_nil, List.map_reverse]
  have hrun := vx_runSW (H := H) (locs := locs) (cells := N) (slots := M) (e := e) (R := R) (below := below) (meth := meth) (g := F0 m pc0 larr (as.reverse.map (am_cv ad sb))) (As := as.map (am_cv ad sb)) (rest := []) ⟨hx, hb, hmx, hown, hts⟩ (hM H.size) (vx_cwSW n hts hGo rfl rfl rfl hd ⟨by show 61 + 1 ≤ R.frames; omega, by show 8 + (maxL + 11) + 4000 ≤ R.locals; omega⟩) ⟨am_blindX, fun U hU hW => ⟨rfl, by rw [hU], ⟨by rw [hU]; exact hP, va_K.moved hW.alike hK, hD.weaken (fun _ _ _ _ => trivial)⟩, fun w hw => am_nest_warm hw hW (hNW w hw), by rw [hU]; exact hZ.go hW hS.2.1 hwA⟩⟩ rfl (by rw [List.length_map]; exact hn) hl.1 hst2 (lv_room (Nat.zero_le _)) hdg hNM
  refine am_W_call hrun hS (fun q _ h => hwA q h) hwA (fun H1 locs1 hP1 hS1 => ?_)
  exact K H1 locs1 larr hl hls (fun v hv => by rw [List.mem_singleton.mp hv]; exact am_in0 hκ) hG' hP1 (am_D_same hD) hS1 hNM.1 hNM.2

theorem lw_10 (C0 : am_cx p s m args c code 7 "BurningSlipsLaw" [] [] kJ_L dC dI cT) (hA : ∀ q : Nat, s.heap.size ≤ q → A q) (hX : am_Xok (some (L, xs)) sb s A s.heap) {sa : Nat → Nat} (hZ : am_Z sa A s s.heap) (hR : 100 ≤ R.frames ∧ 6000 ≤ R.locals) (hl : l.stackTraces = false) {i a1 a2 a3 a4 a5 a6 : Int} (h1 : am_XS L xs i 1 a1) (h2 : am_XS L xs i 2 a2) (h3 : am_XS L xs i 3 a3) (h4 : am_XS L xs i 4 a4) (h5 : am_XS L xs i 5 a5) (h6 : am_XS L xs i 6 a6) {N M : Nat} (hNM : N + 1 ≤ R.cells ∧ M + 6 ≤ R.slots) (hK : ∀ μ, GR μ μ → (am_PW p l e R s m args below meth c Q 7 dC dI ad cT sb A s.heap (fun _ => N + 1) (fun _ => M + 6)) 1201 [(0, (3, 0)), (1, (2, 0)), (2, (2, 1000)), (3, (2, 2000)), (4, (0, i))] [] μ) {μ : am_M} (g : GR μ μ) : (am_PW p l e R s m args below meth c Q 7 dC dI ad cT sb A s.heap (fun _ => N) (fun _ => M)) 596 [(0, (3, 0)), (1, (2, 0)), (2, (2, 1000)), (3, (2, 2000)), (4, (0, i))] [] μ := by
  have hP := lw_rul (l := l) (Q := Q) (e := e) (below := below) (meth := meth) (ad := ad) C0 hA hX hR ok_law_10 N M
  have hP2 := lw_rul (l := l) (Q := Q) (e := e) (below := below) (meth := meth) (ad := ad) C0 hA hX hR ok_law_10 (N + 1) (M + 6)
  obtain ⟨m2, g2, a⟩ := given_q g
  refine lc_10a hP h1 h2 h3 h4 h5 h6 ?_
  rcases a with ⟨q1, q2, q3, q4⟩ | ⟨q1, q2, q3⟩
  · refine lw_stat C0 hA hZ hR (n := 2) (as := [(2, 0), (2, 2000)]) (fun hG => ⟨am_G_out hG (r64_of (am_G_mach (c := 300) hG (by decide +kernel))), fun sz => by have h := lg_given l hl dC dI ad cT sb sa hG sz; rw [show rs_given μ = (some (0, 0), m_st μ 2000 0 (μ 300 7)) from if_pos q1] at h; exact h⟩) (by unfold r32; decide) (am_mem_t (g_mem5 205 rfl) rfl) (am_mem_t (g_mem5 206 rfl) rfl) (am_mem_t (g_mem1 0 rfl) rfl) (am_mem_t (g_mem5 207 rfl) rfl) ⟨by decide, by decide, by decide +kernel⟩ rfl (by decide) d_law_598 hNM ?_
    exact lc_10b hP2 h1 h2 h3 h4 h5 h6 q2 (Or.inl ⟨rfl, q3, q4⟩) (hK m2 g2)
  · refine lw_stat C0 hA hZ hR (n := 2) (as := [(2, 0), (2, 2000)]) (fun hG => ⟨hG, fun sz => by have h := lg_given l hl dC dI ad cT sb sa hG sz; rw [show rs_given μ = (some (0, 1), μ) from if_neg q1] at h; exact h⟩) (by unfold r32; decide) (am_mem_t (g_mem5 205 rfl) rfl) (am_mem_t (g_mem5 206 rfl) rfl) (am_mem_t (g_mem1 0 rfl) rfl) (am_mem_t (g_mem5 207 rfl) rfl) ⟨by decide, by decide, by decide +kernel⟩ rfl (by decide) d_law_598 hNM ?_
    exact lc_10b hP2 h1 h2 h3 h4 h5 h6 q2 (Or.inr ⟨rfl, q3⟩) (hK m2 g2)
theorem lw_11 (C0 : am_cx p s m args c code 7 "BurningSlipsLaw" [] [] kJ_L dC dI cT) (hA : ∀ q : Nat, s.heap.size ≤ q → A q) (hX : am_Xok (some (L, xs)) sb s A s.heap) {sa : Nat → Nat} (hZ : am_Z sa A s s.heap) (hR : 100 ≤ R.frames ∧ 6000 ≤ R.locals) (hl : l.stackTraces = false) {i a1 a2 a3 a4 a5 a6 : Int} (h1 : am_XS L xs i 1 a1) (h2 : am_XS L xs i 2 a2) (h3 : am_XS L xs i 3 a3) (h4 : am_XS L xs i 4 a4) (h5 : am_XS L xs i 5 a5) (h6 : am_XS L xs i 6 a6) {N M : Nat} (hNM : N + 1 ≤ R.cells ∧ M + 6 ≤ R.slots) (hK : ∀ μ, GR μ μ → (am_PW p l e R s m args below meth c Q 7 dC dI ad cT sb A s.heap (fun _ => N + 1) (fun _ => M + 6)) 1201 [(0, (3, 0)), (1, (2, 0)), (2, (2, 1000)), (3, (2, 2000)), (4, (0, i))] [] μ) {μ : am_M} (g : GR μ μ) : (am_PW p l e R s m args below meth c Q 7 dC dI ad cT sb A s.heap (fun _ => N) (fun _ => M)) 640 [(0, (3, 0)), (1, (2, 0)), (2, (2, 1000)), (3, (2, 2000)), (4, (0, i))] [] μ := by
  have hP := lw_rul (l := l) (Q := Q) (e := e) (below := below) (meth := meth) (ad := ad) C0 hA hX hR ok_law_11 N M
  have hP2 := lw_rul (l := l) (Q := Q) (e := e) (below := below) (meth := meth) (ad := ad) C0 hA hX hR ok_law_11 (N + 1) (M + 6)
  obtain ⟨m2, g2, a⟩ := slip_q a1 g
  refine lc_11a hP h1 h2 h3 h4 h5 h6 ?_
  rcases a with ⟨q1, q2, y, q3, q4, q5, q6⟩ | ⟨q1, q2, q3⟩
  · refine lw_stat C0 hA hZ hR (n := 3) (as := [(2, 0), (0, a1), (2, 2000)]) (fun hG => ⟨am_G_out hG (r64_of (((am_met g_mw g_mc l dC dI ad cT sb 2 34 _ _ _ (t_Mc_saying 0 _ _ _ _ q3) (in_lc (in_ref _) (in_l1 (am_in0 h1.r))) hG).1.2 (0, y) rfl).1 rfl)), fun sz => lg_slip_r l dC dI ad cT sb sa h1.r hG q1 q2 q3 sz⟩) (by unfold r32; decide) (am_mem_t (g_mem6 38 rfl) rfl) (am_mem_t (g_mem6 39 rfl) rfl) (am_mem_t (g_mem1 0 rfl) rfl) (am_mem_t (g_mem6 40 rfl) rfl) ⟨by decide, by decide, by decide +kernel⟩ rfl (by decide) d_law_648 hNM ?_
    exact lc_11b hP2 h1 h2 h3 h4 h5 h6 q4 (Or.inl ⟨rfl, q5, q6⟩) (hK m2 g2)
  · refine lw_stat C0 hA hZ hR (n := 3) (as := [(2, 0), (0, a1), (2, 2000)]) (fun hG => ⟨hG, fun sz => lg_slip_t l hl dC dI ad cT sb sa h1.r hG q1 sz⟩) (by unfold r32; decide) (am_mem_t (g_mem6 38 rfl) rfl) (am_mem_t (g_mem6 39 rfl) rfl) (am_mem_t (g_mem1 0 rfl) rfl) (am_mem_t (g_mem6 40 rfl) rfl) ⟨by decide, by decide, by decide +kernel⟩ rfl (by decide) d_law_648 hNM ?_
    exact lc_11b hP2 h1 h2 h3 h4 h5 h6 q2 (Or.inr ⟨rfl, q3⟩) (hK m2 g2)
theorem lw_12 (C0 : am_cx p s m args c code 7 "BurningSlipsLaw" [] [] kJ_L dC dI cT) (hA : ∀ q : Nat, s.heap.size ≤ q → A q) (hX : am_Xok (some (L, xs)) sb s A s.heap) {sa : Nat → Nat} (hZ : am_Z sa A s s.heap) (hR : 100 ≤ R.frames ∧ 6000 ≤ R.locals) (hl : l.stackTraces = false) {i a1 a2 a3 a4 a5 a6 : Int} (h1 : am_XS L xs i 1 a1) (h2 : am_XS L xs i 2 a2) (h3 : am_XS L xs i 3 a3) (h4 : am_XS L xs i 4 a4) (h5 : am_XS L xs i 5 a5) (h6 : am_XS L xs i 6 a6) {N M : Nat} (hNM : N + 1 ≤ R.cells ∧ M + 6 ≤ R.slots) (hK : ∀ μ, GR μ μ → (am_PW p l e R s m args below meth c Q 7 dC dI ad cT sb A s.heap (fun _ => N + 1) (fun _ => M + 6)) 1201 [(0, (3, 0)), (1, (2, 0)), (2, (2, 1000)), (3, (2, 2000)), (4, (0, i))] [] μ) {μ : am_M} (g : GR μ μ) : (am_PW p l e R s m args below meth c Q 7 dC dI ad cT sb A s.heap (fun _ => N) (fun _ => M)) 696 [(0, (3, 0)), (1, (2, 0)), (2, (2, 1000)), (3, (2, 2000)), (4, (0, i))] [] μ := by
  have hP := lw_rul (l := l) (Q := Q) (e := e) (below := below) (meth := meth) (ad := ad) C0 hA hX hR ok_law_12 N M
  have hP2 := lw_rul (l := l) (Q := Q) (e := e) (below := below) (meth := meth) (ad := ad) C0 hA hX hR ok_law_12 (N + 1) (M + 6)
  obtain ⟨hb, a⟩ := free_q a1 a2 a3 a4 a5 h2.r h3.r h4.r h5.r g
  refine lc_12a hP h1 h2 h3 h4 h5 h6 ?_
  rcases a with ⟨q1, m2, q2, q3, g2⟩ | ⟨q1, m1, m2, m3, r, m4, w1, w2, w3, g4, a⟩
  · refine lw_stat C0 hA hZ hR (n := 7) (as := [(2, 0), (0, a1), (0, a2), (0, a3), (0, a4), (0, a5), (2, 2000)]) (fun hG => ⟨hG, fun sz => lg_free_n l hl dC dI ad cT sb sa h1.r h2.r h3.r h4.r h5.r hG hb q1 sz⟩) (by unfold r32; decide) (am_mem_t (g_mem6 54 rfl) rfl) (am_mem_t (g_mem6 55 rfl) rfl) (am_mem_t (g_mem1 0 rfl) rfl) (am_mem_t (g_mem6 56 rfl) rfl) ⟨by decide, by decide, by decide +kernel⟩ rfl (by decide) d_law_728 hNM ?_
    exact lc_12b hP2 h1 h2 h3 h4 h5 h6 q2 (Or.inr ⟨rfl, q3⟩) (hK m2 g2)
  · have hG3 : am_G μ → am_G m3 := fun hG => by
      have e1 := (am_met g_mw g_mc l dC dI ad cT sb 2 28 _ _ _ (t_Mc_take 0 _ _ _ _ _ _ _ w1) (in_lc (in_ref _) (in_lc (am_in0 h2.r) (in_lc (am_in0 h3.r) (in_lc (am_in0 h4.r) (in_l1 (am_in0 h5.r)))))) hG).1.1
      have e2 := (am_met g_mw g_mc l dC dI ad cT sb 4 29 _ _ _ (t_Mc_start 0 _ _ _ _ _ w2) (in_lc (in_ref _) (in_lc (in_ref _) (in_l1 (am_in0 h1.r)))) e1).1.1
      exact (am_met g_mw g_mc l dC dI ad cT sb 7 31 _ _ _ (t_Mc_go 0 _ _ _ _ _ w3) (in_lc (in_ref _) (in_lc (in_ref _) (in_l1 (am_in0 (by unfold r32; decide))))) e2).1.1
    rcases a with ⟨q2, q3, q4, q5⟩ | ⟨q2, q3, q4⟩
    · refine lw_stat C0 hA hZ hR (n := 7) (as := [(2, 0), (0, a1), (0, a2), (0, a3), (0, a4), (0, a5), (2, 2000)]) (fun hG => ⟨am_G_out (hG3 hG) (r64_of (am_G_mach (c := 310) (hG3 hG) (by decide +kernel))), fun sz => lg_free_r l dC dI ad cT sb sa h1.r h2.r h3.r h4.r h5.r hG hb q1 w1 w2 w3 q2 sz⟩) (by unfold r32; decide) (am_mem_t (g_mem6 54 rfl) rfl) (am_mem_t (g_mem6 55 rfl) rfl) (am_mem_t (g_mem1 0 rfl) rfl) (am_mem_t (g_mem6 56 rfl) rfl) ⟨by decide, by decide, by decide +kernel⟩ rfl (by decide) d_law_728 hNM ?_
      exact lc_12b hP2 h1 h2 h3 h4 h5 h6 q3 (Or.inl ⟨rfl, q4, q5⟩) (hK m4 g4)
    · refine lw_stat C0 hA hZ hR (n := 7) (as := [(2, 0), (0, a1), (0, a2), (0, a3), (0, a4), (0, a5), (2, 2000)]) (fun hG => ⟨hG3 hG, fun sz => lg_free_u l hl dC dI ad cT sb sa h1.r h2.r h3.r h4.r h5.r hG hb q1 w1 w2 w3 q2 sz⟩) (by unfold r32; decide) (am_mem_t (g_mem6 54 rfl) rfl) (am_mem_t (g_mem6 55 rfl) rfl) (am_mem_t (g_mem1 0 rfl) rfl) (am_mem_t (g_mem6 56 rfl) rfl) ⟨by decide, by decide, by decide +kernel⟩ rfl (by decide) d_law_728 hNM ?_
      exact lc_12b hP2 h1 h2 h3 h4 h5 h6 q3 (Or.inr ⟨rfl, q4⟩) (hK m4 g4)
theorem lw_loop (C0 : am_cx p s m args c code 7 "BurningSlipsLaw" [] [] kJ_L dC dI cT) (hA : ∀ q : Nat, s.heap.size ≤ q → A q) (hX : am_Xok (some (L, xs)) sb s A s.heap) {sa : Nat → Nat} (hZ : am_Z sa A s s.heap) (hR : 100 ≤ R.frames ∧ 6000 ≤ R.locals) (hl : l.stackTraces = false) (hLL : L ≤ 3584) (hRc : 601024 ≤ R.cells ∧ 7293034 ≤ R.slots) (hend : ∀ (N M : Nat) (H : Heap) (locs : List Loc) (larr : Array Slot), N ≤ 601024 → M ≤ 7293034 → va_S A s.heap H locs → W p l e R s m args below meth c H locs N M Q (F0 m 1208 larr [.int (Int32.ofInt 1)])) : ∀ (t N M : Nat) (i : Int) (μ : am_M), GR μ μ → 0 ≤ i → i ≤ (L : Int) → (L : Int) - i < 7 * (t : Int) → N + t ≤ 601024 → M + 6 * t ≤ 7293034 → (am_PW p l e R s m args below meth c Q 7 dC dI ad cT sb A s.heap (fun _ => N) (fun _ => M)) 23 [(0, (3, 0)), (1, (2, 0)), (2, (2, 1000)), (3, (2, 2000)), (4, (0, i))] [] μ := by
  intro t
  induction t with
  | zero => intro N M i μ g h0 h1 h2 hN hM; omega
  | succ t ih =>
    intro N M i μ g h0 h1 h2 hN hM
    have hP := lw_rul (l := l) (Q := Q) (e := e) (below := below) (meth := meth) (ad := ad) C0 hA hX hR ok_law_h N M
    have wL : w32 ((L : Int) - 7) = (L : Int) - 7 := w32_id (by unfold r32; omega)
    refine ru_sls hP 5 (pc' := 30) (ls' := [(0, (3, 0)), (1, (2, 0)), (2, (2, 1000)), (3, (2, 2000)), (4, (0, i))]) (st' := [(0, w32 ((L : Int) - 7)), (0, i)]) rfl ?_
    rw [wL]
    by_cases hend1 : (L : Int) - 7 < i
    · refine ru_icT hP (t := 1207) rfl rfl rfl hend1 ?_
      refine ru_sls hP 1 (pc' := 1208) (ls' := [(0, (3, 0)), (1, (2, 0)), (2, (2, 1000)), (3, (2, 2000)), (4, (0, i))]) (st' := [(0, 1)]) rfl ?_
      intro H locs larr hl' hls hst hG' hP' hD' hS' hc1 hs1
      exact hend N M H locs larr (by omega) (by omega) hS'
    refine ru_icF hP rfl rfl hend1 ?_
    have wi : ∀ j : Int, 0 ≤ j → j < 7 → w32 (i + j) = i + j := fun j p q => w32_id (by unfold r32; omega)
    have hx : ∀ j : Int, 0 ≤ j → j < 7 → am_XS L xs i j (xs (w32 (i + j)).toNat).toInt := fun j p q => ⟨by rw [wi j p q]; omega, by rw [wi j p q]; omega, rfl⟩
    have h1 := hx 1 (by decide) (by decide)
    have h2 := hx 2 (by decide) (by decide)
    have h3 := hx 3 (by decide) (by decide)
    have h4 := hx 4 (by decide) (by decide)
    have h5 := hx 5 (by decide) (by decide)
    have h6 := hx 6 (by decide) (by decide)
    have hK : ∀ N' M' : Nat, N' + t ≤ 601024 → M' + 6 * t ≤ 7293034 → ∀ μ, GR μ μ → (am_PW p l e R s m args below meth c Q 7 dC dI ad cT sb A s.heap (fun _ => N') (fun _ => M')) 1201 [(0, (3, 0)), (1, (2, 0)), (2, (2, 1000)), (3, (2, 2000)), (4, (0, i))] [] μ := by
      intro N' M' hN' hM' μ' g'
      have hP' := lw_rul (l := l) (Q := Q) (e := e) (below := below) (meth := meth) (ad := ad) C0 hA hX hR ok_law_h N' M'
      have w7 : w32 (i + 7) = i + 7 := w32_id (by unfold r32; omega)
      refine ru_sls hP' 1 (pc' := 1204) (ls' := [(4, (0, w32 (i + 7))), (0, (3, 0)), (1, (2, 0)), (2, (2, 1000)), (3, (2, 2000))]) (st' := []) rfl ?_
      rw [w7]
      refine ru_goto hP' (t := 23) rfl rfl rfl ?_
      refine ru_sub hP' [1, 2, 3, 4, 0] rfl ?_
      exact ih N' M' (i + 7) μ' g' (by omega) (by omega) (by omega) hN' hM'
    refine ru_sls hP 2 (pc' := 36) (ls' := [(0, (3, 0)), (1, (2, 0)), (2, (2, 1000)), (3, (2, 2000)), (4, (0, i))]) (st' := [(0, i), (3, 0)]) rfl ?_
    refine ru_xald hP (v := (xs i.toNat).toInt) rfl rfl rfl ⟨h0, by omega, rfl⟩ ?_
    refine ru_sls hP 2 (pc' := 40) (ls' := [(0, (3, 0)), (1, (2, 0)), (2, (2, 1000)), (3, (2, 2000)), (4, (0, i))]) (st' := [(0, aAnd (xs i.toNat).toInt 31)]) rfl ?_
    refine ru_tsw hP rfl rfl ?_
    generalize aAnd (xs i.toNat).toInt 31 = x
    refine lw_sw hP (t := 152) rfl ?_ ?_
    · exact lc_0 (lw_rul (l := l) (Q := Q) (e := e) (below := below) (meth := meth) (ad := ad) C0 hA hX hR ok_law_0 N M) h1 h2 h3 h4 h5 h6 (hK N M (by omega) (by omega)) g
    refine lw_sw hP (t := 299) rfl ?_ ?_
    · exact lc_1 (lw_rul (l := l) (Q := Q) (e := e) (below := below) (meth := meth) (ad := ad) C0 hA hX hR ok_law_1 N M) h1 h2 h3 h4 h5 h6 (hK N M (by omega) (by omega)) g
    refine lw_sw hP (t := 312) rfl ?_ ?_
    · exact lc_2 (lw_rul (l := l) (Q := Q) (e := e) (below := below) (meth := meth) (ad := ad) C0 hA hX hR ok_law_2 N M) h1 h2 h3 h4 h5 h6 (hK N M (by omega) (by omega)) g
    refine lw_sw hP (t := 349) rfl ?_ ?_
    · exact lc_3 (lw_rul (l := l) (Q := Q) (e := e) (below := below) (meth := meth) (ad := ad) C0 hA hX hR ok_law_3 N M) h1 h2 h3 h4 h5 h6 (hK N M (by omega) (by omega)) g
    refine lw_sw hP (t := 386) rfl ?_ ?_
    · exact lc_4 (lw_rul (l := l) (Q := Q) (e := e) (below := below) (meth := meth) (ad := ad) C0 hA hX hR ok_law_4 N M) h1 h2 h3 h4 h5 h6 (hK N M (by omega) (by omega)) g
    refine lw_sw hP (t := 423) rfl ?_ ?_
    · exact lc_5 (lw_rul (l := l) (Q := Q) (e := e) (below := below) (meth := meth) (ad := ad) C0 hA hX hR ok_law_5 N M) h1 h2 h3 h4 h5 h6 (hK N M (by omega) (by omega)) g
    refine lw_sw hP (t := 448) rfl ?_ ?_
    · exact lc_6 (lw_rul (l := l) (Q := Q) (e := e) (below := below) (meth := meth) (ad := ad) C0 hA hX hR ok_law_6 N M) h1 h2 h3 h4 h5 h6 (hK N M (by omega) (by omega)) g
    refine lw_sw hP (t := 473) rfl ?_ ?_
    · exact lc_7 (lw_rul (l := l) (Q := Q) (e := e) (below := below) (meth := meth) (ad := ad) C0 hA hX hR ok_law_7 N M) h1 h2 h3 h4 h5 h6 (hK N M (by omega) (by omega)) g
    refine lw_sw hP (t := 546) rfl ?_ ?_
    · exact lc_8 (lw_rul (l := l) (Q := Q) (e := e) (below := below) (meth := meth) (ad := ad) C0 hA hX hR ok_law_8 N M) h1 h2 h3 h4 h5 h6 (hK N M (by omega) (by omega)) g
    refine lw_sw hP (t := 571) rfl ?_ ?_
    · exact lc_9 (lw_rul (l := l) (Q := Q) (e := e) (below := below) (meth := meth) (ad := ad) C0 hA hX hR ok_law_9 N M) h1 h2 h3 h4 h5 h6 (hK N M (by omega) (by omega)) g
    refine lw_sw hP (t := 596) rfl ?_ ?_
    · exact lw_10 C0 hA hX hZ hR hl h1 h2 h3 h4 h5 h6 ⟨by omega, by omega⟩ (hK (N + 1) (M + 6) (by omega) (by omega)) g
    refine lw_sw hP (t := 640) rfl ?_ ?_
    · exact lw_11 C0 hA hX hZ hR hl h1 h2 h3 h4 h5 h6 ⟨by omega, by omega⟩ (hK (N + 1) (M + 6) (by omega) (by omega)) g
    refine lw_sw hP (t := 696) rfl ?_ ?_
    · exact lw_12 C0 hA hX hZ hR hl h1 h2 h3 h4 h5 h6 ⟨by omega, by omega⟩ (hK (N + 1) (M + 6) (by omega) (by omega)) g
    refine lw_sw hP (t := 800) rfl ?_ ?_
    · exact lc_13 (lw_rul (l := l) (Q := Q) (e := e) (below := below) (meth := meth) (ad := ad) C0 hA hX hR ok_law_13 N M) h1 h2 h3 h4 h5 h6 (hK N M (by omega) (by omega)) g
    refine lw_sw hP (t := 837) rfl ?_ ?_
    · exact lc_14 (lw_rul (l := l) (Q := Q) (e := e) (below := below) (meth := meth) (ad := ad) C0 hA hX hR ok_law_14 N M) h1 h2 h3 h4 h5 h6 (hK N M (by omega) (by omega)) g
    refine lw_sw hP (t := 886) rfl ?_ ?_
    · exact lc_15 (lw_rul (l := l) (Q := Q) (e := e) (below := below) (meth := meth) (ad := ad) C0 hA hX hR ok_law_15 N M) h1 h2 h3 h4 h5 h6 (hK N M (by omega) (by omega)) g
    refine lw_sw hP (t := 923) rfl ?_ ?_
    · exact lc_16 (lw_rul (l := l) (Q := Q) (e := e) (below := below) (meth := meth) (ad := ad) C0 hA hX hR ok_law_16 N M) h1 h2 h3 h4 h5 h6 (hK N M (by omega) (by omega)) g
    refine lw_sw hP (t := 948) rfl ?_ ?_
    · exact lc_17 (lw_rul (l := l) (Q := Q) (e := e) (below := below) (meth := meth) (ad := ad) C0 hA hX hR ok_law_17 N M) h1 h2 h3 h4 h5 h6 (hK N M (by omega) (by omega)) g
    refine lw_sw hP (t := 973) rfl ?_ ?_
    · exact lc_18 (lw_rul (l := l) (Q := Q) (e := e) (below := below) (meth := meth) (ad := ad) C0 hA hX hR ok_law_18 N M) h1 h2 h3 h4 h5 h6 (hK N M (by omega) (by omega)) g
    refine lw_sw hP (t := 1010) rfl ?_ ?_
    · exact lc_19 (lw_rul (l := l) (Q := Q) (e := e) (below := below) (meth := meth) (ad := ad) C0 hA hX hR ok_law_19 N M) h1 h2 h3 h4 h5 h6 (hK N M (by omega) (by omega)) g
    refine lw_sw hP (t := 1035) rfl ?_ ?_
    · exact lc_20 (lw_rul (l := l) (Q := Q) (e := e) (below := below) (meth := meth) (ad := ad) C0 hA hX hR ok_law_20 N M) h1 h2 h3 h4 h5 h6 (hK N M (by omega) (by omega)) g
    refine lw_sw hP (t := 1073) rfl ?_ ?_
    · exact lc_21 (lw_rul (l := l) (Q := Q) (e := e) (below := below) (meth := meth) (ad := ad) C0 hA hX hR ok_law_21 N M) h1 h2 h3 h4 h5 h6 (hK N M (by omega) (by omega)) g
    refine lw_sw hP (t := 1123) rfl ?_ ?_
    · exact lc_22 (lw_rul (l := l) (Q := Q) (e := e) (below := below) (meth := meth) (ad := ad) C0 hA hX hR ok_law_22 N M) h1 h2 h3 h4 h5 h6 (hK N M (by omega) (by omega)) g
    refine lw_sw hP (t := 1176) rfl ?_ ?_
    · exact lc_23 (lw_rul (l := l) (Q := Q) (e := e) (below := below) (meth := meth) (ad := ad) C0 hA hX hR ok_law_23 N M) h1 h2 h3 h4 h5 h6 (hK N M (by omega) (by omega)) g
    exact lw_sw0 (t := 1201) rfl (hK N M (by omega) (by omega) μ g)
end LW
