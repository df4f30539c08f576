/-! An E: where a part is wanted. -/
theorem mayBegin_s {μ : am_M} (h : μ 10 5 = 3 ∨ μ 10 5 = 2 ∨ μ 10 5 = 114 ∨ μ 10 5 = 40) : Rd_mayBegin μ = Rd_mayBegin_B36 μ := by
  unfold Rd_mayBegin
  by_cases c1 : μ 10 5 = 3
  · rw [if_pos c1]
  rw [if_neg c1]
  by_cases c2 : μ 10 5 = 2
  · rw [if_pos c2]
  rw [if_neg c2]
  by_cases c3 : μ 10 5 = 114
  · rw [if_pos c3]
  rw [if_neg c3, if_pos (by omega)]
theorem EP.d9 {b p l q B W : Int} {Wn : Int → Int} {s v2 : Int} {L : List Int} {wb : Bool} {ks : List (Int × Bool)} {wt ro : List Int} {d : Int} {μ ν : am_M} (h : EP b p l q B W Wn s v2 L wb ks wt ro d μ ν) : μ 20 9 = d ∧ wt.length ≤ 29 := by
  have h1 := h.cx.c9
  have h2 := (EX_len h.ex)
  have h3 := kst_len ks d h.d0.1 h.kk
  have h4 := h.d0
  omega
/-- deeper than five -/
theorem E_deep {S0 b p l q B W ln : Int} {Wn : Int → Int} {X : Int → Int → am_M → am_O} {v2 : Int} {L : List Int} {wb : Bool} {ks : List (Int × Bool)} {wt ro : List Int} {d s0 : Int} {μ ν : am_M} (h : EP b p l q B W Wn 0 v2 L wb ks wt ro d μ ν) (hK : μ 10 5 = 3 ∨ μ 10 5 = 2 ∨ μ 10 5 = 114 ∨ μ 10 5 = 40) (h5 : d = 5) : ECL S0 b p l q B W ln Wn μ ν (Rd_readSum_B50 X v2 s0 μ) (q_bd (M_fails 5 ν) fun a5 μ6 => q_rb a5 (some (a5, μ6))) := by
  have hf := fail_s h.tr h.rd.rf (by decide : (1 : Int) ≤ 5 ∧ (5 : Int) ≤ 5)
  have h9 := h.d9.1
  have e : Rd_readSum_B50 X v2 s0 μ = some (0, m_st μ 20 10 (5 + 16 * μ 10 3)) := by
    unfold Rd_readSum_B50
    rw [mayBegin_s hK]
    unfold Rd_mayBegin_B36
    rw [if_neg (by omega), hf.1, q_bd_s, if_pos rfl, q_bd_s, if_pos rfl]
    unfold Rd_readSum_B83 Rd_readSum_B84 Rd_readSum_B127
    rw [if_pos rfl]
  rw [e, hf.2.1, q_bd_s, q_rb0]
  exact E_fail h.tr h.rd.rf (by decide)
/-- a bracket or a not -/
theorem E_wrap {S0 b p l q B W ln : Int} {Wn : Int → Int} {X : Int → Int → am_M → am_O} {Y : Int → Int → Int → am_M → am_O} (hb : bOk b) (hWr : ∀ w, r32 (Wn w)) {v2 : Int} {L : List Int} {ks : List (Int × Bool)} {wt ro : List Int} {d K c kd : Int} {μ ν : am_M} (H : EH S0 b p l q B W ln Wn μ X Y) (h : EP b p l q B W Wn 0 v2 L true ks wt ro d μ ν) (hd : dpR L st0) (hn : NV S0 (μ 20 6) L) (ht : ν 1000 6 ≠ 0) (hK : μ 10 5 = K) (hc : (K = 114 ∧ c = 30 ∧ kd = 1) ∨ (K = 40 ∧ c = 28 ∧ kd = 2)) (h5 : d ≠ 5) :
    ECL S0 b p l q B W ln Wn μ ν (Rd_readSum_B50 X v2 1 μ) (q_bd (M_puts c ν) fun _ x => M_readsE_B140 Y ln (w32 (d + 1)) 1 (w32 (d + 1)) kd x) := by
  have hb' : b = 100 ∨ b = 200 := hb
  have hcap := h.cap
  have hq0 := h.q0
  have hcd := h.cd
  have hcaq := h.caq
  have hd0 := h.d0
  have hlst := h.tr.lst ht
  have hat := h.tr.base.at3
  have hn1 := h.tr.base.n1
  have h9 := h.d9
  have hkl := kst_len ks d hd0.1 h.kk
  obtain ⟨μ', g1, g3, g4⟩ := wrap_s hb h.cx (w := K) (by omega) hK (by omega) (by omega)
  rw [h.ml] at g4
  have el : l + 1 - 1 = l := by omega
  rw [el] at g4
  have ex : Rd_readSum_B50 X v2 1 μ = q_bd (Tp_advance μ') fun _ x => X 1 (w32 (v2 + 1)) x := by
    unfold Rd_readSum_B50
    rw [mayBegin_s (by omega)]
    unfold Rd_mayBegin_B36
    rw [if_pos (by omega), q_bd_s, if_neg (by decide), if_neg (by decide), g1, q_bd_s, if_neg (by decide)]
    unfold Rd_readSum_B79 Rd_readSum_B84 Rd_readSum_B127
    rw [if_neg (by decide)]
  rw [ex, puts_s (by omega) (by omega), q_bd_s, w32_i (x := d + 1) (by omega) (by omega)]
  unfold M_readsE_B140
  rw [q_st_s (by omega) (by omega), q_stb_s (by omega) (by omega) (Or.inl rfl)]
  unfold M_readsE_B231
  generalize hν2 : m_st (m_st (m_st (m_st ν 1012 (ν 1000 30) c) 1000 30 (ν 1000 30 + 1)) 1022 (d + 1) kd) 1023 (d + 1) 0 = ν2
  have fν : ∀ c i, ¬ ((c = 1000 ∧ i = 30) ∨ (c = 1012 ∧ i = ν 1000 30) ∨ (c = 1022 ∧ i = d + 1) ∨ (c = 1023 ∧ i = d + 1)) → ν2 c i = ν c i := fun c i z => by rw [← hν2, m_st_d, if_neg (by omega), m_st_d, if_neg (by omega), m_st_d, if_neg (by omega), m_st_d, if_neg (by omega)]
  have k1 : ν2 1022 (d + 1) = kd := by rw [← hν2, m_st_c (by decide), m_st_d, if_pos ⟨rfl, rfl⟩]
  have k2 : ν2 1023 (d + 1) = 0 := by rw [← hν2, m_st_d, if_pos ⟨rfl, rfl⟩]
  have k3 : ν2 1000 30 = ν 1000 30 + 1 := by rw [← hν2, m_st_c (by decide), m_st_c (by decide), m_st_d, if_pos ⟨rfl, rfl⟩]
  have k4 : ν2 1012 (ν 1000 30) = c := by rw [← hν2, m_st_c (by decide), m_st_c (by decide), m_st_c (by decide), m_st_d, if_pos ⟨rfl, rfl⟩]
  have hvs : vStep (true, ks) c = some (true, (kd, false) :: ks) := by
    rcases hc with ⟨_, e1, e2⟩ | ⟨_, e1, e2⟩ <;> (subst e1; subst e2; rfl)
  have hsh : shst Wn (wt, ro) c = (K :: wt, ro) := by
    rcases hc with ⟨e0, e1, -⟩ | ⟨e0, e1, -⟩ <;> (subst e0; subst e1; rfl)
  have hex := EX_step hWr h.ex hvs (by omega) (by omega)
  rw [hsh] at hex
  have hkk2 : kst (ν2 1022) (ν2 1023) (d + 1) ((kd, false) :: ks) := by
    refine ⟨k2, ?_⟩
    rw [if_neg (by omega)]
    refine ⟨k1.symm, by omega, ?_⟩
    have e : d + 1 - 1 = d := by omega
    rw [e]
    exact kst_c ks d hd0.1 (fun i _ _ => ⟨fν _ _ (by omega), fν _ _ (by omega)⟩) h.kk
  have hdl : okD ((vRun L st0).bind (fun s => vStep s c)) := by
    have e : vRun L st0 = some (true, ks) := h.ex.1
    rw [e]
    refine ⟨(true, (kd, false) :: ks), hvs, ?_⟩
    show ((kd, false) :: ks).length ≤ 6
    rw [List.length_cons]
    omega
  have hep : EP b p l q B W Wn 1 v2 (L ++ [c]) true ((kd, false) :: ks) (K :: wt) ro (d + 1) μ' ν2 := EP_mk hb h (fun c i z => g4 c i (by omega)) (fun c i z => fν c i (by omega)) (h.sl.cong (fun c i z => g4 c i (by omega)) (fun c i z => fν c i (by omega))) g3 k3 k4 (by omega) hkk2 hex (by rw [List.length_cons]; omega) (by rw [g4 20 6 (by omega)]; exact Int.le_refl _) (by unfold vC; omega)
  exact E_go hb H hep (dpR_app c L st0 hd hdl) (hn.app (g4 20 6 (by omega))) (by rw [fν _ _ (by omega)]; exact ht) g4.fe (fun c i z => fν c i (by omega)) (g4 _ _ (by omega)) (g4 _ _ (by omega)) rfl rfl
/-- a name is numbered -/
theorem EP_slip {b p l q B W : Int} {Wn : Int → Int} {v2 : Int} {L : List Int} {wb : Bool} {ks : List (Int × Bool)} {wt ro : List Int} {d : Int} {μ ν μ' ν' : am_M} (hb : bOk b) (h : EP b p l q B W Wn 0 v2 L wb ks wt ro d μ ν) (hs : SL μ' ν') (f1 : ∀ c i, ¬ ((c = 20 ∧ i = 6) ∨ c = 21) → μ' c i = μ c i) (f2 : ∀ c i, ¬ ((c = 1020 ∧ i = 3 + ν 1013 4) ∨ c = 1021) → ν' c i = ν c i) (f3 : μ 20 6 ≤ μ' 20 6) : EP b p l q B W Wn 0 v2 L wb ks wt ro d μ' ν' := by
  have hb' : b = 100 ∨ b = 200 := hb
  have e1 : ∀ c, c ≠ 20 → c ≠ 21 → μ' c = μ c := fun c z z2 => funext fun i => f1 c i (by omega)
  have e2 : ∀ c, c ≠ 1020 → c ≠ 1021 → ν' c = ν c := fun c z z2 => funext fun i => f2 c i (by omega)
  have hcx := h.cx
  unfold CX at hcx
  exact (EP.mk (tr := h.tr.cong (fun c i z => f1 _ _ (by omega)) (fun c i z => f2 _ _ (by omega))) (rd := h.rd.cong (fun i z => f1 _ _ (by omega))) (nw := h.nw.cong (fun c i z => f1 _ _ (by omega)) (fun c i z => f2 _ _ (by omega))) (sl := hs) (cB := by rw [f2 _ _ (by omega)]; exact h.cB) (cW := by rw [f2 _ _ (by omega)]; exact h.cW) (B1 := h.B1) (wn := fun w p q => by rw [f2 _ _ (by omega)]; exact h.wn w p q) (cx := by unfold CX; rw [f1 20 8 (by omega), f1 20 9 (by omega), e1 23 (by omega) (by omega), e1 (b + 1) (by omega) (by omega), e1 (b + 11) (by omega) (by omega), e1 (b + 10) (by omega) (by omega)]; exact hcx) (ml := by rw [f1 _ _ (by omega)]; exact h.ml) (q0 := h.q0) (cd := by rw [f2 _ _ (by omega)]; exact h.cd) (sg := by rw [e2 1012 (by omega) (by omega)]; exact h.sg) (d0 := h.d0) (kk := by rw [e2 1022 (by omega) (by omega), e2 1023 (by omega) (by omega)]; exact h.kk) (ex := h.ex) (cap := by rw [f1 10 3 (by omega)]; exact h.cap) (caq := by rw [f1 10 3 (by omega), f2 _ _ (by omega)]; exact h.caq) (v2r := by rw [f1 10 3 (by omega)]; exact h.v2r) (vl := fun c hc => vC_le f3 (h.vl c hc)))
theorem E_name {S0 b p l q B W ln : Int} {Wn : Int → Int} {X : Int → Int → am_M → am_O} {Y : Int → Int → Int → am_M → am_O} (hb : bOk b) (hWr : ∀ w, r32 (Wn w)) {v2 : Int} {L : List Int} {ks : List (Int × Bool)} {wt ro : List Int} {d : Int} {μ ν : am_M} (H : EH S0 b p l q B W ln Wn μ X Y) (h : EP b p l q B W Wn 0 v2 L true ks wt ro d μ ν) (hd : dpR L st0) (hn : NV S0 (μ 20 6) L) (hK : μ 10 5 = 2) (h5 : d ≠ 5) :
    ECL S0 b p l q B W ln Wn μ ν (Rd_readSum_B50 X v2 0 μ) (q_bd (M_wallOf ν) fun a1 μ2 => if a1 < 0 then (q_bd (M_slipOf μ2) fun a3 μ4 => M_readsE_B190 Y ln d (w32 (1 + a3)) μ4) else (M_readsE_B190 Y ln d (w32 (11 + a1)) μ2)) := by
  have hb' : b = 100 ∨ b = 200 := hb
  have h9 := h.d9
  have hd0 := h.d0
  have hk := (tkN h.tr).2.2 hK
  have hwf := wf_s hb h.tr h.nw hk
  have hW := h.nw.w0
  have hB := h.cB
  have hB1 := h.B1
  have ex : Rd_readSum_B50 X v2 0 μ = q_bd (Rd_readPart μ) fun a3 μ4 => if a3 = 0 then (Rd_readSum_B83 X 0 v2 μ4) else (Rd_readSum_B79 X 0 v2 μ4) := by
    unfold Rd_readSum_B50
    rw [mayBegin_s (by omega)]
    unfold Rd_mayBegin_B36
    rw [if_pos (by omega), q_bd_s, if_neg (by decide), if_pos rfl]
  rw [ex, hwf.2, q_bd_s]
  unfold Rd_readPart
  rw [if_neg (by omega), Rd_isWall_s hb h.tr h.rd h.nw hk, q_bd_s]
  have hwr : wf ν = -1 ∨ (0 ≤ wf ν ∧ wf ν < ν 1013 3) := by
    unfold wf
    rcases fnd_b (ν 1014) (ν 1000 7) (ν 1013 3).toNat 0 (Int.le_refl _) with z | ⟨z1, z2, -⟩
    · exact Or.inl z
    · right; omega
  by_cases q1 : wf ν = -1
  · rw [if_pos q1, if_pos rfl, if_pos (show wf ν < 0 by omega)]
    obtain ⟨s, μs, νs, s1, s2, s3, s4, s5, s6, s7, s8, s9⟩ := slip_s h.tr h.nw h.sl hk (by omega)
    rw [s1, s2, q_bd_s, q_bd_s]
    have hep := EP_slip hb h s3 s4 s5 s6
    by_cases q2 : s = -1
    · rw [if_pos q2, q2]
      unfold M_readsE_B190
      have hf := fail_s hep.tr hep.rd.rf (by decide : (1 : Int) ≤ 5 ∧ (5 : Int) ≤ 5)
      rw [if_pos (by decide), hf.1, hf.2.1, q_bd_s, q_bd_s, q_rb0, q_rb0, q_bd_s, if_pos rfl]
      unfold Rd_readSum_B83 Rd_readSum_B84 Rd_readSum_B127
      rw [if_pos rfl]
      exact (E_fail hep.tr hep.rd.rf (by decide)).tr (fun c i z => s4 c i (by omega)) (fun c i z => s5 c i (by omega))
    · rw [if_neg q2, w32_i (x := 1 + s) (by omega) (by omega)]
      unfold M_readsE_B190
      rw [if_neg (by omega), hep.rd.rl, q_gd_s (bO2 hb)]
      have hnp : NV S0 (μs 20 6) (L ++ [1 + s]) := by
        refine ⟨by have := hn.1; omega, fun n x y => ?_⟩
        by_cases z : n < μ 20 6
        · exact List.mem_append_left _ (hn.2 n x z)
        · have e : n = s := by
            by_cases q3 : sf ν = -1
            · have := s8 q3 q2; omega
            · have := s9 q3; omega
          rw [e]
          exact List.mem_append_right _ List.mem_cons_self
      exact E_part hb hWr H hep hd hnp (by rw [s5 _ _ (by omega), hk]; decide) (fun c i z => s4 c i (by omega)) (fun c i z => s5 c i (by omega)) (s4 _ _ (by omega)) (s4 _ _ (by omega)) (by unfold isPart; simp; omega) (by unfold vC; omega) (by unfold xCode; rw [if_pos (by omega)]; have e : 1 + s - 1 = s := (by omega); rw [e]) (by decide) (by omega)
  · rw [if_neg q1, if_neg (show ¬ (1 : Int) = 0 by decide), if_neg (show ¬ wf ν < 0 by omega), w32_i (x := 11 + wf ν) (by omega) (by omega)]
    unfold M_readsE_B190
    have hwv := h.nw.wv (wf ν) (by omega) (by omega)
    have hwn := h.wn (wf ν) (by omega) (by rw [← h.cW]; omega)
    rw [if_neg (by omega), h.rd.rb, q_gd_s (bO0 hb), hwf.1, q_bd_s, h.rd.rb, q_gd_s (bO0 hb), bat13 hb, q_bd_s, if_pos (by omega), h.rd.rl, q_gd_s (bO2 hb)]
    exact E_part hb hWr H h hd (hn.app rfl) (by rw [hk]; decide) FE.refl FME.refl rfl rfl (by unfold isPart; simp; omega) (by unfold vC; rw [← h.cW]; omega) (by unfold xCode; rw [if_neg (by omega), if_pos (by omega)]; have e : 11 + wf ν - 11 = wf ν := (by omega); rw [e, hwn, hwv.1]) (by decide) (by omega)
