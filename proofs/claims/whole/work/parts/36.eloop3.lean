/-! An E: behind a part; the whole loop. -/
theorem E_true {S0 b p l q B W ln : Int} {Wn : Int → Int} {X : Int → Int → am_M → am_O} {Y : Int → Int → Int → am_M → am_O} (hb : bOk b) (hWr : ∀ w, r32 (Wn w)) {v2 : Int} {L : List Int} {ks : List (Int × Bool)} {wt ro : List Int} {d : Int} {μ ν : am_M} (H : EH S0 b p l q B W ln Wn μ X Y) (h : EP b p l q B W Wn 0 v2 L true ks wt ro d μ ν) (hd : dpR L st0) (hn : NV S0 (μ 20 6) L) : ECL S0 b p l q B W ln Wn μ ν (Rd_readSum_L14_b X 1 v2 μ) (M_readsE_L21_b Y ln d 1 ν) := by
  have hv := h.v2r
  have hbe := h.tr.be1
  have hat := h.tr.base.at3
  have hn1 := h.tr.base.n1
  have hd0 := h.d0
  have hT := tkN h.tr
  have w14 := isWd h.tr (by decide : (100 : Int) ≤ 114) kwI14
  have s40 := isSg h.tr (s := 40) (by decide)
  have h9 := h.d9
  unfold Rd_readSum_L14_b M_readsE_L21_b
  rw [if_pos (by omega), if_neg (show ¬ (1 : Int) = 0 by decide), if_neg (show ¬ (1 : Int) = 0 by decide), isKp h.tr, q_bd_s]
  by_cases c1 : μ 10 5 = 114
  · rw [if_pos c1, if_neg (by omega)]
    rw [if_pos c1] at w14
    rw [if_neg (by omega)] at s40
    unfold Rd_readSum_B45 M_readsE_B37
    rw [w14, q_bd_s, s40, q_bd_s, if_pos rfl, if_neg (by decide)]
    unfold M_readsE_B85
    by_cases c5 : d = 5
    · rw [if_pos c5]
      exact E_deep h (by omega) c5
    · rw [if_neg c5, if_neg (by decide)]
      unfold M_readsE_B106 M_readsE_B119
      rw [if_neg (by decide)]
      exact E_wrap (K := 114) (c := 30) (kd := 1) hb hWr H h hd hn (fun z => by have := hT.2.1.mp z; omega) c1 (Or.inl ⟨rfl, rfl, rfl⟩) c5
  rw [if_neg c1]
  rw [if_neg c1] at w14
  by_cases c2 : μ 10 5 = 40
  · rw [if_pos c2, if_neg (by omega)]
    rw [if_pos c2] at s40
    unfold Rd_readSum_B45 M_readsE_B37
    rw [w14, q_bd_s, s40, q_bd_s, if_pos rfl, if_pos rfl, if_neg (by decide)]
    unfold M_readsE_B85
    by_cases c5 : d = 5
    · rw [if_pos c5]
      exact E_deep h (by omega) c5
    · rw [if_neg c5, if_pos rfl, if_neg (by decide)]
      unfold M_readsE_B106 M_readsE_B119
      rw [if_pos rfl]
      exact E_wrap (K := 40) (c := 28) (kd := 2) hb hWr H h hd hn (fun z => by have := hT.2.1.mp z; omega) c2 (Or.inr ⟨rfl, rfl, rfl⟩) c5
  rw [if_neg c2]
  rw [if_neg c2] at s40
  by_cases c3 : μ 10 5 = 3
  · rw [if_neg (by omega)]
    unfold M_readsE_B37
    rw [w14, q_bd_s, s40, q_bd_s, if_pos rfl, if_pos rfl, if_pos rfl, if_pos (hT.1.mpr c3)]
    unfold M_readsE_B85
    by_cases c5 : d = 5
    · rw [if_pos c5]
      exact E_deep h (by omega) c5
    · rw [if_neg c5, if_pos rfl, if_pos rfl, if_pos rfl]
      have hnum := h.tr.num (hT.1.mpr c3)
      rw [← hnum.1, w32_i (x := 100 + μ 10 6) (by omega) (by omega)]
      have ex : Rd_readSum_B50 X v2 0 μ = q_bd (q_bd (Ln_addCode (b + 1) 3 (μ 10 6) μ) fun _ μ21 => Rd_readPart_B108 μ21) fun a3 μ4 => if a3 = 0 then (Rd_readSum_B83 X 0 v2 μ4) else (Rd_readSum_B79 X 0 v2 μ4) := by
        unfold Rd_readSum_B50
        rw [mayBegin_s (by omega)]
        unfold Rd_mayBegin_B36
        rw [if_pos (by omega), q_bd_s, if_neg (by decide), if_pos rfl]
        unfold Rd_readPart
        rw [if_pos c3, h.rd.rl, q_gd_s (bO2 hb)]
      rw [ex]
      exact E_part hb hWr H h hd (hn.app rfl) (fun z => by have := hT.2.1.mp z; omega) FE.refl FME.refl rfl rfl (by unfold isPart; simp; omega) (by unfold vC; omega) (by unfold xCode; rw [if_neg (by omega), if_neg (by omega)]; have e : 100 + μ 10 6 - 100 = μ 10 6 := (by omega); rw [e]) (by decide) (by omega)
  by_cases c4 : μ 10 5 = 2
  · rw [if_pos c4, if_pos rfl]
    unfold M_readsE_B37
    rw [w14, q_bd_s, s40, q_bd_s, if_neg (by decide)]
    unfold M_readsE_B85
    by_cases c5 : d = 5
    · rw [if_pos c5]
      exact E_deep h (by omega) c5
    · rw [if_neg c5, if_pos rfl, if_pos rfl, if_neg (by decide)]
      exact E_name hb hWr H h hd hn c4 c5
  · rw [if_neg c4, if_neg (by decide)]
    unfold M_readsE_B37
    have hf := fail_s h.tr h.rd.rf (by decide : (1 : Int) ≤ 1 ∧ (1 : Int) ≤ 5)
    rw [w14, q_bd_s, s40, q_bd_s, if_pos rfl, if_pos rfl, if_pos rfl, if_neg (fun z => c3 (hT.1.mp z)), hf.2.1, q_bd_s, q_rb0]
    have ex : Rd_readSum_B50 X v2 0 μ = some (0, m_st μ 20 10 (1 + 16 * μ 10 3)) := by
      unfold Rd_readSum_B50 Rd_mayBegin
      rw [if_neg c3, if_neg c4, if_neg c1, if_neg c2, hf.1, q_bd_s, q_rb0, q_bd_s, if_pos rfl]
      unfold Rd_readSum_B83 Rd_readSum_B84 Rd_readSum_B127
      rw [if_pos rfl]
    rw [ex]
    exact E_fail h.tr h.rd.rf (by decide)
/-- a sign that joins -/
theorem E_op {S0 b p l q B W ln : Int} {Wn : Int → Int} {X : Int → Int → am_M → am_O} {Y : Int → Int → Int → am_M → am_O} (hb : bOk b) (hWr : ∀ w, r32 (Wn w)) {v2 : Int} {L : List Int} {ks ks' : List (Int × Bool)} {wt ro : List Int} {d c : Int} {μ ν ν2 : am_M} (H : EH S0 b p l q B W ln Wn μ X Y) (h : EP b p l q B W Wn 0 v2 L false ks wt ro d μ ν) (hd : dpR L st0) (hn : NV S0 (μ 20 6) L) (hc : isOp c = true) (hK : μ 10 5 = xOp c) (hvs : vStep (false, ks) c = some (true, ks')) (h2 : rk (xOp c) = 2 → rk (hdW (popR 3 wt ro).1) ≠ 2)
    (fν : ∀ c i, ¬ ((c = 1000 ∧ i = 30) ∨ (c = 1012 ∧ i = ν 1000 30) ∨ (c = 1023 ∧ i = d)) → ν2 c i = ν c i) (k3 : ν2 1000 30 = ν 1000 30 + 1) (k4 : ν2 1012 (ν 1000 30) = c) (kk' : kst (ν2 1022) (ν2 1023) d ks') :
    ECL S0 b p l q B W ln Wn μ ν (q_bd (Rd_join μ) fun a7 μ8 => Rd_readSum_B127 X 1 v2 a7 μ8) (M_readsE_B493 Y ln d 1 ν2) := by
  have hb' : b = 100 ∨ b = 200 := hb
  have hcap := h.cap
  have hcd := h.cd
  have hd0 := h.d0
  have hc' := of_decide_eq_true hc
  have x := xOp_w hc
  have hT := tkN h.tr
  have ht : ν 1000 6 ≠ 0 := fun z => by have := hT.2.1.mp z; rw [hK] at this; have := x.1; unfold isWt at this; omega
  have hlst := h.tr.lst ht
  have hat := h.tr.base.at3
  have hn1 := h.tr.base.n1
  have h9 := h.d9
  have hkl := kst_len ks d hd0.1 h.kk
  have hkl2 := kst_len ks' d hd0.1 kk'
  obtain ⟨μ', g1, g3, g4⟩ := join_s (Wn := Wn) hb hc h.cx h.rd.rl hK h2 (by omega) (by omega)
  rw [h.ml] at g4
  have el : l + 1 - 1 = l := by omega
  rw [el] at g4
  rw [g1, q_bd_s]
  unfold Rd_readSum_B127 M_readsE_B493
  rw [if_neg (by decide)]
  have hex := EX_step hWr h.ex hvs (by omega) (by omega)
  have hdl : okD ((vRun L st0).bind (fun s => vStep s c)) := by
    have e : vRun L st0 = some (false, ks) := h.ex.1
    rw [e]
    exact ⟨(true, ks'), hvs, by show ks'.length ≤ 6; omega⟩
  have hsl := shst_len Wn wt ro c
  have hep : EP b p l q B W Wn 1 v2 (L ++ [c]) true ks' _ _ d μ' ν2 := EP_mk hb h (fun c i z => g4 c i (by omega)) (fun c i z => fν c i (by omega)) (h.sl.cong (fun c i z => g4 c i (by omega)) (fun c i z => fν c i (by omega))) g3 k3 k4 hd0 kk' hex (by omega) (by rw [g4 20 6 (by omega)]; exact Int.le_refl _) (by unfold vC; omega)
  exact E_go hb H hep (dpR_app c L st0 hd hdl) (hn.app (g4 20 6 (by omega))) (by rw [fν _ _ (by omega)]; exact ht) g4.fe (fun c i z => fν c i (by omega)) (g4 _ _ (by omega)) (g4 _ _ (by omega)) rfl rfl
/-- a bracket closes -/
theorem E_close {S0 b p l q B W ln : Int} {Wn : Int → Int} {X : Int → Int → am_M → am_O} {Y : Int → Int → Int → am_M → am_O} (hb : bOk b) (hWr : ∀ w, r32 (Wn w)) {v2 : Int} {L : List Int} {cp : Bool} {ks : List (Int × Bool)} {wt ro w2 : List Int} {d : Int} {μ ν : am_M} (H : EH S0 b p l q B W ln Wn μ X Y) (h : EP b p l q B W Wn 0 v2 L false ((2, cp) :: ks) wt ro d μ ν) (hd : dpR L st0) (hn : NV S0 (μ 20 6) L) (hK : μ 10 5 = 41) (h1 : (popR 1 wt ro).1 = 40 :: w2) :
    ECL S0 b p l q B W ln Wn μ ν (q_bd (Rd_unwrap μ) fun a9 μ10 => Rd_readSum_B127 X 0 v2 a9 μ10) (q_bd (M_puts 29 ν) fun _ μ8 => M_readsE_L438 Y am_FU ln (w32 (d + (-1))) 0 μ8) := by
  have hb' : b = 100 ∨ b = 200 := hb
  have hcap := h.cap
  have hq0 := h.q0
  have hcd := h.cd
  have hcaq := h.caq
  have hd0 := h.d0
  have hT := tkN h.tr
  have ht : ν 1000 6 ≠ 0 := fun z => by have := hT.2.1.mp z; omega
  have hlst := h.tr.lst ht
  have hat := h.tr.base.at3
  have hn1 := h.tr.base.n1
  have h9 := h.d9
  have hkl := kst_len _ d hd0.1 h.kk
  obtain ⟨-, hk2⟩ := h.kk
  have hd1 : d ≠ 0 := by
    intro z
    rw [if_pos z] at hk2
    omega
  rw [if_neg hd1] at hk2
  obtain ⟨μ', g1, g3, g4⟩ := unwrap_s (Wn := Wn) hb h.cx h.rd.rl h1
  rw [h.ml] at g4
  have el : l + 1 - 1 = l := by omega
  rw [el] at g4
  rw [g1, q_bd_s, puts_s (by omega) (by omega), q_bd_s, w32_i (x := d + -1) (by omega) (by omega)]
  generalize hν2 : m_st (m_st ν 1012 (ν 1000 30) 29) 1000 30 (ν 1000 30 + 1) = ν2
  have fν : ∀ c i, ¬ ((c = 1000 ∧ i = 30) ∨ (c = 1012 ∧ i = ν 1000 30)) → ν2 c i = ν c i := fun c i z => by rw [← hν2, m_st_d, if_neg (by omega), m_st_d, if_neg (by omega)]
  have k3 : ν2 1000 30 = ν 1000 30 + 1 := by rw [← hν2, m_st_d, if_pos ⟨rfl, rfl⟩]
  have k4 : ν2 1012 (ν 1000 30) = 29 := by rw [← hν2, m_st_c (by decide), m_st_d, if_pos ⟨rfl, rfl⟩]
  have ed : d + -1 = d - 1 := by omega
  rw [ed]
  obtain ⟨d', a1, a2, a3, a4⟩ := un2 (k21 := Y) (v1 := ln) (v3 := 0) (ν := ν2) am_FU (d - 1) ks (by omega) (by omega) (by have := am_FU_ge; omega) (kst_c ks (d - 1) (by omega) (fun i _ _ => ⟨fν _ _ (by omega), fν _ _ (by omega)⟩) hk2.2.2)
  rw [a1]
  unfold Rd_readSum_B127 M_readsE_B493
  rw [if_neg (by decide)]
  have hvs : vStep (false, (2, cp) :: ks) 29 = some (false, vPop ks) := rfl
  rw [List.length_cons] at hkl
  have hex := EX_step hWr h.ex hvs (by decide) (by rw [List.length_cons]; omega)
  have hdl : okD ((vRun L st0).bind (fun s => vStep s 29)) := by
    have e : vRun L st0 = some (false, (2, cp) :: ks) := h.ex.1
    rw [e]
    refine ⟨(false, vPop ks), hvs, ?_⟩
    have := kst_len (vPop ks) d' a2 a4
    show (vPop ks).length ≤ 6
    omega
  have hsl := shst_len Wn wt ro 29
  have hep : EP b p l q B W Wn 1 v2 (L ++ [29]) false (vPop ks) _ _ d' μ' ν2 := EP_mk hb h (fun c i z => g4 c i (by omega)) (fun c i z => fν c i (by omega)) (h.sl.cong (fun c i z => g4 c i (by omega)) (fun c i z => fν c i (by omega))) g3 k3 k4 ⟨a2, by omega⟩ a4 hex (by omega) (by rw [g4 20 6 (by omega)]; exact Int.le_refl _) (by unfold vC; omega)
  exact E_go hb H hep (dpR_app 29 L st0 hd hdl) (hn.app (g4 20 6 (by omega))) (by rw [fν _ _ (by omega)]; exact ht) g4.fe (fun c i z => fν c i (by omega)) (g4 _ _ (by omega)) (g4 _ _ (by omega)) rfl rfl
/-- a failure behind coding -/
theorem E_fail2 {S0 b p l q B W ln : Int} {Wn : Int → Int} {μ μ' ν : am_M} (h : TR μ ν) (hf : μ 20 10 = 0) (hw : FW b p l μ μ') (hb : bOk b) : Rd_fail 1 μ' = some (0, m_st μ' 20 10 (1 + 16 * μ' 10 3)) ∧ M_fails 1 ν = some (0, m_st ν 1000 9 (1 + 16 * μ' 10 3)) ∧ ECL S0 b p l q B W ln Wn μ ν (some (0, m_st μ' 20 10 (1 + 16 * μ' 10 3))) (some (0, m_st ν 1000 9 (1 + 16 * μ' 10 3))) := by
  have hb' : b = 100 ∨ b = 200 := hb
  have hT : TR μ' ν := h.cong (fun c i z => hw c i (by omega)) (fun _ _ _ => rfl)
  have hf' : μ' 20 10 = 0 := by rw [hw _ _ (by omega)]; exact hf
  have := fail_s hT hf' (by decide : (1 : Int) ≤ 1 ∧ (1 : Int) ≤ 5)
  exact ⟨this.1, this.2.1, (E_fail hT hf' (by decide)).tr hw.fe FME.refl⟩
