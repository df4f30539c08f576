/-! An E read whole on both sides. -/
def okD (q : Option vS) : Prop := ∃ s, q = some s ∧ s.2.length ≤ 6
/-- never deeper than five -/
def dpR : List Int → Option vS → Prop
  | [], q => okD q
  | c :: L, q => okD q ∧ dpR L (q.bind (fun s => vStep s c))
theorem dpR_app (c : Int) : ∀ (L : List Int) (q : Option vS), dpR L q → okD ((vRun L q).bind (fun s => vStep s c)) → dpR (L ++ [c]) q
  | [], q, h, h2 => ⟨h, h2⟩
  | d :: L, q, h, h2 => ⟨h.1, dpR_app c L _ h.2 h2⟩
def st0 : Option vS := some (true, [(0, false)])
/-- which slips are new, with their places -/
def NV (S0 S : Int) (L : List Int) : Prop := S0 ≤ S ∧ ∀ n, S0 ≤ n → n < S → 1 + n ∈ L
theorem NV.eq {S0 S S' : Int} {L : List Int} (h : NV S0 S L) (e : S' = S) : NV S0 S' L := by rw [e]; exact h
theorem NV.app {S0 S S' c : Int} {L : List Int} (h : NV S0 S L) (e : S' = S) : NV S0 S' (L ++ [c]) := by rw [e]; exact ⟨h.1, fun n x y => List.mem_append_left _ (h.2 n x y)⟩
def ECL (S0 b p l q B W ln : Int) (Wn : Int → Int) (μ ν : am_M) (x y : am_O) : Prop :=
  ∃ r μ1, x = some (r, μ1) ∧ FE b p l μ μ1 ∧ ∃ ν1, FME B q ν ν1 ∧
    ((r = 0 ∧ y = some (0, ν1) ∧ FL μ1 ν1) ∨
      (r = 1 ∧ ∃ L, y = M_readsE_B458 ln 0 ν1 ∧ TR μ1 ν1 ∧ SL μ1 ν1 ∧ μ1 20 10 = 0 ∧ okE L ∧ dpR L st0 ∧ hR (convR Wn L) = some 1 ∧ (∀ c ∈ L, vC (μ1 20 6) W c) ∧ ν1 1000 30 = q + L.length ∧ fsg (ν1 1012) q L ∧ CX b p [] (convR Wn L) μ1 ∧ p + (convR Wn L).length ≤ μ1 10 3 ∧ ν1 1000 30 ≤ 1000 + μ1 10 3 ∧ NV S0 (μ1 20 6) L))
theorem ECL.tr {S0 b p l q B W ln : Int} {Wn : Int → Int} {μ ν μ' ν' : am_M} {x y : am_O} (h : ECL S0 b p l q B W ln Wn μ' ν' x y) (h1 : FE b p l μ μ') (h2 : FME B q ν ν') : ECL S0 b p l q B W ln Wn μ ν x y := by
  obtain ⟨r, μ1, a1, a2, ν1, a3, a4⟩ := h
  exact ⟨r, μ1, a1, h1.tr a2, ν1, h2.tr a3, a4⟩
theorem FW.fe {b p l : Int} {μ μ' : am_M} (h : FW b p l μ μ') : FE b p l μ μ' := fun c i z => h c i (by omega)
theorem E_fail {S0 b p l q B W ln : Int} {Wn : Int → Int} {μ ν : am_M} {k : Int} (h : TR μ ν) (hf : μ 20 10 = 0) (hk : 1 ≤ k ∧ k ≤ 5) : ECL S0 b p l q B W ln Wn μ ν (some (0, m_st μ 20 10 (k + 16 * μ 10 3))) (some (0, m_st ν 1000 9 (k + 16 * μ 10 3))) :=
  ⟨0, _, rfl, fun c i z => by rw [m_st_d, if_neg (by omega)], _, fun c i z => by rw [m_st_d, if_neg (by omega)], Or.inl ⟨rfl, rfl, (fail_s h hf hk).2.2⟩⟩
theorem q_rb0 {x : am_O} : q_rb 0 x = x := q_rb_s (Or.inl rfl)
theorem q_rb1 {x : am_O} : q_rb 1 x = x := q_rb_s (Or.inr rfl)
/-- unwinding of nots -/
theorem un1 {k21 : Int → Int → Int → am_M → am_O} {v1 v3 : Int} {ν : am_M} : ∀ (f : Nat) (d : Int) (ks : List (Int × Bool)), 0 ≤ d → d ≤ 6 → d < f → kst (ν 1022) (ν 1023) d ks → ∃ d', M_readsE_L211 k21 f v1 d v3 ν = M_readsE_B231 k21 v1 d' v3 ν ∧ 0 ≤ d' ∧ d' ≤ d ∧ kst (ν 1022) (ν 1023) d' (vPop ks)
  | 0, d, ks, h0, _, h, _ => by omega
  | f + 1, d, ks, h0, h6, h, hk => by
    have e0 : M_readsE_L211 k21 (f + 1) v1 d v3 ν = M_readsE_L211_b k21 (M_readsE_L211 k21 f) v1 d v3 ν := rfl
    rw [e0]
    have hp := kst_pop ks d h0 hk
    unfold M_readsE_L211_b
    by_cases q : d ≤ 0
    · rw [if_pos q]
      rw [if_neg (by omega)] at hp
      exact ⟨d, rfl, h0, Int.le_refl _, by rw [hp]; exact hk⟩
    · rw [if_neg q, q_ld_s h0 (by omega)]
      by_cases q2 : ν 1022 d = 1
      · rw [if_pos ⟨by omega, q2⟩] at hp
        rw [if_pos q2, w32_i (x := d + -1) (by omega) (by omega)]
        obtain ⟨d', a1, a2, a3, a4⟩ := un1 (k21 := k21) (v1 := v1) (v3 := v3) f (d - 1) ks.tail (by omega) (by omega) (by omega) hp.1
        exact ⟨d', a1, a2, by omega, by rw [hp.2]; exact a4⟩
      · rw [if_neg (fun z => q2 z.2)] at hp
        rw [if_neg q2]
        exact ⟨d, rfl, h0, Int.le_refl _, by rw [hp]; exact hk⟩
theorem un2 {k21 : Int → Int → Int → am_M → am_O} {v1 v3 : Int} {ν : am_M} : ∀ (f : Nat) (d : Int) (ks : List (Int × Bool)), 0 ≤ d → d ≤ 6 → d < f → kst (ν 1022) (ν 1023) d ks → ∃ d', M_readsE_L438 k21 f v1 d v3 ν = M_readsE_B493 k21 v1 d' v3 ν ∧ 0 ≤ d' ∧ d' ≤ d ∧ kst (ν 1022) (ν 1023) d' (vPop ks)
  | 0, d, ks, h0, _, h, _ => by omega
  | f + 1, d, ks, h0, h6, h, hk => by
    have e0 : M_readsE_L438 k21 (f + 1) v1 d v3 ν = M_readsE_L438_b k21 (M_readsE_L438 k21 f) v1 d v3 ν := rfl
    rw [e0]
    have hp := kst_pop ks d h0 hk
    unfold M_readsE_L438_b
    by_cases q : d ≤ 0
    · rw [if_pos q]
      rw [if_neg (by omega)] at hp
      exact ⟨d, rfl, h0, Int.le_refl _, by rw [hp]; exact hk⟩
    · rw [if_neg q, q_ld_s h0 (by omega)]
      by_cases q2 : ν 1022 d = 1
      · rw [if_pos ⟨by omega, q2⟩] at hp
        rw [if_pos q2, w32_i (x := d + -1) (by omega) (by omega)]
        obtain ⟨d', a1, a2, a3, a4⟩ := un2 (k21 := k21) (v1 := v1) (v3 := v3) f (d - 1) ks.tail (by omega) (by omega) (by omega) hp.1
        exact ⟨d', a1, a2, by omega, by rw [hp.2]; exact a4⟩
      · rw [if_neg (fun z => q2 z.2)] at hp
        rw [if_neg q2]
        exact ⟨d, rfl, h0, Int.le_refl _, by rw [hp]; exact hk⟩
/-- what the rest of the reading does, one token on -/
def EH (S0 b p l q B W ln : Int) (Wn : Int → Int) (μ : am_M) (X : Int → Int → am_M → am_O) (Y : Int → Int → Int → am_M → am_O) : Prop :=
  ∀ v2 L wb ks wt ro d μ' ν', EP b p l q B W Wn 0 v2 L wb ks wt ro d μ' ν' → dpR L st0 → NV S0 (μ' 20 6) L → μ 10 3 < μ' 10 3 → μ' 10 2 = μ 10 2 → ECL S0 b p l q B W ln Wn μ' ν' (X (if wb = true then 1 else 0) v2 μ') (Y ln d (if wb = true then 1 else 0) ν')
/-- a sign was taken in: on with the next -/
theorem E_go {S0 b p l q B W ln : Int} {Wn : Int → Int} {μ ν μ2 ν2 : am_M} {X : Int → Int → am_M → am_O} {Y : Int → Int → Int → am_M → am_O} (hb : bOk b) (H : EH S0 b p l q B W ln Wn μ X Y) {v2 : Int} {L : List Int} {wb : Bool} {ks : List (Int × Bool)} {wt ro : List Int} {d w w' : Int} (h : EP b p l q B W Wn 1 v2 L wb ks wt ro d μ2 ν2) (hd : dpR L st0) (hn : NV S0 (μ2 20 6) L) (ht : ν2 1000 6 ≠ 0) (h1 : FE b p l μ μ2) (h2 : FME B q ν ν2) (e2 : μ2 10 2 = μ 10 2) (e3 : μ2 10 3 = μ 10 3) (hw : w = if wb = true then 1 else 0) (hw' : w' = if wb = true then 1 else 0) :
    ECL S0 b p l q B W ln Wn μ ν (q_bd (Tp_advance μ2) fun _ x => X w (w32 (v2 + 1)) x) (q_bd (M_nextToken ν2) fun _ y => Y ln d w' y) := by
  obtain ⟨μ', ν', a1, a2, a3, a4, a5, a6, a7, a8⟩ := EP_next hb h ht
  have hv := h.v2r
  have hn1 := h.tr.be1
  have hn2 := h.tr.base.at3
  have hn3 := h.tr.base.n1
  rw [a1, a2, q_bd_s, q_bd_s, hw, hw', w32_i (x := v2 + 1) (by omega) (by omega)]
  exact (H (v2 + 1) L wb ks wt ro d μ' ν' a3 hd (hn.eq (by omega)) (by omega) (by omega)).tr (h1.tr a4) (h2.tr a5)
/-- where a part is wanted, a part comes -/
theorem E_part {S0 b p l q B W ln : Int} {Wn : Int → Int} {μ0 ν0 μ ν : am_M} {X : Int → Int → am_M → am_O} {Y : Int → Int → Int → am_M → am_O} (hb : bOk b) (hWr : ∀ w, r32 (Wn w)) (H : EH S0 b p l q B W ln Wn μ0 X Y) {v2 : Int} {L : List Int} {ks : List (Int × Bool)} {wt ro : List Int} {d c k v : Int} (h : EP b p l q B W Wn 0 v2 L true ks wt ro d μ ν) (hd : dpR L st0) (hn : NV S0 (μ 20 6) (L ++ [c])) (ht : ν 1000 6 ≠ 0) (h1 : FE b p l μ0 μ) (h2 : FME B q ν0 ν) (e2 : μ 10 2 = μ0 10 2) (e3 : μ 10 3 = μ0 10 3)
    (hc : isPart c = true) (hvc : vC (μ 20 6) W c) (hx : xCode Wn c = k + v * 128) (hk : 0 ≤ k ∧ k < 128) (hv : 0 ≤ v ∧ v ≤ 100000) :
    ECL S0 b p l q B W ln Wn μ0 ν0 (q_bd (q_bd (Ln_addCode (b + 1) k v μ) fun _ μ21 => Rd_readPart_B108 μ21) fun a3 μ4 => if a3 = 0 then (Rd_readSum_B83 X 0 v2 μ4) else (Rd_readSum_B79 X 0 v2 μ4)) (M_readsE_B203 Y ln d c ν) := by
  have hb' : b = 100 ∨ b = 200 := hb
  have hcap := h.cap
  have hq0 := h.q0
  have hcd := h.cd
  have hcaq := h.caq
  have hd0 := h.d0
  have hlst := h.tr.lst ht
  have hat := h.tr.base.at3
  have hn1 := h.tr.base.n1
  have hkl := kst_len ks d hd0.1 h.kk
  obtain ⟨μ1, μ', g1, g2, g3, g4⟩ := part_s hb h.cx h.rd.rl hk hv (by omega)
  rw [h.ml] at g4
  have el : l + 1 - 1 = l := by omega
  rw [el] at g4
  rw [g1, q_bd_s, g2, q_bd_s, if_neg (by decide)]
  unfold Rd_readSum_B79 Rd_readSum_B84 Rd_readSum_B127
  rw [if_neg (by decide)]
  have hpc := hc
  unfold isPart at hpc
  have hpc := of_decide_eq_true hpc
  have hvs : vStep (true, ks) c = some (false, vPop ks) := by
    unfold vStep
    dsimp only
    rw [if_neg (by omega), if_neg (by omega), hc, if_pos rfl]
  have hsh : shst Wn (wt, ro) c = popN wt ((k + v * 128) :: ro) := by
    unfold shst
    rw [if_neg (by omega), if_neg (by omega), if_neg (by unfold isOp; simp; omega), if_neg (by omega), hx]
  have hex := EX_step hWr h.ex hvs (by unfold vC at hvc; have := h.nw.w0; rw [h.cW] at this; have := h.sl.s0; omega) (by omega)
  rw [hsh] at hex
  have hS : m_st (m_st ν 1012 (ν 1000 30) c) 1000 30 (ν 1000 30 + 1) = m_st (m_st ν 1012 (ν 1000 30) c) 1000 30 (ν 1000 30 + 1) := rfl
  generalize hν2 : m_st (m_st ν 1012 (ν 1000 30) c) 1000 30 (ν 1000 30 + 1) = ν2 at hS
  have fν : ∀ c i, ¬ ((c = 1000 ∧ i = 30) ∨ (c = 1012 ∧ i = ν 1000 30)) → ν2 c i = ν c i := fun c i z => by rw [← hν2, m_st_d, if_neg (by omega), m_st_d, if_neg (by omega)]
  have hkk2 : kst (ν2 1022) (ν2 1023) d ks := kst_c ks d hd0.1 (fun i _ _ => ⟨fν _ _ (by omega), fν _ _ (by omega)⟩) h.kk
  unfold M_readsE_B203
  rw [puts_s (by omega) (by omega), q_bd_s, hν2]
  obtain ⟨d', a1, a2, a3, a4⟩ := un1 (k21 := Y) (v1 := ln) (v3 := 0) (ν := ν2) am_FU d ks hd0.1 (by omega) (by have := am_FU_ge; omega) hkk2
  rw [a1]
  unfold M_readsE_B231
  have hdl : okD ((vRun L st0).bind (fun s => vStep s c)) := by
    have e : vRun L st0 = some (true, ks) := h.ex.1
    rw [e]
    refine ⟨(false, vPop ks), hvs, ?_⟩
    have := kst_len (vPop ks) d' a2 a4
    show (vPop ks).length ≤ 6
    omega
  have hep : EP b p l q B W Wn 1 v2 (L ++ [c]) false (vPop ks) _ _ d' μ' ν2 := EP_mk hb h (fun c i z => g4 c i (by omega)) (fun c i z => fν c i (by omega)) (h.sl.cong (fun c i z => g4 c i (by omega)) (fun c i z => fν c i (by omega))) g3 (by rw [← hν2, m_st_d, if_pos ⟨rfl, rfl⟩]) (by rw [← hν2, m_st_c (by decide), m_st_d, if_pos ⟨rfl, rfl⟩]) ⟨a2, by omega⟩ a4 hex (by have := popN_len wt ((k + v * 128) :: ro); rw [List.length_cons] at this; omega) (by rw [g4 20 6 (by omega)]; exact Int.le_refl _) (by rw [g4 20 6 (by omega)]; exact hvc)
  exact E_go hb H hep (dpR_app c L st0 hd hdl) (hn.eq (g4 20 6 (by omega))) (by rw [fν _ _ (by omega)]; exact ht) (h1.tr g4.fe) (h2.tr (fun c i z => fν c i (by omega))) (by rw [g4 _ _ (by omega)]; exact e2) (by rw [g4 _ _ (by omega)]; exact e3) rfl rfl
