/-! The class's codes and what waits there. -/
theorem bLA_codes {b : Int} (h : bOk b) : am_lenA (b + 11) = 1000 ∧ am_lenK 0 (b + 11) = 1000 := by rcases h with h | h <;> (subst h; exact ⟨rfl, rfl⟩)
theorem bLA_stops {b : Int} (h : bOk b) : am_lenA (b + 10) = 60 ∧ am_lenK 0 (b + 10) = 60 := by rcases h with h | h <;> (subst h; exact ⟨rfl, rfl⟩)
theorem addCode_s {b k v : Int} {μ : am_M} (hb : bOk b) (h0 : 0 ≤ μ (b + 1) 11) (h1 : μ (b + 1) 11 < 1000) (h2 : 1 ≤ μ (b + 1) 10) (h3 : μ (b + 1) 10 ≤ 60) (hk : 0 ≤ k ∧ k < 128) (hv : 0 ≤ v ∧ v ≤ 100000) : ∃ μ', Ln_addCode (b + 1) k v μ = some (0, μ') ∧ μ' (b + 1) 11 = μ (b + 1) 11 + 1 ∧ μ' (b + 11) (μ (b + 1) 11) = k + v * 128 ∧ μ' (b + 10) (μ (b + 1) 10 - 1) = μ (b + 1) 11 + 1 ∧ ∀ c i, ¬ ((c = b + 1 ∧ i = 11) ∨ (c = b + 11 ∧ i = μ (b + 1) 11) ∨ (c = b + 10 ∧ i = μ (b + 1) 10 - 1)) → μ' c i = μ c i := by
  obtain ⟨a1, a2⟩ := bLA_codes hb
  obtain ⟨a3, a4⟩ := bLA_stops hb
  have e1 : b + 1 + 10 = b + 11 := by omega
  have e2 : b + 1 + 9 = b + 10 := by omega
  refine ⟨m_st (m_st (m_st μ (b + 11) (μ (b + 1) 11) (k + v * 128)) (b + 1) 11 (μ (b + 1) 11 + 1)) (b + 10) (μ (b + 1) 10 - 1) (μ (b + 1) 11 + 1), ?_, ?_, ?_, ?_, ?_⟩
  · unfold Ln_addCode
    rw [q_gd_s (bO2 hb), e1, e2, q_len_s (by omega), a1, if_pos h1, w32_i (x := v * 128) (by omega) (by omega), w32_i (x := k + v * 128) (by omega) (by omega), X_put_i a1 a2 h0 h1, q_bd_s, q_pf_d]
    have f1 : m_st μ (b + 11) (μ (b + 1) 11) (k + v * 128) (b + 1) 11 = μ (b + 1) 11 := m_st_c (by omega)
    rw [f1, w32_i (x := μ (b + 1) 11 + 1) (by omega) (by omega)]
    have f2 : m_st (m_st μ (b + 11) (μ (b + 1) 11) (k + v * 128)) (b + 1) 11 (μ (b + 1) 11 + 1) (b + 1) 10 = μ (b + 1) 10 := by rw [m_st_i (by omega), m_st_c (by omega)]
    have f3 : m_st (m_st μ (b + 11) (μ (b + 1) 11) (k + v * 128)) (b + 1) 11 (μ (b + 1) 11 + 1) (b + 1) 11 = μ (b + 1) 11 + 1 := by rw [m_st_d, if_pos ⟨rfl, rfl⟩]
    rw [f2, f3, w32_i (x := μ (b + 1) 10 - 1) (by omega) (by omega), X_put_i a3 a4 (by omega) (by omega), q_bd_s]
  · rw [m_st_c (by omega), m_st_d, if_pos ⟨rfl, rfl⟩]
  · rw [m_st_c (by omega), m_st_c (by omega), m_st_d, if_pos ⟨rfl, rfl⟩]
  · rw [m_st_d, if_pos ⟨rfl, rfl⟩]
  · intro c i h
    rw [m_st_d, if_neg (by omega), m_st_d, if_neg (by omega), m_st_d, if_neg (by omega)]
theorem rank_s (v : Int) (μ : am_M) : Rd_rank v μ = some (rk v, μ) := by
  unfold Rd_rank
  by_cases c1 : v = 42
  · subst c1; rfl
  by_cases c2 : v = 43
  · subst c2; rfl
  by_cases c3 : v = 45
  · subst c3; rfl
  by_cases c4 : v = 60
  · subst c4; rfl
  by_cases c5 : v = 61
  · subst c5; rfl
  by_cases c6 : v = 115
  · subst c6; rfl
  by_cases c7 : v = 116
  · subst c7; rfl
  rw [if_neg c1, if_neg c2, if_neg c3, if_neg c4, if_neg c5, if_neg c6, if_neg c7]
  unfold rk
  rw [if_neg (by omega), if_neg (by omega), if_neg (by omega), if_neg (by omega)]
def CX (b : Int) (p : Int) (wt : List Int) (ro : List Int) (μ : am_M) : Prop := (μ 20 8 = wt.length) ∧ (stk (μ 23) wt.length wt) ∧ (μ 20 9 = wi wt) ∧ (μ (b + 1) 11 = p + ro.length) ∧ (rsg (μ (b + 11)) p ro) ∧ (μ (b + 10) (μ (b + 1) 10 - 1) = p + ro.length) ∧ (1 ≤ μ (b + 1) 10 ∧ μ (b + 1) 10 ≤ 60) ∧ (0 ≤ p) ∧ (p + ro.length + wt.length ≤ 1000) ∧ (wt.length ≤ 63) ∧ (∀ w ∈ wt, isWt w)
theorem CX.c8 {b : Int} {p : Int} {wt : List Int} {ro : List Int} {μ : am_M} (h : CX b p wt ro μ) : μ 20 8 = wt.length := h.1
theorem CX.st {b : Int} {p : Int} {wt : List Int} {ro : List Int} {μ : am_M} (h : CX b p wt ro μ) : stk (μ 23) wt.length wt := h.2.1
theorem CX.c9 {b : Int} {p : Int} {wt : List Int} {ro : List Int} {μ : am_M} (h : CX b p wt ro μ) : μ 20 9 = wi wt := h.2.2.1
theorem CX.cc {b : Int} {p : Int} {wt : List Int} {ro : List Int} {μ : am_M} (h : CX b p wt ro μ) : μ (b + 1) 11 = p + ro.length := h.2.2.2.1
theorem CX.sg {b : Int} {p : Int} {wt : List Int} {ro : List Int} {μ : am_M} (h : CX b p wt ro μ) : rsg (μ (b + 11)) p ro := h.2.2.2.2.1
theorem CX.sp {b : Int} {p : Int} {wt : List Int} {ro : List Int} {μ : am_M} (h : CX b p wt ro μ) : μ (b + 10) (μ (b + 1) 10 - 1) = p + ro.length := h.2.2.2.2.2.1
theorem CX.ln {b : Int} {p : Int} {wt : List Int} {ro : List Int} {μ : am_M} (h : CX b p wt ro μ) : 1 ≤ μ (b + 1) 10 ∧ μ (b + 1) 10 ≤ 60 := h.2.2.2.2.2.2.1
theorem CX.p0 {b : Int} {p : Int} {wt : List Int} {ro : List Int} {μ : am_M} (h : CX b p wt ro μ) : 0 ≤ p := h.2.2.2.2.2.2.2.1
theorem CX.cap {b : Int} {p : Int} {wt : List Int} {ro : List Int} {μ : am_M} (h : CX b p wt ro μ) : p + ro.length + wt.length ≤ 1000 := h.2.2.2.2.2.2.2.2.1
theorem CX.w63 {b : Int} {p : Int} {wt : List Int} {ro : List Int} {μ : am_M} (h : CX b p wt ro μ) : wt.length ≤ 63 := h.2.2.2.2.2.2.2.2.2.1
theorem CX.iw {b : Int} {p : Int} {wt : List Int} {ro : List Int} {μ : am_M} (h : CX b p wt ro μ) : ∀ w ∈ wt, isWt w := h.2.2.2.2.2.2.2.2.2.2
theorem CX.mk {b : Int} {p : Int} {wt : List Int} {ro : List Int} {μ : am_M} (c8 : μ 20 8 = wt.length) (st : stk (μ 23) wt.length wt) (c9 : μ 20 9 = wi wt) (cc : μ (b + 1) 11 = p + ro.length) (sg : rsg (μ (b + 11)) p ro) (sp : μ (b + 10) (μ (b + 1) 10 - 1) = p + ro.length) (ln : 1 ≤ μ (b + 1) 10 ∧ μ (b + 1) 10 ≤ 60) (p0 : 0 ≤ p) (cap : p + ro.length + wt.length ≤ 1000) (w63 : wt.length ≤ 63) (iw : ∀ w ∈ wt, isWt w) : CX b p wt ro μ := ⟨c8, st, c9, cc, sg, sp, ln, p0, cap, w63, iw⟩
/-- what coding and waiting may change -/
def FW (b p l : Int) (μ μ' : am_M) : Prop := ∀ c i, ¬ ((c = 20 ∧ (i = 8 ∨ i = 9)) ∨ c = 23 ∨ (c = b + 1 ∧ i = 11) ∨ (c = b + 11 ∧ p ≤ i) ∨ (c = b + 10 ∧ i = l)) → μ' c i = μ c i
theorem FW.refl {b p l : Int} {μ : am_M} : FW b p l μ μ := fun _ _ _ => rfl
theorem FW.tr {b p l : Int} {μ μ' μ'' : am_M} (h : FW b p l μ μ') (h' : FW b p l μ' μ'') : FW b p l μ μ'' := fun c i q => by rw [h' c i q, h c i q]
def hdW : List Int → Int
  | [] => 0
  | w :: _ => w
theorem lastW_s {b p : Int} {wt ro : List Int} {μ : am_M} (h : CX b p wt ro μ) : Rd_lastWaiting μ = some (hdW wt, μ) := by
  unfold Rd_lastWaiting
  have h8 := h.c8
  have h6 := h.w63
  cases wt with
  | nil =>
    rw [if_pos (by rw [h8]; decide)]
    rfl
  | cons w r =>
    have hs := h.st.1
    rw [List.length_cons] at h8 h6 hs
    rw [if_neg (by omega), w32_i (by omega) (by omega), X_at_23, if_pos (by omega), q_bd_s, h8, hs]
    rfl
theorem nbwi : ∀ wt : List Int, nb wt + wi wt = wt.length
  | [] => rfl
  | w :: wt => by
    have := nbwi wt
    unfold nb wi
    rw [List.length_cons]
    by_cases q : w = 40 ∨ w = 114
    · rw [if_pos q, if_pos q]; omega
    · rw [if_neg q, if_neg q]; omega
/-- the sign that waits last is coded -/
theorem CX_code {b p : Int} {w : Int} {wt ro : List Int} {μ : am_M} (hb : bOk b) (h : CX b p (w :: wt) ro μ) (hw : w ≠ 40) : ∃ μ', Ln_addCode (b + 1) w 0 μ = some (0, μ') ∧ μ' 20 8 = μ 20 8 ∧ μ' 20 9 = μ 20 9 ∧ (∀ μ'', (∀ c i, ¬ (c = 20 ∧ (i = 8 ∨ i = 9)) → μ'' c i = μ' c i) → μ'' 20 8 = μ 20 8 - 1 → μ'' 20 9 = wi wt → CX b p wt (w :: ro) μ'' ∧ FW b p (μ (b + 1) 10 - 1) μ μ'') := by
  have hcc := h.cc
  have hcap := h.cap
  have hp0 := h.p0
  have hln := h.ln
  have hiw := h.iw w List.mem_cons_self
  have h63 := h.w63
  rw [List.length_cons] at hcap h63
  obtain ⟨μ', g1, g2, g3, g4, g5⟩ := addCode_s (k := w) (v := 0) hb (μ := μ) (by omega) (by omega) hln.1 hln.2 (by unfold isWt at hiw; omega) (by omega)
  have hb' : b = 100 ∨ b = 200 := hb
  refine ⟨μ', g1, g5 20 8 (by omega), g5 20 9 (by omega), fun μ'' k1 k2 k3 => ⟨?_, ?_⟩⟩
  · have e10 : μ'' (b + 1) 10 = μ (b + 1) 10 := by rw [k1 _ _ (by omega), g5 _ _ (by omega)]
    have h8 := h.c8
    rw [List.length_cons] at h8
    refine (CX.mk (c8 := by rw [k2, h8]; omega) (st := ?_) (c9 := k3) (cc := ?_) (sg := ?_) (sp := ?_) (ln := by rw [e10]; exact hln) (p0 := hp0) (cap := by rw [List.length_cons]; omega) (w63 := by omega) (iw := fun w' h' => h.iw w' (List.mem_cons_of_mem _ h')))
    · have := h.st.2
      rw [List.length_cons] at this
      have e : ((wt.length + 1 : Nat) : Int) - 1 = wt.length := by omega
      rw [e] at this
      exact stk_c wt _ (fun i a c => by rw [k1 _ _ (by omega), g5 _ _ (by omega)]) this
    · rw [k1 _ _ (by omega), g2, hcc, List.length_cons]; omega
    · refine ⟨?_, rsg_c ro (fun i a c => by rw [k1 _ _ (by omega), g5 _ _ (by omega)]) h.sg⟩
      rw [← hcc, k1 _ _ (by omega), g3]; omega
    · rw [e10, k1 _ _ (by omega), g4, hcc, List.length_cons]; omega
  · intro c i q
    rw [k1 _ _ (by omega), g5 _ _ (by omega)]
theorem codeFrom_L {b p r : Int} (hb : bOk b) (hr : 1 ≤ r) : ∀ (wt ro : List Int) (f : Nat) (μ : am_M), wt.length < f → μ 20 5 = b + 1 → CX b p wt ro μ → ∃ μ', Rd_codeFrom_L0 f r μ = some (0, μ') ∧ CX b p (popR r wt ro).1 (popR r wt ro).2 μ' ∧ FW b p (μ (b + 1) 10 - 1) μ μ'
  | [], ro, 0, μ, hf, _, _ => by omega
  | [], ro, f + 1, μ, hf, hl, h => by
    refine ⟨μ, ?_, h, FW.refl⟩
    show Rd_codeFrom_L0_b (Rd_codeFrom_L0 f) r μ = _
    unfold Rd_codeFrom_L0_b
    rw [if_pos (by rw [h.c8]; decide)]
  | w :: wt, ro, 0, μ, hf, _, _ => by omega
  | w :: wt, ro, f + 1, μ, hf, hl, h => by
    have h8 := h.c8
    have h63 := h.w63
    rw [List.length_cons] at h8 hf h63
    have e0 : Rd_codeFrom_L0 (f + 1) r μ = Rd_codeFrom_L0_b (Rd_codeFrom_L0 f) r μ := rfl
    rw [e0]
    unfold Rd_codeFrom_L0_b
    rw [if_neg (by omega), lastW_s h, q_bd_s, rank_s, q_bd_s]
    by_cases q : r ≤ rk w
    · rw [if_neg (by show ¬ rk w < r; omega), lastW_s h, q_bd_s, hl, q_gd_s (bO2 hb)]
      have h40 := rk_1 (w := w) (by omega)
      obtain ⟨μ1, g1, g2, g3, g4⟩ := CX_code hb h h40.1
      show ∃ μ', q_bd (Ln_addCode (b + 1) w 0 μ) _ = _ ∧ _
      rw [g1, q_bd_s, q_pf_d, g2, w32_i (by omega) (by omega)]
      have hb' : b = 100 ∨ b = 200 := hb
      have hwi : wi (w :: wt) = wi wt := by
        show (if w = 40 ∨ w = 114 then 1 else 0) + wi wt = wi wt
        rw [if_neg (by omega)]; omega
      obtain ⟨k1, k2⟩ := g4 (m_st μ1 20 8 (μ 20 8 - 1)) (fun c i z => by rw [m_st_d, if_neg (by omega)]) rfl (by
        show μ1 20 9 = _
        rw [g3, h.c9, hwi])
      have e10 : m_st μ1 20 8 (μ 20 8 - 1) (b + 1) 10 = μ (b + 1) 10 := k2 _ _ (by omega)
      obtain ⟨μ', m1, m2, m3⟩ := codeFrom_L hb hr wt (w :: ro) f (m_st μ1 20 8 (μ 20 8 - 1)) (by omega) (by rw [k2 _ _ (by omega)]; exact hl) k1
      rw [popR_t q]
      rw [e10] at m3
      exact ⟨μ', m1, m2, k2.tr m3⟩
    · rw [if_pos (by show rk w < r; omega), popR_f q]
      exact ⟨μ, rfl, h, FW.refl⟩
theorem codeFrom_s {b p r : Int} (hb : bOk b) (hr : 1 ≤ r) {wt ro : List Int} {μ : am_M} (hl : μ 20 5 = b + 1) (h : CX b p wt ro μ) : ∃ μ', Rd_codeFrom r μ = some (0, μ') ∧ CX b p (popR r wt ro).1 (popR r wt ro).2 μ' ∧ FW b p (μ (b + 1) 10 - 1) μ μ' :=
  codeFrom_L hb hr wt ro am_FU μ (by have := am_FU_ge; have := h.w63; omega) hl h
theorem codeNots_L {b p : Int} (hb : bOk b) : ∀ (wt ro : List Int) (f : Nat) (μ : am_M), wt.length < f → μ 20 5 = b + 1 → CX b p wt ro μ → ∃ μ', Rd_codeNots_L0 f μ = some (0, μ') ∧ CX b p (popN wt ro).1 (popN wt ro).2 μ' ∧ FW b p (μ (b + 1) 10 - 1) μ μ'
  | [], ro, 0, μ, hf, _, _ => by omega
  | [], ro, f + 1, μ, hf, hl, h => by
    refine ⟨μ, ?_, h, FW.refl⟩
    show Rd_codeNots_L0_b (Rd_codeNots_L0 f) μ = _
    unfold Rd_codeNots_L0_b
    rw [if_pos (by rw [h.c8]; decide)]
  | w :: wt, ro, 0, μ, hf, _, _ => by omega
  | w :: wt, ro, f + 1, μ, hf, hl, h => by
    have h8 := h.c8
    have h63 := h.w63
    rw [List.length_cons] at h8 hf h63
    have e0 : Rd_codeNots_L0 (f + 1) μ = Rd_codeNots_L0_b (Rd_codeNots_L0 f) μ := rfl
    rw [e0]
    unfold Rd_codeNots_L0_b
    have ehd : hdW (w :: wt) = w := rfl
    rw [if_neg (by omega), lastW_s h, q_bd_s, ehd]
    by_cases q : w = 114
    · rw [if_pos q, hl, q_gd_s (bO2 hb)]
      subst q
      obtain ⟨μ1, g1, g2, g3, g4⟩ := CX_code hb h (by decide)
      rw [g1, q_bd_s, q_pf_d, g2, w32_i (x := μ 20 8 - 1) (by omega) (by omega), q_pf_d]
      have hb' : b = 100 ∨ b = 200 := hb
      have hwi : wi (114 :: wt) = 1 + wi wt := rfl
      have h9 : m_st μ1 20 8 (μ 20 8 - 1) 20 9 = 1 + wi wt := by
        show μ1 20 9 = _
        rw [g3, h.c9, hwi]
      have hw0 : 0 ≤ wi wt ∧ wi wt ≤ 64 := by have := nbwi wt; have := nb_0 wt; omega
      rw [h9, w32_i (x := 1 + wi wt - 1) (by omega) (by omega)]
      obtain ⟨k1, k2⟩ := g4 (m_st (m_st μ1 20 8 (μ 20 8 - 1)) 20 9 (1 + wi wt - 1)) (fun c i z => by rw [m_st_d, if_neg (by omega), m_st_d, if_neg (by omega)]) rfl (by
        show 1 + wi wt - 1 = _
        omega)
      have e10 := k2 (b + 1) 10 (by omega)
      obtain ⟨μ', m1, m2, m3⟩ := codeNots_L hb wt (114 :: ro) f (m_st (m_st μ1 20 8 (μ 20 8 - 1)) 20 9 (1 + wi wt - 1)) (by omega) (by rw [k2 _ _ (by omega)]; exact hl) k1
      rw [popN_go]
      rw [e10] at m3
      exact ⟨μ', m1, m2, k2.tr m3⟩
    · rw [if_neg q, popN_stay q]
      exact ⟨μ, rfl, h, FW.refl⟩
theorem codeNots_s {b p : Int} (hb : bOk b) {wt ro : List Int} {μ : am_M} (hl : μ 20 5 = b + 1) (h : CX b p wt ro μ) : ∃ μ', Rd_codeNots μ = some (0, μ') ∧ CX b p (popN wt ro).1 (popN wt ro).2 μ' ∧ FW b p (μ (b + 1) 10 - 1) μ μ' :=
  codeNots_L hb wt ro am_FU μ (by have := am_FU_ge; have := h.w63; omega) hl h
/-- a sign waits -/
theorem await_s {b p : Int} (hb : bOk b) {wt ro : List Int} {w : Int} {μ : am_M} (h : CX b p wt ro μ) (hw : isWt w) (h62 : wt.length ≤ 62) (hcap : p + ro.length + wt.length ≤ 999) : ∃ μ', Rd_await w μ = some (0, μ') ∧ (∀ μ'', (∀ c i, ¬ (c = 20 ∧ i = 9) → μ'' c i = μ' c i) → μ'' 20 9 = wi (w :: wt) → CX b p (w :: wt) ro μ'') ∧ μ' 20 9 = μ 20 9 ∧ FW b p (μ (b + 1) 10 - 1) μ μ' := by
  have h8 := h.c8
  have hb' : b = 100 ∨ b = 200 := hb
  refine ⟨m_st (m_st μ 23 (μ 20 8) w) 20 8 (μ 20 8 + 1), ?_, ?_, rfl, ?_⟩
  · unfold Rd_await
    rw [X_put_23, if_pos (by omega), q_bd_s, q_pf_d]
    have e : m_st μ 23 (μ 20 8) w 20 8 = μ 20 8 := rfl
    rw [e, w32_i (by omega) (by omega)]
  · intro μ'' k1 k2
    have f : ∀ c i, ¬ (c = 20 ∧ (i = 8 ∨ i = 9)) → c ≠ 23 → μ'' c i = μ c i := fun c i z z2 => by rw [k1 _ _ (by omega), m_st_d, if_neg (by omega), m_st_d, if_neg (by omega)]
    have e10 := f (b + 1) 10 (by omega) (by omega)
    have e23 : ∀ i, μ'' 23 i = m_st μ 23 (μ 20 8) w 23 i := fun i => by rw [k1 _ _ (by omega), m_st_c (by decide)]
    refine (CX.mk (c8 := ?_) (st := ?_) (c9 := k2) (cc := by rw [f _ _ (by omega) (by omega)]; exact h.cc) (sg := rsg_c ro (fun i a c => f _ _ (by omega) (by omega)) h.sg) (sp := by rw [e10, f _ _ (by omega) (by omega)]; exact h.sp) (ln := by rw [e10]; exact h.ln) (p0 := h.p0) (cap := by rw [List.length_cons]; omega) (w63 := by rw [List.length_cons]; omega) (iw := fun w' h' => ?_))
    · rw [k1 _ _ (by omega), m_st_d, if_pos ⟨rfl, rfl⟩, h8, List.length_cons]; omega
    · rw [List.length_cons]
      have e : ((wt.length + 1 : Nat) : Int) - 1 = wt.length := by omega
      refine ⟨?_, ?_⟩
      · rw [e, e23, m_st_d, if_pos ⟨rfl, h8.symm⟩]
      · rw [e]
        exact stk_c wt _ (fun i a c => by rw [e23, m_st_d, if_neg (by omega)]) h.st
    · rcases List.mem_cons.mp h' with z | z
      · rw [z]; exact hw
      · exact h.iw w' z
  · intro c i z
    rw [m_st_d, if_neg (by omega), m_st_d, if_neg (by omega)]
