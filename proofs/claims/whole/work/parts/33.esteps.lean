/-! The class's steps in an E. -/
theorem popR_l1 (r : Int) : ∀ wt ro : List Int, (popR r wt ro).1.length ≤ wt.length
  | [], ro => Nat.le_refl _
  | w :: wt, ro => by
    by_cases q : r ≤ rk w
    · rw [popR_t q, List.length_cons]; have := popR_l1 r wt (w :: ro); omega
    · rw [popR_f q]; exact Nat.le_refl _
theorem shst_op {Wn : Int → Int} {wt ro : List Int} {c : Int} (hc : isOp c = true) : shst Wn (wt, ro) c = (xOp c :: (popR (if rk (xOp c) = 2 then 3 else rk (xOp c)) wt ro).1, (popR (if rk (xOp c) = 2 then 3 else rk (xOp c)) wt ro).2) := by
  have hc' := of_decide_eq_true hc
  unfold shst
  rw [if_neg (by omega), if_neg (by omega), if_pos hc]
theorem join47_s {b p : Int} (hb : bOk b) {wt ro : List Int} {w : Int} {μ : am_M} (h : CX b p wt ro μ) (hw : isWt w) (h4 : w ≠ 40) (h1 : w ≠ 114) (hK : μ 10 5 = w) (h62 : wt.length ≤ 62) (hcap : p + ro.length + wt.length ≤ 999) : ∃ μ', Rd_join_B47 μ = some (1, μ') ∧ CX b p (w :: wt) ro μ' ∧ FW b p (μ (b + 1) 10 - 1) μ μ' := by
  obtain ⟨μ', a1, a2, a3, a4⟩ := await_s hb h hw h62 hcap
  refine ⟨μ', ?_, a2 μ' (fun _ _ _ => rfl) ?_, a4⟩
  · unfold Rd_join_B47
    rw [hK, a1, q_bd_s]
  · rw [a3, h.c9]
    show wi wt = (if w = 40 ∨ w = 114 then 1 else 0) + wi wt
    rw [if_neg (by omega)]; omega
theorem join_s {b p : Int} {Wn : Int → Int} (hb : bOk b) {wt ro : List Int} {c : Int} {μ : am_M} (hc : isOp c = true) (h : CX b p wt ro μ) (hl : μ 20 5 = b + 1) (hK : μ 10 5 = xOp c) (h2 : rk (xOp c) = 2 → rk (hdW (popR 3 wt ro).1) ≠ 2) (hlen : wt.length ≤ 62) (hcap : p + ro.length + wt.length ≤ 999) : ∃ μ', Rd_join μ = some (1, μ') ∧ CX b p (shst Wn (wt, ro) c).1 (shst Wn (wt, ro) c).2 μ' ∧ FW b p (μ (b + 1) 10 - 1) μ μ' := by
  have hb' : b = 100 ∨ b = 200 := hb
  obtain ⟨x1, x2, x3, x4⟩ := xOp_w hc
  rw [shst_op hc]
  unfold Rd_join
  rw [rank_s, q_bd_s, hK]
  generalize hr : (if rk (xOp c) = 2 then 3 else rk (xOp c)) = r at x4
  obtain ⟨μ1, a1, a2, a3⟩ := codeFrom_s hb x4 hl h
  have l1 := popR_l1 r wt ro
  have l2 := popR_len r wt ro
  have e5 : μ1 10 5 = xOp c := by rw [a3 _ _ (by omega)]; exact hK
  have e10 : μ1 (b + 1) 10 = μ (b + 1) 10 := a3 _ _ (by omega)
  obtain ⟨μ2, b1, b2, b3⟩ := join47_s hb a2 x1 x2 x3 e5 (by omega) (by omega)
  rw [e10] at b3
  refine ⟨μ2, ?_, b2, a3.tr b3⟩
  by_cases q : rk (xOp c) = 2
  · rw [if_pos q] at hr
    rw [if_pos q]
    unfold Rd_join_B22
    rw [hr, a1, q_bd_s, if_pos q, lastW_s a2, q_bd_s, rank_s, q_bd_s, if_neg (by rw [← hr]; exact h2 q), b1]
  · rw [if_neg q] at hr
    rw [if_neg q]
    unfold Rd_join_B22
    rw [hr, a1, q_bd_s, if_neg (by rw [← hr]; exact q), b1]
/-- a comparison behind a comparison -/
theorem join_f {b p : Int} (hb : bOk b) {wt ro : List Int} {K : Int} {μ : am_M} (h : CX b p wt ro μ) (hl : μ 20 5 = b + 1) (hK : μ 10 5 = K) (hr : rk K = 2) (h2 : rk (hdW (popR 3 wt ro).1) = 2) : ∃ μ', Rd_join μ = (q_bd (Rd_fail 1 μ') fun a x => q_rb a (some (a, x))) ∧ FW b p (μ (b + 1) 10 - 1) μ μ' := by
  obtain ⟨μ1, a1, a2, a3⟩ := codeFrom_s hb (by decide : (1 : Int) ≤ 3) hl h
  refine ⟨μ1, ?_, a3⟩
  unfold Rd_join
  rw [rank_s, q_bd_s, hK, if_pos hr]
  unfold Rd_join_B22
  rw [a1, q_bd_s, if_pos hr, lastW_s a2, q_bd_s, rank_s, q_bd_s, if_pos h2]
theorem await_e {w : Int} {μ : am_M} (h0 : 0 ≤ μ 20 8) (h1 : μ 20 8 ≤ 62) : Rd_await w μ = some (0, m_st (m_st μ 23 (μ 20 8) w) 20 8 (μ 20 8 + 1)) := by
  unfold Rd_await
  rw [X_put_23, if_pos (by omega), q_bd_s, q_pf_d]
  have e : m_st μ 23 (μ 20 8) w 20 8 = μ 20 8 := rfl
  rw [e, w32_i (x := μ 20 8 + 1) (by omega) (by omega)]
theorem wrap_s {b p : Int} (hb : bOk b) {wt ro : List Int} {w : Int} {μ : am_M} (h : CX b p wt ro μ) (hw : w = 40 ∨ w = 114) (hK : μ 10 5 = w) (h62 : wt.length ≤ 62) (hcap : p + ro.length + wt.length ≤ 999) : ∃ μ', Rd_wrap μ = some (1, μ') ∧ CX b p (w :: wt) ro μ' ∧ FW b p (μ (b + 1) 10 - 1) μ μ' := by
  have h8 := h.c8
  have h9 := h.c9
  have hw0 : 0 ≤ wi wt ∧ wi wt ≤ 64 := by have := nbwi wt; have := nb_0 wt; omega
  obtain ⟨μ', a1, a2, a3, a4⟩ := await_s hb h (w := w) (by unfold isWt; omega) h62 hcap
  rw [await_e (by omega) (by omega)] at a1
  have a1 := (Prod.mk.inj (Option.some.inj a1)).2
  have hwi : wi (w :: wt) = 1 + wi wt := by
    show (if w = 40 ∨ w = 114 then 1 else 0) + wi wt = _
    rw [if_pos hw]
  refine ⟨m_st (m_st (m_st μ 20 9 (wi wt + 1)) 23 (μ 20 8) w) 20 8 (μ 20 8 + 1), ?_, a2 _ ?_ ?_, ?_⟩
  · unfold Rd_wrap
    rw [h9, w32_i (x := wi wt + 1) (by omega) (by omega), q_pf_d]
    have e1 : m_st μ 20 9 (wi wt + 1) 10 5 = w := hK
    rw [e1, await_e (μ := m_st μ 20 9 (wi wt + 1)) (by show 0 ≤ μ 20 8; omega) (by show μ 20 8 ≤ 62; omega), q_bd_s]
    rfl
  · intro c i z
    rw [← a1, m_st_d, m_st_d, m_st_d, m_st_d, m_st_d, if_neg (c := c = 20 ∧ i = 9) z]
  · show wi wt + 1 = wi (w :: wt)
    omega
  · intro c i z
    rw [m_st_d, if_neg (by omega), m_st_d, if_neg (by omega), m_st_d, if_neg (by omega)]
/-- a part is coded -/
theorem part_s {b p k v : Int} (hb : bOk b) {wt ro : List Int} {μ : am_M} (h : CX b p wt ro μ) (hl : μ 20 5 = b + 1) (hk : 0 ≤ k ∧ k < 128) (hv : 0 ≤ v ∧ v ≤ 100000) (hcap : p + ro.length + wt.length ≤ 999) : ∃ μ1 μ', Ln_addCode (b + 1) k v μ = some (0, μ1) ∧ Rd_readPart_B108 μ1 = some (1, μ') ∧ CX b p (popN wt ((k + v * 128) :: ro)).1 (popN wt ((k + v * 128) :: ro)).2 μ' ∧ FW b p (μ (b + 1) 10 - 1) μ μ' := by
  have hb' : b = 100 ∨ b = 200 := hb
  have hcc := h.cc
  have hp0 := h.p0
  have hln := h.ln
  obtain ⟨μ1, g1, g2, g3, g4, g5⟩ := addCode_s (k := k) (v := v) hb (μ := μ) (by omega) (by omega) hln.1 hln.2 hk hv
  have e10 : μ1 (b + 1) 10 = μ (b + 1) 10 := g5 _ _ (by omega)
  have cx1 : CX b p wt ((k + v * 128) :: ro) μ1 := by
    refine (CX.mk (c8 := by rw [g5 _ _ (by omega)]; exact h.c8) (st := ?_) (c9 := by rw [g5 _ _ (by omega)]; exact h.c9) (cc := ?_) (sg := ?_) (sp := ?_) (ln := by rw [e10]; exact hln) (p0 := hp0) (cap := by rw [List.length_cons]; omega) (w63 := h.w63) (iw := h.iw))
    · exact stk_c wt _ (fun i a c => g5 _ _ (by omega)) h.st
    · rw [g2, hcc, List.length_cons]; omega
    · exact ⟨by rw [← hcc]; exact g3, rsg_c ro (fun i a c => g5 _ _ (by omega)) h.sg⟩
    · rw [e10, g4, hcc, List.length_cons]; omega
  obtain ⟨μ', m1, m2, m3⟩ := codeNots_s hb (by rw [g5 _ _ (by omega)]; exact hl) cx1
  refine ⟨μ1, μ', g1, ?_, m2, fun c i z => ?_⟩
  · unfold Rd_readPart_B108
    rw [m1, q_bd_s]
  · rw [e10] at m3
    rw [m3 c i z, g5 c i (by omega)]
/-- a bracket's end -/
theorem unwrap_s {b p : Int} {Wn : Int → Int} (hb : bOk b) {wt ro w2 : List Int} {μ : am_M} (h : CX b p wt ro μ) (hl : μ 20 5 = b + 1) (h1 : (popR 1 wt ro).1 = 40 :: w2) : ∃ μ', Rd_unwrap μ = some (1, μ') ∧ CX b p (shst Wn (wt, ro) 29).1 (shst Wn (wt, ro) 29).2 μ' ∧ FW b p (μ (b + 1) 10 - 1) μ μ' := by
  have hb' : b = 100 ∨ b = 200 := hb
  obtain ⟨μ1, a1, a2, a3⟩ := codeFrom_s hb (by decide : (1 : Int) ≤ 1) hl h
  have e10 : μ1 (b + 1) 10 = μ (b + 1) 10 := a3 _ _ (by omega)
  rw [h1] at a2
  have h8 := a2.c8
  have h9 := a2.c9
  have h63 := a2.w63
  have hcap := a2.cap
  have hwi : wi (40 :: w2) = 1 + wi w2 := rfl
  have hw0 : 0 ≤ wi w2 ∧ wi w2 ≤ 64 := by have := nbwi w2; have := nb_0 w2; rw [List.length_cons] at h63; omega
  rw [List.length_cons] at h8 h63 hcap
  have f : ∀ c i, ¬ (c = 20 ∧ (i = 8 ∨ i = 9)) → m_st (m_st μ1 20 8 (μ1 20 8 - 1)) 20 9 (wi w2) c i = μ1 c i := fun c i z => by rw [m_st_d, if_neg (by omega), m_st_d, if_neg (by omega)]
  have cx2 : CX b p w2 (popR 1 wt ro).2 (m_st (m_st μ1 20 8 (μ1 20 8 - 1)) 20 9 (wi w2)) := by
    refine (CX.mk (c8 := by show μ1 20 8 - 1 = _; omega) (st := ?_) (c9 := rfl) (cc := by rw [f _ _ (by omega)]; exact a2.cc) (sg := ?_) (sp := by rw [f _ _ (by omega), f _ _ (by omega)]; exact a2.sp) (ln := by rw [f _ _ (by omega)]; exact a2.ln) (p0 := h.p0) (cap := by omega) (w63 := by omega) (iw := fun w hw => a2.iw w (List.mem_cons_of_mem _ hw)))
    · have := a2.st.2
      rw [List.length_cons] at this
      have e : ((w2.length + 1 : Nat) : Int) - 1 = w2.length := by omega
      rw [e] at this
      exact stk_c w2 _ (fun i _ _ => f _ _ (by omega)) this
    · exact rsg_c _ (fun i _ _ => f _ _ (by omega)) a2.sg
  obtain ⟨μ', m1, m2, m3⟩ := codeNots_s hb (by rw [f _ _ (by omega), a3 _ _ (by omega)]; exact hl) cx2
  rw [f _ _ (by omega), e10] at m3
  refine ⟨μ', ?_, ?_, fun c i z => ?_⟩
  · unfold Rd_unwrap
    rw [a1, q_bd_s, lastW_s a2, q_bd_s]
    show (if (40 : Int) = 40 then _ else _) = _
    rw [if_pos rfl, w32_i (x := μ1 20 8 - 1) (by omega) (by omega), q_pf_d]
    have e9 : m_st μ1 20 8 (μ1 20 8 - 1) 20 9 = 1 + wi w2 := by
      show μ1 20 9 = _
      rw [h9, hwi]
    rw [e9, w32_i (x := 1 + wi w2 - 1) (by omega) (by omega), q_pf_d]
    have e : 1 + wi w2 - 1 = wi w2 := by omega
    rw [e, m1, q_bd_s]
  · have e : shst Wn (wt, ro) 29 = popN w2 (popR 1 wt ro).2 := by
      show popN (popR 1 wt ro).1.tail (popR 1 wt ro).2 = _
      rw [h1]; rfl
    rw [e]
    exact m2
  · rw [m3 c i z, f c i (by omega), a3 c i z]
theorem unwrap_f {b p : Int} (hb : bOk b) {wt ro : List Int} {μ : am_M} (h : CX b p wt ro μ) (hl : μ 20 5 = b + 1) (h1 : (popR 1 wt ro).1 = []) : ∃ μ', Rd_unwrap μ = (q_bd (Rd_fail 1 μ') fun a x => q_rb a (some (a, x))) ∧ FW b p (μ (b + 1) 10 - 1) μ μ' := by
  obtain ⟨μ1, a1, a2, a3⟩ := codeFrom_s hb (by decide : (1 : Int) ≤ 1) hl h
  refine ⟨μ1, ?_, a3⟩
  rw [h1] at a2
  unfold Rd_unwrap
  rw [a1, q_bd_s, lastW_s a2, q_bd_s]
  show (if (0 : Int) = 40 then _ else _) = _
  rw [if_neg (by decide)]
/-- the end of an E -/
theorem endSum_s {b p : Int} (hb : bOk b) {wt ro : List Int} {μ : am_M} (h : CX b p wt ro μ) (hl : μ 20 5 = b + 1) : ∃ μ', Rd_endSum μ = (if (popR 1 wt ro).1 = [] then some (1, μ') else (q_bd (Rd_fail 1 μ') fun a3 μ4 => if a3 = 0 then (some (0, μ4)) else (some (1, μ4)))) ∧ CX b p (popR 1 wt ro).1 (popR 1 wt ro).2 μ' ∧ FW b p (μ (b + 1) 10 - 1) μ μ' := by
  obtain ⟨μ1, a1, a2, a3⟩ := codeFrom_s hb (by decide : (1 : Int) ≤ 1) hl h
  refine ⟨μ1, ?_, a2, a3⟩
  unfold Rd_endSum
  rw [a1, q_bd_s, a2.c8]
  cases e : (popR 1 wt ro).1 with
  | nil => rfl
  | cons w r =>
    rw [if_neg (by rw [List.length_cons]; omega), if_neg (by simp)]
