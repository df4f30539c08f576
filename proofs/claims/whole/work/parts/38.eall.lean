/-! A whole E, from its first token. -/
theorem E_all {b p l q B W ln : Int} {Wn : Int → Int} (hb : bOk b) (hWr : ∀ w, r32 (Wn w)) {μ ν : am_M} (tr : TR μ ν) (rd : RD b μ) (nw : NW b μ ν) (sl : SL μ ν) (cB : ν 1013 4 = B) (cW : ν 1013 3 = W) (B1 : 1 ≤ B) (wn : ∀ w, 0 ≤ w → w < W → Wn w = ν 1015 (4 + w)) (hp : μ (b + 1) 11 = p) (hp0 : 0 ≤ p) (hq : ν 1000 30 = q) (hq0 : 1000 ≤ q) (ml : μ (b + 1) 10 = l + 1) (hl : 0 ≤ l ∧ l < 60) (sp : μ (b + 10) l = p) (cap : p ≤ μ 10 3) (caq : q ≤ 1000 + μ 10 3) (hln : 0 ≤ ln ∧ ln < 120) :
    ∃ μ0 ν0, (∀ c i, ¬ (c = 20 ∧ (i = 8 ∨ i = 9)) → μ0 c i = μ c i) ∧ (∀ c i, ¬ ((c = 1023 ∧ i = 0) ∨ (c = 1010 ∧ i = ln)) → ν0 c i = ν c i) ∧ ν0 1010 ln = q ∧ ECL (μ 20 6) b p l q B W ln Wn μ0 ν0 (Rd_readSum μ) (M_readsE ln ν) := by
  have hb' : b = 100 ∨ b = 200 := hb
  have f1 : ∀ c i, ¬ (c = 20 ∧ (i = 8 ∨ i = 9)) → m_st (m_st μ 20 8 0) 20 9 0 c i = μ c i := fun c i z => by rw [m_st_d, if_neg (by omega), m_st_d, if_neg (by omega)]
  have f2 : ∀ c i, ¬ ((c = 1023 ∧ i = 0) ∨ (c = 1010 ∧ i = ln)) → m_st (m_st ν 1023 0 0) 1010 ln q c i = ν c i := fun c i z => by rw [m_st_d, if_neg (by omega), m_st_d, if_neg (by omega)]
  refine ⟨m_st (m_st μ 20 8 0) 20 9 0, m_st (m_st ν 1023 0 0) 1010 ln q, f1, f2, by rw [m_st_d, if_pos ⟨rfl, rfl⟩], ?_⟩
  have e1 : Rd_readSum μ = Rd_readSum_L14 am_FU 1 0 (m_st (m_st μ 20 8 0) 20 9 0) := rfl
  have e2 : M_readsE ln ν = M_readsE_L21 am_FU ln 0 1 (m_st (m_st ν 1023 0 0) 1010 ln q) := by
    unfold M_readsE
    rw [q_stb_s (by decide) (by decide) (Or.inl rfl)]
    have e : m_st ν 1023 0 0 1000 30 = q := hq
    rw [e, q_st_s hln.1 hln.2]
  rw [e1, e2]
  have hn := tr.base.n1
  have h0 := tr.base.n0
  have hat := tr.base.at3
  have hbe := tr.be1
  have hb0 := tr.be0
  have el : l + 1 - 1 = l := by omega
  have hep : EP b p l q B W Wn 0 0 [] true [(0, false)] [] [] 0 (m_st (m_st μ 20 8 0) 20 9 0) (m_st (m_st ν 1023 0 0) 1010 ln q) := by
    refine (EP.mk (tr := tr.cong (fun c i z => f1 c i (by omega)) (fun c i z => f2 c i (by omega))) (rd := rd.cong (fun i z => f1 _ _ (by omega))) (nw := nw.cong (fun c i z => f1 _ _ (by omega)) (fun c i z => f2 _ _ (by omega))) (sl := sl.cong (fun c i z => f1 _ _ (by omega)) (fun c i z => f2 _ _ (by omega))) (cB := by rw [f2 _ _ (by omega)]; exact cB) (cW := by rw [f2 _ _ (by omega)]; exact cW) (B1 := B1) (wn := fun w x y => by rw [f2 _ _ (by omega)]; exact wn w x y) (cx := ?_) (ml := by rw [f1 _ _ (by omega)]; exact ml) (q0 := hq0) (cd := ?_) (sg := trivial) (d0 := by omega) (kk := ?_) (ex := EX_nil) (cap := ?_) (caq := by rw [f1 10 3 (by omega), f2 _ _ (by omega), hq]; omega) (v2r := by rw [f1 10 3 (by omega)]; omega) (vl := fun c hc => (by cases hc)))
    · refine (CX.mk (c8 := rfl) (st := rfl) (c9 := rfl) (cc := ?_) (sg := trivial) (sp := ?_) (ln := by rw [f1 _ _ (by omega), ml]; omega) (p0 := hp0) (cap := ?_) (w63 := by decide) (iw := fun w hw => (by cases hw)))
      · rw [f1 _ _ (by omega), hp]; show p = p + 0; omega
      · rw [f1 (b + 1) 10 (by omega), ml, el, f1 _ _ (by omega), sp]; show p = p + 0; omega
      · show p + 0 + 0 ≤ 1000; omega
    · rw [f2 _ _ (by omega), hq]; show q = q + 0; omega
    · refine ⟨?_, ?_⟩
      · rw [m_st_c (by decide), m_st_d, if_pos ⟨rfl, rfl⟩]; rfl
      · rw [if_pos rfl]; exact ⟨rfl, rfl⟩
    · rw [f1 10 3 (by omega)]; show p + 0 + 0 ≤ μ 10 3 + 0; omega
  have := am_FU_ge
  have e10 : m_st (m_st μ 20 8 0) 20 9 0 10 2 = μ 10 2 := rfl
  have e11 : m_st (m_st μ 20 8 0) 20 9 0 10 3 = μ 10 3 := rfl
  have e6 : m_st (m_st μ 20 8 0) 20 9 0 20 6 = μ 20 6 := rfl
  exact E_loop hb hWr (μ 10 2).toNat am_FU am_FU 0 [] true [(0, false)] [] [] 0 _ _ hep ⟨(true, [(0, false)]), rfl, by decide⟩ ⟨by omega, fun n x y => by omega⟩ (by rw [e10, e11]; omega) (by omega) (by omega)
/-- a sign or a word that must stand -/
theorem expect_s {k w : Int} {μ ν : am_M} (h : TR μ ν) (hf : μ 20 10 = 0) (hw : M_isWord w ν = some (if μ 10 5 = k then 1 else 0, ν)) (hk : k ≠ 1) : ∃ r μ' ν', Rd_expect k μ = some (r, μ') ∧ M_needsWord w ν = some (r, ν') ∧ ((r = 0 ∧ FL μ' ν' ∧ (∀ c i, ¬ (c = 20 ∧ i = 10) → μ' c i = μ c i) ∧ (∀ c i, ¬ (c = 1000 ∧ i = 9) → ν' c i = ν c i)) ∨ (r = 1 ∧ TR μ' ν' ∧ (∀ c i, c ≠ 10 → μ' c i = μ c i) ∧ (∀ c i, ¬ (c = 1000 ∧ 4 ≤ i ∧ i ≤ 8) → ν' c i = ν c i) ∧ μ 10 3 < μ' 10 3)) := by
  unfold Rd_expect M_needsWord
  rw [hw, q_bd_s]
  by_cases c : μ 10 5 = k
  · rw [if_pos c, if_pos c, if_neg (by decide)]
    obtain ⟨μ', ν', a1, a2, a3, a4, a5, a6, a7⟩ := TR_adv h.base
    have hl := h.lst (fun z => by have := (tkN h).2.1.mp z; omega)
    rw [a1, a2, q_bd_s, q_bd_s]
    exact ⟨1, μ', ν', rfl, rfl, Or.inr ⟨rfl, a3, a4, a5, by omega⟩⟩
  · rw [if_neg c, if_neg c, if_pos rfl]
    obtain ⟨f1, f2, f3⟩ := fail_s h hf (by decide : (1 : Int) ≤ 1 ∧ (1 : Int) ≤ 5)
    rw [f1, f2, q_bd_s, q_bd_s, q_rb0, q_rb0]
    exact ⟨0, _, _, rfl, rfl, Or.inl ⟨rfl, f3, fun c i z => by rw [m_st_d, if_neg z], fun c i z => by rw [m_st_d, if_neg z]⟩⟩
theorem ends_s {μ ν : am_M} (h : TR μ ν) (hf : μ 20 10 = 0) : ∃ r μ' ν', Rd_expect 59 μ = some (r, μ') ∧ M_ends ν = some (r, ν') ∧ ((r = 0 ∧ FL μ' ν' ∧ (∀ c i, ¬ (c = 20 ∧ i = 10) → μ' c i = μ c i) ∧ (∀ c i, ¬ (c = 1000 ∧ i = 9) → ν' c i = ν c i)) ∨ (r = 1 ∧ TR μ' ν' ∧ (∀ c i, c ≠ 10 → μ' c i = μ c i) ∧ (∀ c i, ¬ (c = 1000 ∧ 4 ≤ i ∧ i ≤ 8) → ν' c i = ν c i) ∧ μ 10 3 < μ' 10 3)) := by
  unfold Rd_expect M_ends
  rw [isSg h (s := 59) (by decide), q_bd_s]
  by_cases c : μ 10 5 = 59
  · rw [if_pos c, if_pos c, if_neg (by decide)]
    obtain ⟨μ', ν', a1, a2, a3, a4, a5, a6, a7⟩ := TR_adv h.base
    have hl := h.lst (fun z => by have := (tkN h).2.1.mp z; omega)
    rw [a1, a2, q_bd_s, q_bd_s]
    exact ⟨1, μ', ν', rfl, rfl, Or.inr ⟨rfl, a3, a4, a5, by omega⟩⟩
  · rw [if_neg c, if_neg c, if_pos rfl]
    obtain ⟨f1, f2, f3⟩ := fail_s h hf (by decide : (1 : Int) ≤ 1 ∧ (1 : Int) ≤ 5)
    rw [f1, f2, q_bd_s, q_bd_s, q_rb0, q_rb0]
    exact ⟨0, _, _, rfl, rfl, Or.inl ⟨rfl, f3, fun c i z => by rw [m_st_d, if_neg z], fun c i z => by rw [m_st_d, if_neg z]⟩⟩
