/-! The machine's parts, each with what it may change. -/
theorem mo {μ : am_M} {c i v a j : Int} (h : ¬ (a = c ∧ j = i)) : m_st μ c i v a j = μ a j := if_neg h
theorem tr_t {n b l : Int} (hb : bOk b) {μ : am_M} (hT : TF n b μ) (h0 : 0 ≤ l) (h1 : l < n) : ∃ r, Ln_timesRead (b + 1) l μ = some (r, μ) ∧ 0 ≤ r ∧ r ≤ 1000 := by
  obtain ⟨q0, ⟨q1, q2⟩, ⟨q3, q4⟩, -⟩ := hT l h0 h1
  have hFU := am_FU_ge
  obtain ⟨r, e, e1, e2⟩ := tr_loop hb (μ := μ) 1000 am_FU 0 (μ (b + 1 + 9) l) (μ (b + 1 + 8) l) (by omega) (by omega) (by omega) q1 q4 (by omega)
  refine ⟨r, ?_, e1, by omega⟩
  unfold Ln_timesRead
  rw [q_gd_s (bO2 hb), x60 hb ⟨rfl, rfl⟩ ⟨rfl, rfl⟩ h0 (by omega), q_bd_s, x60 hb ⟨rfl, rfl⟩ ⟨rfl, rfl⟩ h0 (by omega), q_bd_s]
  exact e
theorem rs_t {n b l : Int} (hb : bOk b) {μ : am_M} (hT : TF n b μ) (h0 : 0 ≤ l) (h1 : l < n) : ∃ r, Ln_readSet (b + 1) l μ = some (r, μ) := by
  obtain ⟨q0, ⟨q1, q2⟩, ⟨q3, q4⟩, -⟩ := hT l h0 h1
  have hFU := am_FU_ge
  obtain ⟨r, e⟩ := rs_loop hb (μ := μ) 1000 am_FU 0 (μ (b + 1 + 9) l) (μ (b + 1 + 8) l) (by omega) q1 q4 (by omega)
  refine ⟨r, ?_⟩
  unfold Ln_readSet
  rw [q_gd_s (bO2 hb), x60 hb ⟨rfl, rfl⟩ ⟨rfl, rfl⟩ h0 (by omega), q_bd_s, x60 hb ⟨rfl, rfl⟩ ⟨rfl, rfl⟩ h0 (by omega), q_bd_s]
  exact e
theorem jo_t (a x y : Int) (μ : am_M) : ∃ v, Rk_joined a x y μ = some (v, μ) := by
  unfold Rk_joined
  repeat' split
  all_goals exact ⟨_, rfl⟩
theorem rk_loop {b v3 v4 : Int} (hb : bOk b) (h3 : isA v3) : ∀ (k N : Nat) (v5 v6 v7 : Int) (μ : am_M), v6 - v7 ≤ (k : Int) → 0 ≤ v7 → v6 ≤ 1000 → k < N → ∃ r μ', Rk_reckon_L23 N (b + 1) v3 v4 v5 v6 v7 μ = some (r, μ') ∧ ∀ c i, c ≠ 41 → μ' c i = μ c i := by
  have hz : ∀ (N : Nat) (v5 v6 v7 : Int) (μ : am_M), ¬ v7 < v6 → ∃ r μ', Rk_reckon_L23 (N + 1) (b + 1) v3 v4 v5 v6 v7 μ = some (r, μ') ∧ ∀ c i, c ≠ 41 → μ' c i = μ c i := by
    intro N v5 v6 v7 μ h
    show ∃ r μ', Rk_reckon_L23_b (Rk_reckon_L23 N) (b + 1) v3 v4 v5 v6 v7 μ = _ ∧ _
    unfold Rk_reckon_L23_b
    obtain ⟨v, hv⟩ := xt a_41 0 μ
    rw [if_neg h, hv, q_bd_s]
    exact ⟨v, μ, rfl, fun _ _ _ => rfl⟩
  intro k
  induction k with
  | zero =>
    intro N v5 v6 v7 μ h1 h2 h3 hN
    obtain ⟨N, rfl⟩ : ∃ M, N = M + 1 := ⟨N - 1, by omega⟩
    exact hz N v5 v6 v7 μ (by omega)
  | succ k ih =>
    intro N v5 v6 v7 μ h1 h2 h4 hN
    obtain ⟨N, rfl⟩ : ∃ M, N = M + 1 := ⟨N - 1, by omega⟩
    by_cases q : v7 < v6
    · show ∃ r μ', Rk_reckon_L23_b (Rk_reckon_L23 N) (b + 1) v3 v4 v5 v6 v7 μ = _ ∧ _
      unfold Rk_reckon_L23_b
      obtain ⟨kd, hkd⟩ := kd_t hb v7 μ
      obtain ⟨u, hu⟩ := cn_t hb v7 μ
      rw [if_pos q, q_gd_s (bO2 hb), hkd, q_bd_s]
      have go : ∀ (v5 : Int) (μ1 : am_M), (∀ c i, c ≠ 41 → μ1 c i = μ c i) → ∃ r μ', Rk_reckon_B178 (Rk_reckon_L23 N) (b + 1) v3 v4 v5 v6 v7 μ1 = some (r, μ') ∧ ∀ c i, c ≠ 41 → μ' c i = μ c i := by
        intro v5 μ1 hf
        unfold Rk_reckon_B178
        rw [w32_id (x := v7 + 1) (by unfold r32; omega)]
        obtain ⟨r, μ', e, hf2⟩ := ih N v5 v6 (v7 + 1) μ1 (by omega) (by omega) h4 (by omega)
        exact ⟨r, μ', e, fun c i h => (hf2 c i h).trans (hf c i h)⟩
      have put : ∀ (i v : Int), ∃ μ1, X_put 41 i v μ = some (0, μ1) ∧ ∀ c j, c ≠ 41 → μ1 c j = μ c j := by
        intro i v
        obtain ⟨μ1, e, hf⟩ := xp a_41 i v μ
        exact ⟨μ1, e, fun c j h => hf c j (fun z => h z.1)⟩
      have gob : ∀ (s1 s2 : Int), ∃ r μ', Rk_reckon_B133 (Rk_reckon_L23 N) (b + 1) v3 v4 v5 v6 v7 s1 s2 μ = some (r, μ') ∧ ∀ c i, c ≠ 41 → μ' c i = μ c i := by
        intro s1 s2
        unfold Rk_reckon_B133
        obtain ⟨μ1, e, hf⟩ := put s1 s2
        rw [e, q_bd_s]
        exact go v5 μ1 hf
      by_cases z3 : kd = 3
      · rw [if_pos z3, hu, q_bd_s]
        obtain ⟨μ1, e, hf⟩ := put v5 u
        rw [e, q_bd_s]
        exact go _ μ1 hf
      rw [if_neg z3]
      by_cases z2 : kd = 2
      · rw [if_pos z2, hu, q_bd_s]
        obtain ⟨w, hw⟩ := xt h3 (w32 (v4 + u)) μ
        rw [hw, q_bd_s]
        obtain ⟨μ1, e, hf⟩ := put v5 w
        rw [e, q_bd_s]
        exact go _ μ1 hf
      rw [if_neg z2]
      by_cases z4 : kd = 114
      · rw [if_pos z4]
        obtain ⟨w, hw⟩ := xt a_41 (w32 (v5 - 1)) μ
        rw [hw, q_bd_s]
        by_cases y : w = 0
        · rw [if_pos y]; exact gob _ _
        · rw [if_neg y]; exact gob _ _
      rw [if_neg z4]
      obtain ⟨w1, hw1⟩ := xt a_41 (w32 (w32 (v5 + (-1)) - 1)) μ
      rw [hw1, q_bd_s]
      obtain ⟨w2, hw2⟩ := xt a_41 (w32 (v5 + (-1))) μ
      rw [hw2, q_bd_s]
      obtain ⟨w, hw⟩ := jo_t kd w1 w2 μ
      rw [hw, q_bd_s]
      obtain ⟨μ1, e, hf⟩ := put (w32 (w32 (v5 + (-1)) - 1)) w
      rw [e, q_bd_s]
      exact go _ μ1 hf
    · exact hz N v5 v6 v7 μ q
theorem rk_t {n b l : Int} (hb : bOk b) {μ : am_M} (hT : TF n b μ) (h0 : 0 ≤ l) (h1 : l < n) : ∃ r μ', Mc_reckoned 300 (b + 1) l μ = some (r, μ') ∧ ∀ c i, c ≠ 41 → μ' c i = μ c i := by
  obtain ⟨q0, ⟨q1, q2⟩, ⟨q3, q4⟩, -⟩ := hT l h0 h1
  have hFU := am_FU_ge
  obtain ⟨r, μ', e, hf⟩ := rk_loop hb a_303 (v4 := w32 (w32 (μ 300 5 - 1) * 10)) 1000 am_FU 0 (μ (b + 1 + 9) l) (μ (b + 1 + 8) l) μ (by omega) q1 q4 (by omega)
  refine ⟨r, μ', ?_, hf⟩
  unfold Mc_reckoned Rk_reckon
  rw [q_gd_s rfl, q_gd_s (bO2 hb), x60 hb ⟨rfl, rfl⟩ ⟨rfl, rfl⟩ h0 (by omega), q_bd_s, x60 hb ⟨rfl, rfl⟩ ⟨rfl, rfl⟩ h0 (by omega), q_bd_s, e, q_bd_s]
theorem lay_t (s v : Int) (μ : am_M) : ∃ μ', Mc_lay 300 s v μ = some (0, μ') ∧ ∀ c i, c ≠ 302 → c ≠ 303 → μ' c i = μ c i := by
  unfold Mc_lay
  by_cases h : s = -1
  · rw [if_pos h]
    exact ⟨μ, rfl, fun _ _ _ _ => rfl⟩
  · rw [if_neg h, q_gd_s rfl]
    obtain ⟨w, hw⟩ := xt a_302 (w32 (μ 300 5 - 1)) μ
    rw [hw, q_bd_s]
    obtain ⟨μ1, e1, f1⟩ := xp a_302 (w32 (μ 300 5 - 1)) (aOr w (aShl 1 s)) μ
    rw [e1, q_bd_s]
    obtain ⟨μ2, e2, f2⟩ := xp a_303 (w32 (w32 (w32 (μ 300 5 - 1) * 10) + s)) v μ1
    rw [e2, q_bd_s]
    exact ⟨μ2, rfl, fun c i h1 h2 => (f2 c i (fun z => h2 z.1)).trans (f1 c i (fun z => h1 z.1))⟩
theorem drop_t {b : Int} (hb : bOk b) (l : Int) {μ : am_M} (h1 : μ 300 1 = 1) (ha : 0 ≤ μ 300 9 ∧ μ 300 9 ≤ 1000000000) : ∃ n μ', Mc_dropGone 300 (b + 1) l μ = some (0, μ') ∧ (0 ≤ n ∧ n ≤ 63) ∧ μ' 300 9 = μ 300 9 + n ∧ ∀ c i, c ≠ 302 → ¬ (c = 300 ∧ i = 9) → μ' c i = μ c i := by
  unfold Mc_dropGone
  rw [q_gd_s rfl, if_neg (by rw [h1]; decide)]
  obtain ⟨w, hw⟩ := xt a_302 (w32 (μ 300 5 - 1)) μ
  rw [hw, q_bd_s, q_gd_s (bO2 hb)]
  obtain ⟨g, hg⟩ := xt (a_gone hb) l μ
  rw [hg, q_bd_s, bc_s, q_bd_s, q_pf_d]
  have hn := bcf_b (aAnd w g)
  obtain ⟨μ1, e1, f1⟩ := xp a_302 (w32 (m_st μ 300 9 (w32 (μ 300 9 + bcf (aAnd w g))) 300 5 - 1)) (aAnd w (aXor g (-1))) (m_st μ 300 9 (w32 (μ 300 9 + bcf (aAnd w g))))
  rw [e1, q_bd_s]
  refine ⟨bcf (aAnd w g), μ1, rfl, hn, ?_, fun c i q1 q2 => ?_⟩
  · rw [f1 300 9 (fun z => absurd z.1 (by decide)), m_st_eq, w32_id (by unfold r32; omega)]
  · rw [f1 c i (fun z => q1 z.1), mo q2]
theorem enter_t {b k : Int} (hb : bOk b) (hk : 0 ≤ k ∧ k < 4) {μ : am_M} (hd : 0 ≤ μ 300 5 ∧ μ 300 5 ≤ 15) : ∃ μ', Mc_enter 300 b k μ = some (0, μ') ∧ μ' 300 5 = μ 300 5 + 1 ∧ μ' 301 (μ 300 5) = w32 (μ (b + 15) k + μ (b + 17) k) ∧ ∀ c i, c ≠ 302 → ¬ (c = 301 ∧ i = μ 300 5) → ¬ (c = 300 ∧ i = 5) → μ' c i = μ c i := by
  have hr := bOk_r hb
  unfold Mc_enter
  rw [q_gd_s (bO0 hb), x4 hb ⟨rfl, rfl⟩ ⟨rfl, rfl⟩ hk.1 hk.2, q_bd_s, q_gd_s rfl, x4 hb ⟨rfl, rfl⟩ ⟨rfl, rfl⟩ hk.1 hk.2, q_bd_s, show (300 : Int) + 1 = 301 from rfl, X_put_301, if_pos (by omega), q_bd_s]
  obtain ⟨μ1, e1, f1⟩ := xp a_302 (m_st μ 301 (μ 300 5) (w32 (μ (b + 15) k + μ (b + 17) k)) 300 5) (w32 (aShl 1 (μ (b + 17) k) - 1)) (m_st μ 301 (μ 300 5) (w32 (μ (b + 15) k + μ (b + 17) k)))
  rw [e1, q_bd_s, q_pf_d]
  have h5 : μ1 300 5 = μ 300 5 := by rw [f1 300 5 (fun z => absurd z.1 (by decide)), mo (fun z => absurd z.1 (by decide))]
  refine ⟨_, rfl, ?_, ?_, fun c i q1 q2 q3 => ?_⟩
  · rw [m_st_eq, h5, w32_id (by unfold r32; omega)]
  · rw [mo (fun z => absurd z.1 (by decide)), f1 301 _ (fun z => absurd z.1 (by decide)), m_st_eq]
  · rw [mo q3, f1 c i (fun z => q1 z.1), mo q2]
theorem wc_loop {b v2 v4 v5 : Int} (hb : bOk b) (hk : 0 ≤ v4 ∧ v4 < 4) : ∀ (k N : Nat) (v6 v7 : Int) (μ : am_M), v6 - v7 ≤ (k : Int) → 0 ≤ v7 → v6 ≤ 4 → k < N → 0 ≤ μ 300 5 ∧ μ 300 5 ≤ 15 → ∃ μ', Mc_workCall_L40 N 300 b v2 (b + 1) v4 v5 v6 v7 μ = some (0, μ') ∧ μ' 300 5 = μ 300 5 + 1 ∧ μ' 301 (μ 300 5) = w32 (μ (b + 15) v4 + μ (b + 17) v4) ∧ ∀ c i, c ≠ 302 → c ≠ 303 → ¬ (c = 301 ∧ i = μ 300 5) → ¬ (c = 300 ∧ i = 5) → μ' c i = μ c i := by
  have hr := bOk_r hb
  have hz : ∀ (N : Nat) (v6 v7 : Int) (μ : am_M), ¬ v7 < v6 → 0 ≤ μ 300 5 ∧ μ 300 5 ≤ 15 → ∃ μ', Mc_workCall_L40 (N + 1) 300 b v2 (b + 1) v4 v5 v6 v7 μ = some (0, μ') ∧ μ' 300 5 = μ 300 5 + 1 ∧ μ' 301 (μ 300 5) = w32 (μ (b + 15) v4 + μ (b + 17) v4) ∧ ∀ c i, c ≠ 302 → c ≠ 303 → ¬ (c = 301 ∧ i = μ 300 5) → ¬ (c = 300 ∧ i = 5) → μ' c i = μ c i := by
    intro N v6 v7 μ h hd
    show ∃ μ', Mc_workCall_L40_b (Mc_workCall_L40 N) 300 b v2 (b + 1) v4 v5 v6 v7 μ = _ ∧ _
    unfold Mc_workCall_L40_b
    obtain ⟨μ', e, e1, e2, hf⟩ := enter_t hb hk hd
    rw [if_neg h, q_gd_s rfl, e, q_bd_s]
    exact ⟨μ', rfl, e1, e2, fun c i q1 _ q3 q4 => hf c i q1 q3 q4⟩
  intro k
  induction k with
  | zero =>
    intro N v6 v7 μ h1 h2 h3 hN hd
    obtain ⟨N, rfl⟩ : ∃ M, N = M + 1 := ⟨N - 1, by omega⟩
    exact hz N v6 v7 μ (by omega) hd
  | succ k ih =>
    intro N v6 v7 μ h1 h2 h3 hN hd
    obtain ⟨N, rfl⟩ : ∃ M, N = M + 1 := ⟨N - 1, by omega⟩
    by_cases q : v7 < v6
    · show ∃ μ', Mc_workCall_L40_b (Mc_workCall_L40 N) 300 b v2 (b + 1) v4 v5 v6 v7 μ = _ ∧ _
      unfold Mc_workCall_L40_b
      obtain ⟨w, hw⟩ := xt (a_star hb) v2 μ
      obtain ⟨u, hu⟩ := cn_t hb (w32 (w + v7)) μ
      obtain ⟨x, hx⟩ := xt a_303 (w32 (v5 + u)) μ
      obtain ⟨μ1, e1, f1⟩ := xp a_303 (w32 (w32 (v5 + 10) + v7)) x μ
      rw [if_pos q, q_gd_s (bO2 hb), hw, q_bd_s, hu, q_bd_s, q_gd_s rfl, hx, q_bd_s, e1, q_bd_s, w32_id (x := v7 + 1) (by unfold r32; omega)]
      have h5 : μ1 300 5 = μ 300 5 := f1 300 5 (fun z => absurd z.1 (by decide))
      obtain ⟨μ', e, g1, g2, hf⟩ := ih N v6 (v7 + 1) μ1 (by omega) (by omega) h3 (by omega) (by rw [h5]; exact hd)
      rw [h5] at g1 g2 hf
      rw [f1 (b + 15) v4 (fun z => by have := z.1; omega), f1 (b + 17) v4 (fun z => by have := z.1; omega)] at g2
      exact ⟨μ', e, g1, g2, fun c i q1 q2 q3 q4 => (hf c i q1 q2 q3 q4).trans (f1 c i (fun z => q2 z.1))⟩
    · exact hz N v6 v7 μ q hd
theorem call_t {n b l : Int} (hb : bOk b) {μ : am_M} (hT : TF n b μ) (h0 : 0 ≤ l) (h1 : l < n) (h4 : μ (b + 1 + 1) l = 4) (hd : 0 ≤ μ 300 5 ∧ μ 300 5 ≤ 15) : ∃ μ', Mc_workCall 300 b l μ = some (0, μ') ∧ μ' 300 5 = μ 300 5 + 1 ∧ (0 ≤ μ' 301 (μ 300 5) ∧ μ' 301 (μ 300 5) < n) ∧ ∀ c i, c ≠ 302 → c ≠ 303 → ¬ (c = 301 ∧ i = μ 300 5) → ¬ (c = 300 ∧ i = 5) → μ' c i = μ c i := by
  obtain ⟨q0, -, -, -, -, q5⟩ := hT l h0 h1
  obtain ⟨⟨k0, k1⟩, ⟨t0, t1⟩, f0, f1⟩ := q5 h4
  have hFU := am_FU_ge
  obtain ⟨μ', e, e1, e2, hf⟩ := wc_loop hb ⟨k0, k1⟩ (v2 := l) (v5 := w32 (w32 (μ 300 5 - 1) * 10)) 4 am_FU (μ (b + 17) (μ (b + 1 + 5) l)) 0 μ (by omega) (by omega) t1 (by omega) hd
  refine ⟨μ', ?_, e1, ?_, hf⟩
  · unfold Mc_workCall
    rw [q_gd_s (bO0 hb), q_gd_s (bO2 hb), x60 hb ⟨rfl, rfl⟩ ⟨rfl, rfl⟩ h0 (by omega), q_bd_s, q_gd_s rfl, x4 hb ⟨rfl, rfl⟩ ⟨rfl, rfl⟩ k0 k1, q_bd_s]
    exact e
  · rw [e2, w32_id (by unfold r32; omega)]
    omega
theorem give_t {b : Int} (hb : bOk b) (v : Int) {μ : am_M} (hd : 1 ≤ μ 300 5 ∧ μ 300 5 ≤ 16) (ha : 0 ≤ μ 300 9 ∧ μ 300 9 ≤ 1000000000) : ∃ n μ', Mc_workGive 300 (b + 1) v μ = some (0, μ') ∧ (0 ≤ n ∧ n ≤ 63) ∧ μ' 300 9 = μ 300 9 + n ∧ μ' 300 5 = μ 300 5 - 1 ∧ (μ 300 5 = 1 → μ' 300 6 = 2) ∧ (μ 300 5 ≠ 1 → μ' 300 6 = μ 300 6) ∧ ∀ c i, c ≠ 302 → c ≠ 303 → ¬ (c = 300 ∧ (i = 5 ∨ i = 6 ∨ i = 7 ∨ i = 9)) → μ' c i = μ c i := by
  unfold Mc_workGive
  obtain ⟨w, hw⟩ := xt a_302 (w32 (μ 300 5 - 1)) μ
  have hn := bcf_b w
  rw [q_gd_s rfl, hw, q_bd_s, bc_s, q_bd_s, q_pf_d, q_pf_d]
  have e5 : m_st μ 300 9 (w32 (μ 300 9 + bcf w)) 300 5 = μ 300 5 := mo (by decide)
  rw [e5, m_st_eq, w32_id (x := μ 300 5 - 1) (by unfold r32; omega), w32_id (x := μ 300 9 + bcf w) (by unfold r32; omega)]
  by_cases h : μ 300 5 - 1 = 0
  · rw [if_pos h, q_pf_d, q_pf_d]
    refine ⟨bcf w, _, rfl, hn, ?_, ?_, fun _ => ?_, fun q => absurd (by omega) q, fun c i q1 q2 q3 => ?_⟩
    · rw [mo (by decide), mo (by decide), mo (by decide), m_st_eq]
    · rw [mo (by decide), mo (by decide), m_st_eq]
    · rw [mo (by decide), m_st_eq]
    · rw [mo (fun z => q3 ⟨z.1, by omega⟩), mo (fun z => q3 ⟨z.1, by omega⟩), mo (fun z => q3 ⟨z.1, by omega⟩), mo (fun z => q3 ⟨z.1, by omega⟩)]
  · rw [if_neg h]
    obtain ⟨x, hx⟩ := xt a_301 (w32 (μ 300 5 - 1 - 1)) (m_st (m_st μ 300 9 (μ 300 9 + bcf w)) 300 5 (μ 300 5 - 1))
    obtain ⟨y, hy⟩ := xt (a_laid hb) (w32 (x - 1)) (m_st (m_st μ 300 9 (μ 300 9 + bcf w)) 300 5 (μ 300 5 - 1))
    obtain ⟨μ1, e1, f1⟩ := lay_t y v (m_st (m_st μ 300 9 (μ 300 9 + bcf w)) 300 5 (μ 300 5 - 1))
    rw [hx, q_bd_s, q_gd_s (bO2 hb), hy, q_bd_s, e1, q_bd_s]
    refine ⟨bcf w, μ1, rfl, hn, ?_, ?_, fun q => absurd (by omega) h, fun _ => ?_, fun c i q1 q2 q3 => ?_⟩
    · rw [f1 300 9 (by decide) (by decide), mo (by decide), m_st_eq]
    · rw [f1 300 5 (by decide) (by decide), m_st_eq]
    · rw [f1 300 6 (by decide) (by decide), mo (by decide), mo (by decide)]
    · rw [f1 c i q1 q2, mo (fun z => q3 ⟨z.1, by omega⟩), mo (fun z => q3 ⟨z.1, by omega⟩)]
theorem slips_t {n b l : Int} (hb : bOk b) {μ : am_M} (hT : TF n b μ) (h0 : 0 ≤ l) (h1 : l < n) (hB : μ 300 1 = 1) (ha : 0 ≤ μ 300 9 ∧ μ 300 9 ≤ 1000000000) : ∃ n μ', Mc_readSlips 300 (b + 1) l μ = some (1, μ') ∧ (0 ≤ n ∧ n ≤ 1000) ∧ μ' 300 9 = μ 300 9 + n ∧ ∀ c i, c ≠ 302 → ¬ (c = 300 ∧ i = 9) → μ' c i = μ c i := by
  obtain ⟨r, hr⟩ := rs_t hb hT h0 h1
  obtain ⟨k, hk, k0, k1⟩ := tr_t hb hT h0 h1
  obtain ⟨w, hw⟩ := xt a_302 (w32 (μ 300 5 - 1)) μ
  unfold Mc_readSlips
  rw [q_gd_s (bO2 hb), hr, q_bd_s, q_gd_s rfl, hw, q_bd_s, if_neg (by rw [hB]; decide), hk, q_bd_s, q_pf_d]
  obtain ⟨μ1, e1, f1⟩ := xp a_302 (w32 (m_st μ 300 9 (w32 (μ 300 9 + k)) 300 5 - 1)) (aAnd w (aXor r (-1))) (m_st μ 300 9 (w32 (μ 300 9 + k)))
  rw [e1, q_bd_s]
  refine ⟨k, μ1, rfl, ⟨k0, k1⟩, ?_, fun c i q1 q2 => ?_⟩
  · rw [f1 300 9 (fun z => absurd z.1 (by decide)), m_st_eq, w32_id (by unfold r32; omega)]
  · rw [f1 c i (fun z => q1 z.1), mo q2]
theorem look_t {μ : am_M} (hd : 0 ≤ μ 300 5 ∧ μ 300 5 ≤ 16) (hB : μ 300 1 = 1) : ∃ μ', Mc_lookAtTable 300 μ = some (0, μ') ∧ lyS (μ 302) (μ 300 5).toNat ≤ μ' 300 8 ∧ (μ' 300 6 = μ 300 6 ∨ μ' 300 6 = 3) ∧ ∀ c i, ¬ (c = 300 ∧ (i = 6 ∨ i = 8)) → μ' c i = μ c i := by
  unfold Mc_lookAtTable
  rw [q_gd_s rfl, ly_s hd, q_bd_s, q_lt_d, q_pf_d]
  have e1 : ∀ v : Int, m_st μ 300 8 v 300 1 = 1 := fun v => (mo (by decide)).trans hB
  rw [e1, if_neg (by decide)]
  have hle : lyS (μ 302) (μ 300 5).toNat ≤ (if μ 300 8 < lyS (μ 302) (μ 300 5).toNat then lyS (μ 302) (μ 300 5).toNat else μ 300 8) := by split <;> omega
  generalize (if μ 300 8 < lyS (μ 302) (μ 300 5).toNat then lyS (μ 302) (μ 300 5).toNat else μ 300 8) = v at hle ⊢
  have base : ∃ μ', some (0, m_st μ 300 8 v) = some ((0 : Int), μ') ∧ lyS (μ 302) (μ 300 5).toNat ≤ μ' 300 8 ∧ (μ' 300 6 = μ 300 6 ∨ μ' 300 6 = 3) ∧ ∀ c i, ¬ (c = 300 ∧ (i = 6 ∨ i = 8)) → μ' c i = μ c i :=
    ⟨_, rfl, by rw [m_st_eq]; exact hle, Or.inl (mo (by decide)), fun c i q => mo (fun z => q ⟨z.1, Or.inr z.2⟩)⟩
  split
  · split
    · exact base
    · rw [q_pf_d]
      refine ⟨_, rfl, by rw [mo (by decide), m_st_eq]; exact hle, Or.inr m_st_eq, fun c i q => ?_⟩
      rw [mo (fun z => q ⟨z.1, Or.inl z.2⟩), mo (fun z => q ⟨z.1, Or.inr z.2⟩)]
  · exact base
