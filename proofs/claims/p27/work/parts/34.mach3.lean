/-! Steps, runs, beginnings: the bounds stay. -/
/-- the machine's bounds: n lines, ash at most A -/
def MB (n A : Int) (μ : am_M) : Prop := (0 ≤ μ 300 5 ∧ μ 300 5 ≤ 16) ∧ (μ 300 6 = 1 → 1 ≤ μ 300 5) ∧ (∀ i, 0 ≤ i → i < μ 300 5 → 0 ≤ μ 301 i ∧ μ 301 i < n) ∧ lyS (μ 302) (μ 300 5).toNat ≤ μ 300 8 ∧ (0 ≤ μ 300 9 ∧ μ 300 9 ≤ A) ∧ r32 (μ 300 11)
/-- what a step leaves alone -/
def NM (μ μ' : am_M) : Prop := ∀ c i, c ≠ 41 → ¬ (300 ≤ c ∧ c ≤ 303) → μ' c i = μ c i
theorem NM.t {μ μ' μ'' : am_M} (h1 : NM μ μ') (h2 : NM μ' μ'') : NM μ μ'' := fun c i a b => (h2 c i a b).trans (h1 c i a b)
theorem NM.r (μ : am_M) : NM μ μ := fun _ _ _ _ => rfl
theorem NM.T {n b : Int} {μ μ' : am_M} (hb : bOk b) (h : NM μ μ') (hT : TF n b μ) : TF n b μ' := hT.c (fun c i h1 h2 => h c i (by have := bOk_r hb; omega) (by have := bOk_r hb; rcases hb with q | q <;> omega))
/-- behind a line's own work -/
def WP (n : Int) (μ μ' : am_M) : Prop := (0 ≤ μ' 300 5 ∧ μ' 300 5 ≤ 16) ∧ (μ' 300 6 = 1 → 1 ≤ μ' 300 5) ∧ (∀ i, 0 ≤ i → i < μ' 300 5 → 0 ≤ μ' 301 i ∧ μ' 301 i < n) ∧ (μ 300 9 ≤ μ' 300 9 ∧ μ' 300 9 ≤ μ 300 9 + 63) ∧ (μ' 300 1 = μ 300 1 ∧ μ' 300 11 = μ 300 11 ∧ μ' 300 12 = μ 300 12 ∧ μ' 300 13 = μ 300 13) ∧ NM μ μ'
theorem kind_t {n b l : Int} (hb : bOk b) {μ : am_M} (hT : TF n b μ) (h0 : 0 ≤ l) (h1 : l < n) (hB : μ 300 1 = 1) (ha : 0 ≤ μ 300 9 ∧ μ 300 9 ≤ 1000000000) (hd : 1 ≤ μ 300 5 ∧ μ 300 5 ≤ 16) (h4 : μ (b + 1 + 1) l = 4 → μ 300 5 ≤ 15) (hN : ∀ i, 0 ≤ i → i < μ 300 5 - 1 → 0 ≤ μ 301 i ∧ μ 301 i < n) (hl : μ 301 (μ 300 5 - 1) = l + 1) (hs : μ 300 6 = 1) : ∃ μ', Mc_workKind 300 b l (μ (b + 1 + 1) l) μ = some (0, μ') ∧ WP n μ μ' := by
  obtain ⟨q0, -, -, q3, q4, -⟩ := hT l h0 h1
  have hall : μ (b + 1 + 1) l ≠ 8 → ∀ i, 0 ≤ i → i < μ 300 5 → 0 ≤ μ 301 i ∧ μ 301 i < n := by
    intro h8 i i0 i1
    by_cases q : i = μ 300 5 - 1
    · rw [q, hl]; exact ⟨by omega, q3 h8⟩
    · exact hN i i0 (by omega)
  -- a change of tables, rows and numbers alone
  have plain : μ (b + 1 + 1) l ≠ 8 → ∀ μ' : am_M, (∀ c i, c ≠ 41 → c ≠ 302 → c ≠ 303 → ¬ (c = 300 ∧ i = 9) → ¬ (c = 300 ∧ i = 10) → μ' c i = μ c i) → (μ 300 9 ≤ μ' 300 9 ∧ μ' 300 9 ≤ μ 300 9 + 63) → WP n μ μ' := by
    intro h8 μ' hf hash
    have f5 := hf 300 5 (by decide) (by decide) (by decide) (by decide) (by decide)
    refine ⟨by rw [f5]; omega, fun _ => by rw [f5]; exact hd.1, fun i i0 i1 => ?_, hash, ⟨hf 300 1 (by decide) (by decide) (by decide) (by decide) (by decide), hf 300 11 (by decide) (by decide) (by decide) (by decide) (by decide), hf 300 12 (by decide) (by decide) (by decide) (by decide) (by decide), hf 300 13 (by decide) (by decide) (by decide) (by decide) (by decide)⟩, fun c i c1 c2 => hf c i c1 (by omega) (by omega) (by omega) (by omega)⟩
    rw [f5] at i1
    rw [hf 301 i (by decide) (by decide) (by decide) (by omega) (by omega)]
    exact hall h8 i i0 i1
  -- .. and of what comes next
  have next : ∀ (v : Int) (μ1 μ' : am_M), 0 ≤ v → v < n → (∀ c i, c ≠ 41 → c ≠ 302 → ¬ (c = 300 ∧ i = 9) → μ1 c i = μ c i) → (μ 300 9 ≤ μ1 300 9 ∧ μ1 300 9 ≤ μ 300 9 + 63) → μ' = m_st μ1 301 (μ 300 5 - 1) v → WP n μ μ' := by
    intro v μ1 μ' v0 v1 hf hash e
    subst e
    have f5 : m_st μ1 301 (μ 300 5 - 1) v 300 5 = μ 300 5 := (mo (fun z => absurd z.1 (by decide))).trans (hf 300 5 (by decide) (by decide) (by decide))
    have g : ∀ i : Int, m_st μ1 301 (μ 300 5 - 1) v 300 i = μ1 300 i := fun i => mo (fun z => absurd z.1 (by decide))
    refine ⟨by rw [f5]; omega, fun _ => by rw [f5]; exact hd.1, fun i i0 i1 => ?_, by rw [g]; exact hash, ⟨(g 1).trans (hf 300 1 (by decide) (by decide) (by decide)), (g 11).trans (hf 300 11 (by decide) (by decide) (by decide)), (g 12).trans (hf 300 12 (by decide) (by decide) (by decide)), (g 13).trans (hf 300 13 (by decide) (by decide) (by decide))⟩, fun c i c1 c2 => (mo (fun z => c2 (by omega))).trans (hf c i c1 (by omega) (by omega))⟩
    rw [f5] at i1
    by_cases q : i = μ 300 5 - 1
    · rw [q, m_st_eq]; exact ⟨v0, v1⟩
    · rw [mo (fun z => q z.2), hf 301 i (by decide) (by decide) (by omega)]
      exact hN i i0 (by omega)
  unfold Mc_workKind
  rw [q_gd_s (bO0 hb), q_gd_s rfl]
  have w1 : w32 (μ 300 5 - 1) = μ 300 5 - 1 := w32_id (by unfold r32; omega)
  have b60 : ∀ (k : Nat), k = 1 ∨ k = 2 → μ (b + 1 + 1) l = (k : Int) → ∃ μ', Mc_workKind_B60 300 l (μ (b + 1 + 1) l) (b + 1) μ = some (0, μ') ∧ WP n μ μ' := by
    intro k hk hkk
    obtain ⟨r, μ1, e1, f1⟩ := rk_t hb hT h0 h1
    obtain ⟨x, hx⟩ := xt (a_laid hb) l μ1
    obtain ⟨μ2, e2, f2⟩ := lay_t x r μ1
    obtain ⟨y, hy⟩ := xt (a_besd hb) l μ2
    obtain ⟨μ3, e3, f3⟩ := lay_t y r μ2
    have f : ∀ c i, c ≠ 41 → c ≠ 302 → c ≠ 303 → μ3 c i = μ c i := fun c i c1 c2 c3 => (f3 c i c2 c3).trans ((f2 c i c2 c3).trans (f1 c i c1))
    unfold Mc_workKind_B60
    rw [q_gd_s rfl, e1, q_bd_s, q_gd_s (bO2 hb), hx, q_bd_s, e2, q_bd_s, hy, q_bd_s, e3, q_bd_s]
    have fin : ∀ s : Int, ∃ μ', Mc_workKind_B117 300 (μ3 300 10) s μ3 = some (0, μ') ∧ WP n μ μ' := by
      intro s
      unfold Mc_workKind_B117
      rw [q_gd_s rfl, q_pf_d]
      refine ⟨_, rfl, plain (by rw [hkk]; omega) _ (fun c i c1 c2 c3 c4 c5 => (mo c5).trans (f c i c1 c2 c3)) ?_⟩
      rw [mo (by decide), f 300 9 (by decide) (by decide) (by decide)]
      omega
    split
    · exact fin _
    · exact fin _
  by_cases k1 : μ (b + 1 + 1) l = 1
  · rw [if_pos k1]; exact b60 1 (Or.inl rfl) k1
  rw [if_neg k1]
  by_cases k2 : μ (b + 1 + 1) l = 2
  · rw [if_pos k2]; exact b60 2 (Or.inr rfl) k2
  rw [if_neg k2]
  by_cases k3 : μ (b + 1 + 1) l = 3
  · rw [if_pos k3]
    exact ⟨μ, rfl, plain (by omega) μ (fun _ _ _ _ _ _ _ => rfl) (by omega)⟩
  rw [if_neg k3]
  by_cases k4 : μ (b + 1 + 1) l = 4
  · rw [if_pos k4]
    have hd15 := h4 k4
    obtain ⟨μ', e, g1, g2, f⟩ := call_t hb hT h0 h1 k4 ⟨by omega, hd15⟩
    rw [e, q_bd_s]
    refine ⟨μ', rfl, by omega, fun _ => by omega, fun i i0 i1 => ?_, ?_, ⟨f 300 1 (by decide) (by decide) (by omega) (by decide), f 300 11 (by decide) (by decide) (by omega) (by decide), f 300 12 (by decide) (by decide) (by omega) (by decide), f 300 13 (by decide) (by decide) (by omega) (by decide)⟩, fun c i c1 c2 => f c i (by omega) (by omega) (by omega) (by omega)⟩
    · by_cases q : i = μ 300 5
      · rw [q]; exact g2
      · rw [f 301 i (by decide) (by decide) (fun z => q z.2) (by omega)]
        exact hall (by omega) i i0 (by omega)
    · rw [f 300 9 (by decide) (by decide) (by omega) (by decide)]
      omega
  rw [if_neg k4]
  by_cases k5 : μ (b + 1 + 1) l = 5
  · rw [if_pos k5]
    obtain ⟨r, μ1, e1, f1⟩ := rk_t hb hT h0 h1
    rw [e1, q_bd_s]
    by_cases z : r = 0
    · have hr := bOk_r hb
      rw [if_pos z, q_gd_s (bO2 hb), x60 hb ⟨rfl, rfl⟩ ⟨rfl, rfl⟩ h0 (by omega), q_bd_s, w1, f1 (b + 1 + 6) l (by omega), show (300 : Int) + 1 = 301 from rfl, X_put_301, if_pos (by omega), q_bd_s]
      obtain ⟨m0, m1⟩ := q4 (Or.inl k5)
      refine ⟨_, rfl, next (w32 (μ (b + 1 + 6) l + 1)) μ1 _ ?_ ?_ (fun c i c1 _ _ => f1 c i c1) (by rw [f1 300 9 (by decide)]; omega) rfl⟩
      · rw [w32_id (by unfold r32; omega)]; exact m0
      · rw [w32_id (by unfold r32; omega)]; exact m1
    · rw [if_neg z]
      exact ⟨μ1, rfl, plain (by omega) μ1 (fun c i c1 _ _ _ _ => f1 c i c1) (by rw [f1 300 9 (by decide)]; omega)⟩
  rw [if_neg k5]
  by_cases k6 : μ (b + 1 + 1) l = 6
  · rw [if_pos k6]
    obtain ⟨m, μ1, e1, mb, ea, f1⟩ := drop_t hb l hB ha
    have hr := bOk_r hb
    obtain ⟨m0, m1⟩ := q4 (Or.inr k6)
    rw [e1, q_bd_s, q_gd_s (bO2 hb), x60 hb ⟨rfl, rfl⟩ ⟨rfl, rfl⟩ h0 (by omega), q_bd_s, w1, f1 (b + 1 + 6) l (by omega) (by omega), show (300 : Int) + 1 = 301 from rfl, X_put_301, if_pos (by omega), q_bd_s]
    refine ⟨_, rfl, next (w32 (μ (b + 1 + 6) l + 1)) μ1 _ ?_ ?_ (fun c i _ c2 c3 => f1 c i c2 c3) (by omega) rfl⟩
    · rw [w32_id (by unfold r32; omega)]; exact m0
    · rw [w32_id (by unfold r32; omega)]; exact m1
  rw [if_neg k6]
  by_cases k7 : μ (b + 1 + 1) l = 7
  · rw [if_pos k7]
    obtain ⟨m, μ1, e1, mb, ea, f1⟩ := drop_t hb l hB ha
    rw [e1, q_bd_s]
    exact ⟨μ1, rfl, plain (by omega) μ1 (fun c i _ c2 _ c4 _ => f1 c i c2 c4) (by omega)⟩
  rw [if_neg k7]
  by_cases k8 : μ (b + 1 + 1) l = 8
  · rw [if_pos k8]
    obtain ⟨r, μ1, e1, f1⟩ := rk_t hb hT h0 h1
    have f15 := f1 300 5 (by decide)
    have f19 := f1 300 9 (by decide)
    have f16 := f1 300 6 (by decide)
    obtain ⟨m, μ2, e2, mb, ea, ed, es1, es2, f2⟩ := give_t hb r (μ := μ1) (by rw [f15]; exact hd) (by rw [f19]; exact ha)
    rw [e1, q_bd_s, e2, q_bd_s]
    have f : ∀ c i, c ≠ 41 → c ≠ 302 → c ≠ 303 → ¬ (c = 300 ∧ (i = 5 ∨ i = 6 ∨ i = 7 ∨ i = 9)) → μ2 c i = μ c i := fun c i c1 c2 c3 c4 => (f2 c i c2 c3 c4).trans (f1 c i c1)
    rw [f15] at ed es1 es2
    rw [f19] at ea
    rw [f16] at es2
    refine ⟨μ2, rfl, by omega, fun z => ?_, fun i i0 i1 => ?_, by omega, ⟨f 300 1 (by decide) (by decide) (by decide) (by decide), f 300 11 (by decide) (by decide) (by decide) (by decide), f 300 12 (by decide) (by decide) (by decide) (by decide), f 300 13 (by decide) (by decide) (by decide) (by decide)⟩, fun c i c1 c2 => f c i c1 (by omega) (by omega) (by omega)⟩
    · by_cases y : μ 300 5 = 1
      · have := es1 y; omega
      · omega
    · rw [f 301 i (by decide) (by decide) (by decide) (by omega)]
      exact hN i i0 (by omega)
  rw [if_neg k8]
  exact ⟨μ, rfl, plain k8 μ (fun _ _ _ _ _ _ _ => rfl) (by omega)⟩
/-- a step -/
theorem work_t {n b A : Int} (hb : bOk b) {μ : am_M} (hT : TF n b μ) (hM : MB n A μ) (hB : μ 300 1 = 1) (hs : μ 300 6 = 1) (hA : A ≤ 900000000) : ∃ r μ', Mc_work 300 b μ = some (r, μ') ∧ ((r = 0 ∧ μ' 300 6 ≠ 1 ∧ μ' 300 11 = μ 300 11) ∨ (r = 1 ∧ μ' 300 11 = w32 (μ 300 11 + 1))) ∧ MB n (A + 1063) μ' ∧ μ 300 9 ≤ μ' 300 9 ∧ (μ' 300 1 = 1 ∧ μ' 300 12 = μ 300 12 ∧ μ' 300 13 = μ 300 13) ∧ NM μ μ' := by
  obtain ⟨hd, hd1, hN, hly, ha, h11⟩ := hM
  have d1 := hd1 hs
  have w1 : w32 (μ 300 5 - 1) = μ 300 5 - 1 := w32_id (by unfold r32; omega)
  obtain ⟨l0, l1⟩ := hN (μ 300 5 - 1) (by omega) (by omega)
  have hr := bOk_r hb
  have hn60 := (hT _ l0 l1).1
  unfold Mc_work
  rw [q_gd_s (bO0 hb), q_gd_s rfl, w1, show (300 : Int) + 1 = 301 from rfl, X_at_301, if_pos (by omega), q_bd_s, q_gd_s (bO2 hb), x60 hb ⟨rfl, rfl⟩ ⟨rfl, rfl⟩ l0 (by omega), q_bd_s]
  generalize hl : μ 301 (μ 300 5 - 1) = l at l0 l1 ⊢
  have go : (μ (b + 1 + 1) l = 4 → μ 300 5 ≤ 15) → ∃ r μ', Mc_work_B55 300 b (b + 1) (μ 300 5 - 1) l (μ (b + 1 + 1) l) μ = some (r, μ') ∧ ((r = 0 ∧ μ' 300 6 ≠ 1 ∧ μ' 300 11 = μ 300 11) ∨ (r = 1 ∧ μ' 300 11 = w32 (μ 300 11 + 1))) ∧ MB n (A + 1063) μ' ∧ μ 300 9 ≤ μ' 300 9 ∧ (μ' 300 1 = 1 ∧ μ' 300 12 = μ 300 12 ∧ μ' 300 13 = μ 300 13) ∧ NM μ μ' := by
    intro h4
    obtain ⟨m, μ1, e1, mb, ea, f1⟩ := slips_t hb hT l0 l1 hB ⟨ha.1, by omega⟩
    unfold Mc_work_B55
    rw [q_gd_s rfl, e1, q_bd_s, if_neg (by decide), show (300 : Int) + 1 = 301 from rfl, X_put_301, if_pos (by omega), q_bd_s, w32_id (x := l + 1) (by unfold r32; omega)]
    have f2 : ∀ c i, c ≠ 302 → ¬ (c = 300 ∧ i = 9) → ¬ (c = 301 ∧ i = μ 300 5 - 1) → m_st μ1 301 (μ 300 5 - 1) (l + 1) c i = μ c i := fun c i c1 c2 c3 => (mo c3).trans (f1 c i c1 c2)
    generalize hμ2 : m_st μ1 301 (μ 300 5 - 1) (l + 1) = μ2 at f2 ⊢
    have g5 := f2 300 5 (by decide) (by decide) (fun z => absurd z.1 (by decide))
    have g9 : μ2 300 9 = μ 300 9 + m := by rw [← hμ2, mo (fun z => absurd z.1 (by decide)), ea]
    have gk := f2 (b + 1 + 1) l (by omega) (by omega) (by omega)
    have hT2 : TF n b μ2 := hT.c (fun c i c1 c2 => f2 c i (by omega) (by omega) (by omega))
    obtain ⟨μ3, e3, d3, s3, N3, a3, ⟨b3, t3, r3, p3⟩, nm3⟩ := kind_t (n := n) hb hT2 l0 l1 ((f2 300 1 (by decide) (by decide) (fun z => absurd z.1 (by decide))).trans hB) (by omega) (by rw [g5]; omega) (by rw [gk, g5]; exact h4) (fun i i0 i1 => by
      rw [g5] at i1
      rw [f2 301 i (by decide) (by omega) (by omega)]
      exact hN i i0 (by omega)) (by rw [g5, ← hμ2, m_st_eq]) ((f2 300 6 (by decide) (by decide) (fun z => absurd z.1 (by decide))).trans hs)
    rw [gk] at e3
    rw [e3, q_bd_s, q_pf_d]
    have g11 := f2 300 11 (by decide) (by decide) (fun z => absurd z.1 (by decide))
    have g12 := f2 300 12 (by decide) (by decide) (fun z => absurd z.1 (by decide))
    have g13 := f2 300 13 (by decide) (by decide) (fun z => absurd z.1 (by decide))
    have g1 := f2 300 1 (by decide) (by decide) (fun z => absurd z.1 (by decide))
    generalize hμ4 : m_st μ3 300 11 (w32 (μ3 300 11 + 1)) = μ4
    have f4 : ∀ c i, ¬ (c = 300 ∧ i = 11) → μ4 c i = μ3 c i := fun c i q => by rw [← hμ4]; exact mo q
    have f411 : μ4 300 11 = w32 (μ3 300 11 + 1) := by rw [← hμ4]; exact m_st_eq
    obtain ⟨μ5, e5, ly5, s5, f5⟩ := look_t (μ := μ4) (by rw [f4 300 5 (by decide)]; exact d3) (by rw [f4 300 1 (by decide), b3, g1, hB])
    rw [e5, q_bd_s]
    have h5 : μ5 300 5 = μ3 300 5 := (f5 300 5 (by decide)).trans (f4 300 5 (by decide))
    have h2 : μ5 302 = μ4 302 := funext fun i => f5 302 i (by omega)
    have h9 : μ5 300 9 = μ3 300 9 := (f5 300 9 (by decide)).trans (f4 300 9 (by decide))
    refine ⟨1, μ5, rfl, Or.inr ⟨rfl, ?_⟩, ⟨by rw [h5]; exact d3, fun z => ?_, fun i i0 i1 => ?_, ?_, by omega, by rw [f5 300 11 (by decide), f411]; exact w32_r _⟩, by omega, ⟨?_, ?_, ?_⟩, fun c i c1 c2 => ?_⟩
    · rw [f5 300 11 (by decide), f411, t3, g11]
    · rw [h5]
      refine s3 ?_
      rcases s5 with q | q
      · rw [f4 300 6 (by decide)] at q; omega
      · omega
    · rw [h5] at i1
      rw [f5 301 i (by omega), f4 301 i (by omega)]
      exact N3 i i0 i1
    · rw [h2, h5, ← f4 300 5 (by decide)]
      exact ly5
    · rw [f5 300 1 (by decide), f4 300 1 (by decide), b3, g1, hB]
    · rw [f5 300 12 (by decide), f4 300 12 (by decide), r3, g12]
    · rw [f5 300 13 (by decide), f4 300 13 (by decide), p3, g13]
    · rw [f5 c i (by omega), f4 c i (by omega), nm3 c i c1 c2, f2 c i (by omega) (by omega) (by omega)]
  by_cases k4 : μ (b + 1 + 1) l = 4
  · rw [if_pos k4]
    by_cases q : μ 300 5 < 16
    · rw [if_pos q]
      exact go (fun _ => by omega)
    · rw [if_neg q, q_pf_d]
      have f : ∀ c i, ¬ (c = 300 ∧ i = 6) → m_st μ 300 6 4 c i = μ c i := fun c i z => mo z
      refine ⟨0, _, rfl, Or.inl ⟨rfl, by rw [m_st_eq]; decide, f 300 11 (by decide)⟩, ⟨by rw [f 300 5 (by decide)]; exact hd, fun z => by rw [m_st_eq] at z; exact absurd z (by decide), fun i i0 i1 => by rw [f 300 5 (by decide)] at i1; rw [f 301 i (by omega)]; exact hN i i0 i1, ?_, by rw [f 300 9 (by decide)]; omega, by rw [f 300 11 (by decide)]; exact h11⟩, by rw [f 300 9 (by decide)]; omega, ⟨(f 300 1 (by decide)).trans hB, f 300 12 (by decide), f 300 13 (by decide)⟩, fun c i c1 c2 => f c i (by omega)⟩
      rw [f 300 5 (by decide), f 300 8 (by decide), show m_st μ 300 6 4 302 = μ 302 from funext fun i => f 302 i (by omega)]
      exact hly
  · rw [if_neg k4]
    exact go (fun z => absurd z k4)
/-- so many steps -/
theorem MB.w {n A A' : Int} {μ : am_M} (h : MB n A μ) (hA : A ≤ A') : MB n A' μ := ⟨h.1, h.2.1, h.2.2.1, h.2.2.2.1, ⟨h.2.2.2.2.1.1, by have := h.2.2.2.2.1.2; omega⟩, h.2.2.2.2.2⟩
theorem w32_2 (x y : Int) : w32 (w32 x + y) = w32 (x + y) := by unfold w32; omega
theorem go_t {n b : Int} (hb : bOk b) : ∀ (k N : Nat) (A v2 v3 : Int) (μ : am_M), v2 - v3 ≤ (k : Int) → 0 ≤ v3 → v3 ≤ v2 → v2 ≤ 4000 → k < N → TF n b μ → MB n A μ → μ 300 1 = 1 → A + 1063 * k ≤ 900000000 → ∃ r μ', Mc_go_L2 N 300 b v2 v3 μ = some (r, μ') ∧ (v3 ≤ r ∧ r ≤ v2) ∧ (μ 300 6 ≠ 1 → r = v3) ∧ μ' 300 11 = w32 (μ 300 11 + (r - v3)) ∧ (r = v2 ∨ μ' 300 6 ≠ 1) ∧ MB n (A + 1063 * k) μ' ∧ μ 300 9 ≤ μ' 300 9 ∧ (μ' 300 1 = 1 ∧ μ' 300 12 = μ 300 12 ∧ μ' 300 13 = μ 300 13) ∧ NM μ μ' := by
  have stay : ∀ (k : Nat) (A v2 v3 : Int) (μ : am_M), v3 ≤ v2 → (v3 = v2 ∨ μ 300 6 ≠ 1) → MB n A μ → μ 300 1 = 1 → ∃ r μ', some (v3, μ) = some (r, μ') ∧ (v3 ≤ r ∧ r ≤ v2) ∧ (μ 300 6 ≠ 1 → r = v3) ∧ μ' 300 11 = w32 (μ 300 11 + (r - v3)) ∧ (r = v2 ∨ μ' 300 6 ≠ 1) ∧ MB n (A + 1063 * k) μ' ∧ μ 300 9 ≤ μ' 300 9 ∧ (μ' 300 1 = 1 ∧ μ' 300 12 = μ 300 12 ∧ μ' 300 13 = μ 300 13) ∧ NM μ μ' := by
    intro k A v2 v3 μ hle h hM hB
    have h11 := hM.2.2.2.2.2
    exact ⟨v3, μ, rfl, ⟨by omega, hle⟩, fun _ => rfl, by rw [Int.sub_self, Int.add_zero, w32_id h11], h, hM.w (by omega), by omega, ⟨hB, rfl, rfl⟩, NM.r μ⟩
  intro k
  induction k with
  | zero =>
    intro N A v2 v3 μ h1 h2 h3 h4 hN hT hM hB hA
    obtain ⟨N, rfl⟩ : ∃ M, N = M + 1 := ⟨N - 1, by omega⟩
    show ∃ r μ', Mc_go_L2_b (Mc_go_L2 N) 300 b v2 v3 μ = _ ∧ _
    unfold Mc_go_L2_b
    rw [if_neg (by omega)]
    exact stay 0 A v2 v3 μ h3 (Or.inl (by omega)) hM hB
  | succ k ih =>
    intro N A v2 v3 μ h1 h2 h3 h4 hN hT hM hB hA
    obtain ⟨N, rfl⟩ : ∃ M, N = M + 1 := ⟨N - 1, by omega⟩
    show ∃ r μ', Mc_go_L2_b (Mc_go_L2 N) 300 b v2 v3 μ = _ ∧ _
    unfold Mc_go_L2_b
    by_cases q : v3 < v2
    · rw [if_pos q, q_gd_s rfl]
      by_cases hs : μ 300 6 = 1
      · rw [if_pos hs]
        obtain ⟨r, μ1, e, hr, hM1, ha1, ⟨b1, t1, p1⟩, nm1⟩ := work_t hb hT hM hB hs (by omega)
        rw [e, q_bd_s]
        rcases hr with ⟨r0, s1, st⟩ | ⟨r1, st⟩
        · rw [if_pos r0]
          have h11 := hM.2.2.2.2.2
          exact ⟨v3, μ1, rfl, ⟨by omega, by omega⟩, fun z => absurd hs z, by rw [st, Int.sub_self, Int.add_zero, w32_id h11], Or.inr s1, hM1.w (by omega), ha1, ⟨b1, t1, p1⟩, nm1⟩
        · rw [if_neg (by omega), w32_id (x := v3 + 1) (by unfold r32; omega)]
          obtain ⟨r', μ', e', ⟨g1, g2⟩, g3, g4, g5, g6, g7, ⟨g8, g9, g10⟩, g11⟩ := ih N (A + 1063) v2 (v3 + 1) μ1 (by omega) (by omega) (by omega) h4 (by omega) (nm1.T hb hT) hM1 b1 (by omega)
          refine ⟨r', μ', e', ⟨by omega, g2⟩, fun z => absurd hs z, ?_, g5, g6.w (by omega), by omega, ⟨g8, by omega, by omega⟩, nm1.t g11⟩
          rw [g4, st, w32_2]
          congr 1
          omega
      · rw [if_neg hs]
        exact stay (k + 1) A v2 v3 μ h3 (Or.inr hs) hM hB
    · rw [if_neg q]
      exact stay (k + 1) A v2 v3 μ h3 (Or.inl (by omega)) hM hB
/-- run -/
theorem run_t {n A v : Int} {μ : am_M} (hb : bOk (μ 0 8)) (hT : TF n (μ 0 8) μ) (hM : MB n A μ) (hB : μ 300 1 = 1) (h0 : 0 ≤ v) (h1 : v ≤ 1000) (hA : A ≤ 800000000) : ∃ r μ', X_run v μ = some (r, μ') ∧ (0 ≤ r ∧ r ≤ v) ∧ (μ 300 6 ≠ 1 → r = 0) ∧ μ' 300 11 = w32 (μ 300 11 + r) ∧ (r = v ∨ μ' 300 6 ≠ 1) ∧ MB n (A + 1063000) μ' ∧ μ 300 9 ≤ μ' 300 9 ∧ (μ' 300 1 = 1 ∧ μ' 300 12 = μ 300 12 ∧ μ' 300 13 = μ 300 13) ∧ NM μ μ' := by
  have hFU := am_FU_ge
  obtain ⟨r, μ', e, g1, g2, g3, g4, g5, g6, g7, g8⟩ := go_t hb 1000 am_FU A v 0 μ (by omega) (by omega) h0 (by omega) (by omega) hT hM hB (by omega)
  refine ⟨r, μ', ?_, g1, g2, by rw [Int.sub_zero] at g3; exact g3, g4, g5, g6, g7, g8⟩
  unfold X_run Mc_go
  rw [if_neg (by omega), if_pos h1, e, q_bd_s]
theorem run_n {v : Int} {μ : am_M} (h : 1000 < v) : X_run v μ = some (-1, μ) := by
  unfold X_run
  rw [if_neg (by omega), if_neg (by omega)]
/-- what is told of each bill -/
def TG (n cnt b : Int) (μ : am_M) : Prop := (n ≤ 60 ∧ 0 < cnt ∧ cnt ≤ 4) ∧ μ b 13 = cnt ∧ ∀ k : Int, 0 ≤ k → k < cnt → (0 ≤ μ (b + 15) k ∧ 0 ≤ μ (b + 17) k) ∧ μ (b + 15) k + μ (b + 17) k < n
theorem take_t (v1 v2 v3 v4 : Int) (μ : am_M) : ∃ μ', Mc_take 300 v1 v2 v3 v4 μ = some (0, μ') ∧ ∀ c i, c ≠ 303 → μ' c i = μ c i := by
  unfold Mc_take
  obtain ⟨μ1, e1, f1⟩ := xp a_303 0 v1 μ
  obtain ⟨μ2, e2, f2⟩ := xp a_303 1 v2 μ1
  obtain ⟨μ3, e3, f3⟩ := xp a_303 2 v3 μ2
  obtain ⟨μ4, e4, f4⟩ := xp a_303 3 v4 μ3
  rw [q_gd_s rfl, e1, q_bd_s, e2, q_bd_s, e3, q_bd_s, e4, q_bd_s]
  exact ⟨μ4, rfl, fun c i h => (f4 c i (fun z => h z.1)).trans ((f3 c i (fun z => h z.1)).trans ((f2 c i (fun z => h z.1)).trans (f1 c i (fun z => h z.1))))⟩
theorem start_t {n cnt b k : Int} (hb : bOk b) {μ : am_M} (hG : TG n cnt b μ) (k0 : 0 ≤ k) (k1 : k < cnt) (hB : μ 300 1 = 1) : ∃ μ', Mc_start 300 b k μ = some (0, μ') ∧ MB n 0 μ' ∧ (μ' 300 1 = 1 ∧ μ' 300 12 = μ 300 12 ∧ μ' 300 13 = μ 300 13) ∧ NM μ μ' := by
  obtain ⟨⟨n60, c0, c4⟩, -, hG⟩ := hG
  obtain ⟨⟨q1, q2⟩, q3⟩ := hG k k0 k1
  have hr := bOk_r hb
  unfold Mc_start Mc_stand
  rw [q_gd_s rfl, q_gd_s rfl, q_pf_d, q_pf_d, q_pf_d, q_pf_d, q_pf_d, q_pf_d, q_pf_d, q_bd_s, q_pf_d]
  generalize hμ1 : m_st (m_st (m_st (m_st (m_st (m_st (m_st (m_st μ 300 5 0) 300 6 0) 300 7 0) 300 8 0) 300 9 0) 300 10 0) 300 11 0) 300 6 1 = μ1
  have z : ∀ c i, ¬ (c = 300 ∧ (i = 5 ∨ i = 6 ∨ i = 7 ∨ i = 8 ∨ i = 9 ∨ i = 10 ∨ i = 11)) → μ1 c i = μ c i := fun c i h => by
    rw [← hμ1, mo (fun y => h ⟨y.1, by omega⟩), mo (fun y => h ⟨y.1, by omega⟩), mo (fun y => h ⟨y.1, by omega⟩), mo (fun y => h ⟨y.1, by omega⟩), mo (fun y => h ⟨y.1, by omega⟩), mo (fun y => h ⟨y.1, by omega⟩), mo (fun y => h ⟨y.1, by omega⟩), mo (fun y => h ⟨y.1, by omega⟩)]
  have z5 : μ1 300 5 = 0 := by rw [← hμ1, mo (by decide), mo (by decide), mo (by decide), mo (by decide), mo (by decide), mo (by decide), mo (by decide), m_st_eq]
  have z6 : μ1 300 6 = 1 := by rw [← hμ1, m_st_eq]
  have z9 : μ1 300 9 = 0 := by rw [← hμ1, mo (by decide), mo (by decide), mo (by decide), m_st_eq]
  have z11 : μ1 300 11 = 0 := by rw [← hμ1, mo (by decide), m_st_eq]
  obtain ⟨μ2, e2, d2, n2, f2⟩ := enter_t hb ⟨k0, by omega⟩ (μ := μ1) (by omega)
  rw [e2, q_bd_s]
  rw [z5] at d2 n2 f2
  rw [z (b + 15) k (by omega), z (b + 17) k (by omega), w32_id (by unfold r32; omega)] at n2
  have z1 := z 300 1 (by decide)
  obtain ⟨μ3, e3, ly3, s3, f3⟩ := look_t (μ := μ2) (by omega) ((f2 300 1 (by decide) (by decide) (by decide)).trans (z1.trans hB))
  rw [e3, q_bd_s]
  have h5 : μ3 300 5 = μ2 300 5 := f3 300 5 (by decide)
  have h9 : μ3 300 9 = 0 := (f3 300 9 (by decide)).trans ((f2 300 9 (by decide) (by decide) (by decide)).trans z9)
  have h11 : μ3 300 11 = 0 := (f3 300 11 (by decide)).trans ((f2 300 11 (by decide) (by decide) (by decide)).trans z11)
  have h2 : μ3 302 = μ2 302 := funext fun i => f3 302 i (by omega)
  refine ⟨μ3, rfl, ⟨by omega, fun _ => by omega, fun i i0 i1 => ?_, ?_, by omega, by rw [h11]; unfold r32; omega⟩, ⟨?_, ?_, ?_⟩, fun c i c1 c2 => ?_⟩
  · have : i = 0 := by omega
    subst this
    rw [f3 301 0 (by decide), n2]
    omega
  · rw [h2, h5]; exact ly3
  · rw [f3 300 1 (by decide), f2 300 1 (by decide) (by decide) (by decide), z1, hB]
  · rw [f3 300 12 (by decide), f2 300 12 (by decide) (by decide) (by decide), z 300 12 (by decide)]
  · rw [f3 300 13 (by decide), f2 300 13 (by decide) (by decide) (by decide), z 300 13 (by decide)]
  · rw [f3 c i (by omega), f2 c i (by omega) (by omega) (by omega), z c i (by omega)]
/-- begin -/
theorem begin_t {n cnt k v2 v3 v4 v5 : Int} {μ : am_M} (hb : bOk (μ 0 8)) (hG : TG n cnt (μ 0 8) μ) (k0 : 0 ≤ k) (k1 : k < cnt) (hB : μ 300 1 = 1) (hs : μ (μ 0 8 + 22) k ≠ 0) : ∃ μ', X_begin k v2 v3 v4 v5 μ = some (1, μ') ∧ MB n 0 μ' ∧ (μ' 300 1 = 1 ∧ μ' 300 12 = μ 300 12 ∧ μ' 300 13 = μ 300 13) ∧ NM μ μ' := by
  have hr := bOk_r hb
  obtain ⟨μ1, e1, f1⟩ := take_t v2 v3 v4 v5 μ
  have f8 : μ1 0 8 = μ 0 8 := f1 0 8 (by decide)
  have hG1 : TG n cnt (μ1 0 8) μ1 := by
    rw [f8]
    refine ⟨hG.1, by rw [f1 _ _ (by omega)]; exact hG.2.1, fun k a b => ?_⟩
    rw [f1 _ _ (by omega), f1 _ _ (by omega)]
    exact hG.2.2 k a b
  obtain ⟨μ2, e2, m2, ⟨b2, t2, p2⟩, nm2⟩ := start_t (by rw [f8]; exact hb) hG1 k0 k1 ((f1 300 1 (by decide)).trans hB)
  refine ⟨μ2, ?_, m2, ⟨b2, t2.trans (f1 300 12 (by decide)), p2.trans (f1 300 13 (by decide))⟩, fun c i c1 c2 => (nm2 c i c1 c2).trans (f1 c i (by omega))⟩
  unfold X_begin Bi_has
  rw [q_gd_s (bO0 hb), if_neg (by omega), q_gd_s (bO0 hb), hG.2.1, if_pos k1, q_bd_s, if_neg (by decide), q_gd_s (bO0 hb), x4 hb ⟨rfl, rfl⟩ ⟨rfl, rfl⟩ k0 (by have := hG.1.2.2; omega), q_bd_s, if_neg hs, e1, q_bd_s, e2, q_bd_s]
theorem begin_n {n cnt k v2 v3 v4 v5 : Int} {μ : am_M} (hb : bOk (μ 0 8)) (hG : TG n cnt (μ 0 8) μ) (k0 : 0 ≤ k) (k1 : k < cnt) (hs : μ (μ 0 8 + 22) k = 0) : X_begin k v2 v3 v4 v5 μ = some (0, μ) := by
  unfold X_begin Bi_has
  rw [q_gd_s (bO0 hb), if_neg (by omega), q_gd_s (bO0 hb), hG.2.1, if_pos k1, q_bd_s, if_neg (by decide), q_gd_s (bO0 hb), x4 hb ⟨rfl, rfl⟩ ⟨rfl, rfl⟩ k0 (by have := hG.1.2.2; omega), q_bd_s, if_pos hs]
theorem begin_o {n cnt k v2 v3 v4 v5 : Int} {μ : am_M} (hb : bOk (μ 0 8)) (hG : TG n cnt (μ 0 8) μ) (k0 : 0 ≤ k) (k1 : cnt ≤ k) : X_begin k v2 v3 v4 v5 μ = some (0, μ) := by
  unfold X_begin Bi_has
  rw [q_gd_s (bO0 hb), if_neg (by omega), q_gd_s (bO0 hb), hG.2.1, if_neg (by omega), q_bd_s, if_pos rfl]
