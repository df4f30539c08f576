/-! The promise of cheapest, whole. -/
theorem c64_L {b F t N p q : Int} {μ0 : am_M} (hb : bOk b) (ht : 0 ≤ t ∧ t ≤ 4) : ∀ (n fu : Nat) (k : Int) (μ : am_M), k + n = t → 0 ≤ k → n < fu → OS b F t N μ0 μ → ∃ μ', Or_leastCoin_L2 fu p q k μ = Or_leastCoin_L27 am_FU p q 0 μ' ∧ (∀ i, k ≤ i → i < t → μ' 64 i = p) ∧ (∀ c i, ¬ (c = 64 ∧ k ≤ i) → μ' c i = μ c i)
  | n, 0, _, _, _, _, h, _ => by omega
  | 0, fu + 1, k, μ, hk, h0, _, ho => by
    refine ⟨μ, ?_, fun i p q => by omega, fun _ _ _ => rfl⟩
    show Or_leastCoin_L2_b (Or_leastCoin_L2 fu) p q k μ = _
    unfold Or_leastCoin_L2_b
    rw [ho.o7, if_neg (by omega)]
  | n + 1, fu + 1, k, μ, hk, h0, hf, ho => by
    obtain ⟨μ', a1, a2, a3⟩ := c64_L hb ht n fu (k + 1) (m_st μ 64 k p) (by omega) (by omega) (by omega) (ho.cong hb (fun c i p => m_st_c (by omega)))
    refine ⟨μ', ?_, fun i p q => ?_, fun c i z => by rw [a3 c i (by omega), m_st_d, if_neg (by omega)]⟩
    · rw [← a1]
      show Or_leastCoin_L2_b (Or_leastCoin_L2 fu) p q k μ = _
      unfold Or_leastCoin_L2_b
      rw [ho.o7, if_pos (by omega), X_put_64, if_pos (by omega), q_bd_s, w32_i (x := k + 1) (by omega) (by omega)]
    · by_cases y : i = k
      · rw [y, a3 _ _ (by omega), m_st_d, if_pos ⟨rfl, rfl⟩]
      · exact a2 i (by omega) q
theorem r61_L {F v p q x : Int} {ν0 : am_M} (hv : 0 ≤ v ∧ v < 4) (v17 : ν0 1017 v = F) : ∀ (n fu : Nat) (k : Int) (ν : am_M), k + n = 10 → 0 ≤ k → n < fu → CFR ν0 ν → ∃ ν', M_cheapest_L51 fu v p q x k ν = M_cheapest_L81 am_FU v p q x F ν' ∧ (∀ i, k ≤ i → i < 10 → ν' 1061 i = p) ∧ (∀ c i, ¬ (c = 1061 ∧ k ≤ i) → ν' c i = ν c i)
  | n, 0, _, _, _, _, h, _ => by omega
  | 0, fu + 1, k, ν, hk, h0, _, hf => by
    refine ⟨ν, ?_, fun i p q => by omega, fun _ _ _ => rfl⟩
    show M_cheapest_L51_b (M_cheapest_L51 fu) v p q x k ν = _
    unfold M_cheapest_L51_b
    rw [if_neg (by omega), q_ld_s hv.1 (by omega), hf 1017 v (by decide), v17]
  | n + 1, fu + 1, k, ν, hk, h0, hfu, hf => by
    obtain ⟨ν', a1, a2, a3⟩ := r61_L (p := p) (q := q) (x := x) hv v17 n fu (k + 1) (m_st ν 1061 k p) (by omega) (by omega) (by omega) (fun c i p => by rw [m_st_c (by omega)]; exact hf c i p)
    refine ⟨ν', ?_, fun i p q => ?_, fun c i z => by rw [a3 c i (by omega), m_st_d, if_neg (by omega)]⟩
    · rw [← a1]
      show M_cheapest_L51_b (M_cheapest_L51 fu) v p q x k ν = _
      unfold M_cheapest_L51_b
      rw [if_pos (by omega), q_st_s h0 (by omega), w32_i (x := k + 1) (by omega) (by omega)]
    · by_cases y : i = k
      · rw [y, a3 _ _ (by omega), m_st_d, if_pos ⟨rfl, rfl⟩]
      · exact a2 i (by omega) q
theorem chp_t {b F E t N v p q x : Int} {μ ν : am_M} (h : PL b F E t N μ ν) (hv : 0 ≤ v ∧ v < 4) (v18 : ν 1017 v + ν 1018 v = E) : ∀ (n fu : Nat) (l : Int), l + n = F + t → F ≤ l → M_cheapest_L81 (fu + n) v p q x l ν = M_cheapest_L81 fu v p q x (F + t) ν
  | 0, fu, l, hl, _ => by
    have e : l = F + t := by omega
    rw [e]
    rfl
  | n + 1, fu, l, hl, h0 => by
    have F0 := h.F0
    have t0 := h.t0
    have N0 := h.N0
    have NE := h.NE
    have k0 := h.k0 (l - F) (by omega) (by omega)
    have e : F + (l - F) = l := by omega
    rw [e] at k0
    rw [← chp_t h hv v18 n fu (l + 1) (by omega) (by omega)]
    show M_cheapest_L81_b (M_cheapest_L81 (fu + n)) v p q x l ν = _
    unfold M_cheapest_L81_b M_cheapest_B173
    rw [last_s hv v18 (by omega), q_bd_s, if_pos (by omega), q_ld_s (by omega) (by omega), k0, if_neg (by decide), w32_i (x := l + 1) (by omega) (by omega)]
theorem cheapest_p {b B W n v p q : Int} {Wn : Int → Int} {μ ν : am_M} (h8 : μ 0 8 = b) (h : TB b B W n Wn μ ν) (hc : OCH b B μ ν) : ∃ r μ' ν', X_cheapest v p q μ = some (r, μ') ∧ M_cheapest v p q ν = some (r, ν') ∧ OCH b B μ' ν' ∧ OFC μ μ' ∧ OFR ν ν' := by
  have hFU := am_FU_ge
  have hb' : b = 100 ∨ b = 200 := h.bo
  have hB := h.cB
  have h1 := h.z (i := 0) (v := 0)
  have e13 : (m_st ν 1000 0 0) 1013 1 = B := by rw [m_st_c (by decide)]; exact hB.2.1
  unfold X_cheapest M_cheapest
  rw [q_pf_d]
  generalize hν1 : m_st ν 1000 0 0 = ν1 at *
  have f1 : OFR ν ν1 := fun c i p q => by rw [← hν1, m_st_d, if_neg (by omega)]
  have hc1 : OCH b B μ ν1 := hc.cong (fun _ _ _ => rfl) f1.tg (fun _ _ _ => rfl)
  rw [within_g, q_bd_s]
  by_cases cp : 0 ≤ p ∧ p ≤ 99
  rotate_left
  · have hw : (if 0 ≤ p ∧ p ≤ 99 then (1 : Int) else 0) = 0 := if_neg cp
    rw [hw, if_pos (show (0 : Int) = 0 from rfl)]
    refine ⟨-1, μ, ν1, ?_, rfl, hc1, fun _ _ _ => rfl, f1⟩
    by_cases c0 : p < 0
    · rw [if_pos c0]
    · rw [if_neg c0, if_neg (by omega)]
  have hw : (if 0 ≤ p ∧ p ≤ 99 then (1 : Int) else 0) = 1 := if_pos cp
  rw [hw, if_neg (show ¬ (1 : Int) = 0 by decide), if_neg (show ¬ p < 0 by omega), if_pos cp.2, within_g, q_bd_s]
  by_cases cq : 0 ≤ q ∧ q ≤ 99
  rotate_left
  · have hw : (if 0 ≤ q ∧ q ≤ 99 then (1 : Int) else 0) = 0 := if_neg cq
    rw [hw, if_pos (show (0 : Int) = 0 from rfl)]
    refine ⟨-1, μ, ν1, ?_, rfl, hc1, fun _ _ _ => rfl, f1⟩
    by_cases c0 : q < 0
    · rw [if_pos c0]
    · rw [if_neg c0, if_neg (by omega)]
  have hw2 : (if 0 ≤ q ∧ q ≤ 99 then (1 : Int) else 0) = 1 := if_pos cq
  rw [hw2, if_neg (show ¬ (1 : Int) = 0 by decide), if_neg (show ¬ q < 0 by omega), if_pos cq.2, h8, isBill_p e13, q_bd_s]
  obtain ⟨e, μ2, a1, a2, a3, a4⟩ := prep_s (v := v) h1 hc1
  have tf : TF b μ μ2 := fun x p q => funext fun i => a2 x i (by omega)
  have fc : OFC μ μ2 := fun c i p => a2 c i (by omega)
  rw [a1, q_bd_s]
  rcases a4 with ⟨z, y⟩ | ⟨z, c, y, pl, v20, oc⟩
  · rw [if_pos z]
    refine ⟨-1, μ2, ν1, rfl, ?_, a3, fc, f1⟩
    rcases y with y | ⟨c, y⟩
    · rw [if_pos (if_neg y)]
    · have hz : (if 0 ≤ v ∧ v < B then (1 : Int) else 0) = 1 := if_pos c
      rw [hz, if_neg (show ¬ (1 : Int) = 0 by decide), y, q_bd_s, if_pos rfl]
  have hz : (if 0 ≤ v ∧ v < B then (1 : Int) else 0) = 1 := if_pos c
  have hv : 0 ≤ v ∧ v < 4 := by omega
  rw [if_neg (show ¬ e = 0 by omega), hz, if_neg (show ¬ (1 : Int) = 0 by decide), y, q_bd_s, if_neg (show ¬ (1 : Int) = 0 by decide)]
  have v20' : ν1 1020 v = ν1 1019 v + (ν1 1018 v - ν1 1019 v - 1) := by omega
  have v17 : ν1 1017 v = ν1 1017 v := rfl
  have v18 : ν1 1017 v + ν1 1018 v = ν1 1017 v + ν1 1018 v := rfl
  generalize hF : ν1 1017 v = F at pl oc v17
  generalize hE : F + ν1 1018 v = E at pl
  generalize ht : ν1 1019 v = t at pl oc v20'
  generalize hN : ν1 1018 v - t - 1 = N at pl oc v20'
  have v18' : ν1 1017 v + ν1 1018 v = E := by rw [hF]; exact hE
  have t0 := pl.t0
  have N0 := pl.N0
  have NE := pl.NE
  have F0 := pl.F0
  have pl2 : PL b F E t N μ2 ν1 := pl.cong tf (fun _ _ _ => rfl)
  have os : OS b F t N μ2 μ2 := (OS.mk (o7 := oc.o7) (o8 := oc.o8) (tf := fun _ _ _ => rfl))
  obtain ⟨μ3, b1, b2, b3⟩ := c64_L (p := p) (q := q) pl.bo t0 t.toNat am_FU 0 μ2 (by omega) (Int.le_refl _) (by omega) os
  obtain ⟨ν3, d1, d2, d3⟩ := r61_L (p := p) (q := q) (x := 0) hv hF 10 am_FU 0 ν1 (by omega) (Int.le_refl _) (by omega) (fun _ _ _ => rfl)
  have cf3 : CFR ν1 ν3 := fun c i p => d3 c i (by omega)
  have pl3 : PL b F E t N μ2 ν3 := cf3.pl pl2
  have v18'' : ν3 1017 v + ν3 1018 v = E := by rw [d3 1017 v (by omega), d3 1018 v (by omega)]; exact v18'
  obtain ⟨fu, efu⟩ : ∃ fu : Nat, am_FU = fu + t.toNat := ⟨am_FU - t.toNat, by omega⟩
  have t1 := chp_t (p := p) (q := q) (x := 0) pl3 hv v18'' t.toNat fu F (by omega) (by omega)
  rw [← efu] at t1
  have prc : PRC μ3 ν3 (t + 0) := ⟨fun i x y => by rw [b2 i x (by omega), d2 i x (by omega)], fun i x y => by rw [d2 i x y]; exact cp⟩
  obtain ⟨μ4, ν4, y4, g1, g2, g3, g4, g5, g6, g7⟩ := prices_L (p := p) (q := q) pl3 hv v18'' cp cq N.toNat am_FU fu 0 0 μ3 ν3 (by omega) (Int.le_refl _) (by omega) (by omega) (os.cong pl.bo (fun c i p => b3 c i (by omega))) (fun a s x y z w => by rw [b3 _ _ (by omega)]; exact oc.sd a s x y z w) (fun _ _ _ => rfl) prc (by rw [Int.zero_mul]) (by omega)
  rw [Int.add_zero] at g2
  have v20'' : ν4 1020 v = t + N := by rw [g7 1020 v (by decide), d3 1020 v (by omega)]; exact v20'
  have fm4 : ∀ c i, c ≠ 64 → μ4 c i = μ2 c i := fun c i p => by rw [g6 c i p, b3 c i (by omega)]
  obtain ⟨r, r1, r2⟩ := coins_L (g7.pl pl3) hv (by rw [g7 1017 v (by decide), d3 1017 v (by omega)]; exact hF) (by rw [g7 1017 v (by decide), g7 1018 v (by decide)]; exact v18'') v20'' (os.cong pl.bo (fun c i p => fm4 c i (by omega))) (fun a s x y z w => by rw [fm4 _ _ (by omega)]; exact oc.sd a s x y z w) g5 (t + N).toNat am_FU am_FU y4 0 (by omega) (Int.le_refl _) (by omega) (by omega) (by omega)
  have eC : Or_leastCoin p q μ2 = some (r, μ4) := by unfold Or_leastCoin; rw [b1, g1, r1]
  rw [eC, q_bd_s, d1, t1, g2, r2]
  refine ⟨r, μ4, ν4, rfl, rfl, a3.cong (fun x p q => funext fun i => fm4 x i (by omega)) (fun x p => funext fun i => by rw [g7 x i (by omega), d3 x i (by omega)]) (fun c i p => fm4 c i (by omega)), fun c i p => by rw [fm4 c i (by omega), fc c i p], fun c i p q => by rw [g7 c i (by omega), d3 c i (by omega), f1 c i p q]⟩
