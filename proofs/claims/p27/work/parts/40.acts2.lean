/-! The last acts, and all of them. Printed by program (wip/p27/ev10.py). -/
theorem p9_m {a i : Int} (h : (320 ≤ a ∧ a < 360) ∨ (a = 0 ∧ i = 10)) : e_pl e_p9 a i = false := by
  unfold e_pl
  by_cases q : 0 ≤ a ∧ 0 ≤ i ∧ i < 1024
  · rw [decide_eq_true q, Bool.true_and]
    unfold e_p9
    rw [eB_f (c := eB (Nat.ble 71684 _) _ _)]
    rotate_left
    · rw [← Bool.not_eq_true]
      intro z
      have := ble_and z
      omega
    rcases h with h | h
    · rw [eB_t (c := eB (Nat.ble 327680 _) _ _)]
      rw [eB_t (Nat.ble_eq_true_of_le (by omega))]
      exact Nat.ble_eq_true_of_le (by omega)
    · have e : a.toNat * 1024 + i.toNat = 10 := by omega
      rw [e]
      rfl
  · rw [decide_eq_false q, Bool.false_and]
theorem p9_70 {j : Int} (h : ¬ (0 ≤ j ∧ j < 4)) : e_pl e_p9 70 j = false := by
  unfold e_pl
  by_cases q : 0 ≤ (70 : Int) ∧ 0 ≤ j ∧ j < 1024
  · rw [decide_eq_true q, Bool.true_and]
    have e : (70 : Int).toNat * 1024 + j.toNat = 71680 + j.toNat := rfl
    unfold e_p9
    rw [e, eB_t (c := eB (Nat.ble 71684 _) _ _)]
    rw [eB_t (Nat.ble_eq_true_of_le (by omega))]
    exact Nat.ble_eq_true_of_le (by omega)
  · rw [decide_eq_false q, Bool.false_and]
theorem a9_t {w b : Nat} (hw : w < 3) (hb : b < 2) {k x c : Int} (hk : 0 ≤ k ∧ k < (wC w : Int)) (hx : 0 ≤ x ∧ x < 9) (hc : r32 c) {μ : am_M} (h1 : eKL 0 μ (tS w b)) (h2 : μ 300 12 = 99) (hs : μ ((bN b : Int) + 22) k = 1) : ∃ μ', a9 k x c μ = some (1, μ') ∧ eKL 0 μ' (tS w b) ∧ ∀ a i, e_pl e_p9 a i = false → μ' a i = μ a i := by
  obtain ⟨kn, rfl⟩ : ∃ n : Nat, k = (n : Int) := ⟨k.toNat, by omega⟩
  obtain ⟨xn, rfl⟩ : ∃ n : Nat, x = (n : Int) := ⟨x.toNat, by omega⟩
  have hk := hk.2
  have hx := hx.2
  match w, b, kn, xn, hw, hb, hk, hx, h1, hs with
  | 0, 0, 0, 0, _, _, _, _, h1, _ => exact ev_9_0_100_0_0 hc h1 h2
  | 0, 0, 0, 1, _, _, _, _, h1, _ => exact ev_9_0_100_0_1 hc h1 h2
  | 0, 0, 0, 2, _, _, _, _, h1, _ => exact ev_9_0_100_0_2 hc h1 h2
  | 0, 0, 0, 3, _, _, _, _, h1, _ => exact ev_9_0_100_0_3 hc h1 h2
  | 0, 0, 0, 4, _, _, _, _, h1, _ => exact ev_9_0_100_0_4 hc h1 h2
  | 0, 0, 0, 5, _, _, _, _, h1, _ => exact ev_9_0_100_0_5 hc h1 h2
  | 0, 0, 0, 6, _, _, _, _, h1, _ => exact ev_9_0_100_0_6 hc h1 h2
  | 0, 0, 0, 7, _, _, _, _, h1, _ => exact ev_9_0_100_0_7 hc h1 h2
  | 0, 0, 0, 8, _, _, _, _, h1, _ => exact ev_9_0_100_0_8 hc h1 h2
  | 0, 0, 0, x + 9, _, _, _, hx, _, _ => exact absurd hx (by omega)
  | 0, 0, 1, 0, _, _, _, _, h1, _ => exact ev_9_0_100_1_0 hc h1 h2
  | 0, 0, 1, 1, _, _, _, _, h1, _ => exact ev_9_0_100_1_1 hc h1 h2
  | 0, 0, 1, 2, _, _, _, _, h1, _ => exact ev_9_0_100_1_2 hc h1 h2
  | 0, 0, 1, 3, _, _, _, _, h1, _ => exact ev_9_0_100_1_3 hc h1 h2
  | 0, 0, 1, 4, _, _, _, _, h1, _ => exact ev_9_0_100_1_4 hc h1 h2
  | 0, 0, 1, 5, _, _, _, _, h1, _ => exact ev_9_0_100_1_5 hc h1 h2
  | 0, 0, 1, 6, _, _, _, _, h1, _ => exact ev_9_0_100_1_6 hc h1 h2
  | 0, 0, 1, 7, _, _, _, _, h1, _ => exact ev_9_0_100_1_7 hc h1 h2
  | 0, 0, 1, 8, _, _, _, _, h1, _ => exact ev_9_0_100_1_8 hc h1 h2
  | 0, 0, 1, x + 9, _, _, _, hx, _, _ => exact absurd hx (by omega)
  | 0, 0, 2, 0, _, _, _, _, h1, _ => exact ev_9_0_100_2_0 hc h1 h2
  | 0, 0, 2, 1, _, _, _, _, h1, _ => exact ev_9_0_100_2_1 hc h1 h2
  | 0, 0, 2, 2, _, _, _, _, h1, _ => exact ev_9_0_100_2_2 hc h1 h2
  | 0, 0, 2, 3, _, _, _, _, h1, _ => exact ev_9_0_100_2_3 hc h1 h2
  | 0, 0, 2, 4, _, _, _, _, h1, _ => exact ev_9_0_100_2_4 hc h1 h2
  | 0, 0, 2, 5, _, _, _, _, h1, _ => exact ev_9_0_100_2_5 hc h1 h2
  | 0, 0, 2, 6, _, _, _, _, h1, _ => exact ev_9_0_100_2_6 hc h1 h2
  | 0, 0, 2, 7, _, _, _, _, h1, _ => exact ev_9_0_100_2_7 hc h1 h2
  | 0, 0, 2, 8, _, _, _, _, h1, _ => exact ev_9_0_100_2_8 hc h1 h2
  | 0, 0, 2, x + 9, _, _, _, hx, _, _ => exact absurd hx (by omega)
  | 0, 0, k + 3, _, _, _, hk, _, _, _ => exact absurd (show ((k + 3 : Nat) : Int) < 3 from hk) (by omega)
  | 0, 1, 0, 0, _, _, _, _, h1, _ => exact ev_9_0_200_0_0 hc h1 h2
  | 0, 1, 0, 1, _, _, _, _, h1, _ => exact ev_9_0_200_0_1 hc h1 h2
  | 0, 1, 0, 2, _, _, _, _, h1, _ => exact ev_9_0_200_0_2 hc h1 h2
  | 0, 1, 0, 3, _, _, _, _, h1, _ => exact ev_9_0_200_0_3 hc h1 h2
  | 0, 1, 0, 4, _, _, _, _, h1, _ => exact ev_9_0_200_0_4 hc h1 h2
  | 0, 1, 0, 5, _, _, _, _, h1, _ => exact ev_9_0_200_0_5 hc h1 h2
  | 0, 1, 0, 6, _, _, _, _, h1, _ => exact ev_9_0_200_0_6 hc h1 h2
  | 0, 1, 0, 7, _, _, _, _, h1, _ => exact ev_9_0_200_0_7 hc h1 h2
  | 0, 1, 0, 8, _, _, _, _, h1, _ => exact ev_9_0_200_0_8 hc h1 h2
  | 0, 1, 0, x + 9, _, _, _, hx, _, _ => exact absurd hx (by omega)
  | 0, 1, 1, 0, _, _, _, _, h1, _ => exact ev_9_0_200_1_0 hc h1 h2
  | 0, 1, 1, 1, _, _, _, _, h1, _ => exact ev_9_0_200_1_1 hc h1 h2
  | 0, 1, 1, 2, _, _, _, _, h1, _ => exact ev_9_0_200_1_2 hc h1 h2
  | 0, 1, 1, 3, _, _, _, _, h1, _ => exact ev_9_0_200_1_3 hc h1 h2
  | 0, 1, 1, 4, _, _, _, _, h1, _ => exact ev_9_0_200_1_4 hc h1 h2
  | 0, 1, 1, 5, _, _, _, _, h1, _ => exact ev_9_0_200_1_5 hc h1 h2
  | 0, 1, 1, 6, _, _, _, _, h1, _ => exact ev_9_0_200_1_6 hc h1 h2
  | 0, 1, 1, 7, _, _, _, _, h1, _ => exact ev_9_0_200_1_7 hc h1 h2
  | 0, 1, 1, 8, _, _, _, _, h1, _ => exact ev_9_0_200_1_8 hc h1 h2
  | 0, 1, 1, x + 9, _, _, _, hx, _, _ => exact absurd hx (by omega)
  | 0, 1, 2, 0, _, _, _, _, h1, _ => exact ev_9_0_200_2_0 hc h1 h2
  | 0, 1, 2, 1, _, _, _, _, h1, _ => exact ev_9_0_200_2_1 hc h1 h2
  | 0, 1, 2, 2, _, _, _, _, h1, _ => exact ev_9_0_200_2_2 hc h1 h2
  | 0, 1, 2, 3, _, _, _, _, h1, _ => exact ev_9_0_200_2_3 hc h1 h2
  | 0, 1, 2, 4, _, _, _, _, h1, _ => exact ev_9_0_200_2_4 hc h1 h2
  | 0, 1, 2, 5, _, _, _, _, h1, _ => exact ev_9_0_200_2_5 hc h1 h2
  | 0, 1, 2, 6, _, _, _, _, h1, _ => exact ev_9_0_200_2_6 hc h1 h2
  | 0, 1, 2, 7, _, _, _, _, h1, _ => exact ev_9_0_200_2_7 hc h1 h2
  | 0, 1, 2, 8, _, _, _, _, h1, _ => exact ev_9_0_200_2_8 hc h1 h2
  | 0, 1, 2, x + 9, _, _, _, hx, _, _ => exact absurd hx (by omega)
  | 0, 1, k + 3, _, _, _, hk, _, _, _ => exact absurd (show ((k + 3 : Nat) : Int) < 3 from hk) (by omega)
  | 2, 0, 0, 0, _, _, _, _, h1, _ => exact ev_9_2_100_0_0 hc h1 h2
  | 2, 0, 0, 1, _, _, _, _, h1, _ => exact ev_9_2_100_0_1 hc h1 h2
  | 2, 0, 0, 2, _, _, _, _, h1, _ => exact ev_9_2_100_0_2 hc h1 h2
  | 2, 0, 0, 3, _, _, _, _, h1, _ => exact ev_9_2_100_0_3 hc h1 h2
  | 2, 0, 0, 4, _, _, _, _, h1, _ => exact ev_9_2_100_0_4 hc h1 h2
  | 2, 0, 0, 5, _, _, _, _, h1, _ => exact ev_9_2_100_0_5 hc h1 h2
  | 2, 0, 0, 6, _, _, _, _, h1, _ => exact ev_9_2_100_0_6 hc h1 h2
  | 2, 0, 0, 7, _, _, _, _, h1, _ => exact ev_9_2_100_0_7 hc h1 h2
  | 2, 0, 0, 8, _, _, _, _, h1, _ => exact ev_9_2_100_0_8 hc h1 h2
  | 2, 0, 0, x + 9, _, _, _, hx, _, _ => exact absurd hx (by omega)
  | 2, 0, k + 1, _, _, _, hk, _, _, _ => exact absurd (show ((k + 1 : Nat) : Int) < 1 from hk) (by omega)
  | 2, 1, 0, 0, _, _, _, _, h1, _ => exact ev_9_2_200_0_0 hc h1 h2
  | 2, 1, 0, 1, _, _, _, _, h1, _ => exact ev_9_2_200_0_1 hc h1 h2
  | 2, 1, 0, 2, _, _, _, _, h1, _ => exact ev_9_2_200_0_2 hc h1 h2
  | 2, 1, 0, 3, _, _, _, _, h1, _ => exact ev_9_2_200_0_3 hc h1 h2
  | 2, 1, 0, 4, _, _, _, _, h1, _ => exact ev_9_2_200_0_4 hc h1 h2
  | 2, 1, 0, 5, _, _, _, _, h1, _ => exact ev_9_2_200_0_5 hc h1 h2
  | 2, 1, 0, 6, _, _, _, _, h1, _ => exact ev_9_2_200_0_6 hc h1 h2
  | 2, 1, 0, 7, _, _, _, _, h1, _ => exact ev_9_2_200_0_7 hc h1 h2
  | 2, 1, 0, 8, _, _, _, _, h1, _ => exact ev_9_2_200_0_8 hc h1 h2
  | 2, 1, 0, x + 9, _, _, _, hx, _, _ => exact absurd hx (by omega)
  | 2, 1, k + 1, _, _, _, hk, _, _, _ => exact absurd (show ((k + 1 : Nat) : Int) < 1 from hk) (by omega)
  | 1, 0, 0, _, _, _, _, _, h1, hs => exact absurd ((e_v_s (a := 122) (i := 0) (x := (((100 : Nat) : Int) + 22)) (y := ((0 : Nat) : Int)) h1 (by decide +kernel) (by decide) (by decide) rfl).symm.trans hs) (by decide +kernel)
  | 1, 0, 1, _, _, _, _, _, h1, hs => exact absurd ((e_v_s (a := 122) (i := 1) (x := (((100 : Nat) : Int) + 22)) (y := ((1 : Nat) : Int)) h1 (by decide +kernel) (by decide) (by decide) rfl).symm.trans hs) (by decide +kernel)
  | 1, 0, 2, _, _, _, _, _, h1, hs => exact absurd ((e_v_s (a := 122) (i := 2) (x := (((100 : Nat) : Int) + 22)) (y := ((2 : Nat) : Int)) h1 (by decide +kernel) (by decide) (by decide) rfl).symm.trans hs) (by decide +kernel)
  | 1, 0, k + 3, _, _, _, hk, _, _, _ => exact absurd (show ((k + 3 : Nat) : Int) < 3 from hk) (by omega)
  | 1, 1, 0, _, _, _, _, _, h1, hs => exact absurd ((e_v_s (a := 222) (i := 0) (x := (((200 : Nat) : Int) + 22)) (y := ((0 : Nat) : Int)) h1 (by decide +kernel) (by decide) (by decide) rfl).symm.trans hs) (by decide +kernel)
  | 1, 1, 1, _, _, _, _, _, h1, hs => exact absurd ((e_v_s (a := 222) (i := 1) (x := (((200 : Nat) : Int) + 22)) (y := ((1 : Nat) : Int)) h1 (by decide +kernel) (by decide) (by decide) rfl).symm.trans hs) (by decide +kernel)
  | 1, 1, 2, _, _, _, _, _, h1, hs => exact absurd ((e_v_s (a := 222) (i := 2) (x := (((200 : Nat) : Int) + 22)) (y := ((2 : Nat) : Int)) h1 (by decide +kernel) (by decide) (by decide) rfl).symm.trans hs) (by decide +kernel)
  | 1, 1, k + 3, _, _, _, hk, _, _, _ => exact absurd (show ((k + 3 : Nat) : Int) < 3 from hk) (by omega)
  | w + 3, _, _, _, hw, _, _, _, _, _ => omega
  | _, b + 2, _, _, _, hb, _, _, _, _ => omega
theorem ac_end {w b f r : Nat} {A v3 v4 k : Int} {μ : am_M} (h : IV w b f r A μ) (h3 : 0 ≤ v3 ∧ v3 < 64) (h4 : r32 v4) (k0 : 0 ≤ k) (k1 : k < (wC w : Int)) : ∃ μ', L_act_B313 v3 v4 k μ = some (1, μ') ∧ INV A μ' := by
  have hO := h.o
  have hO2 := hO
  obtain ⟨h1, h2, hT, hG, hS, -, hB, -, h7⟩ := hO2
  unfold L_act_B313
  rw [bill5 hO k0 k1, q_bd_s]
  rcases hS k k0 k1 with q | q
  · rw [if_pos q]
    unfold L_act_B358
    rw [bill5 hO k0 k1, q_bd_s, if_pos q]
    exact ⟨μ, rfl, h.I⟩
  · obtain ⟨μ1, e1, s1, L1, b1, f1⟩ := mk_lay (m := 3) (by decide) (h7 3 (by decide) (by decide)) h.2.2.2.2.2.1
    have i1 := lay_I h L1 f1
    have i2 : IV w b f r A (m_st μ1 300 12 99) := st_12 i1 (Or.inl rfl)
    have e2 : X_room 99 μ1 = some (1, m_st μ1 300 12 99) := by
      unfold X_room
      rw [if_neg (by decide), if_pos (by decide), q_pf_d]
    have hx : aRem v3 9 = v3 % 9 := by
      have := rem_s (m := v3.toNat) (n := 9) (by omega) (by decide)
      have e : ((v3.toNat : Nat) : Int) = v3 := by omega
      rw [e] at this
      refine this.trans ?_
      omega
    have hs2 : m_st μ1 300 12 99 ((bN b : Int) + 22) k = 1 := by
      have := bOk_r h1
      rw [mo (by omega), f1 _ _ (by omega) (by omega)]
      exact q
    obtain ⟨μ8, e8, t8, f8⟩ := a9_t h.1.1 h.1.2.1 (k := k) (x := aRem v3 9) (c := v4) ⟨k0, k1⟩ (by rw [hx]; omega) h4 i2.2.1 m_st_eq hs2
    have tF := eKL_fr i2.2.2.1 (gm_F h.1.1 h.1.2.2.1).2.1 f8
    have tR := eKL_fr i2.2.2.2.1 (gm_R h.1.1 h.1.2.2.2).2 f8
    have L8 : μ8 0 10 = μ1 0 10 := (f8 0 10 (p9_m (Or.inr ⟨rfl, rfl⟩))).trans (mo (by decide))
    have s8 : SV (320 + 10 * 3) μ μ8 := s1.f (fun a i p1 p2 => (f8 a i (p9_m (Or.inl (by omega)))).trans (mo (by omega)))
    have o8 := to_s h.1.1 h.1.2.1 t8
    obtain ⟨μ9, e9, s9, f9, g9⟩ := mk_back (m := 3) (by decide) (o8.2.2.2.2.2.2.2.2 3 (by decide) (by decide)) (by rw [L8]; exact b1) s8
    have g : GM μ8 μ9 := ⟨fun a i p1 p2 p3 => f9 a i (by omega), g9, f9 310 1 (by decide)⟩
    have i9 : IV w b f r A μ9 := ⟨h.1, g.k (gm_S h.1.1 h.1.2.1) t8, g.k (gm_F h.1.1 h.1.2.2.1).1 tF, g.k (gm_R h.1.1 h.1.2.2.2).1 tR, h.2.2.2.2.1.sv s9, by rw [f9 0 10 (by decide), L8]; exact L1, fun j hj => by rw [f9 70 j (by decide), f8 70 j (p9_70 hj)]; exact i2.2.2.2.2.2.2 j hj⟩
    rw [if_neg (by rw [q]; decide), e1, q_bd_s, if_neg (by decide), e2, q_bd_s, if_neg (by decide), a9_i e8 (L_act_B358 k)]
    unfold L_act_B443
    rw [e9, q_bd_s, q_rb_s (Or.inr rfl)]
    exact ⟨μ9, rfl, i9.I⟩
theorem ac_ord {w b f r : Nat} {A k : Int} {μ : am_M} (h : IV w b f r A μ) (k0 : 0 ≤ k) (k1 : k < (wC w : Int)) : ∃ μ', L_act_B602 k μ = some (1, μ') ∧ INV A μ' := by
  obtain ⟨kn, rfl⟩ : ∃ n : Nat, k = (n : Int) := ⟨k.toNat, by omega⟩
  obtain ⟨⟨hw, hb, hf, hr⟩, h1, h2, h3, hM, hL, hJ⟩ := h
  have hF := gm_F hw hf
  match w, b, r, kn, hw, hb, hr, k1, h1, h2, h3, hM, hF with
  | 0, 0, 0, 0, _, _, _, _, h1, h2, h3, hM, hF =>
    obtain ⟨μ', e, a, c, F, p⟩ := ev_o_0_100_m1_0 h1 h3
    exact ⟨μ', e, 0, 0, f, 0, by decide, by decide, hf, by decide, a, eKL_fr h2 hF.2.2 p, c, F.MB hM, by rw [F.2.1]; exact hL, F.2.2 hJ⟩
  | 0, 0, 0, 1, _, _, _, _, h1, h2, h3, hM, hF =>
    obtain ⟨μ', e, a, c, F, p⟩ := ev_o_0_100_m1_1 h1 h3
    exact ⟨μ', e, 0, 0, f, 0, by decide, by decide, hf, by decide, a, eKL_fr h2 hF.2.2 p, c, F.MB hM, by rw [F.2.1]; exact hL, F.2.2 hJ⟩
  | 0, 0, 0, 2, _, _, _, _, h1, h2, h3, hM, hF =>
    obtain ⟨μ', e, a, c, F, p⟩ := ev_o_0_100_m1_2 h1 h3
    exact ⟨μ', e, 0, 0, f, 0, by decide, by decide, hf, by decide, a, eKL_fr h2 hF.2.2 p, c, F.MB hM, by rw [F.2.1]; exact hL, F.2.2 hJ⟩
  | 1, 0, 0, 0, _, _, _, _, h1, h2, h3, hM, hF =>
    obtain ⟨μ', e, a, c, F, p⟩ := ev_o_1_100_m1_0 h1 h3
    exact ⟨μ', e, 1, 0, f, 1, by decide, by decide, hf, by decide, a, eKL_fr h2 hF.2.2 p, c, F.MB hM, by rw [F.2.1]; exact hL, F.2.2 hJ⟩
  | 1, 0, 0, 1, _, _, _, _, h1, h2, h3, hM, hF =>
    obtain ⟨μ', e, a, c, F, p⟩ := ev_o_1_100_m1_1 h1 h3
    exact ⟨μ', e, 1, 0, f, 2, by decide, by decide, hf, by decide, a, eKL_fr h2 hF.2.2 p, c, F.MB hM, by rw [F.2.1]; exact hL, F.2.2 hJ⟩
  | 1, 0, 0, 2, _, _, _, _, h1, h2, h3, hM, hF =>
    obtain ⟨μ', e, a, c, F, p⟩ := ev_o_1_100_m1_2 h1 h3
    exact ⟨μ', e, 1, 0, f, 3, by decide, by decide, hf, by decide, a, eKL_fr h2 hF.2.2 p, c, F.MB hM, by rw [F.2.1]; exact hL, F.2.2 hJ⟩
  | 1, 0, 1, 0, _, _, _, _, h1, h2, h3, hM, hF =>
    obtain ⟨μ', e, a, c, F, p⟩ := ev_o_1_100_0_0 h1 h3
    exact ⟨μ', e, 1, 0, f, 1, by decide, by decide, hf, by decide, a, eKL_fr h2 hF.2.2 p, c, F.MB hM, by rw [F.2.1]; exact hL, F.2.2 hJ⟩
  | 1, 0, 1, 1, _, _, _, _, h1, h2, h3, hM, hF =>
    obtain ⟨μ', e, a, c, F, p⟩ := ev_o_1_100_0_1 h1 h3
    exact ⟨μ', e, 1, 0, f, 2, by decide, by decide, hf, by decide, a, eKL_fr h2 hF.2.2 p, c, F.MB hM, by rw [F.2.1]; exact hL, F.2.2 hJ⟩
  | 1, 0, 1, 2, _, _, _, _, h1, h2, h3, hM, hF =>
    obtain ⟨μ', e, a, c, F, p⟩ := ev_o_1_100_0_2 h1 h3
    exact ⟨μ', e, 1, 0, f, 3, by decide, by decide, hf, by decide, a, eKL_fr h2 hF.2.2 p, c, F.MB hM, by rw [F.2.1]; exact hL, F.2.2 hJ⟩
  | 1, 0, 2, 0, _, _, _, _, h1, h2, h3, hM, hF =>
    obtain ⟨μ', e, a, c, F, p⟩ := ev_o_1_100_1_0 h1 h3
    exact ⟨μ', e, 1, 0, f, 1, by decide, by decide, hf, by decide, a, eKL_fr h2 hF.2.2 p, c, F.MB hM, by rw [F.2.1]; exact hL, F.2.2 hJ⟩
  | 1, 0, 2, 1, _, _, _, _, h1, h2, h3, hM, hF =>
    obtain ⟨μ', e, a, c, F, p⟩ := ev_o_1_100_1_1 h1 h3
    exact ⟨μ', e, 1, 0, f, 2, by decide, by decide, hf, by decide, a, eKL_fr h2 hF.2.2 p, c, F.MB hM, by rw [F.2.1]; exact hL, F.2.2 hJ⟩
  | 1, 0, 2, 2, _, _, _, _, h1, h2, h3, hM, hF =>
    obtain ⟨μ', e, a, c, F, p⟩ := ev_o_1_100_1_2 h1 h3
    exact ⟨μ', e, 1, 0, f, 3, by decide, by decide, hf, by decide, a, eKL_fr h2 hF.2.2 p, c, F.MB hM, by rw [F.2.1]; exact hL, F.2.2 hJ⟩
  | 1, 0, 3, 0, _, _, _, _, h1, h2, h3, hM, hF =>
    obtain ⟨μ', e, a, c, F, p⟩ := ev_o_1_100_2_0 h1 h3
    exact ⟨μ', e, 1, 0, f, 1, by decide, by decide, hf, by decide, a, eKL_fr h2 hF.2.2 p, c, F.MB hM, by rw [F.2.1]; exact hL, F.2.2 hJ⟩
  | 1, 0, 3, 1, _, _, _, _, h1, h2, h3, hM, hF =>
    obtain ⟨μ', e, a, c, F, p⟩ := ev_o_1_100_2_1 h1 h3
    exact ⟨μ', e, 1, 0, f, 2, by decide, by decide, hf, by decide, a, eKL_fr h2 hF.2.2 p, c, F.MB hM, by rw [F.2.1]; exact hL, F.2.2 hJ⟩
  | 1, 0, 3, 2, _, _, _, _, h1, h2, h3, hM, hF =>
    obtain ⟨μ', e, a, c, F, p⟩ := ev_o_1_100_2_2 h1 h3
    exact ⟨μ', e, 1, 0, f, 3, by decide, by decide, hf, by decide, a, eKL_fr h2 hF.2.2 p, c, F.MB hM, by rw [F.2.1]; exact hL, F.2.2 hJ⟩
  | 2, 0, 0, 0, _, _, _, _, h1, h2, h3, hM, hF =>
    obtain ⟨μ', e, a, c, F, p⟩ := ev_o_2_100_m1_0 h1 h3
    exact ⟨μ', e, 2, 0, f, 1, by decide, by decide, hf, by decide, a, eKL_fr h2 hF.2.2 p, c, F.MB hM, by rw [F.2.1]; exact hL, F.2.2 hJ⟩
  | 2, 0, 1, 0, _, _, _, _, h1, h2, h3, hM, hF =>
    obtain ⟨μ', e, a, c, F, p⟩ := ev_o_2_100_0_0 h1 h3
    exact ⟨μ', e, 2, 0, f, 1, by decide, by decide, hf, by decide, a, eKL_fr h2 hF.2.2 p, c, F.MB hM, by rw [F.2.1]; exact hL, F.2.2 hJ⟩
  | 0, 1, 0, 0, _, _, _, _, h1, h2, h3, hM, hF =>
    obtain ⟨μ', e, a, c, F, p⟩ := ev_o_0_200_m1_0 h1 h3
    exact ⟨μ', e, 0, 1, f, 0, by decide, by decide, hf, by decide, a, eKL_fr h2 hF.2.2 p, c, F.MB hM, by rw [F.2.1]; exact hL, F.2.2 hJ⟩
  | 0, 1, 0, 1, _, _, _, _, h1, h2, h3, hM, hF =>
    obtain ⟨μ', e, a, c, F, p⟩ := ev_o_0_200_m1_1 h1 h3
    exact ⟨μ', e, 0, 1, f, 0, by decide, by decide, hf, by decide, a, eKL_fr h2 hF.2.2 p, c, F.MB hM, by rw [F.2.1]; exact hL, F.2.2 hJ⟩
  | 0, 1, 0, 2, _, _, _, _, h1, h2, h3, hM, hF =>
    obtain ⟨μ', e, a, c, F, p⟩ := ev_o_0_200_m1_2 h1 h3
    exact ⟨μ', e, 0, 1, f, 0, by decide, by decide, hf, by decide, a, eKL_fr h2 hF.2.2 p, c, F.MB hM, by rw [F.2.1]; exact hL, F.2.2 hJ⟩
  | 1, 1, 0, 0, _, _, _, _, h1, h2, h3, hM, hF =>
    obtain ⟨μ', e, a, c, F, p⟩ := ev_o_1_200_m1_0 h1 h3
    exact ⟨μ', e, 1, 1, f, 1, by decide, by decide, hf, by decide, a, eKL_fr h2 hF.2.2 p, c, F.MB hM, by rw [F.2.1]; exact hL, F.2.2 hJ⟩
  | 1, 1, 0, 1, _, _, _, _, h1, h2, h3, hM, hF =>
    obtain ⟨μ', e, a, c, F, p⟩ := ev_o_1_200_m1_1 h1 h3
    exact ⟨μ', e, 1, 1, f, 2, by decide, by decide, hf, by decide, a, eKL_fr h2 hF.2.2 p, c, F.MB hM, by rw [F.2.1]; exact hL, F.2.2 hJ⟩
  | 1, 1, 0, 2, _, _, _, _, h1, h2, h3, hM, hF =>
    obtain ⟨μ', e, a, c, F, p⟩ := ev_o_1_200_m1_2 h1 h3
    exact ⟨μ', e, 1, 1, f, 3, by decide, by decide, hf, by decide, a, eKL_fr h2 hF.2.2 p, c, F.MB hM, by rw [F.2.1]; exact hL, F.2.2 hJ⟩
  | 1, 1, 1, 0, _, _, _, _, h1, h2, h3, hM, hF =>
    obtain ⟨μ', e, a, c, F, p⟩ := ev_o_1_200_0_0 h1 h3
    exact ⟨μ', e, 1, 1, f, 1, by decide, by decide, hf, by decide, a, eKL_fr h2 hF.2.2 p, c, F.MB hM, by rw [F.2.1]; exact hL, F.2.2 hJ⟩
  | 1, 1, 1, 1, _, _, _, _, h1, h2, h3, hM, hF =>
    obtain ⟨μ', e, a, c, F, p⟩ := ev_o_1_200_0_1 h1 h3
    exact ⟨μ', e, 1, 1, f, 2, by decide, by decide, hf, by decide, a, eKL_fr h2 hF.2.2 p, c, F.MB hM, by rw [F.2.1]; exact hL, F.2.2 hJ⟩
  | 1, 1, 1, 2, _, _, _, _, h1, h2, h3, hM, hF =>
    obtain ⟨μ', e, a, c, F, p⟩ := ev_o_1_200_0_2 h1 h3
    exact ⟨μ', e, 1, 1, f, 3, by decide, by decide, hf, by decide, a, eKL_fr h2 hF.2.2 p, c, F.MB hM, by rw [F.2.1]; exact hL, F.2.2 hJ⟩
  | 1, 1, 2, 0, _, _, _, _, h1, h2, h3, hM, hF =>
    obtain ⟨μ', e, a, c, F, p⟩ := ev_o_1_200_1_0 h1 h3
    exact ⟨μ', e, 1, 1, f, 1, by decide, by decide, hf, by decide, a, eKL_fr h2 hF.2.2 p, c, F.MB hM, by rw [F.2.1]; exact hL, F.2.2 hJ⟩
  | 1, 1, 2, 1, _, _, _, _, h1, h2, h3, hM, hF =>
    obtain ⟨μ', e, a, c, F, p⟩ := ev_o_1_200_1_1 h1 h3
    exact ⟨μ', e, 1, 1, f, 2, by decide, by decide, hf, by decide, a, eKL_fr h2 hF.2.2 p, c, F.MB hM, by rw [F.2.1]; exact hL, F.2.2 hJ⟩
  | 1, 1, 2, 2, _, _, _, _, h1, h2, h3, hM, hF =>
    obtain ⟨μ', e, a, c, F, p⟩ := ev_o_1_200_1_2 h1 h3
    exact ⟨μ', e, 1, 1, f, 3, by decide, by decide, hf, by decide, a, eKL_fr h2 hF.2.2 p, c, F.MB hM, by rw [F.2.1]; exact hL, F.2.2 hJ⟩
  | 1, 1, 3, 0, _, _, _, _, h1, h2, h3, hM, hF =>
    obtain ⟨μ', e, a, c, F, p⟩ := ev_o_1_200_2_0 h1 h3
    exact ⟨μ', e, 1, 1, f, 1, by decide, by decide, hf, by decide, a, eKL_fr h2 hF.2.2 p, c, F.MB hM, by rw [F.2.1]; exact hL, F.2.2 hJ⟩
  | 1, 1, 3, 1, _, _, _, _, h1, h2, h3, hM, hF =>
    obtain ⟨μ', e, a, c, F, p⟩ := ev_o_1_200_2_1 h1 h3
    exact ⟨μ', e, 1, 1, f, 2, by decide, by decide, hf, by decide, a, eKL_fr h2 hF.2.2 p, c, F.MB hM, by rw [F.2.1]; exact hL, F.2.2 hJ⟩
  | 1, 1, 3, 2, _, _, _, _, h1, h2, h3, hM, hF =>
    obtain ⟨μ', e, a, c, F, p⟩ := ev_o_1_200_2_2 h1 h3
    exact ⟨μ', e, 1, 1, f, 3, by decide, by decide, hf, by decide, a, eKL_fr h2 hF.2.2 p, c, F.MB hM, by rw [F.2.1]; exact hL, F.2.2 hJ⟩
  | 2, 1, 0, 0, _, _, _, _, h1, h2, h3, hM, hF =>
    obtain ⟨μ', e, a, c, F, p⟩ := ev_o_2_200_m1_0 h1 h3
    exact ⟨μ', e, 2, 1, f, 1, by decide, by decide, hf, by decide, a, eKL_fr h2 hF.2.2 p, c, F.MB hM, by rw [F.2.1]; exact hL, F.2.2 hJ⟩
  | 2, 1, 1, 0, _, _, _, _, h1, h2, h3, hM, hF =>
    obtain ⟨μ', e, a, c, F, p⟩ := ev_o_2_200_0_0 h1 h3
    exact ⟨μ', e, 2, 1, f, 1, by decide, by decide, hf, by decide, a, eKL_fr h2 hF.2.2 p, c, F.MB hM, by rw [F.2.1]; exact hL, F.2.2 hJ⟩
  | 0, 0, 0, k + 3, _, _, _, hk, _, _, _, _, _ => exact absurd (show ((k + 3 : Nat) : Int) < 3 from hk) (by omega)
  | 0, 1, 0, k + 3, _, _, _, hk, _, _, _, _, _ => exact absurd (show ((k + 3 : Nat) : Int) < 3 from hk) (by omega)
  | 1, 0, 0, k + 3, _, _, _, hk, _, _, _, _, _ => exact absurd (show ((k + 3 : Nat) : Int) < 3 from hk) (by omega)
  | 1, 0, 1, k + 3, _, _, _, hk, _, _, _, _, _ => exact absurd (show ((k + 3 : Nat) : Int) < 3 from hk) (by omega)
  | 1, 0, 2, k + 3, _, _, _, hk, _, _, _, _, _ => exact absurd (show ((k + 3 : Nat) : Int) < 3 from hk) (by omega)
  | 1, 0, 3, k + 3, _, _, _, hk, _, _, _, _, _ => exact absurd (show ((k + 3 : Nat) : Int) < 3 from hk) (by omega)
  | 1, 1, 0, k + 3, _, _, _, hk, _, _, _, _, _ => exact absurd (show ((k + 3 : Nat) : Int) < 3 from hk) (by omega)
  | 1, 1, 1, k + 3, _, _, _, hk, _, _, _, _, _ => exact absurd (show ((k + 3 : Nat) : Int) < 3 from hk) (by omega)
  | 1, 1, 2, k + 3, _, _, _, hk, _, _, _, _, _ => exact absurd (show ((k + 3 : Nat) : Int) < 3 from hk) (by omega)
  | 1, 1, 3, k + 3, _, _, _, hk, _, _, _, _, _ => exact absurd (show ((k + 3 : Nat) : Int) < 3 from hk) (by omega)
  | 2, 0, 0, k + 1, _, _, _, hk, _, _, _, _, _ => exact absurd (show ((k + 1 : Nat) : Int) < 1 from hk) (by omega)
  | 2, 0, 1, k + 1, _, _, _, hk, _, _, _, _, _ => exact absurd (show ((k + 1 : Nat) : Int) < 1 from hk) (by omega)
  | 2, 1, 0, k + 1, _, _, _, hk, _, _, _, _, _ => exact absurd (show ((k + 1 : Nat) : Int) < 1 from hk) (by omega)
  | 2, 1, 1, k + 1, _, _, _, hk, _, _, _, _, _ => exact absurd (show ((k + 1 : Nat) : Int) < 1 from hk) (by omega)
  | w + 3, _, _, _, hw, _, _, _, _, _, _, _, _ => omega
  | _, b + 2, _, _, _, hb, _, _, _, _, _, _, _ => omega
  | 0, _, r + 1, _, _, _, hr, _, _, _, _, _, _ => exact absurd (show r + 1 < 1 from hr) (by omega)
  | 1, _, r + 4, _, _, _, hr, _, _, _, _, _, _ => exact absurd (show r + 4 < 4 from hr) (by omega)
  | 2, _, r + 2, _, _, _, hr, _, _, _, _, _, _ => exact absurd (show r + 2 < 2 from hr) (by omega)
theorem INV.w {A A' : Int} {μ : am_M} (h : INV A μ) (hA : A ≤ A') : INV A' μ := by
  obtain ⟨w, b, f, r, h1, h2, h3, h4, h5, h6, h7, h8, h9⟩ := h
  exact ⟨w, b, f, r, h1, h2, h3, h4, h5, h6, h7, h8.w hA, h9⟩
theorem act_t {A x : Int} {μ : am_M} (h : INV A μ) (hA : 0 ≤ A ∧ A ≤ 600000000) (ht : aAnd x 15 = 0 → ¬ aAnd (aUshr x 4) 63 ≤ 7) : ∃ μ', L_act x μ = some (1, μ') ∧ INV (A + 3000000) μ' := by
  obtain ⟨w, b, f, r, i1, i2, i3, i4, i5⟩ := h
  have h : IV w b f r A μ := ⟨⟨i1, i2, i3, i4⟩, i5⟩
  have hO := h.o
  have hc : 0 < (wC w : Int) ∧ (wC w : Int) ≤ 4 := ⟨hO.2.2.2.1.1.2.1, hO.2.2.2.1.1.2.2⟩
  have ha : 0 ≤ aAnd (aUshr x 4) 63 ∧ aAnd (aUshr x 4) 63 < 64 := by rw [a63]; omega
  have hb : 0 ≤ aAnd (aUshr x 10) 63 ∧ aAnd (aUshr x 10) 63 < 64 := by rw [a63]; omega
  have hd : 0 ≤ aAnd (aUshr x 16) 63 ∧ aAnd (aUshr x 16) 63 < 64 := by rw [a63]; omega
  have hs : 0 ≤ aAnd x 15 ∧ aAnd x 15 < 16 := by rw [a15]; omega
  unfold L_act
  rw [cnt_t hO, q_bd_s]
  rw [show ∀ y : am_O, q_nz (wC w : Int) y = y from fun y => if_pos ⟨by omega, by omega, by omega⟩]
  generalize aAnd (aUshr x 4) 63 = a at ha ht ⊢
  generalize aAnd (aUshr x 10) 63 = p at hb ⊢
  generalize aAnd (aUshr x 16) 63 = c at hd ⊢
  generalize aAnd x 15 = s at hs ht ⊢
  have hk : 0 ≤ aRem a (wC w) ∧ aRem a (wC w) < (wC w : Int) := by
    have e := rem_s (m := a.toNat) (n := wC w) (by omega) (by omega)
    have e1 : ((a.toNat : Nat) : Int) = a := by omega
    rw [e1] at e
    rw [e]
    have : a.toNat % wC w < wC w := Nat.mod_lt _ (by omega)
    omega
  generalize aRem a (wC w) = k at hk ⊢
  have wd : ∀ {y : am_O} {A1 : Int}, A1 ≤ A + 3000000 → (∃ μ', y = some (1, μ') ∧ INV A1 μ') → ∃ μ', y = some (1, μ') ∧ INV (A + 3000000) μ' := fun hle ⟨μ', e, i⟩ => ⟨μ', e, i.w hle⟩
  by_cases s0 : s = 0
  · rw [if_pos s0, if_neg (ht s0)]
    exact ⟨μ, rfl, h.I.w (by omega)⟩
  rw [if_neg s0]
  by_cases s1 : s = 1
  · rw [if_pos s1]; exact wd (by omega) (ac_begin h hA.1 hk.1 hk.2)
  rw [if_neg s1]
  by_cases s2 : s = 2
  · rw [if_pos s2]; exact wd (by omega) (ac_begin h hA.1 hk.1 hk.2)
  rw [if_neg s2]
  by_cases s3 : s = 3
  · rw [if_pos s3]; exact wd (by omega) (ac_begin h hA.1 hk.1 hk.2)
  rw [if_neg s3]
  by_cases s4 : s = 4
  · rw [if_pos s4]; exact wd (by omega) (ac_run h (by omega) hb.1 (by omega))
  rw [if_neg s4]
  by_cases s5 : s = 5
  · rw [if_pos s5]; exact wd (by omega) (ac_run h (by omega) hb.1 (by omega))
  rw [if_neg s5]
  by_cases s6 : s = 6
  · rw [if_pos s6]; exact wd (by omega) (ac_run h (by omega) hb.1 (by omega))
  rw [if_neg s6]
  by_cases s7 : s = 7
  · rw [if_pos s7]; exact wd (by omega) (ac_room h ha.1 (by omega))
  rw [if_neg s7]
  by_cases s8 : s = 8
  · rw [if_pos s8]; exact wd (by omega) (ac_price h hb.1 (by omega))
  rw [if_neg s8]
  by_cases s9 : s = 9
  · rw [if_pos s9]; exact wd (by omega) (ac_end h hb (by unfold r32; omega) hk.1 hk.2)
  rw [if_neg s9]
  by_cases s10 : s = 10
  · rw [if_pos s10]; exact wd (by omega) (ac_end h hb (by unfold r32; omega) hk.1 hk.2)
  rw [if_neg s10]
  by_cases s11 : s = 11
  · rw [if_pos s11]; exact wd (by omega) (ac_mark h ⟨hA.1, by omega⟩ hd.1 (by omega))
  rw [if_neg s11]
  by_cases s12 : s = 12
  · rw [if_pos s12]; exact wd (by omega) (ac_not h)
  rw [if_neg s12]
  exact wd (by omega) (ac_ord h hk.1 hk.2)
