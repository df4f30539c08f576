/-! The code does what the functions say. Printed by program. -/
set_option maxRecDepth 20000 in
theorem t_Mc_readSlips (d : Nat) : ∀ (b : Int) (v1 : Int) (v2 : Int) (μ : am_M) q, Mc_readSlips b v1 v2 μ = some q → am_ar g_mt (d + 4) 36 [(2, b), (2, v1), (0, v2)] μ (am_res 0 q) := by
  intro b v1 v2 μ q h
  unfold Mc_readSlips at h
  refine am_ar_of (d := d + 3) i_Mc_readSlips rfl rfl (Nat.le_of_ble_eq_true rfl) ?_
  show am_run none (am_ar g_mt (d + 3)) 5 (some .boolean) k_Mc_readSlips 0 [(0, (2, b)), (1, (2, v1)), (2, (0, v2))] [] μ (am_res 0 q)
  refine rn_sls 2 (pc' := 2) (ls' := [(0, (2, b)), (1, (2, v1)), (2, (0, v2))]) (st' := [(0, v2), (2, v1)]) rfl ?_
  refine rn_gd h (fun ho1 h => ?_)
  refine rn_call 0 0 [(2, v1), (0, v2)] (r := []) rfl ⟨rfl, Or.inl ⟨_, rfl, by decide⟩⟩ (by decide) (fun _ => ⟨_, rfl, ho1⟩) rfl rfl (Nat.le_of_ble_eq_true rfl) h (fun w hw => t_Ln_readSet (d + 0) _ _ _ _ hw) (fun a2 μ3 h => ?_)
  refine rn_sls 0 (pc' := 5) (ls' := [(0, (2, b)), (1, (2, v1)), (2, (0, v2))]) (st' := [(0, a2)]) rfl ?_
  refine rn_sls 2 (pc' := 7) (ls' := [(3, (0, a2)), (0, (2, b)), (1, (2, v1)), (2, (0, v2))]) (st' := [(2, b)]) rfl ?_
  refine rn_gd h (fun ho4 h => ?_)
  refine rn_get ho4 rfl rfl rfl ?_
  refine rn_sls 0 (pc' := 10) (ls' := [(3, (0, a2)), (0, (2, b)), (1, (2, v1)), (2, (0, v2))]) (st' := [(2, (b + 2))]) rfl ?_
  refine rn_sls 1 (pc' := 11) (ls' := [(3, (0, a2)), (0, (2, b)), (1, (2, v1)), (2, (0, v2))]) (st' := [(2, b), (2, (b + 2))]) rfl ?_
  refine rn_get ho4 rfl rfl rfl ?_
  refine rn_sls 0 (pc' := 14) (ls' := [(3, (0, a2)), (0, (2, b)), (1, (2, v1)), (2, (0, v2))]) (st' := [(0, (μ3 b 5)), (2, (b + 2))]) rfl ?_
  refine rn_sls 2 (pc' := 16) (ls' := [(3, (0, a2)), (0, (2, b)), (1, (2, v1)), (2, (0, v2))]) (st' := [(0, (w32 ((μ3 b 5) - 1))), (2, (b + 2))]) rfl ?_
  refine rn_call 3 0 [(2, (b + 2)), (0, (w32 ((μ3 b 5) - 1)))] (r := []) rfl ⟨rfl, Or.inr ⟨_, rfl, by decide⟩⟩ (by decide) (fun z => absurd z (by decide)) rfl rfl (Nat.le_of_ble_eq_true rfl) h (fun w hw => t_X_at (d + 2) _ _ _ _ hw) (fun a5 μ6 h => ?_)
  refine rn_sls 0 (pc' := 19) (ls' := [(3, (0, a2)), (0, (2, b)), (1, (2, v1)), (2, (0, v2))]) (st' := [(0, a5)]) rfl ?_
  refine rn_sls 2 (pc' := 22) (ls' := [(4, (0, a5)), (3, (0, a2)), (0, (2, b)), (1, (2, v1)), (2, (0, v2))]) (st' := [(2, b)]) rfl ?_
  refine rn_get ho4 rfl rfl rfl ?_
  refine rn_sls 0 (pc' := 25) (ls' := [(4, (0, a5)), (3, (0, a2)), (0, (2, b)), (1, (2, v1)), (2, (0, v2))]) (st' := [(0, (μ6 b 1))]) rfl ?_
  refine rn_if (t := 63) rfl rfl rfl rfl h (fun h => ?_) (fun h => ?_)
  · refine rn_sls 1 (pc' := 64) (ls' := [(4, (0, a5)), (3, (0, a2)), (0, (2, b)), (1, (2, v1)), (2, (0, v2))]) (st' := [(2, v1)]) rfl ?_
    refine rn_get ho1 rfl rfl rfl ?_
    refine rn_sls 0 (pc' := 67) (ls' := [(4, (0, a5)), (3, (0, a2)), (0, (2, b)), (1, (2, v1)), (2, (0, v2))]) (st' := [(2, (v1 + 1))]) rfl ?_
    refine rn_sls 1 (pc' := 68) (ls' := [(4, (0, a5)), (3, (0, a2)), (0, (2, b)), (1, (2, v1)), (2, (0, v2))]) (st' := [(0, v2), (2, (v1 + 1))]) rfl ?_
    refine rn_call 3 0 [(2, (v1 + 1)), (0, v2)] (r := []) rfl ⟨rfl, Or.inr ⟨_, rfl, by decide⟩⟩ (by decide) (fun z => absurd z (by decide)) rfl rfl (Nat.le_of_ble_eq_true rfl) h (fun w hw => t_X_at (d + 2) _ _ _ _ hw) (fun a7 μ8 h => ?_)
    refine rn_sls 0 (pc' := 71) (ls' := [(4, (0, a5)), (3, (0, a2)), (0, (2, b)), (1, (2, v1)), (2, (0, v2))]) (st' := [(0, a7)]) rfl ?_
    refine rn_sls 1 (pc' := 72) (ls' := [(4, (0, a5)), (3, (0, a2)), (0, (2, b)), (1, (2, v1)), (2, (0, v2))]) (st' := [(0, 3), (0, a7)]) rfl ?_
    refine rn_icmp (t := 84) rfl rfl rfl rfl h (fun h => ?_) (fun h => ?_)
    · refine rn_sls 1 (pc' := 85) (ls' := [(4, (0, a5)), (3, (0, a2)), (0, (2, b)), (1, (2, v1)), (2, (0, v2))]) (st' := [(0, 1)]) rfl ?_
      refine rn_goto (t := 89) rfl rfl rfl ?_
      exact rn_iretb rfl rfl rfl (Or.inr rfl) h rfl
    · refine rn_sls 5 (pc' := 81) (ls' := [(4, (0, a5)), (3, (0, a2)), (0, (2, b)), (1, (2, v1)), (2, (0, v2))]) (st' := [(0, (aAnd a2 (aXor a5 (-1))))]) rfl ?_
      refine rn_ifn (t := 88) rfl rfl rfl rfl h (fun h => ?_) (fun h => ?_)
      · refine rn_sls 1 (pc' := 85) (ls' := [(4, (0, a5)), (3, (0, a2)), (0, (2, b)), (1, (2, v1)), (2, (0, v2))]) (st' := [(0, 1)]) rfl ?_
        refine rn_goto (t := 89) rfl rfl rfl ?_
        exact rn_iretb rfl rfl rfl (Or.inr rfl) h rfl
      · refine rn_sls 1 (pc' := 89) (ls' := [(4, (0, a5)), (3, (0, a2)), (0, (2, b)), (1, (2, v1)), (2, (0, v2))]) (st' := [(0, 0)]) rfl ?_
        exact rn_iretb rfl rfl rfl (Or.inl rfl) h rfl
  · refine rn_sls 2 (pc' := 30) (ls' := [(4, (0, a5)), (3, (0, a2)), (0, (2, b)), (1, (2, v1)), (2, (0, v2))]) (st' := [(2, b), (2, b)]) rfl ?_
    refine rn_get ho4 rfl rfl rfl ?_
    refine rn_sls 0 (pc' := 33) (ls' := [(4, (0, a5)), (3, (0, a2)), (0, (2, b)), (1, (2, v1)), (2, (0, v2))]) (st' := [(0, (μ6 b 9)), (2, b)]) rfl ?_
    refine rn_sls 2 (pc' := 35) (ls' := [(4, (0, a5)), (3, (0, a2)), (0, (2, b)), (1, (2, v1)), (2, (0, v2))]) (st' := [(0, v2), (2, v1), (0, (μ6 b 9)), (2, b)]) rfl ?_
    refine rn_call 0 0 [(2, v1), (0, v2)] (r := [(0, (μ6 b 9)), (2, b)]) rfl ⟨rfl, Or.inl ⟨_, rfl, by decide⟩⟩ (by decide) (fun _ => ⟨_, rfl, ho1⟩) rfl rfl (Nat.le_of_ble_eq_true rfl) h (fun w hw => t_Ln_timesRead (d + 0) _ _ _ _ hw) (fun a9 μ10 h => ?_)
    refine rn_sls 0 (pc' := 38) (ls' := [(4, (0, a5)), (3, (0, a2)), (0, (2, b)), (1, (2, v1)), (2, (0, v2))]) (st' := [(0, a9), (0, (μ6 b 9)), (2, b)]) rfl ?_
    refine rn_sls 1 (pc' := 39) (ls' := [(4, (0, a5)), (3, (0, a2)), (0, (2, b)), (1, (2, v1)), (2, (0, v2))]) (st' := [(0, (w32 ((μ6 b 9) + a9))), (2, b)]) rfl ?_
    refine rn_put rfl rfl ho4 rfl (Or.inl ⟨rfl, rfl⟩) rfl h (fun μ11 h => ?_)
    refine rn_sls 1 (pc' := 43) (ls' := [(4, (0, a5)), (3, (0, a2)), (0, (2, b)), (1, (2, v1)), (2, (0, v2))]) (st' := [(2, b)]) rfl ?_
    refine rn_get ho4 rfl rfl rfl ?_
    refine rn_sls 0 (pc' := 46) (ls' := [(4, (0, a5)), (3, (0, a2)), (0, (2, b)), (1, (2, v1)), (2, (0, v2))]) (st' := [(2, (b + 2))]) rfl ?_
    refine rn_sls 1 (pc' := 47) (ls' := [(4, (0, a5)), (3, (0, a2)), (0, (2, b)), (1, (2, v1)), (2, (0, v2))]) (st' := [(2, b), (2, (b + 2))]) rfl ?_
    refine rn_get ho4 rfl rfl rfl ?_
    refine rn_sls 0 (pc' := 50) (ls' := [(4, (0, a5)), (3, (0, a2)), (0, (2, b)), (1, (2, v1)), (2, (0, v2))]) (st' := [(0, (μ11 b 5)), (2, (b + 2))]) rfl ?_
    refine rn_sls 7 (pc' := 58) (ls' := [(4, (0, a5)), (3, (0, a2)), (0, (2, b)), (1, (2, v1)), (2, (0, v2))]) (st' := [(0, (aAnd a5 (aXor a2 (-1)))), (0, (w32 ((μ11 b 5) - 1))), (2, (b + 2))]) rfl ?_
    refine rn_call 3 2 [(2, (b + 2)), (0, (w32 ((μ11 b 5) - 1))), (0, (aAnd a5 (aXor a2 (-1))))] (r := []) rfl ⟨rfl, Or.inr ⟨_, rfl, by decide⟩⟩ (by decide) (fun z => absurd z (by decide)) rfl rfl (Nat.le_of_ble_eq_true rfl) h (fun w hw => t_X_put (d + 2) _ _ _ _ _ hw) (fun a12 μ13 h => ?_)
    refine rn_sls 0 (pc' := 61) (ls' := [(4, (0, a5)), (3, (0, a2)), (0, (2, b)), (1, (2, v1)), (2, (0, v2))]) (st' := []) rfl ?_
    refine rn_sls 1 (pc' := 62) (ls' := [(4, (0, a5)), (3, (0, a2)), (0, (2, b)), (1, (2, v1)), (2, (0, v2))]) (st' := [(0, 1)]) rfl ?_
    exact rn_iretb rfl rfl rfl (Or.inr rfl) h rfl
set_option maxRecDepth 20000 in
theorem t_Rk_joined (d : Nat) : ∀ (v0 : Int) (v1 : Int) (v2 : Int) (μ : am_M) q, Rk_joined v0 v1 v2 μ = some q → am_ar g_mt (d + 1) 91 [(0, v0), (0, v1), (0, v2)] μ (am_res 0 q) := by
  intro v0 v1 v2 μ q h
  unfold Rk_joined at h
  refine am_ar_of (d := d + 0) i_Rk_joined rfl rfl (Nat.le_of_ble_eq_true rfl) ?_
  show am_run none (am_ar g_mt (d + 0)) 3 (some .int) k_Rk_joined 0 [(0, (0, v0)), (1, (0, v1)), (2, (0, v2))] [] μ (am_res 0 q)
  refine rn_sls 1 (pc' := 1) (ls' := [(0, (0, v0)), (1, (0, v1)), (2, (0, v2))]) (st' := [(0, v0)]) rfl ?_
  refine rn_lsw rfl rfl ?_
  refine rn_lwc (t := 110) rfl h (fun h => ?_) (fun h => ?_)
  · refine rn_sls 3 (pc' := 113) (ls' := [(0, (0, v0)), (1, (0, v1)), (2, (0, v2))]) (st' := [(0, (w32 (v1 + v2)))]) rfl ?_
    exact rn_ireti rfl rfl rfl h rfl
  refine rn_lwc (t := 114) rfl h (fun h => ?_) (fun h => ?_)
  · refine rn_sls 3 (pc' := 117) (ls' := [(0, (0, v0)), (1, (0, v1)), (2, (0, v2))]) (st' := [(0, (w32 (v1 - v2)))]) rfl ?_
    exact rn_ireti rfl rfl rfl h rfl
  refine rn_lwc (t := 88) rfl h (fun h => ?_) (fun h => ?_)
  · refine rn_sls 2 (pc' := 90) (ls' := [(0, (0, v0)), (1, (0, v1)), (2, (0, v2))]) (st' := [(0, v2), (0, v1)]) rfl ?_
    refine rn_icmpn (t := 97) rfl rfl rfl rfl h (fun h => ?_) (fun h => ?_)
    · refine rn_sls 1 (pc' := 94) (ls' := [(0, (0, v0)), (1, (0, v1)), (2, (0, v2))]) (st' := [(0, 1)]) rfl ?_
      refine rn_goto (t := 98) rfl rfl rfl ?_
      exact rn_ireti rfl rfl rfl h rfl
    · refine rn_sls 1 (pc' := 98) (ls' := [(0, (0, v0)), (1, (0, v1)), (2, (0, v2))]) (st' := [(0, 0)]) rfl ?_
      exact rn_ireti rfl rfl rfl h rfl
  refine rn_lwc (t := 99) rfl h (fun h => ?_) (fun h => ?_)
  · refine rn_sls 2 (pc' := 101) (ls' := [(0, (0, v0)), (1, (0, v1)), (2, (0, v2))]) (st' := [(0, v2), (0, v1)]) rfl ?_
    refine rn_icmpn (t := 108) rfl rfl rfl rfl h (fun h => ?_) (fun h => ?_)
    · refine rn_sls 1 (pc' := 105) (ls' := [(0, (0, v0)), (1, (0, v1)), (2, (0, v2))]) (st' := [(0, 1)]) rfl ?_
      refine rn_goto (t := 109) rfl rfl rfl ?_
      exact rn_ireti rfl rfl rfl h rfl
    · refine rn_sls 1 (pc' := 109) (ls' := [(0, (0, v0)), (1, (0, v1)), (2, (0, v2))]) (st' := [(0, 0)]) rfl ?_
      exact rn_ireti rfl rfl rfl h rfl
  refine rn_lwc (t := 60) rfl h (fun h => ?_) (fun h => ?_)
  · refine rn_sls 1 (pc' := 61) (ls' := [(0, (0, v0)), (1, (0, v1)), (2, (0, v2))]) (st' := [(0, v1)]) rfl ?_
    refine rn_if (t := 72) rfl rfl rfl rfl h (fun h => ?_) (fun h => ?_)
    · refine rn_sls 1 (pc' := 73) (ls' := [(0, (0, v0)), (1, (0, v1)), (2, (0, v2))]) (st' := [(0, 0)]) rfl ?_
      exact rn_ireti rfl rfl rfl h rfl
    · refine rn_sls 1 (pc' := 65) (ls' := [(0, (0, v0)), (1, (0, v1)), (2, (0, v2))]) (st' := [(0, v2)]) rfl ?_
      refine rn_if (t := 72) rfl rfl rfl rfl h (fun h => ?_) (fun h => ?_)
      · refine rn_sls 1 (pc' := 73) (ls' := [(0, (0, v0)), (1, (0, v1)), (2, (0, v2))]) (st' := [(0, 0)]) rfl ?_
        exact rn_ireti rfl rfl rfl h rfl
      · refine rn_sls 1 (pc' := 69) (ls' := [(0, (0, v0)), (1, (0, v1)), (2, (0, v2))]) (st' := [(0, 1)]) rfl ?_
        refine rn_goto (t := 73) rfl rfl rfl ?_
        exact rn_ireti rfl rfl rfl h rfl
  refine rn_lwc (t := 74) rfl h (fun h => ?_) (fun h => ?_)
  · refine rn_sls 1 (pc' := 75) (ls' := [(0, (0, v0)), (1, (0, v1)), (2, (0, v2))]) (st' := [(0, v1)]) rfl ?_
    refine rn_ifn (t := 82) rfl rfl rfl rfl h (fun h => ?_) (fun h => ?_)
    · refine rn_sls 1 (pc' := 79) (ls' := [(0, (0, v0)), (1, (0, v1)), (2, (0, v2))]) (st' := [(0, v2)]) rfl ?_
      refine rn_if (t := 86) rfl rfl rfl rfl h (fun h => ?_) (fun h => ?_)
      · refine rn_sls 1 (pc' := 87) (ls' := [(0, (0, v0)), (1, (0, v1)), (2, (0, v2))]) (st' := [(0, 0)]) rfl ?_
        exact rn_ireti rfl rfl rfl h rfl
      · refine rn_sls 1 (pc' := 83) (ls' := [(0, (0, v0)), (1, (0, v1)), (2, (0, v2))]) (st' := [(0, 1)]) rfl ?_
        refine rn_goto (t := 87) rfl rfl rfl ?_
        exact rn_ireti rfl rfl rfl h rfl
    · refine rn_sls 1 (pc' := 83) (ls' := [(0, (0, v0)), (1, (0, v1)), (2, (0, v2))]) (st' := [(0, 1)]) rfl ?_
      refine rn_goto (t := 87) rfl rfl rfl ?_
      exact rn_ireti rfl rfl rfl h rfl
  refine rn_lw0 (t := 118) rfl ?_
  refine rn_sls 3 (pc' := 121) (ls' := [(0, (0, v0)), (1, (0, v1)), (2, (0, v2))]) (st' := [(0, (w32 (v1 * v2)))]) rfl ?_
  exact rn_ireti rfl rfl rfl h rfl
set_option maxRecDepth 20000 in
theorem t_Rk_reckon_B178 (d : Nat) (k23 : Int → Int → Int → Int → Int → Int → am_M → am_O) (hk23 : ∀ (v1 : Int) (v3 : Int) (v4 : Int) (v5 : Int) (v6 : Int) (v7 : Int) (μ : am_M) q, k23 v1 v3 v4 v5 v6 v7 μ = some q → am_run none (am_ar g_mt (d + 2)) 9 (some .int) k_Rk_reckon 23 [(0, (2, 40)), (1, (2, v1)), (3, (2, v3)), (4, (0, v4)), (5, (0, v5)), (6, (0, v6)), (7, (0, v7))] [] μ (am_res 0 q)) : ∀ (v1 : Int) (v3 : Int) (v4 : Int) (v5 : Int) (v6 : Int) (v7 : Int) (μ : am_M) q, Rk_reckon_B178 k23 v1 v3 v4 v5 v6 v7 μ = some q → am_run none (am_ar g_mt (d + 2)) 9 (some .int) k_Rk_reckon 178 [(0, (2, 40)), (1, (2, v1)), (3, (2, v3)), (4, (0, v4)), (5, (0, v5)), (6, (0, v6)), (7, (0, v7))] [] μ (am_res 0 q) := by
  intro v1 v3 v4 v5 v6 v7 μ q h
  unfold Rk_reckon_B178 at h
  refine rn_sls 1 (pc' := 181) (ls' := [(7, (0, (w32 (v7 + 1)))), (0, (2, 40)), (1, (2, v1)), (3, (2, v3)), (4, (0, v4)), (5, (0, v5)), (6, (0, v6))]) (st' := []) rfl ?_
  refine rn_goto (t := 23) rfl rfl rfl ?_
  exact rn_sub [1, 2, 3, 4, 5, 6, 0] rfl (hk23 _ _ _ _ _ _ _ _ h)
set_option maxRecDepth 20000 in
theorem t_Rk_reckon_B133 (d : Nat) (k23 : Int → Int → Int → Int → Int → Int → am_M → am_O) (hk23 : ∀ (v1 : Int) (v3 : Int) (v4 : Int) (v5 : Int) (v6 : Int) (v7 : Int) (μ : am_M) q, k23 v1 v3 v4 v5 v6 v7 μ = some q → am_run none (am_ar g_mt (d + 2)) 9 (some .int) k_Rk_reckon 23 [(0, (2, 40)), (1, (2, v1)), (3, (2, v3)), (4, (0, v4)), (5, (0, v5)), (6, (0, v6)), (7, (0, v7))] [] μ (am_res 0 q)) : ∀ (v1 : Int) (v3 : Int) (v4 : Int) (v5 : Int) (v6 : Int) (v7 : Int) (s1 : Int) (s2 : Int) (μ : am_M) q, Rk_reckon_B133 k23 v1 v3 v4 v5 v6 v7 s1 s2 μ = some q → am_run none (am_ar g_mt (d + 2)) 9 (some .int) k_Rk_reckon 133 [(0, (2, 40)), (1, (2, v1)), (3, (2, v3)), (4, (0, v4)), (5, (0, v5)), (6, (0, v6)), (7, (0, v7))] [(0, s2), (0, s1), (2, 41)] μ (am_res 0 q) := by
  intro v1 v3 v4 v5 v6 v7 s1 s2 μ q h
  unfold Rk_reckon_B133 at h
  refine rn_call 3 2 [(2, 41), (0, s1), (0, s2)] (r := []) rfl ⟨rfl, Or.inr ⟨_, rfl, by decide⟩⟩ (by decide) (fun z => absurd z (by decide)) rfl rfl (Nat.le_of_ble_eq_true rfl) h (fun w hw => t_X_put (d + 1) _ _ _ _ _ hw) (fun a1 μ2 h => ?_)
  refine rn_sls 0 (pc' := 136) (ls' := [(0, (2, 40)), (1, (2, v1)), (3, (2, v3)), (4, (0, v4)), (5, (0, v5)), (6, (0, v6)), (7, (0, v7))]) (st' := []) rfl ?_
  refine rn_goto (t := 178) rfl rfl rfl ?_
  exact rn_sub [0, 1, 2, 3, 4, 5, 6] rfl (t_Rk_reckon_B178 d k23 hk23 _ _ _ _ _ _ _ _ h)
set_option maxRecDepth 20000 in
theorem t_Rk_reckon_L23_b (d : Nat) (k23 : Int → Int → Int → Int → Int → Int → am_M → am_O) (hk23 : ∀ (v1 : Int) (v3 : Int) (v4 : Int) (v5 : Int) (v6 : Int) (v7 : Int) (μ : am_M) q, k23 v1 v3 v4 v5 v6 v7 μ = some q → am_run none (am_ar g_mt (d + 2)) 9 (some .int) k_Rk_reckon 23 [(0, (2, 40)), (1, (2, v1)), (3, (2, v3)), (4, (0, v4)), (5, (0, v5)), (6, (0, v6)), (7, (0, v7))] [] μ (am_res 0 q)) : ∀ (v1 : Int) (v3 : Int) (v4 : Int) (v5 : Int) (v6 : Int) (v7 : Int) (μ : am_M) q, Rk_reckon_L23_b k23 v1 v3 v4 v5 v6 v7 μ = some q → am_run none (am_ar g_mt (d + 2)) 9 (some .int) k_Rk_reckon 23 [(0, (2, 40)), (1, (2, v1)), (3, (2, v3)), (4, (0, v4)), (5, (0, v5)), (6, (0, v6)), (7, (0, v7))] [] μ (am_res 0 q) := by
  intro v1 v3 v4 v5 v6 v7 μ q h
  unfold Rk_reckon_L23_b at h
  refine rn_sls 2 (pc' := 27) (ls' := [(0, (2, 40)), (1, (2, v1)), (3, (2, v3)), (4, (0, v4)), (5, (0, v5)), (6, (0, v6)), (7, (0, v7))]) (st' := [(0, v6), (0, v7)]) rfl ?_
  refine rn_icmpn (t := 184) rfl rfl rfl rfl h (fun h => ?_) (fun h => ?_)
  · refine rn_sls 2 (pc' := 33) (ls' := [(0, (2, 40)), (1, (2, v1)), (3, (2, v3)), (4, (0, v4)), (5, (0, v5)), (6, (0, v6)), (7, (0, v7))]) (st' := [(0, v7), (2, v1)]) rfl ?_
    refine rn_gd h (fun ho3 h => ?_)
    refine rn_call 0 0 [(2, v1), (0, v7)] (r := []) rfl ⟨rfl, Or.inl ⟨_, rfl, by decide⟩⟩ (by decide) (fun _ => ⟨_, rfl, ho3⟩) rfl rfl (Nat.le_of_ble_eq_true rfl) h (fun w hw => t_Ln_codeKind (d + 0) _ _ _ _ hw) (fun a4 μ5 h => ?_)
    refine rn_sls 0 (pc' := 36) (ls' := [(0, (2, 40)), (1, (2, v1)), (3, (2, v3)), (4, (0, v4)), (5, (0, v5)), (6, (0, v6)), (7, (0, v7))]) (st' := [(0, a4)]) rfl ?_
    refine rn_sls 3 (pc' := 41) (ls' := [(8, (0, a4)), (0, (2, 40)), (1, (2, v1)), (3, (2, v3)), (4, (0, v4)), (5, (0, v5)), (6, (0, v6)), (7, (0, v7))]) (st' := [(0, 3), (0, a4)]) rfl ?_
    refine rn_icmpn (t := 65) rfl rfl rfl rfl h (fun h => ?_) (fun h => ?_)
    · refine rn_sls 5 (pc' := 53) (ls' := [(8, (0, a4)), (0, (2, 40)), (1, (2, v1)), (3, (2, v3)), (4, (0, v4)), (5, (0, v5)), (6, (0, v6)), (7, (0, v7))]) (st' := [(0, v7), (2, v1), (0, v5), (2, 41)]) rfl ?_
      refine rn_call 0 0 [(2, v1), (0, v7)] (r := [(0, v5), (2, 41)]) rfl ⟨rfl, Or.inl ⟨_, rfl, by decide⟩⟩ (by decide) (fun _ => ⟨_, rfl, ho3⟩) rfl rfl (Nat.le_of_ble_eq_true rfl) h (fun w hw => t_Ln_codeNumber (d + 0) _ _ _ _ hw) (fun a22 μ23 h => ?_)
      refine rn_sls 0 (pc' := 56) (ls' := [(8, (0, a4)), (0, (2, 40)), (1, (2, v1)), (3, (2, v3)), (4, (0, v4)), (5, (0, v5)), (6, (0, v6)), (7, (0, v7))]) (st' := [(0, a22), (0, v5), (2, 41)]) rfl ?_
      refine rn_call 3 2 [(2, 41), (0, v5), (0, a22)] (r := []) rfl ⟨rfl, Or.inr ⟨_, rfl, by decide⟩⟩ (by decide) (fun z => absurd z (by decide)) rfl rfl (Nat.le_of_ble_eq_true rfl) h (fun w hw => t_X_put (d + 1) _ _ _ _ _ hw) (fun a24 μ25 h => ?_)
      refine rn_sls 0 (pc' := 59) (ls' := [(8, (0, a4)), (0, (2, 40)), (1, (2, v1)), (3, (2, v3)), (4, (0, v4)), (5, (0, v5)), (6, (0, v6)), (7, (0, v7))]) (st' := []) rfl ?_
      refine rn_sls 1 (pc' := 62) (ls' := [(5, (0, (w32 (v5 + 1)))), (8, (0, a4)), (0, (2, 40)), (1, (2, v1)), (3, (2, v3)), (4, (0, v4)), (6, (0, v6)), (7, (0, v7))]) (st' := []) rfl ?_
      refine rn_goto (t := 178) rfl rfl rfl ?_
      exact rn_sub [2, 3, 4, 5, 0, 6, 7] rfl (t_Rk_reckon_B178 d k23 hk23 _ _ _ _ _ _ _ _ h)
    · refine rn_sls 2 (pc' := 68) (ls' := [(8, (0, a4)), (0, (2, 40)), (1, (2, v1)), (3, (2, v3)), (4, (0, v4)), (5, (0, v5)), (6, (0, v6)), (7, (0, v7))]) (st' := [(0, 2), (0, a4)]) rfl ?_
      refine rn_icmpn (t := 99) rfl rfl rfl rfl h (fun h => ?_) (fun h => ?_)
      · refine rn_sls 7 (pc' := 83) (ls' := [(8, (0, a4)), (0, (2, 40)), (1, (2, v1)), (3, (2, v3)), (4, (0, v4)), (5, (0, v5)), (6, (0, v6)), (7, (0, v7))]) (st' := [(0, v7), (2, v1), (0, v4), (2, v3), (0, v5), (2, 41)]) rfl ?_
        refine rn_call 0 0 [(2, v1), (0, v7)] (r := [(0, v4), (2, v3), (0, v5), (2, 41)]) rfl ⟨rfl, Or.inl ⟨_, rfl, by decide⟩⟩ (by decide) (fun _ => ⟨_, rfl, ho3⟩) rfl rfl (Nat.le_of_ble_eq_true rfl) h (fun w hw => t_Ln_codeNumber (d + 0) _ _ _ _ hw) (fun a16 μ17 h => ?_)
        refine rn_sls 0 (pc' := 86) (ls' := [(8, (0, a4)), (0, (2, 40)), (1, (2, v1)), (3, (2, v3)), (4, (0, v4)), (5, (0, v5)), (6, (0, v6)), (7, (0, v7))]) (st' := [(0, a16), (0, v4), (2, v3), (0, v5), (2, 41)]) rfl ?_
        refine rn_sls 1 (pc' := 87) (ls' := [(8, (0, a4)), (0, (2, 40)), (1, (2, v1)), (3, (2, v3)), (4, (0, v4)), (5, (0, v5)), (6, (0, v6)), (7, (0, v7))]) (st' := [(0, (w32 (v4 + a16))), (2, v3), (0, v5), (2, 41)]) rfl ?_
        refine rn_call 3 0 [(2, v3), (0, (w32 (v4 + a16)))] (r := [(0, v5), (2, 41)]) rfl ⟨rfl, Or.inr ⟨_, rfl, by decide⟩⟩ (by decide) (fun z => absurd z (by decide)) rfl rfl (Nat.le_of_ble_eq_true rfl) h (fun w hw => t_X_at (d + 1) _ _ _ _ hw) (fun a18 μ19 h => ?_)
        refine rn_sls 0 (pc' := 90) (ls' := [(8, (0, a4)), (0, (2, 40)), (1, (2, v1)), (3, (2, v3)), (4, (0, v4)), (5, (0, v5)), (6, (0, v6)), (7, (0, v7))]) (st' := [(0, a18), (0, v5), (2, 41)]) rfl ?_
        refine rn_call 3 2 [(2, 41), (0, v5), (0, a18)] (r := []) rfl ⟨rfl, Or.inr ⟨_, rfl, by decide⟩⟩ (by decide) (fun z => absurd z (by decide)) rfl rfl (Nat.le_of_ble_eq_true rfl) h (fun w hw => t_X_put (d + 1) _ _ _ _ _ hw) (fun a20 μ21 h => ?_)
        refine rn_sls 0 (pc' := 93) (ls' := [(8, (0, a4)), (0, (2, 40)), (1, (2, v1)), (3, (2, v3)), (4, (0, v4)), (5, (0, v5)), (6, (0, v6)), (7, (0, v7))]) (st' := []) rfl ?_
        refine rn_sls 1 (pc' := 96) (ls' := [(5, (0, (w32 (v5 + 1)))), (8, (0, a4)), (0, (2, 40)), (1, (2, v1)), (3, (2, v3)), (4, (0, v4)), (6, (0, v6)), (7, (0, v7))]) (st' := []) rfl ?_
        refine rn_goto (t := 178) rfl rfl rfl ?_
        exact rn_sub [2, 3, 4, 5, 0, 6, 7] rfl (t_Rk_reckon_B178 d k23 hk23 _ _ _ _ _ _ _ _ h)
      · refine rn_sls 2 (pc' := 103) (ls' := [(8, (0, a4)), (0, (2, 40)), (1, (2, v1)), (3, (2, v3)), (4, (0, v4)), (5, (0, v5)), (6, (0, v6)), (7, (0, v7))]) (st' := [(0, 114), (0, a4)]) rfl ?_
        refine rn_icmpn (t := 139) rfl rfl rfl rfl h (fun h => ?_) (fun h => ?_)
        · refine rn_sls 10 (pc' := 122) (ls' := [(8, (0, a4)), (0, (2, 40)), (1, (2, v1)), (3, (2, v3)), (4, (0, v4)), (5, (0, v5)), (6, (0, v6)), (7, (0, v7))]) (st' := [(0, (w32 (v5 - 1))), (2, 41), (0, (w32 (v5 - 1))), (2, 41)]) rfl ?_
          refine rn_call 3 0 [(2, 41), (0, (w32 (v5 - 1)))] (r := [(0, (w32 (v5 - 1))), (2, 41)]) rfl ⟨rfl, Or.inr ⟨_, rfl, by decide⟩⟩ (by decide) (fun z => absurd z (by decide)) rfl rfl (Nat.le_of_ble_eq_true rfl) h (fun w hw => t_X_at (d + 1) _ _ _ _ hw) (fun a14 μ15 h => ?_)
          refine rn_sls 0 (pc' := 125) (ls' := [(8, (0, a4)), (0, (2, 40)), (1, (2, v1)), (3, (2, v3)), (4, (0, v4)), (5, (0, v5)), (6, (0, v6)), (7, (0, v7))]) (st' := [(0, a14), (0, (w32 (v5 - 1))), (2, 41)]) rfl ?_
          refine rn_ifn (t := 132) rfl rfl rfl rfl h (fun h => ?_) (fun h => ?_)
          · refine rn_sls 1 (pc' := 129) (ls' := [(8, (0, a4)), (0, (2, 40)), (1, (2, v1)), (3, (2, v3)), (4, (0, v4)), (5, (0, v5)), (6, (0, v6)), (7, (0, v7))]) (st' := [(0, 1), (0, (w32 (v5 - 1))), (2, 41)]) rfl ?_
            refine rn_goto (t := 133) rfl rfl rfl ?_
            exact rn_sub [1, 2, 3, 4, 5, 6, 7] rfl (t_Rk_reckon_B133 d k23 hk23 _ _ _ _ _ _ _ _ _ _ h)
          · refine rn_sls 1 (pc' := 133) (ls' := [(8, (0, a4)), (0, (2, 40)), (1, (2, v1)), (3, (2, v3)), (4, (0, v4)), (5, (0, v5)), (6, (0, v6)), (7, (0, v7))]) (st' := [(0, 0), (0, (w32 (v5 - 1))), (2, 41)]) rfl ?_
            exact rn_sub [1, 2, 3, 4, 5, 6, 7] rfl (t_Rk_reckon_B133 d k23 hk23 _ _ _ _ _ _ _ _ _ _ h)
        · refine rn_sls 12 (pc' := 160) (ls' := [(5, (0, (w32 (v5 + (-1))))), (8, (0, a4)), (0, (2, 40)), (1, (2, v1)), (3, (2, v3)), (4, (0, v4)), (6, (0, v6)), (7, (0, v7))]) (st' := [(0, (w32 ((w32 (v5 + (-1))) - 1))), (2, 41), (0, a4), (0, (w32 ((w32 (v5 + (-1))) - 1))), (2, 41)]) rfl ?_
          refine rn_call 3 0 [(2, 41), (0, (w32 ((w32 (v5 + (-1))) - 1)))] (r := [(0, a4), (0, (w32 ((w32 (v5 + (-1))) - 1))), (2, 41)]) rfl ⟨rfl, Or.inr ⟨_, rfl, by decide⟩⟩ (by decide) (fun z => absurd z (by decide)) rfl rfl (Nat.le_of_ble_eq_true rfl) h (fun w hw => t_X_at (d + 1) _ _ _ _ hw) (fun a6 μ7 h => ?_)
          refine rn_sls 0 (pc' := 163) (ls' := [(5, (0, (w32 (v5 + (-1))))), (8, (0, a4)), (0, (2, 40)), (1, (2, v1)), (3, (2, v3)), (4, (0, v4)), (6, (0, v6)), (7, (0, v7))]) (st' := [(0, a6), (0, a4), (0, (w32 ((w32 (v5 + (-1))) - 1))), (2, 41)]) rfl ?_
          refine rn_sls 3 (pc' := 169) (ls' := [(5, (0, (w32 (v5 + (-1))))), (8, (0, a4)), (0, (2, 40)), (1, (2, v1)), (3, (2, v3)), (4, (0, v4)), (6, (0, v6)), (7, (0, v7))]) (st' := [(0, (w32 (v5 + (-1)))), (2, 41), (0, a6), (0, a4), (0, (w32 ((w32 (v5 + (-1))) - 1))), (2, 41)]) rfl ?_
          refine rn_call 3 0 [(2, 41), (0, (w32 (v5 + (-1))))] (r := [(0, a6), (0, a4), (0, (w32 ((w32 (v5 + (-1))) - 1))), (2, 41)]) rfl ⟨rfl, Or.inr ⟨_, rfl, by decide⟩⟩ (by decide) (fun z => absurd z (by decide)) rfl rfl (Nat.le_of_ble_eq_true rfl) h (fun w hw => t_X_at (d + 1) _ _ _ _ hw) (fun a8 μ9 h => ?_)
          refine rn_sls 0 (pc' := 172) (ls' := [(5, (0, (w32 (v5 + (-1))))), (8, (0, a4)), (0, (2, 40)), (1, (2, v1)), (3, (2, v3)), (4, (0, v4)), (6, (0, v6)), (7, (0, v7))]) (st' := [(0, a8), (0, a6), (0, a4), (0, (w32 ((w32 (v5 + (-1))) - 1))), (2, 41)]) rfl ?_
          refine rn_call 2 0 [(0, a4), (0, a6), (0, a8)] (r := [(0, (w32 ((w32 (v5 + (-1))) - 1))), (2, 41)]) rfl ⟨rfl, Or.inr ⟨_, rfl, by decide⟩⟩ (by decide) (fun z => absurd z (by decide)) rfl rfl (Nat.le_of_ble_eq_true rfl) h (fun w hw => t_Rk_joined (d + 1) _ _ _ _ _ hw) (fun a10 μ11 h => ?_)
          refine rn_sls 0 (pc' := 175) (ls' := [(5, (0, (w32 (v5 + (-1))))), (8, (0, a4)), (0, (2, 40)), (1, (2, v1)), (3, (2, v3)), (4, (0, v4)), (6, (0, v6)), (7, (0, v7))]) (st' := [(0, a10), (0, (w32 ((w32 (v5 + (-1))) - 1))), (2, 41)]) rfl ?_
          refine rn_call 3 2 [(2, 41), (0, (w32 ((w32 (v5 + (-1))) - 1))), (0, a10)] (r := []) rfl ⟨rfl, Or.inr ⟨_, rfl, by decide⟩⟩ (by decide) (fun z => absurd z (by decide)) rfl rfl (Nat.le_of_ble_eq_true rfl) h (fun w hw => t_X_put (d + 1) _ _ _ _ _ hw) (fun a12 μ13 h => ?_)
          refine rn_sls 0 (pc' := 178) (ls' := [(5, (0, (w32 (v5 + (-1))))), (8, (0, a4)), (0, (2, 40)), (1, (2, v1)), (3, (2, v3)), (4, (0, v4)), (6, (0, v6)), (7, (0, v7))]) (st' := []) rfl ?_
          exact rn_sub [2, 3, 4, 5, 0, 6, 7] rfl (t_Rk_reckon_B178 d k23 hk23 _ _ _ _ _ _ _ _ h)
  · refine rn_sls 3 (pc' := 189) (ls' := [(0, (2, 40)), (1, (2, v1)), (3, (2, v3)), (4, (0, v4)), (5, (0, v5)), (6, (0, v6)), (7, (0, v7))]) (st' := [(0, 0), (2, 41)]) rfl ?_
    refine rn_call 3 0 [(2, 41), (0, 0)] (r := []) rfl ⟨rfl, Or.inr ⟨_, rfl, by decide⟩⟩ (by decide) (fun z => absurd z (by decide)) rfl rfl (Nat.le_of_ble_eq_true rfl) h (fun w hw => t_X_at (d + 1) _ _ _ _ hw) (fun a1 μ2 h => ?_)
    refine rn_sls 0 (pc' := 192) (ls' := [(0, (2, 40)), (1, (2, v1)), (3, (2, v3)), (4, (0, v4)), (5, (0, v5)), (6, (0, v6)), (7, (0, v7))]) (st' := [(0, a1)]) rfl ?_
    exact rn_ireti rfl rfl rfl h rfl
set_option maxRecDepth 20000 in
theorem t_Rk_reckon_L23 (d : Nat) : ∀ (n : Nat) (v1 : Int) (v3 : Int) (v4 : Int) (v5 : Int) (v6 : Int) (v7 : Int) (μ : am_M) q, Rk_reckon_L23 n v1 v3 v4 v5 v6 v7 μ = some q → am_run none (am_ar g_mt (d + 2)) 9 (some .int) k_Rk_reckon 23 [(0, (2, 40)), (1, (2, v1)), (3, (2, v3)), (4, (0, v4)), (5, (0, v5)), (6, (0, v6)), (7, (0, v7))] [] μ (am_res 0 q) := by
  intro n
  induction n with
  | zero => intro v1 v3 v4 v5 v6 v7 μ q h; cases h
  | succ n ih => intro v1 v3 v4 v5 v6 v7 μ q h; exact t_Rk_reckon_L23_b d (Rk_reckon_L23 n) ih v1 v3 v4 v5 v6 v7 μ q h
set_option maxRecDepth 20000 in
theorem t_Rk_reckon (d : Nat) : ∀ (v1 : Int) (v2 : Int) (v3 : Int) (v4 : Int) (μ : am_M) q, Rk_reckon v1 v2 v3 v4 μ = some q → am_ar g_mt (d + 3) 90 [(2, 40), (2, v1), (0, v2), (2, v3), (0, v4)] μ (am_res 0 q) := by
  intro v1 v2 v3 v4 μ q h
  unfold Rk_reckon at h
  refine am_ar_of (d := d + 2) i_Rk_reckon rfl rfl (Nat.le_of_ble_eq_true rfl) ?_
  show am_run none (am_ar g_mt (d + 2)) 9 (some .int) k_Rk_reckon 0 [(0, (2, 40)), (1, (2, v1)), (2, (0, v2)), (3, (2, v3)), (4, (0, v4))] [] μ (am_res 0 q)
  refine rn_sls 3 (pc' := 4) (ls' := [(5, (0, 0)), (0, (2, 40)), (1, (2, v1)), (2, (0, v2)), (3, (2, v3)), (4, (0, v4))]) (st' := [(2, v1)]) rfl ?_
  refine rn_gd h (fun ho1 h => ?_)
  refine rn_get ho1 rfl rfl rfl ?_
  refine rn_sls 0 (pc' := 7) (ls' := [(5, (0, 0)), (0, (2, 40)), (1, (2, v1)), (2, (0, v2)), (3, (2, v3)), (4, (0, v4))]) (st' := [(2, (v1 + 9))]) rfl ?_
  refine rn_sls 1 (pc' := 8) (ls' := [(5, (0, 0)), (0, (2, 40)), (1, (2, v1)), (2, (0, v2)), (3, (2, v3)), (4, (0, v4))]) (st' := [(0, v2), (2, (v1 + 9))]) rfl ?_
  refine rn_call 3 0 [(2, (v1 + 9)), (0, v2)] (r := []) rfl ⟨rfl, Or.inr ⟨_, rfl, by decide⟩⟩ (by decide) (fun z => absurd z (by decide)) rfl rfl (Nat.le_of_ble_eq_true rfl) h (fun w hw => t_X_at (d + 1) _ _ _ _ hw) (fun a2 μ3 h => ?_)
  refine rn_sls 0 (pc' := 11) (ls' := [(5, (0, 0)), (0, (2, 40)), (1, (2, v1)), (2, (0, v2)), (3, (2, v3)), (4, (0, v4))]) (st' := [(0, a2)]) rfl ?_
  refine rn_sls 2 (pc' := 14) (ls' := [(6, (0, a2)), (5, (0, 0)), (0, (2, 40)), (1, (2, v1)), (2, (0, v2)), (3, (2, v3)), (4, (0, v4))]) (st' := [(2, v1)]) rfl ?_
  refine rn_get ho1 rfl rfl rfl ?_
  refine rn_sls 0 (pc' := 17) (ls' := [(6, (0, a2)), (5, (0, 0)), (0, (2, 40)), (1, (2, v1)), (2, (0, v2)), (3, (2, v3)), (4, (0, v4))]) (st' := [(2, (v1 + 8))]) rfl ?_
  refine rn_sls 1 (pc' := 18) (ls' := [(6, (0, a2)), (5, (0, 0)), (0, (2, 40)), (1, (2, v1)), (2, (0, v2)), (3, (2, v3)), (4, (0, v4))]) (st' := [(0, v2), (2, (v1 + 8))]) rfl ?_
  refine rn_call 3 0 [(2, (v1 + 8)), (0, v2)] (r := []) rfl ⟨rfl, Or.inr ⟨_, rfl, by decide⟩⟩ (by decide) (fun z => absurd z (by decide)) rfl rfl (Nat.le_of_ble_eq_true rfl) h (fun w hw => t_X_at (d + 1) _ _ _ _ hw) (fun a4 μ5 h => ?_)
  refine rn_sls 0 (pc' := 21) (ls' := [(6, (0, a2)), (5, (0, 0)), (0, (2, 40)), (1, (2, v1)), (2, (0, v2)), (3, (2, v3)), (4, (0, v4))]) (st' := [(0, a4)]) rfl ?_
  refine rn_sls 1 (pc' := 23) (ls' := [(7, (0, a4)), (6, (0, a2)), (5, (0, 0)), (0, (2, 40)), (1, (2, v1)), (2, (0, v2)), (3, (2, v3)), (4, (0, v4))]) (st' := []) rfl ?_
  exact rn_sub [3, 4, 6, 7, 2, 1, 0] rfl (t_Rk_reckon_L23 d  am_FU _ _ _ _ _ _ _ _ h)
set_option maxRecDepth 20000 in
theorem t_Mc_reckoned (d : Nat) : ∀ (b : Int) (v1 : Int) (v2 : Int) (μ : am_M) q, Mc_reckoned b v1 v2 μ = some q → am_ar g_mt (d + 4) 38 [(2, b), (2, v1), (0, v2)] μ (am_res 0 q) := by
  intro b v1 v2 μ q h
  unfold Mc_reckoned at h
  refine am_ar_of (d := d + 3) i_Mc_reckoned rfl rfl (Nat.le_of_ble_eq_true rfl) ?_
  show am_run none (am_ar g_mt (d + 3)) 3 (some .int) k_Mc_reckoned 0 [(0, (2, b)), (1, (2, v1)), (2, (0, v2))] [] μ (am_res 0 q)
  refine rn_sls 1 (pc' := 1) (ls' := [(0, (2, b)), (1, (2, v1)), (2, (0, v2))]) (st' := [(2, b)]) rfl ?_
  refine rn_gd h (fun ho1 h => ?_)
  refine rn_get ho1 rfl rfl rfl ?_
  refine rn_sls 0 (pc' := 4) (ls' := [(0, (2, b)), (1, (2, v1)), (2, (0, v2))]) (st' := [(2, 40)]) rfl ?_
  refine rn_sls 3 (pc' := 7) (ls' := [(0, (2, b)), (1, (2, v1)), (2, (0, v2))]) (st' := [(2, b), (0, v2), (2, v1), (2, 40)]) rfl ?_
  refine rn_get ho1 rfl rfl rfl ?_
  refine rn_sls 0 (pc' := 10) (ls' := [(0, (2, b)), (1, (2, v1)), (2, (0, v2))]) (st' := [(2, (b + 3)), (0, v2), (2, v1), (2, 40)]) rfl ?_
  refine rn_sls 1 (pc' := 11) (ls' := [(0, (2, b)), (1, (2, v1)), (2, (0, v2))]) (st' := [(2, b), (2, (b + 3)), (0, v2), (2, v1), (2, 40)]) rfl ?_
  refine rn_get ho1 rfl rfl rfl ?_
  refine rn_sls 0 (pc' := 14) (ls' := [(0, (2, b)), (1, (2, v1)), (2, (0, v2))]) (st' := [(0, (μ b 5)), (2, (b + 3)), (0, v2), (2, v1), (2, 40)]) rfl ?_
  refine rn_sls 4 (pc' := 19) (ls' := [(0, (2, b)), (1, (2, v1)), (2, (0, v2))]) (st' := [(0, (w32 ((w32 ((μ b 5) - 1)) * 10))), (2, (b + 3)), (0, v2), (2, v1), (2, 40)]) rfl ?_
  refine rn_call 0 0 [(2, 40), (2, v1), (0, v2), (2, (b + 3)), (0, (w32 ((w32 ((μ b 5) - 1)) * 10)))] (r := []) rfl ⟨rfl, Or.inl ⟨_, rfl, by decide⟩⟩ (by decide) (fun _ => ⟨_, rfl, rfl⟩) rfl rfl (Nat.le_of_ble_eq_true rfl) h (fun w hw => t_Rk_reckon (d + 0) _ _ _ _ _ _ hw) (fun a2 μ3 h => ?_)
  refine rn_sls 0 (pc' := 22) (ls' := [(0, (2, b)), (1, (2, v1)), (2, (0, v2))]) (st' := [(0, a2)]) rfl ?_
  exact rn_ireti rfl rfl rfl h rfl
set_option maxRecDepth 20000 in
theorem t_Mc_lay (d : Nat) : ∀ (b : Int) (v1 : Int) (v2 : Int) (μ : am_M) q, Mc_lay b v1 v2 μ = some q → am_ar g_mt (d + 2) 39 [(2, b), (0, v1), (0, v2)] μ (am_res 2 q) := by
  intro b v1 v2 μ q h
  unfold Mc_lay at h
  refine am_ar_of (d := d + 1) i_Mc_lay rfl rfl (Nat.le_of_ble_eq_true rfl) ?_
  show am_run none (am_ar g_mt (d + 1)) 4 none k_Mc_lay 0 [(0, (2, b)), (1, (0, v1)), (2, (0, v2))] [] μ (am_res 2 q)
  refine rn_sls 2 (pc' := 2) (ls' := [(0, (2, b)), (1, (0, v1)), (2, (0, v2))]) (st' := [(0, (-1)), (0, v1)]) rfl ?_
  refine rn_icmp (t := 46) rfl rfl rfl rfl h (fun h => ?_) (fun h => ?_)
  · exact rn_ret (v := 0) rfl rfl rfl h rfl
  · refine rn_sls 1 (pc' := 6) (ls' := [(0, (2, b)), (1, (0, v1)), (2, (0, v2))]) (st' := [(2, b)]) rfl ?_
    refine rn_gd h (fun ho1 h => ?_)
    refine rn_get ho1 rfl rfl rfl ?_
    refine rn_sls 0 (pc' := 9) (ls' := [(0, (2, b)), (1, (0, v1)), (2, (0, v2))]) (st' := [(0, (μ b 5))]) rfl ?_
    refine rn_sls 4 (pc' := 13) (ls' := [(3, (0, (w32 ((μ b 5) - 1)))), (0, (2, b)), (1, (0, v1)), (2, (0, v2))]) (st' := [(2, b)]) rfl ?_
    refine rn_get ho1 rfl rfl rfl ?_
    refine rn_sls 0 (pc' := 16) (ls' := [(3, (0, (w32 ((μ b 5) - 1)))), (0, (2, b)), (1, (0, v1)), (2, (0, v2))]) (st' := [(2, (b + 2))]) rfl ?_
    refine rn_sls 2 (pc' := 18) (ls' := [(3, (0, (w32 ((μ b 5) - 1)))), (0, (2, b)), (1, (0, v1)), (2, (0, v2))]) (st' := [(2, b), (0, (w32 ((μ b 5) - 1))), (2, (b + 2))]) rfl ?_
    refine rn_get ho1 rfl rfl rfl ?_
    refine rn_sls 0 (pc' := 21) (ls' := [(3, (0, (w32 ((μ b 5) - 1)))), (0, (2, b)), (1, (0, v1)), (2, (0, v2))]) (st' := [(2, (b + 2)), (0, (w32 ((μ b 5) - 1))), (2, (b + 2))]) rfl ?_
    refine rn_sls 1 (pc' := 22) (ls' := [(3, (0, (w32 ((μ b 5) - 1)))), (0, (2, b)), (1, (0, v1)), (2, (0, v2))]) (st' := [(0, (w32 ((μ b 5) - 1))), (2, (b + 2)), (0, (w32 ((μ b 5) - 1))), (2, (b + 2))]) rfl ?_
    refine rn_call 3 0 [(2, (b + 2)), (0, (w32 ((μ b 5) - 1)))] (r := [(0, (w32 ((μ b 5) - 1))), (2, (b + 2))]) rfl ⟨rfl, Or.inr ⟨_, rfl, by decide⟩⟩ (by decide) (fun z => absurd z (by decide)) rfl rfl (Nat.le_of_ble_eq_true rfl) h (fun w hw => t_X_at (d + 0) _ _ _ _ hw) (fun a2 μ3 h => ?_)
    refine rn_sls 0 (pc' := 25) (ls' := [(3, (0, (w32 ((μ b 5) - 1)))), (0, (2, b)), (1, (0, v1)), (2, (0, v2))]) (st' := [(0, a2), (0, (w32 ((μ b 5) - 1))), (2, (b + 2))]) rfl ?_
    refine rn_sls 4 (pc' := 29) (ls' := [(3, (0, (w32 ((μ b 5) - 1)))), (0, (2, b)), (1, (0, v1)), (2, (0, v2))]) (st' := [(0, (aOr a2 (aShl 1 v1))), (0, (w32 ((μ b 5) - 1))), (2, (b + 2))]) rfl ?_
    refine rn_call 3 2 [(2, (b + 2)), (0, (w32 ((μ b 5) - 1))), (0, (aOr a2 (aShl 1 v1)))] (r := []) rfl ⟨rfl, Or.inr ⟨_, rfl, by decide⟩⟩ (by decide) (fun z => absurd z (by decide)) rfl rfl (Nat.le_of_ble_eq_true rfl) h (fun w hw => t_X_put (d + 0) _ _ _ _ _ hw) (fun a4 μ5 h => ?_)
    refine rn_sls 0 (pc' := 32) (ls' := [(3, (0, (w32 ((μ b 5) - 1)))), (0, (2, b)), (1, (0, v1)), (2, (0, v2))]) (st' := []) rfl ?_
    refine rn_sls 1 (pc' := 33) (ls' := [(3, (0, (w32 ((μ b 5) - 1)))), (0, (2, b)), (1, (0, v1)), (2, (0, v2))]) (st' := [(2, b)]) rfl ?_
    refine rn_get ho1 rfl rfl rfl ?_
    refine rn_sls 0 (pc' := 36) (ls' := [(3, (0, (w32 ((μ b 5) - 1)))), (0, (2, b)), (1, (0, v1)), (2, (0, v2))]) (st' := [(2, (b + 3))]) rfl ?_
    refine rn_sls 6 (pc' := 43) (ls' := [(3, (0, (w32 ((μ b 5) - 1)))), (0, (2, b)), (1, (0, v1)), (2, (0, v2))]) (st' := [(0, v2), (0, (w32 ((w32 ((w32 ((μ b 5) - 1)) * 10)) + v1))), (2, (b + 3))]) rfl ?_
    refine rn_call 3 2 [(2, (b + 3)), (0, (w32 ((w32 ((w32 ((μ b 5) - 1)) * 10)) + v1))), (0, v2)] (r := []) rfl ⟨rfl, Or.inr ⟨_, rfl, by decide⟩⟩ (by decide) (fun z => absurd z (by decide)) rfl rfl (Nat.le_of_ble_eq_true rfl) h (fun w hw => t_X_put (d + 0) _ _ _ _ _ hw) (fun a6 μ7 h => ?_)
    refine rn_sls 0 (pc' := 46) (ls' := [(3, (0, (w32 ((μ b 5) - 1)))), (0, (2, b)), (1, (0, v1)), (2, (0, v2))]) (st' := []) rfl ?_
    exact rn_ret (v := 0) rfl rfl rfl h rfl
set_option maxRecDepth 20000 in
theorem t_Mc_dropGone (d : Nat) : ∀ (b : Int) (v1 : Int) (v2 : Int) (μ : am_M) q, Mc_dropGone b v1 v2 μ = some q → am_ar g_mt (d + 2) 40 [(2, b), (2, v1), (0, v2)] μ (am_res 2 q) := by
  intro b v1 v2 μ q h
  unfold Mc_dropGone at h
  refine am_ar_of (d := d + 1) i_Mc_dropGone rfl rfl (Nat.le_of_ble_eq_true rfl) ?_
  show am_run none (am_ar g_mt (d + 1)) 5 none k_Mc_dropGone 0 [(0, (2, b)), (1, (2, v1)), (2, (0, v2))] [] μ (am_res 2 q)
  refine rn_sls 1 (pc' := 1) (ls' := [(0, (2, b)), (1, (2, v1)), (2, (0, v2))]) (st' := [(2, b)]) rfl ?_
  refine rn_gd h (fun ho1 h => ?_)
  refine rn_get ho1 rfl rfl rfl ?_
  refine rn_sls 0 (pc' := 4) (ls' := [(0, (2, b)), (1, (2, v1)), (2, (0, v2))]) (st' := [(0, (μ b 1))]) rfl ?_
  refine rn_if (t := 66) rfl rfl rfl rfl h (fun h => ?_) (fun h => ?_)
  · exact rn_ret (v := 0) rfl rfl rfl h rfl
  · refine rn_sls 1 (pc' := 8) (ls' := [(0, (2, b)), (1, (2, v1)), (2, (0, v2))]) (st' := [(2, b)]) rfl ?_
    refine rn_get ho1 rfl rfl rfl ?_
    refine rn_sls 0 (pc' := 11) (ls' := [(0, (2, b)), (1, (2, v1)), (2, (0, v2))]) (st' := [(2, (b + 2))]) rfl ?_
    refine rn_sls 1 (pc' := 12) (ls' := [(0, (2, b)), (1, (2, v1)), (2, (0, v2))]) (st' := [(2, b), (2, (b + 2))]) rfl ?_
    refine rn_get ho1 rfl rfl rfl ?_
    refine rn_sls 0 (pc' := 15) (ls' := [(0, (2, b)), (1, (2, v1)), (2, (0, v2))]) (st' := [(0, (μ b 5)), (2, (b + 2))]) rfl ?_
    refine rn_sls 2 (pc' := 17) (ls' := [(0, (2, b)), (1, (2, v1)), (2, (0, v2))]) (st' := [(0, (w32 ((μ b 5) - 1))), (2, (b + 2))]) rfl ?_
    refine rn_call 3 0 [(2, (b + 2)), (0, (w32 ((μ b 5) - 1)))] (r := []) rfl ⟨rfl, Or.inr ⟨_, rfl, by decide⟩⟩ (by decide) (fun z => absurd z (by decide)) rfl rfl (Nat.le_of_ble_eq_true rfl) h (fun w hw => t_X_at (d + 0) _ _ _ _ hw) (fun a2 μ3 h => ?_)
    refine rn_sls 0 (pc' := 20) (ls' := [(0, (2, b)), (1, (2, v1)), (2, (0, v2))]) (st' := [(0, a2)]) rfl ?_
    refine rn_sls 2 (pc' := 22) (ls' := [(3, (0, a2)), (0, (2, b)), (1, (2, v1)), (2, (0, v2))]) (st' := [(2, v1)]) rfl ?_
    refine rn_gd h (fun ho4 h => ?_)
    refine rn_get ho4 rfl rfl rfl ?_
    refine rn_sls 0 (pc' := 25) (ls' := [(3, (0, a2)), (0, (2, b)), (1, (2, v1)), (2, (0, v2))]) (st' := [(2, (v1 + 7))]) rfl ?_
    refine rn_sls 1 (pc' := 26) (ls' := [(3, (0, a2)), (0, (2, b)), (1, (2, v1)), (2, (0, v2))]) (st' := [(0, v2), (2, (v1 + 7))]) rfl ?_
    refine rn_call 3 0 [(2, (v1 + 7)), (0, v2)] (r := []) rfl ⟨rfl, Or.inr ⟨_, rfl, by decide⟩⟩ (by decide) (fun z => absurd z (by decide)) rfl rfl (Nat.le_of_ble_eq_true rfl) h (fun w hw => t_X_at (d + 0) _ _ _ _ hw) (fun a5 μ6 h => ?_)
    refine rn_sls 0 (pc' := 29) (ls' := [(3, (0, a2)), (0, (2, b)), (1, (2, v1)), (2, (0, v2))]) (st' := [(0, a5)]) rfl ?_
    refine rn_sls 3 (pc' := 33) (ls' := [(4, (0, a5)), (3, (0, a2)), (0, (2, b)), (1, (2, v1)), (2, (0, v2))]) (st' := [(2, b), (2, b)]) rfl ?_
    refine rn_get ho1 rfl rfl rfl ?_
    refine rn_sls 0 (pc' := 36) (ls' := [(4, (0, a5)), (3, (0, a2)), (0, (2, b)), (1, (2, v1)), (2, (0, v2))]) (st' := [(0, (μ6 b 9)), (2, b)]) rfl ?_
    refine rn_sls 3 (pc' := 40) (ls' := [(4, (0, a5)), (3, (0, a2)), (0, (2, b)), (1, (2, v1)), (2, (0, v2))]) (st' := [(0, (aAnd a2 a5)), (0, (μ6 b 9)), (2, b)]) rfl ?_
    refine rn_call 2 0 [(0, (aAnd a2 a5))] (r := [(0, (μ6 b 9)), (2, b)]) rfl ⟨rfl, Or.inr ⟨_, rfl, by decide⟩⟩ (by decide) (fun z => absurd z (by decide)) rfl rfl (Nat.le_of_ble_eq_true rfl) h (fun w hw => t_JI_bitCount (d + 0) _ _ _ hw) (fun a7 μ8 h => ?_)
    refine rn_sls 0 (pc' := 43) (ls' := [(4, (0, a5)), (3, (0, a2)), (0, (2, b)), (1, (2, v1)), (2, (0, v2))]) (st' := [(0, a7), (0, (μ6 b 9)), (2, b)]) rfl ?_
    refine rn_sls 1 (pc' := 44) (ls' := [(4, (0, a5)), (3, (0, a2)), (0, (2, b)), (1, (2, v1)), (2, (0, v2))]) (st' := [(0, (w32 ((μ6 b 9) + a7))), (2, b)]) rfl ?_
    refine rn_put rfl rfl ho1 rfl (Or.inl ⟨rfl, rfl⟩) rfl h (fun μ9 h => ?_)
    refine rn_sls 1 (pc' := 48) (ls' := [(4, (0, a5)), (3, (0, a2)), (0, (2, b)), (1, (2, v1)), (2, (0, v2))]) (st' := [(2, b)]) rfl ?_
    refine rn_get ho1 rfl rfl rfl ?_
    refine rn_sls 0 (pc' := 51) (ls' := [(4, (0, a5)), (3, (0, a2)), (0, (2, b)), (1, (2, v1)), (2, (0, v2))]) (st' := [(2, (b + 2))]) rfl ?_
    refine rn_sls 1 (pc' := 52) (ls' := [(4, (0, a5)), (3, (0, a2)), (0, (2, b)), (1, (2, v1)), (2, (0, v2))]) (st' := [(2, b), (2, (b + 2))]) rfl ?_
    refine rn_get ho1 rfl rfl rfl ?_
    refine rn_sls 0 (pc' := 55) (ls' := [(4, (0, a5)), (3, (0, a2)), (0, (2, b)), (1, (2, v1)), (2, (0, v2))]) (st' := [(0, (μ9 b 5)), (2, (b + 2))]) rfl ?_
    refine rn_sls 7 (pc' := 63) (ls' := [(4, (0, a5)), (3, (0, a2)), (0, (2, b)), (1, (2, v1)), (2, (0, v2))]) (st' := [(0, (aAnd a2 (aXor a5 (-1)))), (0, (w32 ((μ9 b 5) - 1))), (2, (b + 2))]) rfl ?_
    refine rn_call 3 2 [(2, (b + 2)), (0, (w32 ((μ9 b 5) - 1))), (0, (aAnd a2 (aXor a5 (-1))))] (r := []) rfl ⟨rfl, Or.inr ⟨_, rfl, by decide⟩⟩ (by decide) (fun z => absurd z (by decide)) rfl rfl (Nat.le_of_ble_eq_true rfl) h (fun w hw => t_X_put (d + 0) _ _ _ _ _ hw) (fun a10 μ11 h => ?_)
    refine rn_sls 0 (pc' := 66) (ls' := [(4, (0, a5)), (3, (0, a2)), (0, (2, b)), (1, (2, v1)), (2, (0, v2))]) (st' := []) rfl ?_
    exact rn_ret (v := 0) rfl rfl rfl h rfl
set_option maxRecDepth 20000 in
theorem t_Mc_workCall_L40_b (d : Nat) (k40 : Int → Int → Int → Int → Int → Int → Int → Int → am_M → am_O) (hk40 : ∀ (b : Int) (v1 : Int) (v2 : Int) (v3 : Int) (v4 : Int) (v5 : Int) (v6 : Int) (v7 : Int) (μ : am_M) q, k40 b v1 v2 v3 v4 v5 v6 v7 μ = some q → am_run none (am_ar g_mt (d + 2)) 9 none k_Mc_workCall 40 [(0, (2, b)), (1, (2, v1)), (2, (0, v2)), (3, (2, v3)), (4, (0, v4)), (5, (0, v5)), (6, (0, v6)), (7, (0, v7))] [] μ (am_res 2 q)) : ∀ (b : Int) (v1 : Int) (v2 : Int) (v3 : Int) (v4 : Int) (v5 : Int) (v6 : Int) (v7 : Int) (μ : am_M) q, Mc_workCall_L40_b k40 b v1 v2 v3 v4 v5 v6 v7 μ = some q → am_run none (am_ar g_mt (d + 2)) 9 none k_Mc_workCall 40 [(0, (2, b)), (1, (2, v1)), (2, (0, v2)), (3, (2, v3)), (4, (0, v4)), (5, (0, v5)), (6, (0, v6)), (7, (0, v7))] [] μ (am_res 2 q) := by
  intro b v1 v2 v3 v4 v5 v6 v7 μ q h
  unfold Mc_workCall_L40_b at h
  refine rn_sls 2 (pc' := 44) (ls' := [(0, (2, b)), (1, (2, v1)), (2, (0, v2)), (3, (2, v3)), (4, (0, v4)), (5, (0, v5)), (6, (0, v6)), (7, (0, v7))]) (st' := [(0, v6), (0, v7)]) rfl ?_
  refine rn_icmpn (t := 97) rfl rfl rfl rfl h (fun h => ?_) (fun h => ?_)
  · refine rn_sls 2 (pc' := 49) (ls' := [(0, (2, b)), (1, (2, v1)), (2, (0, v2)), (3, (2, v3)), (4, (0, v4)), (5, (0, v5)), (6, (0, v6)), (7, (0, v7))]) (st' := [(2, v3), (2, v3)]) rfl ?_
    refine rn_gd h (fun ho4 h => ?_)
    refine rn_get ho4 rfl rfl rfl ?_
    refine rn_sls 0 (pc' := 52) (ls' := [(0, (2, b)), (1, (2, v1)), (2, (0, v2)), (3, (2, v3)), (4, (0, v4)), (5, (0, v5)), (6, (0, v6)), (7, (0, v7))]) (st' := [(2, (v3 + 8)), (2, v3)]) rfl ?_
    refine rn_sls 1 (pc' := 53) (ls' := [(0, (2, b)), (1, (2, v1)), (2, (0, v2)), (3, (2, v3)), (4, (0, v4)), (5, (0, v5)), (6, (0, v6)), (7, (0, v7))]) (st' := [(0, v2), (2, (v3 + 8)), (2, v3)]) rfl ?_
    refine rn_call 3 0 [(2, (v3 + 8)), (0, v2)] (r := [(2, v3)]) rfl ⟨rfl, Or.inr ⟨_, rfl, by decide⟩⟩ (by decide) (fun z => absurd z (by decide)) rfl rfl (Nat.le_of_ble_eq_true rfl) h (fun w hw => t_X_at (d + 1) _ _ _ _ hw) (fun a5 μ6 h => ?_)
    refine rn_sls 0 (pc' := 56) (ls' := [(0, (2, b)), (1, (2, v1)), (2, (0, v2)), (3, (2, v3)), (4, (0, v4)), (5, (0, v5)), (6, (0, v6)), (7, (0, v7))]) (st' := [(0, a5), (2, v3)]) rfl ?_
    refine rn_sls 2 (pc' := 59) (ls' := [(0, (2, b)), (1, (2, v1)), (2, (0, v2)), (3, (2, v3)), (4, (0, v4)), (5, (0, v5)), (6, (0, v6)), (7, (0, v7))]) (st' := [(0, (w32 (a5 + v7))), (2, v3)]) rfl ?_
    refine rn_call 0 0 [(2, v3), (0, (w32 (a5 + v7)))] (r := []) rfl ⟨rfl, Or.inl ⟨_, rfl, by decide⟩⟩ (by decide) (fun _ => ⟨_, rfl, ho4⟩) rfl rfl (Nat.le_of_ble_eq_true rfl) h (fun w hw => t_Ln_codeNumber (d + 0) _ _ _ _ hw) (fun a7 μ8 h => ?_)
    refine rn_sls 0 (pc' := 62) (ls' := [(0, (2, b)), (1, (2, v1)), (2, (0, v2)), (3, (2, v3)), (4, (0, v4)), (5, (0, v5)), (6, (0, v6)), (7, (0, v7))]) (st' := [(0, a7)]) rfl ?_
    refine rn_sls 2 (pc' := 65) (ls' := [(8, (0, a7)), (0, (2, b)), (1, (2, v1)), (2, (0, v2)), (3, (2, v3)), (4, (0, v4)), (5, (0, v5)), (6, (0, v6)), (7, (0, v7))]) (st' := [(2, b)]) rfl ?_
    refine rn_gd h (fun ho9 h => ?_)
    refine rn_get ho9 rfl rfl rfl ?_
    refine rn_sls 0 (pc' := 68) (ls' := [(8, (0, a7)), (0, (2, b)), (1, (2, v1)), (2, (0, v2)), (3, (2, v3)), (4, (0, v4)), (5, (0, v5)), (6, (0, v6)), (7, (0, v7))]) (st' := [(2, (b + 3))]) rfl ?_
    refine rn_sls 6 (pc' := 77) (ls' := [(8, (0, a7)), (0, (2, b)), (1, (2, v1)), (2, (0, v2)), (3, (2, v3)), (4, (0, v4)), (5, (0, v5)), (6, (0, v6)), (7, (0, v7))]) (st' := [(2, b), (0, (w32 ((w32 (v5 + 10)) + v7))), (2, (b + 3))]) rfl ?_
    refine rn_get ho9 rfl rfl rfl ?_
    refine rn_sls 0 (pc' := 80) (ls' := [(8, (0, a7)), (0, (2, b)), (1, (2, v1)), (2, (0, v2)), (3, (2, v3)), (4, (0, v4)), (5, (0, v5)), (6, (0, v6)), (7, (0, v7))]) (st' := [(2, (b + 3)), (0, (w32 ((w32 (v5 + 10)) + v7))), (2, (b + 3))]) rfl ?_
    refine rn_sls 3 (pc' := 85) (ls' := [(8, (0, a7)), (0, (2, b)), (1, (2, v1)), (2, (0, v2)), (3, (2, v3)), (4, (0, v4)), (5, (0, v5)), (6, (0, v6)), (7, (0, v7))]) (st' := [(0, (w32 (v5 + a7))), (2, (b + 3)), (0, (w32 ((w32 (v5 + 10)) + v7))), (2, (b + 3))]) rfl ?_
    refine rn_call 3 0 [(2, (b + 3)), (0, (w32 (v5 + a7)))] (r := [(0, (w32 ((w32 (v5 + 10)) + v7))), (2, (b + 3))]) rfl ⟨rfl, Or.inr ⟨_, rfl, by decide⟩⟩ (by decide) (fun z => absurd z (by decide)) rfl rfl (Nat.le_of_ble_eq_true rfl) h (fun w hw => t_X_at (d + 1) _ _ _ _ hw) (fun a10 μ11 h => ?_)
    refine rn_sls 0 (pc' := 88) (ls' := [(8, (0, a7)), (0, (2, b)), (1, (2, v1)), (2, (0, v2)), (3, (2, v3)), (4, (0, v4)), (5, (0, v5)), (6, (0, v6)), (7, (0, v7))]) (st' := [(0, a10), (0, (w32 ((w32 (v5 + 10)) + v7))), (2, (b + 3))]) rfl ?_
    refine rn_call 3 2 [(2, (b + 3)), (0, (w32 ((w32 (v5 + 10)) + v7))), (0, a10)] (r := []) rfl ⟨rfl, Or.inr ⟨_, rfl, by decide⟩⟩ (by decide) (fun z => absurd z (by decide)) rfl rfl (Nat.le_of_ble_eq_true rfl) h (fun w hw => t_X_put (d + 1) _ _ _ _ _ hw) (fun a12 μ13 h => ?_)
    refine rn_sls 0 (pc' := 91) (ls' := [(8, (0, a7)), (0, (2, b)), (1, (2, v1)), (2, (0, v2)), (3, (2, v3)), (4, (0, v4)), (5, (0, v5)), (6, (0, v6)), (7, (0, v7))]) (st' := []) rfl ?_
    refine rn_sls 1 (pc' := 94) (ls' := [(7, (0, (w32 (v7 + 1)))), (8, (0, a7)), (0, (2, b)), (1, (2, v1)), (2, (0, v2)), (3, (2, v3)), (4, (0, v4)), (5, (0, v5)), (6, (0, v6))]) (st' := []) rfl ?_
    refine rn_goto (t := 40) rfl rfl rfl ?_
    exact rn_sub [2, 3, 4, 5, 6, 7, 8, 0] rfl (hk40 _ _ _ _ _ _ _ _ _ _ h)
  · refine rn_sls 3 (pc' := 101) (ls' := [(0, (2, b)), (1, (2, v1)), (2, (0, v2)), (3, (2, v3)), (4, (0, v4)), (5, (0, v5)), (6, (0, v6)), (7, (0, v7))]) (st' := [(0, v4), (2, v1), (2, b)]) rfl ?_
    refine rn_gd h (fun ho1 h => ?_)
    refine rn_call 0 2 [(2, b), (2, v1), (0, v4)] (r := []) rfl ⟨rfl, Or.inl ⟨_, rfl, by decide⟩⟩ (by decide) (fun _ => ⟨_, rfl, ho1⟩) rfl rfl (Nat.le_of_ble_eq_true rfl) h (fun w hw => t_Mc_enter (d + 0) _ _ _ _ _ hw) (fun a2 μ3 h => ?_)
    refine rn_sls 0 (pc' := 104) (ls' := [(0, (2, b)), (1, (2, v1)), (2, (0, v2)), (3, (2, v3)), (4, (0, v4)), (5, (0, v5)), (6, (0, v6)), (7, (0, v7))]) (st' := []) rfl ?_
    exact rn_ret (v := 0) rfl rfl rfl h rfl
set_option maxRecDepth 20000 in
theorem t_Mc_workCall_L40 (d : Nat) : ∀ (n : Nat) (b : Int) (v1 : Int) (v2 : Int) (v3 : Int) (v4 : Int) (v5 : Int) (v6 : Int) (v7 : Int) (μ : am_M) q, Mc_workCall_L40 n b v1 v2 v3 v4 v5 v6 v7 μ = some q → am_run none (am_ar g_mt (d + 2)) 9 none k_Mc_workCall 40 [(0, (2, b)), (1, (2, v1)), (2, (0, v2)), (3, (2, v3)), (4, (0, v4)), (5, (0, v5)), (6, (0, v6)), (7, (0, v7))] [] μ (am_res 2 q) := by
  intro n
  induction n with
  | zero => intro b v1 v2 v3 v4 v5 v6 v7 μ q h; cases h
  | succ n ih => intro b v1 v2 v3 v4 v5 v6 v7 μ q h; exact t_Mc_workCall_L40_b d (Mc_workCall_L40 n) ih b v1 v2 v3 v4 v5 v6 v7 μ q h
set_option maxRecDepth 20000 in
theorem t_Mc_workCall (d : Nat) : ∀ (b : Int) (v1 : Int) (v2 : Int) (μ : am_M) q, Mc_workCall b v1 v2 μ = some q → am_ar g_mt (d + 3) 41 [(2, b), (2, v1), (0, v2)] μ (am_res 2 q) := by
  intro b v1 v2 μ q h
  unfold Mc_workCall at h
  refine am_ar_of (d := d + 2) i_Mc_workCall rfl rfl (Nat.le_of_ble_eq_true rfl) ?_
  show am_run none (am_ar g_mt (d + 2)) 9 none k_Mc_workCall 0 [(0, (2, b)), (1, (2, v1)), (2, (0, v2))] [] μ (am_res 2 q)
  refine rn_sls 1 (pc' := 1) (ls' := [(0, (2, b)), (1, (2, v1)), (2, (0, v2))]) (st' := [(2, v1)]) rfl ?_
  refine rn_gd h (fun ho1 h => ?_)
  refine rn_get ho1 rfl rfl rfl ?_
  refine rn_sls 0 (pc' := 4) (ls' := [(0, (2, b)), (1, (2, v1)), (2, (0, v2))]) (st' := [(2, (v1 + 1))]) rfl ?_
  refine rn_sls 2 (pc' := 6) (ls' := [(3, (2, (v1 + 1))), (0, (2, b)), (1, (2, v1)), (2, (0, v2))]) (st' := [(2, (v1 + 1))]) rfl ?_
  refine rn_gd h (fun ho2 h => ?_)
  refine rn_get ho2 rfl rfl rfl ?_
  refine rn_sls 0 (pc' := 9) (ls' := [(3, (2, (v1 + 1))), (0, (2, b)), (1, (2, v1)), (2, (0, v2))]) (st' := [(2, ((v1 + 1) + 5))]) rfl ?_
  refine rn_sls 1 (pc' := 10) (ls' := [(3, (2, (v1 + 1))), (0, (2, b)), (1, (2, v1)), (2, (0, v2))]) (st' := [(0, v2), (2, ((v1 + 1) + 5))]) rfl ?_
  refine rn_call 3 0 [(2, ((v1 + 1) + 5)), (0, v2)] (r := []) rfl ⟨rfl, Or.inr ⟨_, rfl, by decide⟩⟩ (by decide) (fun z => absurd z (by decide)) rfl rfl (Nat.le_of_ble_eq_true rfl) h (fun w hw => t_X_at (d + 1) _ _ _ _ hw) (fun a3 μ4 h => ?_)
  refine rn_sls 0 (pc' := 13) (ls' := [(3, (2, (v1 + 1))), (0, (2, b)), (1, (2, v1)), (2, (0, v2))]) (st' := [(0, a3)]) rfl ?_
  refine rn_sls 2 (pc' := 16) (ls' := [(4, (0, a3)), (3, (2, (v1 + 1))), (0, (2, b)), (1, (2, v1)), (2, (0, v2))]) (st' := [(2, b)]) rfl ?_
  refine rn_gd h (fun ho5 h => ?_)
  refine rn_get ho5 rfl rfl rfl ?_
  refine rn_sls 0 (pc' := 19) (ls' := [(4, (0, a3)), (3, (2, (v1 + 1))), (0, (2, b)), (1, (2, v1)), (2, (0, v2))]) (st' := [(0, (μ4 b 5))]) rfl ?_
  refine rn_sls 6 (pc' := 27) (ls' := [(5, (0, (w32 ((w32 ((μ4 b 5) - 1)) * 10)))), (4, (0, a3)), (3, (2, (v1 + 1))), (0, (2, b)), (1, (2, v1)), (2, (0, v2))]) (st' := [(2, v1)]) rfl ?_
  refine rn_get ho1 rfl rfl rfl ?_
  refine rn_sls 0 (pc' := 30) (ls' := [(5, (0, (w32 ((w32 ((μ4 b 5) - 1)) * 10)))), (4, (0, a3)), (3, (2, (v1 + 1))), (0, (2, b)), (1, (2, v1)), (2, (0, v2))]) (st' := [(2, (v1 + 17))]) rfl ?_
  refine rn_sls 1 (pc' := 32) (ls' := [(5, (0, (w32 ((w32 ((μ4 b 5) - 1)) * 10)))), (4, (0, a3)), (3, (2, (v1 + 1))), (0, (2, b)), (1, (2, v1)), (2, (0, v2))]) (st' := [(0, a3), (2, (v1 + 17))]) rfl ?_
  refine rn_call 3 0 [(2, (v1 + 17)), (0, a3)] (r := []) rfl ⟨rfl, Or.inr ⟨_, rfl, by decide⟩⟩ (by decide) (fun z => absurd z (by decide)) rfl rfl (Nat.le_of_ble_eq_true rfl) h (fun w hw => t_X_at (d + 1) _ _ _ _ hw) (fun a6 μ7 h => ?_)
  refine rn_sls 0 (pc' := 35) (ls' := [(5, (0, (w32 ((w32 ((μ4 b 5) - 1)) * 10)))), (4, (0, a3)), (3, (2, (v1 + 1))), (0, (2, b)), (1, (2, v1)), (2, (0, v2))]) (st' := [(0, a6)]) rfl ?_
  refine rn_sls 3 (pc' := 40) (ls' := [(7, (0, 0)), (6, (0, a6)), (5, (0, (w32 ((w32 ((μ4 b 5) - 1)) * 10)))), (4, (0, a3)), (3, (2, (v1 + 1))), (0, (2, b)), (1, (2, v1)), (2, (0, v2))]) (st' := []) rfl ?_
  exact rn_sub [5, 6, 7, 4, 3, 2, 1, 0] rfl (t_Mc_workCall_L40 d  am_FU _ _ _ _ _ _ _ _ _ _ h)
set_option maxRecDepth 20000 in
theorem t_Mc_workGive (d : Nat) : ∀ (b : Int) (v1 : Int) (v2 : Int) (μ : am_M) q, Mc_workGive b v1 v2 μ = some q → am_ar g_mt (d + 3) 42 [(2, b), (2, v1), (0, v2)] μ (am_res 2 q) := by
  intro b v1 v2 μ q h
  unfold Mc_workGive at h
  refine am_ar_of (d := d + 2) i_Mc_workGive rfl rfl (Nat.le_of_ble_eq_true rfl) ?_
  show am_run none (am_ar g_mt (d + 2)) 4 none k_Mc_workGive 0 [(0, (2, b)), (1, (2, v1)), (2, (0, v2))] [] μ (am_res 2 q)
  refine rn_sls 2 (pc' := 2) (ls' := [(0, (2, b)), (1, (2, v1)), (2, (0, v2))]) (st' := [(2, b), (2, b)]) rfl ?_
  refine rn_gd h (fun ho1 h => ?_)
  refine rn_get ho1 rfl rfl rfl ?_
  refine rn_sls 0 (pc' := 5) (ls' := [(0, (2, b)), (1, (2, v1)), (2, (0, v2))]) (st' := [(0, (μ b 9)), (2, b)]) rfl ?_
  refine rn_sls 1 (pc' := 6) (ls' := [(0, (2, b)), (1, (2, v1)), (2, (0, v2))]) (st' := [(2, b), (0, (μ b 9)), (2, b)]) rfl ?_
  refine rn_get ho1 rfl rfl rfl ?_
  refine rn_sls 0 (pc' := 9) (ls' := [(0, (2, b)), (1, (2, v1)), (2, (0, v2))]) (st' := [(2, (b + 2)), (0, (μ b 9)), (2, b)]) rfl ?_
  refine rn_sls 1 (pc' := 10) (ls' := [(0, (2, b)), (1, (2, v1)), (2, (0, v2))]) (st' := [(2, b), (2, (b + 2)), (0, (μ b 9)), (2, b)]) rfl ?_
  refine rn_get ho1 rfl rfl rfl ?_
  refine rn_sls 0 (pc' := 13) (ls' := [(0, (2, b)), (1, (2, v1)), (2, (0, v2))]) (st' := [(0, (μ b 5)), (2, (b + 2)), (0, (μ b 9)), (2, b)]) rfl ?_
  refine rn_sls 2 (pc' := 15) (ls' := [(0, (2, b)), (1, (2, v1)), (2, (0, v2))]) (st' := [(0, (w32 ((μ b 5) - 1))), (2, (b + 2)), (0, (μ b 9)), (2, b)]) rfl ?_
  refine rn_call 3 0 [(2, (b + 2)), (0, (w32 ((μ b 5) - 1)))] (r := [(0, (μ b 9)), (2, b)]) rfl ⟨rfl, Or.inr ⟨_, rfl, by decide⟩⟩ (by decide) (fun z => absurd z (by decide)) rfl rfl (Nat.le_of_ble_eq_true rfl) h (fun w hw => t_X_at (d + 1) _ _ _ _ hw) (fun a2 μ3 h => ?_)
  refine rn_sls 0 (pc' := 18) (ls' := [(0, (2, b)), (1, (2, v1)), (2, (0, v2))]) (st' := [(0, a2), (0, (μ b 9)), (2, b)]) rfl ?_
  refine rn_call 2 0 [(0, a2)] (r := [(0, (μ b 9)), (2, b)]) rfl ⟨rfl, Or.inr ⟨_, rfl, by decide⟩⟩ (by decide) (fun z => absurd z (by decide)) rfl rfl (Nat.le_of_ble_eq_true rfl) h (fun w hw => t_JI_bitCount (d + 1) _ _ _ hw) (fun a4 μ5 h => ?_)
  refine rn_sls 0 (pc' := 21) (ls' := [(0, (2, b)), (1, (2, v1)), (2, (0, v2))]) (st' := [(0, a4), (0, (μ b 9)), (2, b)]) rfl ?_
  refine rn_sls 1 (pc' := 22) (ls' := [(0, (2, b)), (1, (2, v1)), (2, (0, v2))]) (st' := [(0, (w32 ((μ b 9) + a4))), (2, b)]) rfl ?_
  refine rn_put rfl rfl ho1 rfl (Or.inl ⟨rfl, rfl⟩) rfl h (fun μ6 h => ?_)
  refine rn_sls 2 (pc' := 27) (ls' := [(0, (2, b)), (1, (2, v1)), (2, (0, v2))]) (st' := [(2, b), (2, b)]) rfl ?_
  refine rn_get ho1 rfl rfl rfl ?_
  refine rn_sls 0 (pc' := 30) (ls' := [(0, (2, b)), (1, (2, v1)), (2, (0, v2))]) (st' := [(0, (μ6 b 5)), (2, b)]) rfl ?_
  refine rn_sls 2 (pc' := 32) (ls' := [(0, (2, b)), (1, (2, v1)), (2, (0, v2))]) (st' := [(0, (w32 ((μ6 b 5) - 1))), (2, b)]) rfl ?_
  refine rn_put rfl rfl ho1 rfl (Or.inl ⟨rfl, rfl⟩) rfl h (fun μ7 h => ?_)
  refine rn_sls 1 (pc' := 36) (ls' := [(0, (2, b)), (1, (2, v1)), (2, (0, v2))]) (st' := [(2, b)]) rfl ?_
  refine rn_get ho1 rfl rfl rfl ?_
  refine rn_sls 0 (pc' := 39) (ls' := [(0, (2, b)), (1, (2, v1)), (2, (0, v2))]) (st' := [(0, (μ7 b 5))]) rfl ?_
  refine rn_ifn (t := 55) rfl rfl rfl rfl h (fun h => ?_) (fun h => ?_)
  · refine rn_sls 2 (pc' := 44) (ls' := [(0, (2, b)), (1, (2, v1)), (2, (0, v2))]) (st' := [(0, 2), (2, b)]) rfl ?_
    refine rn_put rfl rfl ho1 rfl (Or.inl ⟨rfl, rfl⟩) rfl h (fun μ15 h => ?_)
    refine rn_sls 2 (pc' := 49) (ls' := [(0, (2, b)), (1, (2, v1)), (2, (0, v2))]) (st' := [(0, v2), (2, b)]) rfl ?_
    refine rn_put rfl rfl ho1 rfl (Or.inl ⟨rfl, rfl⟩) rfl h (fun μ16 h => ?_)
    refine rn_goto (t := 84) rfl rfl rfl ?_
    exact rn_ret (v := 0) rfl rfl rfl h rfl
  · refine rn_sls 1 (pc' := 56) (ls' := [(0, (2, b)), (1, (2, v1)), (2, (0, v2))]) (st' := [(2, b)]) rfl ?_
    refine rn_get ho1 rfl rfl rfl ?_
    refine rn_sls 0 (pc' := 59) (ls' := [(0, (2, b)), (1, (2, v1)), (2, (0, v2))]) (st' := [(2, (b + 1))]) rfl ?_
    refine rn_sls 1 (pc' := 60) (ls' := [(0, (2, b)), (1, (2, v1)), (2, (0, v2))]) (st' := [(2, b), (2, (b + 1))]) rfl ?_
    refine rn_get ho1 rfl rfl rfl ?_
    refine rn_sls 0 (pc' := 63) (ls' := [(0, (2, b)), (1, (2, v1)), (2, (0, v2))]) (st' := [(0, (μ7 b 5)), (2, (b + 1))]) rfl ?_
    refine rn_sls 2 (pc' := 65) (ls' := [(0, (2, b)), (1, (2, v1)), (2, (0, v2))]) (st' := [(0, (w32 ((μ7 b 5) - 1))), (2, (b + 1))]) rfl ?_
    refine rn_call 3 0 [(2, (b + 1)), (0, (w32 ((μ7 b 5) - 1)))] (r := []) rfl ⟨rfl, Or.inr ⟨_, rfl, by decide⟩⟩ (by decide) (fun z => absurd z (by decide)) rfl rfl (Nat.le_of_ble_eq_true rfl) h (fun w hw => t_X_at (d + 1) _ _ _ _ hw) (fun a8 μ9 h => ?_)
    refine rn_sls 0 (pc' := 68) (ls' := [(0, (2, b)), (1, (2, v1)), (2, (0, v2))]) (st' := [(0, a8)]) rfl ?_
    refine rn_sls 5 (pc' := 73) (ls' := [(3, (0, (w32 (a8 - 1)))), (0, (2, b)), (1, (2, v1)), (2, (0, v2))]) (st' := [(2, v1), (2, b)]) rfl ?_
    refine rn_gd h (fun ho10 h => ?_)
    refine rn_get ho10 rfl rfl rfl ?_
    refine rn_sls 0 (pc' := 76) (ls' := [(3, (0, (w32 (a8 - 1)))), (0, (2, b)), (1, (2, v1)), (2, (0, v2))]) (st' := [(2, (v1 + 2)), (2, b)]) rfl ?_
    refine rn_sls 1 (pc' := 77) (ls' := [(3, (0, (w32 (a8 - 1)))), (0, (2, b)), (1, (2, v1)), (2, (0, v2))]) (st' := [(0, (w32 (a8 - 1))), (2, (v1 + 2)), (2, b)]) rfl ?_
    refine rn_call 3 0 [(2, (v1 + 2)), (0, (w32 (a8 - 1)))] (r := [(2, b)]) rfl ⟨rfl, Or.inr ⟨_, rfl, by decide⟩⟩ (by decide) (fun z => absurd z (by decide)) rfl rfl (Nat.le_of_ble_eq_true rfl) h (fun w hw => t_X_at (d + 1) _ _ _ _ hw) (fun a11 μ12 h => ?_)
    refine rn_sls 0 (pc' := 80) (ls' := [(3, (0, (w32 (a8 - 1)))), (0, (2, b)), (1, (2, v1)), (2, (0, v2))]) (st' := [(0, a11), (2, b)]) rfl ?_
    refine rn_sls 1 (pc' := 81) (ls' := [(3, (0, (w32 (a8 - 1)))), (0, (2, b)), (1, (2, v1)), (2, (0, v2))]) (st' := [(0, v2), (0, a11), (2, b)]) rfl ?_
    refine rn_call 0 2 [(2, b), (0, a11), (0, v2)] (r := []) rfl ⟨rfl, Or.inl ⟨_, rfl, by decide⟩⟩ (by decide) (fun _ => ⟨_, rfl, ho1⟩) rfl rfl (Nat.le_of_ble_eq_true rfl) h (fun w hw => t_Mc_lay (d + 0) _ _ _ _ _ hw) (fun a13 μ14 h => ?_)
    refine rn_sls 0 (pc' := 84) (ls' := [(3, (0, (w32 (a8 - 1)))), (0, (2, b)), (1, (2, v1)), (2, (0, v2))]) (st' := []) rfl ?_
    exact rn_ret (v := 0) rfl rfl rfl h rfl
set_option maxRecDepth 20000 in
theorem t_Mc_workKind_B117 (d : Nat) : ∀ (s0 : Int) (s1 : Int) (s2 : Int) (μ : am_M) q, Mc_workKind_B117 s0 s1 s2 μ = some q → am_run none (am_ar g_mt (d + 4)) 7 none k_Mc_workKind 117 [] [(0, s2), (0, s1), (2, s0)] μ (am_res 2 q) := by
  intro s0 s1 s2 μ q h
  unfold Mc_workKind_B117 at h
  refine rn_sls 1 (pc' := 118) (ls' := []) (st' := [(0, (w32 (s1 + s2))), (2, s0)]) rfl ?_
  refine rn_gd h (fun ho1 h => ?_)
  refine rn_put rfl rfl ho1 rfl (Or.inl ⟨rfl, rfl⟩) rfl h (fun μ2 h => ?_)
  refine rn_goto (t := 222) rfl rfl rfl ?_
  exact rn_ret (v := 0) rfl rfl rfl h rfl
set_option maxRecDepth 20000 in
theorem t_Mc_workKind_B60 (d : Nat) : ∀ (b : Int) (v2 : Int) (v3 : Int) (v4 : Int) (μ : am_M) q, Mc_workKind_B60 b v2 v3 v4 μ = some q → am_run none (am_ar g_mt (d + 4)) 7 none k_Mc_workKind 60 [(0, (2, b)), (2, (0, v2)), (3, (0, v3)), (4, (2, v4))] [] μ (am_res 2 q) := by
  intro b v2 v3 v4 μ q h
  unfold Mc_workKind_B60 at h
  refine rn_sls 3 (pc' := 64) (ls' := [(0, (2, b)), (2, (0, v2)), (3, (0, v3)), (4, (2, v4))]) (st' := [(0, v2), (2, v4), (2, b)]) rfl ?_
  refine rn_gd h (fun ho1 h => ?_)
  refine rn_call 0 0 [(2, b), (2, v4), (0, v2)] (r := []) rfl ⟨rfl, Or.inl ⟨_, rfl, by decide⟩⟩ (by decide) (fun _ => ⟨_, rfl, ho1⟩) rfl rfl (Nat.le_of_ble_eq_true rfl) h (fun w hw => t_Mc_reckoned (d + 0) _ _ _ _ _ hw) (fun a2 μ3 h => ?_)
  refine rn_sls 0 (pc' := 67) (ls' := [(0, (2, b)), (2, (0, v2)), (3, (0, v3)), (4, (2, v4))]) (st' := [(0, a2)]) rfl ?_
  refine rn_sls 3 (pc' := 72) (ls' := [(6, (0, a2)), (0, (2, b)), (2, (0, v2)), (3, (0, v3)), (4, (2, v4))]) (st' := [(2, v4), (2, b)]) rfl ?_
  refine rn_gd h (fun ho4 h => ?_)
  refine rn_get ho4 rfl rfl rfl ?_
  refine rn_sls 0 (pc' := 75) (ls' := [(6, (0, a2)), (0, (2, b)), (2, (0, v2)), (3, (0, v3)), (4, (2, v4))]) (st' := [(2, (v4 + 2)), (2, b)]) rfl ?_
  refine rn_sls 1 (pc' := 76) (ls' := [(6, (0, a2)), (0, (2, b)), (2, (0, v2)), (3, (0, v3)), (4, (2, v4))]) (st' := [(0, v2), (2, (v4 + 2)), (2, b)]) rfl ?_
  refine rn_call 3 0 [(2, (v4 + 2)), (0, v2)] (r := [(2, b)]) rfl ⟨rfl, Or.inr ⟨_, rfl, by decide⟩⟩ (by decide) (fun z => absurd z (by decide)) rfl rfl (Nat.le_of_ble_eq_true rfl) h (fun w hw => t_X_at (d + 3) _ _ _ _ hw) (fun a5 μ6 h => ?_)
  refine rn_sls 0 (pc' := 79) (ls' := [(6, (0, a2)), (0, (2, b)), (2, (0, v2)), (3, (0, v3)), (4, (2, v4))]) (st' := [(0, a5), (2, b)]) rfl ?_
  refine rn_sls 1 (pc' := 81) (ls' := [(6, (0, a2)), (0, (2, b)), (2, (0, v2)), (3, (0, v3)), (4, (2, v4))]) (st' := [(0, a2), (0, a5), (2, b)]) rfl ?_
  refine rn_call 0 2 [(2, b), (0, a5), (0, a2)] (r := []) rfl ⟨rfl, Or.inl ⟨_, rfl, by decide⟩⟩ (by decide) (fun _ => ⟨_, rfl, ho1⟩) rfl rfl (Nat.le_of_ble_eq_true rfl) h (fun w hw => t_Mc_lay (d + 2) _ _ _ _ _ hw) (fun a7 μ8 h => ?_)
  refine rn_sls 0 (pc' := 84) (ls' := [(6, (0, a2)), (0, (2, b)), (2, (0, v2)), (3, (0, v3)), (4, (2, v4))]) (st' := []) rfl ?_
  refine rn_sls 2 (pc' := 87) (ls' := [(6, (0, a2)), (0, (2, b)), (2, (0, v2)), (3, (0, v3)), (4, (2, v4))]) (st' := [(2, v4), (2, b)]) rfl ?_
  refine rn_get ho4 rfl rfl rfl ?_
  refine rn_sls 0 (pc' := 90) (ls' := [(6, (0, a2)), (0, (2, b)), (2, (0, v2)), (3, (0, v3)), (4, (2, v4))]) (st' := [(2, (v4 + 3)), (2, b)]) rfl ?_
  refine rn_sls 1 (pc' := 91) (ls' := [(6, (0, a2)), (0, (2, b)), (2, (0, v2)), (3, (0, v3)), (4, (2, v4))]) (st' := [(0, v2), (2, (v4 + 3)), (2, b)]) rfl ?_
  refine rn_call 3 0 [(2, (v4 + 3)), (0, v2)] (r := [(2, b)]) rfl ⟨rfl, Or.inr ⟨_, rfl, by decide⟩⟩ (by decide) (fun z => absurd z (by decide)) rfl rfl (Nat.le_of_ble_eq_true rfl) h (fun w hw => t_X_at (d + 3) _ _ _ _ hw) (fun a9 μ10 h => ?_)
  refine rn_sls 0 (pc' := 94) (ls' := [(6, (0, a2)), (0, (2, b)), (2, (0, v2)), (3, (0, v3)), (4, (2, v4))]) (st' := [(0, a9), (2, b)]) rfl ?_
  refine rn_sls 1 (pc' := 96) (ls' := [(6, (0, a2)), (0, (2, b)), (2, (0, v2)), (3, (0, v3)), (4, (2, v4))]) (st' := [(0, a2), (0, a9), (2, b)]) rfl ?_
  refine rn_call 0 2 [(2, b), (0, a9), (0, a2)] (r := []) rfl ⟨rfl, Or.inl ⟨_, rfl, by decide⟩⟩ (by decide) (fun _ => ⟨_, rfl, ho1⟩) rfl rfl (Nat.le_of_ble_eq_true rfl) h (fun w hw => t_Mc_lay (d + 2) _ _ _ _ _ hw) (fun a11 μ12 h => ?_)
  refine rn_sls 0 (pc' := 99) (ls' := [(6, (0, a2)), (0, (2, b)), (2, (0, v2)), (3, (0, v3)), (4, (2, v4))]) (st' := []) rfl ?_
  refine rn_sls 2 (pc' := 101) (ls' := [(6, (0, a2)), (0, (2, b)), (2, (0, v2)), (3, (0, v3)), (4, (2, v4))]) (st' := [(2, b), (2, b)]) rfl ?_
  refine rn_get ho1 rfl rfl rfl ?_
  refine rn_sls 0 (pc' := 104) (ls' := [(6, (0, a2)), (0, (2, b)), (2, (0, v2)), (3, (0, v3)), (4, (2, v4))]) (st' := [(0, (μ12 b 10)), (2, b)]) rfl ?_
  refine rn_sls 2 (pc' := 106) (ls' := [(6, (0, a2)), (0, (2, b)), (2, (0, v2)), (3, (0, v3)), (4, (2, v4))]) (st' := [(0, 2), (0, v3), (0, (μ12 b 10)), (2, b)]) rfl ?_
  refine rn_icmpn (t := 116) rfl rfl rfl rfl h (fun h => ?_) (fun h => ?_)
  · refine rn_sls 1 (pc' := 110) (ls' := [(6, (0, a2)), (0, (2, b)), (2, (0, v2)), (3, (0, v3)), (4, (2, v4))]) (st' := [(2, b), (0, (μ12 b 10)), (2, b)]) rfl ?_
    refine rn_get ho1 rfl rfl rfl ?_
    refine rn_sls 0 (pc' := 113) (ls' := [(6, (0, a2)), (0, (2, b)), (2, (0, v2)), (3, (0, v3)), (4, (2, v4))]) (st' := [(0, (μ12 b 13)), (0, (μ12 b 10)), (2, b)]) rfl ?_
    refine rn_goto (t := 117) rfl rfl rfl ?_
    exact rn_sub [] rfl (t_Mc_workKind_B117 d  _ _ _ _ _ h)
  · refine rn_sls 1 (pc' := 117) (ls' := [(6, (0, a2)), (0, (2, b)), (2, (0, v2)), (3, (0, v3)), (4, (2, v4))]) (st' := [(0, 0), (0, (μ12 b 10)), (2, b)]) rfl ?_
    exact rn_sub [] rfl (t_Mc_workKind_B117 d  _ _ _ _ _ h)
set_option maxRecDepth 20000 in
theorem t_Mc_workKind (d : Nat) : ∀ (b : Int) (v1 : Int) (v2 : Int) (v3 : Int) (μ : am_M) q, Mc_workKind b v1 v2 v3 μ = some q → am_ar g_mt (d + 5) 37 [(2, b), (2, v1), (0, v2), (0, v3)] μ (am_res 2 q) := by
  intro b v1 v2 v3 μ q h
  unfold Mc_workKind at h
  refine am_ar_of (d := d + 4) i_Mc_workKind rfl rfl (Nat.le_of_ble_eq_true rfl) ?_
  show am_run none (am_ar g_mt (d + 4)) 7 none k_Mc_workKind 0 [(0, (2, b)), (1, (2, v1)), (2, (0, v2)), (3, (0, v3))] [] μ (am_res 2 q)
  refine rn_sls 1 (pc' := 1) (ls' := [(0, (2, b)), (1, (2, v1)), (2, (0, v2)), (3, (0, v3))]) (st' := [(2, v1)]) rfl ?_
  refine rn_gd h (fun ho1 h => ?_)
  refine rn_get ho1 rfl rfl rfl ?_
  refine rn_sls 0 (pc' := 4) (ls' := [(0, (2, b)), (1, (2, v1)), (2, (0, v2)), (3, (0, v3))]) (st' := [(2, (v1 + 1))]) rfl ?_
  refine rn_sls 2 (pc' := 7) (ls' := [(4, (2, (v1 + 1))), (0, (2, b)), (1, (2, v1)), (2, (0, v2)), (3, (0, v3))]) (st' := [(2, b)]) rfl ?_
  refine rn_gd h (fun ho2 h => ?_)
  refine rn_get ho2 rfl rfl rfl ?_
  refine rn_sls 0 (pc' := 10) (ls' := [(4, (2, (v1 + 1))), (0, (2, b)), (1, (2, v1)), (2, (0, v2)), (3, (0, v3))]) (st' := [(0, (μ b 5))]) rfl ?_
  refine rn_sls 4 (pc' := 15) (ls' := [(5, (0, (w32 ((μ b 5) - 1)))), (4, (2, (v1 + 1))), (0, (2, b)), (1, (2, v1)), (2, (0, v2)), (3, (0, v3))]) (st' := [(0, v3)]) rfl ?_
  refine rn_tsw rfl rfl ?_
  refine rn_swc (t := 60) rfl h (fun h => ?_) (fun h => ?_)
  · exact rn_sub [2, 4, 5, 1] rfl (t_Mc_workKind_B60 d  _ _ _ _ _ _ h)
  refine rn_swc (t := 60) rfl h (fun h => ?_) (fun h => ?_)
  · exact rn_sub [2, 4, 5, 1] rfl (t_Mc_workKind_B60 d  _ _ _ _ _ _ h)
  refine rn_swc (t := 222) rfl h (fun h => ?_) (fun h => ?_)
  · exact rn_ret (v := 0) rfl rfl rfl h rfl
  refine rn_swc (t := 124) rfl h (fun h => ?_) (fun h => ?_)
  · refine rn_sls 3 (pc' := 127) (ls' := [(5, (0, (w32 ((μ b 5) - 1)))), (4, (2, (v1 + 1))), (0, (2, b)), (1, (2, v1)), (2, (0, v2)), (3, (0, v3))]) (st' := [(0, v2), (2, v1), (2, b)]) rfl ?_
    refine rn_call 0 2 [(2, b), (2, v1), (0, v2)] (r := []) rfl ⟨rfl, Or.inl ⟨_, rfl, by decide⟩⟩ (by decide) (fun _ => ⟨_, rfl, ho2⟩) rfl rfl (Nat.le_of_ble_eq_true rfl) h (fun w hw => t_Mc_workCall (d + 1) _ _ _ _ _ hw) (fun a3 μ4 h => ?_)
    refine rn_sls 0 (pc' := 130) (ls' := [(5, (0, (w32 ((μ b 5) - 1)))), (4, (2, (v1 + 1))), (0, (2, b)), (1, (2, v1)), (2, (0, v2)), (3, (0, v3))]) (st' := []) rfl ?_
    refine rn_goto (t := 222) rfl rfl rfl ?_
    exact rn_ret (v := 0) rfl rfl rfl h rfl
  refine rn_swc (t := 133) rfl h (fun h => ?_) (fun h => ?_)
  · refine rn_sls 3 (pc' := 137) (ls' := [(5, (0, (w32 ((μ b 5) - 1)))), (4, (2, (v1 + 1))), (0, (2, b)), (1, (2, v1)), (2, (0, v2)), (3, (0, v3))]) (st' := [(0, v2), (2, (v1 + 1)), (2, b)]) rfl ?_
    refine rn_call 0 0 [(2, b), (2, (v1 + 1)), (0, v2)] (r := []) rfl ⟨rfl, Or.inl ⟨_, rfl, by decide⟩⟩ (by decide) (fun _ => ⟨_, rfl, ho2⟩) rfl rfl (Nat.le_of_ble_eq_true rfl) h (fun w hw => t_Mc_reckoned (d + 0) _ _ _ _ _ hw) (fun a5 μ6 h => ?_)
    refine rn_sls 0 (pc' := 140) (ls' := [(5, (0, (w32 ((μ b 5) - 1)))), (4, (2, (v1 + 1))), (0, (2, b)), (1, (2, v1)), (2, (0, v2)), (3, (0, v3))]) (st' := [(0, a5)]) rfl ?_
    refine rn_ifn (t := 222) rfl rfl rfl rfl h (fun h => ?_) (fun h => ?_)
    · refine rn_sls 1 (pc' := 144) (ls' := [(5, (0, (w32 ((μ b 5) - 1)))), (4, (2, (v1 + 1))), (0, (2, b)), (1, (2, v1)), (2, (0, v2)), (3, (0, v3))]) (st' := [(2, b)]) rfl ?_
      refine rn_get ho2 rfl rfl rfl ?_
      refine rn_sls 0 (pc' := 147) (ls' := [(5, (0, (w32 ((μ b 5) - 1)))), (4, (2, (v1 + 1))), (0, (2, b)), (1, (2, v1)), (2, (0, v2)), (3, (0, v3))]) (st' := [(2, (b + 1))]) rfl ?_
      refine rn_sls 2 (pc' := 151) (ls' := [(5, (0, (w32 ((μ b 5) - 1)))), (4, (2, (v1 + 1))), (0, (2, b)), (1, (2, v1)), (2, (0, v2)), (3, (0, v3))]) (st' := [(2, (v1 + 1)), (0, (w32 ((μ b 5) - 1))), (2, (b + 1))]) rfl ?_
      refine rn_gd h (fun ho7 h => ?_)
      refine rn_get ho7 rfl rfl rfl ?_
      refine rn_sls 0 (pc' := 154) (ls' := [(5, (0, (w32 ((μ b 5) - 1)))), (4, (2, (v1 + 1))), (0, (2, b)), (1, (2, v1)), (2, (0, v2)), (3, (0, v3))]) (st' := [(2, ((v1 + 1) + 6)), (0, (w32 ((μ b 5) - 1))), (2, (b + 1))]) rfl ?_
      refine rn_sls 1 (pc' := 155) (ls' := [(5, (0, (w32 ((μ b 5) - 1)))), (4, (2, (v1 + 1))), (0, (2, b)), (1, (2, v1)), (2, (0, v2)), (3, (0, v3))]) (st' := [(0, v2), (2, ((v1 + 1) + 6)), (0, (w32 ((μ b 5) - 1))), (2, (b + 1))]) rfl ?_
      refine rn_call 3 0 [(2, ((v1 + 1) + 6)), (0, v2)] (r := [(0, (w32 ((μ b 5) - 1))), (2, (b + 1))]) rfl ⟨rfl, Or.inr ⟨_, rfl, by decide⟩⟩ (by decide) (fun z => absurd z (by decide)) rfl rfl (Nat.le_of_ble_eq_true rfl) h (fun w hw => t_X_at (d + 3) _ _ _ _ hw) (fun a8 μ9 h => ?_)
      refine rn_sls 0 (pc' := 158) (ls' := [(5, (0, (w32 ((μ b 5) - 1)))), (4, (2, (v1 + 1))), (0, (2, b)), (1, (2, v1)), (2, (0, v2)), (3, (0, v3))]) (st' := [(0, a8), (0, (w32 ((μ b 5) - 1))), (2, (b + 1))]) rfl ?_
      refine rn_sls 2 (pc' := 160) (ls' := [(5, (0, (w32 ((μ b 5) - 1)))), (4, (2, (v1 + 1))), (0, (2, b)), (1, (2, v1)), (2, (0, v2)), (3, (0, v3))]) (st' := [(0, (w32 (a8 + 1))), (0, (w32 ((μ b 5) - 1))), (2, (b + 1))]) rfl ?_
      refine rn_call 3 2 [(2, (b + 1)), (0, (w32 ((μ b 5) - 1))), (0, (w32 (a8 + 1)))] (r := []) rfl ⟨rfl, Or.inr ⟨_, rfl, by decide⟩⟩ (by decide) (fun z => absurd z (by decide)) rfl rfl (Nat.le_of_ble_eq_true rfl) h (fun w hw => t_X_put (d + 3) _ _ _ _ _ hw) (fun a10 μ11 h => ?_)
      refine rn_sls 0 (pc' := 163) (ls' := [(5, (0, (w32 ((μ b 5) - 1)))), (4, (2, (v1 + 1))), (0, (2, b)), (1, (2, v1)), (2, (0, v2)), (3, (0, v3))]) (st' := []) rfl ?_
      refine rn_goto (t := 222) rfl rfl rfl ?_
      exact rn_ret (v := 0) rfl rfl rfl h rfl
    · exact rn_ret (v := 0) rfl rfl rfl h rfl
  refine rn_swc (t := 166) rfl h (fun h => ?_) (fun h => ?_)
  · refine rn_sls 3 (pc' := 170) (ls' := [(5, (0, (w32 ((μ b 5) - 1)))), (4, (2, (v1 + 1))), (0, (2, b)), (1, (2, v1)), (2, (0, v2)), (3, (0, v3))]) (st' := [(0, v2), (2, (v1 + 1)), (2, b)]) rfl ?_
    refine rn_call 0 2 [(2, b), (2, (v1 + 1)), (0, v2)] (r := []) rfl ⟨rfl, Or.inl ⟨_, rfl, by decide⟩⟩ (by decide) (fun _ => ⟨_, rfl, ho2⟩) rfl rfl (Nat.le_of_ble_eq_true rfl) h (fun w hw => t_Mc_dropGone (d + 2) _ _ _ _ _ hw) (fun a12 μ13 h => ?_)
    refine rn_sls 0 (pc' := 173) (ls' := [(5, (0, (w32 ((μ b 5) - 1)))), (4, (2, (v1 + 1))), (0, (2, b)), (1, (2, v1)), (2, (0, v2)), (3, (0, v3))]) (st' := []) rfl ?_
    refine rn_sls 1 (pc' := 174) (ls' := [(5, (0, (w32 ((μ b 5) - 1)))), (4, (2, (v1 + 1))), (0, (2, b)), (1, (2, v1)), (2, (0, v2)), (3, (0, v3))]) (st' := [(2, b)]) rfl ?_
    refine rn_get ho2 rfl rfl rfl ?_
    refine rn_sls 0 (pc' := 177) (ls' := [(5, (0, (w32 ((μ b 5) - 1)))), (4, (2, (v1 + 1))), (0, (2, b)), (1, (2, v1)), (2, (0, v2)), (3, (0, v3))]) (st' := [(2, (b + 1))]) rfl ?_
    refine rn_sls 2 (pc' := 181) (ls' := [(5, (0, (w32 ((μ b 5) - 1)))), (4, (2, (v1 + 1))), (0, (2, b)), (1, (2, v1)), (2, (0, v2)), (3, (0, v3))]) (st' := [(2, (v1 + 1)), (0, (w32 ((μ b 5) - 1))), (2, (b + 1))]) rfl ?_
    refine rn_gd h (fun ho14 h => ?_)
    refine rn_get ho14 rfl rfl rfl ?_
    refine rn_sls 0 (pc' := 184) (ls' := [(5, (0, (w32 ((μ b 5) - 1)))), (4, (2, (v1 + 1))), (0, (2, b)), (1, (2, v1)), (2, (0, v2)), (3, (0, v3))]) (st' := [(2, ((v1 + 1) + 6)), (0, (w32 ((μ b 5) - 1))), (2, (b + 1))]) rfl ?_
    refine rn_sls 1 (pc' := 185) (ls' := [(5, (0, (w32 ((μ b 5) - 1)))), (4, (2, (v1 + 1))), (0, (2, b)), (1, (2, v1)), (2, (0, v2)), (3, (0, v3))]) (st' := [(0, v2), (2, ((v1 + 1) + 6)), (0, (w32 ((μ b 5) - 1))), (2, (b + 1))]) rfl ?_
    refine rn_call 3 0 [(2, ((v1 + 1) + 6)), (0, v2)] (r := [(0, (w32 ((μ b 5) - 1))), (2, (b + 1))]) rfl ⟨rfl, Or.inr ⟨_, rfl, by decide⟩⟩ (by decide) (fun z => absurd z (by decide)) rfl rfl (Nat.le_of_ble_eq_true rfl) h (fun w hw => t_X_at (d + 3) _ _ _ _ hw) (fun a15 μ16 h => ?_)
    refine rn_sls 0 (pc' := 188) (ls' := [(5, (0, (w32 ((μ b 5) - 1)))), (4, (2, (v1 + 1))), (0, (2, b)), (1, (2, v1)), (2, (0, v2)), (3, (0, v3))]) (st' := [(0, a15), (0, (w32 ((μ b 5) - 1))), (2, (b + 1))]) rfl ?_
    refine rn_sls 2 (pc' := 190) (ls' := [(5, (0, (w32 ((μ b 5) - 1)))), (4, (2, (v1 + 1))), (0, (2, b)), (1, (2, v1)), (2, (0, v2)), (3, (0, v3))]) (st' := [(0, (w32 (a15 + 1))), (0, (w32 ((μ b 5) - 1))), (2, (b + 1))]) rfl ?_
    refine rn_call 3 2 [(2, (b + 1)), (0, (w32 ((μ b 5) - 1))), (0, (w32 (a15 + 1)))] (r := []) rfl ⟨rfl, Or.inr ⟨_, rfl, by decide⟩⟩ (by decide) (fun z => absurd z (by decide)) rfl rfl (Nat.le_of_ble_eq_true rfl) h (fun w hw => t_X_put (d + 3) _ _ _ _ _ hw) (fun a17 μ18 h => ?_)
    refine rn_sls 0 (pc' := 193) (ls' := [(5, (0, (w32 ((μ b 5) - 1)))), (4, (2, (v1 + 1))), (0, (2, b)), (1, (2, v1)), (2, (0, v2)), (3, (0, v3))]) (st' := []) rfl ?_
    refine rn_goto (t := 222) rfl rfl rfl ?_
    exact rn_ret (v := 0) rfl rfl rfl h rfl
  refine rn_swc (t := 196) rfl h (fun h => ?_) (fun h => ?_)
  · refine rn_sls 3 (pc' := 200) (ls' := [(5, (0, (w32 ((μ b 5) - 1)))), (4, (2, (v1 + 1))), (0, (2, b)), (1, (2, v1)), (2, (0, v2)), (3, (0, v3))]) (st' := [(0, v2), (2, (v1 + 1)), (2, b)]) rfl ?_
    refine rn_call 0 2 [(2, b), (2, (v1 + 1)), (0, v2)] (r := []) rfl ⟨rfl, Or.inl ⟨_, rfl, by decide⟩⟩ (by decide) (fun _ => ⟨_, rfl, ho2⟩) rfl rfl (Nat.le_of_ble_eq_true rfl) h (fun w hw => t_Mc_dropGone (d + 2) _ _ _ _ _ hw) (fun a19 μ20 h => ?_)
    refine rn_sls 0 (pc' := 203) (ls' := [(5, (0, (w32 ((μ b 5) - 1)))), (4, (2, (v1 + 1))), (0, (2, b)), (1, (2, v1)), (2, (0, v2)), (3, (0, v3))]) (st' := []) rfl ?_
    refine rn_goto (t := 222) rfl rfl rfl ?_
    exact rn_ret (v := 0) rfl rfl rfl h rfl
  refine rn_swc (t := 206) rfl h (fun h => ?_) (fun h => ?_)
  · refine rn_sls 5 (pc' := 213) (ls' := [(5, (0, (w32 ((μ b 5) - 1)))), (4, (2, (v1 + 1))), (0, (2, b)), (1, (2, v1)), (2, (0, v2)), (3, (0, v3))]) (st' := [(0, v2), (2, (v1 + 1)), (2, b), (2, (v1 + 1)), (2, b)]) rfl ?_
    refine rn_call 0 0 [(2, b), (2, (v1 + 1)), (0, v2)] (r := [(2, (v1 + 1)), (2, b)]) rfl ⟨rfl, Or.inl ⟨_, rfl, by decide⟩⟩ (by decide) (fun _ => ⟨_, rfl, ho2⟩) rfl rfl (Nat.le_of_ble_eq_true rfl) h (fun w hw => t_Mc_reckoned (d + 0) _ _ _ _ _ hw) (fun a21 μ22 h => ?_)
    refine rn_sls 0 (pc' := 216) (ls' := [(5, (0, (w32 ((μ b 5) - 1)))), (4, (2, (v1 + 1))), (0, (2, b)), (1, (2, v1)), (2, (0, v2)), (3, (0, v3))]) (st' := [(0, a21), (2, (v1 + 1)), (2, b)]) rfl ?_
    refine rn_call 0 2 [(2, b), (2, (v1 + 1)), (0, a21)] (r := []) rfl ⟨rfl, Or.inl ⟨_, rfl, by decide⟩⟩ (by decide) (fun _ => ⟨_, rfl, ho2⟩) rfl rfl (Nat.le_of_ble_eq_true rfl) h (fun w hw => t_Mc_workGive (d + 1) _ _ _ _ _ hw) (fun a23 μ24 h => ?_)
    refine rn_sls 0 (pc' := 219) (ls' := [(5, (0, (w32 ((μ b 5) - 1)))), (4, (2, (v1 + 1))), (0, (2, b)), (1, (2, v1)), (2, (0, v2)), (3, (0, v3))]) (st' := []) rfl ?_
    refine rn_goto (t := 222) rfl rfl rfl ?_
    exact rn_ret (v := 0) rfl rfl rfl h rfl
  refine rn_sw0 (t := 222) rfl ?_
  exact rn_ret (v := 0) rfl rfl rfl h rfl
set_option maxRecDepth 20000 in
theorem t_Mc_work_B55 (d : Nat) : ∀ (b : Int) (v1 : Int) (v2 : Int) (v3 : Int) (v4 : Int) (v5 : Int) (μ : am_M) q, Mc_work_B55 b v1 v2 v3 v4 v5 μ = some q → am_run none (am_ar g_mt (d + 5)) 6 (some .boolean) k_Mc_work 55 [(0, (2, b)), (1, (2, v1)), (2, (2, v2)), (3, (0, v3)), (4, (0, v4)), (5, (0, v5))] [] μ (am_res 0 q) := by
  intro b v1 v2 v3 v4 v5 μ q h
  unfold Mc_work_B55 at h
  refine rn_sls 3 (pc' := 59) (ls' := [(0, (2, b)), (1, (2, v1)), (2, (2, v2)), (3, (0, v3)), (4, (0, v4)), (5, (0, v5))]) (st' := [(0, v4), (2, v2), (2, b)]) rfl ?_
  refine rn_gd h (fun ho1 h => ?_)
  refine rn_call 0 0 [(2, b), (2, v2), (0, v4)] (r := []) rfl ⟨rfl, Or.inl ⟨_, rfl, by decide⟩⟩ (by decide) (fun _ => ⟨_, rfl, ho1⟩) rfl rfl (Nat.le_of_ble_eq_true rfl) h (fun w hw => t_Mc_readSlips (d + 1) _ _ _ _ _ hw) (fun a2 μ3 h => ?_)
  refine rn_sls 0 (pc' := 62) (ls' := [(0, (2, b)), (1, (2, v1)), (2, (2, v2)), (3, (0, v3)), (4, (0, v4)), (5, (0, v5))]) (st' := [(0, a2)]) rfl ?_
  refine rn_ifn (t := 72) rfl rfl rfl rfl h (fun h => ?_) (fun h => ?_)
  · refine rn_sls 2 (pc' := 67) (ls' := [(0, (2, b)), (1, (2, v1)), (2, (2, v2)), (3, (0, v3)), (4, (0, v4)), (5, (0, v5))]) (st' := [(0, 5), (2, b)]) rfl ?_
    refine rn_put rfl rfl ho1 rfl (Or.inl ⟨rfl, rfl⟩) rfl h (fun μ11 h => ?_)
    refine rn_sls 1 (pc' := 71) (ls' := [(0, (2, b)), (1, (2, v1)), (2, (2, v2)), (3, (0, v3)), (4, (0, v4)), (5, (0, v5))]) (st' := [(0, 0)]) rfl ?_
    exact rn_iretb rfl rfl rfl (Or.inl rfl) h rfl
  · refine rn_sls 1 (pc' := 73) (ls' := [(0, (2, b)), (1, (2, v1)), (2, (2, v2)), (3, (0, v3)), (4, (0, v4)), (5, (0, v5))]) (st' := [(2, b)]) rfl ?_
    refine rn_get ho1 rfl rfl rfl ?_
    refine rn_sls 0 (pc' := 76) (ls' := [(0, (2, b)), (1, (2, v1)), (2, (2, v2)), (3, (0, v3)), (4, (0, v4)), (5, (0, v5))]) (st' := [(2, (b + 1))]) rfl ?_
    refine rn_sls 4 (pc' := 81) (ls' := [(0, (2, b)), (1, (2, v1)), (2, (2, v2)), (3, (0, v3)), (4, (0, v4)), (5, (0, v5))]) (st' := [(0, (w32 (v4 + 1))), (0, v3), (2, (b + 1))]) rfl ?_
    refine rn_call 3 2 [(2, (b + 1)), (0, v3), (0, (w32 (v4 + 1)))] (r := []) rfl ⟨rfl, Or.inr ⟨_, rfl, by decide⟩⟩ (by decide) (fun z => absurd z (by decide)) rfl rfl (Nat.le_of_ble_eq_true rfl) h (fun w hw => t_X_put (d + 4) _ _ _ _ _ hw) (fun a4 μ5 h => ?_)
    refine rn_sls 0 (pc' := 84) (ls' := [(0, (2, b)), (1, (2, v1)), (2, (2, v2)), (3, (0, v3)), (4, (0, v4)), (5, (0, v5))]) (st' := []) rfl ?_
    refine rn_sls 4 (pc' := 90) (ls' := [(0, (2, b)), (1, (2, v1)), (2, (2, v2)), (3, (0, v3)), (4, (0, v4)), (5, (0, v5))]) (st' := [(0, v5), (0, v4), (2, v1), (2, b)]) rfl ?_
    refine rn_call 0 2 [(2, b), (2, v1), (0, v4), (0, v5)] (r := []) rfl ⟨rfl, Or.inl ⟨_, rfl, by decide⟩⟩ (by decide) (fun _ => ⟨_, rfl, ho1⟩) rfl rfl (Nat.le_of_ble_eq_true rfl) h (fun w hw => t_Mc_workKind (d + 0) _ _ _ _ _ _ hw) (fun a6 μ7 h => ?_)
    refine rn_sls 0 (pc' := 93) (ls' := [(0, (2, b)), (1, (2, v1)), (2, (2, v2)), (3, (0, v3)), (4, (0, v4)), (5, (0, v5))]) (st' := []) rfl ?_
    refine rn_sls 2 (pc' := 95) (ls' := [(0, (2, b)), (1, (2, v1)), (2, (2, v2)), (3, (0, v3)), (4, (0, v4)), (5, (0, v5))]) (st' := [(2, b), (2, b)]) rfl ?_
    refine rn_get ho1 rfl rfl rfl ?_
    refine rn_sls 0 (pc' := 98) (ls' := [(0, (2, b)), (1, (2, v1)), (2, (2, v2)), (3, (0, v3)), (4, (0, v4)), (5, (0, v5))]) (st' := [(0, (μ7 b 11)), (2, b)]) rfl ?_
    refine rn_sls 2 (pc' := 100) (ls' := [(0, (2, b)), (1, (2, v1)), (2, (2, v2)), (3, (0, v3)), (4, (0, v4)), (5, (0, v5))]) (st' := [(0, (w32 ((μ7 b 11) + 1))), (2, b)]) rfl ?_
    refine rn_put rfl rfl ho1 rfl (Or.inl ⟨rfl, rfl⟩) rfl h (fun μ8 h => ?_)
    refine rn_sls 1 (pc' := 104) (ls' := [(0, (2, b)), (1, (2, v1)), (2, (2, v2)), (3, (0, v3)), (4, (0, v4)), (5, (0, v5))]) (st' := [(2, b)]) rfl ?_
    refine rn_call 0 2 [(2, b)] (r := []) rfl ⟨rfl, Or.inl ⟨_, rfl, by decide⟩⟩ (by decide) (fun _ => ⟨_, rfl, ho1⟩) rfl rfl (Nat.le_of_ble_eq_true rfl) h (fun w hw => t_Mc_lookAtTable (d + 2) _ _ _ hw) (fun a9 μ10 h => ?_)
    refine rn_sls 0 (pc' := 107) (ls' := [(0, (2, b)), (1, (2, v1)), (2, (2, v2)), (3, (0, v3)), (4, (0, v4)), (5, (0, v5))]) (st' := []) rfl ?_
    refine rn_sls 1 (pc' := 108) (ls' := [(0, (2, b)), (1, (2, v1)), (2, (2, v2)), (3, (0, v3)), (4, (0, v4)), (5, (0, v5))]) (st' := [(0, 1)]) rfl ?_
    exact rn_iretb rfl rfl rfl (Or.inr rfl) h rfl
set_option maxRecDepth 20000 in
theorem t_Mc_work (d : Nat) : ∀ (b : Int) (v1 : Int) (μ : am_M) q, Mc_work b v1 μ = some q → am_ar g_mt (d + 6) 35 [(2, b), (2, v1)] μ (am_res 0 q) := by
  intro b v1 μ q h
  unfold Mc_work at h
  refine am_ar_of (d := d + 5) i_Mc_work rfl rfl (Nat.le_of_ble_eq_true rfl) ?_
  show am_run none (am_ar g_mt (d + 5)) 6 (some .boolean) k_Mc_work 0 [(0, (2, b)), (1, (2, v1))] [] μ (am_res 0 q)
  refine rn_sls 1 (pc' := 1) (ls' := [(0, (2, b)), (1, (2, v1))]) (st' := [(2, v1)]) rfl ?_
  refine rn_gd h (fun ho1 h => ?_)
  refine rn_get ho1 rfl rfl rfl ?_
  refine rn_sls 0 (pc' := 4) (ls' := [(0, (2, b)), (1, (2, v1))]) (st' := [(2, (v1 + 1))]) rfl ?_
  refine rn_sls 2 (pc' := 6) (ls' := [(2, (2, (v1 + 1))), (0, (2, b)), (1, (2, v1))]) (st' := [(2, b)]) rfl ?_
  refine rn_gd h (fun ho2 h => ?_)
  refine rn_get ho2 rfl rfl rfl ?_
  refine rn_sls 0 (pc' := 9) (ls' := [(2, (2, (v1 + 1))), (0, (2, b)), (1, (2, v1))]) (st' := [(0, (μ b 5))]) rfl ?_
  refine rn_sls 4 (pc' := 13) (ls' := [(3, (0, (w32 ((μ b 5) - 1)))), (2, (2, (v1 + 1))), (0, (2, b)), (1, (2, v1))]) (st' := [(2, b)]) rfl ?_
  refine rn_get ho2 rfl rfl rfl ?_
  refine rn_sls 0 (pc' := 16) (ls' := [(3, (0, (w32 ((μ b 5) - 1)))), (2, (2, (v1 + 1))), (0, (2, b)), (1, (2, v1))]) (st' := [(2, (b + 1))]) rfl ?_
  refine rn_sls 1 (pc' := 17) (ls' := [(3, (0, (w32 ((μ b 5) - 1)))), (2, (2, (v1 + 1))), (0, (2, b)), (1, (2, v1))]) (st' := [(0, (w32 ((μ b 5) - 1))), (2, (b + 1))]) rfl ?_
  refine rn_call 3 0 [(2, (b + 1)), (0, (w32 ((μ b 5) - 1)))] (r := []) rfl ⟨rfl, Or.inr ⟨_, rfl, by decide⟩⟩ (by decide) (fun z => absurd z (by decide)) rfl rfl (Nat.le_of_ble_eq_true rfl) h (fun w hw => t_X_at (d + 4) _ _ _ _ hw) (fun a3 μ4 h => ?_)
  refine rn_sls 0 (pc' := 20) (ls' := [(3, (0, (w32 ((μ b 5) - 1)))), (2, (2, (v1 + 1))), (0, (2, b)), (1, (2, v1))]) (st' := [(0, a3)]) rfl ?_
  refine rn_sls 2 (pc' := 23) (ls' := [(4, (0, a3)), (3, (0, (w32 ((μ b 5) - 1)))), (2, (2, (v1 + 1))), (0, (2, b)), (1, (2, v1))]) (st' := [(2, (v1 + 1))]) rfl ?_
  refine rn_gd h (fun ho5 h => ?_)
  refine rn_get ho5 rfl rfl rfl ?_
  refine rn_sls 0 (pc' := 26) (ls' := [(4, (0, a3)), (3, (0, (w32 ((μ b 5) - 1)))), (2, (2, (v1 + 1))), (0, (2, b)), (1, (2, v1))]) (st' := [(2, ((v1 + 1) + 1))]) rfl ?_
  refine rn_sls 1 (pc' := 28) (ls' := [(4, (0, a3)), (3, (0, (w32 ((μ b 5) - 1)))), (2, (2, (v1 + 1))), (0, (2, b)), (1, (2, v1))]) (st' := [(0, a3), (2, ((v1 + 1) + 1))]) rfl ?_
  refine rn_call 3 0 [(2, ((v1 + 1) + 1)), (0, a3)] (r := []) rfl ⟨rfl, Or.inr ⟨_, rfl, by decide⟩⟩ (by decide) (fun z => absurd z (by decide)) rfl rfl (Nat.le_of_ble_eq_true rfl) h (fun w hw => t_X_at (d + 4) _ _ _ _ hw) (fun a6 μ7 h => ?_)
  refine rn_sls 0 (pc' := 31) (ls' := [(4, (0, a3)), (3, (0, (w32 ((μ b 5) - 1)))), (2, (2, (v1 + 1))), (0, (2, b)), (1, (2, v1))]) (st' := [(0, a6)]) rfl ?_
  refine rn_sls 3 (pc' := 36) (ls' := [(5, (0, a6)), (4, (0, a3)), (3, (0, (w32 ((μ b 5) - 1)))), (2, (2, (v1 + 1))), (0, (2, b)), (1, (2, v1))]) (st' := [(0, 4), (0, a6)]) rfl ?_
  refine rn_icmpn (t := 55) rfl rfl rfl rfl h (fun h => ?_) (fun h => ?_)
  · refine rn_sls 1 (pc' := 40) (ls' := [(5, (0, a6)), (4, (0, a3)), (3, (0, (w32 ((μ b 5) - 1)))), (2, (2, (v1 + 1))), (0, (2, b)), (1, (2, v1))]) (st' := [(2, b)]) rfl ?_
    refine rn_get ho2 rfl rfl rfl ?_
    refine rn_sls 0 (pc' := 43) (ls' := [(5, (0, a6)), (4, (0, a3)), (3, (0, (w32 ((μ b 5) - 1)))), (2, (2, (v1 + 1))), (0, (2, b)), (1, (2, v1))]) (st' := [(0, (μ7 b 5))]) rfl ?_
    refine rn_sls 1 (pc' := 45) (ls' := [(5, (0, a6)), (4, (0, a3)), (3, (0, (w32 ((μ b 5) - 1)))), (2, (2, (v1 + 1))), (0, (2, b)), (1, (2, v1))]) (st' := [(0, 16), (0, (μ7 b 5))]) rfl ?_
    refine rn_icmp (t := 55) rfl rfl rfl rfl h (fun h => ?_) (fun h => ?_)
    · exact rn_sub [4, 5, 3, 2, 1, 0] rfl (t_Mc_work_B55 d  _ _ _ _ _ _ _ _ h)
    · refine rn_sls 2 (pc' := 50) (ls' := [(5, (0, a6)), (4, (0, a3)), (3, (0, (w32 ((μ b 5) - 1)))), (2, (2, (v1 + 1))), (0, (2, b)), (1, (2, v1))]) (st' := [(0, 4), (2, b)]) rfl ?_
      refine rn_put rfl rfl ho2 rfl (Or.inl ⟨rfl, rfl⟩) rfl h (fun μ8 h => ?_)
      refine rn_sls 1 (pc' := 54) (ls' := [(5, (0, a6)), (4, (0, a3)), (3, (0, (w32 ((μ b 5) - 1)))), (2, (2, (v1 + 1))), (0, (2, b)), (1, (2, v1))]) (st' := [(0, 0)]) rfl ?_
      exact rn_iretb rfl rfl rfl (Or.inl rfl) h rfl
  · exact rn_sub [4, 5, 3, 2, 1, 0] rfl (t_Mc_work_B55 d  _ _ _ _ _ _ _ _ h)
set_option maxRecDepth 20000 in
theorem t_Mc_go_L2_b (d : Nat) (k2 : Int → Int → Int → Int → am_M → am_O) (hk2 : ∀ (b : Int) (v1 : Int) (v2 : Int) (v3 : Int) (μ : am_M) q, k2 b v1 v2 v3 μ = some q → am_run none (am_ar g_mt (d + 6)) 4 (some .int) k_Mc_go 2 [(0, (2, b)), (1, (2, v1)), (2, (0, v2)), (3, (0, v3))] [] μ (am_res 0 q)) : ∀ (b : Int) (v1 : Int) (v2 : Int) (v3 : Int) (μ : am_M) q, Mc_go_L2_b k2 b v1 v2 v3 μ = some q → am_run none (am_ar g_mt (d + 6)) 4 (some .int) k_Mc_go 2 [(0, (2, b)), (1, (2, v1)), (2, (0, v2)), (3, (0, v3))] [] μ (am_res 0 q) := by
  intro b v1 v2 v3 μ q h
  unfold Mc_go_L2_b at h
  refine rn_sls 2 (pc' := 4) (ls' := [(0, (2, b)), (1, (2, v1)), (2, (0, v2)), (3, (0, v3))]) (st' := [(0, v2), (0, v3)]) rfl ?_
  refine rn_icmpn (t := 29) rfl rfl rfl rfl h (fun h => ?_) (fun h => ?_)
  · refine rn_sls 1 (pc' := 8) (ls' := [(0, (2, b)), (1, (2, v1)), (2, (0, v2)), (3, (0, v3))]) (st' := [(2, b)]) rfl ?_
    refine rn_gd h (fun ho1 h => ?_)
    refine rn_get ho1 rfl rfl rfl ?_
    refine rn_sls 0 (pc' := 11) (ls' := [(0, (2, b)), (1, (2, v1)), (2, (0, v2)), (3, (0, v3))]) (st' := [(0, (μ b 6))]) rfl ?_
    refine rn_sls 1 (pc' := 12) (ls' := [(0, (2, b)), (1, (2, v1)), (2, (0, v2)), (3, (0, v3))]) (st' := [(0, 1), (0, (μ b 6))]) rfl ?_
    refine rn_icmpn (t := 29) rfl rfl rfl rfl h (fun h => ?_) (fun h => ?_)
    · refine rn_sls 2 (pc' := 17) (ls' := [(0, (2, b)), (1, (2, v1)), (2, (0, v2)), (3, (0, v3))]) (st' := [(2, v1), (2, b)]) rfl ?_
      refine rn_call 0 0 [(2, b), (2, v1)] (r := []) rfl ⟨rfl, Or.inl ⟨_, rfl, by decide⟩⟩ (by decide) (fun _ => ⟨_, rfl, ho1⟩) rfl rfl (Nat.le_of_ble_eq_true rfl) h (fun w hw => t_Mc_work (d + 0) _ _ _ _ hw) (fun a2 μ3 h => ?_)
      refine rn_sls 0 (pc' := 20) (ls' := [(0, (2, b)), (1, (2, v1)), (2, (0, v2)), (3, (0, v3))]) (st' := [(0, a2)]) rfl ?_
      refine rn_if (t := 29) rfl rfl rfl rfl h (fun h => ?_) (fun h => ?_)
      · refine rn_sls 1 (pc' := 30) (ls' := [(0, (2, b)), (1, (2, v1)), (2, (0, v2)), (3, (0, v3))]) (st' := [(0, v3)]) rfl ?_
        exact rn_ireti rfl rfl rfl h rfl
      · refine rn_sls 1 (pc' := 26) (ls' := [(3, (0, (w32 (v3 + 1)))), (0, (2, b)), (1, (2, v1)), (2, (0, v2))]) (st' := []) rfl ?_
        refine rn_goto (t := 2) rfl rfl rfl ?_
        exact rn_sub [1, 2, 3, 0] rfl (hk2 _ _ _ _ _ _ h)
    · refine rn_sls 1 (pc' := 30) (ls' := [(0, (2, b)), (1, (2, v1)), (2, (0, v2)), (3, (0, v3))]) (st' := [(0, v3)]) rfl ?_
      exact rn_ireti rfl rfl rfl h rfl
  · refine rn_sls 1 (pc' := 30) (ls' := [(0, (2, b)), (1, (2, v1)), (2, (0, v2)), (3, (0, v3))]) (st' := [(0, v3)]) rfl ?_
    exact rn_ireti rfl rfl rfl h rfl
set_option maxRecDepth 20000 in
theorem t_Mc_go_L2 (d : Nat) : ∀ (n : Nat) (b : Int) (v1 : Int) (v2 : Int) (v3 : Int) (μ : am_M) q, Mc_go_L2 n b v1 v2 v3 μ = some q → am_run none (am_ar g_mt (d + 6)) 4 (some .int) k_Mc_go 2 [(0, (2, b)), (1, (2, v1)), (2, (0, v2)), (3, (0, v3))] [] μ (am_res 0 q) := by
  intro n
  induction n with
  | zero => intro b v1 v2 v3 μ q h; cases h
  | succ n ih => intro b v1 v2 v3 μ q h; exact t_Mc_go_L2_b d (Mc_go_L2 n) ih b v1 v2 v3 μ q h
set_option maxRecDepth 20000 in
theorem t_Mc_go (d : Nat) : ∀ (b : Int) (v1 : Int) (v2 : Int) (μ : am_M) q, Mc_go b v1 v2 μ = some q → am_ar g_mt (d + 7) 31 [(2, b), (2, v1), (0, v2)] μ (am_res 0 q) := by
  intro b v1 v2 μ q h
  unfold Mc_go at h
  refine am_ar_of (d := d + 6) i_Mc_go rfl rfl (Nat.le_of_ble_eq_true rfl) ?_
  show am_run none (am_ar g_mt (d + 6)) 4 (some .int) k_Mc_go 0 [(0, (2, b)), (1, (2, v1)), (2, (0, v2))] [] μ (am_res 0 q)
  refine rn_sls 2 (pc' := 2) (ls' := [(3, (0, 0)), (0, (2, b)), (1, (2, v1)), (2, (0, v2))]) (st' := []) rfl ?_
  exact rn_sub [1, 2, 3, 0] rfl (t_Mc_go_L2 d  am_FU _ _ _ _ _ _ h)
set_option maxRecDepth 20000 in
theorem t_Mc_tell (d : Nat) : ∀ (b : Int) (v1 : Int) (μ : am_M) q, Mc_tell b v1 μ = some q → am_ar g_mt (d + 3) 32 [(2, b), (0, v1)] μ (am_res 0 q) := by
  intro b v1 μ q h
  unfold Mc_tell at h
  refine am_ar_of (d := d + 2) i_Mc_tell rfl rfl (Nat.le_of_ble_eq_true rfl) ?_
  show am_run none (am_ar g_mt (d + 2)) 2 (some .int) k_Mc_tell 0 [(0, (2, b)), (1, (0, v1))] [] μ (am_res 0 q)
  refine rn_sls 1 (pc' := 1) (ls' := [(0, (2, b)), (1, (0, v1))]) (st' := [(0, v1)]) rfl ?_
  refine rn_tsw rfl rfl ?_
  refine rn_swc (t := 48) rfl h (fun h => ?_) (fun h => ?_)
  · refine rn_sls 1 (pc' := 49) (ls' := [(0, (2, b)), (1, (0, v1))]) (st' := [(2, b)]) rfl ?_
    refine rn_gd h (fun ho1 h => ?_)
    refine rn_get ho1 rfl rfl rfl ?_
    refine rn_sls 0 (pc' := 52) (ls' := [(0, (2, b)), (1, (0, v1))]) (st' := [(0, (μ b 6))]) rfl ?_
    exact rn_ireti rfl rfl rfl h rfl
  refine rn_swc (t := 53) rfl h (fun h => ?_) (fun h => ?_)
  · refine rn_sls 1 (pc' := 54) (ls' := [(0, (2, b)), (1, (0, v1))]) (st' := [(2, b)]) rfl ?_
    refine rn_gd h (fun ho2 h => ?_)
    refine rn_get ho2 rfl rfl rfl ?_
    refine rn_sls 0 (pc' := 57) (ls' := [(0, (2, b)), (1, (0, v1))]) (st' := [(0, (μ b 6))]) rfl ?_
    refine rn_sls 1 (pc' := 58) (ls' := [(0, (2, b)), (1, (0, v1))]) (st' := [(0, 1), (0, (μ b 6))]) rfl ?_
    refine rn_icmpn (t := 77) rfl rfl rfl rfl h (fun h => ?_) (fun h => ?_)
    · refine rn_sls 1 (pc' := 62) (ls' := [(0, (2, b)), (1, (0, v1))]) (st' := [(2, b)]) rfl ?_
      refine rn_get ho2 rfl rfl rfl ?_
      refine rn_sls 0 (pc' := 65) (ls' := [(0, (2, b)), (1, (0, v1))]) (st' := [(2, (b + 1))]) rfl ?_
      refine rn_sls 1 (pc' := 66) (ls' := [(0, (2, b)), (1, (0, v1))]) (st' := [(2, b), (2, (b + 1))]) rfl ?_
      refine rn_get ho2 rfl rfl rfl ?_
      refine rn_sls 0 (pc' := 69) (ls' := [(0, (2, b)), (1, (0, v1))]) (st' := [(0, (μ b 5)), (2, (b + 1))]) rfl ?_
      refine rn_sls 2 (pc' := 71) (ls' := [(0, (2, b)), (1, (0, v1))]) (st' := [(0, (w32 ((μ b 5) - 1))), (2, (b + 1))]) rfl ?_
      refine rn_call 3 0 [(2, (b + 1)), (0, (w32 ((μ b 5) - 1)))] (r := []) rfl ⟨rfl, Or.inr ⟨_, rfl, by decide⟩⟩ (by decide) (fun z => absurd z (by decide)) rfl rfl (Nat.le_of_ble_eq_true rfl) h (fun w hw => t_X_at (d + 1) _ _ _ _ hw) (fun a3 μ4 h => ?_)
      refine rn_sls 0 (pc' := 74) (ls' := [(0, (2, b)), (1, (0, v1))]) (st' := [(0, a3)]) rfl ?_
      refine rn_goto (t := 78) rfl rfl rfl ?_
      exact rn_ireti rfl rfl rfl h rfl
    · refine rn_sls 1 (pc' := 78) (ls' := [(0, (2, b)), (1, (0, v1))]) (st' := [(0, (-1))]) rfl ?_
      exact rn_ireti rfl rfl rfl h rfl
  refine rn_swc (t := 79) rfl h (fun h => ?_) (fun h => ?_)
  · refine rn_sls 1 (pc' := 80) (ls' := [(0, (2, b)), (1, (0, v1))]) (st' := [(2, b)]) rfl ?_
    refine rn_gd h (fun ho5 h => ?_)
    refine rn_call 0 0 [(2, b)] (r := []) rfl ⟨rfl, Or.inl ⟨_, rfl, by decide⟩⟩ (by decide) (fun _ => ⟨_, rfl, ho5⟩) rfl rfl (Nat.le_of_ble_eq_true rfl) h (fun w hw => t_Mc_lying (d + 0) _ _ _ hw) (fun a6 μ7 h => ?_)
    refine rn_sls 0 (pc' := 83) (ls' := [(0, (2, b)), (1, (0, v1))]) (st' := [(0, a6)]) rfl ?_
    exact rn_ireti rfl rfl rfl h rfl
  refine rn_swc (t := 84) rfl h (fun h => ?_) (fun h => ?_)
  · refine rn_sls 1 (pc' := 85) (ls' := [(0, (2, b)), (1, (0, v1))]) (st' := [(2, b)]) rfl ?_
    refine rn_gd h (fun ho8 h => ?_)
    refine rn_get ho8 rfl rfl rfl ?_
    refine rn_sls 0 (pc' := 88) (ls' := [(0, (2, b)), (1, (0, v1))]) (st' := [(0, (μ b 8))]) rfl ?_
    exact rn_ireti rfl rfl rfl h rfl
  refine rn_swc (t := 89) rfl h (fun h => ?_) (fun h => ?_)
  · refine rn_sls 1 (pc' := 90) (ls' := [(0, (2, b)), (1, (0, v1))]) (st' := [(2, b)]) rfl ?_
    refine rn_gd h (fun ho9 h => ?_)
    refine rn_get ho9 rfl rfl rfl ?_
    refine rn_sls 0 (pc' := 93) (ls' := [(0, (2, b)), (1, (0, v1))]) (st' := [(0, (μ b 9))]) rfl ?_
    exact rn_ireti rfl rfl rfl h rfl
  refine rn_swc (t := 94) rfl h (fun h => ?_) (fun h => ?_)
  · refine rn_sls 1 (pc' := 95) (ls' := [(0, (2, b)), (1, (0, v1))]) (st' := [(2, b)]) rfl ?_
    refine rn_gd h (fun ho10 h => ?_)
    refine rn_get ho10 rfl rfl rfl ?_
    refine rn_sls 0 (pc' := 98) (ls' := [(0, (2, b)), (1, (0, v1))]) (st' := [(0, (μ b 10))]) rfl ?_
    exact rn_ireti rfl rfl rfl h rfl
  refine rn_swc (t := 99) rfl h (fun h => ?_) (fun h => ?_)
  · refine rn_sls 1 (pc' := 100) (ls' := [(0, (2, b)), (1, (0, v1))]) (st' := [(2, b)]) rfl ?_
    refine rn_gd h (fun ho11 h => ?_)
    refine rn_get ho11 rfl rfl rfl ?_
    refine rn_sls 0 (pc' := 103) (ls' := [(0, (2, b)), (1, (0, v1))]) (st' := [(0, (μ b 11))]) rfl ?_
    exact rn_ireti rfl rfl rfl h rfl
  refine rn_swc (t := 104) rfl h (fun h => ?_) (fun h => ?_)
  · refine rn_sls 1 (pc' := 105) (ls' := [(0, (2, b)), (1, (0, v1))]) (st' := [(2, b)]) rfl ?_
    refine rn_gd h (fun ho12 h => ?_)
    refine rn_get ho12 rfl rfl rfl ?_
    refine rn_sls 0 (pc' := 108) (ls' := [(0, (2, b)), (1, (0, v1))]) (st' := [(0, (μ b 5))]) rfl ?_
    exact rn_ireti rfl rfl rfl h rfl
  refine rn_sw0 (t := 109) rfl ?_
  refine rn_sls 1 (pc' := 110) (ls' := [(0, (2, b)), (1, (0, v1))]) (st' := [(0, (-1))]) rfl ?_
  exact rn_ireti rfl rfl rfl h rfl
set_option maxRecDepth 20000 in
theorem t_Or_forget (d : Nat) : ∀  (μ : am_M) q, Or_forget  μ = some q → am_ar g_mt (d + 1) 43 [(2, 60)] μ (am_res 2 q) := by
  intro  μ q h
  unfold Or_forget at h
  refine am_ar_of (d := d + 0) i_Or_forget rfl rfl (Nat.le_of_ble_eq_true rfl) ?_
  show am_run none (am_ar g_mt (d + 0)) 1 none k_Or_forget 0 [(0, (2, 60))] [] μ (am_res 2 q)
  refine rn_sls 2 (pc' := 2) (ls' := [(0, (2, 60))]) (st' := [(0, (-1)), (2, 60)]) rfl ?_
  refine rn_put rfl rfl rfl rfl (Or.inl ⟨rfl, rfl⟩) rfl h (fun μ1 h => ?_)
  exact rn_ret (v := 0) rfl rfl rfl h rfl
set_option maxRecDepth 20000 in
theorem t_Or_slipOf (d : Nat) : ∀ (v1 : Int) (μ : am_M) q, Or_slipOf v1 μ = some q → am_ar g_mt (d + 1) 45 [(2, 60), (0, v1)] μ (am_res 0 q) := by
  intro v1 μ q h
  unfold Or_slipOf at h
  refine am_ar_of (d := d + 0) i_Or_slipOf rfl rfl (Nat.le_of_ble_eq_true rfl) ?_
  show am_run none (am_ar g_mt (d + 0)) 2 (some .int) k_Or_slipOf 0 [(0, (2, 60)), (1, (0, v1))] [] μ (am_res 0 q)
  refine rn_sls 4 (pc' := 6) (ls' := [(0, (2, 60)), (1, (0, v1))]) (st' := [(0, (w32 ((μ 60 7) + v1)))]) rfl ?_
  exact rn_ireti rfl rfl rfl h rfl
set_option maxRecDepth 20000 in
theorem t_Or_countStands_L13_b (d : Nat) (k2 : Int → Int → Int → am_M → am_O) (hk2 : ∀ (v1 : Int) (v2 : Int) (v3 : Int) (μ : am_M) q, k2 v1 v2 v3 μ = some q → am_run none (am_ar g_mt (d + 4)) 5 none k_Or_countStands 2 [(0, (2, 60)), (1, (2, v1)), (2, (0, v2)), (3, (0, v3))] [] μ (am_res 2 q)) (k13 : Int → Int → Int → Int → am_M → am_O) (hk13 : ∀ (v1 : Int) (v2 : Int) (v3 : Int) (v4 : Int) (μ : am_M) q, k13 v1 v2 v3 v4 μ = some q → am_run none (am_ar g_mt (d + 4)) 5 none k_Or_countStands 13 [(0, (2, 60)), (1, (2, v1)), (2, (0, v2)), (3, (0, v3)), (4, (0, v4))] [] μ (am_res 2 q)) : ∀ (v1 : Int) (v2 : Int) (v3 : Int) (v4 : Int) (μ : am_M) q, Or_countStands_L13_b k2 k13 v1 v2 v3 v4 μ = some q → am_run none (am_ar g_mt (d + 4)) 5 none k_Or_countStands 13 [(0, (2, 60)), (1, (2, v1)), (2, (0, v2)), (3, (0, v3)), (4, (0, v4))] [] μ (am_res 2 q) := by
  intro v1 v2 v3 v4 μ q h
  unfold Or_countStands_L13_b at h
  refine rn_sls 4 (pc' := 20) (ls' := [(0, (2, 60)), (1, (2, v1)), (2, (0, v2)), (3, (0, v3)), (4, (0, v4))]) (st' := [(0, (μ 60 8)), (2, 60), (0, v4)]) rfl ?_
  refine rn_call 0 0 [(2, 60), (0, (μ 60 8))] (r := [(0, v4)]) rfl ⟨rfl, Or.inl ⟨_, rfl, by decide⟩⟩ (by decide) (fun _ => ⟨_, rfl, rfl⟩) rfl rfl (Nat.le_of_ble_eq_true rfl) h (fun w hw => t_Or_slipOf (d + 3) _ _ _ hw) (fun a1 μ2 h => ?_)
  refine rn_sls 0 (pc' := 23) (ls' := [(0, (2, 60)), (1, (2, v1)), (2, (0, v2)), (3, (0, v3)), (4, (0, v4))]) (st' := [(0, a1), (0, v4)]) rfl ?_
  refine rn_icmpn (t := 55) rfl rfl rfl rfl h (fun h => ?_) (fun h => ?_)
  · refine rn_sls 12 (pc' := 43) (ls' := [(0, (2, 60)), (1, (2, v1)), (2, (0, v2)), (3, (0, v3)), (4, (0, v4))]) (st' := [(0, v4), (0, (w32 (v2 + v3))), (2, v1), (0, (w32 ((w32 (v3 * 10)) + v4))), (2, 61)]) rfl ?_
    refine rn_gd h (fun ho3 h => ?_)
    refine rn_call 0 0 [(2, v1), (0, (w32 (v2 + v3))), (0, v4)] (r := [(0, (w32 ((w32 (v3 * 10)) + v4))), (2, 61)]) rfl ⟨rfl, Or.inl ⟨_, rfl, by decide⟩⟩ (by decide) (fun _ => ⟨_, rfl, ho3⟩) rfl rfl (Nat.le_of_ble_eq_true rfl) h (fun w hw => t_Ln_timesRead_ (d + 0) _ _ _ _ _ hw) (fun a4 μ5 h => ?_)
    refine rn_sls 0 (pc' := 46) (ls' := [(0, (2, 60)), (1, (2, v1)), (2, (0, v2)), (3, (0, v3)), (4, (0, v4))]) (st' := [(0, a4), (0, (w32 ((w32 (v3 * 10)) + v4))), (2, 61)]) rfl ?_
    refine rn_call 3 2 [(2, 61), (0, (w32 ((w32 (v3 * 10)) + v4))), (0, a4)] (r := []) rfl ⟨rfl, Or.inr ⟨_, rfl, by decide⟩⟩ (by decide) (fun z => absurd z (by decide)) rfl rfl (Nat.le_of_ble_eq_true rfl) h (fun w hw => t_X_put (d + 3) _ _ _ _ _ hw) (fun a6 μ7 h => ?_)
    refine rn_sls 0 (pc' := 49) (ls' := [(0, (2, 60)), (1, (2, v1)), (2, (0, v2)), (3, (0, v3)), (4, (0, v4))]) (st' := []) rfl ?_
    refine rn_sls 1 (pc' := 52) (ls' := [(4, (0, (w32 (v4 + 1)))), (0, (2, 60)), (1, (2, v1)), (2, (0, v2)), (3, (0, v3))]) (st' := []) rfl ?_
    refine rn_goto (t := 13) rfl rfl rfl ?_
    exact rn_sub [1, 2, 3, 4, 0] rfl (hk13 _ _ _ _ _ _ h)
  · refine rn_sls 1 (pc' := 58) (ls' := [(3, (0, (w32 (v3 + 1)))), (0, (2, 60)), (1, (2, v1)), (2, (0, v2)), (4, (0, v4))]) (st' := []) rfl ?_
    refine rn_goto (t := 2) rfl rfl rfl ?_
    exact rn_sub [1, 2, 3, 0] rfl (hk2 _ _ _ _ _ h)
set_option maxRecDepth 20000 in
theorem t_Or_countStands_L13 (d : Nat) (k2 : Int → Int → Int → am_M → am_O) (hk2 : ∀ (v1 : Int) (v2 : Int) (v3 : Int) (μ : am_M) q, k2 v1 v2 v3 μ = some q → am_run none (am_ar g_mt (d + 4)) 5 none k_Or_countStands 2 [(0, (2, 60)), (1, (2, v1)), (2, (0, v2)), (3, (0, v3))] [] μ (am_res 2 q)) : ∀ (n : Nat) (v1 : Int) (v2 : Int) (v3 : Int) (v4 : Int) (μ : am_M) q, Or_countStands_L13 k2 n v1 v2 v3 v4 μ = some q → am_run none (am_ar g_mt (d + 4)) 5 none k_Or_countStands 13 [(0, (2, 60)), (1, (2, v1)), (2, (0, v2)), (3, (0, v3)), (4, (0, v4))] [] μ (am_res 2 q) := by
  intro n
  induction n with
  | zero => intro v1 v2 v3 v4 μ q h; cases h
  | succ n ih => intro v1 v2 v3 v4 μ q h; exact t_Or_countStands_L13_b d k2 hk2 (Or_countStands_L13 k2 n) ih v1 v2 v3 v4 μ q h
set_option maxRecDepth 20000 in
theorem t_Or_countStands_L2_b (d : Nat) (k2 : Int → Int → Int → am_M → am_O) (hk2 : ∀ (v1 : Int) (v2 : Int) (v3 : Int) (μ : am_M) q, k2 v1 v2 v3 μ = some q → am_run none (am_ar g_mt (d + 4)) 5 none k_Or_countStands 2 [(0, (2, 60)), (1, (2, v1)), (2, (0, v2)), (3, (0, v3))] [] μ (am_res 2 q)) : ∀ (v1 : Int) (v2 : Int) (v3 : Int) (μ : am_M) q, Or_countStands_L2_b k2 v1 v2 v3 μ = some q → am_run none (am_ar g_mt (d + 4)) 5 none k_Or_countStands 2 [(0, (2, 60)), (1, (2, v1)), (2, (0, v2)), (3, (0, v3))] [] μ (am_res 2 q) := by
  intro v1 v2 v3 μ q h
  unfold Or_countStands_L2_b at h
  refine rn_sls 3 (pc' := 7) (ls' := [(0, (2, 60)), (1, (2, v1)), (2, (0, v2)), (3, (0, v3))]) (st' := [(0, (μ 60 8)), (0, v3)]) rfl ?_
  refine rn_icmpn (t := 61) rfl rfl rfl rfl h (fun h => ?_) (fun h => ?_)
  · refine rn_sls 2 (pc' := 13) (ls' := [(4, (0, 0)), (0, (2, 60)), (1, (2, v1)), (2, (0, v2)), (3, (0, v3))]) (st' := []) rfl ?_
    exact rn_sub [1, 2, 3, 4, 0] rfl (t_Or_countStands_L13 d k2 hk2 am_FU _ _ _ _ _ _ h)
  · exact rn_ret (v := 0) rfl rfl rfl h rfl
set_option maxRecDepth 20000 in
theorem t_Or_countStands_L2 (d : Nat) : ∀ (n : Nat) (v1 : Int) (v2 : Int) (v3 : Int) (μ : am_M) q, Or_countStands_L2 n v1 v2 v3 μ = some q → am_run none (am_ar g_mt (d + 4)) 5 none k_Or_countStands 2 [(0, (2, 60)), (1, (2, v1)), (2, (0, v2)), (3, (0, v3))] [] μ (am_res 2 q) := by
  intro n
  induction n with
  | zero => intro v1 v2 v3 μ q h; cases h
  | succ n ih => intro v1 v2 v3 μ q h; exact t_Or_countStands_L2_b d (Or_countStands_L2 n) ih v1 v2 v3 μ q h
set_option maxRecDepth 20000 in
theorem t_Or_countStands (d : Nat) : ∀ (v1 : Int) (v2 : Int) (μ : am_M) q, Or_countStands v1 v2 μ = some q → am_ar g_mt (d + 5) 47 [(2, 60), (2, v1), (0, v2)] μ (am_res 2 q) := by
  intro v1 v2 μ q h
  unfold Or_countStands at h
  refine am_ar_of (d := d + 4) i_Or_countStands rfl rfl (Nat.le_of_ble_eq_true rfl) ?_
  show am_run none (am_ar g_mt (d + 4)) 5 none k_Or_countStands 0 [(0, (2, 60)), (1, (2, v1)), (2, (0, v2))] [] μ (am_res 2 q)
  refine rn_sls 2 (pc' := 2) (ls' := [(3, (0, 0)), (0, (2, 60)), (1, (2, v1)), (2, (0, v2))]) (st' := []) rfl ?_
  exact rn_sub [1, 2, 3, 0] rfl (t_Or_countStands_L2 d  am_FU _ _ _ _ _ h)
set_option maxRecDepth 20000 in
theorem t_Or_standing (d : Nat) : ∀ (v1 : Int) (v2 : Int) (μ : am_M) q, Or_standing v1 v2 μ = some q → am_ar g_mt (d + 2) 46 [(2, 60), (0, v1), (0, v2)] μ (am_res 0 q) := by
  intro v1 v2 μ q h
  unfold Or_standing at h
  refine am_ar_of (d := d + 1) i_Or_standing rfl rfl (Nat.le_of_ble_eq_true rfl) ?_
  show am_run none (am_ar g_mt (d + 1)) 3 (some .int) k_Or_standing 0 [(0, (2, 60)), (1, (0, v1)), (2, (0, v2))] [] μ (am_res 0 q)
  refine rn_sls 7 (pc' := 10) (ls' := [(0, (2, 60)), (1, (0, v1)), (2, (0, v2))]) (st' := [(0, (w32 ((w32 (v1 * 10)) + v2))), (2, 61)]) rfl ?_
  refine rn_call 3 0 [(2, 61), (0, (w32 ((w32 (v1 * 10)) + v2)))] (r := []) rfl ⟨rfl, Or.inr ⟨_, rfl, by decide⟩⟩ (by decide) (fun z => absurd z (by decide)) rfl rfl (Nat.le_of_ble_eq_true rfl) h (fun w hw => t_X_at (d + 0) _ _ _ _ hw) (fun a1 μ2 h => ?_)
  refine rn_sls 0 (pc' := 13) (ls' := [(0, (2, 60)), (1, (0, v1)), (2, (0, v2))]) (st' := [(0, a1)]) rfl ?_
  exact rn_ireti rfl rfl rfl h rfl
set_option maxRecDepth 20000 in
theorem t_Or_findReaders_B107 (d : Nat) (k31 : Int → am_M → am_O) (hk31 : ∀ (v1 : Int) (μ : am_M) q, k31 v1 μ = some q → am_run none (am_ar g_mt (d + 2)) 4 none k_Or_findReaders 31 [(0, (2, 60)), (1, (0, v1))] [] μ (am_res 2 q)) (k43 : Int → Int → Int → am_M → am_O) (hk43 : ∀ (v1 : Int) (v2 : Int) (v3 : Int) (μ : am_M) q, k43 v1 v2 v3 μ = some q → am_run none (am_ar g_mt (d + 2)) 4 none k_Or_findReaders 43 [(0, (2, 60)), (1, (0, v1)), (2, (0, v2)), (3, (0, v3))] [] μ (am_res 2 q)) : ∀ (v1 : Int) (v2 : Int) (v3 : Int) (μ : am_M) q, Or_findReaders_B107 k31 k43 v1 v2 v3 μ = some q → am_run none (am_ar g_mt (d + 2)) 4 none k_Or_findReaders 107 [(0, (2, 60)), (1, (0, v1)), (2, (0, v2)), (3, (0, v3))] [] μ (am_res 2 q) := by
  intro v1 v2 v3 μ q h
  unfold Or_findReaders_B107 at h
  refine rn_sls 1 (pc' := 110) (ls' := [(3, (0, (w32 (v3 + 1)))), (0, (2, 60)), (1, (0, v1)), (2, (0, v2))]) (st' := []) rfl ?_
  refine rn_goto (t := 43) rfl rfl rfl ?_
  exact rn_sub [1, 2, 3, 0] rfl (hk43 _ _ _ _ _ h)
set_option maxRecDepth 20000 in
theorem t_Or_findReaders_B105 (d : Nat) (k31 : Int → am_M → am_O) (hk31 : ∀ (v1 : Int) (μ : am_M) q, k31 v1 μ = some q → am_run none (am_ar g_mt (d + 2)) 4 none k_Or_findReaders 31 [(0, (2, 60)), (1, (0, v1))] [] μ (am_res 2 q)) (k43 : Int → Int → Int → am_M → am_O) (hk43 : ∀ (v1 : Int) (v2 : Int) (v3 : Int) (μ : am_M) q, k43 v1 v2 v3 μ = some q → am_run none (am_ar g_mt (d + 2)) 4 none k_Or_findReaders 43 [(0, (2, 60)), (1, (0, v1)), (2, (0, v2)), (3, (0, v3))] [] μ (am_res 2 q)) : ∀ (v1 : Int) (v3 : Int) (s0 : Int) (s1 : Int) (μ : am_M) q, Or_findReaders_B105 k31 k43 v1 v3 s0 s1 μ = some q → am_run none (am_ar g_mt (d + 2)) 4 none k_Or_findReaders 105 [(0, (2, 60)), (1, (0, v1)), (3, (0, v3))] [(0, s1), (0, s0)] μ (am_res 2 q) := by
  intro v1 v3 s0 s1 μ q h
  unfold Or_findReaders_B105 at h
  refine rn_sls 2 (pc' := 107) (ls' := [(2, (0, (aOr s0 s1))), (0, (2, 60)), (1, (0, v1)), (3, (0, v3))]) (st' := []) rfl ?_
  exact rn_sub [1, 2, 0, 3] rfl (t_Or_findReaders_B107 d k31 hk31 k43 hk43 _ _ _ _ _ h)
set_option maxRecDepth 20000 in
theorem t_Or_findReaders_L43_b (d : Nat) (k31 : Int → am_M → am_O) (hk31 : ∀ (v1 : Int) (μ : am_M) q, k31 v1 μ = some q → am_run none (am_ar g_mt (d + 2)) 4 none k_Or_findReaders 31 [(0, (2, 60)), (1, (0, v1))] [] μ (am_res 2 q)) (k43 : Int → Int → Int → am_M → am_O) (hk43 : ∀ (v1 : Int) (v2 : Int) (v3 : Int) (μ : am_M) q, k43 v1 v2 v3 μ = some q → am_run none (am_ar g_mt (d + 2)) 4 none k_Or_findReaders 43 [(0, (2, 60)), (1, (0, v1)), (2, (0, v2)), (3, (0, v3))] [] μ (am_res 2 q)) : ∀ (v1 : Int) (v2 : Int) (v3 : Int) (μ : am_M) q, Or_findReaders_L43_b k31 k43 v1 v2 v3 μ = some q → am_run none (am_ar g_mt (d + 2)) 4 none k_Or_findReaders 43 [(0, (2, 60)), (1, (0, v1)), (2, (0, v2)), (3, (0, v3))] [] μ (am_res 2 q) := by
  intro v1 v2 v3 μ q h
  unfold Or_findReaders_L43_b at h
  refine rn_sls 4 (pc' := 49) (ls' := [(0, (2, 60)), (1, (0, v1)), (2, (0, v2)), (3, (0, v3))]) (st' := [(0, (μ 60 8)), (2, 60), (0, v3)]) rfl ?_
  refine rn_call 0 0 [(2, 60), (0, (μ 60 8))] (r := [(0, v3)]) rfl ⟨rfl, Or.inl ⟨_, rfl, by decide⟩⟩ (by decide) (fun _ => ⟨_, rfl, rfl⟩) rfl rfl (Nat.le_of_ble_eq_true rfl) h (fun w hw => t_Or_slipOf (d + 1) _ _ _ hw) (fun a1 μ2 h => ?_)
  refine rn_sls 0 (pc' := 52) (ls' := [(0, (2, 60)), (1, (0, v1)), (2, (0, v2)), (3, (0, v3))]) (st' := [(0, a1), (0, v3)]) rfl ?_
  refine rn_icmpn (t := 113) rfl rfl rfl rfl h (fun h => ?_) (fun h => ?_)
  · refine rn_sls 3 (pc' := 58) (ls' := [(0, (2, 60)), (1, (0, v1)), (2, (0, v2)), (3, (0, v3))]) (st' := [(0, v3), (0, v1), (2, 60)]) rfl ?_
    refine rn_call 0 0 [(2, 60), (0, v1), (0, v3)] (r := []) rfl ⟨rfl, Or.inl ⟨_, rfl, by decide⟩⟩ (by decide) (fun _ => ⟨_, rfl, rfl⟩) rfl rfl (Nat.le_of_ble_eq_true rfl) h (fun w hw => t_Or_standing (d + 0) _ _ _ _ hw) (fun a5 μ6 h => ?_)
    refine rn_sls 0 (pc' := 61) (ls' := [(0, (2, 60)), (1, (0, v1)), (2, (0, v2)), (3, (0, v3))]) (st' := [(0, a5)]) rfl ?_
    refine rn_if (t := 107) rfl rfl rfl rfl h (fun h => ?_) (fun h => ?_)
    · exact rn_sub [0, 1, 2, 3] rfl (t_Or_findReaders_B107 d k31 hk31 k43 hk43 _ _ _ _ _ h)
    · refine rn_sls 6 (pc' := 74) (ls' := [(0, (2, 60)), (1, (0, v1)), (2, (0, v2)), (3, (0, v3))]) (st' := [(0, v3), (2, 63), (0, v3), (2, 63)]) rfl ?_
      refine rn_call 3 0 [(2, 63), (0, v3)] (r := [(0, v3), (2, 63)]) rfl ⟨rfl, Or.inr ⟨_, rfl, by decide⟩⟩ (by decide) (fun z => absurd z (by decide)) rfl rfl (Nat.le_of_ble_eq_true rfl) h (fun w hw => t_X_at (d + 1) _ _ _ _ hw) (fun a7 μ8 h => ?_)
      refine rn_sls 0 (pc' := 77) (ls' := [(0, (2, 60)), (1, (0, v1)), (2, (0, v2)), (3, (0, v3))]) (st' := [(0, a7), (0, v3), (2, 63)]) rfl ?_
      refine rn_sls 4 (pc' := 81) (ls' := [(0, (2, 60)), (1, (0, v1)), (2, (0, v2)), (3, (0, v3))]) (st' := [(0, (aOr a7 (aShl 1 v1))), (0, v3), (2, 63)]) rfl ?_
      refine rn_call 3 2 [(2, 63), (0, v3), (0, (aOr a7 (aShl 1 v1)))] (r := []) rfl ⟨rfl, Or.inr ⟨_, rfl, by decide⟩⟩ (by decide) (fun z => absurd z (by decide)) rfl rfl (Nat.le_of_ble_eq_true rfl) h (fun w hw => t_X_put (d + 1) _ _ _ _ _ hw) (fun a9 μ10 h => ?_)
      refine rn_sls 0 (pc' := 84) (ls' := [(0, (2, 60)), (1, (0, v1)), (2, (0, v2)), (3, (0, v3))]) (st' := []) rfl ?_
      refine rn_sls 4 (pc' := 90) (ls' := [(0, (2, 60)), (1, (0, v1)), (2, (0, v2)), (3, (0, v3))]) (st' := [(0, (μ10 60 7)), (0, v3), (0, v2)]) rfl ?_
      refine rn_icmpn (t := 97) rfl rfl rfl rfl h (fun h => ?_) (fun h => ?_)
      · refine rn_sls 1 (pc' := 94) (ls' := [(0, (2, 60)), (1, (0, v1)), (2, (0, v2)), (3, (0, v3))]) (st' := [(0, 0), (0, v2)]) rfl ?_
        refine rn_goto (t := 105) rfl rfl rfl ?_
        exact rn_sub [0, 1, 3] rfl (t_Or_findReaders_B105 d k31 hk31 k43 hk43 _ _ _ _ _ _ h)
      · refine rn_sls 6 (pc' := 105) (ls' := [(0, (2, 60)), (1, (0, v1)), (2, (0, v2)), (3, (0, v3))]) (st' := [(0, (aShl 1 (w32 (v3 - (μ10 60 7))))), (0, v2)]) rfl ?_
        exact rn_sub [0, 1, 3] rfl (t_Or_findReaders_B105 d k31 hk31 k43 hk43 _ _ _ _ _ _ h)
  · refine rn_sls 4 (pc' := 119) (ls' := [(0, (2, 60)), (1, (0, v1)), (2, (0, v2)), (3, (0, v3))]) (st' := [(0, v2), (0, v1), (2, 62)]) rfl ?_
    refine rn_call 3 2 [(2, 62), (0, v1), (0, v2)] (r := []) rfl ⟨rfl, Or.inr ⟨_, rfl, by decide⟩⟩ (by decide) (fun z => absurd z (by decide)) rfl rfl (Nat.le_of_ble_eq_true rfl) h (fun w hw => t_X_put (d + 1) _ _ _ _ _ hw) (fun a3 μ4 h => ?_)
    refine rn_sls 0 (pc' := 122) (ls' := [(0, (2, 60)), (1, (0, v1)), (2, (0, v2)), (3, (0, v3))]) (st' := []) rfl ?_
    refine rn_sls 1 (pc' := 125) (ls' := [(1, (0, (w32 (v1 + 1)))), (0, (2, 60)), (2, (0, v2)), (3, (0, v3))]) (st' := []) rfl ?_
    refine rn_goto (t := 31) rfl rfl rfl ?_
    exact rn_sub [1, 0] rfl (hk31 _ _ _ h)
set_option maxRecDepth 20000 in
theorem t_Or_findReaders_L43 (d : Nat) (k31 : Int → am_M → am_O) (hk31 : ∀ (v1 : Int) (μ : am_M) q, k31 v1 μ = some q → am_run none (am_ar g_mt (d + 2)) 4 none k_Or_findReaders 31 [(0, (2, 60)), (1, (0, v1))] [] μ (am_res 2 q)) : ∀ (n : Nat) (v1 : Int) (v2 : Int) (v3 : Int) (μ : am_M) q, Or_findReaders_L43 k31 n v1 v2 v3 μ = some q → am_run none (am_ar g_mt (d + 2)) 4 none k_Or_findReaders 43 [(0, (2, 60)), (1, (0, v1)), (2, (0, v2)), (3, (0, v3))] [] μ (am_res 2 q) := by
  intro n
  induction n with
  | zero => intro v1 v2 v3 μ q h; cases h
  | succ n ih => intro v1 v2 v3 μ q h; exact t_Or_findReaders_L43_b d k31 hk31 (Or_findReaders_L43 k31 n) ih v1 v2 v3 μ q h
set_option maxRecDepth 20000 in
theorem t_Or_findReaders_L31_b (d : Nat) (k31 : Int → am_M → am_O) (hk31 : ∀ (v1 : Int) (μ : am_M) q, k31 v1 μ = some q → am_run none (am_ar g_mt (d + 2)) 4 none k_Or_findReaders 31 [(0, (2, 60)), (1, (0, v1))] [] μ (am_res 2 q)) : ∀ (v1 : Int) (μ : am_M) q, Or_findReaders_L31_b k31 v1 μ = some q → am_run none (am_ar g_mt (d + 2)) 4 none k_Or_findReaders 31 [(0, (2, 60)), (1, (0, v1))] [] μ (am_res 2 q) := by
  intro v1 μ q h
  unfold Or_findReaders_L31_b at h
  refine rn_sls 3 (pc' := 36) (ls' := [(0, (2, 60)), (1, (0, v1))]) (st' := [(0, (μ 60 8)), (0, v1)]) rfl ?_
  refine rn_icmpn (t := 128) rfl rfl rfl rfl h (fun h => ?_) (fun h => ?_)
  · refine rn_sls 4 (pc' := 43) (ls' := [(3, (0, 0)), (2, (0, 0)), (0, (2, 60)), (1, (0, v1))]) (st' := []) rfl ?_
    exact rn_sub [2, 3, 1, 0] rfl (t_Or_findReaders_L43 d k31 hk31 am_FU _ _ _ _ _ h)
  · exact rn_ret (v := 0) rfl rfl rfl h rfl
set_option maxRecDepth 20000 in
theorem t_Or_findReaders_L31 (d : Nat) : ∀ (n : Nat) (v1 : Int) (μ : am_M) q, Or_findReaders_L31 n v1 μ = some q → am_run none (am_ar g_mt (d + 2)) 4 none k_Or_findReaders 31 [(0, (2, 60)), (1, (0, v1))] [] μ (am_res 2 q) := by
  intro n
  induction n with
  | zero => intro v1 μ q h; cases h
  | succ n ih => intro v1 μ q h; exact t_Or_findReaders_L31_b d (Or_findReaders_L31 n) ih v1 μ q h
set_option maxRecDepth 20000 in
theorem t_Or_findReaders_L2_b (d : Nat) (k2 : Int → am_M → am_O) (hk2 : ∀ (v1 : Int) (μ : am_M) q, k2 v1 μ = some q → am_run none (am_ar g_mt (d + 2)) 4 none k_Or_findReaders 2 [(0, (2, 60)), (1, (0, v1))] [] μ (am_res 2 q)) : ∀ (v1 : Int) (μ : am_M) q, Or_findReaders_L2_b k2 v1 μ = some q → am_run none (am_ar g_mt (d + 2)) 4 none k_Or_findReaders 2 [(0, (2, 60)), (1, (0, v1))] [] μ (am_res 2 q) := by
  intro v1 μ q h
  unfold Or_findReaders_L2_b at h
  refine rn_sls 4 (pc' := 8) (ls' := [(0, (2, 60)), (1, (0, v1))]) (st' := [(0, (μ 60 8)), (2, 60), (0, v1)]) rfl ?_
  refine rn_call 0 0 [(2, 60), (0, (μ 60 8))] (r := [(0, v1)]) rfl ⟨rfl, Or.inl ⟨_, rfl, by decide⟩⟩ (by decide) (fun _ => ⟨_, rfl, rfl⟩) rfl rfl (Nat.le_of_ble_eq_true rfl) h (fun w hw => t_Or_slipOf (d + 1) _ _ _ hw) (fun a1 μ2 h => ?_)
  refine rn_sls 0 (pc' := 11) (ls' := [(0, (2, 60)), (1, (0, v1))]) (st' := [(0, a1), (0, v1)]) rfl ?_
  refine rn_icmpn (t := 29) rfl rfl rfl rfl h (fun h => ?_) (fun h => ?_)
  · refine rn_sls 4 (pc' := 20) (ls' := [(0, (2, 60)), (1, (0, v1))]) (st' := [(0, 0), (0, v1), (2, 63)]) rfl ?_
    refine rn_call 3 2 [(2, 63), (0, v1), (0, 0)] (r := []) rfl ⟨rfl, Or.inr ⟨_, rfl, by decide⟩⟩ (by decide) (fun z => absurd z (by decide)) rfl rfl (Nat.le_of_ble_eq_true rfl) h (fun w hw => t_X_put (d + 1) _ _ _ _ _ hw) (fun a3 μ4 h => ?_)
    refine rn_sls 0 (pc' := 23) (ls' := [(0, (2, 60)), (1, (0, v1))]) (st' := []) rfl ?_
    refine rn_sls 1 (pc' := 26) (ls' := [(1, (0, (w32 (v1 + 1)))), (0, (2, 60))]) (st' := []) rfl ?_
    refine rn_goto (t := 2) rfl rfl rfl ?_
    exact rn_sub [1, 0] rfl (hk2 _ _ _ h)
  · refine rn_sls 2 (pc' := 31) (ls' := [(1, (0, 0)), (0, (2, 60))]) (st' := []) rfl ?_
    exact rn_sub [1, 0] rfl (t_Or_findReaders_L31 d  am_FU _ _ _ h)
set_option maxRecDepth 20000 in
theorem t_Or_findReaders_L2 (d : Nat) : ∀ (n : Nat) (v1 : Int) (μ : am_M) q, Or_findReaders_L2 n v1 μ = some q → am_run none (am_ar g_mt (d + 2)) 4 none k_Or_findReaders 2 [(0, (2, 60)), (1, (0, v1))] [] μ (am_res 2 q) := by
  intro n
  induction n with
  | zero => intro v1 μ q h; cases h
  | succ n ih => intro v1 μ q h; exact t_Or_findReaders_L2_b d (Or_findReaders_L2 n) ih v1 μ q h
set_option maxRecDepth 20000 in
theorem t_Or_findReaders (d : Nat) : ∀  (μ : am_M) q, Or_findReaders  μ = some q → am_ar g_mt (d + 3) 48 [(2, 60)] μ (am_res 2 q) := by
  intro  μ q h
  unfold Or_findReaders at h
  refine am_ar_of (d := d + 2) i_Or_findReaders rfl rfl (Nat.le_of_ble_eq_true rfl) ?_
  show am_run none (am_ar g_mt (d + 2)) 4 none k_Or_findReaders 0 [(0, (2, 60))] [] μ (am_res 2 q)
  refine rn_sls 2 (pc' := 2) (ls' := [(1, (0, 0)), (0, (2, 60))]) (st' := []) rfl ?_
  exact rn_sub [1, 0] rfl (t_Or_findReaders_L2 d  am_FU _ _ _ h)
set_option maxRecDepth 20000 in
theorem t_Or_countLying_B70 (d : Nat) (k4 : Int → Int → Int → am_M → am_O) (hk4 : ∀ (v1 : Int) (v2 : Int) (v3 : Int) (μ : am_M) q, k4 v1 v2 v3 μ = some q → am_run none (am_ar g_mt (d + 1)) 5 (some .int) k_Or_countLying 4 [(0, (2, 60)), (1, (0, v1)), (2, (0, v2)), (3, (0, v3))] [] μ (am_res 0 q)) : ∀ (v1 : Int) (v3 : Int) (s0 : Int) (s1 : Int) (μ : am_M) q, Or_countLying_B70 k4 v1 v3 s0 s1 μ = some q → am_run none (am_ar g_mt (d + 1)) 5 (some .int) k_Or_countLying 70 [(0, (2, 60)), (1, (0, v1)), (3, (0, v3))] [(0, s1), (0, s0)] μ (am_res 0 q) := by
  intro v1 v3 s0 s1 μ q h
  unfold Or_countLying_B70 at h
  refine rn_sls 3 (pc' := 75) (ls' := [(3, (0, (w32 (v3 + 1)))), (2, (0, (w32 (s0 + s1)))), (0, (2, 60)), (1, (0, v1))]) (st' := []) rfl ?_
  refine rn_goto (t := 4) rfl rfl rfl ?_
  exact rn_sub [2, 3, 1, 0] rfl (hk4 _ _ _ _ _ h)
set_option maxRecDepth 20000 in
theorem t_Or_countLying_B69 (d : Nat) (k4 : Int → Int → Int → am_M → am_O) (hk4 : ∀ (v1 : Int) (v2 : Int) (v3 : Int) (μ : am_M) q, k4 v1 v2 v3 μ = some q → am_run none (am_ar g_mt (d + 1)) 5 (some .int) k_Or_countLying 4 [(0, (2, 60)), (1, (0, v1)), (2, (0, v2)), (3, (0, v3))] [] μ (am_res 0 q)) : ∀ (v1 : Int) (v3 : Int) (s0 : Int) (μ : am_M) q, Or_countLying_B69 k4 v1 v3 s0 μ = some q → am_run none (am_ar g_mt (d + 1)) 5 (some .int) k_Or_countLying 69 [(0, (2, 60)), (1, (0, v1)), (3, (0, v3))] [(0, s0)] μ (am_res 0 q) := by
  intro v1 v3 s0 μ q h
  unfold Or_countLying_B69 at h
  refine rn_sls 1 (pc' := 70) (ls' := [(0, (2, 60)), (1, (0, v1)), (3, (0, v3))]) (st' := [(0, 0), (0, s0)]) rfl ?_
  exact rn_sub [0, 1, 2] rfl (t_Or_countLying_B70 d k4 hk4 _ _ _ _ _ _ h)
set_option maxRecDepth 20000 in
theorem t_Or_countLying_B42 (d : Nat) (k4 : Int → Int → Int → am_M → am_O) (hk4 : ∀ (v1 : Int) (v2 : Int) (v3 : Int) (μ : am_M) q, k4 v1 v2 v3 μ = some q → am_run none (am_ar g_mt (d + 1)) 5 (some .int) k_Or_countLying 4 [(0, (2, 60)), (1, (0, v1)), (2, (0, v2)), (3, (0, v3))] [] μ (am_res 0 q)) : ∀ (v1 : Int) (v2 : Int) (v3 : Int) (s0 : Int) (μ : am_M) q, Or_countLying_B42 k4 v1 v2 v3 s0 μ = some q → am_run none (am_ar g_mt (d + 1)) 5 (some .int) k_Or_countLying 42 [(0, (2, 60)), (1, (0, v1)), (2, (0, v2)), (3, (0, v3))] [(0, s0)] μ (am_res 0 q) := by
  intro v1 v2 v3 s0 μ q h
  unfold Or_countLying_B42 at h
  refine rn_sls 3 (pc' := 47) (ls' := [(4, (0, s0)), (0, (2, 60)), (1, (0, v1)), (2, (0, v2)), (3, (0, v3))]) (st' := [(0, s0), (0, v2)]) rfl ?_
  refine rn_if (t := 69) rfl rfl rfl rfl h (fun h => ?_) (fun h => ?_)
  · exact rn_sub [1, 2, 4] rfl (t_Or_countLying_B69 d k4 hk4 _ _ _ _ _ h)
  · refine rn_sls 3 (pc' := 55) (ls' := [(4, (0, s0)), (0, (2, 60)), (1, (0, v1)), (2, (0, v2)), (3, (0, v3))]) (st' := [(0, v3), (2, 63), (0, v2)]) rfl ?_
    refine rn_call 3 0 [(2, 63), (0, v3)] (r := [(0, v2)]) rfl ⟨rfl, Or.inr ⟨_, rfl, by decide⟩⟩ (by decide) (fun z => absurd z (by decide)) rfl rfl (Nat.le_of_ble_eq_true rfl) h (fun w hw => t_X_at (d + 0) _ _ _ _ hw) (fun a1 μ2 h => ?_)
    refine rn_sls 0 (pc' := 58) (ls' := [(4, (0, s0)), (0, (2, 60)), (1, (0, v1)), (2, (0, v2)), (3, (0, v3))]) (st' := [(0, a1), (0, v2)]) rfl ?_
    refine rn_sls 4 (pc' := 62) (ls' := [(4, (0, s0)), (0, (2, 60)), (1, (0, v1)), (2, (0, v2)), (3, (0, v3))]) (st' := [(0, (aAnd a1 (aXor v1 (-1)))), (0, v2)]) rfl ?_
    refine rn_if (t := 69) rfl rfl rfl rfl h (fun h => ?_) (fun h => ?_)
    · exact rn_sub [1, 2, 4] rfl (t_Or_countLying_B69 d k4 hk4 _ _ _ _ _ h)
    · refine rn_sls 1 (pc' := 66) (ls' := [(4, (0, s0)), (0, (2, 60)), (1, (0, v1)), (2, (0, v2)), (3, (0, v3))]) (st' := [(0, 1), (0, v2)]) rfl ?_
      refine rn_goto (t := 70) rfl rfl rfl ?_
      exact rn_sub [1, 2, 4] rfl (t_Or_countLying_B70 d k4 hk4 _ _ _ _ _ _ h)
set_option maxRecDepth 20000 in
theorem t_Or_countLying_B37 (d : Nat) (k4 : Int → Int → Int → am_M → am_O) (hk4 : ∀ (v1 : Int) (v2 : Int) (v3 : Int) (μ : am_M) q, k4 v1 v2 v3 μ = some q → am_run none (am_ar g_mt (d + 1)) 5 (some .int) k_Or_countLying 4 [(0, (2, 60)), (1, (0, v1)), (2, (0, v2)), (3, (0, v3))] [] μ (am_res 0 q)) : ∀ (v1 : Int) (v2 : Int) (v3 : Int) (μ : am_M) q, Or_countLying_B37 k4 v1 v2 v3 μ = some q → am_run none (am_ar g_mt (d + 1)) 5 (some .int) k_Or_countLying 37 [(0, (2, 60)), (1, (0, v1)), (2, (0, v2)), (3, (0, v3))] [] μ (am_res 0 q) := by
  intro v1 v2 v3 μ q h
  unfold Or_countLying_B37 at h
  refine rn_sls 1 (pc' := 38) (ls' := [(0, (2, 60)), (1, (0, v1)), (2, (0, v2)), (3, (0, v3))]) (st' := [(0, 1)]) rfl ?_
  refine rn_goto (t := 42) rfl rfl rfl ?_
  exact rn_sub [0, 1, 2, 3] rfl (t_Or_countLying_B42 d k4 hk4 _ _ _ _ _ _ h)
set_option maxRecDepth 20000 in
theorem t_Or_countLying_L4_b (d : Nat) (k4 : Int → Int → Int → am_M → am_O) (hk4 : ∀ (v1 : Int) (v2 : Int) (v3 : Int) (μ : am_M) q, k4 v1 v2 v3 μ = some q → am_run none (am_ar g_mt (d + 1)) 5 (some .int) k_Or_countLying 4 [(0, (2, 60)), (1, (0, v1)), (2, (0, v2)), (3, (0, v3))] [] μ (am_res 0 q)) : ∀ (v1 : Int) (v2 : Int) (v3 : Int) (μ : am_M) q, Or_countLying_L4_b k4 v1 v2 v3 μ = some q → am_run none (am_ar g_mt (d + 1)) 5 (some .int) k_Or_countLying 4 [(0, (2, 60)), (1, (0, v1)), (2, (0, v2)), (3, (0, v3))] [] μ (am_res 0 q) := by
  intro v1 v2 v3 μ q h
  unfold Or_countLying_L4_b at h
  refine rn_sls 4 (pc' := 10) (ls' := [(0, (2, 60)), (1, (0, v1)), (2, (0, v2)), (3, (0, v3))]) (st' := [(0, (μ 60 8)), (2, 60), (0, v3)]) rfl ?_
  refine rn_call 0 0 [(2, 60), (0, (μ 60 8))] (r := [(0, v3)]) rfl ⟨rfl, Or.inl ⟨_, rfl, by decide⟩⟩ (by decide) (fun _ => ⟨_, rfl, rfl⟩) rfl rfl (Nat.le_of_ble_eq_true rfl) h (fun w hw => t_Or_slipOf (d + 0) _ _ _ hw) (fun a1 μ2 h => ?_)
  refine rn_sls 0 (pc' := 13) (ls' := [(0, (2, 60)), (1, (0, v1)), (2, (0, v2)), (3, (0, v3))]) (st' := [(0, a1), (0, v3)]) rfl ?_
  refine rn_icmpn (t := 78) rfl rfl rfl rfl h (fun h => ?_) (fun h => ?_)
  · refine rn_sls 3 (pc' := 21) (ls' := [(0, (2, 60)), (1, (0, v1)), (2, (0, v2)), (3, (0, v3))]) (st' := [(0, (μ2 60 7)), (0, v3)]) rfl ?_
    refine rn_icmp (t := 37) rfl rfl rfl rfl h (fun h => ?_) (fun h => ?_)
    · exact rn_sub [0, 1, 2, 3] rfl (t_Or_countLying_B37 d k4 hk4 _ _ _ _ _ h)
    · refine rn_sls 8 (pc' := 34) (ls' := [(0, (2, 60)), (1, (0, v1)), (2, (0, v2)), (3, (0, v3))]) (st' := [(0, (aAnd (aShr v1 (w32 (v3 - (μ2 60 7)))) 1))]) rfl ?_
      refine rn_if (t := 41) rfl rfl rfl rfl h (fun h => ?_) (fun h => ?_)
      · refine rn_sls 1 (pc' := 42) (ls' := [(0, (2, 60)), (1, (0, v1)), (2, (0, v2)), (3, (0, v3))]) (st' := [(0, 0)]) rfl ?_
        exact rn_sub [0, 1, 2, 3] rfl (t_Or_countLying_B42 d k4 hk4 _ _ _ _ _ _ h)
      · exact rn_sub [0, 1, 2, 3] rfl (t_Or_countLying_B37 d k4 hk4 _ _ _ _ _ h)
  · refine rn_sls 1 (pc' := 79) (ls' := [(0, (2, 60)), (1, (0, v1)), (2, (0, v2)), (3, (0, v3))]) (st' := [(0, v2)]) rfl ?_
    exact rn_ireti rfl rfl rfl h rfl
set_option maxRecDepth 20000 in
theorem t_Or_countLying_L4 (d : Nat) : ∀ (n : Nat) (v1 : Int) (v2 : Int) (v3 : Int) (μ : am_M) q, Or_countLying_L4 n v1 v2 v3 μ = some q → am_run none (am_ar g_mt (d + 1)) 5 (some .int) k_Or_countLying 4 [(0, (2, 60)), (1, (0, v1)), (2, (0, v2)), (3, (0, v3))] [] μ (am_res 0 q) := by
  intro n
  induction n with
  | zero => intro v1 v2 v3 μ q h; cases h
  | succ n ih => intro v1 v2 v3 μ q h; exact t_Or_countLying_L4_b d (Or_countLying_L4 n) ih v1 v2 v3 μ q h
set_option maxRecDepth 20000 in
theorem t_Or_countLying (d : Nat) : ∀ (v1 : Int) (μ : am_M) q, Or_countLying v1 μ = some q → am_ar g_mt (d + 2) 49 [(2, 60), (0, v1)] μ (am_res 0 q) := by
  intro v1 μ q h
  unfold Or_countLying at h
  refine am_ar_of (d := d + 1) i_Or_countLying rfl rfl (Nat.le_of_ble_eq_true rfl) ?_
  show am_run none (am_ar g_mt (d + 1)) 5 (some .int) k_Or_countLying 0 [(0, (2, 60)), (1, (0, v1))] [] μ (am_res 0 q)
  refine rn_sls 4 (pc' := 4) (ls' := [(3, (0, 0)), (2, (0, 0)), (0, (2, 60)), (1, (0, v1))]) (st' := []) rfl ?_
  exact rn_sub [2, 3, 1, 0] rfl (t_Or_countLying_L4 d  am_FU _ _ _ _ _ h)
set_option maxRecDepth 20000 in
theorem t_Or_mayFollow (d : Nat) : ∀ (v1 : Int) (v2 : Int) (μ : am_M) q, Or_mayFollow v1 v2 μ = some q → am_ar g_mt (d + 2) 50 [(2, 60), (0, v1), (0, v2)] μ (am_res 0 q) := by
  intro v1 v2 μ q h
  unfold Or_mayFollow at h
  refine am_ar_of (d := d + 1) i_Or_mayFollow rfl rfl (Nat.le_of_ble_eq_true rfl) ?_
  show am_run none (am_ar g_mt (d + 1)) 3 (some .boolean) k_Or_mayFollow 0 [(0, (2, 60)), (1, (0, v1)), (2, (0, v2))] [] μ (am_res 0 q)
  refine rn_sls 5 (pc' := 5) (ls' := [(0, (2, 60)), (1, (0, v1)), (2, (0, v2))]) (st' := [(0, (aAnd (aShr v2 v1) 1))]) rfl ?_
  refine rn_ifn (t := 27) rfl rfl rfl rfl h (fun h => ?_) (fun h => ?_)
  · refine rn_sls 3 (pc' := 13) (ls' := [(0, (2, 60)), (1, (0, v1)), (2, (0, v2))]) (st' := [(0, v1), (2, 62)]) rfl ?_
    refine rn_call 3 0 [(2, 62), (0, v1)] (r := []) rfl ⟨rfl, Or.inr ⟨_, rfl, by decide⟩⟩ (by decide) (fun z => absurd z (by decide)) rfl rfl (Nat.le_of_ble_eq_true rfl) h (fun w hw => t_X_at (d + 0) _ _ _ _ hw) (fun a1 μ2 h => ?_)
    refine rn_sls 0 (pc' := 16) (ls' := [(0, (2, 60)), (1, (0, v1)), (2, (0, v2))]) (st' := [(0, a1)]) rfl ?_
    refine rn_sls 4 (pc' := 20) (ls' := [(0, (2, 60)), (1, (0, v1)), (2, (0, v2))]) (st' := [(0, (aAnd a1 (aXor v2 (-1))))]) rfl ?_
    refine rn_ifn (t := 27) rfl rfl rfl rfl h (fun h => ?_) (fun h => ?_)
    · refine rn_sls 1 (pc' := 24) (ls' := [(0, (2, 60)), (1, (0, v1)), (2, (0, v2))]) (st' := [(0, 1)]) rfl ?_
      refine rn_goto (t := 28) rfl rfl rfl ?_
      exact rn_iretb rfl rfl rfl (Or.inr rfl) h rfl
    · refine rn_sls 1 (pc' := 28) (ls' := [(0, (2, 60)), (1, (0, v1)), (2, (0, v2))]) (st' := [(0, 0)]) rfl ?_
      exact rn_iretb rfl rfl rfl (Or.inl rfl) h rfl
  · refine rn_sls 1 (pc' := 28) (ls' := [(0, (2, 60)), (1, (0, v1)), (2, (0, v2))]) (st' := [(0, 0)]) rfl ?_
    exact rn_iretb rfl rfl rfl (Or.inl rfl) h rfl
set_option maxRecDepth 20000 in
theorem t_Or_allSums (d : Nat) : ∀  (μ : am_M) q, Or_allSums  μ = some q → am_ar g_mt (d + 1) 51 [(2, 60)] μ (am_res 0 q) := by
  intro  μ q h
  unfold Or_allSums at h
  refine am_ar_of (d := d + 0) i_Or_allSums rfl rfl (Nat.le_of_ble_eq_true rfl) ?_
  show am_run none (am_ar g_mt (d + 0)) 1 (some .int) k_Or_allSums 0 [(0, (2, 60))] [] μ (am_res 0 q)
  refine rn_sls 6 (pc' := 8) (ls' := [(0, (2, 60))]) (st' := [(0, (w32 ((aShl 1 (μ 60 8)) - 1)))]) rfl ?_
  exact rn_ireti rfl rfl rfl h rfl
set_option maxRecDepth 20000 in
theorem t_Or_findBest_B73 (d : Nat) (k5 : Int → am_M → am_O) (hk5 : ∀ (v1 : Int) (μ : am_M) q, k5 v1 μ = some q → am_run none (am_ar g_mt (d + 2)) 4 none k_Or_findBest 5 [(0, (2, 60)), (1, (0, v1))] [] μ (am_res 2 q)) (k39 : Int → Int → Int → am_M → am_O) (hk39 : ∀ (v1 : Int) (v2 : Int) (v3 : Int) (μ : am_M) q, k39 v1 v2 v3 μ = some q → am_run none (am_ar g_mt (d + 2)) 4 none k_Or_findBest 39 [(0, (2, 60)), (1, (0, v1)), (2, (0, v2)), (3, (0, v3))] [] μ (am_res 2 q)) : ∀ (v1 : Int) (v2 : Int) (v3 : Int) (μ : am_M) q, Or_findBest_B73 k5 k39 v1 v2 v3 μ = some q → am_run none (am_ar g_mt (d + 2)) 4 none k_Or_findBest 73 [(0, (2, 60)), (1, (0, v1)), (2, (0, v2)), (3, (0, v3))] [] μ (am_res 2 q) := by
  intro v1 v2 v3 μ q h
  unfold Or_findBest_B73 at h
  refine rn_sls 1 (pc' := 76) (ls' := [(3, (0, (w32 (v3 + 1)))), (0, (2, 60)), (1, (0, v1)), (2, (0, v2))]) (st' := []) rfl ?_
  refine rn_goto (t := 39) rfl rfl rfl ?_
  exact rn_sub [1, 2, 3, 0] rfl (hk39 _ _ _ _ _ h)
set_option maxRecDepth 20000 in
theorem t_Or_findBest_L39_b (d : Nat) (k5 : Int → am_M → am_O) (hk5 : ∀ (v1 : Int) (μ : am_M) q, k5 v1 μ = some q → am_run none (am_ar g_mt (d + 2)) 4 none k_Or_findBest 5 [(0, (2, 60)), (1, (0, v1))] [] μ (am_res 2 q)) (k39 : Int → Int → Int → am_M → am_O) (hk39 : ∀ (v1 : Int) (v2 : Int) (v3 : Int) (μ : am_M) q, k39 v1 v2 v3 μ = some q → am_run none (am_ar g_mt (d + 2)) 4 none k_Or_findBest 39 [(0, (2, 60)), (1, (0, v1)), (2, (0, v2)), (3, (0, v3))] [] μ (am_res 2 q)) : ∀ (v1 : Int) (v2 : Int) (v3 : Int) (μ : am_M) q, Or_findBest_L39_b k5 k39 v1 v2 v3 μ = some q → am_run none (am_ar g_mt (d + 2)) 4 none k_Or_findBest 39 [(0, (2, 60)), (1, (0, v1)), (2, (0, v2)), (3, (0, v3))] [] μ (am_res 2 q) := by
  intro v1 v2 v3 μ q h
  unfold Or_findBest_L39_b at h
  refine rn_sls 3 (pc' := 44) (ls' := [(0, (2, 60)), (1, (0, v1)), (2, (0, v2)), (3, (0, v3))]) (st' := [(0, (μ 60 8)), (0, v3)]) rfl ?_
  refine rn_icmpn (t := 79) rfl rfl rfl rfl h (fun h => ?_) (fun h => ?_)
  · refine rn_sls 3 (pc' := 50) (ls' := [(0, (2, 60)), (1, (0, v1)), (2, (0, v2)), (3, (0, v3))]) (st' := [(0, v1), (0, v3), (2, 60)]) rfl ?_
    refine rn_call 0 0 [(2, 60), (0, v3), (0, v1)] (r := []) rfl ⟨rfl, Or.inl ⟨_, rfl, by decide⟩⟩ (by decide) (fun _ => ⟨_, rfl, rfl⟩) rfl rfl (Nat.le_of_ble_eq_true rfl) h (fun w hw => t_Or_mayFollow (d + 0) _ _ _ _ hw) (fun a6 μ7 h => ?_)
    refine rn_sls 0 (pc' := 53) (ls' := [(0, (2, 60)), (1, (0, v1)), (2, (0, v2)), (3, (0, v3))]) (st' := [(0, a6)]) rfl ?_
    refine rn_if (t := 73) rfl rfl rfl rfl h (fun h => ?_) (fun h => ?_)
    · exact rn_sub [0, 1, 2, 3] rfl (t_Or_findBest_B73 d k5 hk5 k39 hk39 _ _ _ _ _ h)
    · refine rn_sls 8 (pc' := 66) (ls' := [(0, (2, 60)), (1, (0, v1)), (2, (0, v2)), (3, (0, v3))]) (st' := [(0, (aOr v1 (aShl 1 v3))), (2, 66), (0, v2)]) rfl ?_
      refine rn_call 3 0 [(2, 66), (0, (aOr v1 (aShl 1 v3)))] (r := [(0, v2)]) rfl ⟨rfl, Or.inr ⟨_, rfl, by decide⟩⟩ (by decide) (fun z => absurd z (by decide)) rfl rfl (Nat.le_of_ble_eq_true rfl) h (fun w hw => t_X_at (d + 1) _ _ _ _ hw) (fun a8 μ9 h => ?_)
      refine rn_sls 0 (pc' := 69) (ls' := [(0, (2, 60)), (1, (0, v1)), (2, (0, v2)), (3, (0, v3))]) (st' := [(0, a8), (0, v2)]) rfl ?_
      refine rn_min rfl ⟨rfl, Or.inr ⟨_, rfl, by decide⟩⟩ rfl (Nat.le_of_ble_eq_true rfl) ?_
      refine rn_nm (ls := fun x => [(0, (2, 60)), (1, (0, v1)), (2, (0, v2)), (3, (0, v3))]) (st := fun x => [(0, x)]) h (fun a10 h => ?_)
      refine rn_sls 1 (pc' := 73) (ls' := [(2, (0, a10)), (0, (2, 60)), (1, (0, v1)), (3, (0, v3))]) (st' := []) rfl ?_
      exact rn_sub [1, 2, 0, 3] rfl (t_Or_findBest_B73 d k5 hk5 k39 hk39 _ _ _ _ _ h)
  · refine rn_sls 7 (pc' := 90) (ls' := [(0, (2, 60)), (1, (0, v1)), (2, (0, v2)), (3, (0, v3))]) (st' := [(0, v1), (2, 65), (0, v2), (0, v1), (2, 66)]) rfl ?_
    refine rn_call 3 0 [(2, 65), (0, v1)] (r := [(0, v2), (0, v1), (2, 66)]) rfl ⟨rfl, Or.inr ⟨_, rfl, by decide⟩⟩ (by decide) (fun z => absurd z (by decide)) rfl rfl (Nat.le_of_ble_eq_true rfl) h (fun w hw => t_X_at (d + 1) _ _ _ _ hw) (fun a1 μ2 h => ?_)
    refine rn_sls 0 (pc' := 93) (ls' := [(0, (2, 60)), (1, (0, v1)), (2, (0, v2)), (3, (0, v3))]) (st' := [(0, a1), (0, v2), (0, v1), (2, 66)]) rfl ?_
    refine rn_max rfl ⟨rfl, Or.inr ⟨_, rfl, by decide⟩⟩ rfl (Nat.le_of_ble_eq_true rfl) ?_
    refine rn_nm (ls := fun x => [(0, (2, 60)), (1, (0, v1)), (2, (0, v2)), (3, (0, v3))]) (st := fun x => [(0, x), (0, v1), (2, 66)]) h (fun a3 h => ?_)
    refine rn_call 3 2 [(2, 66), (0, v1), (0, a3)] (r := []) rfl ⟨rfl, Or.inr ⟨_, rfl, by decide⟩⟩ (by decide) (fun z => absurd z (by decide)) rfl rfl (Nat.le_of_ble_eq_true rfl) h (fun w hw => t_X_put (d + 1) _ _ _ _ _ hw) (fun a4 μ5 h => ?_)
    refine rn_sls 0 (pc' := 99) (ls' := [(0, (2, 60)), (1, (0, v1)), (2, (0, v2)), (3, (0, v3))]) (st' := []) rfl ?_
    refine rn_sls 1 (pc' := 102) (ls' := [(1, (0, (w32 (v1 + (-1))))), (0, (2, 60)), (2, (0, v2)), (3, (0, v3))]) (st' := []) rfl ?_
    refine rn_goto (t := 5) rfl rfl rfl ?_
    exact rn_sub [1, 0] rfl (hk5 _ _ _ h)
set_option maxRecDepth 20000 in
theorem t_Or_findBest_L39 (d : Nat) (k5 : Int → am_M → am_O) (hk5 : ∀ (v1 : Int) (μ : am_M) q, k5 v1 μ = some q → am_run none (am_ar g_mt (d + 2)) 4 none k_Or_findBest 5 [(0, (2, 60)), (1, (0, v1))] [] μ (am_res 2 q)) : ∀ (n : Nat) (v1 : Int) (v2 : Int) (v3 : Int) (μ : am_M) q, Or_findBest_L39 k5 n v1 v2 v3 μ = some q → am_run none (am_ar g_mt (d + 2)) 4 none k_Or_findBest 39 [(0, (2, 60)), (1, (0, v1)), (2, (0, v2)), (3, (0, v3))] [] μ (am_res 2 q) := by
  intro n
  induction n with
  | zero => intro v1 v2 v3 μ q h; cases h
  | succ n ih => intro v1 v2 v3 μ q h; exact t_Or_findBest_L39_b d k5 hk5 (Or_findBest_L39 k5 n) ih v1 v2 v3 μ q h
set_option maxRecDepth 20000 in
theorem t_Or_findBest_B36 (d : Nat) (k5 : Int → am_M → am_O) (hk5 : ∀ (v1 : Int) (μ : am_M) q, k5 v1 μ = some q → am_run none (am_ar g_mt (d + 2)) 4 none k_Or_findBest 5 [(0, (2, 60)), (1, (0, v1))] [] μ (am_res 2 q)) : ∀ (v1 : Int) (s0 : Int) (μ : am_M) q, Or_findBest_B36 k5 v1 s0 μ = some q → am_run none (am_ar g_mt (d + 2)) 4 none k_Or_findBest 36 [(0, (2, 60)), (1, (0, v1))] [(0, s0)] μ (am_res 2 q) := by
  intro v1 s0 μ q h
  unfold Or_findBest_B36 at h
  refine rn_sls 3 (pc' := 39) (ls' := [(3, (0, 0)), (2, (0, s0)), (0, (2, 60)), (1, (0, v1))]) (st' := []) rfl ?_
  exact rn_sub [2, 3, 1, 0] rfl (t_Or_findBest_L39 d k5 hk5 am_FU _ _ _ _ _ h)
set_option maxRecDepth 20000 in
theorem t_Or_findBest_L5_b (d : Nat) (k5 : Int → am_M → am_O) (hk5 : ∀ (v1 : Int) (μ : am_M) q, k5 v1 μ = some q → am_run none (am_ar g_mt (d + 2)) 4 none k_Or_findBest 5 [(0, (2, 60)), (1, (0, v1))] [] μ (am_res 2 q)) : ∀ (v1 : Int) (μ : am_M) q, Or_findBest_L5_b k5 v1 μ = some q → am_run none (am_ar g_mt (d + 2)) 4 none k_Or_findBest 5 [(0, (2, 60)), (1, (0, v1))] [] μ (am_res 2 q) := by
  intro v1 μ q h
  unfold Or_findBest_L5_b at h
  refine rn_sls 1 (pc' := 6) (ls' := [(0, (2, 60)), (1, (0, v1))]) (st' := [(0, v1)]) rfl ?_
  refine rn_if (t := 105) rfl rfl rfl rfl h (fun h => ?_) (fun h => ?_)
  · exact rn_ret (v := 0) rfl rfl rfl h rfl
  · refine rn_sls 5 (pc' := 16) (ls' := [(0, (2, 60)), (1, (0, v1))]) (st' := [(0, v1), (2, 60), (0, v1), (2, 65)]) rfl ?_
    refine rn_call 0 0 [(2, 60), (0, v1)] (r := [(0, v1), (2, 65)]) rfl ⟨rfl, Or.inl ⟨_, rfl, by decide⟩⟩ (by decide) (fun _ => ⟨_, rfl, rfl⟩) rfl rfl (Nat.le_of_ble_eq_true rfl) h (fun w hw => t_Or_countLying (d + 0) _ _ _ hw) (fun a1 μ2 h => ?_)
    refine rn_sls 0 (pc' := 19) (ls' := [(0, (2, 60)), (1, (0, v1))]) (st' := [(0, a1), (0, v1), (2, 65)]) rfl ?_
    refine rn_call 3 2 [(2, 65), (0, v1), (0, a1)] (r := []) rfl ⟨rfl, Or.inr ⟨_, rfl, by decide⟩⟩ (by decide) (fun z => absurd z (by decide)) rfl rfl (Nat.le_of_ble_eq_true rfl) h (fun w hw => t_X_put (d + 1) _ _ _ _ _ hw) (fun a3 μ4 h => ?_)
    refine rn_sls 0 (pc' := 22) (ls' := [(0, (2, 60)), (1, (0, v1))]) (st' := []) rfl ?_
    refine rn_sls 2 (pc' := 24) (ls' := [(0, (2, 60)), (1, (0, v1))]) (st' := [(2, 60), (0, v1)]) rfl ?_
    refine rn_call 0 0 [(2, 60)] (r := [(0, v1)]) rfl ⟨rfl, Or.inl ⟨_, rfl, by decide⟩⟩ (by decide) (fun _ => ⟨_, rfl, rfl⟩) rfl rfl (Nat.le_of_ble_eq_true rfl) h (fun w hw => t_Or_allSums (d + 1)  _ _ hw) (fun a5 μ6 h => ?_)
    refine rn_sls 0 (pc' := 27) (ls' := [(0, (2, 60)), (1, (0, v1))]) (st' := [(0, a5), (0, v1)]) rfl ?_
    refine rn_icmpn (t := 34) rfl rfl rfl rfl h (fun h => ?_) (fun h => ?_)
    · refine rn_sls 1 (pc' := 31) (ls' := [(0, (2, 60)), (1, (0, v1))]) (st' := [(0, 0)]) rfl ?_
      refine rn_goto (t := 36) rfl rfl rfl ?_
      exact rn_sub [0, 1] rfl (t_Or_findBest_B36 d k5 hk5 _ _ _ _ h)
    · refine rn_sls 1 (pc' := 36) (ls' := [(0, (2, 60)), (1, (0, v1))]) (st' := [(0, 2147483647)]) rfl ?_
      exact rn_sub [0, 1] rfl (t_Or_findBest_B36 d k5 hk5 _ _ _ _ h)
set_option maxRecDepth 20000 in
theorem t_Or_findBest_L5 (d : Nat) : ∀ (n : Nat) (v1 : Int) (μ : am_M) q, Or_findBest_L5 n v1 μ = some q → am_run none (am_ar g_mt (d + 2)) 4 none k_Or_findBest 5 [(0, (2, 60)), (1, (0, v1))] [] μ (am_res 2 q) := by
  intro n
  induction n with
  | zero => intro v1 μ q h; cases h
  | succ n ih => intro v1 μ q h; exact t_Or_findBest_L5_b d (Or_findBest_L5 n) ih v1 μ q h
set_option maxRecDepth 20000 in
theorem t_Or_findBest (d : Nat) : ∀  (μ : am_M) q, Or_findBest  μ = some q → am_ar g_mt (d + 3) 52 [(2, 60)] μ (am_res 2 q) := by
  intro  μ q h
  unfold Or_findBest at h
  refine am_ar_of (d := d + 2) i_Or_findBest rfl rfl (Nat.le_of_ble_eq_true rfl) ?_
  show am_run none (am_ar g_mt (d + 2)) 4 none k_Or_findBest 0 [(0, (2, 60))] [] μ (am_res 2 q)
  refine rn_sls 1 (pc' := 1) (ls' := [(0, (2, 60))]) (st' := [(2, 60)]) rfl ?_
  refine rn_call 0 0 [(2, 60)] (r := []) rfl ⟨rfl, Or.inl ⟨_, rfl, by decide⟩⟩ (by decide) (fun _ => ⟨_, rfl, rfl⟩) rfl rfl (Nat.le_of_ble_eq_true rfl) h (fun w hw => t_Or_allSums (d + 1)  _ _ hw) (fun a1 μ2 h => ?_)
  refine rn_sls 0 (pc' := 4) (ls' := [(0, (2, 60))]) (st' := [(0, a1)]) rfl ?_
  refine rn_sls 1 (pc' := 5) (ls' := [(1, (0, a1)), (0, (2, 60))]) (st' := []) rfl ?_
  exact rn_sub [1, 0] rfl (t_Or_findBest_L5 d  am_FU _ _ _ h)
set_option maxRecDepth 20000 in
theorem t_Or_prepare (d : Nat) : ∀ (v1 : Int) (v2 : Int) (μ : am_M) q, Or_prepare v1 v2 μ = some q → am_ar g_mt (d + 6) 44 [(2, 60), (2, v1), (0, v2)] μ (am_res 0 q) := by
  intro v1 v2 μ q h
  unfold Or_prepare at h
  refine am_ar_of (d := d + 5) i_Or_prepare rfl rfl (Nat.le_of_ble_eq_true rfl) ?_
  show am_run none (am_ar g_mt (d + 5)) 4 (some .boolean) k_Or_prepare 0 [(0, (2, 60)), (1, (2, v1)), (2, (0, v2))] [] μ (am_res 0 q)
  refine rn_sls 2 (pc' := 2) (ls' := [(0, (2, 60)), (1, (2, v1)), (2, (0, v2))]) (st' := [(0, v2), (2, v1)]) rfl ?_
  refine rn_gd h (fun ho1 h => ?_)
  refine rn_call 0 0 [(2, v1), (0, v2)] (r := []) rfl ⟨rfl, Or.inl ⟨_, rfl, by decide⟩⟩ (by decide) (fun _ => ⟨_, rfl, ho1⟩) rfl rfl (Nat.le_of_ble_eq_true rfl) h (fun w hw => t_Bi_has (d + 4) _ _ _ _ hw) (fun a2 μ3 h => ?_)
  refine rn_sls 0 (pc' := 5) (ls' := [(0, (2, 60)), (1, (2, v1)), (2, (0, v2))]) (st' := [(0, a2)]) rfl ?_
  refine rn_if (t := 16) rfl rfl rfl rfl h (fun h => ?_) (fun h => ?_)
  · refine rn_sls 1 (pc' := 17) (ls' := [(0, (2, 60)), (1, (2, v1)), (2, (0, v2))]) (st' := [(0, 0)]) rfl ?_
    exact rn_iretb rfl rfl rfl (Or.inl rfl) h rfl
  · refine rn_sls 2 (pc' := 10) (ls' := [(0, (2, 60)), (1, (2, v1)), (2, (0, v2))]) (st' := [(0, v2), (2, v1)]) rfl ?_
    refine rn_call 0 0 [(2, v1), (0, v2)] (r := []) rfl ⟨rfl, Or.inl ⟨_, rfl, by decide⟩⟩ (by decide) (fun _ => ⟨_, rfl, ho1⟩) rfl rfl (Nat.le_of_ble_eq_true rfl) h (fun w hw => t_Bi_isPlain (d + 1) _ _ _ _ hw) (fun a4 μ5 h => ?_)
    refine rn_sls 0 (pc' := 13) (ls' := [(0, (2, 60)), (1, (2, v1)), (2, (0, v2))]) (st' := [(0, a4)]) rfl ?_
    refine rn_ifn (t := 18) rfl rfl rfl rfl h (fun h => ?_) (fun h => ?_)
    · refine rn_sls 1 (pc' := 17) (ls' := [(0, (2, 60)), (1, (2, v1)), (2, (0, v2))]) (st' := [(0, 0)]) rfl ?_
      exact rn_iretb rfl rfl rfl (Or.inl rfl) h rfl
    · refine rn_sls 1 (pc' := 19) (ls' := [(0, (2, 60)), (1, (2, v1)), (2, (0, v2))]) (st' := [(2, v1)]) rfl ?_
      refine rn_get ho1 rfl rfl rfl ?_
      refine rn_sls 0 (pc' := 22) (ls' := [(0, (2, 60)), (1, (2, v1)), (2, (0, v2))]) (st' := [(2, (v1 + 16))]) rfl ?_
      refine rn_sls 1 (pc' := 23) (ls' := [(0, (2, 60)), (1, (2, v1)), (2, (0, v2))]) (st' := [(0, v2), (2, (v1 + 16))]) rfl ?_
      refine rn_call 3 0 [(2, (v1 + 16)), (0, v2)] (r := []) rfl ⟨rfl, Or.inr ⟨_, rfl, by decide⟩⟩ (by decide) (fun z => absurd z (by decide)) rfl rfl (Nat.le_of_ble_eq_true rfl) h (fun w hw => t_X_at (d + 4) _ _ _ _ hw) (fun a6 μ7 h => ?_)
      refine rn_sls 0 (pc' := 26) (ls' := [(0, (2, 60)), (1, (2, v1)), (2, (0, v2))]) (st' := [(0, a6)]) rfl ?_
      refine rn_sls 1 (pc' := 27) (ls' := [(0, (2, 60)), (1, (2, v1)), (2, (0, v2))]) (st' := [(2, v1), (0, a6)]) rfl ?_
      refine rn_get ho1 rfl rfl rfl ?_
      refine rn_sls 0 (pc' := 30) (ls' := [(0, (2, 60)), (1, (2, v1)), (2, (0, v2))]) (st' := [(2, (v1 + 17)), (0, a6)]) rfl ?_
      refine rn_sls 1 (pc' := 31) (ls' := [(0, (2, 60)), (1, (2, v1)), (2, (0, v2))]) (st' := [(0, v2), (2, (v1 + 17)), (0, a6)]) rfl ?_
      refine rn_call 3 0 [(2, (v1 + 17)), (0, v2)] (r := [(0, a6)]) rfl ⟨rfl, Or.inr ⟨_, rfl, by decide⟩⟩ (by decide) (fun z => absurd z (by decide)) rfl rfl (Nat.le_of_ble_eq_true rfl) h (fun w hw => t_X_at (d + 4) _ _ _ _ hw) (fun a8 μ9 h => ?_)
      refine rn_sls 0 (pc' := 34) (ls' := [(0, (2, 60)), (1, (2, v1)), (2, (0, v2))]) (st' := [(0, a8), (0, a6)]) rfl ?_
      refine rn_sls 6 (pc' := 41) (ls' := [(3, (0, (w32 ((w32 (a6 - a8)) - 1)))), (0, (2, 60)), (1, (2, v1)), (2, (0, v2))]) (st' := [(0, 12), (0, (w32 ((w32 (a6 - a8)) - 1)))]) rfl ?_
      refine rn_icmpn (t := 50) rfl rfl rfl rfl h (fun h => ?_) (fun h => ?_)
      · refine rn_sls 2 (pc' := 47) (ls' := [(3, (0, (w32 ((w32 (a6 - a8)) - 1)))), (0, (2, 60)), (1, (2, v1)), (2, (0, v2))]) (st' := [(0, 10), (0, (w32 ((w32 (a6 - a8)) - 1)))]) rfl ?_
        refine rn_icmp (t := 52) rfl rfl rfl rfl h (fun h => ?_) (fun h => ?_)
        · refine rn_sls 3 (pc' := 57) (ls' := [(3, (0, (w32 ((w32 (a6 - a8)) - 1)))), (0, (2, 60)), (1, (2, v1)), (2, (0, v2))]) (st' := [(0, v2), (0, (μ9 60 9))]) rfl ?_
          refine rn_icmp (t := 111) rfl rfl rfl rfl h (fun h => ?_) (fun h => ?_)
          · refine rn_sls 1 (pc' := 112) (ls' := [(3, (0, (w32 ((w32 (a6 - a8)) - 1)))), (0, (2, 60)), (1, (2, v1)), (2, (0, v2))]) (st' := [(0, 1)]) rfl ?_
            exact rn_iretb rfl rfl rfl (Or.inr rfl) h rfl
          · refine rn_sls 2 (pc' := 62) (ls' := [(3, (0, (w32 ((w32 (a6 - a8)) - 1)))), (0, (2, 60)), (1, (2, v1)), (2, (0, v2))]) (st' := [(2, v1), (2, 60)]) rfl ?_
            refine rn_get ho1 rfl rfl rfl ?_
            refine rn_sls 0 (pc' := 65) (ls' := [(3, (0, (w32 ((w32 (a6 - a8)) - 1)))), (0, (2, 60)), (1, (2, v1)), (2, (0, v2))]) (st' := [(2, (v1 + 17)), (2, 60)]) rfl ?_
            refine rn_sls 1 (pc' := 66) (ls' := [(3, (0, (w32 ((w32 (a6 - a8)) - 1)))), (0, (2, 60)), (1, (2, v1)), (2, (0, v2))]) (st' := [(0, v2), (2, (v1 + 17)), (2, 60)]) rfl ?_
            refine rn_call 3 0 [(2, (v1 + 17)), (0, v2)] (r := [(2, 60)]) rfl ⟨rfl, Or.inr ⟨_, rfl, by decide⟩⟩ (by decide) (fun z => absurd z (by decide)) rfl rfl (Nat.le_of_ble_eq_true rfl) h (fun w hw => t_X_at (d + 4) _ _ _ _ hw) (fun a10 μ11 h => ?_)
            refine rn_sls 0 (pc' := 69) (ls' := [(3, (0, (w32 ((w32 (a6 - a8)) - 1)))), (0, (2, 60)), (1, (2, v1)), (2, (0, v2))]) (st' := [(0, a10), (2, 60)]) rfl ?_
            refine rn_put rfl rfl rfl rfl (Or.inl ⟨rfl, rfl⟩) rfl h (fun μ12 h => ?_)
            refine rn_sls 2 (pc' := 74) (ls' := [(3, (0, (w32 ((w32 (a6 - a8)) - 1)))), (0, (2, 60)), (1, (2, v1)), (2, (0, v2))]) (st' := [(0, (w32 ((w32 (a6 - a8)) - 1))), (2, 60)]) rfl ?_
            refine rn_put rfl rfl rfl rfl (Or.inl ⟨rfl, rfl⟩) rfl h (fun μ13 h => ?_)
            refine rn_sls 2 (pc' := 79) (ls' := [(3, (0, (w32 ((w32 (a6 - a8)) - 1)))), (0, (2, 60)), (1, (2, v1)), (2, (0, v2))]) (st' := [(2, v1), (2, 60)]) rfl ?_
            refine rn_get ho1 rfl rfl rfl ?_
            refine rn_sls 0 (pc' := 82) (ls' := [(3, (0, (w32 ((w32 (a6 - a8)) - 1)))), (0, (2, 60)), (1, (2, v1)), (2, (0, v2))]) (st' := [(2, (v1 + 1)), (2, 60)]) rfl ?_
            refine rn_sls 1 (pc' := 83) (ls' := [(3, (0, (w32 ((w32 (a6 - a8)) - 1)))), (0, (2, 60)), (1, (2, v1)), (2, (0, v2))]) (st' := [(2, v1), (2, (v1 + 1)), (2, 60)]) rfl ?_
            refine rn_get ho1 rfl rfl rfl ?_
            refine rn_sls 0 (pc' := 86) (ls' := [(3, (0, (w32 ((w32 (a6 - a8)) - 1)))), (0, (2, 60)), (1, (2, v1)), (2, (0, v2))]) (st' := [(2, (v1 + 15)), (2, (v1 + 1)), (2, 60)]) rfl ?_
            refine rn_sls 1 (pc' := 87) (ls' := [(3, (0, (w32 ((w32 (a6 - a8)) - 1)))), (0, (2, 60)), (1, (2, v1)), (2, (0, v2))]) (st' := [(0, v2), (2, (v1 + 15)), (2, (v1 + 1)), (2, 60)]) rfl ?_
            refine rn_call 3 0 [(2, (v1 + 15)), (0, v2)] (r := [(2, (v1 + 1)), (2, 60)]) rfl ⟨rfl, Or.inr ⟨_, rfl, by decide⟩⟩ (by decide) (fun z => absurd z (by decide)) rfl rfl (Nat.le_of_ble_eq_true rfl) h (fun w hw => t_X_at (d + 4) _ _ _ _ hw) (fun a14 μ15 h => ?_)
            refine rn_sls 0 (pc' := 90) (ls' := [(3, (0, (w32 ((w32 (a6 - a8)) - 1)))), (0, (2, 60)), (1, (2, v1)), (2, (0, v2))]) (st' := [(0, a14), (2, (v1 + 1)), (2, 60)]) rfl ?_
            refine rn_sls 3 (pc' := 95) (ls' := [(3, (0, (w32 ((w32 (a6 - a8)) - 1)))), (0, (2, 60)), (1, (2, v1)), (2, (0, v2))]) (st' := [(0, (w32 (a14 + (μ15 60 7)))), (2, (v1 + 1)), (2, 60)]) rfl ?_
            refine rn_call 0 2 [(2, 60), (2, (v1 + 1)), (0, (w32 (a14 + (μ15 60 7))))] (r := []) rfl ⟨rfl, Or.inl ⟨_, rfl, by decide⟩⟩ (by decide) (fun _ => ⟨_, rfl, rfl⟩) rfl rfl (Nat.le_of_ble_eq_true rfl) h (fun w hw => t_Or_countStands (d + 0) _ _ _ _ hw) (fun a16 μ17 h => ?_)
            refine rn_sls 0 (pc' := 98) (ls' := [(3, (0, (w32 ((w32 (a6 - a8)) - 1)))), (0, (2, 60)), (1, (2, v1)), (2, (0, v2))]) (st' := []) rfl ?_
            refine rn_sls 1 (pc' := 99) (ls' := [(3, (0, (w32 ((w32 (a6 - a8)) - 1)))), (0, (2, 60)), (1, (2, v1)), (2, (0, v2))]) (st' := [(2, 60)]) rfl ?_
            refine rn_call 0 2 [(2, 60)] (r := []) rfl ⟨rfl, Or.inl ⟨_, rfl, by decide⟩⟩ (by decide) (fun _ => ⟨_, rfl, rfl⟩) rfl rfl (Nat.le_of_ble_eq_true rfl) h (fun w hw => t_Or_findReaders (d + 2)  _ _ hw) (fun a18 μ19 h => ?_)
            refine rn_sls 0 (pc' := 102) (ls' := [(3, (0, (w32 ((w32 (a6 - a8)) - 1)))), (0, (2, 60)), (1, (2, v1)), (2, (0, v2))]) (st' := []) rfl ?_
            refine rn_sls 1 (pc' := 103) (ls' := [(3, (0, (w32 ((w32 (a6 - a8)) - 1)))), (0, (2, 60)), (1, (2, v1)), (2, (0, v2))]) (st' := [(2, 60)]) rfl ?_
            refine rn_call 0 2 [(2, 60)] (r := []) rfl ⟨rfl, Or.inl ⟨_, rfl, by decide⟩⟩ (by decide) (fun _ => ⟨_, rfl, rfl⟩) rfl rfl (Nat.le_of_ble_eq_true rfl) h (fun w hw => t_Or_findBest (d + 2)  _ _ hw) (fun a20 μ21 h => ?_)
            refine rn_sls 0 (pc' := 106) (ls' := [(3, (0, (w32 ((w32 (a6 - a8)) - 1)))), (0, (2, 60)), (1, (2, v1)), (2, (0, v2))]) (st' := []) rfl ?_
            refine rn_sls 2 (pc' := 108) (ls' := [(3, (0, (w32 ((w32 (a6 - a8)) - 1)))), (0, (2, 60)), (1, (2, v1)), (2, (0, v2))]) (st' := [(0, v2), (2, 60)]) rfl ?_
            refine rn_put rfl rfl rfl rfl (Or.inl ⟨rfl, rfl⟩) rfl h (fun μ22 h => ?_)
            refine rn_sls 1 (pc' := 112) (ls' := [(3, (0, (w32 ((w32 (a6 - a8)) - 1)))), (0, (2, 60)), (1, (2, v1)), (2, (0, v2))]) (st' := [(0, 1)]) rfl ?_
            exact rn_iretb rfl rfl rfl (Or.inr rfl) h rfl
        · refine rn_sls 1 (pc' := 51) (ls' := [(3, (0, (w32 ((w32 (a6 - a8)) - 1)))), (0, (2, 60)), (1, (2, v1)), (2, (0, v2))]) (st' := [(0, 0)]) rfl ?_
          exact rn_iretb rfl rfl rfl (Or.inl rfl) h rfl
      · refine rn_sls 1 (pc' := 51) (ls' := [(3, (0, (w32 ((w32 (a6 - a8)) - 1)))), (0, (2, 60)), (1, (2, v1)), (2, (0, v2))]) (st' := [(0, 0)]) rfl ?_
        exact rn_iretb rfl rfl rfl (Or.inl rfl) h rfl
set_option maxRecDepth 20000 in
theorem t_Or_least (d : Nat) : ∀  (μ : am_M) q, Or_least  μ = some q → am_ar g_mt (d + 2) 53 [(2, 60)] μ (am_res 0 q) := by
  intro  μ q h
  unfold Or_least at h
  refine am_ar_of (d := d + 1) i_Or_least rfl rfl (Nat.le_of_ble_eq_true rfl) ?_
  show am_run none (am_ar g_mt (d + 1)) 1 (some .int) k_Or_least 0 [(0, (2, 60))] [] μ (am_res 0 q)
  refine rn_sls 3 (pc' := 5) (ls' := [(0, (2, 60))]) (st' := [(0, 0), (2, 66)]) rfl ?_
  refine rn_call 3 0 [(2, 66), (0, 0)] (r := []) rfl ⟨rfl, Or.inr ⟨_, rfl, by decide⟩⟩ (by decide) (fun z => absurd z (by decide)) rfl rfl (Nat.le_of_ble_eq_true rfl) h (fun w hw => t_X_at (d + 0) _ _ _ _ hw) (fun a1 μ2 h => ?_)
  refine rn_sls 0 (pc' := 8) (ls' := [(0, (2, 60))]) (st' := [(0, a1)]) rfl ?_
  exact rn_ireti rfl rfl rfl h rfl
set_option maxRecDepth 20000 in
theorem t_Or_firstFollowing_B40 (d : Nat) (k2 : Int → Int → am_M → am_O) (hk2 : ∀ (v1 : Int) (v2 : Int) (μ : am_M) q, k2 v1 v2 μ = some q → am_run none (am_ar g_mt (d + 2)) 3 (some .int) k_Or_firstFollowing 2 [(0, (2, 60)), (1, (0, v1)), (2, (0, v2))] [] μ (am_res 0 q)) : ∀ (v1 : Int) (v2 : Int) (μ : am_M) q, Or_firstFollowing_B40 k2 v1 v2 μ = some q → am_run none (am_ar g_mt (d + 2)) 3 (some .int) k_Or_firstFollowing 40 [(0, (2, 60)), (1, (0, v1)), (2, (0, v2))] [] μ (am_res 0 q) := by
  intro v1 v2 μ q h
  unfold Or_firstFollowing_B40 at h
  refine rn_sls 1 (pc' := 43) (ls' := [(2, (0, (w32 (v2 + 1)))), (0, (2, 60)), (1, (0, v1))]) (st' := []) rfl ?_
  refine rn_goto (t := 2) rfl rfl rfl ?_
  exact rn_sub [1, 2, 0] rfl (hk2 _ _ _ _ h)
set_option maxRecDepth 20000 in
theorem t_Or_firstFollowing_L2_b (d : Nat) (k2 : Int → Int → am_M → am_O) (hk2 : ∀ (v1 : Int) (v2 : Int) (μ : am_M) q, k2 v1 v2 μ = some q → am_run none (am_ar g_mt (d + 2)) 3 (some .int) k_Or_firstFollowing 2 [(0, (2, 60)), (1, (0, v1)), (2, (0, v2))] [] μ (am_res 0 q)) : ∀ (v1 : Int) (v2 : Int) (μ : am_M) q, Or_firstFollowing_L2_b k2 v1 v2 μ = some q → am_run none (am_ar g_mt (d + 2)) 3 (some .int) k_Or_firstFollowing 2 [(0, (2, 60)), (1, (0, v1)), (2, (0, v2))] [] μ (am_res 0 q) := by
  intro v1 v2 μ q h
  unfold Or_firstFollowing_L2_b at h
  refine rn_sls 3 (pc' := 7) (ls' := [(0, (2, 60)), (1, (0, v1)), (2, (0, v2))]) (st' := [(0, (μ 60 8)), (0, v2)]) rfl ?_
  refine rn_icmpn (t := 46) rfl rfl rfl rfl h (fun h => ?_) (fun h => ?_)
  · refine rn_sls 3 (pc' := 13) (ls' := [(0, (2, 60)), (1, (0, v1)), (2, (0, v2))]) (st' := [(0, v1), (0, v2), (2, 60)]) rfl ?_
    refine rn_call 0 0 [(2, 60), (0, v2), (0, v1)] (r := []) rfl ⟨rfl, Or.inl ⟨_, rfl, by decide⟩⟩ (by decide) (fun _ => ⟨_, rfl, rfl⟩) rfl rfl (Nat.le_of_ble_eq_true rfl) h (fun w hw => t_Or_mayFollow (d + 0) _ _ _ _ hw) (fun a1 μ2 h => ?_)
    refine rn_sls 0 (pc' := 16) (ls' := [(0, (2, 60)), (1, (0, v1)), (2, (0, v2))]) (st' := [(0, a1)]) rfl ?_
    refine rn_if (t := 40) rfl rfl rfl rfl h (fun h => ?_) (fun h => ?_)
    · exact rn_sub [0, 1, 2] rfl (t_Or_firstFollowing_B40 d k2 hk2 _ _ _ _ h)
    · refine rn_sls 7 (pc' := 28) (ls' := [(0, (2, 60)), (1, (0, v1)), (2, (0, v2))]) (st' := [(0, (aOr v1 (aShl 1 v2))), (2, 66)]) rfl ?_
      refine rn_call 3 0 [(2, 66), (0, (aOr v1 (aShl 1 v2)))] (r := []) rfl ⟨rfl, Or.inr ⟨_, rfl, by decide⟩⟩ (by decide) (fun z => absurd z (by decide)) rfl rfl (Nat.le_of_ble_eq_true rfl) h (fun w hw => t_X_at (d + 1) _ _ _ _ hw) (fun a3 μ4 h => ?_)
      refine rn_sls 0 (pc' := 31) (ls' := [(0, (2, 60)), (1, (0, v1)), (2, (0, v2))]) (st' := [(0, a3)]) rfl ?_
      refine rn_sls 1 (pc' := 32) (ls' := [(0, (2, 60)), (1, (0, v1)), (2, (0, v2))]) (st' := [(2, 60), (0, a3)]) rfl ?_
      refine rn_call 0 0 [(2, 60)] (r := [(0, a3)]) rfl ⟨rfl, Or.inl ⟨_, rfl, by decide⟩⟩ (by decide) (fun _ => ⟨_, rfl, rfl⟩) rfl rfl (Nat.le_of_ble_eq_true rfl) h (fun w hw => t_Or_least (d + 0)  _ _ hw) (fun a5 μ6 h => ?_)
      refine rn_sls 0 (pc' := 35) (ls' := [(0, (2, 60)), (1, (0, v1)), (2, (0, v2))]) (st' := [(0, a5), (0, a3)]) rfl ?_
      refine rn_icmpn (t := 40) rfl rfl rfl rfl h (fun h => ?_) (fun h => ?_)
      · refine rn_sls 1 (pc' := 39) (ls' := [(0, (2, 60)), (1, (0, v1)), (2, (0, v2))]) (st' := [(0, v2)]) rfl ?_
        exact rn_ireti rfl rfl rfl h rfl
      · exact rn_sub [0, 1, 2] rfl (t_Or_firstFollowing_B40 d k2 hk2 _ _ _ _ h)
  · refine rn_sls 1 (pc' := 47) (ls' := [(0, (2, 60)), (1, (0, v1)), (2, (0, v2))]) (st' := [(0, (-1))]) rfl ?_
    exact rn_ireti rfl rfl rfl h rfl
set_option maxRecDepth 20000 in
theorem t_Or_firstFollowing_L2 (d : Nat) : ∀ (n : Nat) (v1 : Int) (v2 : Int) (μ : am_M) q, Or_firstFollowing_L2 n v1 v2 μ = some q → am_run none (am_ar g_mt (d + 2)) 3 (some .int) k_Or_firstFollowing 2 [(0, (2, 60)), (1, (0, v1)), (2, (0, v2))] [] μ (am_res 0 q) := by
  intro n
  induction n with
  | zero => intro v1 v2 μ q h; cases h
  | succ n ih => intro v1 v2 μ q h; exact t_Or_firstFollowing_L2_b d (Or_firstFollowing_L2 n) ih v1 v2 μ q h
set_option maxRecDepth 20000 in
theorem t_Or_firstFollowing (d : Nat) : ∀ (v1 : Int) (μ : am_M) q, Or_firstFollowing v1 μ = some q → am_ar g_mt (d + 3) 55 [(2, 60), (0, v1)] μ (am_res 0 q) := by
  intro v1 μ q h
  unfold Or_firstFollowing at h
  refine am_ar_of (d := d + 2) i_Or_firstFollowing rfl rfl (Nat.le_of_ble_eq_true rfl) ?_
  show am_run none (am_ar g_mt (d + 2)) 3 (some .int) k_Or_firstFollowing 0 [(0, (2, 60)), (1, (0, v1))] [] μ (am_res 0 q)
  refine rn_sls 2 (pc' := 2) (ls' := [(2, (0, 0)), (0, (2, 60)), (1, (0, v1))]) (st' := []) rfl ?_
  exact rn_sub [1, 2, 0] rfl (t_Or_firstFollowing_L2 d  am_FU _ _ _ _ h)
set_option maxRecDepth 20000 in
theorem t_Or_sumAt_B46 (d : Nat) (k21 : Int → Int → Int → Int → am_M → am_O) (hk21 : ∀ (v1 : Int) (v2 : Int) (v3 : Int) (v4 : Int) (μ : am_M) q, k21 v1 v2 v3 v4 μ = some q → am_run none (am_ar g_mt (d + 3)) 5 (some .int) k_Or_sumAt 21 [(0, (2, 60)), (1, (0, v1)), (2, (0, v2)), (3, (0, v3)), (4, (0, v4))] [] μ (am_res 0 q)) : ∀ (v1 : Int) (v3 : Int) (v4 : Int) (s0 : Int) (s1 : Int) (μ : am_M) q, Or_sumAt_B46 k21 v1 v3 v4 s0 s1 μ = some q → am_run none (am_ar g_mt (d + 3)) 5 (some .int) k_Or_sumAt 46 [(0, (2, 60)), (1, (0, v1)), (3, (0, v3)), (4, (0, v4))] [(0, s1), (0, s0)] μ (am_res 0 q) := by
  intro v1 v3 v4 s0 s1 μ q h
  unfold Or_sumAt_B46 at h
  refine rn_sls 3 (pc' := 51) (ls' := [(4, (0, (w32 (v4 + 1)))), (2, (0, (aOr s0 s1))), (0, (2, 60)), (1, (0, v1)), (3, (0, v3))]) (st' := []) rfl ?_
  refine rn_goto (t := 21) rfl rfl rfl ?_
  exact rn_sub [2, 3, 1, 4, 0] rfl (hk21 _ _ _ _ _ _ h)
set_option maxRecDepth 20000 in
theorem t_Or_sumAt_L21_b (d : Nat) (k21 : Int → Int → Int → Int → am_M → am_O) (hk21 : ∀ (v1 : Int) (v2 : Int) (v3 : Int) (v4 : Int) (μ : am_M) q, k21 v1 v2 v3 v4 μ = some q → am_run none (am_ar g_mt (d + 3)) 5 (some .int) k_Or_sumAt 21 [(0, (2, 60)), (1, (0, v1)), (2, (0, v2)), (3, (0, v3)), (4, (0, v4))] [] μ (am_res 0 q)) : ∀ (v1 : Int) (v2 : Int) (v3 : Int) (v4 : Int) (μ : am_M) q, Or_sumAt_L21_b k21 v1 v2 v3 v4 μ = some q → am_run none (am_ar g_mt (d + 3)) 5 (some .int) k_Or_sumAt 21 [(0, (2, 60)), (1, (0, v1)), (2, (0, v2)), (3, (0, v3)), (4, (0, v4))] [] μ (am_res 0 q) := by
  intro v1 v2 v3 v4 μ q h
  unfold Or_sumAt_L21_b at h
  refine rn_sls 2 (pc' := 24) (ls' := [(0, (2, 60)), (1, (0, v1)), (2, (0, v2)), (3, (0, v3)), (4, (0, v4))]) (st' := [(0, v1), (0, v4)]) rfl ?_
  refine rn_icmpn (t := 54) rfl rfl rfl rfl h (fun h => ?_) (fun h => ?_)
  · refine rn_sls 2 (pc' := 29) (ls' := [(0, (2, 60)), (1, (0, v1)), (2, (0, v2)), (3, (0, v3)), (4, (0, v4))]) (st' := [(0, v2), (2, 60)]) rfl ?_
    refine rn_call 0 0 [(2, 60), (0, v2)] (r := []) rfl ⟨rfl, Or.inl ⟨_, rfl, by decide⟩⟩ (by decide) (fun _ => ⟨_, rfl, rfl⟩) rfl rfl (Nat.le_of_ble_eq_true rfl) h (fun w hw => t_Or_firstFollowing (d + 0) _ _ _ hw) (fun a1 μ2 h => ?_)
    refine rn_sls 0 (pc' := 32) (ls' := [(0, (2, 60)), (1, (0, v1)), (2, (0, v2)), (3, (0, v3)), (4, (0, v4))]) (st' := [(0, a1)]) rfl ?_
    refine rn_sls 4 (pc' := 36) (ls' := [(3, (0, a1)), (0, (2, 60)), (1, (0, v1)), (2, (0, v2)), (4, (0, v4))]) (st' := [(0, (-1)), (0, a1), (0, v2)]) rfl ?_
    refine rn_icmpn (t := 43) rfl rfl rfl rfl h (fun h => ?_) (fun h => ?_)
    · refine rn_sls 1 (pc' := 40) (ls' := [(3, (0, a1)), (0, (2, 60)), (1, (0, v1)), (2, (0, v2)), (4, (0, v4))]) (st' := [(0, 0), (0, v2)]) rfl ?_
      refine rn_goto (t := 46) rfl rfl rfl ?_
      exact rn_sub [1, 2, 0, 4] rfl (t_Or_sumAt_B46 d k21 hk21 _ _ _ _ _ _ _ h)
    · refine rn_sls 3 (pc' := 46) (ls' := [(3, (0, a1)), (0, (2, 60)), (1, (0, v1)), (2, (0, v2)), (4, (0, v4))]) (st' := [(0, (aShl 1 a1)), (0, v2)]) rfl ?_
      exact rn_sub [1, 2, 0, 4] rfl (t_Or_sumAt_B46 d k21 hk21 _ _ _ _ _ _ _ h)
  · refine rn_sls 1 (pc' := 55) (ls' := [(0, (2, 60)), (1, (0, v1)), (2, (0, v2)), (3, (0, v3)), (4, (0, v4))]) (st' := [(0, v3)]) rfl ?_
    exact rn_ireti rfl rfl rfl h rfl
set_option maxRecDepth 20000 in
theorem t_Or_sumAt_L21 (d : Nat) : ∀ (n : Nat) (v1 : Int) (v2 : Int) (v3 : Int) (v4 : Int) (μ : am_M) q, Or_sumAt_L21 n v1 v2 v3 v4 μ = some q → am_run none (am_ar g_mt (d + 3)) 5 (some .int) k_Or_sumAt 21 [(0, (2, 60)), (1, (0, v1)), (2, (0, v2)), (3, (0, v3)), (4, (0, v4))] [] μ (am_res 0 q) := by
  intro n
  induction n with
  | zero => intro v1 v2 v3 v4 μ q h; cases h
  | succ n ih => intro v1 v2 v3 v4 μ q h; exact t_Or_sumAt_L21_b d (Or_sumAt_L21 n) ih v1 v2 v3 v4 μ q h
set_option maxRecDepth 20000 in
theorem t_Or_sumAt (d : Nat) : ∀ (v1 : Int) (μ : am_M) q, Or_sumAt v1 μ = some q → am_ar g_mt (d + 4) 54 [(2, 60), (0, v1)] μ (am_res 0 q) := by
  intro v1 μ q h
  unfold Or_sumAt at h
  refine am_ar_of (d := d + 3) i_Or_sumAt rfl rfl (Nat.le_of_ble_eq_true rfl) ?_
  show am_run none (am_ar g_mt (d + 3)) 5 (some .int) k_Or_sumAt 0 [(0, (2, 60)), (1, (0, v1))] [] μ (am_res 0 q)
  refine rn_sls 1 (pc' := 1) (ls' := [(0, (2, 60)), (1, (0, v1))]) (st' := [(0, v1)]) rfl ?_
  refine rn_if (t := 12) rfl rfl rfl rfl h (fun h => ?_) (fun h => ?_)
  · refine rn_sls 1 (pc' := 13) (ls' := [(0, (2, 60)), (1, (0, v1))]) (st' := [(0, (-1))]) rfl ?_
    exact rn_ireti rfl rfl rfl h rfl
  · refine rn_sls 3 (pc' := 9) (ls' := [(0, (2, 60)), (1, (0, v1))]) (st' := [(0, (μ 60 8)), (0, v1)]) rfl ?_
    refine rn_icmp (t := 14) rfl rfl rfl rfl h (fun h => ?_) (fun h => ?_)
    · refine rn_sls 6 (pc' := 21) (ls' := [(4, (0, 0)), (3, (0, (-1))), (2, (0, 0)), (0, (2, 60)), (1, (0, v1))]) (st' := []) rfl ?_
      exact rn_sub [3, 4, 2, 1, 0] rfl (t_Or_sumAt_L21 d  am_FU _ _ _ _ _ _ h)
    · refine rn_sls 1 (pc' := 13) (ls' := [(0, (2, 60)), (1, (0, v1))]) (st' := [(0, (-1))]) rfl ?_
      exact rn_ireti rfl rfl rfl h rfl
