/-! The code does what the functions say. Printed by program. -/
set_option maxRecDepth 20000 in
theorem t_Wy_turnBack_B103 (d : Nat) (k0 : Int → am_M → am_O) (hk0 : ∀ (v1 : Int) (μ : am_M) q, k0 v1 μ = some q → am_run none (am_ar g_mt (d + 3)) 3 (some .int) k_Wy_turnBack 0 [(0, (2, 50)), (1, (2, v1))] [] μ (am_res 0 q)) : ∀ (v1 : Int) (v2 : Int) (μ : am_M) q, Wy_turnBack_B103 k0 v1 v2 μ = some q → am_run none (am_ar g_mt (d + 3)) 3 (some .int) k_Wy_turnBack 103 [(0, (2, 50)), (1, (2, v1)), (2, (0, v2))] [] μ (am_res 0 q) := by
  intro v1 v2 μ q h
  unfold Wy_turnBack_B103 at h
  refine rn_sls 4 (pc' := 107) (ls' := [(0, (2, 50)), (1, (2, v1)), (2, (0, v2))]) (st' := [(0, (-1)), (0, v2), (2, v1), (2, 50)]) rfl ?_
  refine rn_call 0 2 [(2, 50), (2, v1), (0, v2), (0, (-1))] (r := []) rfl ⟨rfl, Or.inl ⟨_, rfl, by decide⟩⟩ (by decide) (fun _ => ⟨_, rfl, rfl⟩) rfl rfl (Nat.le_of_ble_eq_true rfl) h (fun w hw => t_Wy_weigh (d + 0) _ _ _ _ _ hw) (fun a1 μ2 h => ?_)
  refine rn_sls 0 (pc' := 110) (ls' := [(0, (2, 50)), (1, (2, v1)), (2, (0, v2))]) (st' := []) rfl ?_
  refine rn_goto (t := 0) rfl rfl rfl ?_
  exact rn_sub [0, 1] rfl (hk0 _ _ _ h)
set_option maxRecDepth 20000 in
theorem t_Wy_turnBack_B82 (d : Nat) (k0 : Int → am_M → am_O) (hk0 : ∀ (v1 : Int) (μ : am_M) q, k0 v1 μ = some q → am_run none (am_ar g_mt (d + 3)) 3 (some .int) k_Wy_turnBack 0 [(0, (2, 50)), (1, (2, v1))] [] μ (am_res 0 q)) : ∀ (v1 : Int) (v2 : Int) (μ : am_M) q, Wy_turnBack_B82 k0 v1 v2 μ = some q → am_run none (am_ar g_mt (d + 3)) 3 (some .int) k_Wy_turnBack 82 [(0, (2, 50)), (1, (2, v1)), (2, (0, v2))] [] μ (am_res 0 q) := by
  intro v1 v2 μ q h
  unfold Wy_turnBack_B82 at h
  refine rn_sls 3 (pc' := 87) (ls' := [(0, (2, 50)), (1, (2, v1)), (2, (0, v2))]) (st' := [(0, v2), (2, 57)]) rfl ?_
  refine rn_call 3 0 [(2, 57), (0, v2)] (r := []) rfl ⟨rfl, Or.inr ⟨_, rfl, by decide⟩⟩ (by decide) (fun z => absurd z (by decide)) rfl rfl (Nat.le_of_ble_eq_true rfl) h (fun w hw => t_X_at (d + 2) _ _ _ _ hw) (fun a1 μ2 h => ?_)
  refine rn_sls 0 (pc' := 90) (ls' := [(0, (2, 50)), (1, (2, v1)), (2, (0, v2))]) (st' := [(0, a1)]) rfl ?_
  refine rn_sls 1 (pc' := 91) (ls' := [(0, (2, 50)), (1, (2, v1)), (2, (0, v2))]) (st' := [(0, 2), (0, a1)]) rfl ?_
  refine rn_icmpn (t := 103) rfl rfl rfl rfl h (fun h => ?_) (fun h => ?_)
  · refine rn_sls 4 (pc' := 100) (ls' := [(0, (2, 50)), (1, (2, v1)), (2, (0, v2))]) (st' := [(0, 0), (0, v2), (2, 57)]) rfl ?_
    refine rn_call 3 2 [(2, 57), (0, v2), (0, 0)] (r := []) rfl ⟨rfl, Or.inr ⟨_, rfl, by decide⟩⟩ (by decide) (fun z => absurd z (by decide)) rfl rfl (Nat.le_of_ble_eq_true rfl) h (fun w hw => t_X_put (d + 2) _ _ _ _ _ hw) (fun a3 μ4 h => ?_)
    refine rn_sls 0 (pc' := 103) (ls' := [(0, (2, 50)), (1, (2, v1)), (2, (0, v2))]) (st' := []) rfl ?_
    exact rn_sub [0, 1, 2] rfl (t_Wy_turnBack_B103 d k0 hk0 _ _ _ _ h)
  · exact rn_sub [0, 1, 2] rfl (t_Wy_turnBack_B103 d k0 hk0 _ _ _ _ h)
set_option maxRecDepth 20000 in
theorem t_Wy_turnBack_L0_b (d : Nat) (k0 : Int → am_M → am_O) (hk0 : ∀ (v1 : Int) (μ : am_M) q, k0 v1 μ = some q → am_run none (am_ar g_mt (d + 3)) 3 (some .int) k_Wy_turnBack 0 [(0, (2, 50)), (1, (2, v1))] [] μ (am_res 0 q)) : ∀ (v1 : Int) (μ : am_M) q, Wy_turnBack_L0_b k0 v1 μ = some q → am_run none (am_ar g_mt (d + 3)) 3 (some .int) k_Wy_turnBack 0 [(0, (2, 50)), (1, (2, v1))] [] μ (am_res 0 q) := by
  intro v1 μ q h
  unfold Wy_turnBack_L0_b at h
  refine rn_sls 2 (pc' := 4) (ls' := [(0, (2, 50)), (1, (2, v1))]) (st' := [(0, (μ 50 8))]) rfl ?_
  refine rn_if (t := 113) rfl rfl rfl rfl h (fun h => ?_) (fun h => ?_)
  · refine rn_sls 1 (pc' := 114) (ls' := [(0, (2, 50)), (1, (2, v1))]) (st' := [(0, (-1))]) rfl ?_
    exact rn_ireti rfl rfl rfl h rfl
  · refine rn_sls 5 (pc' := 14) (ls' := [(0, (2, 50)), (1, (2, v1))]) (st' := [(0, (w32 ((μ 50 8) - 1))), (2, 50)]) rfl ?_
    refine rn_put rfl rfl rfl rfl (Or.inl ⟨rfl, rfl⟩) rfl h (fun μ1 h => ?_)
    refine rn_sls 4 (pc' := 25) (ls' := [(0, (2, 50)), (1, (2, v1))]) (st' := [(0, (μ1 50 8)), (2, 56)]) rfl ?_
    refine rn_call 3 0 [(2, 56), (0, (μ1 50 8))] (r := []) rfl ⟨rfl, Or.inr ⟨_, rfl, by decide⟩⟩ (by decide) (fun z => absurd z (by decide)) rfl rfl (Nat.le_of_ble_eq_true rfl) h (fun w hw => t_X_at (d + 2) _ _ _ _ hw) (fun a2 μ3 h => ?_)
    refine rn_sls 0 (pc' := 28) (ls' := [(0, (2, 50)), (1, (2, v1))]) (st' := [(0, a2)]) rfl ?_
    refine rn_sls 2 (pc' := 30) (ls' := [(2, (0, a2)), (0, (2, 50)), (1, (2, v1))]) (st' := [(2, v1)]) rfl ?_
    refine rn_gd h (fun ho4 h => ?_)
    refine rn_get ho4 rfl rfl rfl ?_
    refine rn_sls 0 (pc' := 33) (ls' := [(2, (0, a2)), (0, (2, 50)), (1, (2, v1))]) (st' := [(2, (v1 + 1))]) rfl ?_
    refine rn_sls 1 (pc' := 34) (ls' := [(2, (0, a2)), (0, (2, 50)), (1, (2, v1))]) (st' := [(0, a2), (2, (v1 + 1))]) rfl ?_
    refine rn_call 3 0 [(2, (v1 + 1)), (0, a2)] (r := []) rfl ⟨rfl, Or.inr ⟨_, rfl, by decide⟩⟩ (by decide) (fun z => absurd z (by decide)) rfl rfl (Nat.le_of_ble_eq_true rfl) h (fun w hw => t_X_at (d + 2) _ _ _ _ hw) (fun a5 μ6 h => ?_)
    refine rn_sls 0 (pc' := 37) (ls' := [(2, (0, a2)), (0, (2, 50)), (1, (2, v1))]) (st' := [(0, a5)]) rfl ?_
    refine rn_sls 1 (pc' := 38) (ls' := [(2, (0, a2)), (0, (2, 50)), (1, (2, v1))]) (st' := [(0, 5), (0, a5)]) rfl ?_
    refine rn_icmpn (t := 82) rfl rfl rfl rfl h (fun h => ?_) (fun h => ?_)
    · refine rn_sls 3 (pc' := 46) (ls' := [(2, (0, a2)), (0, (2, 50)), (1, (2, v1))]) (st' := [(0, a2), (2, 57)]) rfl ?_
      refine rn_call 3 0 [(2, 57), (0, a2)] (r := []) rfl ⟨rfl, Or.inr ⟨_, rfl, by decide⟩⟩ (by decide) (fun z => absurd z (by decide)) rfl rfl (Nat.le_of_ble_eq_true rfl) h (fun w hw => t_X_at (d + 2) _ _ _ _ hw) (fun a7 μ8 h => ?_)
      refine rn_sls 0 (pc' := 49) (ls' := [(2, (0, a2)), (0, (2, 50)), (1, (2, v1))]) (st' := [(0, a7)]) rfl ?_
      refine rn_ifn (t := 82) rfl rfl rfl rfl h (fun h => ?_) (fun h => ?_)
      · refine rn_sls 4 (pc' := 58) (ls' := [(2, (0, a2)), (0, (2, 50)), (1, (2, v1))]) (st' := [(0, 2), (0, a2), (2, 57)]) rfl ?_
        refine rn_call 3 2 [(2, 57), (0, a2), (0, 2)] (r := []) rfl ⟨rfl, Or.inr ⟨_, rfl, by decide⟩⟩ (by decide) (fun z => absurd z (by decide)) rfl rfl (Nat.le_of_ble_eq_true rfl) h (fun w hw => t_X_put (d + 2) _ _ _ _ _ hw) (fun a9 μ10 h => ?_)
        refine rn_sls 0 (pc' := 61) (ls' := [(2, (0, a2)), (0, (2, 50)), (1, (2, v1))]) (st' := []) rfl ?_
        refine rn_sls 5 (pc' := 68) (ls' := [(2, (0, a2)), (0, (2, 50)), (1, (2, v1))]) (st' := [(0, (w32 ((μ10 50 8) + 1))), (2, 50)]) rfl ?_
        refine rn_put rfl rfl rfl rfl (Or.inl ⟨rfl, rfl⟩) rfl h (fun μ11 h => ?_)
        refine rn_sls 1 (pc' := 72) (ls' := [(2, (0, a2)), (0, (2, 50)), (1, (2, v1))]) (st' := [(2, v1)]) rfl ?_
        refine rn_get ho4 rfl rfl rfl ?_
        refine rn_sls 0 (pc' := 75) (ls' := [(2, (0, a2)), (0, (2, 50)), (1, (2, v1))]) (st' := [(2, (v1 + 6))]) rfl ?_
        refine rn_sls 1 (pc' := 76) (ls' := [(2, (0, a2)), (0, (2, 50)), (1, (2, v1))]) (st' := [(0, a2), (2, (v1 + 6))]) rfl ?_
        refine rn_call 3 0 [(2, (v1 + 6)), (0, a2)] (r := []) rfl ⟨rfl, Or.inr ⟨_, rfl, by decide⟩⟩ (by decide) (fun z => absurd z (by decide)) rfl rfl (Nat.le_of_ble_eq_true rfl) h (fun w hw => t_X_at (d + 2) _ _ _ _ hw) (fun a12 μ13 h => ?_)
        refine rn_sls 0 (pc' := 79) (ls' := [(2, (0, a2)), (0, (2, 50)), (1, (2, v1))]) (st' := [(0, a12)]) rfl ?_
        refine rn_sls 2 (pc' := 81) (ls' := [(2, (0, a2)), (0, (2, 50)), (1, (2, v1))]) (st' := [(0, (w32 (a12 + 1)))]) rfl ?_
        exact rn_ireti rfl rfl rfl h rfl
      · exact rn_sub [1, 2, 0] rfl (t_Wy_turnBack_B82 d k0 hk0 _ _ _ _ h)
    · exact rn_sub [1, 2, 0] rfl (t_Wy_turnBack_B82 d k0 hk0 _ _ _ _ h)
set_option maxRecDepth 20000 in
theorem t_Wy_turnBack_L0 (d : Nat) : ∀ (n : Nat) (v1 : Int) (μ : am_M) q, Wy_turnBack_L0 n v1 μ = some q → am_run none (am_ar g_mt (d + 3)) 3 (some .int) k_Wy_turnBack 0 [(0, (2, 50)), (1, (2, v1))] [] μ (am_res 0 q) := by
  intro n
  induction n with
  | zero => intro v1 μ q h; cases h
  | succ n ih => intro v1 μ q h; exact t_Wy_turnBack_L0_b d (Wy_turnBack_L0 n) ih v1 μ q h
set_option maxRecDepth 20000 in
theorem t_Wy_turnBack (d : Nat) : ∀ (v1 : Int) (μ : am_M) q, Wy_turnBack v1 μ = some q → am_ar g_mt (d + 4) 117 [(2, 50), (2, v1)] μ (am_res 0 q) := by
  intro v1 μ q h
  unfold Wy_turnBack at h
  refine am_ar_of (d := d + 3) i_Wy_turnBack rfl rfl (Nat.le_of_ble_eq_true rfl) ?_
  show am_run none (am_ar g_mt (d + 3)) 3 (some .int) k_Wy_turnBack 0 [(0, (2, 50)), (1, (2, v1))] [] μ (am_res 0 q)
  exact rn_sub [0, 1] rfl (t_Wy_turnBack_L0 d am_FU _ _ _ h)
set_option maxRecDepth 20000 in
theorem t_Wy_walkAll_B121 (d : Nat) (k18 : Int → Int → Int → am_M → am_O) (hk18 : ∀ (v3 : Int) (v4 : Int) (v5 : Int) (μ : am_M) q, k18 v3 v4 v5 μ = some q → am_run none (am_ar g_mt (d + 4)) 7 none k_Wy_walkAll 18 [(0, (2, 50)), (3, (2, v3)), (4, (0, v4)), (5, (0, v5))] [] μ (am_res 2 q)) : ∀ (v3 : Int) (v4 : Int) (v5 : Int) (μ : am_M) q, Wy_walkAll_B121 k18 v3 v4 v5 μ = some q → am_run none (am_ar g_mt (d + 4)) 7 none k_Wy_walkAll 121 [(0, (2, 50)), (3, (2, v3)), (4, (0, v4)), (5, (0, v5))] [] μ (am_res 2 q) := by
  intro v3 v4 v5 μ q h
  unfold Wy_walkAll_B121 at h
  refine rn_sls 1 (pc' := 124) (ls' := [(5, (0, (w32 (v5 + 1)))), (0, (2, 50)), (3, (2, v3)), (4, (0, v4))]) (st' := []) rfl ?_
  refine rn_goto (t := 18) rfl rfl rfl ?_
  exact rn_sub [1, 2, 3, 0] rfl (hk18 _ _ _ _ _ h)
set_option maxRecDepth 20000 in
theorem t_Wy_walkAll_B119 (d : Nat) (k18 : Int → Int → Int → am_M → am_O) (hk18 : ∀ (v3 : Int) (v4 : Int) (v5 : Int) (μ : am_M) q, k18 v3 v4 v5 μ = some q → am_run none (am_ar g_mt (d + 4)) 7 none k_Wy_walkAll 18 [(0, (2, 50)), (3, (2, v3)), (4, (0, v4)), (5, (0, v5))] [] μ (am_res 2 q)) : ∀ (v3 : Int) (v5 : Int) (s0 : Int) (μ : am_M) q, Wy_walkAll_B119 k18 v3 v5 s0 μ = some q → am_run none (am_ar g_mt (d + 4)) 7 none k_Wy_walkAll 119 [(0, (2, 50)), (3, (2, v3)), (5, (0, v5))] [(0, s0)] μ (am_res 2 q) := by
  intro v3 v5 s0 μ q h
  unfold Wy_walkAll_B119 at h
  refine rn_sls 1 (pc' := 121) (ls' := [(4, (0, s0)), (0, (2, 50)), (3, (2, v3)), (5, (0, v5))]) (st' := []) rfl ?_
  exact rn_sub [1, 2, 0, 3] rfl (t_Wy_walkAll_B121 d k18 hk18 _ _ _ _ _ h)
set_option maxRecDepth 20000 in
theorem t_Wy_walkAll_L18_b (d : Nat) (k18 : Int → Int → Int → am_M → am_O) (hk18 : ∀ (v3 : Int) (v4 : Int) (v5 : Int) (μ : am_M) q, k18 v3 v4 v5 μ = some q → am_run none (am_ar g_mt (d + 4)) 7 none k_Wy_walkAll 18 [(0, (2, 50)), (3, (2, v3)), (4, (0, v4)), (5, (0, v5))] [] μ (am_res 2 q)) : ∀ (v3 : Int) (v4 : Int) (v5 : Int) (μ : am_M) q, Wy_walkAll_L18_b k18 v3 v4 v5 μ = some q → am_run none (am_ar g_mt (d + 4)) 7 none k_Wy_walkAll 18 [(0, (2, 50)), (3, (2, v3)), (4, (0, v4)), (5, (0, v5))] [] μ (am_res 2 q) := by
  intro v3 v4 v5 μ q h
  unfold Wy_walkAll_L18_b at h
  refine rn_sls 2 (pc' := 22) (ls' := [(0, (2, 50)), (3, (2, v3)), (4, (0, v4)), (5, (0, v5))]) (st' := [(0, 100000000), (0, v5)]) rfl ?_
  refine rn_icmpn (t := 127) rfl rfl rfl rfl h (fun h => ?_) (fun h => ?_)
  · refine rn_sls 2 (pc' := 28) (ls' := [(0, (2, 50)), (3, (2, v3)), (4, (0, v4)), (5, (0, v5))]) (st' := [(0, (-1)), (0, v4)]) rfl ?_
    refine rn_icmp (t := 127) rfl rfl rfl rfl h (fun h => ?_) (fun h => ?_)
    · exact rn_ret (v := 0) rfl rfl rfl h rfl
    · refine rn_sls 4 (pc' := 36) (ls' := [(0, (2, 50)), (3, (2, v3)), (4, (0, v4)), (5, (0, v5))]) (st' := [(0, 1), (0, v4), (2, v3), (2, 50)]) rfl ?_
      refine rn_call 0 2 [(2, 50), (2, v3), (0, v4), (0, 1)] (r := []) rfl ⟨rfl, Or.inl ⟨_, rfl, by decide⟩⟩ (by decide) (fun _ => ⟨_, rfl, rfl⟩) rfl rfl (Nat.le_of_ble_eq_true rfl) h (fun w hw => t_Wy_weigh (d + 1) _ _ _ _ _ hw) (fun a1 μ2 h => ?_)
      refine rn_sls 0 (pc' := 39) (ls' := [(0, (2, 50)), (3, (2, v3)), (4, (0, v4)), (5, (0, v5))]) (st' := []) rfl ?_
      refine rn_sls 5 (pc' := 49) (ls' := [(0, (2, 50)), (3, (2, v3)), (4, (0, v4)), (5, (0, v5))]) (st' := [(0, v4), (0, (μ2 50 8)), (2, 56)]) rfl ?_
      refine rn_call 3 2 [(2, 56), (0, (μ2 50 8)), (0, v4)] (r := []) rfl ⟨rfl, Or.inr ⟨_, rfl, by decide⟩⟩ (by decide) (fun z => absurd z (by decide)) rfl rfl (Nat.le_of_ble_eq_true rfl) h (fun w hw => t_X_put (d + 3) _ _ _ _ _ hw) (fun a3 μ4 h => ?_)
      refine rn_sls 0 (pc' := 52) (ls' := [(0, (2, 50)), (3, (2, v3)), (4, (0, v4)), (5, (0, v5))]) (st' := []) rfl ?_
      refine rn_sls 5 (pc' := 59) (ls' := [(0, (2, 50)), (3, (2, v3)), (4, (0, v4)), (5, (0, v5))]) (st' := [(0, (w32 ((μ4 50 8) + 1))), (2, 50)]) rfl ?_
      refine rn_put rfl rfl rfl rfl (Or.inl ⟨rfl, rfl⟩) rfl h (fun μ5 h => ?_)
      refine rn_sls 1 (pc' := 63) (ls' := [(0, (2, 50)), (3, (2, v3)), (4, (0, v4)), (5, (0, v5))]) (st' := [(2, v3)]) rfl ?_
      refine rn_gd h (fun ho6 h => ?_)
      refine rn_get ho6 rfl rfl rfl ?_
      refine rn_sls 0 (pc' := 66) (ls' := [(0, (2, 50)), (3, (2, v3)), (4, (0, v4)), (5, (0, v5))]) (st' := [(2, (v3 + 1))]) rfl ?_
      refine rn_sls 1 (pc' := 68) (ls' := [(0, (2, 50)), (3, (2, v3)), (4, (0, v4)), (5, (0, v5))]) (st' := [(0, v4), (2, (v3 + 1))]) rfl ?_
      refine rn_call 3 0 [(2, (v3 + 1)), (0, v4)] (r := []) rfl ⟨rfl, Or.inr ⟨_, rfl, by decide⟩⟩ (by decide) (fun z => absurd z (by decide)) rfl rfl (Nat.le_of_ble_eq_true rfl) h (fun w hw => t_X_at (d + 3) _ _ _ _ hw) (fun a7 μ8 h => ?_)
      refine rn_sls 0 (pc' := 71) (ls' := [(0, (2, 50)), (3, (2, v3)), (4, (0, v4)), (5, (0, v5))]) (st' := [(0, a7)]) rfl ?_
      refine rn_sls 3 (pc' := 77) (ls' := [(6, (0, a7)), (0, (2, 50)), (3, (2, v3)), (4, (0, v4)), (5, (0, v5))]) (st' := [(0, 8), (0, a7)]) rfl ?_
      refine rn_icmpn (t := 94) rfl rfl rfl rfl h (fun h => ?_) (fun h => ?_)
      · refine rn_sls 1 (pc' := 81) (ls' := [(6, (0, a7)), (0, (2, 50)), (3, (2, v3)), (4, (0, v4)), (5, (0, v5))]) (st' := [(2, 50)]) rfl ?_
        refine rn_call 0 2 [(2, 50)] (r := []) rfl ⟨rfl, Or.inl ⟨_, rfl, by decide⟩⟩ (by decide) (fun _ => ⟨_, rfl, rfl⟩) rfl rfl (Nat.le_of_ble_eq_true rfl) h (fun w hw => t_Wy_record (d + 2)  _ _ hw) (fun a11 μ12 h => ?_)
        refine rn_sls 0 (pc' := 84) (ls' := [(6, (0, a7)), (0, (2, 50)), (3, (2, v3)), (4, (0, v4)), (5, (0, v5))]) (st' := []) rfl ?_
        refine rn_sls 2 (pc' := 86) (ls' := [(6, (0, a7)), (0, (2, 50)), (3, (2, v3)), (4, (0, v4)), (5, (0, v5))]) (st' := [(2, v3), (2, 50)]) rfl ?_
        refine rn_call 0 0 [(2, 50), (2, v3)] (r := []) rfl ⟨rfl, Or.inl ⟨_, rfl, by decide⟩⟩ (by decide) (fun _ => ⟨_, rfl, rfl⟩) rfl rfl (Nat.le_of_ble_eq_true rfl) h (fun w hw => t_Wy_turnBack (d + 0) _ _ _ hw) (fun a13 μ14 h => ?_)
        refine rn_sls 0 (pc' := 89) (ls' := [(6, (0, a7)), (0, (2, 50)), (3, (2, v3)), (4, (0, v4)), (5, (0, v5))]) (st' := [(0, a13)]) rfl ?_
        refine rn_sls 1 (pc' := 91) (ls' := [(4, (0, a13)), (6, (0, a7)), (0, (2, 50)), (3, (2, v3)), (5, (0, v5))]) (st' := []) rfl ?_
        refine rn_goto (t := 121) rfl rfl rfl ?_
        exact rn_sub [2, 3, 0, 4] rfl (t_Wy_walkAll_B121 d k18 hk18 _ _ _ _ _ h)
      · refine rn_sls 2 (pc' := 98) (ls' := [(6, (0, a7)), (0, (2, 50)), (3, (2, v3)), (4, (0, v4)), (5, (0, v5))]) (st' := [(0, 6), (0, a7)]) rfl ?_
        refine rn_icmpn (t := 115) rfl rfl rfl rfl h (fun h => ?_) (fun h => ?_)
        · refine rn_sls 1 (pc' := 102) (ls' := [(6, (0, a7)), (0, (2, 50)), (3, (2, v3)), (4, (0, v4)), (5, (0, v5))]) (st' := [(2, v3)]) rfl ?_
          refine rn_get ho6 rfl rfl rfl ?_
          refine rn_sls 0 (pc' := 105) (ls' := [(6, (0, a7)), (0, (2, 50)), (3, (2, v3)), (4, (0, v4)), (5, (0, v5))]) (st' := [(2, (v3 + 6))]) rfl ?_
          refine rn_sls 1 (pc' := 107) (ls' := [(6, (0, a7)), (0, (2, 50)), (3, (2, v3)), (4, (0, v4)), (5, (0, v5))]) (st' := [(0, v4), (2, (v3 + 6))]) rfl ?_
          refine rn_call 3 0 [(2, (v3 + 6)), (0, v4)] (r := []) rfl ⟨rfl, Or.inr ⟨_, rfl, by decide⟩⟩ (by decide) (fun z => absurd z (by decide)) rfl rfl (Nat.le_of_ble_eq_true rfl) h (fun w hw => t_X_at (d + 3) _ _ _ _ hw) (fun a9 μ10 h => ?_)
          refine rn_sls 0 (pc' := 110) (ls' := [(6, (0, a7)), (0, (2, 50)), (3, (2, v3)), (4, (0, v4)), (5, (0, v5))]) (st' := [(0, a9)]) rfl ?_
          refine rn_sls 2 (pc' := 112) (ls' := [(6, (0, a7)), (0, (2, 50)), (3, (2, v3)), (4, (0, v4)), (5, (0, v5))]) (st' := [(0, (w32 (a9 + 1)))]) rfl ?_
          refine rn_goto (t := 119) rfl rfl rfl ?_
          exact rn_sub [1, 2, 4] rfl (t_Wy_walkAll_B119 d k18 hk18 _ _ _ _ _ h)
        · refine rn_sls 3 (pc' := 119) (ls' := [(6, (0, a7)), (0, (2, 50)), (3, (2, v3)), (4, (0, v4)), (5, (0, v5))]) (st' := [(0, (w32 (v4 + 1)))]) rfl ?_
          exact rn_sub [1, 2, 4] rfl (t_Wy_walkAll_B119 d k18 hk18 _ _ _ _ _ h)
  · exact rn_ret (v := 0) rfl rfl rfl h rfl
set_option maxRecDepth 20000 in
theorem t_Wy_walkAll_L18 (d : Nat) : ∀ (n : Nat) (v3 : Int) (v4 : Int) (v5 : Int) (μ : am_M) q, Wy_walkAll_L18 n v3 v4 v5 μ = some q → am_run none (am_ar g_mt (d + 4)) 7 none k_Wy_walkAll 18 [(0, (2, 50)), (3, (2, v3)), (4, (0, v4)), (5, (0, v5))] [] μ (am_res 2 q) := by
  intro n
  induction n with
  | zero => intro v3 v4 v5 μ q h; cases h
  | succ n ih => intro v3 v4 v5 μ q h; exact t_Wy_walkAll_L18_b d (Wy_walkAll_L18 n) ih v3 v4 v5 μ q h
set_option maxRecDepth 20000 in
theorem t_Wy_walkAll (d : Nat) : ∀ (v1 : Int) (v2 : Int) (μ : am_M) q, Wy_walkAll v1 v2 μ = some q → am_ar g_mt (d + 5) 115 [(2, 50), (2, v1), (0, v2)] μ (am_res 2 q) := by
  intro v1 v2 μ q h
  unfold Wy_walkAll at h
  refine am_ar_of (d := d + 4) i_Wy_walkAll rfl rfl (Nat.le_of_ble_eq_true rfl) ?_
  show am_run none (am_ar g_mt (d + 4)) 7 none k_Wy_walkAll 0 [(0, (2, 50)), (1, (2, v1)), (2, (0, v2))] [] μ (am_res 2 q)
  refine rn_sls 1 (pc' := 1) (ls' := [(0, (2, 50)), (1, (2, v1)), (2, (0, v2))]) (st' := [(2, v1)]) rfl ?_
  refine rn_gd h (fun ho1 h => ?_)
  refine rn_get ho1 rfl rfl rfl ?_
  refine rn_sls 0 (pc' := 4) (ls' := [(0, (2, 50)), (1, (2, v1)), (2, (0, v2))]) (st' := [(2, (v1 + 1))]) rfl ?_
  refine rn_sls 2 (pc' := 6) (ls' := [(3, (2, (v1 + 1))), (0, (2, 50)), (1, (2, v1)), (2, (0, v2))]) (st' := [(2, v1)]) rfl ?_
  refine rn_get ho1 rfl rfl rfl ?_
  refine rn_sls 0 (pc' := 9) (ls' := [(3, (2, (v1 + 1))), (0, (2, 50)), (1, (2, v1)), (2, (0, v2))]) (st' := [(2, (v1 + 15))]) rfl ?_
  refine rn_sls 1 (pc' := 10) (ls' := [(3, (2, (v1 + 1))), (0, (2, 50)), (1, (2, v1)), (2, (0, v2))]) (st' := [(0, v2), (2, (v1 + 15))]) rfl ?_
  refine rn_call 3 0 [(2, (v1 + 15)), (0, v2)] (r := []) rfl ⟨rfl, Or.inr ⟨_, rfl, by decide⟩⟩ (by decide) (fun z => absurd z (by decide)) rfl rfl (Nat.le_of_ble_eq_true rfl) h (fun w hw => t_X_at (d + 3) _ _ _ _ hw) (fun a2 μ3 h => ?_)
  refine rn_sls 0 (pc' := 13) (ls' := [(3, (2, (v1 + 1))), (0, (2, 50)), (1, (2, v1)), (2, (0, v2))]) (st' := [(0, a2)]) rfl ?_
  refine rn_sls 3 (pc' := 18) (ls' := [(5, (0, 0)), (4, (0, a2)), (3, (2, (v1 + 1))), (0, (2, 50)), (1, (2, v1)), (2, (0, v2))]) (st' := []) rfl ?_
  exact rn_sub [3, 2, 1, 0] rfl (t_Wy_walkAll_L18 d  am_FU _ _ _ _ _ h)
set_option maxRecDepth 20000 in
theorem t_Wy_need_B25 (d : Nat) : ∀ (v3 : Int) (μ : am_M) q, Wy_need_B25 v3 μ = some q → am_run none (am_ar g_mt (d + 5)) 4 (some .int) k_Wy_need 25 [(0, (2, 50)), (3, (0, v3))] [] μ (am_res 0 q) := by
  intro v3 μ q h
  unfold Wy_need_B25 at h
  refine rn_sls 3 (pc' := 30) (ls' := [(0, (2, 50)), (3, (0, v3))]) (st' := [(0, v3), (2, 58)]) rfl ?_
  refine rn_call 3 0 [(2, 58), (0, v3)] (r := []) rfl ⟨rfl, Or.inr ⟨_, rfl, by decide⟩⟩ (by decide) (fun z => absurd z (by decide)) rfl rfl (Nat.le_of_ble_eq_true rfl) h (fun w hw => t_X_at (d + 4) _ _ _ _ hw) (fun a1 μ2 h => ?_)
  refine rn_sls 0 (pc' := 33) (ls' := [(0, (2, 50)), (3, (0, v3))]) (st' := [(0, a1)]) rfl ?_
  exact rn_ireti rfl rfl rfl h rfl
set_option maxRecDepth 20000 in
theorem t_Wy_need (d : Nat) : ∀ (v1 : Int) (v2 : Int) (v3 : Int) (μ : am_M) q, Wy_need v1 v2 v3 μ = some q → am_ar g_mt (d + 6) 109 [(2, 50), (2, v1), (0, v2), (0, v3)] μ (am_res 0 q) := by
  intro v1 v2 v3 μ q h
  unfold Wy_need at h
  refine am_ar_of (d := d + 5) i_Wy_need rfl rfl (Nat.le_of_ble_eq_true rfl) ?_
  show am_run none (am_ar g_mt (d + 5)) 4 (some .int) k_Wy_need 0 [(0, (2, 50)), (1, (2, v1)), (2, (0, v2)), (3, (0, v3))] [] μ (am_res 0 q)
  refine rn_sls 3 (pc' := 5) (ls' := [(0, (2, 50)), (1, (2, v1)), (2, (0, v2)), (3, (0, v3))]) (st' := [(0, v2), (0, (μ 50 10))]) rfl ?_
  refine rn_icmp (t := 25) rfl rfl rfl rfl h (fun h => ?_) (fun h => ?_)
  · exact rn_sub [0, 3] rfl (t_Wy_need_B25 d  _ _ _ h)
  · refine rn_sls 3 (pc' := 11) (ls' := [(0, (2, 50)), (1, (2, v1)), (2, (0, v2)), (3, (0, v3))]) (st' := [(0, v2), (2, v1), (2, 50)]) rfl ?_
    refine rn_call 0 2 [(2, 50), (2, v1), (0, v2)] (r := []) rfl ⟨rfl, Or.inl ⟨_, rfl, by decide⟩⟩ (by decide) (fun _ => ⟨_, rfl, rfl⟩) rfl rfl (Nat.le_of_ble_eq_true rfl) h (fun w hw => t_Wy_prepare (d + 0) _ _ _ _ hw) (fun a1 μ2 h => ?_)
    refine rn_sls 0 (pc' := 14) (ls' := [(0, (2, 50)), (1, (2, v1)), (2, (0, v2)), (3, (0, v3))]) (st' := []) rfl ?_
    refine rn_sls 3 (pc' := 17) (ls' := [(0, (2, 50)), (1, (2, v1)), (2, (0, v2)), (3, (0, v3))]) (st' := [(0, v2), (2, v1), (2, 50)]) rfl ?_
    refine rn_call 0 2 [(2, 50), (2, v1), (0, v2)] (r := []) rfl ⟨rfl, Or.inl ⟨_, rfl, by decide⟩⟩ (by decide) (fun _ => ⟨_, rfl, rfl⟩) rfl rfl (Nat.le_of_ble_eq_true rfl) h (fun w hw => t_Wy_walkAll (d + 0) _ _ _ _ hw) (fun a3 μ4 h => ?_)
    refine rn_sls 0 (pc' := 20) (ls' := [(0, (2, 50)), (1, (2, v1)), (2, (0, v2)), (3, (0, v3))]) (st' := []) rfl ?_
    refine rn_sls 2 (pc' := 22) (ls' := [(0, (2, 50)), (1, (2, v1)), (2, (0, v2)), (3, (0, v3))]) (st' := [(0, v2), (2, 50)]) rfl ?_
    refine rn_put rfl rfl rfl rfl (Or.inl ⟨rfl, rfl⟩) rfl h (fun μ5 h => ?_)
    exact rn_sub [0, 3] rfl (t_Wy_need_B25 d  _ _ _ h)
set_option maxRecDepth 20000 in
theorem t_X_feed (d : Nat) : ∀ (v1 : Int) (v3 : Int) (v5 : Int) (μ : am_M) q, X_feed v1 v3 v5 μ = some q → am_ar g_mt (d + 3) 118 [(2, 0), (1, v1), (1, v3), (1, v5)] μ (am_res 0 q) := by
  intro v1 v3 v5 μ q h
  unfold X_feed at h
  refine am_ar_of (d := d + 2) i_X_feed rfl rfl (Nat.le_of_ble_eq_true rfl) ?_
  show am_run none (am_ar g_mt (d + 2)) 7 (some .int) k_X_feed 0 [(0, (2, 0)), (1, (1, v1)), (3, (1, v3)), (5, (1, v5))] [] μ (am_res 0 q)
  refine rn_sls 3 (pc' := 5) (ls' := [(0, (2, 0)), (1, (1, v1)), (3, (1, v3)), (5, (1, v5))]) (st' := [(1, v1), (2, 10)]) rfl ?_
  refine rn_call 0 2 [(2, 10), (1, v1)] (r := []) rfl ⟨rfl, Or.inl ⟨_, rfl, by decide⟩⟩ (by decide) (fun _ => ⟨_, rfl, rfl⟩) rfl rfl (Nat.le_of_ble_eq_true rfl) h (fun w hw => t_Tp_append (d + 0) _ _ _ hw) (fun a1 μ2 h => ?_)
  refine rn_sls 0 (pc' := 8) (ls' := [(0, (2, 0)), (1, (1, v1)), (3, (1, v3)), (5, (1, v5))]) (st' := []) rfl ?_
  refine rn_sls 3 (pc' := 13) (ls' := [(0, (2, 0)), (1, (1, v1)), (3, (1, v3)), (5, (1, v5))]) (st' := [(1, v3), (2, 10)]) rfl ?_
  refine rn_call 0 2 [(2, 10), (1, v3)] (r := []) rfl ⟨rfl, Or.inl ⟨_, rfl, by decide⟩⟩ (by decide) (fun _ => ⟨_, rfl, rfl⟩) rfl rfl (Nat.le_of_ble_eq_true rfl) h (fun w hw => t_Tp_append (d + 0) _ _ _ hw) (fun a3 μ4 h => ?_)
  refine rn_sls 0 (pc' := 16) (ls' := [(0, (2, 0)), (1, (1, v1)), (3, (1, v3)), (5, (1, v5))]) (st' := []) rfl ?_
  refine rn_sls 3 (pc' := 22) (ls' := [(0, (2, 0)), (1, (1, v1)), (3, (1, v3)), (5, (1, v5))]) (st' := [(1, v5), (2, 10)]) rfl ?_
  refine rn_call 0 2 [(2, 10), (1, v5)] (r := []) rfl ⟨rfl, Or.inl ⟨_, rfl, by decide⟩⟩ (by decide) (fun _ => ⟨_, rfl, rfl⟩) rfl rfl (Nat.le_of_ble_eq_true rfl) h (fun w hw => t_Tp_append (d + 0) _ _ _ hw) (fun a5 μ6 h => ?_)
  refine rn_sls 0 (pc' := 25) (ls' := [(0, (2, 0)), (1, (1, v1)), (3, (1, v3)), (5, (1, v5))]) (st' := []) rfl ?_
  refine rn_sls 3 (pc' := 32) (ls' := [(0, (2, 0)), (1, (1, v1)), (3, (1, v3)), (5, (1, v5))]) (st' := [(0, (μ6 10 2))]) rfl ?_
  exact rn_ireti rfl rfl rfl h rfl
set_option maxRecDepth 20000 in
theorem t_X_bills (d : Nat) : ∀  (μ : am_M) q, X_bills  μ = some q → am_ar g_mt (d + 8) 119 [(2, 0)] μ (am_res 0 q) := by
  intro  μ q h
  unfold X_bills at h
  refine am_ar_of (d := d + 7) i_X_bills rfl rfl (Nat.le_of_ble_eq_true rfl) ?_
  show am_run none (am_ar g_mt (d + 7)) 3 (some .int) k_X_bills 0 [(0, (2, 0))] [] μ (am_res 0 q)
  refine rn_sls 4 (pc' := 8) (ls' := [(0, (2, 0))]) (st' := [(2, (μ 0 9)), (2, 20)]) rfl ?_
  refine rn_call 0 0 [(2, 20), (2, (μ 0 9))] (r := []) rfl ⟨rfl, Or.inl ⟨_, rfl, by decide⟩⟩ (by decide) (fun _ => ⟨_, rfl, rfl⟩) rfl rfl (Nat.le_of_ble_eq_true rfl) h (fun w hw => t_Rd_readInto (d + 0) _ _ _ hw) (fun a1 μ2 h => ?_)
  refine rn_sls 0 (pc' := 11) (ls' := [(0, (2, 0))]) (st' := [(0, a1)]) rfl ?_
  refine rn_sls 3 (pc' := 16) (ls' := [(1, (0, a1)), (0, (2, 0))]) (st' := [(2, 10)]) rfl ?_
  refine rn_call 0 2 [(2, 10)] (r := []) rfl ⟨rfl, Or.inl ⟨_, rfl, by decide⟩⟩ (by decide) (fun _ => ⟨_, rfl, rfl⟩) rfl rfl (Nat.le_of_ble_eq_true rfl) h (fun w hw => t_Tp_clear (d + 6)  _ _ hw) (fun a3 μ4 h => ?_)
  refine rn_sls 0 (pc' := 19) (ls' := [(1, (0, a1)), (0, (2, 0))]) (st' := []) rfl ?_
  refine rn_sls 1 (pc' := 20) (ls' := [(1, (0, a1)), (0, (2, 0))]) (st' := [(0, a1)]) rfl ?_
  refine rn_ifn (t := 78) rfl rfl rfl rfl h (fun h => ?_) (fun h => ?_)
  · refine rn_sls 4 (pc' := 31) (ls' := [(1, (0, a1)), (0, (2, 0))]) (st' := [(2, (μ4 0 9)), (2, 30)]) rfl ?_
    refine rn_call 0 2 [(2, 30), (2, (μ4 0 9))] (r := []) rfl ⟨rfl, Or.inl ⟨_, rfl, by decide⟩⟩ (by decide) (fun _ => ⟨_, rfl, rfl⟩) rfl rfl (Nat.le_of_ble_eq_true rfl) h (fun w hw => t_Ck_checkAll (d + 1) _ _ _ hw) (fun a5 μ6 h => ?_)
    refine rn_sls 0 (pc' := 34) (ls' := [(1, (0, a1)), (0, (2, 0))]) (st' := []) rfl ?_
    refine rn_sls 6 (pc' := 44) (ls' := [(2, (2, (μ6 0 8))), (1, (0, a1)), (0, (2, 0))]) (st' := [(2, (μ6 0 9)), (2, 0)]) rfl ?_
    refine rn_put rfl rfl rfl rfl (Or.inr (Or.inr ⟨rfl, rfl⟩)) rfl h (fun μ7 h => ?_)
    refine rn_sls 2 (pc' := 49) (ls' := [(2, (2, (μ6 0 8))), (1, (0, a1)), (0, (2, 0))]) (st' := [(2, (μ6 0 8)), (2, 0)]) rfl ?_
    refine rn_put rfl rfl rfl rfl (Or.inr (Or.inr ⟨rfl, rfl⟩)) rfl h (fun μ8 h => ?_)
    refine rn_sls 2 (pc' := 56) (ls' := [(2, (2, (μ6 0 8))), (1, (0, a1)), (0, (2, 0))]) (st' := [(2, 300)]) rfl ?_
    refine rn_call 0 2 [(2, 300)] (r := []) rfl ⟨rfl, Or.inl ⟨_, rfl, by decide⟩⟩ (by decide) (fun _ => ⟨_, rfl, rfl⟩) rfl rfl (Nat.le_of_ble_eq_true rfl) h (fun w hw => t_Mc_stand (d + 6) _ _ _ hw) (fun a9 μ10 h => ?_)
    refine rn_sls 0 (pc' := 59) (ls' := [(2, (2, (μ6 0 8))), (1, (0, a1)), (0, (2, 0))]) (st' := []) rfl ?_
    refine rn_sls 2 (pc' := 61) (ls' := [(2, (2, (μ6 0 8))), (1, (0, a1)), (0, (2, 0))]) (st' := [(0, 0), (2, 0)]) rfl ?_
    refine rn_put rfl rfl rfl rfl (Or.inl ⟨rfl, rfl⟩) rfl h (fun μ11 h => ?_)
    refine rn_sls 2 (pc' := 68) (ls' := [(2, (2, (μ6 0 8))), (1, (0, a1)), (0, (2, 0))]) (st' := [(2, 50)]) rfl ?_
    refine rn_call 0 2 [(2, 50)] (r := []) rfl ⟨rfl, Or.inl ⟨_, rfl, by decide⟩⟩ (by decide) (fun _ => ⟨_, rfl, rfl⟩) rfl rfl (Nat.le_of_ble_eq_true rfl) h (fun w hw => t_Wy_forget (d + 6)  _ _ hw) (fun a12 μ13 h => ?_)
    refine rn_sls 0 (pc' := 71) (ls' := [(2, (2, (μ6 0 8))), (1, (0, a1)), (0, (2, 0))]) (st' := []) rfl ?_
    refine rn_sls 2 (pc' := 75) (ls' := [(2, (2, (μ6 0 8))), (1, (0, a1)), (0, (2, 0))]) (st' := [(2, 60)]) rfl ?_
    refine rn_call 0 2 [(2, 60)] (r := []) rfl ⟨rfl, Or.inl ⟨_, rfl, by decide⟩⟩ (by decide) (fun _ => ⟨_, rfl, rfl⟩) rfl rfl (Nat.le_of_ble_eq_true rfl) h (fun w hw => t_Or_forget (d + 6)  _ _ hw) (fun a14 μ15 h => ?_)
    refine rn_sls 0 (pc' := 78) (ls' := [(2, (2, (μ6 0 8))), (1, (0, a1)), (0, (2, 0))]) (st' := []) rfl ?_
    refine rn_sls 1 (pc' := 79) (ls' := [(2, (2, (μ6 0 8))), (1, (0, a1)), (0, (2, 0))]) (st' := [(0, a1)]) rfl ?_
    exact rn_ireti rfl rfl rfl h rfl
  · refine rn_sls 1 (pc' := 79) (ls' := [(1, (0, a1)), (0, (2, 0))]) (st' := [(0, a1)]) rfl ?_
    exact rn_ireti rfl rfl rfl h rfl
set_option maxRecDepth 20000 in
theorem t_X_bill (d : Nat) : ∀ (v1 : Int) (v2 : Int) (μ : am_M) q, X_bill v1 v2 μ = some q → am_ar g_mt (d + 2) 120 [(2, 0), (0, v1), (0, v2)] μ (am_res 0 q) := by
  intro v1 v2 μ q h
  unfold X_bill at h
  refine am_ar_of (d := d + 1) i_X_bill rfl rfl (Nat.le_of_ble_eq_true rfl) ?_
  show am_run none (am_ar g_mt (d + 1)) 3 (some .int) k_X_bill 0 [(0, (2, 0)), (1, (0, v1)), (2, (0, v2))] [] μ (am_res 0 q)
  refine rn_sls 3 (pc' := 5) (ls' := [(0, (2, 0)), (1, (0, v1)), (2, (0, v2))]) (st' := [(0, v1), (2, (μ 0 8))]) rfl ?_
  refine rn_gd h (fun ho1 h => ?_)
  refine rn_call 0 0 [(2, (μ 0 8)), (0, v1)] (r := []) rfl ⟨rfl, Or.inl ⟨_, rfl, by decide⟩⟩ (by decide) (fun _ => ⟨_, rfl, ho1⟩) rfl rfl (Nat.le_of_ble_eq_true rfl) h (fun w hw => t_Bi_has (d + 0) _ _ _ _ hw) (fun a2 μ3 h => ?_)
  refine rn_sls 0 (pc' := 8) (ls' := [(0, (2, 0)), (1, (0, v1)), (2, (0, v2))]) (st' := [(0, a2)]) rfl ?_
  refine rn_ifn (t := 13) rfl rfl rfl rfl h (fun h => ?_) (fun h => ?_)
  · refine rn_sls 1 (pc' := 12) (ls' := [(0, (2, 0)), (1, (0, v1)), (2, (0, v2))]) (st' := [(0, (-1))]) rfl ?_
    exact rn_ireti rfl rfl rfl h rfl
  · refine rn_sls 1 (pc' := 14) (ls' := [(0, (2, 0)), (1, (0, v1)), (2, (0, v2))]) (st' := [(0, v2)]) rfl ?_
    refine rn_tsw rfl rfl ?_
    refine rn_swc (t := 52) rfl h (fun h => ?_) (fun h => ?_)
    · refine rn_sls 2 (pc' := 56) (ls' := [(0, (2, 0)), (1, (0, v1)), (2, (0, v2))]) (st' := [(2, (μ3 0 8))]) rfl ?_
      refine rn_gd h (fun ho4 h => ?_)
      refine rn_get ho4 rfl rfl rfl ?_
      refine rn_sls 0 (pc' := 59) (ls' := [(0, (2, 0)), (1, (0, v1)), (2, (0, v2))]) (st' := [(2, ((μ3 0 8) + 15))]) rfl ?_
      refine rn_sls 1 (pc' := 60) (ls' := [(0, (2, 0)), (1, (0, v1)), (2, (0, v2))]) (st' := [(0, v1), (2, ((μ3 0 8) + 15))]) rfl ?_
      refine rn_call 2 0 [(2, ((μ3 0 8) + 15)), (0, v1)] (r := []) rfl ⟨rfl, Or.inr ⟨_, rfl, by decide⟩⟩ (by decide) (fun z => absurd z (by decide)) rfl rfl (Nat.le_of_ble_eq_true rfl) h (fun w hw => t_X_at (d + 0) _ _ _ _ hw) (fun a5 μ6 h => ?_)
      refine rn_sls 0 (pc' := 63) (ls' := [(0, (2, 0)), (1, (0, v1)), (2, (0, v2))]) (st' := [(0, a5)]) rfl ?_
      exact rn_ireti rfl rfl rfl h rfl
    refine rn_swc (t := 64) rfl h (fun h => ?_) (fun h => ?_)
    · refine rn_sls 2 (pc' := 68) (ls' := [(0, (2, 0)), (1, (0, v1)), (2, (0, v2))]) (st' := [(2, (μ3 0 8))]) rfl ?_
      refine rn_gd h (fun ho7 h => ?_)
      refine rn_get ho7 rfl rfl rfl ?_
      refine rn_sls 0 (pc' := 71) (ls' := [(0, (2, 0)), (1, (0, v1)), (2, (0, v2))]) (st' := [(2, ((μ3 0 8) + 16))]) rfl ?_
      refine rn_sls 1 (pc' := 72) (ls' := [(0, (2, 0)), (1, (0, v1)), (2, (0, v2))]) (st' := [(0, v1), (2, ((μ3 0 8) + 16))]) rfl ?_
      refine rn_call 2 0 [(2, ((μ3 0 8) + 16)), (0, v1)] (r := []) rfl ⟨rfl, Or.inr ⟨_, rfl, by decide⟩⟩ (by decide) (fun z => absurd z (by decide)) rfl rfl (Nat.le_of_ble_eq_true rfl) h (fun w hw => t_X_at (d + 0) _ _ _ _ hw) (fun a8 μ9 h => ?_)
      refine rn_sls 0 (pc' := 75) (ls' := [(0, (2, 0)), (1, (0, v1)), (2, (0, v2))]) (st' := [(0, a8)]) rfl ?_
      exact rn_ireti rfl rfl rfl h rfl
    refine rn_swc (t := 76) rfl h (fun h => ?_) (fun h => ?_)
    · refine rn_sls 2 (pc' := 80) (ls' := [(0, (2, 0)), (1, (0, v1)), (2, (0, v2))]) (st' := [(2, (μ3 0 8))]) rfl ?_
      refine rn_gd h (fun ho10 h => ?_)
      refine rn_get ho10 rfl rfl rfl ?_
      refine rn_sls 0 (pc' := 83) (ls' := [(0, (2, 0)), (1, (0, v1)), (2, (0, v2))]) (st' := [(2, ((μ3 0 8) + 17))]) rfl ?_
      refine rn_sls 1 (pc' := 84) (ls' := [(0, (2, 0)), (1, (0, v1)), (2, (0, v2))]) (st' := [(0, v1), (2, ((μ3 0 8) + 17))]) rfl ?_
      refine rn_call 2 0 [(2, ((μ3 0 8) + 17)), (0, v1)] (r := []) rfl ⟨rfl, Or.inr ⟨_, rfl, by decide⟩⟩ (by decide) (fun z => absurd z (by decide)) rfl rfl (Nat.le_of_ble_eq_true rfl) h (fun w hw => t_X_at (d + 0) _ _ _ _ hw) (fun a11 μ12 h => ?_)
      refine rn_sls 0 (pc' := 87) (ls' := [(0, (2, 0)), (1, (0, v1)), (2, (0, v2))]) (st' := [(0, a11)]) rfl ?_
      exact rn_ireti rfl rfl rfl h rfl
    refine rn_swc (t := 88) rfl h (fun h => ?_) (fun h => ?_)
    · refine rn_sls 2 (pc' := 92) (ls' := [(0, (2, 0)), (1, (0, v1)), (2, (0, v2))]) (st' := [(2, (μ3 0 8))]) rfl ?_
      refine rn_gd h (fun ho13 h => ?_)
      refine rn_get ho13 rfl rfl rfl ?_
      refine rn_sls 0 (pc' := 95) (ls' := [(0, (2, 0)), (1, (0, v1)), (2, (0, v2))]) (st' := [(2, ((μ3 0 8) + 18))]) rfl ?_
      refine rn_sls 1 (pc' := 96) (ls' := [(0, (2, 0)), (1, (0, v1)), (2, (0, v2))]) (st' := [(0, v1), (2, ((μ3 0 8) + 18))]) rfl ?_
      refine rn_call 2 0 [(2, ((μ3 0 8) + 18)), (0, v1)] (r := []) rfl ⟨rfl, Or.inr ⟨_, rfl, by decide⟩⟩ (by decide) (fun z => absurd z (by decide)) rfl rfl (Nat.le_of_ble_eq_true rfl) h (fun w hw => t_X_at (d + 0) _ _ _ _ hw) (fun a14 μ15 h => ?_)
      refine rn_sls 0 (pc' := 99) (ls' := [(0, (2, 0)), (1, (0, v1)), (2, (0, v2))]) (st' := [(0, a14)]) rfl ?_
      exact rn_ireti rfl rfl rfl h rfl
    refine rn_swc (t := 100) rfl h (fun h => ?_) (fun h => ?_)
    · refine rn_sls 2 (pc' := 104) (ls' := [(0, (2, 0)), (1, (0, v1)), (2, (0, v2))]) (st' := [(2, (μ3 0 8))]) rfl ?_
      refine rn_gd h (fun ho16 h => ?_)
      refine rn_get ho16 rfl rfl rfl ?_
      refine rn_sls 0 (pc' := 107) (ls' := [(0, (2, 0)), (1, (0, v1)), (2, (0, v2))]) (st' := [(2, ((μ3 0 8) + 19))]) rfl ?_
      refine rn_sls 1 (pc' := 108) (ls' := [(0, (2, 0)), (1, (0, v1)), (2, (0, v2))]) (st' := [(0, v1), (2, ((μ3 0 8) + 19))]) rfl ?_
      refine rn_call 2 0 [(2, ((μ3 0 8) + 19)), (0, v1)] (r := []) rfl ⟨rfl, Or.inr ⟨_, rfl, by decide⟩⟩ (by decide) (fun z => absurd z (by decide)) rfl rfl (Nat.le_of_ble_eq_true rfl) h (fun w hw => t_X_at (d + 0) _ _ _ _ hw) (fun a17 μ18 h => ?_)
      refine rn_sls 0 (pc' := 111) (ls' := [(0, (2, 0)), (1, (0, v1)), (2, (0, v2))]) (st' := [(0, a17)]) rfl ?_
      refine rn_ifn (t := 118) rfl rfl rfl rfl h (fun h => ?_) (fun h => ?_)
      · refine rn_sls 1 (pc' := 115) (ls' := [(0, (2, 0)), (1, (0, v1)), (2, (0, v2))]) (st' := [(0, 1)]) rfl ?_
        refine rn_goto (t := 119) rfl rfl rfl ?_
        exact rn_ireti rfl rfl rfl h rfl
      · refine rn_sls 1 (pc' := 119) (ls' := [(0, (2, 0)), (1, (0, v1)), (2, (0, v2))]) (st' := [(0, 0)]) rfl ?_
        exact rn_ireti rfl rfl rfl h rfl
    refine rn_swc (t := 120) rfl h (fun h => ?_) (fun h => ?_)
    · refine rn_sls 2 (pc' := 124) (ls' := [(0, (2, 0)), (1, (0, v1)), (2, (0, v2))]) (st' := [(2, (μ3 0 8))]) rfl ?_
      refine rn_gd h (fun ho19 h => ?_)
      refine rn_get ho19 rfl rfl rfl ?_
      refine rn_sls 0 (pc' := 127) (ls' := [(0, (2, 0)), (1, (0, v1)), (2, (0, v2))]) (st' := [(2, ((μ3 0 8) + 22))]) rfl ?_
      refine rn_sls 1 (pc' := 128) (ls' := [(0, (2, 0)), (1, (0, v1)), (2, (0, v2))]) (st' := [(0, v1), (2, ((μ3 0 8) + 22))]) rfl ?_
      refine rn_call 2 0 [(2, ((μ3 0 8) + 22)), (0, v1)] (r := []) rfl ⟨rfl, Or.inr ⟨_, rfl, by decide⟩⟩ (by decide) (fun z => absurd z (by decide)) rfl rfl (Nat.le_of_ble_eq_true rfl) h (fun w hw => t_X_at (d + 0) _ _ _ _ hw) (fun a20 μ21 h => ?_)
      refine rn_sls 0 (pc' := 131) (ls' := [(0, (2, 0)), (1, (0, v1)), (2, (0, v2))]) (st' := [(0, a20)]) rfl ?_
      exact rn_ireti rfl rfl rfl h rfl
    refine rn_sw0 (t := 132) rfl ?_
    refine rn_sls 1 (pc' := 133) (ls' := [(0, (2, 0)), (1, (0, v1)), (2, (0, v2))]) (st' := [(0, (-1))]) rfl ?_
    exact rn_ireti rfl rfl rfl h rfl
set_option maxRecDepth 20000 in
theorem t_X_line (d : Nat) : ∀ (v1 : Int) (v2 : Int) (μ : am_M) q, X_line v1 v2 μ = some q → am_ar g_mt (d + 4) 121 [(2, 0), (0, v1), (0, v2)] μ (am_res 0 q) := by
  intro v1 v2 μ q h
  unfold X_line at h
  refine am_ar_of (d := d + 3) i_X_line rfl rfl (Nat.le_of_ble_eq_true rfl) ?_
  show am_run none (am_ar g_mt (d + 3)) 4 (some .int) k_X_line 0 [(0, (2, 0)), (1, (0, v1)), (2, (0, v2))] [] μ (am_res 0 q)
  refine rn_sls 2 (pc' := 4) (ls' := [(0, (2, 0)), (1, (0, v1)), (2, (0, v2))]) (st' := [(2, (μ 0 8))]) rfl ?_
  refine rn_gd h (fun ho1 h => ?_)
  refine rn_get ho1 rfl rfl rfl ?_
  refine rn_sls 0 (pc' := 7) (ls' := [(0, (2, 0)), (1, (0, v1)), (2, (0, v2))]) (st' := [(2, ((μ 0 8) + 1))]) rfl ?_
  refine rn_sls 2 (pc' := 9) (ls' := [(3, (2, ((μ 0 8) + 1))), (0, (2, 0)), (1, (0, v1)), (2, (0, v2))]) (st' := [(0, v1)]) rfl ?_
  refine rn_if (t := 20) rfl rfl rfl rfl h (fun h => ?_) (fun h => ?_)
  · refine rn_sls 1 (pc' := 21) (ls' := [(3, (2, ((μ 0 8) + 1))), (0, (2, 0)), (1, (0, v1)), (2, (0, v2))]) (st' := [(0, (-1))]) rfl ?_
    exact rn_ireti rfl rfl rfl h rfl
  · refine rn_sls 2 (pc' := 14) (ls' := [(3, (2, ((μ 0 8) + 1))), (0, (2, 0)), (1, (0, v1)), (2, (0, v2))]) (st' := [(2, ((μ 0 8) + 1)), (0, v1)]) rfl ?_
    refine rn_gd h (fun ho2 h => ?_)
    refine rn_get ho2 rfl rfl rfl ?_
    refine rn_sls 0 (pc' := 17) (ls' := [(3, (2, ((μ 0 8) + 1))), (0, (2, 0)), (1, (0, v1)), (2, (0, v2))]) (st' := [(0, (μ ((μ 0 8) + 1) 10)), (0, v1)]) rfl ?_
    refine rn_icmp (t := 22) rfl rfl rfl rfl h (fun h => ?_) (fun h => ?_)
    · refine rn_sls 1 (pc' := 23) (ls' := [(3, (2, ((μ 0 8) + 1))), (0, (2, 0)), (1, (0, v1)), (2, (0, v2))]) (st' := [(0, v2)]) rfl ?_
      refine rn_tsw rfl rfl ?_
      refine rn_swc (t := 56) rfl h (fun h => ?_) (fun h => ?_)
      · refine rn_sls 1 (pc' := 57) (ls' := [(3, (2, ((μ 0 8) + 1))), (0, (2, 0)), (1, (0, v1)), (2, (0, v2))]) (st' := [(2, ((μ 0 8) + 1))]) rfl ?_
        refine rn_get ho2 rfl rfl rfl ?_
        refine rn_sls 0 (pc' := 60) (ls' := [(3, (2, ((μ 0 8) + 1))), (0, (2, 0)), (1, (0, v1)), (2, (0, v2))]) (st' := [(2, (((μ 0 8) + 1) + 1))]) rfl ?_
        refine rn_sls 1 (pc' := 61) (ls' := [(3, (2, ((μ 0 8) + 1))), (0, (2, 0)), (1, (0, v1)), (2, (0, v2))]) (st' := [(0, v1), (2, (((μ 0 8) + 1) + 1))]) rfl ?_
        refine rn_call 2 0 [(2, (((μ 0 8) + 1) + 1)), (0, v1)] (r := []) rfl ⟨rfl, Or.inr ⟨_, rfl, by decide⟩⟩ (by decide) (fun z => absurd z (by decide)) rfl rfl (Nat.le_of_ble_eq_true rfl) h (fun w hw => t_X_at (d + 2) _ _ _ _ hw) (fun a3 μ4 h => ?_)
        refine rn_sls 0 (pc' := 64) (ls' := [(3, (2, ((μ 0 8) + 1))), (0, (2, 0)), (1, (0, v1)), (2, (0, v2))]) (st' := [(0, a3)]) rfl ?_
        exact rn_ireti rfl rfl rfl h rfl
      refine rn_swc (t := 65) rfl h (fun h => ?_) (fun h => ?_)
      · refine rn_sls 1 (pc' := 66) (ls' := [(3, (2, ((μ 0 8) + 1))), (0, (2, 0)), (1, (0, v1)), (2, (0, v2))]) (st' := [(2, ((μ 0 8) + 1))]) rfl ?_
        refine rn_get ho2 rfl rfl rfl ?_
        refine rn_sls 0 (pc' := 69) (ls' := [(3, (2, ((μ 0 8) + 1))), (0, (2, 0)), (1, (0, v1)), (2, (0, v2))]) (st' := [(2, (((μ 0 8) + 1) + 2))]) rfl ?_
        refine rn_sls 1 (pc' := 70) (ls' := [(3, (2, ((μ 0 8) + 1))), (0, (2, 0)), (1, (0, v1)), (2, (0, v2))]) (st' := [(0, v1), (2, (((μ 0 8) + 1) + 2))]) rfl ?_
        refine rn_call 2 0 [(2, (((μ 0 8) + 1) + 2)), (0, v1)] (r := []) rfl ⟨rfl, Or.inr ⟨_, rfl, by decide⟩⟩ (by decide) (fun z => absurd z (by decide)) rfl rfl (Nat.le_of_ble_eq_true rfl) h (fun w hw => t_X_at (d + 2) _ _ _ _ hw) (fun a5 μ6 h => ?_)
        refine rn_sls 0 (pc' := 73) (ls' := [(3, (2, ((μ 0 8) + 1))), (0, (2, 0)), (1, (0, v1)), (2, (0, v2))]) (st' := [(0, a5)]) rfl ?_
        exact rn_ireti rfl rfl rfl h rfl
      refine rn_swc (t := 74) rfl h (fun h => ?_) (fun h => ?_)
      · refine rn_sls 1 (pc' := 75) (ls' := [(3, (2, ((μ 0 8) + 1))), (0, (2, 0)), (1, (0, v1)), (2, (0, v2))]) (st' := [(2, ((μ 0 8) + 1))]) rfl ?_
        refine rn_get ho2 rfl rfl rfl ?_
        refine rn_sls 0 (pc' := 78) (ls' := [(3, (2, ((μ 0 8) + 1))), (0, (2, 0)), (1, (0, v1)), (2, (0, v2))]) (st' := [(2, (((μ 0 8) + 1) + 3))]) rfl ?_
        refine rn_sls 1 (pc' := 79) (ls' := [(3, (2, ((μ 0 8) + 1))), (0, (2, 0)), (1, (0, v1)), (2, (0, v2))]) (st' := [(0, v1), (2, (((μ 0 8) + 1) + 3))]) rfl ?_
        refine rn_call 2 0 [(2, (((μ 0 8) + 1) + 3)), (0, v1)] (r := []) rfl ⟨rfl, Or.inr ⟨_, rfl, by decide⟩⟩ (by decide) (fun z => absurd z (by decide)) rfl rfl (Nat.le_of_ble_eq_true rfl) h (fun w hw => t_X_at (d + 2) _ _ _ _ hw) (fun a7 μ8 h => ?_)
        refine rn_sls 0 (pc' := 82) (ls' := [(3, (2, ((μ 0 8) + 1))), (0, (2, 0)), (1, (0, v1)), (2, (0, v2))]) (st' := [(0, a7)]) rfl ?_
        exact rn_ireti rfl rfl rfl h rfl
      refine rn_swc (t := 83) rfl h (fun h => ?_) (fun h => ?_)
      · refine rn_sls 2 (pc' := 85) (ls' := [(3, (2, ((μ 0 8) + 1))), (0, (2, 0)), (1, (0, v1)), (2, (0, v2))]) (st' := [(0, v1), (2, ((μ 0 8) + 1))]) rfl ?_
        refine rn_call 0 0 [(2, ((μ 0 8) + 1)), (0, v1)] (r := []) rfl ⟨rfl, Or.inl ⟨_, rfl, by decide⟩⟩ (by decide) (fun _ => ⟨_, rfl, ho2⟩) rfl rfl (Nat.le_of_ble_eq_true rfl) h (fun w hw => t_Ln_timesRead (d + 0) _ _ _ _ hw) (fun a9 μ10 h => ?_)
        refine rn_sls 0 (pc' := 88) (ls' := [(3, (2, ((μ 0 8) + 1))), (0, (2, 0)), (1, (0, v1)), (2, (0, v2))]) (st' := [(0, a9)]) rfl ?_
        exact rn_ireti rfl rfl rfl h rfl
      refine rn_swc (t := 89) rfl h (fun h => ?_) (fun h => ?_)
      · refine rn_sls 1 (pc' := 90) (ls' := [(3, (2, ((μ 0 8) + 1))), (0, (2, 0)), (1, (0, v1)), (2, (0, v2))]) (st' := [(2, ((μ 0 8) + 1))]) rfl ?_
        refine rn_get ho2 rfl rfl rfl ?_
        refine rn_sls 0 (pc' := 93) (ls' := [(3, (2, ((μ 0 8) + 1))), (0, (2, 0)), (1, (0, v1)), (2, (0, v2))]) (st' := [(2, (((μ 0 8) + 1) + 5))]) rfl ?_
        refine rn_sls 1 (pc' := 94) (ls' := [(3, (2, ((μ 0 8) + 1))), (0, (2, 0)), (1, (0, v1)), (2, (0, v2))]) (st' := [(0, v1), (2, (((μ 0 8) + 1) + 5))]) rfl ?_
        refine rn_call 2 0 [(2, (((μ 0 8) + 1) + 5)), (0, v1)] (r := []) rfl ⟨rfl, Or.inr ⟨_, rfl, by decide⟩⟩ (by decide) (fun z => absurd z (by decide)) rfl rfl (Nat.le_of_ble_eq_true rfl) h (fun w hw => t_X_at (d + 2) _ _ _ _ hw) (fun a11 μ12 h => ?_)
        refine rn_sls 0 (pc' := 97) (ls' := [(3, (2, ((μ 0 8) + 1))), (0, (2, 0)), (1, (0, v1)), (2, (0, v2))]) (st' := [(0, a11)]) rfl ?_
        exact rn_ireti rfl rfl rfl h rfl
      refine rn_sw0 (t := 98) rfl ?_
      refine rn_sls 1 (pc' := 99) (ls' := [(3, (2, ((μ 0 8) + 1))), (0, (2, 0)), (1, (0, v1)), (2, (0, v2))]) (st' := [(0, (-1))]) rfl ?_
      exact rn_ireti rfl rfl rfl h rfl
    · refine rn_sls 1 (pc' := 21) (ls' := [(3, (2, ((μ 0 8) + 1))), (0, (2, 0)), (1, (0, v1)), (2, (0, v2))]) (st' := [(0, (-1))]) rfl ?_
      exact rn_ireti rfl rfl rfl h rfl
set_option maxRecDepth 20000 in
theorem t_X_check (d : Nat) : ∀ (v1 : Int) (v2 : Int) (μ : am_M) q, X_check v1 v2 μ = some q → am_ar g_mt (d + 2) 122 [(2, 0), (0, v1), (0, v2)] μ (am_res 0 q) := by
  intro v1 v2 μ q h
  unfold X_check at h
  refine am_ar_of (d := d + 1) i_X_check rfl rfl (Nat.le_of_ble_eq_true rfl) ?_
  show am_run none (am_ar g_mt (d + 1)) 3 (some .int) k_X_check 0 [(0, (2, 0)), (1, (0, v1)), (2, (0, v2))] [] μ (am_res 0 q)
  refine rn_sls 3 (pc' := 5) (ls' := [(0, (2, 0)), (1, (0, v1)), (2, (0, v2))]) (st' := [(0, v1), (2, (μ 0 8))]) rfl ?_
  refine rn_gd h (fun ho1 h => ?_)
  refine rn_call 0 0 [(2, (μ 0 8)), (0, v1)] (r := []) rfl ⟨rfl, Or.inl ⟨_, rfl, by decide⟩⟩ (by decide) (fun _ => ⟨_, rfl, ho1⟩) rfl rfl (Nat.le_of_ble_eq_true rfl) h (fun w hw => t_Bi_has (d + 0) _ _ _ _ hw) (fun a2 μ3 h => ?_)
  refine rn_sls 0 (pc' := 8) (ls' := [(0, (2, 0)), (1, (0, v1)), (2, (0, v2))]) (st' := [(0, a2)]) rfl ?_
  refine rn_ifn (t := 13) rfl rfl rfl rfl h (fun h => ?_) (fun h => ?_)
  · refine rn_sls 1 (pc' := 12) (ls' := [(0, (2, 0)), (1, (0, v1)), (2, (0, v2))]) (st' := [(0, (-1))]) rfl ?_
    exact rn_ireti rfl rfl rfl h rfl
  · refine rn_sls 1 (pc' := 14) (ls' := [(0, (2, 0)), (1, (0, v1)), (2, (0, v2))]) (st' := [(0, v2)]) rfl ?_
    refine rn_tsw rfl rfl ?_
    refine rn_swc (t := 40) rfl h (fun h => ?_) (fun h => ?_)
    · refine rn_sls 2 (pc' := 44) (ls' := [(0, (2, 0)), (1, (0, v1)), (2, (0, v2))]) (st' := [(2, (μ3 0 8))]) rfl ?_
      refine rn_gd h (fun ho4 h => ?_)
      refine rn_get ho4 rfl rfl rfl ?_
      refine rn_sls 0 (pc' := 47) (ls' := [(0, (2, 0)), (1, (0, v1)), (2, (0, v2))]) (st' := [(2, ((μ3 0 8) + 19))]) rfl ?_
      refine rn_sls 1 (pc' := 48) (ls' := [(0, (2, 0)), (1, (0, v1)), (2, (0, v2))]) (st' := [(0, v1), (2, ((μ3 0 8) + 19))]) rfl ?_
      refine rn_call 2 0 [(2, ((μ3 0 8) + 19)), (0, v1)] (r := []) rfl ⟨rfl, Or.inr ⟨_, rfl, by decide⟩⟩ (by decide) (fun z => absurd z (by decide)) rfl rfl (Nat.le_of_ble_eq_true rfl) h (fun w hw => t_X_at (d + 0) _ _ _ _ hw) (fun a5 μ6 h => ?_)
      refine rn_sls 0 (pc' := 51) (ls' := [(0, (2, 0)), (1, (0, v1)), (2, (0, v2))]) (st' := [(0, a5)]) rfl ?_
      exact rn_ireti rfl rfl rfl h rfl
    refine rn_swc (t := 52) rfl h (fun h => ?_) (fun h => ?_)
    · refine rn_sls 2 (pc' := 56) (ls' := [(0, (2, 0)), (1, (0, v1)), (2, (0, v2))]) (st' := [(2, (μ3 0 8))]) rfl ?_
      refine rn_gd h (fun ho7 h => ?_)
      refine rn_get ho7 rfl rfl rfl ?_
      refine rn_sls 0 (pc' := 59) (ls' := [(0, (2, 0)), (1, (0, v1)), (2, (0, v2))]) (st' := [(2, ((μ3 0 8) + 20))]) rfl ?_
      refine rn_sls 1 (pc' := 60) (ls' := [(0, (2, 0)), (1, (0, v1)), (2, (0, v2))]) (st' := [(0, v1), (2, ((μ3 0 8) + 20))]) rfl ?_
      refine rn_call 2 0 [(2, ((μ3 0 8) + 20)), (0, v1)] (r := []) rfl ⟨rfl, Or.inr ⟨_, rfl, by decide⟩⟩ (by decide) (fun z => absurd z (by decide)) rfl rfl (Nat.le_of_ble_eq_true rfl) h (fun w hw => t_X_at (d + 0) _ _ _ _ hw) (fun a8 μ9 h => ?_)
      refine rn_sls 0 (pc' := 63) (ls' := [(0, (2, 0)), (1, (0, v1)), (2, (0, v2))]) (st' := [(0, a8)]) rfl ?_
      exact rn_ireti rfl rfl rfl h rfl
    refine rn_swc (t := 64) rfl h (fun h => ?_) (fun h => ?_)
    · refine rn_sls 2 (pc' := 68) (ls' := [(0, (2, 0)), (1, (0, v1)), (2, (0, v2))]) (st' := [(2, (μ3 0 8))]) rfl ?_
      refine rn_gd h (fun ho10 h => ?_)
      refine rn_get ho10 rfl rfl rfl ?_
      refine rn_sls 0 (pc' := 71) (ls' := [(0, (2, 0)), (1, (0, v1)), (2, (0, v2))]) (st' := [(2, ((μ3 0 8) + 21))]) rfl ?_
      refine rn_sls 1 (pc' := 72) (ls' := [(0, (2, 0)), (1, (0, v1)), (2, (0, v2))]) (st' := [(0, v1), (2, ((μ3 0 8) + 21))]) rfl ?_
      refine rn_call 2 0 [(2, ((μ3 0 8) + 21)), (0, v1)] (r := []) rfl ⟨rfl, Or.inr ⟨_, rfl, by decide⟩⟩ (by decide) (fun z => absurd z (by decide)) rfl rfl (Nat.le_of_ble_eq_true rfl) h (fun w hw => t_X_at (d + 0) _ _ _ _ hw) (fun a11 μ12 h => ?_)
      refine rn_sls 0 (pc' := 75) (ls' := [(0, (2, 0)), (1, (0, v1)), (2, (0, v2))]) (st' := [(0, a11)]) rfl ?_
      exact rn_ireti rfl rfl rfl h rfl
    refine rn_sw0 (t := 76) rfl ?_
    refine rn_sls 1 (pc' := 77) (ls' := [(0, (2, 0)), (1, (0, v1)), (2, (0, v2))]) (st' := [(0, (-1))]) rfl ?_
    exact rn_ireti rfl rfl rfl h rfl
set_option maxRecDepth 20000 in
theorem t_X_room (d : Nat) : ∀ (v1 : Int) (μ : am_M) q, X_room v1 μ = some q → am_ar g_mt (d + 1) 123 [(2, 0), (0, v1)] μ (am_res 0 q) := by
  intro v1 μ q h
  unfold X_room at h
  refine am_ar_of (d := d + 0) i_X_room rfl rfl (Nat.le_of_ble_eq_true rfl) ?_
  show am_run none (am_ar g_mt (d + 0)) 2 (some .boolean) k_X_room 0 [(0, (2, 0)), (1, (0, v1))] [] μ (am_res 0 q)
  refine rn_sls 2 (pc' := 2) (ls' := [(0, (2, 0)), (1, (0, v1))]) (st' := [(0, 1), (0, v1)]) rfl ?_
  refine rn_icmp (t := 11) rfl rfl rfl rfl h (fun h => ?_) (fun h => ?_)
  · refine rn_sls 1 (pc' := 12) (ls' := [(0, (2, 0)), (1, (0, v1))]) (st' := [(0, 0)]) rfl ?_
    exact rn_iretb rfl rfl rfl (Or.inl rfl) h rfl
  · refine rn_sls 2 (pc' := 8) (ls' := [(0, (2, 0)), (1, (0, v1))]) (st' := [(0, 99), (0, v1)]) rfl ?_
    refine rn_icmp (t := 13) rfl rfl rfl rfl h (fun h => ?_) (fun h => ?_)
    · refine rn_sls 3 (pc' := 18) (ls' := [(0, (2, 0)), (1, (0, v1))]) (st' := [(0, v1), (2, 300)]) rfl ?_
      refine rn_put rfl rfl rfl rfl (Or.inl ⟨rfl, rfl⟩) rfl h (fun μ1 h => ?_)
      refine rn_sls 1 (pc' := 22) (ls' := [(0, (2, 0)), (1, (0, v1))]) (st' := [(0, 1)]) rfl ?_
      exact rn_iretb rfl rfl rfl (Or.inr rfl) h rfl
    · refine rn_sls 1 (pc' := 12) (ls' := [(0, (2, 0)), (1, (0, v1))]) (st' := [(0, 0)]) rfl ?_
      exact rn_iretb rfl rfl rfl (Or.inl rfl) h rfl
set_option maxRecDepth 20000 in
theorem t_X_price (d : Nat) : ∀ (v1 : Int) (μ : am_M) q, X_price v1 μ = some q → am_ar g_mt (d + 1) 124 [(2, 0), (0, v1)] μ (am_res 0 q) := by
  intro v1 μ q h
  unfold X_price at h
  refine am_ar_of (d := d + 0) i_X_price rfl rfl (Nat.le_of_ble_eq_true rfl) ?_
  show am_run none (am_ar g_mt (d + 0)) 2 (some .boolean) k_X_price 0 [(0, (2, 0)), (1, (0, v1))] [] μ (am_res 0 q)
  refine rn_sls 1 (pc' := 1) (ls' := [(0, (2, 0)), (1, (0, v1))]) (st' := [(0, v1)]) rfl ?_
  refine rn_if (t := 10) rfl rfl rfl rfl h (fun h => ?_) (fun h => ?_)
  · refine rn_sls 1 (pc' := 11) (ls' := [(0, (2, 0)), (1, (0, v1))]) (st' := [(0, 0)]) rfl ?_
    exact rn_iretb rfl rfl rfl (Or.inl rfl) h rfl
  · refine rn_sls 2 (pc' := 7) (ls' := [(0, (2, 0)), (1, (0, v1))]) (st' := [(0, 99), (0, v1)]) rfl ?_
    refine rn_icmp (t := 12) rfl rfl rfl rfl h (fun h => ?_) (fun h => ?_)
    · refine rn_sls 3 (pc' := 17) (ls' := [(0, (2, 0)), (1, (0, v1))]) (st' := [(0, v1), (2, 300)]) rfl ?_
      refine rn_put rfl rfl rfl rfl (Or.inl ⟨rfl, rfl⟩) rfl h (fun μ1 h => ?_)
      refine rn_sls 1 (pc' := 21) (ls' := [(0, (2, 0)), (1, (0, v1))]) (st' := [(0, 1)]) rfl ?_
      exact rn_iretb rfl rfl rfl (Or.inr rfl) h rfl
    · refine rn_sls 1 (pc' := 11) (ls' := [(0, (2, 0)), (1, (0, v1))]) (st' := [(0, 0)]) rfl ?_
      exact rn_iretb rfl rfl rfl (Or.inl rfl) h rfl
set_option maxRecDepth 20000 in
theorem t_X_begin (d : Nat) : ∀ (v1 : Int) (v2 : Int) (v3 : Int) (v4 : Int) (v5 : Int) (μ : am_M) q, X_begin v1 v2 v3 v4 v5 μ = some q → am_ar g_mt (d + 5) 125 [(2, 0), (0, v1), (0, v2), (0, v3), (0, v4), (0, v5)] μ (am_res 0 q) := by
  intro v1 v2 v3 v4 v5 μ q h
  unfold X_begin at h
  refine am_ar_of (d := d + 4) i_X_begin rfl rfl (Nat.le_of_ble_eq_true rfl) ?_
  show am_run none (am_ar g_mt (d + 4)) 6 (some .boolean) k_X_begin 0 [(0, (2, 0)), (1, (0, v1)), (2, (0, v2)), (3, (0, v3)), (4, (0, v4)), (5, (0, v5))] [] μ (am_res 0 q)
  refine rn_sls 3 (pc' := 5) (ls' := [(0, (2, 0)), (1, (0, v1)), (2, (0, v2)), (3, (0, v3)), (4, (0, v4)), (5, (0, v5))]) (st' := [(0, v1), (2, (μ 0 8))]) rfl ?_
  refine rn_gd h (fun ho1 h => ?_)
  refine rn_call 0 0 [(2, (μ 0 8)), (0, v1)] (r := []) rfl ⟨rfl, Or.inl ⟨_, rfl, by decide⟩⟩ (by decide) (fun _ => ⟨_, rfl, ho1⟩) rfl rfl (Nat.le_of_ble_eq_true rfl) h (fun w hw => t_Bi_has (d + 3) _ _ _ _ hw) (fun a2 μ3 h => ?_)
  refine rn_sls 0 (pc' := 8) (ls' := [(0, (2, 0)), (1, (0, v1)), (2, (0, v2)), (3, (0, v3)), (4, (0, v4)), (5, (0, v5))]) (st' := [(0, a2)]) rfl ?_
  refine rn_if (t := 25) rfl rfl rfl rfl h (fun h => ?_) (fun h => ?_)
  · refine rn_sls 1 (pc' := 26) (ls' := [(0, (2, 0)), (1, (0, v1)), (2, (0, v2)), (3, (0, v3)), (4, (0, v4)), (5, (0, v5))]) (st' := [(0, 0)]) rfl ?_
    exact rn_iretb rfl rfl rfl (Or.inl rfl) h rfl
  · refine rn_sls 2 (pc' := 15) (ls' := [(0, (2, 0)), (1, (0, v1)), (2, (0, v2)), (3, (0, v3)), (4, (0, v4)), (5, (0, v5))]) (st' := [(2, (μ3 0 8))]) rfl ?_
    refine rn_gd h (fun ho4 h => ?_)
    refine rn_get ho4 rfl rfl rfl ?_
    refine rn_sls 0 (pc' := 18) (ls' := [(0, (2, 0)), (1, (0, v1)), (2, (0, v2)), (3, (0, v3)), (4, (0, v4)), (5, (0, v5))]) (st' := [(2, ((μ3 0 8) + 22))]) rfl ?_
    refine rn_sls 1 (pc' := 19) (ls' := [(0, (2, 0)), (1, (0, v1)), (2, (0, v2)), (3, (0, v3)), (4, (0, v4)), (5, (0, v5))]) (st' := [(0, v1), (2, ((μ3 0 8) + 22))]) rfl ?_
    refine rn_call 2 0 [(2, ((μ3 0 8) + 22)), (0, v1)] (r := []) rfl ⟨rfl, Or.inr ⟨_, rfl, by decide⟩⟩ (by decide) (fun z => absurd z (by decide)) rfl rfl (Nat.le_of_ble_eq_true rfl) h (fun w hw => t_X_at (d + 3) _ _ _ _ hw) (fun a5 μ6 h => ?_)
    refine rn_sls 0 (pc' := 22) (ls' := [(0, (2, 0)), (1, (0, v1)), (2, (0, v2)), (3, (0, v3)), (4, (0, v4)), (5, (0, v5))]) (st' := [(0, a5)]) rfl ?_
    refine rn_ifn (t := 27) rfl rfl rfl rfl h (fun h => ?_) (fun h => ?_)
    · refine rn_sls 1 (pc' := 26) (ls' := [(0, (2, 0)), (1, (0, v1)), (2, (0, v2)), (3, (0, v3)), (4, (0, v4)), (5, (0, v5))]) (st' := [(0, 0)]) rfl ?_
      exact rn_iretb rfl rfl rfl (Or.inl rfl) h rfl
    · refine rn_sls 6 (pc' := 37) (ls' := [(0, (2, 0)), (1, (0, v1)), (2, (0, v2)), (3, (0, v3)), (4, (0, v4)), (5, (0, v5))]) (st' := [(0, v5), (0, v4), (0, v3), (0, v2), (2, 300)]) rfl ?_
      refine rn_call 0 2 [(2, 300), (0, v2), (0, v3), (0, v4), (0, v5)] (r := []) rfl ⟨rfl, Or.inl ⟨_, rfl, by decide⟩⟩ (by decide) (fun _ => ⟨_, rfl, rfl⟩) rfl rfl (Nat.le_of_ble_eq_true rfl) h (fun w hw => t_Mc_take (d + 2) _ _ _ _ _ _ _ hw) (fun a7 μ8 h => ?_)
      refine rn_sls 0 (pc' := 40) (ls' := [(0, (2, 0)), (1, (0, v1)), (2, (0, v2)), (3, (0, v3)), (4, (0, v4)), (5, (0, v5))]) (st' := []) rfl ?_
      refine rn_sls 5 (pc' := 49) (ls' := [(0, (2, 0)), (1, (0, v1)), (2, (0, v2)), (3, (0, v3)), (4, (0, v4)), (5, (0, v5))]) (st' := [(0, v1), (2, (μ8 0 8)), (2, 300)]) rfl ?_
      refine rn_call 0 2 [(2, 300), (2, (μ8 0 8)), (0, v1)] (r := []) rfl ⟨rfl, Or.inl ⟨_, rfl, by decide⟩⟩ (by decide) (fun _ => ⟨_, rfl, rfl⟩) rfl rfl (Nat.le_of_ble_eq_true rfl) h (fun w hw => t_Mc_start (d + 0) _ _ _ _ _ hw) (fun a9 μ10 h => ?_)
      refine rn_sls 0 (pc' := 52) (ls' := [(0, (2, 0)), (1, (0, v1)), (2, (0, v2)), (3, (0, v3)), (4, (0, v4)), (5, (0, v5))]) (st' := []) rfl ?_
      refine rn_sls 1 (pc' := 53) (ls' := [(0, (2, 0)), (1, (0, v1)), (2, (0, v2)), (3, (0, v3)), (4, (0, v4)), (5, (0, v5))]) (st' := [(0, 1)]) rfl ?_
      exact rn_iretb rfl rfl rfl (Or.inr rfl) h rfl
set_option maxRecDepth 20000 in
theorem t_X_run (d : Nat) : ∀ (v1 : Int) (μ : am_M) q, X_run v1 μ = some q → am_ar g_mt (d + 8) 126 [(2, 0), (0, v1)] μ (am_res 0 q) := by
  intro v1 μ q h
  unfold X_run at h
  refine am_ar_of (d := d + 7) i_X_run rfl rfl (Nat.le_of_ble_eq_true rfl) ?_
  show am_run none (am_ar g_mt (d + 7)) 2 (some .int) k_X_run 0 [(0, (2, 0)), (1, (0, v1))] [] μ (am_res 0 q)
  refine rn_sls 1 (pc' := 1) (ls' := [(0, (2, 0)), (1, (0, v1))]) (st' := [(0, v1)]) rfl ?_
  refine rn_if (t := 11) rfl rfl rfl rfl h (fun h => ?_) (fun h => ?_)
  · refine rn_sls 1 (pc' := 12) (ls' := [(0, (2, 0)), (1, (0, v1))]) (st' := [(0, (-1))]) rfl ?_
    exact rn_ireti rfl rfl rfl h rfl
  · refine rn_sls 2 (pc' := 8) (ls' := [(0, (2, 0)), (1, (0, v1))]) (st' := [(0, 1000), (0, v1)]) rfl ?_
    refine rn_icmp (t := 13) rfl rfl rfl rfl h (fun h => ?_) (fun h => ?_)
    · refine rn_sls 5 (pc' := 22) (ls' := [(0, (2, 0)), (1, (0, v1))]) (st' := [(0, v1), (2, (μ 0 8)), (2, 300)]) rfl ?_
      refine rn_call 0 0 [(2, 300), (2, (μ 0 8)), (0, v1)] (r := []) rfl ⟨rfl, Or.inl ⟨_, rfl, by decide⟩⟩ (by decide) (fun _ => ⟨_, rfl, rfl⟩) rfl rfl (Nat.le_of_ble_eq_true rfl) h (fun w hw => t_Mc_go (d + 0) _ _ _ _ _ hw) (fun a1 μ2 h => ?_)
      refine rn_sls 0 (pc' := 25) (ls' := [(0, (2, 0)), (1, (0, v1))]) (st' := [(0, a1)]) rfl ?_
      exact rn_ireti rfl rfl rfl h rfl
    · refine rn_sls 1 (pc' := 12) (ls' := [(0, (2, 0)), (1, (0, v1))]) (st' := [(0, (-1))]) rfl ?_
      exact rn_ireti rfl rfl rfl h rfl
set_option maxRecDepth 20000 in
theorem t_X_machine (d : Nat) : ∀ (v1 : Int) (μ : am_M) q, X_machine v1 μ = some q → am_ar g_mt (d + 4) 127 [(2, 0), (0, v1)] μ (am_res 0 q) := by
  intro v1 μ q h
  unfold X_machine at h
  refine am_ar_of (d := d + 3) i_X_machine rfl rfl (Nat.le_of_ble_eq_true rfl) ?_
  show am_run none (am_ar g_mt (d + 3)) 2 (some .int) k_X_machine 0 [(0, (2, 0)), (1, (0, v1))] [] μ (am_res 0 q)
  refine rn_sls 3 (pc' := 5) (ls' := [(0, (2, 0)), (1, (0, v1))]) (st' := [(0, v1), (2, 300)]) rfl ?_
  refine rn_call 0 0 [(2, 300), (0, v1)] (r := []) rfl ⟨rfl, Or.inl ⟨_, rfl, by decide⟩⟩ (by decide) (fun _ => ⟨_, rfl, rfl⟩) rfl rfl (Nat.le_of_ble_eq_true rfl) h (fun w hw => t_Mc_tell (d + 0) _ _ _ _ hw) (fun a1 μ2 h => ?_)
  refine rn_sls 0 (pc' := 8) (ls' := [(0, (2, 0)), (1, (0, v1))]) (st' := [(0, a1)]) rfl ?_
  exact rn_ireti rfl rfl rfl h rfl
set_option maxRecDepth 20000 in
theorem t_X_ways (d : Nat) : ∀ (v1 : Int) (v2 : Int) (μ : am_M) q, X_ways v1 v2 μ = some q → am_ar g_mt (d + 6) 128 [(2, 0), (0, v1), (0, v2)] μ (am_res 0 q) := by
  intro v1 v2 μ q h
  unfold X_ways at h
  refine am_ar_of (d := d + 5) i_X_ways rfl rfl (Nat.le_of_ble_eq_true rfl) ?_
  show am_run none (am_ar g_mt (d + 5)) 3 (some .int) k_X_ways 0 [(0, (2, 0)), (1, (0, v1)), (2, (0, v2))] [] μ (am_res 0 q)
  refine rn_sls 3 (pc' := 5) (ls' := [(0, (2, 0)), (1, (0, v1)), (2, (0, v2))]) (st' := [(0, v1), (2, (μ 0 8))]) rfl ?_
  refine rn_gd h (fun ho1 h => ?_)
  refine rn_call 0 0 [(2, (μ 0 8)), (0, v1)] (r := []) rfl ⟨rfl, Or.inl ⟨_, rfl, by decide⟩⟩ (by decide) (fun _ => ⟨_, rfl, ho1⟩) rfl rfl (Nat.le_of_ble_eq_true rfl) h (fun w hw => t_Bi_has (d + 4) _ _ _ _ hw) (fun a2 μ3 h => ?_)
  refine rn_sls 0 (pc' := 8) (ls' := [(0, (2, 0)), (1, (0, v1)), (2, (0, v2))]) (st' := [(0, a2)]) rfl ?_
  refine rn_if (t := 20) rfl rfl rfl rfl h (fun h => ?_) (fun h => ?_)
  · refine rn_sls 1 (pc' := 21) (ls' := [(0, (2, 0)), (1, (0, v1)), (2, (0, v2))]) (st' := [(0, (-1))]) rfl ?_
    exact rn_ireti rfl rfl rfl h rfl
  · refine rn_sls 1 (pc' := 12) (ls' := [(0, (2, 0)), (1, (0, v1)), (2, (0, v2))]) (st' := [(0, v2)]) rfl ?_
    refine rn_if (t := 20) rfl rfl rfl rfl h (fun h => ?_) (fun h => ?_)
    · refine rn_sls 1 (pc' := 21) (ls' := [(0, (2, 0)), (1, (0, v1)), (2, (0, v2))]) (st' := [(0, (-1))]) rfl ?_
      exact rn_ireti rfl rfl rfl h rfl
    · refine rn_sls 2 (pc' := 17) (ls' := [(0, (2, 0)), (1, (0, v1)), (2, (0, v2))]) (st' := [(0, 2), (0, v2)]) rfl ?_
      refine rn_icmp (t := 22) rfl rfl rfl rfl h (fun h => ?_) (fun h => ?_)
      · refine rn_sls 1 (pc' := 23) (ls' := [(0, (2, 0)), (1, (0, v1)), (2, (0, v2))]) (st' := [(0, v2)]) rfl ?_
        refine rn_ifn (t := 39) rfl rfl rfl rfl h (fun h => ?_) (fun h => ?_)
        · refine rn_sls 5 (pc' := 35) (ls' := [(0, (2, 0)), (1, (0, v1)), (2, (0, v2))]) (st' := [(0, v1), (2, (μ3 0 8)), (2, 50)]) rfl ?_
          refine rn_call 0 0 [(2, 50), (2, (μ3 0 8)), (0, v1)] (r := []) rfl ⟨rfl, Or.inl ⟨_, rfl, by decide⟩⟩ (by decide) (fun _ => ⟨_, rfl, rfl⟩) rfl rfl (Nat.le_of_ble_eq_true rfl) h (fun w hw => t_Wy_howMany (d + 2) _ _ _ _ hw) (fun a6 μ7 h => ?_)
          refine rn_sls 0 (pc' := 38) (ls' := [(0, (2, 0)), (1, (0, v1)), (2, (0, v2))]) (st' := [(0, a6)]) rfl ?_
          exact rn_ireti rfl rfl rfl h rfl
        · refine rn_sls 6 (pc' := 49) (ls' := [(0, (2, 0)), (1, (0, v1)), (2, (0, v2))]) (st' := [(0, (-1)), (0, v1), (2, (μ3 0 8)), (2, 50)]) rfl ?_
          refine rn_call 0 2 [(2, 50), (2, (μ3 0 8)), (0, v1), (0, (-1))] (r := []) rfl ⟨rfl, Or.inl ⟨_, rfl, by decide⟩⟩ (by decide) (fun _ => ⟨_, rfl, rfl⟩) rfl rfl (Nat.le_of_ble_eq_true rfl) h (fun w hw => t_Wy_measure (d + 0) _ _ _ _ _ hw) (fun a4 μ5 h => ?_)
          refine rn_sls 0 (pc' := 52) (ls' := [(0, (2, 0)), (1, (0, v1)), (2, (0, v2))]) (st' := []) rfl ?_
          refine rn_sls 2 (pc' := 54) (ls' := [(0, (2, 0)), (1, (0, v1)), (2, (0, v2))]) (st' := [(0, 1), (0, v2)]) rfl ?_
          refine rn_icmpn (t := 67) rfl rfl rfl rfl h (fun h => ?_) (fun h => ?_)
          · refine rn_sls 3 (pc' := 64) (ls' := [(0, (2, 0)), (1, (0, v1)), (2, (0, v2))]) (st' := [(0, (μ5 50 12))]) rfl ?_
            refine rn_goto (t := 74) rfl rfl rfl ?_
            exact rn_ireti rfl rfl rfl h rfl
          · refine rn_sls 3 (pc' := 74) (ls' := [(0, (2, 0)), (1, (0, v1)), (2, (0, v2))]) (st' := [(0, (μ5 50 11))]) rfl ?_
            exact rn_ireti rfl rfl rfl h rfl
      · refine rn_sls 1 (pc' := 21) (ls' := [(0, (2, 0)), (1, (0, v1)), (2, (0, v2))]) (st' := [(0, (-1))]) rfl ?_
        exact rn_ireti rfl rfl rfl h rfl
set_option maxRecDepth 20000 in
theorem t_X_reads (d : Nat) : ∀ (v1 : Int) (v2 : Int) (v3 : Int) (μ : am_M) q, X_reads v1 v2 v3 μ = some q → am_ar g_mt (d + 6) 129 [(2, 0), (0, v1), (0, v2), (0, v3)] μ (am_res 0 q) := by
  intro v1 v2 v3 μ q h
  unfold X_reads at h
  refine am_ar_of (d := d + 5) i_X_reads rfl rfl (Nat.le_of_ble_eq_true rfl) ?_
  show am_run none (am_ar g_mt (d + 5)) 4 (some .int) k_X_reads 0 [(0, (2, 0)), (1, (0, v1)), (2, (0, v2)), (3, (0, v3))] [] μ (am_res 0 q)
  refine rn_sls 3 (pc' := 5) (ls' := [(0, (2, 0)), (1, (0, v1)), (2, (0, v2)), (3, (0, v3))]) (st' := [(0, v1), (2, (μ 0 8))]) rfl ?_
  refine rn_gd h (fun ho1 h => ?_)
  refine rn_call 0 0 [(2, (μ 0 8)), (0, v1)] (r := []) rfl ⟨rfl, Or.inl ⟨_, rfl, by decide⟩⟩ (by decide) (fun _ => ⟨_, rfl, ho1⟩) rfl rfl (Nat.le_of_ble_eq_true rfl) h (fun w hw => t_Bi_has (d + 4) _ _ _ _ hw) (fun a2 μ3 h => ?_)
  refine rn_sls 0 (pc' := 8) (ls' := [(0, (2, 0)), (1, (0, v1)), (2, (0, v2)), (3, (0, v3))]) (st' := [(0, a2)]) rfl ?_
  refine rn_if (t := 20) rfl rfl rfl rfl h (fun h => ?_) (fun h => ?_)
  · refine rn_sls 1 (pc' := 21) (ls' := [(0, (2, 0)), (1, (0, v1)), (2, (0, v2)), (3, (0, v3))]) (st' := [(0, (-1))]) rfl ?_
    exact rn_ireti rfl rfl rfl h rfl
  · refine rn_sls 1 (pc' := 12) (ls' := [(0, (2, 0)), (1, (0, v1)), (2, (0, v2)), (3, (0, v3))]) (st' := [(0, v3)]) rfl ?_
    refine rn_if (t := 20) rfl rfl rfl rfl h (fun h => ?_) (fun h => ?_)
    · refine rn_sls 1 (pc' := 21) (ls' := [(0, (2, 0)), (1, (0, v1)), (2, (0, v2)), (3, (0, v3))]) (st' := [(0, (-1))]) rfl ?_
      exact rn_ireti rfl rfl rfl h rfl
    · refine rn_sls 2 (pc' := 17) (ls' := [(0, (2, 0)), (1, (0, v1)), (2, (0, v2)), (3, (0, v3))]) (st' := [(0, 1), (0, v3)]) rfl ?_
      refine rn_icmp (t := 22) rfl rfl rfl rfl h (fun h => ?_) (fun h => ?_)
      · refine rn_sls 1 (pc' := 23) (ls' := [(0, (2, 0)), (1, (0, v1)), (2, (0, v2)), (3, (0, v3))]) (st' := [(0, v2)]) rfl ?_
        refine rn_if (t := 41) rfl rfl rfl rfl h (fun h => ?_) (fun h => ?_)
        · refine rn_sls 1 (pc' := 42) (ls' := [(0, (2, 0)), (1, (0, v1)), (2, (0, v2)), (3, (0, v3))]) (st' := [(0, (-1))]) rfl ?_
          exact rn_ireti rfl rfl rfl h rfl
        · refine rn_sls 3 (pc' := 31) (ls' := [(0, (2, 0)), (1, (0, v1)), (2, (0, v2)), (3, (0, v3))]) (st' := [(2, (μ3 0 8)), (0, v2)]) rfl ?_
          refine rn_gd h (fun ho4 h => ?_)
          refine rn_get ho4 rfl rfl rfl ?_
          refine rn_sls 0 (pc' := 34) (ls' := [(0, (2, 0)), (1, (0, v1)), (2, (0, v2)), (3, (0, v3))]) (st' := [(2, ((μ3 0 8) + 18)), (0, v2)]) rfl ?_
          refine rn_sls 1 (pc' := 35) (ls' := [(0, (2, 0)), (1, (0, v1)), (2, (0, v2)), (3, (0, v3))]) (st' := [(0, v1), (2, ((μ3 0 8) + 18)), (0, v2)]) rfl ?_
          refine rn_call 2 0 [(2, ((μ3 0 8) + 18)), (0, v1)] (r := [(0, v2)]) rfl ⟨rfl, Or.inr ⟨_, rfl, by decide⟩⟩ (by decide) (fun z => absurd z (by decide)) rfl rfl (Nat.le_of_ble_eq_true rfl) h (fun w hw => t_X_at (d + 4) _ _ _ _ hw) (fun a5 μ6 h => ?_)
          refine rn_sls 0 (pc' := 38) (ls' := [(0, (2, 0)), (1, (0, v1)), (2, (0, v2)), (3, (0, v3))]) (st' := [(0, a5), (0, v2)]) rfl ?_
          refine rn_icmp (t := 43) rfl rfl rfl rfl h (fun h => ?_) (fun h => ?_)
          · refine rn_sls 6 (pc' := 53) (ls' := [(0, (2, 0)), (1, (0, v1)), (2, (0, v2)), (3, (0, v3))]) (st' := [(0, v2), (0, v1), (2, (μ6 0 8)), (2, 50)]) rfl ?_
            refine rn_call 0 2 [(2, 50), (2, (μ6 0 8)), (0, v1), (0, v2)] (r := []) rfl ⟨rfl, Or.inl ⟨_, rfl, by decide⟩⟩ (by decide) (fun _ => ⟨_, rfl, rfl⟩) rfl rfl (Nat.le_of_ble_eq_true rfl) h (fun w hw => t_Wy_measure (d + 0) _ _ _ _ _ hw) (fun a7 μ8 h => ?_)
            refine rn_sls 0 (pc' := 56) (ls' := [(0, (2, 0)), (1, (0, v1)), (2, (0, v2)), (3, (0, v3))]) (st' := []) rfl ?_
            refine rn_sls 2 (pc' := 58) (ls' := [(0, (2, 0)), (1, (0, v1)), (2, (0, v2)), (3, (0, v3))]) (st' := [(0, 1), (0, v3)]) rfl ?_
            refine rn_icmpn (t := 71) rfl rfl rfl rfl h (fun h => ?_) (fun h => ?_)
            · refine rn_sls 3 (pc' := 68) (ls' := [(0, (2, 0)), (1, (0, v1)), (2, (0, v2)), (3, (0, v3))]) (st' := [(0, (μ8 50 12))]) rfl ?_
              refine rn_goto (t := 78) rfl rfl rfl ?_
              exact rn_ireti rfl rfl rfl h rfl
            · refine rn_sls 3 (pc' := 78) (ls' := [(0, (2, 0)), (1, (0, v1)), (2, (0, v2)), (3, (0, v3))]) (st' := [(0, (μ8 50 11))]) rfl ?_
              exact rn_ireti rfl rfl rfl h rfl
          · refine rn_sls 1 (pc' := 42) (ls' := [(0, (2, 0)), (1, (0, v1)), (2, (0, v2)), (3, (0, v3))]) (st' := [(0, (-1))]) rfl ?_
            exact rn_ireti rfl rfl rfl h rfl
      · refine rn_sls 1 (pc' := 21) (ls' := [(0, (2, 0)), (1, (0, v1)), (2, (0, v2)), (3, (0, v3))]) (st' := [(0, (-1))]) rfl ?_
        exact rn_ireti rfl rfl rfl h rfl
set_option maxRecDepth 20000 in
theorem t_X_needs (d : Nat) : ∀ (v1 : Int) (v2 : Int) (μ : am_M) q, X_needs v1 v2 μ = some q → am_ar g_mt (d + 7) 130 [(2, 0), (0, v1), (0, v2)] μ (am_res 0 q) := by
  intro v1 v2 μ q h
  unfold X_needs at h
  refine am_ar_of (d := d + 6) i_X_needs rfl rfl (Nat.le_of_ble_eq_true rfl) ?_
  show am_run none (am_ar g_mt (d + 6)) 3 (some .int) k_X_needs 0 [(0, (2, 0)), (1, (0, v1)), (2, (0, v2))] [] μ (am_res 0 q)
  refine rn_sls 3 (pc' := 5) (ls' := [(0, (2, 0)), (1, (0, v1)), (2, (0, v2))]) (st' := [(0, v1), (2, (μ 0 8))]) rfl ?_
  refine rn_gd h (fun ho1 h => ?_)
  refine rn_call 0 0 [(2, (μ 0 8)), (0, v1)] (r := []) rfl ⟨rfl, Or.inl ⟨_, rfl, by decide⟩⟩ (by decide) (fun _ => ⟨_, rfl, ho1⟩) rfl rfl (Nat.le_of_ble_eq_true rfl) h (fun w hw => t_Bi_has (d + 5) _ _ _ _ hw) (fun a2 μ3 h => ?_)
  refine rn_sls 0 (pc' := 8) (ls' := [(0, (2, 0)), (1, (0, v1)), (2, (0, v2))]) (st' := [(0, a2)]) rfl ?_
  refine rn_if (t := 20) rfl rfl rfl rfl h (fun h => ?_) (fun h => ?_)
  · refine rn_sls 1 (pc' := 21) (ls' := [(0, (2, 0)), (1, (0, v1)), (2, (0, v2))]) (st' := [(0, (-1))]) rfl ?_
    exact rn_ireti rfl rfl rfl h rfl
  · refine rn_sls 1 (pc' := 12) (ls' := [(0, (2, 0)), (1, (0, v1)), (2, (0, v2))]) (st' := [(0, v2)]) rfl ?_
    refine rn_if (t := 20) rfl rfl rfl rfl h (fun h => ?_) (fun h => ?_)
    · refine rn_sls 1 (pc' := 21) (ls' := [(0, (2, 0)), (1, (0, v1)), (2, (0, v2))]) (st' := [(0, (-1))]) rfl ?_
      exact rn_ireti rfl rfl rfl h rfl
    · refine rn_sls 2 (pc' := 17) (ls' := [(0, (2, 0)), (1, (0, v1)), (2, (0, v2))]) (st' := [(0, 3), (0, v2)]) rfl ?_
      refine rn_icmp (t := 22) rfl rfl rfl rfl h (fun h => ?_) (fun h => ?_)
      · refine rn_sls 6 (pc' := 32) (ls' := [(0, (2, 0)), (1, (0, v1)), (2, (0, v2))]) (st' := [(0, v2), (0, v1), (2, (μ3 0 8)), (2, 50)]) rfl ?_
        refine rn_call 0 0 [(2, 50), (2, (μ3 0 8)), (0, v1), (0, v2)] (r := []) rfl ⟨rfl, Or.inl ⟨_, rfl, by decide⟩⟩ (by decide) (fun _ => ⟨_, rfl, rfl⟩) rfl rfl (Nat.le_of_ble_eq_true rfl) h (fun w hw => t_Wy_need (d + 0) _ _ _ _ _ hw) (fun a4 μ5 h => ?_)
        refine rn_sls 0 (pc' := 35) (ls' := [(0, (2, 0)), (1, (0, v1)), (2, (0, v2))]) (st' := [(0, a4)]) rfl ?_
        exact rn_ireti rfl rfl rfl h rfl
      · refine rn_sls 1 (pc' := 21) (ls' := [(0, (2, 0)), (1, (0, v1)), (2, (0, v2))]) (st' := [(0, (-1))]) rfl ?_
        exact rn_ireti rfl rfl rfl h rfl
set_option maxRecDepth 20000 in
theorem t_X_plain (d : Nat) : ∀ (v1 : Int) (μ : am_M) q, X_plain v1 μ = some q → am_ar g_mt (d + 5) 131 [(2, 0), (0, v1)] μ (am_res 0 q) := by
  intro v1 μ q h
  unfold X_plain at h
  refine am_ar_of (d := d + 4) i_X_plain rfl rfl (Nat.le_of_ble_eq_true rfl) ?_
  show am_run none (am_ar g_mt (d + 4)) 2 (some .int) k_X_plain 0 [(0, (2, 0)), (1, (0, v1))] [] μ (am_res 0 q)
  refine rn_sls 3 (pc' := 5) (ls' := [(0, (2, 0)), (1, (0, v1))]) (st' := [(0, v1), (2, (μ 0 8))]) rfl ?_
  refine rn_gd h (fun ho1 h => ?_)
  refine rn_call 0 0 [(2, (μ 0 8)), (0, v1)] (r := []) rfl ⟨rfl, Or.inl ⟨_, rfl, by decide⟩⟩ (by decide) (fun _ => ⟨_, rfl, ho1⟩) rfl rfl (Nat.le_of_ble_eq_true rfl) h (fun w hw => t_Bi_has (d + 3) _ _ _ _ hw) (fun a2 μ3 h => ?_)
  refine rn_sls 0 (pc' := 8) (ls' := [(0, (2, 0)), (1, (0, v1))]) (st' := [(0, a2)]) rfl ?_
  refine rn_ifn (t := 13) rfl rfl rfl rfl h (fun h => ?_) (fun h => ?_)
  · refine rn_sls 1 (pc' := 12) (ls' := [(0, (2, 0)), (1, (0, v1))]) (st' := [(0, (-1))]) rfl ?_
    exact rn_ireti rfl rfl rfl h rfl
  · refine rn_sls 3 (pc' := 18) (ls' := [(0, (2, 0)), (1, (0, v1))]) (st' := [(0, v1), (2, (μ3 0 8))]) rfl ?_
    refine rn_gd h (fun ho4 h => ?_)
    refine rn_call 0 0 [(2, (μ3 0 8)), (0, v1)] (r := []) rfl ⟨rfl, Or.inl ⟨_, rfl, by decide⟩⟩ (by decide) (fun _ => ⟨_, rfl, ho4⟩) rfl rfl (Nat.le_of_ble_eq_true rfl) h (fun w hw => t_Bi_isPlain (d + 0) _ _ _ _ hw) (fun a5 μ6 h => ?_)
    refine rn_sls 0 (pc' := 21) (ls' := [(0, (2, 0)), (1, (0, v1))]) (st' := [(0, a5)]) rfl ?_
    refine rn_if (t := 28) rfl rfl rfl rfl h (fun h => ?_) (fun h => ?_)
    · refine rn_sls 1 (pc' := 29) (ls' := [(0, (2, 0)), (1, (0, v1))]) (st' := [(0, 0)]) rfl ?_
      exact rn_ireti rfl rfl rfl h rfl
    · refine rn_sls 1 (pc' := 25) (ls' := [(0, (2, 0)), (1, (0, v1))]) (st' := [(0, 1)]) rfl ?_
      refine rn_goto (t := 29) rfl rfl rfl ?_
      exact rn_ireti rfl rfl rfl h rfl
set_option maxRecDepth 20000 in
theorem t_X_fewest (d : Nat) : ∀ (v1 : Int) (μ : am_M) q, X_fewest v1 μ = some q → am_ar g_mt (d + 7) 132 [(2, 0), (0, v1)] μ (am_res 0 q) := by
  intro v1 μ q h
  unfold X_fewest at h
  refine am_ar_of (d := d + 6) i_X_fewest rfl rfl (Nat.le_of_ble_eq_true rfl) ?_
  show am_run none (am_ar g_mt (d + 6)) 2 (some .int) k_X_fewest 0 [(0, (2, 0)), (1, (0, v1))] [] μ (am_res 0 q)
  refine rn_sls 5 (pc' := 9) (ls' := [(0, (2, 0)), (1, (0, v1))]) (st' := [(0, v1), (2, (μ 0 8)), (2, 60)]) rfl ?_
  refine rn_call 0 0 [(2, 60), (2, (μ 0 8)), (0, v1)] (r := []) rfl ⟨rfl, Or.inl ⟨_, rfl, by decide⟩⟩ (by decide) (fun _ => ⟨_, rfl, rfl⟩) rfl rfl (Nat.le_of_ble_eq_true rfl) h (fun w hw => t_Or_prepare (d + 0) _ _ _ _ hw) (fun a1 μ2 h => ?_)
  refine rn_sls 0 (pc' := 12) (ls' := [(0, (2, 0)), (1, (0, v1))]) (st' := [(0, a1)]) rfl ?_
  refine rn_if (t := 25) rfl rfl rfl rfl h (fun h => ?_) (fun h => ?_)
  · refine rn_sls 1 (pc' := 26) (ls' := [(0, (2, 0)), (1, (0, v1))]) (st' := [(0, (-1))]) rfl ?_
    exact rn_ireti rfl rfl rfl h rfl
  · refine rn_sls 2 (pc' := 19) (ls' := [(0, (2, 0)), (1, (0, v1))]) (st' := [(2, 60)]) rfl ?_
    refine rn_call 0 0 [(2, 60)] (r := []) rfl ⟨rfl, Or.inl ⟨_, rfl, by decide⟩⟩ (by decide) (fun _ => ⟨_, rfl, rfl⟩) rfl rfl (Nat.le_of_ble_eq_true rfl) h (fun w hw => t_Or_least (d + 4)  _ _ hw) (fun a3 μ4 h => ?_)
    refine rn_sls 0 (pc' := 22) (ls' := [(0, (2, 0)), (1, (0, v1))]) (st' := [(0, a3)]) rfl ?_
    refine rn_goto (t := 26) rfl rfl rfl ?_
    exact rn_ireti rfl rfl rfl h rfl
set_option maxRecDepth 20000 in
theorem t_X_order (d : Nat) : ∀ (v1 : Int) (v2 : Int) (μ : am_M) q, X_order v1 v2 μ = some q → am_ar g_mt (d + 7) 133 [(2, 0), (0, v1), (0, v2)] μ (am_res 0 q) := by
  intro v1 v2 μ q h
  unfold X_order at h
  refine am_ar_of (d := d + 6) i_X_order rfl rfl (Nat.le_of_ble_eq_true rfl) ?_
  show am_run none (am_ar g_mt (d + 6)) 3 (some .int) k_X_order 0 [(0, (2, 0)), (1, (0, v1)), (2, (0, v2))] [] μ (am_res 0 q)
  refine rn_sls 5 (pc' := 9) (ls' := [(0, (2, 0)), (1, (0, v1)), (2, (0, v2))]) (st' := [(0, v1), (2, (μ 0 8)), (2, 60)]) rfl ?_
  refine rn_call 0 0 [(2, 60), (2, (μ 0 8)), (0, v1)] (r := []) rfl ⟨rfl, Or.inl ⟨_, rfl, by decide⟩⟩ (by decide) (fun _ => ⟨_, rfl, rfl⟩) rfl rfl (Nat.le_of_ble_eq_true rfl) h (fun w hw => t_Or_prepare (d + 0) _ _ _ _ hw) (fun a1 μ2 h => ?_)
  refine rn_sls 0 (pc' := 12) (ls' := [(0, (2, 0)), (1, (0, v1)), (2, (0, v2))]) (st' := [(0, a1)]) rfl ?_
  refine rn_if (t := 26) rfl rfl rfl rfl h (fun h => ?_) (fun h => ?_)
  · refine rn_sls 1 (pc' := 27) (ls' := [(0, (2, 0)), (1, (0, v1)), (2, (0, v2))]) (st' := [(0, (-1))]) rfl ?_
    exact rn_ireti rfl rfl rfl h rfl
  · refine rn_sls 3 (pc' := 20) (ls' := [(0, (2, 0)), (1, (0, v1)), (2, (0, v2))]) (st' := [(0, v2), (2, 60)]) rfl ?_
    refine rn_call 0 0 [(2, 60), (0, v2)] (r := []) rfl ⟨rfl, Or.inl ⟨_, rfl, by decide⟩⟩ (by decide) (fun _ => ⟨_, rfl, rfl⟩) rfl rfl (Nat.le_of_ble_eq_true rfl) h (fun w hw => t_Or_sumAt (d + 2) _ _ _ hw) (fun a3 μ4 h => ?_)
    refine rn_sls 0 (pc' := 23) (ls' := [(0, (2, 0)), (1, (0, v1)), (2, (0, v2))]) (st' := [(0, a3)]) rfl ?_
    refine rn_goto (t := 27) rfl rfl rfl ?_
    exact rn_ireti rfl rfl rfl h rfl
set_option maxRecDepth 20000 in
theorem t_X_asTold (d : Nat) : ∀ (v1 : Int) (μ : am_M) q, X_asTold v1 μ = some q → am_ar g_mt (d + 7) 134 [(2, 0), (0, v1)] μ (am_res 0 q) := by
  intro v1 μ q h
  unfold X_asTold at h
  refine am_ar_of (d := d + 6) i_X_asTold rfl rfl (Nat.le_of_ble_eq_true rfl) ?_
  show am_run none (am_ar g_mt (d + 6)) 2 (some .int) k_X_asTold 0 [(0, (2, 0)), (1, (0, v1))] [] μ (am_res 0 q)
  refine rn_sls 5 (pc' := 9) (ls' := [(0, (2, 0)), (1, (0, v1))]) (st' := [(0, v1), (2, (μ 0 8)), (2, 60)]) rfl ?_
  refine rn_call 0 0 [(2, 60), (2, (μ 0 8)), (0, v1)] (r := []) rfl ⟨rfl, Or.inl ⟨_, rfl, by decide⟩⟩ (by decide) (fun _ => ⟨_, rfl, rfl⟩) rfl rfl (Nat.le_of_ble_eq_true rfl) h (fun w hw => t_Or_prepare (d + 0) _ _ _ _ hw) (fun a1 μ2 h => ?_)
  refine rn_sls 0 (pc' := 12) (ls' := [(0, (2, 0)), (1, (0, v1))]) (st' := [(0, a1)]) rfl ?_
  refine rn_if (t := 25) rfl rfl rfl rfl h (fun h => ?_) (fun h => ?_)
  · refine rn_sls 1 (pc' := 26) (ls' := [(0, (2, 0)), (1, (0, v1))]) (st' := [(0, (-1))]) rfl ?_
    exact rn_ireti rfl rfl rfl h rfl
  · refine rn_sls 2 (pc' := 19) (ls' := [(0, (2, 0)), (1, (0, v1))]) (st' := [(2, 60)]) rfl ?_
    refine rn_call 0 0 [(2, 60)] (r := []) rfl ⟨rfl, Or.inl ⟨_, rfl, by decide⟩⟩ (by decide) (fun _ => ⟨_, rfl, rfl⟩) rfl rfl (Nat.le_of_ble_eq_true rfl) h (fun w hw => t_Or_greatestAsTold (d + 4)  _ _ hw) (fun a3 μ4 h => ?_)
    refine rn_sls 0 (pc' := 22) (ls' := [(0, (2, 0)), (1, (0, v1))]) (st' := [(0, a3)]) rfl ?_
    refine rn_goto (t := 26) rfl rfl rfl ?_
    exact rn_ireti rfl rfl rfl h rfl
set_option maxRecDepth 20000 in
theorem t_X_orders (d : Nat) : ∀ (v1 : Int) (v2 : Int) (μ : am_M) q, X_orders v1 v2 μ = some q → am_ar g_mt (d + 7) 135 [(2, 0), (0, v1), (0, v2)] μ (am_res 1 q) := by
  intro v1 v2 μ q h
  unfold X_orders at h
  refine am_ar_of (d := d + 6) i_X_orders rfl rfl (Nat.le_of_ble_eq_true rfl) ?_
  show am_run none (am_ar g_mt (d + 6)) 3 (some .long) k_X_orders 0 [(0, (2, 0)), (1, (0, v1)), (2, (0, v2))] [] μ (am_res 1 q)
  refine rn_sls 1 (pc' := 1) (ls' := [(0, (2, 0)), (1, (0, v1)), (2, (0, v2))]) (st' := [(0, v2)]) rfl ?_
  refine rn_if (t := 25) rfl rfl rfl rfl h (fun h => ?_) (fun h => ?_)
  · refine rn_sls 1 (pc' := 28) (ls' := [(0, (2, 0)), (1, (0, v1)), (2, (0, v2))]) (st' := [(1, (-1))]) rfl ?_
    exact rn_lret rfl rfl rfl h rfl
  · refine rn_sls 2 (pc' := 7) (ls' := [(0, (2, 0)), (1, (0, v1)), (2, (0, v2))]) (st' := [(0, 20), (0, v2)]) rfl ?_
    refine rn_icmpn (t := 25) rfl rfl rfl rfl h (fun h => ?_) (fun h => ?_)
    · refine rn_sls 5 (pc' := 19) (ls' := [(0, (2, 0)), (1, (0, v1)), (2, (0, v2))]) (st' := [(0, v1), (2, (μ 0 8)), (2, 60)]) rfl ?_
      refine rn_call 0 0 [(2, 60), (2, (μ 0 8)), (0, v1)] (r := []) rfl ⟨rfl, Or.inl ⟨_, rfl, by decide⟩⟩ (by decide) (fun _ => ⟨_, rfl, rfl⟩) rfl rfl (Nat.le_of_ble_eq_true rfl) h (fun w hw => t_Or_prepare (d + 0) _ _ _ _ hw) (fun a1 μ2 h => ?_)
      refine rn_sls 0 (pc' := 22) (ls' := [(0, (2, 0)), (1, (0, v1)), (2, (0, v2))]) (st' := [(0, a1)]) rfl ?_
      refine rn_ifn (t := 29) rfl rfl rfl rfl h (fun h => ?_) (fun h => ?_)
      · refine rn_sls 1 (pc' := 28) (ls' := [(0, (2, 0)), (1, (0, v1)), (2, (0, v2))]) (st' := [(1, (-1))]) rfl ?_
        exact rn_lret rfl rfl rfl h rfl
      · refine rn_sls 3 (pc' := 34) (ls' := [(0, (2, 0)), (1, (0, v1)), (2, (0, v2))]) (st' := [(0, v2), (2, 60)]) rfl ?_
        refine rn_call 0 1 [(2, 60), (0, v2)] (r := []) rfl ⟨rfl, Or.inl ⟨_, rfl, by decide⟩⟩ (by decide) (fun _ => ⟨_, rfl, rfl⟩) rfl rfl (Nat.le_of_ble_eq_true rfl) h (fun w hw => t_Or_howMany (d + 2) _ _ _ hw) (fun a3 μ4 h => ?_)
        refine rn_sls 0 (pc' := 37) (ls' := [(0, (2, 0)), (1, (0, v1)), (2, (0, v2))]) (st' := [(1, a3)]) rfl ?_
        exact rn_lret rfl rfl rfl h rfl
    · refine rn_sls 1 (pc' := 28) (ls' := [(0, (2, 0)), (1, (0, v1)), (2, (0, v2))]) (st' := [(1, (-1))]) rfl ?_
      exact rn_lret rfl rfl rfl h rfl
set_option maxRecDepth 20000 in
theorem t_X_cheapest (d : Nat) : ∀ (v1 : Int) (v2 : Int) (v3 : Int) (μ : am_M) q, X_cheapest v1 v2 v3 μ = some q → am_ar g_mt (d + 7) 136 [(2, 0), (0, v1), (0, v2), (0, v3)] μ (am_res 1 q) := by
  intro v1 v2 v3 μ q h
  unfold X_cheapest at h
  refine am_ar_of (d := d + 6) i_X_cheapest rfl rfl (Nat.le_of_ble_eq_true rfl) ?_
  show am_run none (am_ar g_mt (d + 6)) 4 (some .long) k_X_cheapest 0 [(0, (2, 0)), (1, (0, v1)), (2, (0, v2)), (3, (0, v3))] [] μ (am_res 1 q)
  refine rn_sls 1 (pc' := 1) (ls' := [(0, (2, 0)), (1, (0, v1)), (2, (0, v2)), (3, (0, v3))]) (st' := [(0, v2)]) rfl ?_
  refine rn_if (t := 20) rfl rfl rfl rfl h (fun h => ?_) (fun h => ?_)
  · refine rn_sls 1 (pc' := 23) (ls' := [(0, (2, 0)), (1, (0, v1)), (2, (0, v2)), (3, (0, v3))]) (st' := [(1, (-1))]) rfl ?_
    exact rn_lret rfl rfl rfl h rfl
  · refine rn_sls 2 (pc' := 7) (ls' := [(0, (2, 0)), (1, (0, v1)), (2, (0, v2)), (3, (0, v3))]) (st' := [(0, 99), (0, v2)]) rfl ?_
    refine rn_icmpn (t := 20) rfl rfl rfl rfl h (fun h => ?_) (fun h => ?_)
    · refine rn_sls 1 (pc' := 11) (ls' := [(0, (2, 0)), (1, (0, v1)), (2, (0, v2)), (3, (0, v3))]) (st' := [(0, v3)]) rfl ?_
      refine rn_if (t := 20) rfl rfl rfl rfl h (fun h => ?_) (fun h => ?_)
      · refine rn_sls 1 (pc' := 23) (ls' := [(0, (2, 0)), (1, (0, v1)), (2, (0, v2)), (3, (0, v3))]) (st' := [(1, (-1))]) rfl ?_
        exact rn_lret rfl rfl rfl h rfl
      · refine rn_sls 2 (pc' := 17) (ls' := [(0, (2, 0)), (1, (0, v1)), (2, (0, v2)), (3, (0, v3))]) (st' := [(0, 99), (0, v3)]) rfl ?_
        refine rn_icmp (t := 24) rfl rfl rfl rfl h (fun h => ?_) (fun h => ?_)
        · refine rn_sls 5 (pc' := 33) (ls' := [(0, (2, 0)), (1, (0, v1)), (2, (0, v2)), (3, (0, v3))]) (st' := [(0, v1), (2, (μ 0 8)), (2, 60)]) rfl ?_
          refine rn_call 0 0 [(2, 60), (2, (μ 0 8)), (0, v1)] (r := []) rfl ⟨rfl, Or.inl ⟨_, rfl, by decide⟩⟩ (by decide) (fun _ => ⟨_, rfl, rfl⟩) rfl rfl (Nat.le_of_ble_eq_true rfl) h (fun w hw => t_Or_prepare (d + 0) _ _ _ _ hw) (fun a1 μ2 h => ?_)
          refine rn_sls 0 (pc' := 36) (ls' := [(0, (2, 0)), (1, (0, v1)), (2, (0, v2)), (3, (0, v3))]) (st' := [(0, a1)]) rfl ?_
          refine rn_if (t := 51) rfl rfl rfl rfl h (fun h => ?_) (fun h => ?_)
          · refine rn_sls 1 (pc' := 54) (ls' := [(0, (2, 0)), (1, (0, v1)), (2, (0, v2)), (3, (0, v3))]) (st' := [(1, (-1))]) rfl ?_
            exact rn_lret rfl rfl rfl h rfl
          · refine rn_sls 4 (pc' := 45) (ls' := [(0, (2, 0)), (1, (0, v1)), (2, (0, v2)), (3, (0, v3))]) (st' := [(0, v3), (0, v2), (2, 60)]) rfl ?_
            refine rn_call 0 1 [(2, 60), (0, v2), (0, v3)] (r := []) rfl ⟨rfl, Or.inl ⟨_, rfl, by decide⟩⟩ (by decide) (fun _ => ⟨_, rfl, rfl⟩) rfl rfl (Nat.le_of_ble_eq_true rfl) h (fun w hw => t_Or_leastCoin (d + 3) _ _ _ _ hw) (fun a3 μ4 h => ?_)
            refine rn_sls 0 (pc' := 48) (ls' := [(0, (2, 0)), (1, (0, v1)), (2, (0, v2)), (3, (0, v3))]) (st' := [(1, a3)]) rfl ?_
            refine rn_goto (t := 54) rfl rfl rfl ?_
            exact rn_lret rfl rfl rfl h rfl
        · refine rn_sls 1 (pc' := 23) (ls' := [(0, (2, 0)), (1, (0, v1)), (2, (0, v2)), (3, (0, v3))]) (st' := [(1, (-1))]) rfl ?_
          exact rn_lret rfl rfl rfl h rfl
    · refine rn_sls 1 (pc' := 23) (ls' := [(0, (2, 0)), (1, (0, v1)), (2, (0, v2)), (3, (0, v3))]) (st' := [(1, (-1))]) rfl ?_
      exact rn_lret rfl rfl rfl h rfl
set_option maxRecDepth 20000 in
theorem t_X_mark_B43 (d : Nat) : ∀ (v1 : Int) (v2 : Int) (v3 : Int) (μ : am_M) q, X_mark_B43 v1 v2 v3 μ = some q → am_run none (am_ar g_mt (d + 1)) 4 (some .boolean) k_X_mark 43 [(0, (2, 0)), (1, (0, v1)), (2, (0, v2)), (3, (2, v3))] [] μ (am_res 0 q) := by
  intro v1 v2 v3 μ q h
  unfold X_mark_B43 at h
  refine rn_sls 1 (pc' := 44) (ls' := [(0, (2, 0)), (1, (0, v1)), (2, (0, v2)), (3, (2, v3))]) (st' := [(0, v2)]) rfl ?_
  refine rn_if (t := 58) rfl rfl rfl rfl h (fun h => ?_) (fun h => ?_)
  · refine rn_sls 3 (pc' := 63) (ls' := [(0, (2, 0)), (1, (0, v1)), (2, (0, v2)), (3, (2, v3))]) (st' := [(2, 300), (2, v3)]) rfl ?_
    refine rn_gd h (fun ho1 h => ?_)
    refine rn_call 0 2 [(2, v3), (2, 300)] (r := []) rfl ⟨rfl, Or.inl ⟨_, rfl, by decide⟩⟩ (by decide) (fun _ => ⟨_, rfl, ho1⟩) rfl rfl (Nat.le_of_ble_eq_true rfl) h (fun w hw => t_Mc_become (d + 0) _ _ _ _ hw) (fun a2 μ3 h => ?_)
    refine rn_sls 0 (pc' := 66) (ls' := [(0, (2, 0)), (1, (0, v1)), (2, (0, v2)), (3, (2, v3))]) (st' := []) rfl ?_
    refine rn_sls 7 (pc' := 75) (ls' := [(0, (2, 0)), (1, (0, v1)), (2, (0, v2)), (3, (2, v3))]) (st' := [(0, (aOr (μ3 0 10) (aShl 1 v1))), (2, 0)]) rfl ?_
    refine rn_put rfl rfl rfl rfl (Or.inl ⟨rfl, rfl⟩) rfl h (fun μ4 h => ?_)
    refine rn_sls 1 (pc' := 79) (ls' := [(0, (2, 0)), (1, (0, v1)), (2, (0, v2)), (3, (2, v3))]) (st' := [(0, 1)]) rfl ?_
    exact rn_iretb rfl rfl rfl (Or.inr rfl) h rfl
  · refine rn_sls 3 (pc' := 52) (ls' := [(0, (2, 0)), (1, (0, v1)), (2, (0, v2)), (3, (2, v3))]) (st' := [(2, v3), (2, 300)]) rfl ?_
    refine rn_call 0 2 [(2, 300), (2, v3)] (r := []) rfl ⟨rfl, Or.inl ⟨_, rfl, by decide⟩⟩ (by decide) (fun _ => ⟨_, rfl, rfl⟩) rfl rfl (Nat.le_of_ble_eq_true rfl) h (fun w hw => t_Mc_become (d + 0) _ _ _ _ hw) (fun a5 μ6 h => ?_)
    refine rn_sls 0 (pc' := 55) (ls' := [(0, (2, 0)), (1, (0, v1)), (2, (0, v2)), (3, (2, v3))]) (st' := []) rfl ?_
    refine rn_goto (t := 78) rfl rfl rfl ?_
    refine rn_sls 1 (pc' := 79) (ls' := [(0, (2, 0)), (1, (0, v1)), (2, (0, v2)), (3, (2, v3))]) (st' := [(0, 1)]) rfl ?_
    exact rn_iretb rfl rfl rfl (Or.inr rfl) h rfl
set_option maxRecDepth 20000 in
theorem t_X_mark (d : Nat) : ∀ (v1 : Int) (v2 : Int) (μ : am_M) q, X_mark v1 v2 μ = some q → am_ar g_mt (d + 2) 137 [(2, 0), (0, v1), (0, v2)] μ (am_res 0 q) := by
  intro v1 v2 μ q h
  unfold X_mark at h
  refine am_ar_of (d := d + 1) i_X_mark rfl rfl (Nat.le_of_ble_eq_true rfl) ?_
  show am_run none (am_ar g_mt (d + 1)) 4 (some .boolean) k_X_mark 0 [(0, (2, 0)), (1, (0, v1)), (2, (0, v2))] [] μ (am_res 0 q)
  refine rn_sls 1 (pc' := 1) (ls' := [(0, (2, 0)), (1, (0, v1)), (2, (0, v2))]) (st' := [(0, v1)]) rfl ?_
  refine rn_if (t := 13) rfl rfl rfl rfl h (fun h => ?_) (fun h => ?_)
  · refine rn_sls 1 (pc' := 14) (ls' := [(0, (2, 0)), (1, (0, v1)), (2, (0, v2))]) (st' := [(0, 0)]) rfl ?_
    exact rn_iretb rfl rfl rfl (Or.inl rfl) h rfl
  · refine rn_sls 4 (pc' := 10) (ls' := [(0, (2, 0)), (1, (0, v1)), (2, (0, v2))]) (st' := [(0, 4), (0, v1)]) rfl ?_
    refine rn_icmp (t := 15) rfl rfl rfl rfl h (fun h => ?_) (fun h => ?_)
    · refine rn_sls 3 (pc' := 20) (ls' := [(0, (2, 0)), (1, (0, v1)), (2, (0, v2))]) (st' := [(0, v1), (2, 70)]) rfl ?_
      refine rn_aald (n := 4) rfl rfl rfl h (fun a1 h => ?_)
      refine rn_sls 2 (pc' := 23) (ls' := [(3, (2, a1)), (0, (2, 0)), (1, (0, v1)), (2, (0, v2))]) (st' := [(2, a1)]) rfl ?_
      refine rn_ifnull (t := 41) rfl rfl rfl h (fun h => ?_) (fun h => ?_)
      · refine rn_sls 1 (pc' := 42) (ls' := [(3, (2, a1)), (0, (2, 0)), (1, (0, v1)), (2, (0, v2))]) (st' := [(0, 0)]) rfl ?_
        exact rn_iretb rfl rfl rfl (Or.inl rfl) h rfl
      · refine rn_sls 1 (pc' := 27) (ls' := [(3, (2, a1)), (0, (2, 0)), (1, (0, v1)), (2, (0, v2))]) (st' := [(0, v2)]) rfl ?_
        refine rn_if (t := 43) rfl rfl rfl rfl h (fun h => ?_) (fun h => ?_)
        · exact rn_sub [1, 2, 3, 0] rfl (t_X_mark_B43 d  _ _ _ _ _ h)
        · refine rn_sls 6 (pc' := 38) (ls' := [(3, (2, a1)), (0, (2, 0)), (1, (0, v1)), (2, (0, v2))]) (st' := [(0, (aAnd (aShr (μ 0 10) v1) 1))]) rfl ?_
          refine rn_ifn (t := 43) rfl rfl rfl rfl h (fun h => ?_) (fun h => ?_)
          · refine rn_sls 1 (pc' := 42) (ls' := [(3, (2, a1)), (0, (2, 0)), (1, (0, v1)), (2, (0, v2))]) (st' := [(0, 0)]) rfl ?_
            exact rn_iretb rfl rfl rfl (Or.inl rfl) h rfl
          · exact rn_sub [1, 2, 3, 0] rfl (t_X_mark_B43 d  _ _ _ _ _ h)
    · refine rn_sls 1 (pc' := 14) (ls' := [(0, (2, 0)), (1, (0, v1)), (2, (0, v2))]) (st' := [(0, 0)]) rfl ?_
      exact rn_iretb rfl rfl rfl (Or.inl rfl) h rfl
set_option maxRecDepth 20000 in
theorem t_X_count (d : Nat) : ∀ (v1 : Int) (μ : am_M) q, X_count v1 μ = some q → am_ar g_mt (d + 1) 138 [(2, 0), (0, v1)] μ (am_res 0 q) := by
  intro v1 μ q h
  unfold X_count at h
  refine am_ar_of (d := d + 0) i_X_count rfl rfl (Nat.le_of_ble_eq_true rfl) ?_
  show am_run none (am_ar g_mt (d + 0)) 2 (some .int) k_X_count 0 [(0, (2, 0)), (1, (0, v1))] [] μ (am_res 0 q)
  refine rn_sls 1 (pc' := 1) (ls' := [(0, (2, 0)), (1, (0, v1))]) (st' := [(0, v1)]) rfl ?_
  refine rn_tsw rfl rfl ?_
  refine rn_swc (t := 40) rfl h (fun h => ?_) (fun h => ?_)
  · refine rn_sls 2 (pc' := 44) (ls' := [(0, (2, 0)), (1, (0, v1))]) (st' := [(2, (μ 0 8))]) rfl ?_
    refine rn_gd h (fun ho1 h => ?_)
    refine rn_get ho1 rfl rfl rfl ?_
    refine rn_sls 0 (pc' := 47) (ls' := [(0, (2, 0)), (1, (0, v1))]) (st' := [(0, (μ (μ 0 8) 12))]) rfl ?_
    exact rn_ireti rfl rfl rfl h rfl
  refine rn_swc (t := 48) rfl h (fun h => ?_) (fun h => ?_)
  · refine rn_sls 2 (pc' := 52) (ls' := [(0, (2, 0)), (1, (0, v1))]) (st' := [(2, (μ 0 8))]) rfl ?_
    refine rn_gd h (fun ho2 h => ?_)
    refine rn_get ho2 rfl rfl rfl ?_
    refine rn_sls 0 (pc' := 55) (ls' := [(0, (2, 0)), (1, (0, v1))]) (st' := [(0, (μ (μ 0 8) 13))]) rfl ?_
    exact rn_ireti rfl rfl rfl h rfl
  refine rn_swc (t := 56) rfl h (fun h => ?_) (fun h => ?_)
  · refine rn_sls 2 (pc' := 60) (ls' := [(0, (2, 0)), (1, (0, v1))]) (st' := [(2, (μ 0 8))]) rfl ?_
    refine rn_gd h (fun ho3 h => ?_)
    refine rn_get ho3 rfl rfl rfl ?_
    refine rn_sls 0 (pc' := 63) (ls' := [(0, (2, 0)), (1, (0, v1))]) (st' := [(2, ((μ 0 8) + 1))]) rfl ?_
    refine rn_gd h (fun ho4 h => ?_)
    refine rn_get ho4 rfl rfl rfl ?_
    refine rn_sls 0 (pc' := 66) (ls' := [(0, (2, 0)), (1, (0, v1))]) (st' := [(0, (μ ((μ 0 8) + 1) 10))]) rfl ?_
    exact rn_ireti rfl rfl rfl h rfl
  refine rn_swc (t := 67) rfl h (fun h => ?_) (fun h => ?_)
  · refine rn_sls 3 (pc' := 74) (ls' := [(0, (2, 0)), (1, (0, v1))]) (st' := [(0, (μ 300 12))]) rfl ?_
    exact rn_ireti rfl rfl rfl h rfl
  refine rn_swc (t := 75) rfl h (fun h => ?_) (fun h => ?_)
  · refine rn_sls 3 (pc' := 82) (ls' := [(0, (2, 0)), (1, (0, v1))]) (st' := [(0, (μ 300 13))]) rfl ?_
    exact rn_ireti rfl rfl rfl h rfl
  refine rn_swc (t := 83) rfl h (fun h => ?_) (fun h => ?_)
  · refine rn_sls 3 (pc' := 90) (ls' := [(0, (2, 0)), (1, (0, v1))]) (st' := [(0, (μ 10 2))]) rfl ?_
    exact rn_ireti rfl rfl rfl h rfl
  refine rn_sw0 (t := 91) rfl ?_
  refine rn_sls 1 (pc' := 92) (ls' := [(0, (2, 0)), (1, (0, v1))]) (st' := [(0, (-1))]) rfl ?_
  exact rn_ireti rfl rfl rfl h rfl
set_option maxRecDepth 20000 in
theorem t_M_thrown (d : Nat) : ∀  (μ : am_M) q, M_thrown  μ = some q → am_ar g_mt (d + 1) 142 [(2, 1000)] μ (am_res 0 q) := by
  intro  μ q h
  unfold M_thrown at h
  refine am_ar_of (d := d + 0) i_M_thrown rfl rfl (Nat.le_of_ble_eq_true rfl) ?_
  show am_run none (am_ar g_mt (d + 0)) 1 (some .int) k_M_thrown 0 [(0, (2, 1000))] [] μ (am_res 0 q)
  refine rn_sls 2 (pc' := 4) (ls' := [(0, (2, 1000))]) (st' := [(0, (μ 1000 0))]) rfl ?_
  exact rn_ireti rfl rfl rfl h rfl
set_option maxRecDepth 20000 in
theorem t_M_within (d : Nat) : ∀ (v0 : Int) (v1 : Int) (v2 : Int) (μ : am_M) q, M_within v0 v1 v2 μ = some q → am_ar g_mt (d + 1) 143 [(0, v0), (0, v1), (0, v2)] μ (am_res 0 q) := by
  intro v0 v1 v2 μ q h
  unfold M_within at h
  refine am_ar_of (d := d + 0) i_M_within rfl rfl (Nat.le_of_ble_eq_true rfl) ?_
  show am_run none (am_ar g_mt (d + 0)) 3 (some .boolean) k_M_within 0 [(0, (0, v0)), (1, (0, v1)), (2, (0, v2))] [] μ (am_res 0 q)
  refine rn_sls 2 (pc' := 2) (ls' := [(0, (0, v0)), (1, (0, v1)), (2, (0, v2))]) (st' := [(0, v1), (0, v0)]) rfl ?_
  refine rn_icmp (t := 14) rfl rfl rfl rfl h (fun h => ?_) (fun h => ?_)
  · refine rn_sls 1 (pc' := 15) (ls' := [(0, (0, v0)), (1, (0, v1)), (2, (0, v2))]) (st' := [(0, 0)]) rfl ?_
    exact rn_iretb rfl rfl rfl (Or.inl rfl) h rfl
  · refine rn_sls 2 (pc' := 7) (ls' := [(0, (0, v0)), (1, (0, v1)), (2, (0, v2))]) (st' := [(0, v2), (0, v0)]) rfl ?_
    refine rn_icmpn (t := 14) rfl rfl rfl rfl h (fun h => ?_) (fun h => ?_)
    · refine rn_sls 1 (pc' := 11) (ls' := [(0, (0, v0)), (1, (0, v1)), (2, (0, v2))]) (st' := [(0, 1)]) rfl ?_
      refine rn_goto (t := 15) rfl rfl rfl ?_
      exact rn_iretb rfl rfl rfl (Or.inr rfl) h rfl
    · refine rn_sls 1 (pc' := 15) (ls' := [(0, (0, v0)), (1, (0, v1)), (2, (0, v2))]) (st' := [(0, 0)]) rfl ?_
      exact rn_iretb rfl rfl rfl (Or.inl rfl) h rfl
set_option maxRecDepth 20000 in
theorem t_M_bits_L4_b (d : Nat) (k4 : Int → Int → Int → am_M → am_O) (hk4 : ∀ (v0 : Int) (v1 : Int) (v2 : Int) (μ : am_M) q, k4 v0 v1 v2 μ = some q → am_run none (am_ar g_mt (d + 0)) 3 (some .int) k_M_bits 4 [(0, (0, v0)), (1, (0, v1)), (2, (0, v2))] [] μ (am_res 0 q)) : ∀ (v0 : Int) (v1 : Int) (v2 : Int) (μ : am_M) q, M_bits_L4_b k4 v0 v1 v2 μ = some q → am_run none (am_ar g_mt (d + 0)) 3 (some .int) k_M_bits 4 [(0, (0, v0)), (1, (0, v1)), (2, (0, v2))] [] μ (am_res 0 q) := by
  intro v0 v1 v2 μ q h
  unfold M_bits_L4_b at h
  refine rn_sls 2 (pc' := 7) (ls' := [(0, (0, v0)), (1, (0, v1)), (2, (0, v2))]) (st' := [(0, 12), (0, v2)]) rfl ?_
  refine rn_icmpn (t := 24) rfl rfl rfl rfl h (fun h => ?_) (fun h => ?_)
  · refine rn_sls 9 (pc' := 21) (ls' := [(2, (0, (w32 (v2 + 1)))), (1, (0, (w32 (v1 + (aAnd (aShr v0 v2) 1))))), (0, (0, v0))]) (st' := []) rfl ?_
    refine rn_goto (t := 4) rfl rfl rfl ?_
    exact rn_sub [2, 1, 0] rfl (hk4 _ _ _ _ _ h)
  · refine rn_sls 1 (pc' := 25) (ls' := [(0, (0, v0)), (1, (0, v1)), (2, (0, v2))]) (st' := [(0, v1)]) rfl ?_
    exact rn_ireti rfl rfl rfl h rfl
set_option maxRecDepth 20000 in
theorem t_M_bits_L4 (d : Nat) : ∀ (n : Nat) (v0 : Int) (v1 : Int) (v2 : Int) (μ : am_M) q, M_bits_L4 n v0 v1 v2 μ = some q → am_run none (am_ar g_mt (d + 0)) 3 (some .int) k_M_bits 4 [(0, (0, v0)), (1, (0, v1)), (2, (0, v2))] [] μ (am_res 0 q) := by
  intro n
  induction n with
  | zero => intro v0 v1 v2 μ q h; cases h
  | succ n ih => intro v0 v1 v2 μ q h; exact t_M_bits_L4_b d (M_bits_L4 n) ih v0 v1 v2 μ q h
set_option maxRecDepth 20000 in
theorem t_M_bits (d : Nat) : ∀ (v0 : Int) (μ : am_M) q, M_bits v0 μ = some q → am_ar g_mt (d + 1) 144 [(0, v0)] μ (am_res 0 q) := by
  intro v0 μ q h
  unfold M_bits at h
  refine am_ar_of (d := d + 0) i_M_bits rfl rfl (Nat.le_of_ble_eq_true rfl) ?_
  show am_run none (am_ar g_mt (d + 0)) 3 (some .int) k_M_bits 0 [(0, (0, v0))] [] μ (am_res 0 q)
  refine rn_sls 4 (pc' := 4) (ls' := [(2, (0, 0)), (1, (0, 0)), (0, (0, v0))]) (st' := []) rfl ?_
  exact rn_sub [2, 1, 0] rfl (t_M_bits_L4 d  am_FU _ _ _ _ _ h)
set_option maxRecDepth 20000 in
theorem t_M_feed_B114 (d : Nat) (k8 : Int → Int → Int → Int → am_M → am_O) (hk8 : ∀ (v1 : Int) (v3 : Int) (v5 : Int) (v7 : Int) (μ : am_M) q, k8 v1 v3 v5 v7 μ = some q → am_run none (am_ar g_mt (d + 0)) 11 (some .int) k_M_feed 8 [(0, (2, 1000)), (1, (1, v1)), (3, (1, v3)), (5, (1, v5)), (7, (0, v7))] [] μ (am_res 0 q)) : ∀ (v1 : Int) (v3 : Int) (v5 : Int) (v7 : Int) (μ : am_M) q, M_feed_B114 k8 v1 v3 v5 v7 μ = some q → am_run none (am_ar g_mt (d + 0)) 11 (some .int) k_M_feed 114 [(0, (2, 1000)), (1, (1, v1)), (3, (1, v3)), (5, (1, v5)), (7, (0, v7))] [] μ (am_res 0 q) := by
  intro v1 v3 v5 v7 μ q h
  unfold M_feed_B114 at h
  refine rn_sls 1 (pc' := 117) (ls' := [(7, (0, (w32 (v7 + 1)))), (0, (2, 1000)), (1, (1, v1)), (3, (1, v3)), (5, (1, v5))]) (st' := []) rfl ?_
  refine rn_goto (t := 8) rfl rfl rfl ?_
  exact rn_sub [1, 2, 3, 4, 0] rfl (hk8 _ _ _ _ _ _ h)
set_option maxRecDepth 20000 in
theorem t_M_feed_B93 (d : Nat) (k8 : Int → Int → Int → Int → am_M → am_O) (hk8 : ∀ (v1 : Int) (v3 : Int) (v5 : Int) (v7 : Int) (μ : am_M) q, k8 v1 v3 v5 v7 μ = some q → am_run none (am_ar g_mt (d + 0)) 11 (some .int) k_M_feed 8 [(0, (2, 1000)), (1, (1, v1)), (3, (1, v3)), (5, (1, v5)), (7, (0, v7))] [] μ (am_res 0 q)) : ∀ (v1 : Int) (v3 : Int) (v5 : Int) (v7 : Int) (v10 : Int) (μ : am_M) q, M_feed_B93 k8 v1 v3 v5 v7 v10 μ = some q → am_run none (am_ar g_mt (d + 0)) 11 (some .int) k_M_feed 93 [(0, (2, 1000)), (1, (1, v1)), (3, (1, v3)), (5, (1, v5)), (7, (0, v7)), (10, (0, v10))] [] μ (am_res 0 q) := by
  intro v1 v3 v5 v7 v10 μ q h
  unfold M_feed_B93 at h
  refine rn_sls 5 (pc' := 103) (ls' := [(0, (2, 1000)), (1, (1, v1)), (3, (1, v3)), (5, (1, v5)), (7, (0, v7)), (10, (0, v10))]) (st' := [(0, v10), (0, (μ 1000 1)), (2, 1001)]) rfl ?_
  refine rn_iast (n := 1000) rfl rfl rfl h (fun μ1 h => ?_)
  refine rn_sls 5 (pc' := 111) (ls' := [(0, (2, 1000)), (1, (1, v1)), (3, (1, v3)), (5, (1, v5)), (7, (0, v7)), (10, (0, v10))]) (st' := [(0, (w32 ((μ1 1000 1) + 1))), (2, 1000)]) rfl ?_
  refine rn_put rfl rfl rfl rfl (Or.inl ⟨rfl, rfl⟩) rfl h (fun μ2 h => ?_)
  exact rn_sub [0, 1, 2, 3, 4] rfl (t_M_feed_B114 d k8 hk8 _ _ _ _ _ _ h)
set_option maxRecDepth 20000 in
theorem t_M_feed_B39 (d : Nat) (k8 : Int → Int → Int → Int → am_M → am_O) (hk8 : ∀ (v1 : Int) (v3 : Int) (v5 : Int) (v7 : Int) (μ : am_M) q, k8 v1 v3 v5 v7 μ = some q → am_run none (am_ar g_mt (d + 0)) 11 (some .int) k_M_feed 8 [(0, (2, 1000)), (1, (1, v1)), (3, (1, v3)), (5, (1, v5)), (7, (0, v7))] [] μ (am_res 0 q)) : ∀ (v1 : Int) (v3 : Int) (v5 : Int) (v7 : Int) (s0 : Int) (μ : am_M) q, M_feed_B39 k8 v1 v3 v5 v7 s0 μ = some q → am_run none (am_ar g_mt (d + 0)) 11 (some .int) k_M_feed 39 [(0, (2, 1000)), (1, (1, v1)), (3, (1, v3)), (5, (1, v5)), (7, (0, v7))] [(1, s0)] μ (am_res 0 q) := by
  intro v1 v3 v5 v7 s0 μ q h
  unfold M_feed_B39 at h
  refine rn_sls 14 (pc' := 62) (ls' := [(10, (0, (w32 (lAnd (lUshr s0 (w32 (56 - (w32 (8 * (aAnd v7 7)))))) 255)))), (8, (1, s0)), (0, (2, 1000)), (1, (1, v1)), (3, (1, v3)), (5, (1, v5)), (7, (0, v7))]) (st' := []) rfl ?_
  refine rn_nm (ls := fun x => [(10, (0, x)), (8, (1, s0)), (0, (2, 1000)), (1, (1, v1)), (3, (1, v3)), (5, (1, v5)), (7, (0, v7))]) (st := fun x => []) h (fun a1 h => ?_)
  refine rn_sls 3 (pc' := 69) (ls' := [(10, (0, a1)), (8, (1, s0)), (0, (2, 1000)), (1, (1, v1)), (3, (1, v3)), (5, (1, v5)), (7, (0, v7))]) (st' := [(0, 1000), (0, (μ 1000 1))]) rfl ?_
  refine rn_icmpn (t := 114) rfl rfl rfl rfl h (fun h => ?_) (fun h => ?_)
  · refine rn_sls 2 (pc' := 76) (ls' := [(10, (0, a1)), (8, (1, s0)), (0, (2, 1000)), (1, (1, v1)), (3, (1, v3)), (5, (1, v5)), (7, (0, v7))]) (st' := [(0, 10), (0, a1)]) rfl ?_
    refine rn_icmp (t := 93) rfl rfl rfl rfl h (fun h => ?_) (fun h => ?_)
    · exact rn_sub [2, 3, 4, 5, 6, 0] rfl (t_M_feed_B93 d k8 hk8 _ _ _ _ _ _ _ h)
    · refine rn_sls 2 (pc' := 83) (ls' := [(10, (0, a1)), (8, (1, s0)), (0, (2, 1000)), (1, (1, v1)), (3, (1, v3)), (5, (1, v5)), (7, (0, v7))]) (st' := [(0, 32), (0, a1)]) rfl ?_
      refine rn_icmp (t := 114) rfl rfl rfl rfl h (fun h => ?_) (fun h => ?_)
      · exact rn_sub [2, 3, 4, 5, 6] rfl (t_M_feed_B114 d k8 hk8 _ _ _ _ _ _ h)
      · refine rn_sls 2 (pc' := 90) (ls' := [(10, (0, a1)), (8, (1, s0)), (0, (2, 1000)), (1, (1, v1)), (3, (1, v3)), (5, (1, v5)), (7, (0, v7))]) (st' := [(0, 126), (0, a1)]) rfl ?_
        refine rn_icmpn (t := 114) rfl rfl rfl rfl h (fun h => ?_) (fun h => ?_)
        · exact rn_sub [2, 3, 4, 5, 6, 0] rfl (t_M_feed_B93 d k8 hk8 _ _ _ _ _ _ _ h)
        · exact rn_sub [2, 3, 4, 5, 6] rfl (t_M_feed_B114 d k8 hk8 _ _ _ _ _ _ h)
  · exact rn_sub [2, 3, 4, 5, 6] rfl (t_M_feed_B114 d k8 hk8 _ _ _ _ _ _ h)
set_option maxRecDepth 20000 in
theorem t_M_feed_L8_b (d : Nat) (k8 : Int → Int → Int → Int → am_M → am_O) (hk8 : ∀ (v1 : Int) (v3 : Int) (v5 : Int) (v7 : Int) (μ : am_M) q, k8 v1 v3 v5 v7 μ = some q → am_run none (am_ar g_mt (d + 0)) 11 (some .int) k_M_feed 8 [(0, (2, 1000)), (1, (1, v1)), (3, (1, v3)), (5, (1, v5)), (7, (0, v7))] [] μ (am_res 0 q)) : ∀ (v1 : Int) (v3 : Int) (v5 : Int) (v7 : Int) (μ : am_M) q, M_feed_L8_b k8 v1 v3 v5 v7 μ = some q → am_run none (am_ar g_mt (d + 0)) 11 (some .int) k_M_feed 8 [(0, (2, 1000)), (1, (1, v1)), (3, (1, v3)), (5, (1, v5)), (7, (0, v7))] [] μ (am_res 0 q) := by
  intro v1 v3 v5 v7 μ q h
  unfold M_feed_L8_b at h
  refine rn_sls 2 (pc' := 12) (ls' := [(0, (2, 1000)), (1, (1, v1)), (3, (1, v3)), (5, (1, v5)), (7, (0, v7))]) (st' := [(0, 24), (0, v7)]) rfl ?_
  refine rn_icmpn (t := 120) rfl rfl rfl rfl h (fun h => ?_) (fun h => ?_)
  · refine rn_sls 2 (pc' := 19) (ls' := [(0, (2, 1000)), (1, (1, v1)), (3, (1, v3)), (5, (1, v5)), (7, (0, v7))]) (st' := [(0, 8), (0, v7)]) rfl ?_
    refine rn_icmpn (t := 26) rfl rfl rfl rfl h (fun h => ?_) (fun h => ?_)
    · refine rn_sls 1 (pc' := 23) (ls' := [(0, (2, 1000)), (1, (1, v1)), (3, (1, v3)), (5, (1, v5)), (7, (0, v7))]) (st' := [(1, v1)]) rfl ?_
      refine rn_goto (t := 39) rfl rfl rfl ?_
      exact rn_sub [0, 1, 2, 3, 4] rfl (t_M_feed_B39 d k8 hk8 _ _ _ _ _ _ _ h)
    · refine rn_sls 2 (pc' := 30) (ls' := [(0, (2, 1000)), (1, (1, v1)), (3, (1, v3)), (5, (1, v5)), (7, (0, v7))]) (st' := [(0, 16), (0, v7)]) rfl ?_
      refine rn_icmpn (t := 37) rfl rfl rfl rfl h (fun h => ?_) (fun h => ?_)
      · refine rn_sls 1 (pc' := 34) (ls' := [(0, (2, 1000)), (1, (1, v1)), (3, (1, v3)), (5, (1, v5)), (7, (0, v7))]) (st' := [(1, v3)]) rfl ?_
        refine rn_goto (t := 39) rfl rfl rfl ?_
        exact rn_sub [0, 1, 2, 3, 4] rfl (t_M_feed_B39 d k8 hk8 _ _ _ _ _ _ _ h)
      · refine rn_sls 1 (pc' := 39) (ls' := [(0, (2, 1000)), (1, (1, v1)), (3, (1, v3)), (5, (1, v5)), (7, (0, v7))]) (st' := [(1, v5)]) rfl ?_
        exact rn_sub [0, 1, 2, 3, 4] rfl (t_M_feed_B39 d k8 hk8 _ _ _ _ _ _ _ h)
  · refine rn_sls 2 (pc' := 124) (ls' := [(0, (2, 1000)), (1, (1, v1)), (3, (1, v3)), (5, (1, v5)), (7, (0, v7))]) (st' := [(0, (μ 1000 1))]) rfl ?_
    exact rn_ireti rfl rfl rfl h rfl
set_option maxRecDepth 20000 in
theorem t_M_feed_L8 (d : Nat) : ∀ (n : Nat) (v1 : Int) (v3 : Int) (v5 : Int) (v7 : Int) (μ : am_M) q, M_feed_L8 n v1 v3 v5 v7 μ = some q → am_run none (am_ar g_mt (d + 0)) 11 (some .int) k_M_feed 8 [(0, (2, 1000)), (1, (1, v1)), (3, (1, v3)), (5, (1, v5)), (7, (0, v7))] [] μ (am_res 0 q) := by
  intro n
  induction n with
  | zero => intro v1 v3 v5 v7 μ q h; cases h
  | succ n ih => intro v1 v3 v5 v7 μ q h; exact t_M_feed_L8_b d (M_feed_L8 n) ih v1 v3 v5 v7 μ q h
set_option maxRecDepth 20000 in
theorem t_M_feed (d : Nat) : ∀ (v1 : Int) (v3 : Int) (v5 : Int) (μ : am_M) q, M_feed v1 v3 v5 μ = some q → am_ar g_mt (d + 1) 145 [(2, 1000), (1, v1), (1, v3), (1, v5)] μ (am_res 0 q) := by
  intro v1 v3 v5 μ q h
  unfold M_feed at h
  refine am_ar_of (d := d + 0) i_M_feed rfl rfl (Nat.le_of_ble_eq_true rfl) ?_
  show am_run none (am_ar g_mt (d + 0)) 11 (some .int) k_M_feed 0 [(0, (2, 1000)), (1, (1, v1)), (3, (1, v3)), (5, (1, v5))] [] μ (am_res 0 q)
  refine rn_sls 2 (pc' := 2) (ls' := [(0, (2, 1000)), (1, (1, v1)), (3, (1, v3)), (5, (1, v5))]) (st' := [(0, 0), (2, 1000)]) rfl ?_
  refine rn_put rfl rfl rfl rfl (Or.inl ⟨rfl, rfl⟩) rfl h (fun μ1 h => ?_)
  refine rn_sls 2 (pc' := 8) (ls' := [(7, (0, 0)), (0, (2, 1000)), (1, (1, v1)), (3, (1, v3)), (5, (1, v5))]) (st' := []) rfl ?_
  exact rn_sub [1, 2, 3, 4, 0] rfl (t_M_feed_L8 d  am_FU _ _ _ _ _ _ h)
set_option maxRecDepth 20000 in
theorem t_M_signAt (d : Nat) : ∀ (v1 : Int) (μ : am_M) q, M_signAt v1 μ = some q → am_ar g_mt (d + 1) 146 [(2, 1000), (0, v1)] μ (am_res 0 q) := by
  intro v1 μ q h
  unfold M_signAt at h
  refine am_ar_of (d := d + 0) i_M_signAt rfl rfl (Nat.le_of_ble_eq_true rfl) ?_
  show am_run none (am_ar g_mt (d + 0)) 2 (some .int) k_M_signAt 0 [(0, (2, 1000)), (1, (0, v1))] [] μ (am_res 0 q)
  refine rn_sls 3 (pc' := 5) (ls' := [(0, (2, 1000)), (1, (0, v1))]) (st' := [(0, (μ 1000 3)), (0, v1)]) rfl ?_
  refine rn_icmpn (t := 17) rfl rfl rfl rfl h (fun h => ?_) (fun h => ?_)
  · refine rn_sls 3 (pc' := 13) (ls' := [(0, (2, 1000)), (1, (0, v1))]) (st' := [(0, v1), (2, 1001)]) rfl ?_
    refine rn_iald (n := 1000) rfl rfl rfl h (fun a1 h => ?_)
    refine rn_goto (t := 18) rfl rfl rfl ?_
    exact rn_ireti rfl rfl rfl h rfl
  · refine rn_sls 1 (pc' := 18) (ls' := [(0, (2, 1000)), (1, (0, v1))]) (st' := [(0, 0)]) rfl ?_
    exact rn_ireti rfl rfl rfl h rfl
set_option maxRecDepth 20000 in
theorem t_M_nextToken_B39 (d : Nat) (k0 : am_M → am_O) (hk0 : ∀  (μ : am_M) q, k0  μ = some q → am_run none (am_ar g_mt (d + 1)) 2 none k_M_nextToken 0 [(0, (2, 1000))] [] μ (am_res 2 q)) : ∀  (μ : am_M) q, M_nextToken_B39 k0  μ = some q → am_run none (am_ar g_mt (d + 1)) 2 none k_M_nextToken 39 [(0, (2, 1000))] [] μ (am_res 2 q) := by
  intro  μ q h
  unfold M_nextToken_B39 at h
  refine rn_sls 5 (pc' := 46) (ls' := [(0, (2, 1000))]) (st' := [(0, (w32 ((μ 1000 4) + 1))), (2, 1000)]) rfl ?_
  refine rn_put rfl rfl rfl rfl (Or.inl ⟨rfl, rfl⟩) rfl h (fun μ1 h => ?_)
  refine rn_goto (t := 0) rfl rfl rfl ?_
  exact rn_sub [0] rfl (hk0 _ _ h)
set_option maxRecDepth 20000 in
theorem t_M_nextToken_B175 (d : Nat) (k109 : am_M → am_O) (hk109 : ∀  (μ : am_M) q, k109  μ = some q → am_run none (am_ar g_mt (d + 1)) 2 none k_M_nextToken 109 [(0, (2, 1000))] [] μ (am_res 2 q)) : ∀  (μ : am_M) q, M_nextToken_B175 k109  μ = some q → am_run none (am_ar g_mt (d + 1)) 2 none k_M_nextToken 175 [(0, (2, 1000))] [] μ (am_res 2 q) := by
  intro  μ q h
  unfold M_nextToken_B175 at h
  refine rn_sls 5 (pc' := 182) (ls' := [(0, (2, 1000))]) (st' := [(0, (w32 ((μ 1000 4) + 1))), (2, 1000)]) rfl ?_
  refine rn_put rfl rfl rfl rfl (Or.inl ⟨rfl, rfl⟩) rfl h (fun μ1 h => ?_)
  refine rn_goto (t := 109) rfl rfl rfl ?_
  exact rn_sub [0] rfl (hk109 _ _ h)
set_option maxRecDepth 20000 in
theorem t_M_nextToken_B208 (d : Nat) : ∀ (s1 : Int) (μ : am_M) q, M_nextToken_B208 s1 μ = some q → am_run none (am_ar g_mt (d + 1)) 2 none k_M_nextToken 208 [] [(0, s1), (2, 1000)] μ (am_res 2 q) := by
  intro s1 μ q h
  unfold M_nextToken_B208 at h
  refine rn_put rfl rfl rfl rfl (Or.inl ⟨rfl, rfl⟩) rfl h (fun μ1 h => ?_)
  exact rn_ret (v := 0) rfl rfl rfl h rfl
set_option maxRecDepth 20000 in
theorem t_M_nextToken_B188 (d : Nat) : ∀  (μ : am_M) q, M_nextToken_B188  μ = some q → am_run none (am_ar g_mt (d + 1)) 2 none k_M_nextToken 188 [(0, (2, 1000))] [] μ (am_res 2 q) := by
  intro  μ q h
  unfold M_nextToken_B188 at h
  refine rn_sls 7 (pc' := 200) (ls' := [(0, (2, 1000))]) (st' := [(0, 8), (0, (w32 ((μ 1000 4) - (μ 1000 5)))), (2, 1000)]) rfl ?_
  refine rn_icmp (t := 207) rfl rfl rfl rfl h (fun h => ?_) (fun h => ?_)
  · refine rn_sls 1 (pc' := 208) (ls' := [(0, (2, 1000))]) (st' := [(0, 1), (2, 1000)]) rfl ?_
    exact rn_sub [] rfl (t_M_nextToken_B208 d  _ _ _ h)
  · refine rn_sls 1 (pc' := 204) (ls' := [(0, (2, 1000))]) (st' := [(0, 4), (2, 1000)]) rfl ?_
    refine rn_goto (t := 208) rfl rfl rfl ?_
    exact rn_sub [] rfl (t_M_nextToken_B208 d  _ _ _ h)
set_option maxRecDepth 20000 in
theorem t_M_nextToken_L109_b (d : Nat) (k109 : am_M → am_O) (hk109 : ∀  (μ : am_M) q, k109  μ = some q → am_run none (am_ar g_mt (d + 1)) 2 none k_M_nextToken 109 [(0, (2, 1000))] [] μ (am_res 2 q)) : ∀  (μ : am_M) q, M_nextToken_L109_b k109  μ = some q → am_run none (am_ar g_mt (d + 1)) 2 none k_M_nextToken 109 [(0, (2, 1000))] [] μ (am_res 2 q) := by
  intro  μ q h
  unfold M_nextToken_L109_b at h
  refine rn_sls 3 (pc' := 114) (ls' := [(0, (2, 1000))]) (st' := [(0, (μ 1000 4)), (2, 1000)]) rfl ?_
  refine rn_call 0 0 [(2, 1000), (0, (μ 1000 4))] (r := []) rfl ⟨rfl, Or.inl ⟨_, rfl, by decide⟩⟩ (by decide) (fun _ => ⟨_, rfl, rfl⟩) rfl rfl (Nat.le_of_ble_eq_true rfl) h (fun w hw => t_M_signAt (d + 0) _ _ _ hw) (fun a1 μ2 h => ?_)
  refine rn_sls 0 (pc' := 117) (ls' := [(0, (2, 1000))]) (st' := [(0, a1)]) rfl ?_
  refine rn_sls 1 (pc' := 119) (ls' := [(0, (2, 1000))]) (st' := [(0, 97), (0, a1)]) rfl ?_
  refine rn_icmp (t := 188) rfl rfl rfl rfl h (fun h => ?_) (fun h => ?_)
  · exact rn_sub [0] rfl (t_M_nextToken_B188 d  _ _ h)
  · refine rn_sls 3 (pc' := 127) (ls' := [(0, (2, 1000))]) (st' := [(0, (μ2 1000 4)), (2, 1000)]) rfl ?_
    refine rn_call 0 0 [(2, 1000), (0, (μ2 1000 4))] (r := []) rfl ⟨rfl, Or.inl ⟨_, rfl, by decide⟩⟩ (by decide) (fun _ => ⟨_, rfl, rfl⟩) rfl rfl (Nat.le_of_ble_eq_true rfl) h (fun w hw => t_M_signAt (d + 0) _ _ _ hw) (fun a3 μ4 h => ?_)
    refine rn_sls 0 (pc' := 130) (ls' := [(0, (2, 1000))]) (st' := [(0, a3)]) rfl ?_
    refine rn_sls 1 (pc' := 132) (ls' := [(0, (2, 1000))]) (st' := [(0, 122), (0, a3)]) rfl ?_
    refine rn_icmpn (t := 188) rfl rfl rfl rfl h (fun h => ?_) (fun h => ?_)
    · refine rn_sls 6 (pc' := 146) (ls' := [(0, (2, 1000))]) (st' := [(0, 8), (0, (w32 ((μ4 1000 4) - (μ4 1000 5))))]) rfl ?_
      refine rn_icmpn (t := 175) rfl rfl rfl rfl h (fun h => ?_) (fun h => ?_)
      · refine rn_sls 8 (pc' := 163) (ls' := [(0, (2, 1000))]) (st' := [(0, (μ4 1000 4)), (2, 1000), (1, (w64 ((μ4 1000 7) * 27))), (2, 1000)]) rfl ?_
        refine rn_call 0 0 [(2, 1000), (0, (μ4 1000 4))] (r := [(1, (w64 ((μ4 1000 7) * 27))), (2, 1000)]) rfl ⟨rfl, Or.inl ⟨_, rfl, by decide⟩⟩ (by decide) (fun _ => ⟨_, rfl, rfl⟩) rfl rfl (Nat.le_of_ble_eq_true rfl) h (fun w hw => t_M_signAt (d + 0) _ _ _ hw) (fun a5 μ6 h => ?_)
        refine rn_sls 0 (pc' := 166) (ls' := [(0, (2, 1000))]) (st' := [(0, a5), (1, (w64 ((μ4 1000 7) * 27))), (2, 1000)]) rfl ?_
        refine rn_sls 4 (pc' := 172) (ls' := [(0, (2, 1000))]) (st' := [(1, (w64 ((w64 ((w64 ((μ4 1000 7) * 27)) + a5)) - 96))), (2, 1000)]) rfl ?_
        refine rn_put rfl rfl rfl rfl (Or.inr (Or.inl ⟨rfl, rfl⟩)) rfl h (fun μ7 h => ?_)
        exact rn_sub [0] rfl (t_M_nextToken_B175 d k109 hk109 _ _ h)
      · exact rn_sub [0] rfl (t_M_nextToken_B175 d k109 hk109 _ _ h)
    · exact rn_sub [0] rfl (t_M_nextToken_B188 d  _ _ h)
set_option maxRecDepth 20000 in
theorem t_M_nextToken_L109 (d : Nat) : ∀ (n : Nat)  (μ : am_M) q, M_nextToken_L109 n  μ = some q → am_run none (am_ar g_mt (d + 1)) 2 none k_M_nextToken 109 [(0, (2, 1000))] [] μ (am_res 2 q) := by
  intro n
  induction n with
  | zero => intro  μ q h; cases h
  | succ n ih => intro  μ q h; exact t_M_nextToken_L109_b d (M_nextToken_L109 n) ih  μ q h
set_option maxRecDepth 20000 in
theorem t_M_nextToken_B286 (d : Nat) (k224 : am_M → am_O) (hk224 : ∀  (μ : am_M) q, k224  μ = some q → am_run none (am_ar g_mt (d + 1)) 2 none k_M_nextToken 224 [(0, (2, 1000))] [] μ (am_res 2 q)) : ∀  (μ : am_M) q, M_nextToken_B286 k224  μ = some q → am_run none (am_ar g_mt (d + 1)) 2 none k_M_nextToken 286 [(0, (2, 1000))] [] μ (am_res 2 q) := by
  intro  μ q h
  unfold M_nextToken_B286 at h
  refine rn_sls 5 (pc' := 293) (ls' := [(0, (2, 1000))]) (st' := [(0, (w32 ((μ 1000 4) + 1))), (2, 1000)]) rfl ?_
  refine rn_put rfl rfl rfl rfl (Or.inl ⟨rfl, rfl⟩) rfl h (fun μ1 h => ?_)
  refine rn_goto (t := 224) rfl rfl rfl ?_
  exact rn_sub [0] rfl (hk224 _ _ h)
set_option maxRecDepth 20000 in
theorem t_M_nextToken_B318 (d : Nat) : ∀ (s1 : Int) (μ : am_M) q, M_nextToken_B318 s1 μ = some q → am_run none (am_ar g_mt (d + 1)) 2 none k_M_nextToken 318 [] [(0, s1), (2, 1000)] μ (am_res 2 q) := by
  intro s1 μ q h
  unfold M_nextToken_B318 at h
  refine rn_put rfl rfl rfl rfl (Or.inl ⟨rfl, rfl⟩) rfl h (fun μ1 h => ?_)
  exact rn_ret (v := 0) rfl rfl rfl h rfl
set_option maxRecDepth 20000 in
theorem t_M_nextToken_B299 (d : Nat) : ∀  (μ : am_M) q, M_nextToken_B299  μ = some q → am_run none (am_ar g_mt (d + 1)) 2 none k_M_nextToken 299 [(0, (2, 1000))] [] μ (am_res 2 q) := by
  intro  μ q h
  unfold M_nextToken_B299 at h
  refine rn_sls 7 (pc' := 310) (ls' := [(0, (2, 1000))]) (st' := [(0, 4), (0, (w32 ((μ 1000 4) - (μ 1000 5)))), (2, 1000)]) rfl ?_
  refine rn_icmp (t := 317) rfl rfl rfl rfl h (fun h => ?_) (fun h => ?_)
  · refine rn_sls 1 (pc' := 318) (ls' := [(0, (2, 1000))]) (st' := [(0, 2), (2, 1000)]) rfl ?_
    exact rn_sub [] rfl (t_M_nextToken_B318 d  _ _ _ h)
  · refine rn_sls 1 (pc' := 314) (ls' := [(0, (2, 1000))]) (st' := [(0, 4), (2, 1000)]) rfl ?_
    refine rn_goto (t := 318) rfl rfl rfl ?_
    exact rn_sub [] rfl (t_M_nextToken_B318 d  _ _ _ h)
set_option maxRecDepth 20000 in
theorem t_M_nextToken_L224_b (d : Nat) (k224 : am_M → am_O) (hk224 : ∀  (μ : am_M) q, k224  μ = some q → am_run none (am_ar g_mt (d + 1)) 2 none k_M_nextToken 224 [(0, (2, 1000))] [] μ (am_res 2 q)) : ∀  (μ : am_M) q, M_nextToken_L224_b k224  μ = some q → am_run none (am_ar g_mt (d + 1)) 2 none k_M_nextToken 224 [(0, (2, 1000))] [] μ (am_res 2 q) := by
  intro  μ q h
  unfold M_nextToken_L224_b at h
  refine rn_sls 3 (pc' := 229) (ls' := [(0, (2, 1000))]) (st' := [(0, (μ 1000 4)), (2, 1000)]) rfl ?_
  refine rn_call 0 0 [(2, 1000), (0, (μ 1000 4))] (r := []) rfl ⟨rfl, Or.inl ⟨_, rfl, by decide⟩⟩ (by decide) (fun _ => ⟨_, rfl, rfl⟩) rfl rfl (Nat.le_of_ble_eq_true rfl) h (fun w hw => t_M_signAt (d + 0) _ _ _ hw) (fun a1 μ2 h => ?_)
  refine rn_sls 0 (pc' := 232) (ls' := [(0, (2, 1000))]) (st' := [(0, a1)]) rfl ?_
  refine rn_sls 1 (pc' := 234) (ls' := [(0, (2, 1000))]) (st' := [(0, 48), (0, a1)]) rfl ?_
  refine rn_icmp (t := 299) rfl rfl rfl rfl h (fun h => ?_) (fun h => ?_)
  · exact rn_sub [0] rfl (t_M_nextToken_B299 d  _ _ h)
  · refine rn_sls 3 (pc' := 242) (ls' := [(0, (2, 1000))]) (st' := [(0, (μ2 1000 4)), (2, 1000)]) rfl ?_
    refine rn_call 0 0 [(2, 1000), (0, (μ2 1000 4))] (r := []) rfl ⟨rfl, Or.inl ⟨_, rfl, by decide⟩⟩ (by decide) (fun _ => ⟨_, rfl, rfl⟩) rfl rfl (Nat.le_of_ble_eq_true rfl) h (fun w hw => t_M_signAt (d + 0) _ _ _ hw) (fun a3 μ4 h => ?_)
    refine rn_sls 0 (pc' := 245) (ls' := [(0, (2, 1000))]) (st' := [(0, a3)]) rfl ?_
    refine rn_sls 1 (pc' := 247) (ls' := [(0, (2, 1000))]) (st' := [(0, 57), (0, a3)]) rfl ?_
    refine rn_icmpn (t := 299) rfl rfl rfl rfl h (fun h => ?_) (fun h => ?_)
    · refine rn_sls 6 (pc' := 260) (ls' := [(0, (2, 1000))]) (st' := [(0, 4), (0, (w32 ((μ4 1000 4) - (μ4 1000 5))))]) rfl ?_
      refine rn_icmpn (t := 286) rfl rfl rfl rfl h (fun h => ?_) (fun h => ?_)
      · refine rn_sls 8 (pc' := 276) (ls' := [(0, (2, 1000))]) (st' := [(0, (μ4 1000 4)), (2, 1000), (0, (w32 ((μ4 1000 8) * 10))), (2, 1000)]) rfl ?_
        refine rn_call 0 0 [(2, 1000), (0, (μ4 1000 4))] (r := [(0, (w32 ((μ4 1000 8) * 10))), (2, 1000)]) rfl ⟨rfl, Or.inl ⟨_, rfl, by decide⟩⟩ (by decide) (fun _ => ⟨_, rfl, rfl⟩) rfl rfl (Nat.le_of_ble_eq_true rfl) h (fun w hw => t_M_signAt (d + 0) _ _ _ hw) (fun a5 μ6 h => ?_)
        refine rn_sls 0 (pc' := 279) (ls' := [(0, (2, 1000))]) (st' := [(0, a5), (0, (w32 ((μ4 1000 8) * 10))), (2, 1000)]) rfl ?_
        refine rn_sls 3 (pc' := 283) (ls' := [(0, (2, 1000))]) (st' := [(0, (w32 ((w32 ((w32 ((μ4 1000 8) * 10)) + a5)) - 48))), (2, 1000)]) rfl ?_
        refine rn_put rfl rfl rfl rfl (Or.inl ⟨rfl, rfl⟩) rfl h (fun μ7 h => ?_)
        exact rn_sub [0] rfl (t_M_nextToken_B286 d k224 hk224 _ _ h)
      · exact rn_sub [0] rfl (t_M_nextToken_B286 d k224 hk224 _ _ h)
    · exact rn_sub [0] rfl (t_M_nextToken_B299 d  _ _ h)
set_option maxRecDepth 20000 in
theorem t_M_nextToken_L224 (d : Nat) : ∀ (n : Nat)  (μ : am_M) q, M_nextToken_L224 n  μ = some q → am_run none (am_ar g_mt (d + 1)) 2 none k_M_nextToken 224 [(0, (2, 1000))] [] μ (am_res 2 q) := by
  intro n
  induction n with
  | zero => intro  μ q h; cases h
  | succ n ih => intro  μ q h; exact t_M_nextToken_L224_b d (M_nextToken_L224 n) ih  μ q h
set_option maxRecDepth 20000 in
theorem t_M_nextToken_B368 (d : Nat) : ∀ (s1 : Int) (μ : am_M) q, M_nextToken_B368 s1 μ = some q → am_run none (am_ar g_mt (d + 1)) 2 none k_M_nextToken 368 [] [(0, s1), (2, 1000)] μ (am_res 2 q) := by
  intro s1 μ q h
  unfold M_nextToken_B368 at h
  refine rn_put rfl rfl rfl rfl (Or.inl ⟨rfl, rfl⟩) rfl h (fun μ1 h => ?_)
  exact rn_ret (v := 0) rfl rfl rfl h rfl
set_option maxRecDepth 20000 in
theorem t_M_nextToken_B363 (d : Nat) : ∀  (μ : am_M) q, M_nextToken_B363  μ = some q → am_run none (am_ar g_mt (d + 1)) 2 none k_M_nextToken 363 [] [(2, 1000)] μ (am_res 2 q) := by
  intro  μ q h
  unfold M_nextToken_B363 at h
  refine rn_sls 1 (pc' := 364) (ls' := []) (st' := [(0, 3), (2, 1000)]) rfl ?_
  refine rn_goto (t := 368) rfl rfl rfl ?_
  exact rn_sub [] rfl (t_M_nextToken_B368 d  _ _ _ h)
set_option maxRecDepth 20000 in
theorem t_M_nextToken_B367 (d : Nat) : ∀  (μ : am_M) q, M_nextToken_B367  μ = some q → am_run none (am_ar g_mt (d + 1)) 2 none k_M_nextToken 367 [] [(2, 1000)] μ (am_res 2 q) := by
  intro  μ q h
  unfold M_nextToken_B367 at h
  refine rn_sls 1 (pc' := 368) (ls' := []) (st' := [(0, 4), (2, 1000)]) rfl ?_
  exact rn_sub [] rfl (t_M_nextToken_B368 d  _ _ _ h)
set_option maxRecDepth 20000 in
theorem t_M_nextToken_B345 (d : Nat) : ∀ (v1 : Int) (μ : am_M) q, M_nextToken_B345 v1 μ = some q → am_run none (am_ar g_mt (d + 1)) 2 none k_M_nextToken 345 [(1, (0, v1))] [(2, 1000)] μ (am_res 2 q) := by
  intro v1 μ q h
  unfold M_nextToken_B345 at h
  refine rn_sls 2 (pc' := 348) (ls' := [(1, (0, v1))]) (st' := [(0, 45), (0, v1), (2, 1000)]) rfl ?_
  refine rn_icmp (t := 363) rfl rfl rfl rfl h (fun h => ?_) (fun h => ?_)
  · exact rn_sub [] rfl (t_M_nextToken_B363 d  _ _ h)
  · refine rn_sls 2 (pc' := 354) (ls' := [(1, (0, v1))]) (st' := [(0, 59), (0, v1), (2, 1000)]) rfl ?_
    refine rn_icmp (t := 367) rfl rfl rfl rfl h (fun h => ?_) (fun h => ?_)
    · exact rn_sub [] rfl (t_M_nextToken_B367 d  _ _ h)
    · refine rn_sls 2 (pc' := 360) (ls' := [(1, (0, v1))]) (st' := [(0, 61), (0, v1), (2, 1000)]) rfl ?_
      refine rn_icmpn (t := 367) rfl rfl rfl rfl h (fun h => ?_) (fun h => ?_)
      · exact rn_sub [] rfl (t_M_nextToken_B363 d  _ _ h)
      · exact rn_sub [] rfl (t_M_nextToken_B367 d  _ _ h)
set_option maxRecDepth 20000 in
theorem t_M_nextToken_B322 (d : Nat) : ∀ (v1 : Int) (μ : am_M) q, M_nextToken_B322 v1 μ = some q → am_run none (am_ar g_mt (d + 1)) 2 none k_M_nextToken 322 [(0, (2, 1000)), (1, (0, v1))] [] μ (am_res 2 q) := by
  intro v1 μ q h
  unfold M_nextToken_B322 at h
  refine rn_sls 5 (pc' := 329) (ls' := [(0, (2, 1000)), (1, (0, v1))]) (st' := [(0, (w32 ((μ 1000 4) + 1))), (2, 1000)]) rfl ?_
  refine rn_put rfl rfl rfl rfl (Or.inl ⟨rfl, rfl⟩) rfl h (fun μ1 h => ?_)
  refine rn_sls 3 (pc' := 336) (ls' := [(0, (2, 1000)), (1, (0, v1))]) (st' := [(0, 40), (0, v1), (2, 1000)]) rfl ?_
  refine rn_icmp (t := 345) rfl rfl rfl rfl h (fun h => ?_) (fun h => ?_)
  · exact rn_sub [1] rfl (t_M_nextToken_B345 d  _ _ _ h)
  · refine rn_sls 2 (pc' := 342) (ls' := [(0, (2, 1000)), (1, (0, v1))]) (st' := [(0, 43), (0, v1), (2, 1000)]) rfl ?_
    refine rn_icmp (t := 363) rfl rfl rfl rfl h (fun h => ?_) (fun h => ?_)
    · exact rn_sub [] rfl (t_M_nextToken_B363 d  _ _ h)
    · exact rn_sub [1] rfl (t_M_nextToken_B345 d  _ _ _ h)
set_option maxRecDepth 20000 in
theorem t_M_nextToken_B212 (d : Nat) : ∀ (v1 : Int) (μ : am_M) q, M_nextToken_B212 v1 μ = some q → am_run none (am_ar g_mt (d + 1)) 2 none k_M_nextToken 212 [(0, (2, 1000)), (1, (0, v1))] [] μ (am_res 2 q) := by
  intro v1 μ q h
  unfold M_nextToken_B212 at h
  refine rn_sls 2 (pc' := 215) (ls' := [(0, (2, 1000)), (1, (0, v1))]) (st' := [(0, 48), (0, v1)]) rfl ?_
  refine rn_icmp (t := 322) rfl rfl rfl rfl h (fun h => ?_) (fun h => ?_)
  · exact rn_sub [0, 1] rfl (t_M_nextToken_B322 d  _ _ _ h)
  · refine rn_sls 2 (pc' := 221) (ls' := [(0, (2, 1000)), (1, (0, v1))]) (st' := [(0, 57), (0, v1)]) rfl ?_
    refine rn_icmpn (t := 322) rfl rfl rfl rfl h (fun h => ?_) (fun h => ?_)
    · exact rn_sub [0] rfl (t_M_nextToken_L224 d  am_FU _ _ h)
    · exact rn_sub [0, 1] rfl (t_M_nextToken_B322 d  _ _ _ h)
set_option maxRecDepth 20000 in
theorem t_M_nextToken_B52 (d : Nat) : ∀  (μ : am_M) q, M_nextToken_B52  μ = some q → am_run none (am_ar g_mt (d + 1)) 2 none k_M_nextToken 52 [(0, (2, 1000))] [] μ (am_res 2 q) := by
  intro  μ q h
  unfold M_nextToken_B52 at h
  refine rn_sls 3 (pc' := 57) (ls' := [(0, (2, 1000))]) (st' := [(0, (μ 1000 4)), (2, 1000)]) rfl ?_
  refine rn_put rfl rfl rfl rfl (Or.inl ⟨rfl, rfl⟩) rfl h (fun μ1 h => ?_)
  refine rn_sls 2 (pc' := 62) (ls' := [(0, (2, 1000))]) (st' := [(1, 0), (2, 1000)]) rfl ?_
  refine rn_put rfl rfl rfl rfl (Or.inr (Or.inl ⟨rfl, rfl⟩)) rfl h (fun μ2 h => ?_)
  refine rn_sls 2 (pc' := 67) (ls' := [(0, (2, 1000))]) (st' := [(0, 0), (2, 1000)]) rfl ?_
  refine rn_put rfl rfl rfl rfl (Or.inl ⟨rfl, rfl⟩) rfl h (fun μ3 h => ?_)
  refine rn_sls 4 (pc' := 78) (ls' := [(0, (2, 1000))]) (st' := [(0, (μ3 1000 3)), (0, (μ3 1000 4))]) rfl ?_
  refine rn_icmpn (t := 87) rfl rfl rfl rfl h (fun h => ?_) (fun h => ?_)
  · refine rn_sls 2 (pc' := 83) (ls' := [(0, (2, 1000))]) (st' := [(0, 0), (2, 1000)]) rfl ?_
    refine rn_put rfl rfl rfl rfl (Or.inl ⟨rfl, rfl⟩) rfl h (fun μ5 h => ?_)
    exact rn_ret (v := 0) rfl rfl rfl h rfl
  · refine rn_sls 4 (pc' := 95) (ls' := [(0, (2, 1000))]) (st' := [(0, (μ3 1000 4)), (2, 1001)]) rfl ?_
    refine rn_iald (n := 1000) rfl rfl rfl h (fun a4 h => ?_)
    refine rn_sls 3 (pc' := 100) (ls' := [(1, (0, a4)), (0, (2, 1000))]) (st' := [(0, 97), (0, a4)]) rfl ?_
    refine rn_icmp (t := 212) rfl rfl rfl rfl h (fun h => ?_) (fun h => ?_)
    · exact rn_sub [1, 0] rfl (t_M_nextToken_B212 d  _ _ _ h)
    · refine rn_sls 2 (pc' := 106) (ls' := [(1, (0, a4)), (0, (2, 1000))]) (st' := [(0, 122), (0, a4)]) rfl ?_
      refine rn_icmpn (t := 212) rfl rfl rfl rfl h (fun h => ?_) (fun h => ?_)
      · exact rn_sub [1] rfl (t_M_nextToken_L109 d  am_FU _ _ h)
      · exact rn_sub [1, 0] rfl (t_M_nextToken_B212 d  _ _ _ h)
set_option maxRecDepth 20000 in
theorem t_M_nextToken_L0_b (d : Nat) (k0 : am_M → am_O) (hk0 : ∀  (μ : am_M) q, k0  μ = some q → am_run none (am_ar g_mt (d + 1)) 2 none k_M_nextToken 0 [(0, (2, 1000))] [] μ (am_res 2 q)) : ∀  (μ : am_M) q, M_nextToken_L0_b k0  μ = some q → am_run none (am_ar g_mt (d + 1)) 2 none k_M_nextToken 0 [(0, (2, 1000))] [] μ (am_res 2 q) := by
  intro  μ q h
  unfold M_nextToken_L0_b at h
  refine rn_sls 4 (pc' := 8) (ls' := [(0, (2, 1000))]) (st' := [(0, (μ 1000 3)), (0, (μ 1000 4))]) rfl ?_
  refine rn_icmpn (t := 52) rfl rfl rfl rfl h (fun h => ?_) (fun h => ?_)
  · refine rn_sls 4 (pc' := 19) (ls' := [(0, (2, 1000))]) (st' := [(0, (μ 1000 4)), (2, 1001)]) rfl ?_
    refine rn_iald (n := 1000) rfl rfl rfl h (fun a1 h => ?_)
    refine rn_sls 1 (pc' := 22) (ls' := [(0, (2, 1000))]) (st' := [(0, 32), (0, a1)]) rfl ?_
    refine rn_icmp (t := 39) rfl rfl rfl rfl h (fun h => ?_) (fun h => ?_)
    · exact rn_sub [0] rfl (t_M_nextToken_B39 d k0 hk0 _ _ h)
    · refine rn_sls 4 (pc' := 33) (ls' := [(0, (2, 1000))]) (st' := [(0, (μ 1000 4)), (2, 1001)]) rfl ?_
      refine rn_iald (n := 1000) rfl rfl rfl h (fun a2 h => ?_)
      refine rn_sls 1 (pc' := 36) (ls' := [(0, (2, 1000))]) (st' := [(0, 10), (0, a2)]) rfl ?_
      refine rn_icmpn (t := 52) rfl rfl rfl rfl h (fun h => ?_) (fun h => ?_)
      · exact rn_sub [0] rfl (t_M_nextToken_B39 d k0 hk0 _ _ h)
      · exact rn_sub [0] rfl (t_M_nextToken_B52 d  _ _ h)
  · exact rn_sub [0] rfl (t_M_nextToken_B52 d  _ _ h)
set_option maxRecDepth 20000 in
theorem t_M_nextToken_L0 (d : Nat) : ∀ (n : Nat)  (μ : am_M) q, M_nextToken_L0 n  μ = some q → am_run none (am_ar g_mt (d + 1)) 2 none k_M_nextToken 0 [(0, (2, 1000))] [] μ (am_res 2 q) := by
  intro n
  induction n with
  | zero => intro  μ q h; cases h
  | succ n ih => intro  μ q h; exact t_M_nextToken_L0_b d (M_nextToken_L0 n) ih  μ q h
set_option maxRecDepth 20000 in
theorem t_M_nextToken (d : Nat) : ∀  (μ : am_M) q, M_nextToken  μ = some q → am_ar g_mt (d + 2) 147 [(2, 1000)] μ (am_res 2 q) := by
  intro  μ q h
  unfold M_nextToken at h
  refine am_ar_of (d := d + 1) i_M_nextToken rfl rfl (Nat.le_of_ble_eq_true rfl) ?_
  show am_run none (am_ar g_mt (d + 1)) 2 none k_M_nextToken 0 [(0, (2, 1000))] [] μ (am_res 2 q)
  exact rn_sub [0] rfl (t_M_nextToken_L0 d am_FU _ _ h)
set_option maxRecDepth 20000 in
theorem t_M_isWord (d : Nat) : ∀ (v1 : Int) (μ : am_M) q, M_isWord v1 μ = some q → am_ar g_mt (d + 1) 148 [(2, 1000), (1, v1)] μ (am_res 0 q) := by
  intro v1 μ q h
  unfold M_isWord at h
  refine am_ar_of (d := d + 0) i_M_isWord rfl rfl (Nat.le_of_ble_eq_true rfl) ?_
  show am_run none (am_ar g_mt (d + 0)) 3 (some .boolean) k_M_isWord 0 [(0, (2, 1000)), (1, (1, v1))] [] μ (am_res 0 q)
  refine rn_sls 3 (pc' := 5) (ls' := [(0, (2, 1000)), (1, (1, v1))]) (st' := [(0, 1), (0, (μ 1000 6))]) rfl ?_
  refine rn_icmpn (t := 21) rfl rfl rfl rfl h (fun h => ?_) (fun h => ?_)
  · refine rn_sls 4 (pc' := 14) (ls' := [(0, (2, 1000)), (1, (1, v1))]) (st' := [(0, (lCmp (μ 1000 7) v1))]) rfl ?_
    refine rn_ifn (t := 21) rfl rfl rfl rfl h (fun h => ?_) (fun h => ?_)
    · refine rn_sls 1 (pc' := 18) (ls' := [(0, (2, 1000)), (1, (1, v1))]) (st' := [(0, 1)]) rfl ?_
      refine rn_goto (t := 22) rfl rfl rfl ?_
      exact rn_iretb rfl rfl rfl (Or.inr rfl) h rfl
    · refine rn_sls 1 (pc' := 22) (ls' := [(0, (2, 1000)), (1, (1, v1))]) (st' := [(0, 0)]) rfl ?_
      exact rn_iretb rfl rfl rfl (Or.inl rfl) h rfl
  · refine rn_sls 1 (pc' := 22) (ls' := [(0, (2, 1000)), (1, (1, v1))]) (st' := [(0, 0)]) rfl ?_
    exact rn_iretb rfl rfl rfl (Or.inl rfl) h rfl
set_option maxRecDepth 20000 in
theorem t_M_isSign (d : Nat) : ∀ (v1 : Int) (μ : am_M) q, M_isSign v1 μ = some q → am_ar g_mt (d + 1) 149 [(2, 1000), (0, v1)] μ (am_res 0 q) := by
  intro v1 μ q h
  unfold M_isSign at h
  refine am_ar_of (d := d + 0) i_M_isSign rfl rfl (Nat.le_of_ble_eq_true rfl) ?_
  show am_run none (am_ar g_mt (d + 0)) 2 (some .boolean) k_M_isSign 0 [(0, (2, 1000)), (1, (0, v1))] [] μ (am_res 0 q)
  refine rn_sls 3 (pc' := 5) (ls' := [(0, (2, 1000)), (1, (0, v1))]) (st' := [(0, 3), (0, (μ 1000 6))]) rfl ?_
  refine rn_icmpn (t := 25) rfl rfl rfl rfl h (fun h => ?_) (fun h => ?_)
  · refine rn_sls 4 (pc' := 16) (ls' := [(0, (2, 1000)), (1, (0, v1))]) (st' := [(0, (μ 1000 5)), (2, 1001)]) rfl ?_
    refine rn_iald (n := 1000) rfl rfl rfl h (fun a1 h => ?_)
    refine rn_sls 1 (pc' := 18) (ls' := [(0, (2, 1000)), (1, (0, v1))]) (st' := [(0, v1), (0, a1)]) rfl ?_
    refine rn_icmpn (t := 25) rfl rfl rfl rfl h (fun h => ?_) (fun h => ?_)
    · refine rn_sls 1 (pc' := 22) (ls' := [(0, (2, 1000)), (1, (0, v1))]) (st' := [(0, 1)]) rfl ?_
      refine rn_goto (t := 26) rfl rfl rfl ?_
      exact rn_iretb rfl rfl rfl (Or.inr rfl) h rfl
    · refine rn_sls 1 (pc' := 26) (ls' := [(0, (2, 1000)), (1, (0, v1))]) (st' := [(0, 0)]) rfl ?_
      exact rn_iretb rfl rfl rfl (Or.inl rfl) h rfl
  · refine rn_sls 1 (pc' := 26) (ls' := [(0, (2, 1000)), (1, (0, v1))]) (st' := [(0, 0)]) rfl ?_
    exact rn_iretb rfl rfl rfl (Or.inl rfl) h rfl
set_option maxRecDepth 20000 in
theorem t_M_fails (d : Nat) : ∀ (v1 : Int) (μ : am_M) q, M_fails v1 μ = some q → am_ar g_mt (d + 1) 150 [(2, 1000), (0, v1)] μ (am_res 0 q) := by
  intro v1 μ q h
  unfold M_fails at h
  refine am_ar_of (d := d + 0) i_M_fails rfl rfl (Nat.le_of_ble_eq_true rfl) ?_
  show am_run none (am_ar g_mt (d + 0)) 2 (some .boolean) k_M_fails 0 [(0, (2, 1000)), (1, (0, v1))] [] μ (am_res 0 q)
  refine rn_sls 7 (pc' := 10) (ls' := [(0, (2, 1000)), (1, (0, v1))]) (st' := [(0, (w32 (v1 + (w32 (16 * (μ 1000 5)))))), (2, 1000)]) rfl ?_
  refine rn_put rfl rfl rfl rfl (Or.inl ⟨rfl, rfl⟩) rfl h (fun μ1 h => ?_)
  refine rn_sls 1 (pc' := 14) (ls' := [(0, (2, 1000)), (1, (0, v1))]) (st' := [(0, 0)]) rfl ?_
  exact rn_iretb rfl rfl rfl (Or.inl rfl) h rfl
set_option maxRecDepth 20000 in
theorem t_M_puts (d : Nat) : ∀ (v1 : Int) (μ : am_M) q, M_puts v1 μ = some q → am_ar g_mt (d + 1) 151 [(2, 1000), (0, v1)] μ (am_res 2 q) := by
  intro v1 μ q h
  unfold M_puts at h
  refine am_ar_of (d := d + 0) i_M_puts rfl rfl (Nat.le_of_ble_eq_true rfl) ?_
  show am_run none (am_ar g_mt (d + 0)) 2 none k_M_puts 0 [(0, (2, 1000)), (1, (0, v1))] [] μ (am_res 2 q)
  refine rn_sls 5 (pc' := 9) (ls' := [(0, (2, 1000)), (1, (0, v1))]) (st' := [(0, v1), (0, (μ 1000 30)), (2, 1012)]) rfl ?_
  refine rn_iast (n := 2000) rfl rfl rfl h (fun μ1 h => ?_)
  refine rn_sls 5 (pc' := 17) (ls' := [(0, (2, 1000)), (1, (0, v1))]) (st' := [(0, (w32 ((μ1 1000 30) + 1))), (2, 1000)]) rfl ?_
  refine rn_put rfl rfl rfl rfl (Or.inl ⟨rfl, rfl⟩) rfl h (fun μ2 h => ?_)
  exact rn_ret (v := 0) rfl rfl rfl h rfl
set_option maxRecDepth 20000 in
theorem t_M_isKept (d : Nat) : ∀  (μ : am_M) q, M_isKept  μ = some q → am_ar g_mt (d + 1) 152 [(2, 1000)] μ (am_res 0 q) := by
  intro  μ q h
  unfold M_isKept at h
  refine am_ar_of (d := d + 0) i_M_isKept rfl rfl (Nat.le_of_ble_eq_true rfl) ?_
  show am_run none (am_ar g_mt (d + 0)) 1 (some .boolean) k_M_isKept 0 [(0, (2, 1000))] [] μ (am_res 0 q)
  refine rn_sls 3 (pc' := 5) (ls' := [(0, (2, 1000))]) (st' := [(0, 1), (0, (μ 1000 6))]) rfl ?_
  refine rn_icmp (t := 10) rfl rfl rfl rfl h (fun h => ?_) (fun h => ?_)
  · refine rn_sls 4 (pc' := 18) (ls' := [(0, (2, 1000))]) (st' := [(0, (lCmp (μ 1000 7) 453774))]) rfl ?_
    refine rn_if (t := 197) rfl rfl rfl rfl h (fun h => ?_) (fun h => ?_)
    · refine rn_sls 1 (pc' := 198) (ls' := [(0, (2, 1000))]) (st' := [(0, 1)]) rfl ?_
      refine rn_goto (t := 202) rfl rfl rfl ?_
      exact rn_iretb rfl rfl rfl (Or.inr rfl) h rfl
    · refine rn_sls 4 (pc' := 29) (ls' := [(0, (2, 1000))]) (st' := [(0, (lCmp (μ 1000 7) 46263))]) rfl ?_
      refine rn_if (t := 197) rfl rfl rfl rfl h (fun h => ?_) (fun h => ?_)
      · refine rn_sls 1 (pc' := 198) (ls' := [(0, (2, 1000))]) (st' := [(0, 1)]) rfl ?_
        refine rn_goto (t := 202) rfl rfl rfl ?_
        exact rn_iretb rfl rfl rfl (Or.inr rfl) h rfl
      · refine rn_sls 4 (pc' := 40) (ls' := [(0, (2, 1000))]) (st' := [(0, (lCmp (μ 1000 7) 394691))]) rfl ?_
        refine rn_if (t := 197) rfl rfl rfl rfl h (fun h => ?_) (fun h => ?_)
        · refine rn_sls 1 (pc' := 198) (ls' := [(0, (2, 1000))]) (st' := [(0, 1)]) rfl ?_
          refine rn_goto (t := 202) rfl rfl rfl ?_
          exact rn_iretb rfl rfl rfl (Or.inr rfl) h rfl
        · refine rn_sls 4 (pc' := 51) (ls' := [(0, (2, 1000))]) (st' := [(0, (lCmp (μ 1000 7) 305537))]) rfl ?_
          refine rn_if (t := 197) rfl rfl rfl rfl h (fun h => ?_) (fun h => ?_)
          · refine rn_sls 1 (pc' := 198) (ls' := [(0, (2, 1000))]) (st' := [(0, 1)]) rfl ?_
            refine rn_goto (t := 202) rfl rfl rfl ?_
            exact rn_iretb rfl rfl rfl (Or.inr rfl) h rfl
          · refine rn_sls 4 (pc' := 62) (ls' := [(0, (2, 1000))]) (st' := [(0, (lCmp (μ 1000 7) 267347))]) rfl ?_
            refine rn_if (t := 197) rfl rfl rfl rfl h (fun h => ?_) (fun h => ?_)
            · refine rn_sls 1 (pc' := 198) (ls' := [(0, (2, 1000))]) (st' := [(0, 1)]) rfl ?_
              refine rn_goto (t := 202) rfl rfl rfl ?_
              exact rn_iretb rfl rfl rfl (Or.inr rfl) h rfl
            · refine rn_sls 4 (pc' := 73) (ls' := [(0, (2, 1000))]) (st' := [(0, (lCmp (μ 1000 7) 144941))]) rfl ?_
              refine rn_if (t := 197) rfl rfl rfl rfl h (fun h => ?_) (fun h => ?_)
              · refine rn_sls 1 (pc' := 198) (ls' := [(0, (2, 1000))]) (st' := [(0, 1)]) rfl ?_
                refine rn_goto (t := 202) rfl rfl rfl ?_
                exact rn_iretb rfl rfl rfl (Or.inr rfl) h rfl
              · refine rn_sls 4 (pc' := 84) (ls' := [(0, (2, 1000))]) (st' := [(0, (lCmp (μ 1000 7) 8903))]) rfl ?_
                refine rn_if (t := 197) rfl rfl rfl rfl h (fun h => ?_) (fun h => ?_)
                · refine rn_sls 1 (pc' := 198) (ls' := [(0, (2, 1000))]) (st' := [(0, 1)]) rfl ?_
                  refine rn_goto (t := 202) rfl rfl rfl ?_
                  exact rn_iretb rfl rfl rfl (Or.inr rfl) h rfl
                · refine rn_sls 4 (pc' := 95) (ls' := [(0, (2, 1000))]) (st' := [(0, (lCmp (μ 1000 7) 410684))]) rfl ?_
                  refine rn_if (t := 197) rfl rfl rfl rfl h (fun h => ?_) (fun h => ?_)
                  · refine rn_sls 1 (pc' := 198) (ls' := [(0, (2, 1000))]) (st' := [(0, 1)]) rfl ?_
                    refine rn_goto (t := 202) rfl rfl rfl ?_
                    exact rn_iretb rfl rfl rfl (Or.inr rfl) h rfl
                  · refine rn_sls 4 (pc' := 106) (ls' := [(0, (2, 1000))]) (st' := [(0, (lCmp (μ 1000 7) 46))]) rfl ?_
                    refine rn_if (t := 197) rfl rfl rfl rfl h (fun h => ?_) (fun h => ?_)
                    · refine rn_sls 1 (pc' := 198) (ls' := [(0, (2, 1000))]) (st' := [(0, 1)]) rfl ?_
                      refine rn_goto (t := 202) rfl rfl rfl ?_
                      exact rn_iretb rfl rfl rfl (Or.inr rfl) h rfl
                    · refine rn_sls 4 (pc' := 117) (ls' := [(0, (2, 1000))]) (st' := [(0, (lCmp (μ 1000 7) 55175))]) rfl ?_
                      refine rn_if (t := 197) rfl rfl rfl rfl h (fun h => ?_) (fun h => ?_)
                      · refine rn_sls 1 (pc' := 198) (ls' := [(0, (2, 1000))]) (st' := [(0, 1)]) rfl ?_
                        refine rn_goto (t := 202) rfl rfl rfl ?_
                        exact rn_iretb rfl rfl rfl (Or.inr rfl) h rfl
                      · refine rn_sls 4 (pc' := 128) (ls' := [(0, (2, 1000))]) (st' := [(0, (lCmp (μ 1000 7) 60114))]) rfl ?_
                        refine rn_if (t := 197) rfl rfl rfl rfl h (fun h => ?_) (fun h => ?_)
                        · refine rn_sls 1 (pc' := 198) (ls' := [(0, (2, 1000))]) (st' := [(0, 1)]) rfl ?_
                          refine rn_goto (t := 202) rfl rfl rfl ?_
                          exact rn_iretb rfl rfl rfl (Or.inr rfl) h rfl
                        · refine rn_sls 4 (pc' := 139) (ls' := [(0, (2, 1000))]) (st' := [(0, (lCmp (μ 1000 7) 249))]) rfl ?_
                          refine rn_if (t := 197) rfl rfl rfl rfl h (fun h => ?_) (fun h => ?_)
                          · refine rn_sls 1 (pc' := 198) (ls' := [(0, (2, 1000))]) (st' := [(0, 1)]) rfl ?_
                            refine rn_goto (t := 202) rfl rfl rfl ?_
                            exact rn_iretb rfl rfl rfl (Or.inr rfl) h rfl
                          · refine rn_sls 4 (pc' := 150) (ls' := [(0, (2, 1000))]) (st' := [(0, (lCmp (μ 1000 7) 107681))]) rfl ?_
                            refine rn_if (t := 197) rfl rfl rfl rfl h (fun h => ?_) (fun h => ?_)
                            · refine rn_sls 1 (pc' := 198) (ls' := [(0, (2, 1000))]) (st' := [(0, 1)]) rfl ?_
                              refine rn_goto (t := 202) rfl rfl rfl ?_
                              exact rn_iretb rfl rfl rfl (Or.inr rfl) h rfl
                            · refine rn_sls 4 (pc' := 161) (ls' := [(0, (2, 1000))]) (st' := [(0, (lCmp (μ 1000 7) 4027))]) rfl ?_
                              refine rn_if (t := 197) rfl rfl rfl rfl h (fun h => ?_) (fun h => ?_)
                              · refine rn_sls 1 (pc' := 198) (ls' := [(0, (2, 1000))]) (st' := [(0, 1)]) rfl ?_
                                refine rn_goto (t := 202) rfl rfl rfl ?_
                                exact rn_iretb rfl rfl rfl (Or.inr rfl) h rfl
                              · refine rn_sls 4 (pc' := 172) (ls' := [(0, (2, 1000))]) (st' := [(0, (lCmp (μ 1000 7) 10631))]) rfl ?_
                                refine rn_if (t := 197) rfl rfl rfl rfl h (fun h => ?_) (fun h => ?_)
                                · refine rn_sls 1 (pc' := 198) (ls' := [(0, (2, 1000))]) (st' := [(0, 1)]) rfl ?_
                                  refine rn_goto (t := 202) rfl rfl rfl ?_
                                  exact rn_iretb rfl rfl rfl (Or.inr rfl) h rfl
                                · refine rn_sls 4 (pc' := 183) (ls' := [(0, (2, 1000))]) (st' := [(0, (lCmp (μ 1000 7) 1111))]) rfl ?_
                                  refine rn_if (t := 197) rfl rfl rfl rfl h (fun h => ?_) (fun h => ?_)
                                  · refine rn_sls 1 (pc' := 198) (ls' := [(0, (2, 1000))]) (st' := [(0, 1)]) rfl ?_
                                    refine rn_goto (t := 202) rfl rfl rfl ?_
                                    exact rn_iretb rfl rfl rfl (Or.inr rfl) h rfl
                                  · refine rn_sls 4 (pc' := 194) (ls' := [(0, (2, 1000))]) (st' := [(0, (lCmp (μ 1000 7) 423))]) rfl ?_
                                    refine rn_ifn (t := 201) rfl rfl rfl rfl h (fun h => ?_) (fun h => ?_)
                                    · refine rn_sls 1 (pc' := 198) (ls' := [(0, (2, 1000))]) (st' := [(0, 1)]) rfl ?_
                                      refine rn_goto (t := 202) rfl rfl rfl ?_
                                      exact rn_iretb rfl rfl rfl (Or.inr rfl) h rfl
                                    · refine rn_sls 1 (pc' := 202) (ls' := [(0, (2, 1000))]) (st' := [(0, 0)]) rfl ?_
                                      exact rn_iretb rfl rfl rfl (Or.inl rfl) h rfl
  · refine rn_sls 1 (pc' := 9) (ls' := [(0, (2, 1000))]) (st' := [(0, 1)]) rfl ?_
    exact rn_iretb rfl rfl rfl (Or.inr rfl) h rfl
set_option maxRecDepth 20000 in
theorem t_M_wallOf_L2_b (d : Nat) (k2 : Int → am_M → am_O) (hk2 : ∀ (v1 : Int) (μ : am_M) q, k2 v1 μ = some q → am_run none (am_ar g_mt (d + 0)) 2 (some .int) k_M_wallOf 2 [(0, (2, 1000)), (1, (0, v1))] [] μ (am_res 0 q)) : ∀ (v1 : Int) (μ : am_M) q, M_wallOf_L2_b k2 v1 μ = some q → am_run none (am_ar g_mt (d + 0)) 2 (some .int) k_M_wallOf 2 [(0, (2, 1000)), (1, (0, v1))] [] μ (am_res 0 q) := by
  intro v1 μ q h
  unfold M_wallOf_L2_b at h
  refine rn_sls 4 (pc' := 8) (ls' := [(0, (2, 1000)), (1, (0, v1))]) (st' := [(0, 3), (2, 1013), (0, v1)]) rfl ?_
  refine rn_iald (n := 6) rfl rfl rfl h (fun a1 h => ?_)
  refine rn_icmpn (t := 34) rfl rfl rfl rfl h (fun h => ?_) (fun h => ?_)
  · refine rn_sls 3 (pc' := 17) (ls' := [(0, (2, 1000)), (1, (0, v1))]) (st' := [(0, v1), (2, 1014)]) rfl ?_
    refine rn_lald (n := 4) rfl rfl rfl h (fun a2 h => ?_)
    refine rn_sls 3 (pc' := 23) (ls' := [(0, (2, 1000)), (1, (0, v1))]) (st' := [(0, (lCmp a2 (μ 1000 7)))]) rfl ?_
    refine rn_ifn (t := 28) rfl rfl rfl rfl h (fun h => ?_) (fun h => ?_)
    · refine rn_sls 1 (pc' := 27) (ls' := [(0, (2, 1000)), (1, (0, v1))]) (st' := [(0, v1)]) rfl ?_
      exact rn_ireti rfl rfl rfl h rfl
    · refine rn_sls 1 (pc' := 31) (ls' := [(1, (0, (w32 (v1 + 1)))), (0, (2, 1000))]) (st' := []) rfl ?_
      refine rn_goto (t := 2) rfl rfl rfl ?_
      exact rn_sub [1, 0] rfl (hk2 _ _ _ h)
  · refine rn_sls 1 (pc' := 35) (ls' := [(0, (2, 1000)), (1, (0, v1))]) (st' := [(0, (-1))]) rfl ?_
    exact rn_ireti rfl rfl rfl h rfl
set_option maxRecDepth 20000 in
theorem t_M_wallOf_L2 (d : Nat) : ∀ (n : Nat) (v1 : Int) (μ : am_M) q, M_wallOf_L2 n v1 μ = some q → am_run none (am_ar g_mt (d + 0)) 2 (some .int) k_M_wallOf 2 [(0, (2, 1000)), (1, (0, v1))] [] μ (am_res 0 q) := by
  intro n
  induction n with
  | zero => intro v1 μ q h; cases h
  | succ n ih => intro v1 μ q h; exact t_M_wallOf_L2_b d (M_wallOf_L2 n) ih v1 μ q h
set_option maxRecDepth 20000 in
theorem t_M_wallOf (d : Nat) : ∀  (μ : am_M) q, M_wallOf  μ = some q → am_ar g_mt (d + 1) 153 [(2, 1000)] μ (am_res 0 q) := by
  intro  μ q h
  unfold M_wallOf at h
  refine am_ar_of (d := d + 0) i_M_wallOf rfl rfl (Nat.le_of_ble_eq_true rfl) ?_
  show am_run none (am_ar g_mt (d + 0)) 2 (some .int) k_M_wallOf 0 [(0, (2, 1000))] [] μ (am_res 0 q)
  refine rn_sls 2 (pc' := 2) (ls' := [(1, (0, 0)), (0, (2, 1000))]) (st' := []) rfl ?_
  exact rn_sub [1, 0] rfl (t_M_wallOf_L2 d  am_FU _ _ _ h)
set_option maxRecDepth 20000 in
theorem t_M_billOf_L2_b (d : Nat) (k2 : Int → am_M → am_O) (hk2 : ∀ (v1 : Int) (μ : am_M) q, k2 v1 μ = some q → am_run none (am_ar g_mt (d + 0)) 2 (some .int) k_M_billOf 2 [(0, (2, 1000)), (1, (0, v1))] [] μ (am_res 0 q)) : ∀ (v1 : Int) (μ : am_M) q, M_billOf_L2_b k2 v1 μ = some q → am_run none (am_ar g_mt (d + 0)) 2 (some .int) k_M_billOf 2 [(0, (2, 1000)), (1, (0, v1))] [] μ (am_res 0 q) := by
  intro v1 μ q h
  unfold M_billOf_L2_b at h
  refine rn_sls 4 (pc' := 8) (ls' := [(0, (2, 1000)), (1, (0, v1))]) (st' := [(0, 4), (2, 1013), (0, v1)]) rfl ?_
  refine rn_iald (n := 6) rfl rfl rfl h (fun a1 h => ?_)
  refine rn_icmpn (t := 34) rfl rfl rfl rfl h (fun h => ?_) (fun h => ?_)
  · refine rn_sls 3 (pc' := 17) (ls' := [(0, (2, 1000)), (1, (0, v1))]) (st' := [(0, v1), (2, 1016)]) rfl ?_
    refine rn_lald (n := 4) rfl rfl rfl h (fun a2 h => ?_)
    refine rn_sls 3 (pc' := 23) (ls' := [(0, (2, 1000)), (1, (0, v1))]) (st' := [(0, (lCmp a2 (μ 1000 7)))]) rfl ?_
    refine rn_ifn (t := 28) rfl rfl rfl rfl h (fun h => ?_) (fun h => ?_)
    · refine rn_sls 1 (pc' := 27) (ls' := [(0, (2, 1000)), (1, (0, v1))]) (st' := [(0, v1)]) rfl ?_
      exact rn_ireti rfl rfl rfl h rfl
    · refine rn_sls 1 (pc' := 31) (ls' := [(1, (0, (w32 (v1 + 1)))), (0, (2, 1000))]) (st' := []) rfl ?_
      refine rn_goto (t := 2) rfl rfl rfl ?_
      exact rn_sub [1, 0] rfl (hk2 _ _ _ h)
  · refine rn_sls 1 (pc' := 35) (ls' := [(0, (2, 1000)), (1, (0, v1))]) (st' := [(0, (-1))]) rfl ?_
    exact rn_ireti rfl rfl rfl h rfl
set_option maxRecDepth 20000 in
theorem t_M_billOf_L2 (d : Nat) : ∀ (n : Nat) (v1 : Int) (μ : am_M) q, M_billOf_L2 n v1 μ = some q → am_run none (am_ar g_mt (d + 0)) 2 (some .int) k_M_billOf 2 [(0, (2, 1000)), (1, (0, v1))] [] μ (am_res 0 q) := by
  intro n
  induction n with
  | zero => intro v1 μ q h; cases h
  | succ n ih => intro v1 μ q h; exact t_M_billOf_L2_b d (M_billOf_L2 n) ih v1 μ q h
set_option maxRecDepth 20000 in
theorem t_M_billOf (d : Nat) : ∀  (μ : am_M) q, M_billOf  μ = some q → am_ar g_mt (d + 1) 154 [(2, 1000)] μ (am_res 0 q) := by
  intro  μ q h
  unfold M_billOf at h
  refine am_ar_of (d := d + 0) i_M_billOf rfl rfl (Nat.le_of_ble_eq_true rfl) ?_
  show am_run none (am_ar g_mt (d + 0)) 2 (some .int) k_M_billOf 0 [(0, (2, 1000))] [] μ (am_res 0 q)
  refine rn_sls 2 (pc' := 2) (ls' := [(1, (0, 0)), (0, (2, 1000))]) (st' := []) rfl ?_
  exact rn_sub [1, 0] rfl (t_M_billOf_L2 d  am_FU _ _ _ h)
set_option maxRecDepth 20000 in
theorem t_M_slipOf_L11_b (d : Nat) (k11 : Int → Int → am_M → am_O) (hk11 : ∀ (v1 : Int) (v2 : Int) (μ : am_M) q, k11 v1 v2 μ = some q → am_run none (am_ar g_mt (d + 0)) 3 (some .int) k_M_slipOf 11 [(0, (2, 1000)), (1, (0, v1)), (2, (0, v2))] [] μ (am_res 0 q)) : ∀ (v1 : Int) (v2 : Int) (μ : am_M) q, M_slipOf_L11_b k11 v1 v2 μ = some q → am_run none (am_ar g_mt (d + 0)) 3 (some .int) k_M_slipOf 11 [(0, (2, 1000)), (1, (0, v1)), (2, (0, v2))] [] μ (am_res 0 q) := by
  intro v1 v2 μ q h
  unfold M_slipOf_L11_b at h
  refine rn_sls 4 (pc' := 17) (ls' := [(0, (2, 1000)), (1, (0, v1)), (2, (0, v2))]) (st' := [(0, v1), (2, 1020), (0, v2)]) rfl ?_
  refine rn_iald (n := 8) rfl rfl rfl h (fun a1 h => ?_)
  refine rn_icmpn (t := 43) rfl rfl rfl rfl h (fun h => ?_) (fun h => ?_)
  · refine rn_sls 3 (pc' := 26) (ls' := [(0, (2, 1000)), (1, (0, v1)), (2, (0, v2))]) (st' := [(0, v2), (2, 1021)]) rfl ?_
    refine rn_lald (n := 10) rfl rfl rfl h (fun a8 h => ?_)
    refine rn_sls 3 (pc' := 32) (ls' := [(0, (2, 1000)), (1, (0, v1)), (2, (0, v2))]) (st' := [(0, (lCmp a8 (μ 1000 7)))]) rfl ?_
    refine rn_ifn (t := 37) rfl rfl rfl rfl h (fun h => ?_) (fun h => ?_)
    · refine rn_sls 1 (pc' := 36) (ls' := [(0, (2, 1000)), (1, (0, v1)), (2, (0, v2))]) (st' := [(0, v2)]) rfl ?_
      exact rn_ireti rfl rfl rfl h rfl
    · refine rn_sls 1 (pc' := 40) (ls' := [(2, (0, (w32 (v2 + 1)))), (0, (2, 1000)), (1, (0, v1))]) (st' := []) rfl ?_
      refine rn_goto (t := 11) rfl rfl rfl ?_
      exact rn_sub [1, 2, 0] rfl (hk11 _ _ _ _ h)
  · refine rn_sls 3 (pc' := 48) (ls' := [(0, (2, 1000)), (1, (0, v1)), (2, (0, v2))]) (st' := [(0, v1), (2, 1020)]) rfl ?_
    refine rn_iald (n := 8) rfl rfl rfl h (fun a2 h => ?_)
    refine rn_sls 1 (pc' := 51) (ls' := [(0, (2, 1000)), (1, (0, v1)), (2, (0, v2))]) (st' := [(0, 10), (0, a2)]) rfl ?_
    refine rn_icmpn (t := 56) rfl rfl rfl rfl h (fun h => ?_) (fun h => ?_)
    · refine rn_sls 1 (pc' := 55) (ls' := [(0, (2, 1000)), (1, (0, v1)), (2, (0, v2))]) (st' := [(0, (-1))]) rfl ?_
      exact rn_ireti rfl rfl rfl h rfl
    · refine rn_sls 5 (pc' := 65) (ls' := [(0, (2, 1000)), (1, (0, v1)), (2, (0, v2))]) (st' := [(0, v1), (2, 1020), (2, 1021)]) rfl ?_
      refine rn_iald (n := 8) rfl rfl rfl h (fun a3 h => ?_)
      refine rn_sls 2 (pc' := 70) (ls' := [(0, (2, 1000)), (1, (0, v1)), (2, (0, v2))]) (st' := [(1, (μ 1000 7)), (0, a3), (2, 1021)]) rfl ?_
      refine rn_last (n := 10) rfl rfl rfl h (fun μ4 h => ?_)
      refine rn_sls 4 (pc' := 77) (ls' := [(0, (2, 1000)), (1, (0, v1)), (2, (0, v2))]) (st' := [(0, v1), (2, 1020), (0, v1), (2, 1020)]) rfl ?_
      refine rn_iald (n := 8) rfl rfl rfl h (fun a5 h => ?_)
      refine rn_sls 2 (pc' := 80) (ls' := [(0, (2, 1000)), (1, (0, v1)), (2, (0, v2))]) (st' := [(0, (w32 (a5 + 1))), (0, v1), (2, 1020)]) rfl ?_
      refine rn_iast (n := 8) rfl rfl rfl h (fun μ6 h => ?_)
      refine rn_sls 3 (pc' := 86) (ls' := [(0, (2, 1000)), (1, (0, v1)), (2, (0, v2))]) (st' := [(0, v1), (2, 1020)]) rfl ?_
      refine rn_iald (n := 8) rfl rfl rfl h (fun a7 h => ?_)
      refine rn_sls 2 (pc' := 89) (ls' := [(0, (2, 1000)), (1, (0, v1)), (2, (0, v2))]) (st' := [(0, (w32 (a7 - 1)))]) rfl ?_
      exact rn_ireti rfl rfl rfl h rfl
set_option maxRecDepth 20000 in
theorem t_M_slipOf_L11 (d : Nat) : ∀ (n : Nat) (v1 : Int) (v2 : Int) (μ : am_M) q, M_slipOf_L11 n v1 v2 μ = some q → am_run none (am_ar g_mt (d + 0)) 3 (some .int) k_M_slipOf 11 [(0, (2, 1000)), (1, (0, v1)), (2, (0, v2))] [] μ (am_res 0 q) := by
  intro n
  induction n with
  | zero => intro v1 v2 μ q h; cases h
  | succ n ih => intro v1 v2 μ q h; exact t_M_slipOf_L11_b d (M_slipOf_L11 n) ih v1 v2 μ q h
set_option maxRecDepth 20000 in
theorem t_M_slipOf (d : Nat) : ∀  (μ : am_M) q, M_slipOf  μ = some q → am_ar g_mt (d + 1) 155 [(2, 1000)] μ (am_res 0 q) := by
  intro  μ q h
  unfold M_slipOf at h
  refine am_ar_of (d := d + 0) i_M_slipOf rfl rfl (Nat.le_of_ble_eq_true rfl) ?_
  show am_run none (am_ar g_mt (d + 0)) 3 (some .int) k_M_slipOf 0 [(0, (2, 1000))] [] μ (am_res 0 q)
  refine rn_sls 4 (pc' := 6) (ls' := [(0, (2, 1000))]) (st' := [(0, 4), (2, 1013), (0, 3)]) rfl ?_
  refine rn_iald (n := 6) rfl rfl rfl h (fun a1 h => ?_)
  refine rn_sls 4 (pc' := 11) (ls' := [(2, (0, 0)), (1, (0, (w32 (3 + a1)))), (0, (2, 1000))]) (st' := []) rfl ?_
  exact rn_sub [2, 1, 0] rfl (t_M_slipOf_L11 d  am_FU _ _ _ _ h)
