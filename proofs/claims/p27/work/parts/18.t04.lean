/-! The code does what the functions say. Printed by program. -/
set_option maxRecDepth 20000 in
theorem t_Wy_walkAll_B121 (d : Nat) (k18 : Int → Int → Int → am_M → am_O) (hk18 : ∀ (v3 : Int) (v4 : Int) (v5 : Int) (μ : am_M) q, k18 v3 v4 v5 μ = some q → am_run none (am_ar g_mt (d + 4)) 7 none k_Wy_walkAll 18 [(0, (2, 50)), (3, (2, v3)), (4, (0, v4)), (5, (0, v5))] [] μ (am_res 2 q)) : ∀ (v3 : Int) (v4 : Int) (v5 : Int) (μ : am_M) q, Wy_walkAll_B121 k18 v3 v4 v5 μ = some q → am_run none (am_ar g_mt (d + 4)) 7 none k_Wy_walkAll 121 [(0, (2, 50)), (3, (2, v3)), (4, (0, v4)), (5, (0, v5))] [] μ (am_res 2 q) := by
  intro v3 v4 v5 μ q h
  unfold Wy_walkAll_B121 at h
  refine rn_sls 1 (pc' := 124) (ls' := [(5, (0, (w32 (v5 + 1)))), (0, (2, 50)), (3, (2, v3)), (4, (0, v4))]) (st' := []) rfl ?_
  refine rn_goto (t := 18) rfl rfl rfl ?_
  exact rn_sub [1, 2, 3, 0] rfl (hk18 _ _ _ _ _ h)
set_option maxRecDepth 20000 in
theorem t_Wy_walkAll_B119 (d : Nat) (k18 : Int → Int → Int → am_M → am_O) (hk18 : ∀ (v3 : Int) (v4 : Int) (v5 : Int) (μ : am_M) q, k18 v3 v4 v5 μ = some q → am_run none (am_ar g_mt (d + 4)) 7 none k_Wy_walkAll 18 [(0, (2, 50)), (3, (2, v3)), (4, (0, v4)), (5, (0, v5))] [] μ (am_res 2 q)) : ∀ (v3 : Int) (v5 : Int) (s0 : Int) (μ : am_M) q, Wy_walkAll_B119 k18 v3 v5 s0 μ = some q → am_run none (am_ar g_mt (d + 4)) 7 none k_Wy_walkAll 119 [(0, (2, 50)), (3, (2, v3)), (5, (0, v5))] [(0, s0)] μ (am_res 2 q) := by
  intro v3 v5 s0 μ q h
  unfold Wy_walkAll_B119 at h
  refine rn_sls 1 (pc' := 121) (ls' := [(4, (0, s0)), (0, (2, 50)), (3, (2, v3)), (5, (0, v5))]) (st' := []) rfl ?_
  exact rn_sub [1, 2, 0, 3] rfl (t_Wy_walkAll_B121 d k18 hk18 _ _ _ _ _ h)
set_option maxRecDepth 20000 in
theorem t_Wy_walkAll_L18_b (d : Nat) (k18 : Int → Int → Int → am_M → am_O) (hk18 : ∀ (v3 : Int) (v4 : Int) (v5 : Int) (μ : am_M) q, k18 v3 v4 v5 μ = some q → am_run none (am_ar g_mt (d + 4)) 7 none k_Wy_walkAll 18 [(0, (2, 50)), (3, (2, v3)), (4, (0, v4)), (5, (0, v5))] [] μ (am_res 2 q)) : ∀ (v3 : Int) (v4 : Int) (v5 : Int) (μ : am_M) q, Wy_walkAll_L18_b k18 v3 v4 v5 μ = some q → am_run none (am_ar g_mt (d + 4)) 7 none k_Wy_walkAll 18 [(0, (2, 50)), (3, (2, v3)), (4, (0, v4)), (5, (0, v5))] [] μ (am_res 2 q) := by
  intro v3 v4 v5 μ q h
  unfold Wy_walkAll_L18_b at h
  refine rn_sls 2 (pc' := 22) (ls' := [(0, (2, 50)), (3, (2, v3)), (4, (0, v4)), (5, (0, v5))]) (st' := [(0, 100000000), (0, v5)]) rfl ?_
  refine rn_icmpn (t := 127) rfl rfl rfl rfl h (fun h => ?_) (fun h => ?_)
  · refine rn_sls 2 (pc' := 28) (ls' := [(0, (2, 50)), (3, (2, v3)), (4, (0, v4)), (5, (0, v5))]) (st' := [(0, (-1)), (0, v4)]) rfl ?_
    refine rn_icmp (t := 127) rfl rfl rfl rfl h (fun h => ?_) (fun h => ?_)
    · exact rn_ret (v := 0) rfl rfl rfl h rfl
    · refine rn_sls 4 (pc' := 36) (ls' := [(0, (2, 50)), (3, (2, v3)), (4, (0, v4)), (5, (0, v5))]) (st' := [(0, 1), (0, v4), (2, v3), (2, 50)]) rfl ?_
      refine rn_call 0 2 [(2, 50), (2, v3), (0, v4), (0, 1)] (r := []) rfl ⟨rfl, Or.inl ⟨_, rfl, by decide⟩⟩ (by decide) (fun _ => ⟨_, rfl, rfl⟩) rfl rfl (Nat.le_of_ble_eq_true rfl) h (fun w hw => t_Wy_weigh (d + 1) _ _ _ _ _ hw) (fun a1 μ2 h => ?_)
      refine rn_sls 0 (pc' := 39) (ls' := [(0, (2, 50)), (3, (2, v3)), (4, (0, v4)), (5, (0, v5))]) (st' := []) rfl ?_
      refine rn_sls 5 (pc' := 49) (ls' := [(0, (2, 50)), (3, (2, v3)), (4, (0, v4)), (5, (0, v5))]) (st' := [(0, v4), (0, (μ2 50 8)), (2, 56)]) rfl ?_
      refine rn_call 3 2 [(2, 56), (0, (μ2 50 8)), (0, v4)] (r := []) rfl ⟨rfl, Or.inr ⟨_, rfl, by decide⟩⟩ (by decide) (fun z => absurd z (by decide)) rfl rfl (Nat.le_of_ble_eq_true rfl) h (fun w hw => t_X_put (d + 3) _ _ _ _ _ hw) (fun a3 μ4 h => ?_)
      refine rn_sls 0 (pc' := 52) (ls' := [(0, (2, 50)), (3, (2, v3)), (4, (0, v4)), (5, (0, v5))]) (st' := []) rfl ?_
      refine rn_sls 5 (pc' := 59) (ls' := [(0, (2, 50)), (3, (2, v3)), (4, (0, v4)), (5, (0, v5))]) (st' := [(0, (w32 ((μ4 50 8) + 1))), (2, 50)]) rfl ?_
      refine rn_put rfl rfl rfl rfl (Or.inl ⟨rfl, rfl⟩) rfl h (fun μ5 h => ?_)
      refine rn_sls 1 (pc' := 63) (ls' := [(0, (2, 50)), (3, (2, v3)), (4, (0, v4)), (5, (0, v5))]) (st' := [(2, v3)]) rfl ?_
      refine rn_gd h (fun ho6 h => ?_)
      refine rn_get ho6 rfl rfl rfl ?_
      refine rn_sls 0 (pc' := 66) (ls' := [(0, (2, 50)), (3, (2, v3)), (4, (0, v4)), (5, (0, v5))]) (st' := [(2, (v3 + 1))]) rfl ?_
      refine rn_sls 1 (pc' := 68) (ls' := [(0, (2, 50)), (3, (2, v3)), (4, (0, v4)), (5, (0, v5))]) (st' := [(0, v4), (2, (v3 + 1))]) rfl ?_
      refine rn_call 3 0 [(2, (v3 + 1)), (0, v4)] (r := []) rfl ⟨rfl, Or.inr ⟨_, rfl, by decide⟩⟩ (by decide) (fun z => absurd z (by decide)) rfl rfl (Nat.le_of_ble_eq_true rfl) h (fun w hw => t_X_at (d + 3) _ _ _ _ hw) (fun a7 μ8 h => ?_)
      refine rn_sls 0 (pc' := 71) (ls' := [(0, (2, 50)), (3, (2, v3)), (4, (0, v4)), (5, (0, v5))]) (st' := [(0, a7)]) rfl ?_
      refine rn_sls 3 (pc' := 77) (ls' := [(6, (0, a7)), (0, (2, 50)), (3, (2, v3)), (4, (0, v4)), (5, (0, v5))]) (st' := [(0, 8), (0, a7)]) rfl ?_
      refine rn_icmpn (t := 94) rfl rfl rfl rfl h (fun h => ?_) (fun h => ?_)
      · refine rn_sls 1 (pc' := 81) (ls' := [(6, (0, a7)), (0, (2, 50)), (3, (2, v3)), (4, (0, v4)), (5, (0, v5))]) (st' := [(2, 50)]) rfl ?_
        refine rn_call 0 2 [(2, 50)] (r := []) rfl ⟨rfl, Or.inl ⟨_, rfl, by decide⟩⟩ (by decide) (fun _ => ⟨_, rfl, rfl⟩) rfl rfl (Nat.le_of_ble_eq_true rfl) h (fun w hw => t_Wy_record (d + 2)  _ _ hw) (fun a11 μ12 h => ?_)
        refine rn_sls 0 (pc' := 84) (ls' := [(6, (0, a7)), (0, (2, 50)), (3, (2, v3)), (4, (0, v4)), (5, (0, v5))]) (st' := []) rfl ?_
        refine rn_sls 2 (pc' := 86) (ls' := [(6, (0, a7)), (0, (2, 50)), (3, (2, v3)), (4, (0, v4)), (5, (0, v5))]) (st' := [(2, v3), (2, 50)]) rfl ?_
        refine rn_call 0 0 [(2, 50), (2, v3)] (r := []) rfl ⟨rfl, Or.inl ⟨_, rfl, by decide⟩⟩ (by decide) (fun _ => ⟨_, rfl, rfl⟩) rfl rfl (Nat.le_of_ble_eq_true rfl) h (fun w hw => t_Wy_turnBack (d + 0) _ _ _ hw) (fun a13 μ14 h => ?_)
        refine rn_sls 0 (pc' := 89) (ls' := [(6, (0, a7)), (0, (2, 50)), (3, (2, v3)), (4, (0, v4)), (5, (0, v5))]) (st' := [(0, a13)]) rfl ?_
        refine rn_sls 1 (pc' := 91) (ls' := [(4, (0, a13)), (6, (0, a7)), (0, (2, 50)), (3, (2, v3)), (5, (0, v5))]) (st' := []) rfl ?_
        refine rn_goto (t := 121) rfl rfl rfl ?_
        exact rn_sub [2, 3, 0, 4] rfl (t_Wy_walkAll_B121 d k18 hk18 _ _ _ _ _ h)
      · refine rn_sls 2 (pc' := 98) (ls' := [(6, (0, a7)), (0, (2, 50)), (3, (2, v3)), (4, (0, v4)), (5, (0, v5))]) (st' := [(0, 6), (0, a7)]) rfl ?_
        refine rn_icmpn (t := 115) rfl rfl rfl rfl h (fun h => ?_) (fun h => ?_)
        · refine rn_sls 1 (pc' := 102) (ls' := [(6, (0, a7)), (0, (2, 50)), (3, (2, v3)), (4, (0, v4)), (5, (0, v5))]) (st' := [(2, v3)]) rfl ?_
          refine rn_get ho6 rfl rfl rfl ?_
          refine rn_sls 0 (pc' := 105) (ls' := [(6, (0, a7)), (0, (2, 50)), (3, (2, v3)), (4, (0, v4)), (5, (0, v5))]) (st' := [(2, (v3 + 6))]) rfl ?_
          refine rn_sls 1 (pc' := 107) (ls' := [(6, (0, a7)), (0, (2, 50)), (3, (2, v3)), (4, (0, v4)), (5, (0, v5))]) (st' := [(0, v4), (2, (v3 + 6))]) rfl ?_
          refine rn_call 3 0 [(2, (v3 + 6)), (0, v4)] (r := []) rfl ⟨rfl, Or.inr ⟨_, rfl, by decide⟩⟩ (by decide) (fun z => absurd z (by decide)) rfl rfl (Nat.le_of_ble_eq_true rfl) h (fun w hw => t_X_at (d + 3) _ _ _ _ hw) (fun a9 μ10 h => ?_)
          refine rn_sls 0 (pc' := 110) (ls' := [(6, (0, a7)), (0, (2, 50)), (3, (2, v3)), (4, (0, v4)), (5, (0, v5))]) (st' := [(0, a9)]) rfl ?_
          refine rn_sls 2 (pc' := 112) (ls' := [(6, (0, a7)), (0, (2, 50)), (3, (2, v3)), (4, (0, v4)), (5, (0, v5))]) (st' := [(0, (w32 (a9 + 1)))]) rfl ?_
          refine rn_goto (t := 119) rfl rfl rfl ?_
          exact rn_sub [1, 2, 4] rfl (t_Wy_walkAll_B119 d k18 hk18 _ _ _ _ _ h)
        · refine rn_sls 3 (pc' := 119) (ls' := [(6, (0, a7)), (0, (2, 50)), (3, (2, v3)), (4, (0, v4)), (5, (0, v5))]) (st' := [(0, (w32 (v4 + 1)))]) rfl ?_
          exact rn_sub [1, 2, 4] rfl (t_Wy_walkAll_B119 d k18 hk18 _ _ _ _ _ h)
  · exact rn_ret (v := 0) rfl rfl rfl h rfl
set_option maxRecDepth 20000 in
theorem t_Wy_walkAll_L18 (d : Nat) : ∀ (n : Nat) (v3 : Int) (v4 : Int) (v5 : Int) (μ : am_M) q, Wy_walkAll_L18 n v3 v4 v5 μ = some q → am_run none (am_ar g_mt (d + 4)) 7 none k_Wy_walkAll 18 [(0, (2, 50)), (3, (2, v3)), (4, (0, v4)), (5, (0, v5))] [] μ (am_res 2 q) := by
  intro n
  induction n with
  | zero => intro v3 v4 v5 μ q h; cases h
  | succ n ih => intro v3 v4 v5 μ q h; exact t_Wy_walkAll_L18_b d (Wy_walkAll_L18 n) ih v3 v4 v5 μ q h
set_option maxRecDepth 20000 in
theorem t_Wy_walkAll (d : Nat) : ∀ (v1 : Int) (v2 : Int) (μ : am_M) q, Wy_walkAll v1 v2 μ = some q → am_ar g_mt (d + 5) 113 [(2, 50), (2, v1), (0, v2)] μ (am_res 2 q) := by
  intro v1 v2 μ q h
  unfold Wy_walkAll at h
  refine am_ar_of (d := d + 4) i_Wy_walkAll rfl rfl (Nat.le_of_ble_eq_true rfl) ?_
  show am_run none (am_ar g_mt (d + 4)) 7 none k_Wy_walkAll 0 [(0, (2, 50)), (1, (2, v1)), (2, (0, v2))] [] μ (am_res 2 q)
  refine rn_sls 1 (pc' := 1) (ls' := [(0, (2, 50)), (1, (2, v1)), (2, (0, v2))]) (st' := [(2, v1)]) rfl ?_
  refine rn_gd h (fun ho1 h => ?_)
  refine rn_get ho1 rfl rfl rfl ?_
  refine rn_sls 0 (pc' := 4) (ls' := [(0, (2, 50)), (1, (2, v1)), (2, (0, v2))]) (st' := [(2, (v1 + 1))]) rfl ?_
  refine rn_sls 2 (pc' := 6) (ls' := [(3, (2, (v1 + 1))), (0, (2, 50)), (1, (2, v1)), (2, (0, v2))]) (st' := [(2, v1)]) rfl ?_
  refine rn_get ho1 rfl rfl rfl ?_
  refine rn_sls 0 (pc' := 9) (ls' := [(3, (2, (v1 + 1))), (0, (2, 50)), (1, (2, v1)), (2, (0, v2))]) (st' := [(2, (v1 + 15))]) rfl ?_
  refine rn_sls 1 (pc' := 10) (ls' := [(3, (2, (v1 + 1))), (0, (2, 50)), (1, (2, v1)), (2, (0, v2))]) (st' := [(0, v2), (2, (v1 + 15))]) rfl ?_
  refine rn_call 3 0 [(2, (v1 + 15)), (0, v2)] (r := []) rfl ⟨rfl, Or.inr ⟨_, rfl, by decide⟩⟩ (by decide) (fun z => absurd z (by decide)) rfl rfl (Nat.le_of_ble_eq_true rfl) h (fun w hw => t_X_at (d + 3) _ _ _ _ hw) (fun a2 μ3 h => ?_)
  refine rn_sls 0 (pc' := 13) (ls' := [(3, (2, (v1 + 1))), (0, (2, 50)), (1, (2, v1)), (2, (0, v2))]) (st' := [(0, a2)]) rfl ?_
  refine rn_sls 3 (pc' := 18) (ls' := [(5, (0, 0)), (4, (0, a2)), (3, (2, (v1 + 1))), (0, (2, 50)), (1, (2, v1)), (2, (0, v2))]) (st' := []) rfl ?_
  exact rn_sub [3, 2, 1, 0] rfl (t_Wy_walkAll_L18 d  am_FU _ _ _ _ _ h)
set_option maxRecDepth 20000 in
theorem t_Wy_need_B25 (d : Nat) : ∀ (v3 : Int) (μ : am_M) q, Wy_need_B25 v3 μ = some q → am_run none (am_ar g_mt (d + 5)) 4 (some .int) k_Wy_need 25 [(0, (2, 50)), (3, (0, v3))] [] μ (am_res 0 q) := by
  intro v3 μ q h
  unfold Wy_need_B25 at h
  refine rn_sls 3 (pc' := 30) (ls' := [(0, (2, 50)), (3, (0, v3))]) (st' := [(0, v3), (2, 58)]) rfl ?_
  refine rn_call 3 0 [(2, 58), (0, v3)] (r := []) rfl ⟨rfl, Or.inr ⟨_, rfl, by decide⟩⟩ (by decide) (fun z => absurd z (by decide)) rfl rfl (Nat.le_of_ble_eq_true rfl) h (fun w hw => t_X_at (d + 4) _ _ _ _ hw) (fun a1 μ2 h => ?_)
  refine rn_sls 0 (pc' := 33) (ls' := [(0, (2, 50)), (3, (0, v3))]) (st' := [(0, a1)]) rfl ?_
  exact rn_ireti rfl rfl rfl h rfl
set_option maxRecDepth 20000 in
theorem t_Wy_need (d : Nat) : ∀ (v1 : Int) (v2 : Int) (v3 : Int) (μ : am_M) q, Wy_need v1 v2 v3 μ = some q → am_ar g_mt (d + 6) 107 [(2, 50), (2, v1), (0, v2), (0, v3)] μ (am_res 0 q) := by
  intro v1 v2 v3 μ q h
  unfold Wy_need at h
  refine am_ar_of (d := d + 5) i_Wy_need rfl rfl (Nat.le_of_ble_eq_true rfl) ?_
  show am_run none (am_ar g_mt (d + 5)) 4 (some .int) k_Wy_need 0 [(0, (2, 50)), (1, (2, v1)), (2, (0, v2)), (3, (0, v3))] [] μ (am_res 0 q)
  refine rn_sls 3 (pc' := 5) (ls' := [(0, (2, 50)), (1, (2, v1)), (2, (0, v2)), (3, (0, v3))]) (st' := [(0, v2), (0, (μ 50 10))]) rfl ?_
  refine rn_icmp (t := 25) rfl rfl rfl rfl h (fun h => ?_) (fun h => ?_)
  · exact rn_sub [0, 3] rfl (t_Wy_need_B25 d  _ _ _ h)
  · refine rn_sls 3 (pc' := 11) (ls' := [(0, (2, 50)), (1, (2, v1)), (2, (0, v2)), (3, (0, v3))]) (st' := [(0, v2), (2, v1), (2, 50)]) rfl ?_
    refine rn_call 0 2 [(2, 50), (2, v1), (0, v2)] (r := []) rfl ⟨rfl, Or.inl ⟨_, rfl, by decide⟩⟩ (by decide) (fun _ => ⟨_, rfl, rfl⟩) rfl rfl (Nat.le_of_ble_eq_true rfl) h (fun w hw => t_Wy_prepare (d + 0) _ _ _ _ hw) (fun a1 μ2 h => ?_)
    refine rn_sls 0 (pc' := 14) (ls' := [(0, (2, 50)), (1, (2, v1)), (2, (0, v2)), (3, (0, v3))]) (st' := []) rfl ?_
    refine rn_sls 3 (pc' := 17) (ls' := [(0, (2, 50)), (1, (2, v1)), (2, (0, v2)), (3, (0, v3))]) (st' := [(0, v2), (2, v1), (2, 50)]) rfl ?_
    refine rn_call 0 2 [(2, 50), (2, v1), (0, v2)] (r := []) rfl ⟨rfl, Or.inl ⟨_, rfl, by decide⟩⟩ (by decide) (fun _ => ⟨_, rfl, rfl⟩) rfl rfl (Nat.le_of_ble_eq_true rfl) h (fun w hw => t_Wy_walkAll (d + 0) _ _ _ _ hw) (fun a3 μ4 h => ?_)
    refine rn_sls 0 (pc' := 20) (ls' := [(0, (2, 50)), (1, (2, v1)), (2, (0, v2)), (3, (0, v3))]) (st' := []) rfl ?_
    refine rn_sls 2 (pc' := 22) (ls' := [(0, (2, 50)), (1, (2, v1)), (2, (0, v2)), (3, (0, v3))]) (st' := [(0, v2), (2, 50)]) rfl ?_
    refine rn_put rfl rfl rfl rfl (Or.inl ⟨rfl, rfl⟩) rfl h (fun μ5 h => ?_)
    exact rn_sub [0, 3] rfl (t_Wy_need_B25 d  _ _ _ h)
set_option maxRecDepth 20000 in
theorem t_X_feed (d : Nat) : ∀ (v1 : Int) (v3 : Int) (v5 : Int) (μ : am_M) q, X_feed v1 v3 v5 μ = some q → am_ar g_mt (d + 3) 116 [(2, 0), (1, v1), (1, v3), (1, v5)] μ (am_res 0 q) := by
  intro v1 v3 v5 μ q h
  unfold X_feed at h
  refine am_ar_of (d := d + 2) i_X_feed rfl rfl (Nat.le_of_ble_eq_true rfl) ?_
  show am_run none (am_ar g_mt (d + 2)) 7 (some .int) k_X_feed 0 [(0, (2, 0)), (1, (1, v1)), (3, (1, v3)), (5, (1, v5))] [] μ (am_res 0 q)
  refine rn_sls 3 (pc' := 5) (ls' := [(0, (2, 0)), (1, (1, v1)), (3, (1, v3)), (5, (1, v5))]) (st' := [(1, v1), (2, 10)]) rfl ?_
  refine rn_call 0 2 [(2, 10), (1, v1)] (r := []) rfl ⟨rfl, Or.inl ⟨_, rfl, by decide⟩⟩ (by decide) (fun _ => ⟨_, rfl, rfl⟩) rfl rfl (Nat.le_of_ble_eq_true rfl) h (fun w hw => t_Tp_append (d + 0) _ _ _ hw) (fun a1 μ2 h => ?_)
  refine rn_sls 0 (pc' := 8) (ls' := [(0, (2, 0)), (1, (1, v1)), (3, (1, v3)), (5, (1, v5))]) (st' := []) rfl ?_
  refine rn_sls 3 (pc' := 13) (ls' := [(0, (2, 0)), (1, (1, v1)), (3, (1, v3)), (5, (1, v5))]) (st' := [(1, v3), (2, 10)]) rfl ?_
  refine rn_call 0 2 [(2, 10), (1, v3)] (r := []) rfl ⟨rfl, Or.inl ⟨_, rfl, by decide⟩⟩ (by decide) (fun _ => ⟨_, rfl, rfl⟩) rfl rfl (Nat.le_of_ble_eq_true rfl) h (fun w hw => t_Tp_append (d + 0) _ _ _ hw) (fun a3 μ4 h => ?_)
  refine rn_sls 0 (pc' := 16) (ls' := [(0, (2, 0)), (1, (1, v1)), (3, (1, v3)), (5, (1, v5))]) (st' := []) rfl ?_
  refine rn_sls 3 (pc' := 22) (ls' := [(0, (2, 0)), (1, (1, v1)), (3, (1, v3)), (5, (1, v5))]) (st' := [(1, v5), (2, 10)]) rfl ?_
  refine rn_call 0 2 [(2, 10), (1, v5)] (r := []) rfl ⟨rfl, Or.inl ⟨_, rfl, by decide⟩⟩ (by decide) (fun _ => ⟨_, rfl, rfl⟩) rfl rfl (Nat.le_of_ble_eq_true rfl) h (fun w hw => t_Tp_append (d + 0) _ _ _ hw) (fun a5 μ6 h => ?_)
  refine rn_sls 0 (pc' := 25) (ls' := [(0, (2, 0)), (1, (1, v1)), (3, (1, v3)), (5, (1, v5))]) (st' := []) rfl ?_
  refine rn_sls 3 (pc' := 32) (ls' := [(0, (2, 0)), (1, (1, v1)), (3, (1, v3)), (5, (1, v5))]) (st' := [(0, (μ6 10 2))]) rfl ?_
  exact rn_ireti rfl rfl rfl h rfl
set_option maxRecDepth 20000 in
theorem t_X_bills (d : Nat) : ∀  (μ : am_M) q, X_bills  μ = some q → am_ar g_mt (d + 8) 117 [(2, 0)] μ (am_res 0 q) := by
  intro  μ q h
  unfold X_bills at h
  refine am_ar_of (d := d + 7) i_X_bills rfl rfl (Nat.le_of_ble_eq_true rfl) ?_
  show am_run none (am_ar g_mt (d + 7)) 3 (some .int) k_X_bills 0 [(0, (2, 0))] [] μ (am_res 0 q)
  refine rn_sls 4 (pc' := 8) (ls' := [(0, (2, 0))]) (st' := [(2, (μ 0 9)), (2, 20)]) rfl ?_
  refine rn_call 0 0 [(2, 20), (2, (μ 0 9))] (r := []) rfl ⟨rfl, Or.inl ⟨_, rfl, by decide⟩⟩ (by decide) (fun _ => ⟨_, rfl, rfl⟩) rfl rfl (Nat.le_of_ble_eq_true rfl) h (fun w hw => t_Rd_readInto (d + 0) _ _ _ hw) (fun a1 μ2 h => ?_)
  refine rn_sls 0 (pc' := 11) (ls' := [(0, (2, 0))]) (st' := [(0, a1)]) rfl ?_
  refine rn_sls 3 (pc' := 16) (ls' := [(1, (0, a1)), (0, (2, 0))]) (st' := [(2, 10)]) rfl ?_
  refine rn_call 0 2 [(2, 10)] (r := []) rfl ⟨rfl, Or.inl ⟨_, rfl, by decide⟩⟩ (by decide) (fun _ => ⟨_, rfl, rfl⟩) rfl rfl (Nat.le_of_ble_eq_true rfl) h (fun w hw => t_Tp_clear (d + 6)  _ _ hw) (fun a3 μ4 h => ?_)
  refine rn_sls 0 (pc' := 19) (ls' := [(1, (0, a1)), (0, (2, 0))]) (st' := []) rfl ?_
  refine rn_sls 1 (pc' := 20) (ls' := [(1, (0, a1)), (0, (2, 0))]) (st' := [(0, a1)]) rfl ?_
  refine rn_ifn (t := 78) rfl rfl rfl rfl h (fun h => ?_) (fun h => ?_)
  · refine rn_sls 4 (pc' := 31) (ls' := [(1, (0, a1)), (0, (2, 0))]) (st' := [(2, (μ4 0 9)), (2, 30)]) rfl ?_
    refine rn_call 0 2 [(2, 30), (2, (μ4 0 9))] (r := []) rfl ⟨rfl, Or.inl ⟨_, rfl, by decide⟩⟩ (by decide) (fun _ => ⟨_, rfl, rfl⟩) rfl rfl (Nat.le_of_ble_eq_true rfl) h (fun w hw => t_Ck_checkAll (d + 1) _ _ _ hw) (fun a5 μ6 h => ?_)
    refine rn_sls 0 (pc' := 34) (ls' := [(1, (0, a1)), (0, (2, 0))]) (st' := []) rfl ?_
    refine rn_sls 6 (pc' := 44) (ls' := [(2, (2, (μ6 0 8))), (1, (0, a1)), (0, (2, 0))]) (st' := [(2, (μ6 0 9)), (2, 0)]) rfl ?_
    refine rn_put rfl rfl rfl rfl (Or.inr (Or.inr ⟨rfl, rfl⟩)) rfl h (fun μ7 h => ?_)
    refine rn_sls 2 (pc' := 49) (ls' := [(2, (2, (μ6 0 8))), (1, (0, a1)), (0, (2, 0))]) (st' := [(2, (μ6 0 8)), (2, 0)]) rfl ?_
    refine rn_put rfl rfl rfl rfl (Or.inr (Or.inr ⟨rfl, rfl⟩)) rfl h (fun μ8 h => ?_)
    refine rn_sls 2 (pc' := 56) (ls' := [(2, (2, (μ6 0 8))), (1, (0, a1)), (0, (2, 0))]) (st' := [(2, 300)]) rfl ?_
    refine rn_call 0 2 [(2, 300)] (r := []) rfl ⟨rfl, Or.inl ⟨_, rfl, by decide⟩⟩ (by decide) (fun _ => ⟨_, rfl, rfl⟩) rfl rfl (Nat.le_of_ble_eq_true rfl) h (fun w hw => t_Mc_stand (d + 6) _ _ _ hw) (fun a9 μ10 h => ?_)
    refine rn_sls 0 (pc' := 59) (ls' := [(2, (2, (μ6 0 8))), (1, (0, a1)), (0, (2, 0))]) (st' := []) rfl ?_
    refine rn_sls 2 (pc' := 61) (ls' := [(2, (2, (μ6 0 8))), (1, (0, a1)), (0, (2, 0))]) (st' := [(0, 0), (2, 0)]) rfl ?_
    refine rn_put rfl rfl rfl rfl (Or.inl ⟨rfl, rfl⟩) rfl h (fun μ11 h => ?_)
    refine rn_sls 2 (pc' := 68) (ls' := [(2, (2, (μ6 0 8))), (1, (0, a1)), (0, (2, 0))]) (st' := [(2, 50)]) rfl ?_
    refine rn_call 0 2 [(2, 50)] (r := []) rfl ⟨rfl, Or.inl ⟨_, rfl, by decide⟩⟩ (by decide) (fun _ => ⟨_, rfl, rfl⟩) rfl rfl (Nat.le_of_ble_eq_true rfl) h (fun w hw => t_Wy_forget (d + 6)  _ _ hw) (fun a12 μ13 h => ?_)
    refine rn_sls 0 (pc' := 71) (ls' := [(2, (2, (μ6 0 8))), (1, (0, a1)), (0, (2, 0))]) (st' := []) rfl ?_
    refine rn_sls 2 (pc' := 75) (ls' := [(2, (2, (μ6 0 8))), (1, (0, a1)), (0, (2, 0))]) (st' := [(2, 60)]) rfl ?_
    refine rn_call 0 2 [(2, 60)] (r := []) rfl ⟨rfl, Or.inl ⟨_, rfl, by decide⟩⟩ (by decide) (fun _ => ⟨_, rfl, rfl⟩) rfl rfl (Nat.le_of_ble_eq_true rfl) h (fun w hw => t_Or_forget (d + 6)  _ _ hw) (fun a14 μ15 h => ?_)
    refine rn_sls 0 (pc' := 78) (ls' := [(2, (2, (μ6 0 8))), (1, (0, a1)), (0, (2, 0))]) (st' := []) rfl ?_
    refine rn_sls 1 (pc' := 79) (ls' := [(2, (2, (μ6 0 8))), (1, (0, a1)), (0, (2, 0))]) (st' := [(0, a1)]) rfl ?_
    exact rn_ireti rfl rfl rfl h rfl
  · refine rn_sls 1 (pc' := 79) (ls' := [(1, (0, a1)), (0, (2, 0))]) (st' := [(0, a1)]) rfl ?_
    exact rn_ireti rfl rfl rfl h rfl
set_option maxRecDepth 20000 in
theorem t_X_bill (d : Nat) : ∀ (v1 : Int) (v2 : Int) (μ : am_M) q, X_bill v1 v2 μ = some q → am_ar g_mt (d + 2) 118 [(2, 0), (0, v1), (0, v2)] μ (am_res 0 q) := by
  intro v1 v2 μ q h
  unfold X_bill at h
  refine am_ar_of (d := d + 1) i_X_bill rfl rfl (Nat.le_of_ble_eq_true rfl) ?_
  show am_run none (am_ar g_mt (d + 1)) 3 (some .int) k_X_bill 0 [(0, (2, 0)), (1, (0, v1)), (2, (0, v2))] [] μ (am_res 0 q)
  refine rn_sls 3 (pc' := 5) (ls' := [(0, (2, 0)), (1, (0, v1)), (2, (0, v2))]) (st' := [(0, v1), (2, (μ 0 8))]) rfl ?_
  refine rn_gd h (fun ho1 h => ?_)
  refine rn_call 0 0 [(2, (μ 0 8)), (0, v1)] (r := []) rfl ⟨rfl, Or.inl ⟨_, rfl, by decide⟩⟩ (by decide) (fun _ => ⟨_, rfl, ho1⟩) rfl rfl (Nat.le_of_ble_eq_true rfl) h (fun w hw => t_Bi_has (d + 0) _ _ _ _ hw) (fun a2 μ3 h => ?_)
  refine rn_sls 0 (pc' := 8) (ls' := [(0, (2, 0)), (1, (0, v1)), (2, (0, v2))]) (st' := [(0, a2)]) rfl ?_
  refine rn_ifn (t := 13) rfl rfl rfl rfl h (fun h => ?_) (fun h => ?_)
  · refine rn_sls 1 (pc' := 12) (ls' := [(0, (2, 0)), (1, (0, v1)), (2, (0, v2))]) (st' := [(0, (-1))]) rfl ?_
    exact rn_ireti rfl rfl rfl h rfl
  · refine rn_sls 1 (pc' := 14) (ls' := [(0, (2, 0)), (1, (0, v1)), (2, (0, v2))]) (st' := [(0, v2)]) rfl ?_
    refine rn_tsw rfl rfl ?_
    refine rn_swc (t := 52) rfl h (fun h => ?_) (fun h => ?_)
    · refine rn_sls 2 (pc' := 56) (ls' := [(0, (2, 0)), (1, (0, v1)), (2, (0, v2))]) (st' := [(2, (μ3 0 8))]) rfl ?_
      refine rn_gd h (fun ho4 h => ?_)
      refine rn_get ho4 rfl rfl rfl ?_
      refine rn_sls 0 (pc' := 59) (ls' := [(0, (2, 0)), (1, (0, v1)), (2, (0, v2))]) (st' := [(2, ((μ3 0 8) + 15))]) rfl ?_
      refine rn_sls 1 (pc' := 60) (ls' := [(0, (2, 0)), (1, (0, v1)), (2, (0, v2))]) (st' := [(0, v1), (2, ((μ3 0 8) + 15))]) rfl ?_
      refine rn_call 2 0 [(2, ((μ3 0 8) + 15)), (0, v1)] (r := []) rfl ⟨rfl, Or.inr ⟨_, rfl, by decide⟩⟩ (by decide) (fun z => absurd z (by decide)) rfl rfl (Nat.le_of_ble_eq_true rfl) h (fun w hw => t_X_at (d + 0) _ _ _ _ hw) (fun a5 μ6 h => ?_)
      refine rn_sls 0 (pc' := 63) (ls' := [(0, (2, 0)), (1, (0, v1)), (2, (0, v2))]) (st' := [(0, a5)]) rfl ?_
      exact rn_ireti rfl rfl rfl h rfl
    refine rn_swc (t := 64) rfl h (fun h => ?_) (fun h => ?_)
    · refine rn_sls 2 (pc' := 68) (ls' := [(0, (2, 0)), (1, (0, v1)), (2, (0, v2))]) (st' := [(2, (μ3 0 8))]) rfl ?_
      refine rn_gd h (fun ho7 h => ?_)
      refine rn_get ho7 rfl rfl rfl ?_
      refine rn_sls 0 (pc' := 71) (ls' := [(0, (2, 0)), (1, (0, v1)), (2, (0, v2))]) (st' := [(2, ((μ3 0 8) + 16))]) rfl ?_
      refine rn_sls 1 (pc' := 72) (ls' := [(0, (2, 0)), (1, (0, v1)), (2, (0, v2))]) (st' := [(0, v1), (2, ((μ3 0 8) + 16))]) rfl ?_
      refine rn_call 2 0 [(2, ((μ3 0 8) + 16)), (0, v1)] (r := []) rfl ⟨rfl, Or.inr ⟨_, rfl, by decide⟩⟩ (by decide) (fun z => absurd z (by decide)) rfl rfl (Nat.le_of_ble_eq_true rfl) h (fun w hw => t_X_at (d + 0) _ _ _ _ hw) (fun a8 μ9 h => ?_)
      refine rn_sls 0 (pc' := 75) (ls' := [(0, (2, 0)), (1, (0, v1)), (2, (0, v2))]) (st' := [(0, a8)]) rfl ?_
      exact rn_ireti rfl rfl rfl h rfl
    refine rn_swc (t := 76) rfl h (fun h => ?_) (fun h => ?_)
    · refine rn_sls 2 (pc' := 80) (ls' := [(0, (2, 0)), (1, (0, v1)), (2, (0, v2))]) (st' := [(2, (μ3 0 8))]) rfl ?_
      refine rn_gd h (fun ho10 h => ?_)
      refine rn_get ho10 rfl rfl rfl ?_
      refine rn_sls 0 (pc' := 83) (ls' := [(0, (2, 0)), (1, (0, v1)), (2, (0, v2))]) (st' := [(2, ((μ3 0 8) + 17))]) rfl ?_
      refine rn_sls 1 (pc' := 84) (ls' := [(0, (2, 0)), (1, (0, v1)), (2, (0, v2))]) (st' := [(0, v1), (2, ((μ3 0 8) + 17))]) rfl ?_
      refine rn_call 2 0 [(2, ((μ3 0 8) + 17)), (0, v1)] (r := []) rfl ⟨rfl, Or.inr ⟨_, rfl, by decide⟩⟩ (by decide) (fun z => absurd z (by decide)) rfl rfl (Nat.le_of_ble_eq_true rfl) h (fun w hw => t_X_at (d + 0) _ _ _ _ hw) (fun a11 μ12 h => ?_)
      refine rn_sls 0 (pc' := 87) (ls' := [(0, (2, 0)), (1, (0, v1)), (2, (0, v2))]) (st' := [(0, a11)]) rfl ?_
      exact rn_ireti rfl rfl rfl h rfl
    refine rn_swc (t := 88) rfl h (fun h => ?_) (fun h => ?_)
    · refine rn_sls 2 (pc' := 92) (ls' := [(0, (2, 0)), (1, (0, v1)), (2, (0, v2))]) (st' := [(2, (μ3 0 8))]) rfl ?_
      refine rn_gd h (fun ho13 h => ?_)
      refine rn_get ho13 rfl rfl rfl ?_
      refine rn_sls 0 (pc' := 95) (ls' := [(0, (2, 0)), (1, (0, v1)), (2, (0, v2))]) (st' := [(2, ((μ3 0 8) + 18))]) rfl ?_
      refine rn_sls 1 (pc' := 96) (ls' := [(0, (2, 0)), (1, (0, v1)), (2, (0, v2))]) (st' := [(0, v1), (2, ((μ3 0 8) + 18))]) rfl ?_
      refine rn_call 2 0 [(2, ((μ3 0 8) + 18)), (0, v1)] (r := []) rfl ⟨rfl, Or.inr ⟨_, rfl, by decide⟩⟩ (by decide) (fun z => absurd z (by decide)) rfl rfl (Nat.le_of_ble_eq_true rfl) h (fun w hw => t_X_at (d + 0) _ _ _ _ hw) (fun a14 μ15 h => ?_)
      refine rn_sls 0 (pc' := 99) (ls' := [(0, (2, 0)), (1, (0, v1)), (2, (0, v2))]) (st' := [(0, a14)]) rfl ?_
      exact rn_ireti rfl rfl rfl h rfl
    refine rn_swc (t := 100) rfl h (fun h => ?_) (fun h => ?_)
    · refine rn_sls 2 (pc' := 104) (ls' := [(0, (2, 0)), (1, (0, v1)), (2, (0, v2))]) (st' := [(2, (μ3 0 8))]) rfl ?_
      refine rn_gd h (fun ho16 h => ?_)
      refine rn_get ho16 rfl rfl rfl ?_
      refine rn_sls 0 (pc' := 107) (ls' := [(0, (2, 0)), (1, (0, v1)), (2, (0, v2))]) (st' := [(2, ((μ3 0 8) + 19))]) rfl ?_
      refine rn_sls 1 (pc' := 108) (ls' := [(0, (2, 0)), (1, (0, v1)), (2, (0, v2))]) (st' := [(0, v1), (2, ((μ3 0 8) + 19))]) rfl ?_
      refine rn_call 2 0 [(2, ((μ3 0 8) + 19)), (0, v1)] (r := []) rfl ⟨rfl, Or.inr ⟨_, rfl, by decide⟩⟩ (by decide) (fun z => absurd z (by decide)) rfl rfl (Nat.le_of_ble_eq_true rfl) h (fun w hw => t_X_at (d + 0) _ _ _ _ hw) (fun a17 μ18 h => ?_)
      refine rn_sls 0 (pc' := 111) (ls' := [(0, (2, 0)), (1, (0, v1)), (2, (0, v2))]) (st' := [(0, a17)]) rfl ?_
      refine rn_ifn (t := 118) rfl rfl rfl rfl h (fun h => ?_) (fun h => ?_)
      · refine rn_sls 1 (pc' := 115) (ls' := [(0, (2, 0)), (1, (0, v1)), (2, (0, v2))]) (st' := [(0, 1)]) rfl ?_
        refine rn_goto (t := 119) rfl rfl rfl ?_
        exact rn_ireti rfl rfl rfl h rfl
      · refine rn_sls 1 (pc' := 119) (ls' := [(0, (2, 0)), (1, (0, v1)), (2, (0, v2))]) (st' := [(0, 0)]) rfl ?_
        exact rn_ireti rfl rfl rfl h rfl
    refine rn_swc (t := 120) rfl h (fun h => ?_) (fun h => ?_)
    · refine rn_sls 2 (pc' := 124) (ls' := [(0, (2, 0)), (1, (0, v1)), (2, (0, v2))]) (st' := [(2, (μ3 0 8))]) rfl ?_
      refine rn_gd h (fun ho19 h => ?_)
      refine rn_get ho19 rfl rfl rfl ?_
      refine rn_sls 0 (pc' := 127) (ls' := [(0, (2, 0)), (1, (0, v1)), (2, (0, v2))]) (st' := [(2, ((μ3 0 8) + 22))]) rfl ?_
      refine rn_sls 1 (pc' := 128) (ls' := [(0, (2, 0)), (1, (0, v1)), (2, (0, v2))]) (st' := [(0, v1), (2, ((μ3 0 8) + 22))]) rfl ?_
      refine rn_call 2 0 [(2, ((μ3 0 8) + 22)), (0, v1)] (r := []) rfl ⟨rfl, Or.inr ⟨_, rfl, by decide⟩⟩ (by decide) (fun z => absurd z (by decide)) rfl rfl (Nat.le_of_ble_eq_true rfl) h (fun w hw => t_X_at (d + 0) _ _ _ _ hw) (fun a20 μ21 h => ?_)
      refine rn_sls 0 (pc' := 131) (ls' := [(0, (2, 0)), (1, (0, v1)), (2, (0, v2))]) (st' := [(0, a20)]) rfl ?_
      exact rn_ireti rfl rfl rfl h rfl
    refine rn_sw0 (t := 132) rfl ?_
    refine rn_sls 1 (pc' := 133) (ls' := [(0, (2, 0)), (1, (0, v1)), (2, (0, v2))]) (st' := [(0, (-1))]) rfl ?_
    exact rn_ireti rfl rfl rfl h rfl
set_option maxRecDepth 20000 in
theorem t_X_line (d : Nat) : ∀ (v1 : Int) (v2 : Int) (μ : am_M) q, X_line v1 v2 μ = some q → am_ar g_mt (d + 4) 119 [(2, 0), (0, v1), (0, v2)] μ (am_res 0 q) := by
  intro v1 v2 μ q h
  unfold X_line at h
  refine am_ar_of (d := d + 3) i_X_line rfl rfl (Nat.le_of_ble_eq_true rfl) ?_
  show am_run none (am_ar g_mt (d + 3)) 4 (some .int) k_X_line 0 [(0, (2, 0)), (1, (0, v1)), (2, (0, v2))] [] μ (am_res 0 q)
  refine rn_sls 2 (pc' := 4) (ls' := [(0, (2, 0)), (1, (0, v1)), (2, (0, v2))]) (st' := [(2, (μ 0 8))]) rfl ?_
  refine rn_gd h (fun ho1 h => ?_)
  refine rn_get ho1 rfl rfl rfl ?_
  refine rn_sls 0 (pc' := 7) (ls' := [(0, (2, 0)), (1, (0, v1)), (2, (0, v2))]) (st' := [(2, ((μ 0 8) + 1))]) rfl ?_
  refine rn_sls 2 (pc' := 9) (ls' := [(3, (2, ((μ 0 8) + 1))), (0, (2, 0)), (1, (0, v1)), (2, (0, v2))]) (st' := [(0, v1)]) rfl ?_
  refine rn_if (t := 20) rfl rfl rfl rfl h (fun h => ?_) (fun h => ?_)
  · refine rn_sls 1 (pc' := 21) (ls' := [(3, (2, ((μ 0 8) + 1))), (0, (2, 0)), (1, (0, v1)), (2, (0, v2))]) (st' := [(0, (-1))]) rfl ?_
    exact rn_ireti rfl rfl rfl h rfl
  · refine rn_sls 2 (pc' := 14) (ls' := [(3, (2, ((μ 0 8) + 1))), (0, (2, 0)), (1, (0, v1)), (2, (0, v2))]) (st' := [(2, ((μ 0 8) + 1)), (0, v1)]) rfl ?_
    refine rn_gd h (fun ho2 h => ?_)
    refine rn_get ho2 rfl rfl rfl ?_
    refine rn_sls 0 (pc' := 17) (ls' := [(3, (2, ((μ 0 8) + 1))), (0, (2, 0)), (1, (0, v1)), (2, (0, v2))]) (st' := [(0, (μ ((μ 0 8) + 1) 10)), (0, v1)]) rfl ?_
    refine rn_icmp (t := 22) rfl rfl rfl rfl h (fun h => ?_) (fun h => ?_)
    · refine rn_sls 1 (pc' := 23) (ls' := [(3, (2, ((μ 0 8) + 1))), (0, (2, 0)), (1, (0, v1)), (2, (0, v2))]) (st' := [(0, v2)]) rfl ?_
      refine rn_tsw rfl rfl ?_
      refine rn_swc (t := 56) rfl h (fun h => ?_) (fun h => ?_)
      · refine rn_sls 1 (pc' := 57) (ls' := [(3, (2, ((μ 0 8) + 1))), (0, (2, 0)), (1, (0, v1)), (2, (0, v2))]) (st' := [(2, ((μ 0 8) + 1))]) rfl ?_
        refine rn_get ho2 rfl rfl rfl ?_
        refine rn_sls 0 (pc' := 60) (ls' := [(3, (2, ((μ 0 8) + 1))), (0, (2, 0)), (1, (0, v1)), (2, (0, v2))]) (st' := [(2, (((μ 0 8) + 1) + 1))]) rfl ?_
        refine rn_sls 1 (pc' := 61) (ls' := [(3, (2, ((μ 0 8) + 1))), (0, (2, 0)), (1, (0, v1)), (2, (0, v2))]) (st' := [(0, v1), (2, (((μ 0 8) + 1) + 1))]) rfl ?_
        refine rn_call 2 0 [(2, (((μ 0 8) + 1) + 1)), (0, v1)] (r := []) rfl ⟨rfl, Or.inr ⟨_, rfl, by decide⟩⟩ (by decide) (fun z => absurd z (by decide)) rfl rfl (Nat.le_of_ble_eq_true rfl) h (fun w hw => t_X_at (d + 2) _ _ _ _ hw) (fun a3 μ4 h => ?_)
        refine rn_sls 0 (pc' := 64) (ls' := [(3, (2, ((μ 0 8) + 1))), (0, (2, 0)), (1, (0, v1)), (2, (0, v2))]) (st' := [(0, a3)]) rfl ?_
        exact rn_ireti rfl rfl rfl h rfl
      refine rn_swc (t := 65) rfl h (fun h => ?_) (fun h => ?_)
      · refine rn_sls 1 (pc' := 66) (ls' := [(3, (2, ((μ 0 8) + 1))), (0, (2, 0)), (1, (0, v1)), (2, (0, v2))]) (st' := [(2, ((μ 0 8) + 1))]) rfl ?_
        refine rn_get ho2 rfl rfl rfl ?_
        refine rn_sls 0 (pc' := 69) (ls' := [(3, (2, ((μ 0 8) + 1))), (0, (2, 0)), (1, (0, v1)), (2, (0, v2))]) (st' := [(2, (((μ 0 8) + 1) + 2))]) rfl ?_
        refine rn_sls 1 (pc' := 70) (ls' := [(3, (2, ((μ 0 8) + 1))), (0, (2, 0)), (1, (0, v1)), (2, (0, v2))]) (st' := [(0, v1), (2, (((μ 0 8) + 1) + 2))]) rfl ?_
        refine rn_call 2 0 [(2, (((μ 0 8) + 1) + 2)), (0, v1)] (r := []) rfl ⟨rfl, Or.inr ⟨_, rfl, by decide⟩⟩ (by decide) (fun z => absurd z (by decide)) rfl rfl (Nat.le_of_ble_eq_true rfl) h (fun w hw => t_X_at (d + 2) _ _ _ _ hw) (fun a5 μ6 h => ?_)
        refine rn_sls 0 (pc' := 73) (ls' := [(3, (2, ((μ 0 8) + 1))), (0, (2, 0)), (1, (0, v1)), (2, (0, v2))]) (st' := [(0, a5)]) rfl ?_
        exact rn_ireti rfl rfl rfl h rfl
      refine rn_swc (t := 74) rfl h (fun h => ?_) (fun h => ?_)
      · refine rn_sls 1 (pc' := 75) (ls' := [(3, (2, ((μ 0 8) + 1))), (0, (2, 0)), (1, (0, v1)), (2, (0, v2))]) (st' := [(2, ((μ 0 8) + 1))]) rfl ?_
        refine rn_get ho2 rfl rfl rfl ?_
        refine rn_sls 0 (pc' := 78) (ls' := [(3, (2, ((μ 0 8) + 1))), (0, (2, 0)), (1, (0, v1)), (2, (0, v2))]) (st' := [(2, (((μ 0 8) + 1) + 3))]) rfl ?_
        refine rn_sls 1 (pc' := 79) (ls' := [(3, (2, ((μ 0 8) + 1))), (0, (2, 0)), (1, (0, v1)), (2, (0, v2))]) (st' := [(0, v1), (2, (((μ 0 8) + 1) + 3))]) rfl ?_
        refine rn_call 2 0 [(2, (((μ 0 8) + 1) + 3)), (0, v1)] (r := []) rfl ⟨rfl, Or.inr ⟨_, rfl, by decide⟩⟩ (by decide) (fun z => absurd z (by decide)) rfl rfl (Nat.le_of_ble_eq_true rfl) h (fun w hw => t_X_at (d + 2) _ _ _ _ hw) (fun a7 μ8 h => ?_)
        refine rn_sls 0 (pc' := 82) (ls' := [(3, (2, ((μ 0 8) + 1))), (0, (2, 0)), (1, (0, v1)), (2, (0, v2))]) (st' := [(0, a7)]) rfl ?_
        exact rn_ireti rfl rfl rfl h rfl
      refine rn_swc (t := 83) rfl h (fun h => ?_) (fun h => ?_)
      · refine rn_sls 2 (pc' := 85) (ls' := [(3, (2, ((μ 0 8) + 1))), (0, (2, 0)), (1, (0, v1)), (2, (0, v2))]) (st' := [(0, v1), (2, ((μ 0 8) + 1))]) rfl ?_
        refine rn_call 0 0 [(2, ((μ 0 8) + 1)), (0, v1)] (r := []) rfl ⟨rfl, Or.inl ⟨_, rfl, by decide⟩⟩ (by decide) (fun _ => ⟨_, rfl, ho2⟩) rfl rfl (Nat.le_of_ble_eq_true rfl) h (fun w hw => t_Ln_timesRead (d + 0) _ _ _ _ hw) (fun a9 μ10 h => ?_)
        refine rn_sls 0 (pc' := 88) (ls' := [(3, (2, ((μ 0 8) + 1))), (0, (2, 0)), (1, (0, v1)), (2, (0, v2))]) (st' := [(0, a9)]) rfl ?_
        exact rn_ireti rfl rfl rfl h rfl
      refine rn_swc (t := 89) rfl h (fun h => ?_) (fun h => ?_)
      · refine rn_sls 1 (pc' := 90) (ls' := [(3, (2, ((μ 0 8) + 1))), (0, (2, 0)), (1, (0, v1)), (2, (0, v2))]) (st' := [(2, ((μ 0 8) + 1))]) rfl ?_
        refine rn_get ho2 rfl rfl rfl ?_
        refine rn_sls 0 (pc' := 93) (ls' := [(3, (2, ((μ 0 8) + 1))), (0, (2, 0)), (1, (0, v1)), (2, (0, v2))]) (st' := [(2, (((μ 0 8) + 1) + 5))]) rfl ?_
        refine rn_sls 1 (pc' := 94) (ls' := [(3, (2, ((μ 0 8) + 1))), (0, (2, 0)), (1, (0, v1)), (2, (0, v2))]) (st' := [(0, v1), (2, (((μ 0 8) + 1) + 5))]) rfl ?_
        refine rn_call 2 0 [(2, (((μ 0 8) + 1) + 5)), (0, v1)] (r := []) rfl ⟨rfl, Or.inr ⟨_, rfl, by decide⟩⟩ (by decide) (fun z => absurd z (by decide)) rfl rfl (Nat.le_of_ble_eq_true rfl) h (fun w hw => t_X_at (d + 2) _ _ _ _ hw) (fun a11 μ12 h => ?_)
        refine rn_sls 0 (pc' := 97) (ls' := [(3, (2, ((μ 0 8) + 1))), (0, (2, 0)), (1, (0, v1)), (2, (0, v2))]) (st' := [(0, a11)]) rfl ?_
        exact rn_ireti rfl rfl rfl h rfl
      refine rn_sw0 (t := 98) rfl ?_
      refine rn_sls 1 (pc' := 99) (ls' := [(3, (2, ((μ 0 8) + 1))), (0, (2, 0)), (1, (0, v1)), (2, (0, v2))]) (st' := [(0, (-1))]) rfl ?_
      exact rn_ireti rfl rfl rfl h rfl
    · refine rn_sls 1 (pc' := 21) (ls' := [(3, (2, ((μ 0 8) + 1))), (0, (2, 0)), (1, (0, v1)), (2, (0, v2))]) (st' := [(0, (-1))]) rfl ?_
      exact rn_ireti rfl rfl rfl h rfl
set_option maxRecDepth 20000 in
theorem t_X_check (d : Nat) : ∀ (v1 : Int) (v2 : Int) (μ : am_M) q, X_check v1 v2 μ = some q → am_ar g_mt (d + 2) 120 [(2, 0), (0, v1), (0, v2)] μ (am_res 0 q) := by
  intro v1 v2 μ q h
  unfold X_check at h
  refine am_ar_of (d := d + 1) i_X_check rfl rfl (Nat.le_of_ble_eq_true rfl) ?_
  show am_run none (am_ar g_mt (d + 1)) 3 (some .int) k_X_check 0 [(0, (2, 0)), (1, (0, v1)), (2, (0, v2))] [] μ (am_res 0 q)
  refine rn_sls 3 (pc' := 5) (ls' := [(0, (2, 0)), (1, (0, v1)), (2, (0, v2))]) (st' := [(0, v1), (2, (μ 0 8))]) rfl ?_
  refine rn_gd h (fun ho1 h => ?_)
  refine rn_call 0 0 [(2, (μ 0 8)), (0, v1)] (r := []) rfl ⟨rfl, Or.inl ⟨_, rfl, by decide⟩⟩ (by decide) (fun _ => ⟨_, rfl, ho1⟩) rfl rfl (Nat.le_of_ble_eq_true rfl) h (fun w hw => t_Bi_has (d + 0) _ _ _ _ hw) (fun a2 μ3 h => ?_)
  refine rn_sls 0 (pc' := 8) (ls' := [(0, (2, 0)), (1, (0, v1)), (2, (0, v2))]) (st' := [(0, a2)]) rfl ?_
  refine rn_ifn (t := 13) rfl rfl rfl rfl h (fun h => ?_) (fun h => ?_)
  · refine rn_sls 1 (pc' := 12) (ls' := [(0, (2, 0)), (1, (0, v1)), (2, (0, v2))]) (st' := [(0, (-1))]) rfl ?_
    exact rn_ireti rfl rfl rfl h rfl
  · refine rn_sls 1 (pc' := 14) (ls' := [(0, (2, 0)), (1, (0, v1)), (2, (0, v2))]) (st' := [(0, v2)]) rfl ?_
    refine rn_tsw rfl rfl ?_
    refine rn_swc (t := 40) rfl h (fun h => ?_) (fun h => ?_)
    · refine rn_sls 2 (pc' := 44) (ls' := [(0, (2, 0)), (1, (0, v1)), (2, (0, v2))]) (st' := [(2, (μ3 0 8))]) rfl ?_
      refine rn_gd h (fun ho4 h => ?_)
      refine rn_get ho4 rfl rfl rfl ?_
      refine rn_sls 0 (pc' := 47) (ls' := [(0, (2, 0)), (1, (0, v1)), (2, (0, v2))]) (st' := [(2, ((μ3 0 8) + 19))]) rfl ?_
      refine rn_sls 1 (pc' := 48) (ls' := [(0, (2, 0)), (1, (0, v1)), (2, (0, v2))]) (st' := [(0, v1), (2, ((μ3 0 8) + 19))]) rfl ?_
      refine rn_call 2 0 [(2, ((μ3 0 8) + 19)), (0, v1)] (r := []) rfl ⟨rfl, Or.inr ⟨_, rfl, by decide⟩⟩ (by decide) (fun z => absurd z (by decide)) rfl rfl (Nat.le_of_ble_eq_true rfl) h (fun w hw => t_X_at (d + 0) _ _ _ _ hw) (fun a5 μ6 h => ?_)
      refine rn_sls 0 (pc' := 51) (ls' := [(0, (2, 0)), (1, (0, v1)), (2, (0, v2))]) (st' := [(0, a5)]) rfl ?_
      exact rn_ireti rfl rfl rfl h rfl
    refine rn_swc (t := 52) rfl h (fun h => ?_) (fun h => ?_)
    · refine rn_sls 2 (pc' := 56) (ls' := [(0, (2, 0)), (1, (0, v1)), (2, (0, v2))]) (st' := [(2, (μ3 0 8))]) rfl ?_
      refine rn_gd h (fun ho7 h => ?_)
      refine rn_get ho7 rfl rfl rfl ?_
      refine rn_sls 0 (pc' := 59) (ls' := [(0, (2, 0)), (1, (0, v1)), (2, (0, v2))]) (st' := [(2, ((μ3 0 8) + 20))]) rfl ?_
      refine rn_sls 1 (pc' := 60) (ls' := [(0, (2, 0)), (1, (0, v1)), (2, (0, v2))]) (st' := [(0, v1), (2, ((μ3 0 8) + 20))]) rfl ?_
      refine rn_call 2 0 [(2, ((μ3 0 8) + 20)), (0, v1)] (r := []) rfl ⟨rfl, Or.inr ⟨_, rfl, by decide⟩⟩ (by decide) (fun z => absurd z (by decide)) rfl rfl (Nat.le_of_ble_eq_true rfl) h (fun w hw => t_X_at (d + 0) _ _ _ _ hw) (fun a8 μ9 h => ?_)
      refine rn_sls 0 (pc' := 63) (ls' := [(0, (2, 0)), (1, (0, v1)), (2, (0, v2))]) (st' := [(0, a8)]) rfl ?_
      exact rn_ireti rfl rfl rfl h rfl
    refine rn_swc (t := 64) rfl h (fun h => ?_) (fun h => ?_)
    · refine rn_sls 2 (pc' := 68) (ls' := [(0, (2, 0)), (1, (0, v1)), (2, (0, v2))]) (st' := [(2, (μ3 0 8))]) rfl ?_
      refine rn_gd h (fun ho10 h => ?_)
      refine rn_get ho10 rfl rfl rfl ?_
      refine rn_sls 0 (pc' := 71) (ls' := [(0, (2, 0)), (1, (0, v1)), (2, (0, v2))]) (st' := [(2, ((μ3 0 8) + 21))]) rfl ?_
      refine rn_sls 1 (pc' := 72) (ls' := [(0, (2, 0)), (1, (0, v1)), (2, (0, v2))]) (st' := [(0, v1), (2, ((μ3 0 8) + 21))]) rfl ?_
      refine rn_call 2 0 [(2, ((μ3 0 8) + 21)), (0, v1)] (r := []) rfl ⟨rfl, Or.inr ⟨_, rfl, by decide⟩⟩ (by decide) (fun z => absurd z (by decide)) rfl rfl (Nat.le_of_ble_eq_true rfl) h (fun w hw => t_X_at (d + 0) _ _ _ _ hw) (fun a11 μ12 h => ?_)
      refine rn_sls 0 (pc' := 75) (ls' := [(0, (2, 0)), (1, (0, v1)), (2, (0, v2))]) (st' := [(0, a11)]) rfl ?_
      exact rn_ireti rfl rfl rfl h rfl
    refine rn_sw0 (t := 76) rfl ?_
    refine rn_sls 1 (pc' := 77) (ls' := [(0, (2, 0)), (1, (0, v1)), (2, (0, v2))]) (st' := [(0, (-1))]) rfl ?_
    exact rn_ireti rfl rfl rfl h rfl
set_option maxRecDepth 20000 in
theorem t_X_room (d : Nat) : ∀ (v1 : Int) (μ : am_M) q, X_room v1 μ = some q → am_ar g_mt (d + 1) 121 [(2, 0), (0, v1)] μ (am_res 0 q) := by
  intro v1 μ q h
  unfold X_room at h
  refine am_ar_of (d := d + 0) i_X_room rfl rfl (Nat.le_of_ble_eq_true rfl) ?_
  show am_run none (am_ar g_mt (d + 0)) 2 (some .boolean) k_X_room 0 [(0, (2, 0)), (1, (0, v1))] [] μ (am_res 0 q)
  refine rn_sls 2 (pc' := 2) (ls' := [(0, (2, 0)), (1, (0, v1))]) (st' := [(0, 1), (0, v1)]) rfl ?_
  refine rn_icmp (t := 11) rfl rfl rfl rfl h (fun h => ?_) (fun h => ?_)
  · refine rn_sls 1 (pc' := 12) (ls' := [(0, (2, 0)), (1, (0, v1))]) (st' := [(0, 0)]) rfl ?_
    exact rn_iretb rfl rfl rfl (Or.inl rfl) h rfl
  · refine rn_sls 2 (pc' := 8) (ls' := [(0, (2, 0)), (1, (0, v1))]) (st' := [(0, 99), (0, v1)]) rfl ?_
    refine rn_icmp (t := 13) rfl rfl rfl rfl h (fun h => ?_) (fun h => ?_)
    · refine rn_sls 3 (pc' := 18) (ls' := [(0, (2, 0)), (1, (0, v1))]) (st' := [(0, v1), (2, 300)]) rfl ?_
      refine rn_put rfl rfl rfl rfl (Or.inl ⟨rfl, rfl⟩) rfl h (fun μ1 h => ?_)
      refine rn_sls 1 (pc' := 22) (ls' := [(0, (2, 0)), (1, (0, v1))]) (st' := [(0, 1)]) rfl ?_
      exact rn_iretb rfl rfl rfl (Or.inr rfl) h rfl
    · refine rn_sls 1 (pc' := 12) (ls' := [(0, (2, 0)), (1, (0, v1))]) (st' := [(0, 0)]) rfl ?_
      exact rn_iretb rfl rfl rfl (Or.inl rfl) h rfl
set_option maxRecDepth 20000 in
theorem t_X_price (d : Nat) : ∀ (v1 : Int) (μ : am_M) q, X_price v1 μ = some q → am_ar g_mt (d + 1) 122 [(2, 0), (0, v1)] μ (am_res 0 q) := by
  intro v1 μ q h
  unfold X_price at h
  refine am_ar_of (d := d + 0) i_X_price rfl rfl (Nat.le_of_ble_eq_true rfl) ?_
  show am_run none (am_ar g_mt (d + 0)) 2 (some .boolean) k_X_price 0 [(0, (2, 0)), (1, (0, v1))] [] μ (am_res 0 q)
  refine rn_sls 1 (pc' := 1) (ls' := [(0, (2, 0)), (1, (0, v1))]) (st' := [(0, v1)]) rfl ?_
  refine rn_if (t := 10) rfl rfl rfl rfl h (fun h => ?_) (fun h => ?_)
  · refine rn_sls 1 (pc' := 11) (ls' := [(0, (2, 0)), (1, (0, v1))]) (st' := [(0, 0)]) rfl ?_
    exact rn_iretb rfl rfl rfl (Or.inl rfl) h rfl
  · refine rn_sls 2 (pc' := 7) (ls' := [(0, (2, 0)), (1, (0, v1))]) (st' := [(0, 99), (0, v1)]) rfl ?_
    refine rn_icmp (t := 12) rfl rfl rfl rfl h (fun h => ?_) (fun h => ?_)
    · refine rn_sls 3 (pc' := 17) (ls' := [(0, (2, 0)), (1, (0, v1))]) (st' := [(0, v1), (2, 300)]) rfl ?_
      refine rn_put rfl rfl rfl rfl (Or.inl ⟨rfl, rfl⟩) rfl h (fun μ1 h => ?_)
      refine rn_sls 1 (pc' := 21) (ls' := [(0, (2, 0)), (1, (0, v1))]) (st' := [(0, 1)]) rfl ?_
      exact rn_iretb rfl rfl rfl (Or.inr rfl) h rfl
    · refine rn_sls 1 (pc' := 11) (ls' := [(0, (2, 0)), (1, (0, v1))]) (st' := [(0, 0)]) rfl ?_
      exact rn_iretb rfl rfl rfl (Or.inl rfl) h rfl
set_option maxRecDepth 20000 in
theorem t_X_begin (d : Nat) : ∀ (v1 : Int) (v2 : Int) (v3 : Int) (v4 : Int) (v5 : Int) (μ : am_M) q, X_begin v1 v2 v3 v4 v5 μ = some q → am_ar g_mt (d + 5) 123 [(2, 0), (0, v1), (0, v2), (0, v3), (0, v4), (0, v5)] μ (am_res 0 q) := by
  intro v1 v2 v3 v4 v5 μ q h
  unfold X_begin at h
  refine am_ar_of (d := d + 4) i_X_begin rfl rfl (Nat.le_of_ble_eq_true rfl) ?_
  show am_run none (am_ar g_mt (d + 4)) 6 (some .boolean) k_X_begin 0 [(0, (2, 0)), (1, (0, v1)), (2, (0, v2)), (3, (0, v3)), (4, (0, v4)), (5, (0, v5))] [] μ (am_res 0 q)
  refine rn_sls 3 (pc' := 5) (ls' := [(0, (2, 0)), (1, (0, v1)), (2, (0, v2)), (3, (0, v3)), (4, (0, v4)), (5, (0, v5))]) (st' := [(0, v1), (2, (μ 0 8))]) rfl ?_
  refine rn_gd h (fun ho1 h => ?_)
  refine rn_call 0 0 [(2, (μ 0 8)), (0, v1)] (r := []) rfl ⟨rfl, Or.inl ⟨_, rfl, by decide⟩⟩ (by decide) (fun _ => ⟨_, rfl, ho1⟩) rfl rfl (Nat.le_of_ble_eq_true rfl) h (fun w hw => t_Bi_has (d + 3) _ _ _ _ hw) (fun a2 μ3 h => ?_)
  refine rn_sls 0 (pc' := 8) (ls' := [(0, (2, 0)), (1, (0, v1)), (2, (0, v2)), (3, (0, v3)), (4, (0, v4)), (5, (0, v5))]) (st' := [(0, a2)]) rfl ?_
  refine rn_if (t := 25) rfl rfl rfl rfl h (fun h => ?_) (fun h => ?_)
  · refine rn_sls 1 (pc' := 26) (ls' := [(0, (2, 0)), (1, (0, v1)), (2, (0, v2)), (3, (0, v3)), (4, (0, v4)), (5, (0, v5))]) (st' := [(0, 0)]) rfl ?_
    exact rn_iretb rfl rfl rfl (Or.inl rfl) h rfl
  · refine rn_sls 2 (pc' := 15) (ls' := [(0, (2, 0)), (1, (0, v1)), (2, (0, v2)), (3, (0, v3)), (4, (0, v4)), (5, (0, v5))]) (st' := [(2, (μ3 0 8))]) rfl ?_
    refine rn_gd h (fun ho4 h => ?_)
    refine rn_get ho4 rfl rfl rfl ?_
    refine rn_sls 0 (pc' := 18) (ls' := [(0, (2, 0)), (1, (0, v1)), (2, (0, v2)), (3, (0, v3)), (4, (0, v4)), (5, (0, v5))]) (st' := [(2, ((μ3 0 8) + 22))]) rfl ?_
    refine rn_sls 1 (pc' := 19) (ls' := [(0, (2, 0)), (1, (0, v1)), (2, (0, v2)), (3, (0, v3)), (4, (0, v4)), (5, (0, v5))]) (st' := [(0, v1), (2, ((μ3 0 8) + 22))]) rfl ?_
    refine rn_call 2 0 [(2, ((μ3 0 8) + 22)), (0, v1)] (r := []) rfl ⟨rfl, Or.inr ⟨_, rfl, by decide⟩⟩ (by decide) (fun z => absurd z (by decide)) rfl rfl (Nat.le_of_ble_eq_true rfl) h (fun w hw => t_X_at (d + 3) _ _ _ _ hw) (fun a5 μ6 h => ?_)
    refine rn_sls 0 (pc' := 22) (ls' := [(0, (2, 0)), (1, (0, v1)), (2, (0, v2)), (3, (0, v3)), (4, (0, v4)), (5, (0, v5))]) (st' := [(0, a5)]) rfl ?_
    refine rn_ifn (t := 27) rfl rfl rfl rfl h (fun h => ?_) (fun h => ?_)
    · refine rn_sls 1 (pc' := 26) (ls' := [(0, (2, 0)), (1, (0, v1)), (2, (0, v2)), (3, (0, v3)), (4, (0, v4)), (5, (0, v5))]) (st' := [(0, 0)]) rfl ?_
      exact rn_iretb rfl rfl rfl (Or.inl rfl) h rfl
    · refine rn_sls 6 (pc' := 37) (ls' := [(0, (2, 0)), (1, (0, v1)), (2, (0, v2)), (3, (0, v3)), (4, (0, v4)), (5, (0, v5))]) (st' := [(0, v5), (0, v4), (0, v3), (0, v2), (2, 300)]) rfl ?_
      refine rn_call 0 2 [(2, 300), (0, v2), (0, v3), (0, v4), (0, v5)] (r := []) rfl ⟨rfl, Or.inl ⟨_, rfl, by decide⟩⟩ (by decide) (fun _ => ⟨_, rfl, rfl⟩) rfl rfl (Nat.le_of_ble_eq_true rfl) h (fun w hw => t_Mc_take (d + 2) _ _ _ _ _ _ _ hw) (fun a7 μ8 h => ?_)
      refine rn_sls 0 (pc' := 40) (ls' := [(0, (2, 0)), (1, (0, v1)), (2, (0, v2)), (3, (0, v3)), (4, (0, v4)), (5, (0, v5))]) (st' := []) rfl ?_
      refine rn_sls 5 (pc' := 49) (ls' := [(0, (2, 0)), (1, (0, v1)), (2, (0, v2)), (3, (0, v3)), (4, (0, v4)), (5, (0, v5))]) (st' := [(0, v1), (2, (μ8 0 8)), (2, 300)]) rfl ?_
      refine rn_call 0 2 [(2, 300), (2, (μ8 0 8)), (0, v1)] (r := []) rfl ⟨rfl, Or.inl ⟨_, rfl, by decide⟩⟩ (by decide) (fun _ => ⟨_, rfl, rfl⟩) rfl rfl (Nat.le_of_ble_eq_true rfl) h (fun w hw => t_Mc_start (d + 0) _ _ _ _ _ hw) (fun a9 μ10 h => ?_)
      refine rn_sls 0 (pc' := 52) (ls' := [(0, (2, 0)), (1, (0, v1)), (2, (0, v2)), (3, (0, v3)), (4, (0, v4)), (5, (0, v5))]) (st' := []) rfl ?_
      refine rn_sls 1 (pc' := 53) (ls' := [(0, (2, 0)), (1, (0, v1)), (2, (0, v2)), (3, (0, v3)), (4, (0, v4)), (5, (0, v5))]) (st' := [(0, 1)]) rfl ?_
      exact rn_iretb rfl rfl rfl (Or.inr rfl) h rfl
set_option maxRecDepth 20000 in
theorem t_X_run (d : Nat) : ∀ (v1 : Int) (μ : am_M) q, X_run v1 μ = some q → am_ar g_mt (d + 8) 124 [(2, 0), (0, v1)] μ (am_res 0 q) := by
  intro v1 μ q h
  unfold X_run at h
  refine am_ar_of (d := d + 7) i_X_run rfl rfl (Nat.le_of_ble_eq_true rfl) ?_
  show am_run none (am_ar g_mt (d + 7)) 2 (some .int) k_X_run 0 [(0, (2, 0)), (1, (0, v1))] [] μ (am_res 0 q)
  refine rn_sls 1 (pc' := 1) (ls' := [(0, (2, 0)), (1, (0, v1))]) (st' := [(0, v1)]) rfl ?_
  refine rn_if (t := 11) rfl rfl rfl rfl h (fun h => ?_) (fun h => ?_)
  · refine rn_sls 1 (pc' := 12) (ls' := [(0, (2, 0)), (1, (0, v1))]) (st' := [(0, (-1))]) rfl ?_
    exact rn_ireti rfl rfl rfl h rfl
  · refine rn_sls 2 (pc' := 8) (ls' := [(0, (2, 0)), (1, (0, v1))]) (st' := [(0, 1000), (0, v1)]) rfl ?_
    refine rn_icmp (t := 13) rfl rfl rfl rfl h (fun h => ?_) (fun h => ?_)
    · refine rn_sls 5 (pc' := 22) (ls' := [(0, (2, 0)), (1, (0, v1))]) (st' := [(0, v1), (2, (μ 0 8)), (2, 300)]) rfl ?_
      refine rn_call 0 0 [(2, 300), (2, (μ 0 8)), (0, v1)] (r := []) rfl ⟨rfl, Or.inl ⟨_, rfl, by decide⟩⟩ (by decide) (fun _ => ⟨_, rfl, rfl⟩) rfl rfl (Nat.le_of_ble_eq_true rfl) h (fun w hw => t_Mc_go (d + 0) _ _ _ _ _ hw) (fun a1 μ2 h => ?_)
      refine rn_sls 0 (pc' := 25) (ls' := [(0, (2, 0)), (1, (0, v1))]) (st' := [(0, a1)]) rfl ?_
      exact rn_ireti rfl rfl rfl h rfl
    · refine rn_sls 1 (pc' := 12) (ls' := [(0, (2, 0)), (1, (0, v1))]) (st' := [(0, (-1))]) rfl ?_
      exact rn_ireti rfl rfl rfl h rfl
set_option maxRecDepth 20000 in
theorem t_X_machine (d : Nat) : ∀ (v1 : Int) (μ : am_M) q, X_machine v1 μ = some q → am_ar g_mt (d + 4) 125 [(2, 0), (0, v1)] μ (am_res 0 q) := by
  intro v1 μ q h
  unfold X_machine at h
  refine am_ar_of (d := d + 3) i_X_machine rfl rfl (Nat.le_of_ble_eq_true rfl) ?_
  show am_run none (am_ar g_mt (d + 3)) 2 (some .int) k_X_machine 0 [(0, (2, 0)), (1, (0, v1))] [] μ (am_res 0 q)
  refine rn_sls 3 (pc' := 5) (ls' := [(0, (2, 0)), (1, (0, v1))]) (st' := [(0, v1), (2, 300)]) rfl ?_
  refine rn_call 0 0 [(2, 300), (0, v1)] (r := []) rfl ⟨rfl, Or.inl ⟨_, rfl, by decide⟩⟩ (by decide) (fun _ => ⟨_, rfl, rfl⟩) rfl rfl (Nat.le_of_ble_eq_true rfl) h (fun w hw => t_Mc_tell (d + 0) _ _ _ _ hw) (fun a1 μ2 h => ?_)
  refine rn_sls 0 (pc' := 8) (ls' := [(0, (2, 0)), (1, (0, v1))]) (st' := [(0, a1)]) rfl ?_
  exact rn_ireti rfl rfl rfl h rfl
set_option maxRecDepth 20000 in
theorem t_X_given (d : Nat) : ∀  (μ : am_M) q, X_given  μ = some q → am_ar g_mt (d + 1) 126 [(2, 0)] μ (am_res 0 q) := by
  intro  μ q h
  unfold X_given at h
  refine am_ar_of (d := d + 0) i_X_given rfl rfl (Nat.le_of_ble_eq_true rfl) ?_
  show am_run none (am_ar g_mt (d + 0)) 1 (some .int) k_X_given 0 [(0, (2, 0))] [] μ (am_res 0 q)
  refine rn_sls 4 (pc' := 8) (ls' := [(0, (2, 0))]) (st' := [(0, 2), (0, (μ 300 6))]) rfl ?_
  refine rn_icmp (t := 21) rfl rfl rfl rfl h (fun h => ?_) (fun h => ?_)
  · refine rn_sls 3 (pc' := 28) (ls' := [(0, (2, 0))]) (st' := [(0, (μ 300 7))]) rfl ?_
    exact rn_ireti rfl rfl rfl h rfl
  · cases h
set_option maxRecDepth 20000 in
theorem t_X_free (d : Nat) : ∀ (v1 : Int) (v2 : Int) (v3 : Int) (v4 : Int) (v5 : Int) (μ : am_M) q, X_free v1 v2 v3 v4 v5 μ = some q → am_ar g_mt (d + 8) 127 [(2, 0), (0, v1), (0, v2), (0, v3), (0, v4), (0, v5)] μ (am_res 0 q) := by
  intro v1 v2 v3 v4 v5 μ q h
  unfold X_free at h
  refine am_ar_of (d := d + 7) i_X_free rfl rfl (Nat.le_of_ble_eq_true rfl) ?_
  show am_run none (am_ar g_mt (d + 7)) 6 (some .int) k_X_free 0 [(0, (2, 0)), (1, (0, v1)), (2, (0, v2)), (3, (0, v3)), (4, (0, v4)), (5, (0, v5))] [] μ (am_res 0 q)
  refine rn_sls 3 (pc' := 5) (ls' := [(0, (2, 0)), (1, (0, v1)), (2, (0, v2)), (3, (0, v3)), (4, (0, v4)), (5, (0, v5))]) (st' := [(0, v1), (2, (μ 0 8))]) rfl ?_
  refine rn_gd h (fun ho1 h => ?_)
  refine rn_call 0 0 [(2, (μ 0 8)), (0, v1)] (r := []) rfl ⟨rfl, Or.inl ⟨_, rfl, by decide⟩⟩ (by decide) (fun _ => ⟨_, rfl, ho1⟩) rfl rfl (Nat.le_of_ble_eq_true rfl) h (fun w hw => t_Bi_has (d + 6) _ _ _ _ hw) (fun a2 μ3 h => ?_)
  refine rn_sls 0 (pc' := 8) (ls' := [(0, (2, 0)), (1, (0, v1)), (2, (0, v2)), (3, (0, v3)), (4, (0, v4)), (5, (0, v5))]) (st' := [(0, a2)]) rfl ?_
  refine rn_ifn (t := 21) rfl rfl rfl rfl h (fun h => ?_) (fun h => ?_)
  · cases h
  · refine rn_sls 6 (pc' := 31) (ls' := [(0, (2, 0)), (1, (0, v1)), (2, (0, v2)), (3, (0, v3)), (4, (0, v4)), (5, (0, v5))]) (st' := [(0, v5), (0, v4), (0, v3), (0, v2), (2, 310)]) rfl ?_
    refine rn_call 0 2 [(2, 310), (0, v2), (0, v3), (0, v4), (0, v5)] (r := []) rfl ⟨rfl, Or.inl ⟨_, rfl, by decide⟩⟩ (by decide) (fun _ => ⟨_, rfl, rfl⟩) rfl rfl (Nat.le_of_ble_eq_true rfl) h (fun w hw => t_Mc_take (d + 5) _ _ _ _ _ _ _ hw) (fun a4 μ5 h => ?_)
    refine rn_sls 0 (pc' := 34) (ls' := [(0, (2, 0)), (1, (0, v1)), (2, (0, v2)), (3, (0, v3)), (4, (0, v4)), (5, (0, v5))]) (st' := []) rfl ?_
    refine rn_sls 5 (pc' := 43) (ls' := [(0, (2, 0)), (1, (0, v1)), (2, (0, v2)), (3, (0, v3)), (4, (0, v4)), (5, (0, v5))]) (st' := [(0, v1), (2, (μ5 0 8)), (2, 310)]) rfl ?_
    refine rn_call 0 2 [(2, 310), (2, (μ5 0 8)), (0, v1)] (r := []) rfl ⟨rfl, Or.inl ⟨_, rfl, by decide⟩⟩ (by decide) (fun _ => ⟨_, rfl, rfl⟩) rfl rfl (Nat.le_of_ble_eq_true rfl) h (fun w hw => t_Mc_start (d + 3) _ _ _ _ _ hw) (fun a6 μ7 h => ?_)
    refine rn_sls 0 (pc' := 46) (ls' := [(0, (2, 0)), (1, (0, v1)), (2, (0, v2)), (3, (0, v3)), (4, (0, v4)), (5, (0, v5))]) (st' := []) rfl ?_
    refine rn_sls 5 (pc' := 57) (ls' := [(0, (2, 0)), (1, (0, v1)), (2, (0, v2)), (3, (0, v3)), (4, (0, v4)), (5, (0, v5))]) (st' := [(0, 3000), (2, (μ7 0 8)), (2, 310)]) rfl ?_
    refine rn_call 0 0 [(2, 310), (2, (μ7 0 8)), (0, 3000)] (r := []) rfl ⟨rfl, Or.inl ⟨_, rfl, by decide⟩⟩ (by decide) (fun _ => ⟨_, rfl, rfl⟩) rfl rfl (Nat.le_of_ble_eq_true rfl) h (fun w hw => t_Mc_go (d + 0) _ _ _ _ _ hw) (fun a8 μ9 h => ?_)
    refine rn_sls 0 (pc' := 60) (ls' := [(0, (2, 0)), (1, (0, v1)), (2, (0, v2)), (3, (0, v3)), (4, (0, v4)), (5, (0, v5))]) (st' := [(0, a8)]) rfl ?_
    refine rn_sls 5 (pc' := 69) (ls' := [(0, (2, 0)), (1, (0, v1)), (2, (0, v2)), (3, (0, v3)), (4, (0, v4)), (5, (0, v5))]) (st' := [(0, 2), (0, (μ9 310 6))]) rfl ?_
    refine rn_icmp (t := 82) rfl rfl rfl rfl h (fun h => ?_) (fun h => ?_)
    · refine rn_sls 3 (pc' := 89) (ls' := [(0, (2, 0)), (1, (0, v1)), (2, (0, v2)), (3, (0, v3)), (4, (0, v4)), (5, (0, v5))]) (st' := [(0, (μ9 310 7))]) rfl ?_
      exact rn_ireti rfl rfl rfl h rfl
    · cases h
set_option maxRecDepth 20000 in
theorem t_X_ways (d : Nat) : ∀ (v1 : Int) (v2 : Int) (μ : am_M) q, X_ways v1 v2 μ = some q → am_ar g_mt (d + 6) 128 [(2, 0), (0, v1), (0, v2)] μ (am_res 0 q) := by
  intro v1 v2 μ q h
  unfold X_ways at h
  refine am_ar_of (d := d + 5) i_X_ways rfl rfl (Nat.le_of_ble_eq_true rfl) ?_
  show am_run none (am_ar g_mt (d + 5)) 3 (some .int) k_X_ways 0 [(0, (2, 0)), (1, (0, v1)), (2, (0, v2))] [] μ (am_res 0 q)
  refine rn_sls 3 (pc' := 5) (ls' := [(0, (2, 0)), (1, (0, v1)), (2, (0, v2))]) (st' := [(0, v1), (2, (μ 0 8))]) rfl ?_
  refine rn_gd h (fun ho1 h => ?_)
  refine rn_call 0 0 [(2, (μ 0 8)), (0, v1)] (r := []) rfl ⟨rfl, Or.inl ⟨_, rfl, by decide⟩⟩ (by decide) (fun _ => ⟨_, rfl, ho1⟩) rfl rfl (Nat.le_of_ble_eq_true rfl) h (fun w hw => t_Bi_has (d + 4) _ _ _ _ hw) (fun a2 μ3 h => ?_)
  refine rn_sls 0 (pc' := 8) (ls' := [(0, (2, 0)), (1, (0, v1)), (2, (0, v2))]) (st' := [(0, a2)]) rfl ?_
  refine rn_if (t := 20) rfl rfl rfl rfl h (fun h => ?_) (fun h => ?_)
  · refine rn_sls 1 (pc' := 21) (ls' := [(0, (2, 0)), (1, (0, v1)), (2, (0, v2))]) (st' := [(0, (-1))]) rfl ?_
    exact rn_ireti rfl rfl rfl h rfl
  · refine rn_sls 1 (pc' := 12) (ls' := [(0, (2, 0)), (1, (0, v1)), (2, (0, v2))]) (st' := [(0, v2)]) rfl ?_
    refine rn_if (t := 20) rfl rfl rfl rfl h (fun h => ?_) (fun h => ?_)
    · refine rn_sls 1 (pc' := 21) (ls' := [(0, (2, 0)), (1, (0, v1)), (2, (0, v2))]) (st' := [(0, (-1))]) rfl ?_
      exact rn_ireti rfl rfl rfl h rfl
    · refine rn_sls 2 (pc' := 17) (ls' := [(0, (2, 0)), (1, (0, v1)), (2, (0, v2))]) (st' := [(0, 2), (0, v2)]) rfl ?_
      refine rn_icmp (t := 22) rfl rfl rfl rfl h (fun h => ?_) (fun h => ?_)
      · refine rn_sls 1 (pc' := 23) (ls' := [(0, (2, 0)), (1, (0, v1)), (2, (0, v2))]) (st' := [(0, v2)]) rfl ?_
        refine rn_ifn (t := 39) rfl rfl rfl rfl h (fun h => ?_) (fun h => ?_)
        · refine rn_sls 5 (pc' := 35) (ls' := [(0, (2, 0)), (1, (0, v1)), (2, (0, v2))]) (st' := [(0, v1), (2, (μ3 0 8)), (2, 50)]) rfl ?_
          refine rn_call 0 0 [(2, 50), (2, (μ3 0 8)), (0, v1)] (r := []) rfl ⟨rfl, Or.inl ⟨_, rfl, by decide⟩⟩ (by decide) (fun _ => ⟨_, rfl, rfl⟩) rfl rfl (Nat.le_of_ble_eq_true rfl) h (fun w hw => t_Wy_howMany (d + 2) _ _ _ _ hw) (fun a6 μ7 h => ?_)
          refine rn_sls 0 (pc' := 38) (ls' := [(0, (2, 0)), (1, (0, v1)), (2, (0, v2))]) (st' := [(0, a6)]) rfl ?_
          exact rn_ireti rfl rfl rfl h rfl
        · refine rn_sls 6 (pc' := 49) (ls' := [(0, (2, 0)), (1, (0, v1)), (2, (0, v2))]) (st' := [(0, (-1)), (0, v1), (2, (μ3 0 8)), (2, 50)]) rfl ?_
          refine rn_call 0 2 [(2, 50), (2, (μ3 0 8)), (0, v1), (0, (-1))] (r := []) rfl ⟨rfl, Or.inl ⟨_, rfl, by decide⟩⟩ (by decide) (fun _ => ⟨_, rfl, rfl⟩) rfl rfl (Nat.le_of_ble_eq_true rfl) h (fun w hw => t_Wy_measure (d + 0) _ _ _ _ _ hw) (fun a4 μ5 h => ?_)
          refine rn_sls 0 (pc' := 52) (ls' := [(0, (2, 0)), (1, (0, v1)), (2, (0, v2))]) (st' := []) rfl ?_
          refine rn_sls 2 (pc' := 54) (ls' := [(0, (2, 0)), (1, (0, v1)), (2, (0, v2))]) (st' := [(0, 1), (0, v2)]) rfl ?_
          refine rn_icmpn (t := 67) rfl rfl rfl rfl h (fun h => ?_) (fun h => ?_)
          · refine rn_sls 3 (pc' := 64) (ls' := [(0, (2, 0)), (1, (0, v1)), (2, (0, v2))]) (st' := [(0, (μ5 50 12))]) rfl ?_
            refine rn_goto (t := 74) rfl rfl rfl ?_
            exact rn_ireti rfl rfl rfl h rfl
          · refine rn_sls 3 (pc' := 74) (ls' := [(0, (2, 0)), (1, (0, v1)), (2, (0, v2))]) (st' := [(0, (μ5 50 11))]) rfl ?_
            exact rn_ireti rfl rfl rfl h rfl
      · refine rn_sls 1 (pc' := 21) (ls' := [(0, (2, 0)), (1, (0, v1)), (2, (0, v2))]) (st' := [(0, (-1))]) rfl ?_
        exact rn_ireti rfl rfl rfl h rfl
set_option maxRecDepth 20000 in
theorem t_X_reads (d : Nat) : ∀ (v1 : Int) (v2 : Int) (v3 : Int) (μ : am_M) q, X_reads v1 v2 v3 μ = some q → am_ar g_mt (d + 6) 129 [(2, 0), (0, v1), (0, v2), (0, v3)] μ (am_res 0 q) := by
  intro v1 v2 v3 μ q h
  unfold X_reads at h
  refine am_ar_of (d := d + 5) i_X_reads rfl rfl (Nat.le_of_ble_eq_true rfl) ?_
  show am_run none (am_ar g_mt (d + 5)) 4 (some .int) k_X_reads 0 [(0, (2, 0)), (1, (0, v1)), (2, (0, v2)), (3, (0, v3))] [] μ (am_res 0 q)
  refine rn_sls 3 (pc' := 5) (ls' := [(0, (2, 0)), (1, (0, v1)), (2, (0, v2)), (3, (0, v3))]) (st' := [(0, v1), (2, (μ 0 8))]) rfl ?_
  refine rn_gd h (fun ho1 h => ?_)
  refine rn_call 0 0 [(2, (μ 0 8)), (0, v1)] (r := []) rfl ⟨rfl, Or.inl ⟨_, rfl, by decide⟩⟩ (by decide) (fun _ => ⟨_, rfl, ho1⟩) rfl rfl (Nat.le_of_ble_eq_true rfl) h (fun w hw => t_Bi_has (d + 4) _ _ _ _ hw) (fun a2 μ3 h => ?_)
  refine rn_sls 0 (pc' := 8) (ls' := [(0, (2, 0)), (1, (0, v1)), (2, (0, v2)), (3, (0, v3))]) (st' := [(0, a2)]) rfl ?_
  refine rn_if (t := 20) rfl rfl rfl rfl h (fun h => ?_) (fun h => ?_)
  · refine rn_sls 1 (pc' := 21) (ls' := [(0, (2, 0)), (1, (0, v1)), (2, (0, v2)), (3, (0, v3))]) (st' := [(0, (-1))]) rfl ?_
    exact rn_ireti rfl rfl rfl h rfl
  · refine rn_sls 1 (pc' := 12) (ls' := [(0, (2, 0)), (1, (0, v1)), (2, (0, v2)), (3, (0, v3))]) (st' := [(0, v3)]) rfl ?_
    refine rn_if (t := 20) rfl rfl rfl rfl h (fun h => ?_) (fun h => ?_)
    · refine rn_sls 1 (pc' := 21) (ls' := [(0, (2, 0)), (1, (0, v1)), (2, (0, v2)), (3, (0, v3))]) (st' := [(0, (-1))]) rfl ?_
      exact rn_ireti rfl rfl rfl h rfl
    · refine rn_sls 2 (pc' := 17) (ls' := [(0, (2, 0)), (1, (0, v1)), (2, (0, v2)), (3, (0, v3))]) (st' := [(0, 1), (0, v3)]) rfl ?_
      refine rn_icmp (t := 22) rfl rfl rfl rfl h (fun h => ?_) (fun h => ?_)
      · refine rn_sls 1 (pc' := 23) (ls' := [(0, (2, 0)), (1, (0, v1)), (2, (0, v2)), (3, (0, v3))]) (st' := [(0, v2)]) rfl ?_
        refine rn_if (t := 41) rfl rfl rfl rfl h (fun h => ?_) (fun h => ?_)
        · refine rn_sls 1 (pc' := 42) (ls' := [(0, (2, 0)), (1, (0, v1)), (2, (0, v2)), (3, (0, v3))]) (st' := [(0, (-1))]) rfl ?_
          exact rn_ireti rfl rfl rfl h rfl
        · refine rn_sls 3 (pc' := 31) (ls' := [(0, (2, 0)), (1, (0, v1)), (2, (0, v2)), (3, (0, v3))]) (st' := [(2, (μ3 0 8)), (0, v2)]) rfl ?_
          refine rn_gd h (fun ho4 h => ?_)
          refine rn_get ho4 rfl rfl rfl ?_
          refine rn_sls 0 (pc' := 34) (ls' := [(0, (2, 0)), (1, (0, v1)), (2, (0, v2)), (3, (0, v3))]) (st' := [(2, ((μ3 0 8) + 18)), (0, v2)]) rfl ?_
          refine rn_sls 1 (pc' := 35) (ls' := [(0, (2, 0)), (1, (0, v1)), (2, (0, v2)), (3, (0, v3))]) (st' := [(0, v1), (2, ((μ3 0 8) + 18)), (0, v2)]) rfl ?_
          refine rn_call 2 0 [(2, ((μ3 0 8) + 18)), (0, v1)] (r := [(0, v2)]) rfl ⟨rfl, Or.inr ⟨_, rfl, by decide⟩⟩ (by decide) (fun z => absurd z (by decide)) rfl rfl (Nat.le_of_ble_eq_true rfl) h (fun w hw => t_X_at (d + 4) _ _ _ _ hw) (fun a5 μ6 h => ?_)
          refine rn_sls 0 (pc' := 38) (ls' := [(0, (2, 0)), (1, (0, v1)), (2, (0, v2)), (3, (0, v3))]) (st' := [(0, a5), (0, v2)]) rfl ?_
          refine rn_icmp (t := 43) rfl rfl rfl rfl h (fun h => ?_) (fun h => ?_)
          · refine rn_sls 6 (pc' := 53) (ls' := [(0, (2, 0)), (1, (0, v1)), (2, (0, v2)), (3, (0, v3))]) (st' := [(0, v2), (0, v1), (2, (μ6 0 8)), (2, 50)]) rfl ?_
            refine rn_call 0 2 [(2, 50), (2, (μ6 0 8)), (0, v1), (0, v2)] (r := []) rfl ⟨rfl, Or.inl ⟨_, rfl, by decide⟩⟩ (by decide) (fun _ => ⟨_, rfl, rfl⟩) rfl rfl (Nat.le_of_ble_eq_true rfl) h (fun w hw => t_Wy_measure (d + 0) _ _ _ _ _ hw) (fun a7 μ8 h => ?_)
            refine rn_sls 0 (pc' := 56) (ls' := [(0, (2, 0)), (1, (0, v1)), (2, (0, v2)), (3, (0, v3))]) (st' := []) rfl ?_
            refine rn_sls 2 (pc' := 58) (ls' := [(0, (2, 0)), (1, (0, v1)), (2, (0, v2)), (3, (0, v3))]) (st' := [(0, 1), (0, v3)]) rfl ?_
            refine rn_icmpn (t := 71) rfl rfl rfl rfl h (fun h => ?_) (fun h => ?_)
            · refine rn_sls 3 (pc' := 68) (ls' := [(0, (2, 0)), (1, (0, v1)), (2, (0, v2)), (3, (0, v3))]) (st' := [(0, (μ8 50 12))]) rfl ?_
              refine rn_goto (t := 78) rfl rfl rfl ?_
              exact rn_ireti rfl rfl rfl h rfl
            · refine rn_sls 3 (pc' := 78) (ls' := [(0, (2, 0)), (1, (0, v1)), (2, (0, v2)), (3, (0, v3))]) (st' := [(0, (μ8 50 11))]) rfl ?_
              exact rn_ireti rfl rfl rfl h rfl
          · refine rn_sls 1 (pc' := 42) (ls' := [(0, (2, 0)), (1, (0, v1)), (2, (0, v2)), (3, (0, v3))]) (st' := [(0, (-1))]) rfl ?_
            exact rn_ireti rfl rfl rfl h rfl
      · refine rn_sls 1 (pc' := 21) (ls' := [(0, (2, 0)), (1, (0, v1)), (2, (0, v2)), (3, (0, v3))]) (st' := [(0, (-1))]) rfl ?_
        exact rn_ireti rfl rfl rfl h rfl
set_option maxRecDepth 20000 in
theorem t_X_needs (d : Nat) : ∀ (v1 : Int) (v2 : Int) (μ : am_M) q, X_needs v1 v2 μ = some q → am_ar g_mt (d + 7) 130 [(2, 0), (0, v1), (0, v2)] μ (am_res 0 q) := by
  intro v1 v2 μ q h
  unfold X_needs at h
  refine am_ar_of (d := d + 6) i_X_needs rfl rfl (Nat.le_of_ble_eq_true rfl) ?_
  show am_run none (am_ar g_mt (d + 6)) 3 (some .int) k_X_needs 0 [(0, (2, 0)), (1, (0, v1)), (2, (0, v2))] [] μ (am_res 0 q)
  refine rn_sls 3 (pc' := 5) (ls' := [(0, (2, 0)), (1, (0, v1)), (2, (0, v2))]) (st' := [(0, v1), (2, (μ 0 8))]) rfl ?_
  refine rn_gd h (fun ho1 h => ?_)
  refine rn_call 0 0 [(2, (μ 0 8)), (0, v1)] (r := []) rfl ⟨rfl, Or.inl ⟨_, rfl, by decide⟩⟩ (by decide) (fun _ => ⟨_, rfl, ho1⟩) rfl rfl (Nat.le_of_ble_eq_true rfl) h (fun w hw => t_Bi_has (d + 5) _ _ _ _ hw) (fun a2 μ3 h => ?_)
  refine rn_sls 0 (pc' := 8) (ls' := [(0, (2, 0)), (1, (0, v1)), (2, (0, v2))]) (st' := [(0, a2)]) rfl ?_
  refine rn_if (t := 20) rfl rfl rfl rfl h (fun h => ?_) (fun h => ?_)
  · refine rn_sls 1 (pc' := 21) (ls' := [(0, (2, 0)), (1, (0, v1)), (2, (0, v2))]) (st' := [(0, (-1))]) rfl ?_
    exact rn_ireti rfl rfl rfl h rfl
  · refine rn_sls 1 (pc' := 12) (ls' := [(0, (2, 0)), (1, (0, v1)), (2, (0, v2))]) (st' := [(0, v2)]) rfl ?_
    refine rn_if (t := 20) rfl rfl rfl rfl h (fun h => ?_) (fun h => ?_)
    · refine rn_sls 1 (pc' := 21) (ls' := [(0, (2, 0)), (1, (0, v1)), (2, (0, v2))]) (st' := [(0, (-1))]) rfl ?_
      exact rn_ireti rfl rfl rfl h rfl
    · refine rn_sls 2 (pc' := 17) (ls' := [(0, (2, 0)), (1, (0, v1)), (2, (0, v2))]) (st' := [(0, 3), (0, v2)]) rfl ?_
      refine rn_icmp (t := 22) rfl rfl rfl rfl h (fun h => ?_) (fun h => ?_)
      · refine rn_sls 6 (pc' := 32) (ls' := [(0, (2, 0)), (1, (0, v1)), (2, (0, v2))]) (st' := [(0, v2), (0, v1), (2, (μ3 0 8)), (2, 50)]) rfl ?_
        refine rn_call 0 0 [(2, 50), (2, (μ3 0 8)), (0, v1), (0, v2)] (r := []) rfl ⟨rfl, Or.inl ⟨_, rfl, by decide⟩⟩ (by decide) (fun _ => ⟨_, rfl, rfl⟩) rfl rfl (Nat.le_of_ble_eq_true rfl) h (fun w hw => t_Wy_need (d + 0) _ _ _ _ _ hw) (fun a4 μ5 h => ?_)
        refine rn_sls 0 (pc' := 35) (ls' := [(0, (2, 0)), (1, (0, v1)), (2, (0, v2))]) (st' := [(0, a4)]) rfl ?_
        exact rn_ireti rfl rfl rfl h rfl
      · refine rn_sls 1 (pc' := 21) (ls' := [(0, (2, 0)), (1, (0, v1)), (2, (0, v2))]) (st' := [(0, (-1))]) rfl ?_
        exact rn_ireti rfl rfl rfl h rfl
set_option maxRecDepth 20000 in
theorem t_X_plain (d : Nat) : ∀ (v1 : Int) (μ : am_M) q, X_plain v1 μ = some q → am_ar g_mt (d + 5) 131 [(2, 0), (0, v1)] μ (am_res 0 q) := by
  intro v1 μ q h
  unfold X_plain at h
  refine am_ar_of (d := d + 4) i_X_plain rfl rfl (Nat.le_of_ble_eq_true rfl) ?_
  show am_run none (am_ar g_mt (d + 4)) 2 (some .int) k_X_plain 0 [(0, (2, 0)), (1, (0, v1))] [] μ (am_res 0 q)
  refine rn_sls 3 (pc' := 5) (ls' := [(0, (2, 0)), (1, (0, v1))]) (st' := [(0, v1), (2, (μ 0 8))]) rfl ?_
  refine rn_gd h (fun ho1 h => ?_)
  refine rn_call 0 0 [(2, (μ 0 8)), (0, v1)] (r := []) rfl ⟨rfl, Or.inl ⟨_, rfl, by decide⟩⟩ (by decide) (fun _ => ⟨_, rfl, ho1⟩) rfl rfl (Nat.le_of_ble_eq_true rfl) h (fun w hw => t_Bi_has (d + 3) _ _ _ _ hw) (fun a2 μ3 h => ?_)
  refine rn_sls 0 (pc' := 8) (ls' := [(0, (2, 0)), (1, (0, v1))]) (st' := [(0, a2)]) rfl ?_
  refine rn_ifn (t := 13) rfl rfl rfl rfl h (fun h => ?_) (fun h => ?_)
  · refine rn_sls 1 (pc' := 12) (ls' := [(0, (2, 0)), (1, (0, v1))]) (st' := [(0, (-1))]) rfl ?_
    exact rn_ireti rfl rfl rfl h rfl
  · refine rn_sls 3 (pc' := 18) (ls' := [(0, (2, 0)), (1, (0, v1))]) (st' := [(0, v1), (2, (μ3 0 8))]) rfl ?_
    refine rn_gd h (fun ho4 h => ?_)
    refine rn_call 0 0 [(2, (μ3 0 8)), (0, v1)] (r := []) rfl ⟨rfl, Or.inl ⟨_, rfl, by decide⟩⟩ (by decide) (fun _ => ⟨_, rfl, ho4⟩) rfl rfl (Nat.le_of_ble_eq_true rfl) h (fun w hw => t_Bi_isPlain (d + 0) _ _ _ _ hw) (fun a5 μ6 h => ?_)
    refine rn_sls 0 (pc' := 21) (ls' := [(0, (2, 0)), (1, (0, v1))]) (st' := [(0, a5)]) rfl ?_
    refine rn_if (t := 28) rfl rfl rfl rfl h (fun h => ?_) (fun h => ?_)
    · refine rn_sls 1 (pc' := 29) (ls' := [(0, (2, 0)), (1, (0, v1))]) (st' := [(0, 0)]) rfl ?_
      exact rn_ireti rfl rfl rfl h rfl
    · refine rn_sls 1 (pc' := 25) (ls' := [(0, (2, 0)), (1, (0, v1))]) (st' := [(0, 1)]) rfl ?_
      refine rn_goto (t := 29) rfl rfl rfl ?_
      exact rn_ireti rfl rfl rfl h rfl
set_option maxRecDepth 20000 in
theorem t_X_fewest (d : Nat) : ∀ (v1 : Int) (μ : am_M) q, X_fewest v1 μ = some q → am_ar g_mt (d + 7) 132 [(2, 0), (0, v1)] μ (am_res 0 q) := by
  intro v1 μ q h
  unfold X_fewest at h
  refine am_ar_of (d := d + 6) i_X_fewest rfl rfl (Nat.le_of_ble_eq_true rfl) ?_
  show am_run none (am_ar g_mt (d + 6)) 2 (some .int) k_X_fewest 0 [(0, (2, 0)), (1, (0, v1))] [] μ (am_res 0 q)
  refine rn_sls 5 (pc' := 9) (ls' := [(0, (2, 0)), (1, (0, v1))]) (st' := [(0, v1), (2, (μ 0 8)), (2, 60)]) rfl ?_
  refine rn_call 0 0 [(2, 60), (2, (μ 0 8)), (0, v1)] (r := []) rfl ⟨rfl, Or.inl ⟨_, rfl, by decide⟩⟩ (by decide) (fun _ => ⟨_, rfl, rfl⟩) rfl rfl (Nat.le_of_ble_eq_true rfl) h (fun w hw => t_Or_prepare (d + 0) _ _ _ _ hw) (fun a1 μ2 h => ?_)
  refine rn_sls 0 (pc' := 12) (ls' := [(0, (2, 0)), (1, (0, v1))]) (st' := [(0, a1)]) rfl ?_
  refine rn_if (t := 25) rfl rfl rfl rfl h (fun h => ?_) (fun h => ?_)
  · refine rn_sls 1 (pc' := 26) (ls' := [(0, (2, 0)), (1, (0, v1))]) (st' := [(0, (-1))]) rfl ?_
    exact rn_ireti rfl rfl rfl h rfl
  · refine rn_sls 2 (pc' := 19) (ls' := [(0, (2, 0)), (1, (0, v1))]) (st' := [(2, 60)]) rfl ?_
    refine rn_call 0 0 [(2, 60)] (r := []) rfl ⟨rfl, Or.inl ⟨_, rfl, by decide⟩⟩ (by decide) (fun _ => ⟨_, rfl, rfl⟩) rfl rfl (Nat.le_of_ble_eq_true rfl) h (fun w hw => t_Or_least (d + 4)  _ _ hw) (fun a3 μ4 h => ?_)
    refine rn_sls 0 (pc' := 22) (ls' := [(0, (2, 0)), (1, (0, v1))]) (st' := [(0, a3)]) rfl ?_
    refine rn_goto (t := 26) rfl rfl rfl ?_
    exact rn_ireti rfl rfl rfl h rfl
set_option maxRecDepth 20000 in
theorem t_X_order (d : Nat) : ∀ (v1 : Int) (v2 : Int) (μ : am_M) q, X_order v1 v2 μ = some q → am_ar g_mt (d + 7) 133 [(2, 0), (0, v1), (0, v2)] μ (am_res 0 q) := by
  intro v1 v2 μ q h
  unfold X_order at h
  refine am_ar_of (d := d + 6) i_X_order rfl rfl (Nat.le_of_ble_eq_true rfl) ?_
  show am_run none (am_ar g_mt (d + 6)) 3 (some .int) k_X_order 0 [(0, (2, 0)), (1, (0, v1)), (2, (0, v2))] [] μ (am_res 0 q)
  refine rn_sls 5 (pc' := 9) (ls' := [(0, (2, 0)), (1, (0, v1)), (2, (0, v2))]) (st' := [(0, v1), (2, (μ 0 8)), (2, 60)]) rfl ?_
  refine rn_call 0 0 [(2, 60), (2, (μ 0 8)), (0, v1)] (r := []) rfl ⟨rfl, Or.inl ⟨_, rfl, by decide⟩⟩ (by decide) (fun _ => ⟨_, rfl, rfl⟩) rfl rfl (Nat.le_of_ble_eq_true rfl) h (fun w hw => t_Or_prepare (d + 0) _ _ _ _ hw) (fun a1 μ2 h => ?_)
  refine rn_sls 0 (pc' := 12) (ls' := [(0, (2, 0)), (1, (0, v1)), (2, (0, v2))]) (st' := [(0, a1)]) rfl ?_
  refine rn_if (t := 26) rfl rfl rfl rfl h (fun h => ?_) (fun h => ?_)
  · refine rn_sls 1 (pc' := 27) (ls' := [(0, (2, 0)), (1, (0, v1)), (2, (0, v2))]) (st' := [(0, (-1))]) rfl ?_
    exact rn_ireti rfl rfl rfl h rfl
  · refine rn_sls 3 (pc' := 20) (ls' := [(0, (2, 0)), (1, (0, v1)), (2, (0, v2))]) (st' := [(0, v2), (2, 60)]) rfl ?_
    refine rn_call 0 0 [(2, 60), (0, v2)] (r := []) rfl ⟨rfl, Or.inl ⟨_, rfl, by decide⟩⟩ (by decide) (fun _ => ⟨_, rfl, rfl⟩) rfl rfl (Nat.le_of_ble_eq_true rfl) h (fun w hw => t_Or_sumAt (d + 2) _ _ _ hw) (fun a3 μ4 h => ?_)
    refine rn_sls 0 (pc' := 23) (ls' := [(0, (2, 0)), (1, (0, v1)), (2, (0, v2))]) (st' := [(0, a3)]) rfl ?_
    refine rn_goto (t := 27) rfl rfl rfl ?_
    exact rn_ireti rfl rfl rfl h rfl
set_option maxRecDepth 20000 in
theorem t_X_asTold (d : Nat) : ∀ (v1 : Int) (μ : am_M) q, X_asTold v1 μ = some q → am_ar g_mt (d + 7) 134 [(2, 0), (0, v1)] μ (am_res 0 q) := by
  intro v1 μ q h
  unfold X_asTold at h
  refine am_ar_of (d := d + 6) i_X_asTold rfl rfl (Nat.le_of_ble_eq_true rfl) ?_
  show am_run none (am_ar g_mt (d + 6)) 2 (some .int) k_X_asTold 0 [(0, (2, 0)), (1, (0, v1))] [] μ (am_res 0 q)
  refine rn_sls 5 (pc' := 9) (ls' := [(0, (2, 0)), (1, (0, v1))]) (st' := [(0, v1), (2, (μ 0 8)), (2, 60)]) rfl ?_
  refine rn_call 0 0 [(2, 60), (2, (μ 0 8)), (0, v1)] (r := []) rfl ⟨rfl, Or.inl ⟨_, rfl, by decide⟩⟩ (by decide) (fun _ => ⟨_, rfl, rfl⟩) rfl rfl (Nat.le_of_ble_eq_true rfl) h (fun w hw => t_Or_prepare (d + 0) _ _ _ _ hw) (fun a1 μ2 h => ?_)
  refine rn_sls 0 (pc' := 12) (ls' := [(0, (2, 0)), (1, (0, v1))]) (st' := [(0, a1)]) rfl ?_
  refine rn_if (t := 25) rfl rfl rfl rfl h (fun h => ?_) (fun h => ?_)
  · refine rn_sls 1 (pc' := 26) (ls' := [(0, (2, 0)), (1, (0, v1))]) (st' := [(0, (-1))]) rfl ?_
    exact rn_ireti rfl rfl rfl h rfl
  · refine rn_sls 2 (pc' := 19) (ls' := [(0, (2, 0)), (1, (0, v1))]) (st' := [(2, 60)]) rfl ?_
    refine rn_call 0 0 [(2, 60)] (r := []) rfl ⟨rfl, Or.inl ⟨_, rfl, by decide⟩⟩ (by decide) (fun _ => ⟨_, rfl, rfl⟩) rfl rfl (Nat.le_of_ble_eq_true rfl) h (fun w hw => t_Or_greatestAsTold (d + 4)  _ _ hw) (fun a3 μ4 h => ?_)
    refine rn_sls 0 (pc' := 22) (ls' := [(0, (2, 0)), (1, (0, v1))]) (st' := [(0, a3)]) rfl ?_
    refine rn_goto (t := 26) rfl rfl rfl ?_
    exact rn_ireti rfl rfl rfl h rfl
set_option maxRecDepth 20000 in
theorem t_X_orders (d : Nat) : ∀ (v1 : Int) (v2 : Int) (μ : am_M) q, X_orders v1 v2 μ = some q → am_ar g_mt (d + 7) 135 [(2, 0), (0, v1), (0, v2)] μ (am_res 1 q) := by
  intro v1 v2 μ q h
  unfold X_orders at h
  refine am_ar_of (d := d + 6) i_X_orders rfl rfl (Nat.le_of_ble_eq_true rfl) ?_
  show am_run none (am_ar g_mt (d + 6)) 3 (some .long) k_X_orders 0 [(0, (2, 0)), (1, (0, v1)), (2, (0, v2))] [] μ (am_res 1 q)
  refine rn_sls 1 (pc' := 1) (ls' := [(0, (2, 0)), (1, (0, v1)), (2, (0, v2))]) (st' := [(0, v2)]) rfl ?_
  refine rn_if (t := 25) rfl rfl rfl rfl h (fun h => ?_) (fun h => ?_)
  · refine rn_sls 1 (pc' := 28) (ls' := [(0, (2, 0)), (1, (0, v1)), (2, (0, v2))]) (st' := [(1, (-1))]) rfl ?_
    exact rn_lret rfl rfl rfl h rfl
  · refine rn_sls 2 (pc' := 7) (ls' := [(0, (2, 0)), (1, (0, v1)), (2, (0, v2))]) (st' := [(0, 20), (0, v2)]) rfl ?_
    refine rn_icmpn (t := 25) rfl rfl rfl rfl h (fun h => ?_) (fun h => ?_)
    · refine rn_sls 5 (pc' := 19) (ls' := [(0, (2, 0)), (1, (0, v1)), (2, (0, v2))]) (st' := [(0, v1), (2, (μ 0 8)), (2, 60)]) rfl ?_
      refine rn_call 0 0 [(2, 60), (2, (μ 0 8)), (0, v1)] (r := []) rfl ⟨rfl, Or.inl ⟨_, rfl, by decide⟩⟩ (by decide) (fun _ => ⟨_, rfl, rfl⟩) rfl rfl (Nat.le_of_ble_eq_true rfl) h (fun w hw => t_Or_prepare (d + 0) _ _ _ _ hw) (fun a1 μ2 h => ?_)
      refine rn_sls 0 (pc' := 22) (ls' := [(0, (2, 0)), (1, (0, v1)), (2, (0, v2))]) (st' := [(0, a1)]) rfl ?_
      refine rn_ifn (t := 29) rfl rfl rfl rfl h (fun h => ?_) (fun h => ?_)
      · refine rn_sls 1 (pc' := 28) (ls' := [(0, (2, 0)), (1, (0, v1)), (2, (0, v2))]) (st' := [(1, (-1))]) rfl ?_
        exact rn_lret rfl rfl rfl h rfl
      · refine rn_sls 3 (pc' := 34) (ls' := [(0, (2, 0)), (1, (0, v1)), (2, (0, v2))]) (st' := [(0, v2), (2, 60)]) rfl ?_
        refine rn_call 0 1 [(2, 60), (0, v2)] (r := []) rfl ⟨rfl, Or.inl ⟨_, rfl, by decide⟩⟩ (by decide) (fun _ => ⟨_, rfl, rfl⟩) rfl rfl (Nat.le_of_ble_eq_true rfl) h (fun w hw => t_Or_howMany (d + 2) _ _ _ hw) (fun a3 μ4 h => ?_)
        refine rn_sls 0 (pc' := 37) (ls' := [(0, (2, 0)), (1, (0, v1)), (2, (0, v2))]) (st' := [(1, a3)]) rfl ?_
        exact rn_lret rfl rfl rfl h rfl
    · refine rn_sls 1 (pc' := 28) (ls' := [(0, (2, 0)), (1, (0, v1)), (2, (0, v2))]) (st' := [(1, (-1))]) rfl ?_
      exact rn_lret rfl rfl rfl h rfl
set_option maxRecDepth 20000 in
theorem t_X_cheapest (d : Nat) : ∀ (v1 : Int) (v2 : Int) (v3 : Int) (μ : am_M) q, X_cheapest v1 v2 v3 μ = some q → am_ar g_mt (d + 7) 136 [(2, 0), (0, v1), (0, v2), (0, v3)] μ (am_res 1 q) := by
  intro v1 v2 v3 μ q h
  unfold X_cheapest at h
  refine am_ar_of (d := d + 6) i_X_cheapest rfl rfl (Nat.le_of_ble_eq_true rfl) ?_
  show am_run none (am_ar g_mt (d + 6)) 4 (some .long) k_X_cheapest 0 [(0, (2, 0)), (1, (0, v1)), (2, (0, v2)), (3, (0, v3))] [] μ (am_res 1 q)
  refine rn_sls 1 (pc' := 1) (ls' := [(0, (2, 0)), (1, (0, v1)), (2, (0, v2)), (3, (0, v3))]) (st' := [(0, v2)]) rfl ?_
  refine rn_if (t := 20) rfl rfl rfl rfl h (fun h => ?_) (fun h => ?_)
  · refine rn_sls 1 (pc' := 23) (ls' := [(0, (2, 0)), (1, (0, v1)), (2, (0, v2)), (3, (0, v3))]) (st' := [(1, (-1))]) rfl ?_
    exact rn_lret rfl rfl rfl h rfl
  · refine rn_sls 2 (pc' := 7) (ls' := [(0, (2, 0)), (1, (0, v1)), (2, (0, v2)), (3, (0, v3))]) (st' := [(0, 99), (0, v2)]) rfl ?_
    refine rn_icmpn (t := 20) rfl rfl rfl rfl h (fun h => ?_) (fun h => ?_)
    · refine rn_sls 1 (pc' := 11) (ls' := [(0, (2, 0)), (1, (0, v1)), (2, (0, v2)), (3, (0, v3))]) (st' := [(0, v3)]) rfl ?_
      refine rn_if (t := 20) rfl rfl rfl rfl h (fun h => ?_) (fun h => ?_)
      · refine rn_sls 1 (pc' := 23) (ls' := [(0, (2, 0)), (1, (0, v1)), (2, (0, v2)), (3, (0, v3))]) (st' := [(1, (-1))]) rfl ?_
        exact rn_lret rfl rfl rfl h rfl
      · refine rn_sls 2 (pc' := 17) (ls' := [(0, (2, 0)), (1, (0, v1)), (2, (0, v2)), (3, (0, v3))]) (st' := [(0, 99), (0, v3)]) rfl ?_
        refine rn_icmp (t := 24) rfl rfl rfl rfl h (fun h => ?_) (fun h => ?_)
        · refine rn_sls 5 (pc' := 33) (ls' := [(0, (2, 0)), (1, (0, v1)), (2, (0, v2)), (3, (0, v3))]) (st' := [(0, v1), (2, (μ 0 8)), (2, 60)]) rfl ?_
          refine rn_call 0 0 [(2, 60), (2, (μ 0 8)), (0, v1)] (r := []) rfl ⟨rfl, Or.inl ⟨_, rfl, by decide⟩⟩ (by decide) (fun _ => ⟨_, rfl, rfl⟩) rfl rfl (Nat.le_of_ble_eq_true rfl) h (fun w hw => t_Or_prepare (d + 0) _ _ _ _ hw) (fun a1 μ2 h => ?_)
          refine rn_sls 0 (pc' := 36) (ls' := [(0, (2, 0)), (1, (0, v1)), (2, (0, v2)), (3, (0, v3))]) (st' := [(0, a1)]) rfl ?_
          refine rn_if (t := 51) rfl rfl rfl rfl h (fun h => ?_) (fun h => ?_)
          · refine rn_sls 1 (pc' := 54) (ls' := [(0, (2, 0)), (1, (0, v1)), (2, (0, v2)), (3, (0, v3))]) (st' := [(1, (-1))]) rfl ?_
            exact rn_lret rfl rfl rfl h rfl
          · refine rn_sls 4 (pc' := 45) (ls' := [(0, (2, 0)), (1, (0, v1)), (2, (0, v2)), (3, (0, v3))]) (st' := [(0, v3), (0, v2), (2, 60)]) rfl ?_
            refine rn_call 0 1 [(2, 60), (0, v2), (0, v3)] (r := []) rfl ⟨rfl, Or.inl ⟨_, rfl, by decide⟩⟩ (by decide) (fun _ => ⟨_, rfl, rfl⟩) rfl rfl (Nat.le_of_ble_eq_true rfl) h (fun w hw => t_Or_leastCoin (d + 3) _ _ _ _ hw) (fun a3 μ4 h => ?_)
            refine rn_sls 0 (pc' := 48) (ls' := [(0, (2, 0)), (1, (0, v1)), (2, (0, v2)), (3, (0, v3))]) (st' := [(1, a3)]) rfl ?_
            refine rn_goto (t := 54) rfl rfl rfl ?_
            exact rn_lret rfl rfl rfl h rfl
        · refine rn_sls 1 (pc' := 23) (ls' := [(0, (2, 0)), (1, (0, v1)), (2, (0, v2)), (3, (0, v3))]) (st' := [(1, (-1))]) rfl ?_
          exact rn_lret rfl rfl rfl h rfl
    · refine rn_sls 1 (pc' := 23) (ls' := [(0, (2, 0)), (1, (0, v1)), (2, (0, v2)), (3, (0, v3))]) (st' := [(1, (-1))]) rfl ?_
      exact rn_lret rfl rfl rfl h rfl
set_option maxRecDepth 20000 in
theorem t_X_mark_B43 (d : Nat) : ∀ (v1 : Int) (v2 : Int) (v3 : Int) (μ : am_M) q, X_mark_B43 v1 v2 v3 μ = some q → am_run none (am_ar g_mt (d + 1)) 4 (some .boolean) k_X_mark 43 [(0, (2, 0)), (1, (0, v1)), (2, (0, v2)), (3, (2, v3))] [] μ (am_res 0 q) := by
  intro v1 v2 v3 μ q h
  unfold X_mark_B43 at h
  refine rn_sls 1 (pc' := 44) (ls' := [(0, (2, 0)), (1, (0, v1)), (2, (0, v2)), (3, (2, v3))]) (st' := [(0, v2)]) rfl ?_
  refine rn_if (t := 58) rfl rfl rfl rfl h (fun h => ?_) (fun h => ?_)
  · refine rn_sls 3 (pc' := 63) (ls' := [(0, (2, 0)), (1, (0, v1)), (2, (0, v2)), (3, (2, v3))]) (st' := [(2, 300), (2, v3)]) rfl ?_
    refine rn_gd h (fun ho1 h => ?_)
    refine rn_call 0 2 [(2, v3), (2, 300)] (r := []) rfl ⟨rfl, Or.inl ⟨_, rfl, by decide⟩⟩ (by decide) (fun _ => ⟨_, rfl, ho1⟩) rfl rfl (Nat.le_of_ble_eq_true rfl) h (fun w hw => t_Mc_become (d + 0) _ _ _ _ hw) (fun a2 μ3 h => ?_)
    refine rn_sls 0 (pc' := 66) (ls' := [(0, (2, 0)), (1, (0, v1)), (2, (0, v2)), (3, (2, v3))]) (st' := []) rfl ?_
    refine rn_sls 7 (pc' := 75) (ls' := [(0, (2, 0)), (1, (0, v1)), (2, (0, v2)), (3, (2, v3))]) (st' := [(0, (aOr (μ3 0 10) (aShl 1 v1))), (2, 0)]) rfl ?_
    refine rn_put rfl rfl rfl rfl (Or.inl ⟨rfl, rfl⟩) rfl h (fun μ4 h => ?_)
    refine rn_sls 1 (pc' := 79) (ls' := [(0, (2, 0)), (1, (0, v1)), (2, (0, v2)), (3, (2, v3))]) (st' := [(0, 1)]) rfl ?_
    exact rn_iretb rfl rfl rfl (Or.inr rfl) h rfl
  · refine rn_sls 3 (pc' := 52) (ls' := [(0, (2, 0)), (1, (0, v1)), (2, (0, v2)), (3, (2, v3))]) (st' := [(2, v3), (2, 300)]) rfl ?_
    refine rn_call 0 2 [(2, 300), (2, v3)] (r := []) rfl ⟨rfl, Or.inl ⟨_, rfl, by decide⟩⟩ (by decide) (fun _ => ⟨_, rfl, rfl⟩) rfl rfl (Nat.le_of_ble_eq_true rfl) h (fun w hw => t_Mc_become (d + 0) _ _ _ _ hw) (fun a5 μ6 h => ?_)
    refine rn_sls 0 (pc' := 55) (ls' := [(0, (2, 0)), (1, (0, v1)), (2, (0, v2)), (3, (2, v3))]) (st' := []) rfl ?_
    refine rn_goto (t := 78) rfl rfl rfl ?_
    refine rn_sls 1 (pc' := 79) (ls' := [(0, (2, 0)), (1, (0, v1)), (2, (0, v2)), (3, (2, v3))]) (st' := [(0, 1)]) rfl ?_
    exact rn_iretb rfl rfl rfl (Or.inr rfl) h rfl
set_option maxRecDepth 20000 in
theorem t_X_mark (d : Nat) : ∀ (v1 : Int) (v2 : Int) (μ : am_M) q, X_mark v1 v2 μ = some q → am_ar g_mt (d + 2) 137 [(2, 0), (0, v1), (0, v2)] μ (am_res 0 q) := by
  intro v1 v2 μ q h
  unfold X_mark at h
  refine am_ar_of (d := d + 1) i_X_mark rfl rfl (Nat.le_of_ble_eq_true rfl) ?_
  show am_run none (am_ar g_mt (d + 1)) 4 (some .boolean) k_X_mark 0 [(0, (2, 0)), (1, (0, v1)), (2, (0, v2))] [] μ (am_res 0 q)
  refine rn_sls 1 (pc' := 1) (ls' := [(0, (2, 0)), (1, (0, v1)), (2, (0, v2))]) (st' := [(0, v1)]) rfl ?_
  refine rn_if (t := 13) rfl rfl rfl rfl h (fun h => ?_) (fun h => ?_)
  · refine rn_sls 1 (pc' := 14) (ls' := [(0, (2, 0)), (1, (0, v1)), (2, (0, v2))]) (st' := [(0, 0)]) rfl ?_
    exact rn_iretb rfl rfl rfl (Or.inl rfl) h rfl
  · refine rn_sls 4 (pc' := 10) (ls' := [(0, (2, 0)), (1, (0, v1)), (2, (0, v2))]) (st' := [(0, 4), (0, v1)]) rfl ?_
    refine rn_icmp (t := 15) rfl rfl rfl rfl h (fun h => ?_) (fun h => ?_)
    · refine rn_sls 3 (pc' := 20) (ls' := [(0, (2, 0)), (1, (0, v1)), (2, (0, v2))]) (st' := [(0, v1), (2, 70)]) rfl ?_
      refine rn_aald (n := 4) rfl rfl rfl h (fun a1 h => ?_)
      refine rn_sls 2 (pc' := 23) (ls' := [(3, (2, a1)), (0, (2, 0)), (1, (0, v1)), (2, (0, v2))]) (st' := [(2, a1)]) rfl ?_
      refine rn_ifnull (t := 41) rfl rfl rfl h (fun h => ?_) (fun h => ?_)
      · refine rn_sls 1 (pc' := 42) (ls' := [(3, (2, a1)), (0, (2, 0)), (1, (0, v1)), (2, (0, v2))]) (st' := [(0, 0)]) rfl ?_
        exact rn_iretb rfl rfl rfl (Or.inl rfl) h rfl
      · refine rn_sls 1 (pc' := 27) (ls' := [(3, (2, a1)), (0, (2, 0)), (1, (0, v1)), (2, (0, v2))]) (st' := [(0, v2)]) rfl ?_
        refine rn_if (t := 43) rfl rfl rfl rfl h (fun h => ?_) (fun h => ?_)
        · exact rn_sub [1, 2, 3, 0] rfl (t_X_mark_B43 d  _ _ _ _ _ h)
        · refine rn_sls 6 (pc' := 38) (ls' := [(3, (2, a1)), (0, (2, 0)), (1, (0, v1)), (2, (0, v2))]) (st' := [(0, (aAnd (aShr (μ 0 10) v1) 1))]) rfl ?_
          refine rn_ifn (t := 43) rfl rfl rfl rfl h (fun h => ?_) (fun h => ?_)
          · refine rn_sls 1 (pc' := 42) (ls' := [(3, (2, a1)), (0, (2, 0)), (1, (0, v1)), (2, (0, v2))]) (st' := [(0, 0)]) rfl ?_
            exact rn_iretb rfl rfl rfl (Or.inl rfl) h rfl
          · exact rn_sub [1, 2, 3, 0] rfl (t_X_mark_B43 d  _ _ _ _ _ h)
    · refine rn_sls 1 (pc' := 14) (ls' := [(0, (2, 0)), (1, (0, v1)), (2, (0, v2))]) (st' := [(0, 0)]) rfl ?_
      exact rn_iretb rfl rfl rfl (Or.inl rfl) h rfl
set_option maxRecDepth 20000 in
theorem t_X_count (d : Nat) : ∀ (v1 : Int) (μ : am_M) q, X_count v1 μ = some q → am_ar g_mt (d + 1) 138 [(2, 0), (0, v1)] μ (am_res 0 q) := by
  intro v1 μ q h
  unfold X_count at h
  refine am_ar_of (d := d + 0) i_X_count rfl rfl (Nat.le_of_ble_eq_true rfl) ?_
  show am_run none (am_ar g_mt (d + 0)) 2 (some .int) k_X_count 0 [(0, (2, 0)), (1, (0, v1))] [] μ (am_res 0 q)
  refine rn_sls 1 (pc' := 1) (ls' := [(0, (2, 0)), (1, (0, v1))]) (st' := [(0, v1)]) rfl ?_
  refine rn_tsw rfl rfl ?_
  refine rn_swc (t := 40) rfl h (fun h => ?_) (fun h => ?_)
  · refine rn_sls 2 (pc' := 44) (ls' := [(0, (2, 0)), (1, (0, v1))]) (st' := [(2, (μ 0 8))]) rfl ?_
    refine rn_gd h (fun ho1 h => ?_)
    refine rn_get ho1 rfl rfl rfl ?_
    refine rn_sls 0 (pc' := 47) (ls' := [(0, (2, 0)), (1, (0, v1))]) (st' := [(0, (μ (μ 0 8) 12))]) rfl ?_
    exact rn_ireti rfl rfl rfl h rfl
  refine rn_swc (t := 48) rfl h (fun h => ?_) (fun h => ?_)
  · refine rn_sls 2 (pc' := 52) (ls' := [(0, (2, 0)), (1, (0, v1))]) (st' := [(2, (μ 0 8))]) rfl ?_
    refine rn_gd h (fun ho2 h => ?_)
    refine rn_get ho2 rfl rfl rfl ?_
    refine rn_sls 0 (pc' := 55) (ls' := [(0, (2, 0)), (1, (0, v1))]) (st' := [(0, (μ (μ 0 8) 13))]) rfl ?_
    exact rn_ireti rfl rfl rfl h rfl
  refine rn_swc (t := 56) rfl h (fun h => ?_) (fun h => ?_)
  · refine rn_sls 2 (pc' := 60) (ls' := [(0, (2, 0)), (1, (0, v1))]) (st' := [(2, (μ 0 8))]) rfl ?_
    refine rn_gd h (fun ho3 h => ?_)
    refine rn_get ho3 rfl rfl rfl ?_
    refine rn_sls 0 (pc' := 63) (ls' := [(0, (2, 0)), (1, (0, v1))]) (st' := [(2, ((μ 0 8) + 1))]) rfl ?_
    refine rn_gd h (fun ho4 h => ?_)
    refine rn_get ho4 rfl rfl rfl ?_
    refine rn_sls 0 (pc' := 66) (ls' := [(0, (2, 0)), (1, (0, v1))]) (st' := [(0, (μ ((μ 0 8) + 1) 10))]) rfl ?_
    exact rn_ireti rfl rfl rfl h rfl
  refine rn_swc (t := 67) rfl h (fun h => ?_) (fun h => ?_)
  · refine rn_sls 3 (pc' := 74) (ls' := [(0, (2, 0)), (1, (0, v1))]) (st' := [(0, (μ 300 12))]) rfl ?_
    exact rn_ireti rfl rfl rfl h rfl
  refine rn_swc (t := 75) rfl h (fun h => ?_) (fun h => ?_)
  · refine rn_sls 3 (pc' := 82) (ls' := [(0, (2, 0)), (1, (0, v1))]) (st' := [(0, (μ 300 13))]) rfl ?_
    exact rn_ireti rfl rfl rfl h rfl
  refine rn_swc (t := 83) rfl h (fun h => ?_) (fun h => ?_)
  · refine rn_sls 3 (pc' := 90) (ls' := [(0, (2, 0)), (1, (0, v1))]) (st' := [(0, (μ 10 2))]) rfl ?_
    exact rn_ireti rfl rfl rfl h rfl
  refine rn_sw0 (t := 91) rfl ?_
  refine rn_sls 1 (pc' := 92) (ls' := [(0, (2, 0)), (1, (0, v1))]) (st' := [(0, (-1))]) rfl ?_
  exact rn_ireti rfl rfl rfl h rfl
set_option maxRecDepth 20000 in
theorem t_L_feed_B99 (d : Nat) (k7 : Int → Int → am_M → am_O) (hk7 : ∀ (v2 : Int) (v4 : Int) (μ : am_M) q, k7 v2 v4 μ = some q → am_run none (am_ar g_mt (d + 3)) 7 none k_L_feed 7 [(0, (2, 0)), (1, (2, 3000)), (2, (0, v2)), (3, (2, 3010)), (4, (0, v4))] [] μ (am_res 2 q)) : ∀ (v2 : Int) (v4 : Int) (μ : am_M) q, L_feed_B99 k7 v2 v4 μ = some q → am_run none (am_ar g_mt (d + 3)) 7 none k_L_feed 99 [(0, (2, 0)), (1, (2, 3000)), (2, (0, v2)), (3, (2, 3010)), (4, (0, v4))] [] μ (am_res 2 q) := by
  intro v2 v4 μ q h
  unfold L_feed_B99 at h
  refine rn_sls 1 (pc' := 102) (ls' := [(4, (0, (w32 (v4 + 1)))), (0, (2, 0)), (1, (2, 3000)), (2, (0, v2)), (3, (2, 3010))]) (st' := []) rfl ?_
  refine rn_goto (t := 7) rfl rfl rfl ?_
  exact rn_sub [1, 2, 3, 4, 0] rfl (hk7 _ _ _ _ h)
set_option maxRecDepth 20000 in
theorem t_L_feed_L82_b (d : Nat) (k7 : Int → Int → am_M → am_O) (hk7 : ∀ (v2 : Int) (v4 : Int) (μ : am_M) q, k7 v2 v4 μ = some q → am_run none (am_ar g_mt (d + 3)) 7 none k_L_feed 7 [(0, (2, 0)), (1, (2, 3000)), (2, (0, v2)), (3, (2, 3010)), (4, (0, v4))] [] μ (am_res 2 q)) (k82 : Int → Int → Int → am_M → am_O) (hk82 : ∀ (v2 : Int) (v4 : Int) (v6 : Int) (μ : am_M) q, k82 v2 v4 v6 μ = some q → am_run none (am_ar g_mt (d + 3)) 7 none k_L_feed 82 [(0, (2, 0)), (1, (2, 3000)), (2, (0, v2)), (3, (2, 3010)), (4, (0, v4)), (6, (0, v6))] [] μ (am_res 2 q)) : ∀ (v2 : Int) (v4 : Int) (v6 : Int) (μ : am_M) q, L_feed_L82_b k7 k82 v2 v4 v6 μ = some q → am_run none (am_ar g_mt (d + 3)) 7 none k_L_feed 82 [(0, (2, 0)), (1, (2, 3000)), (2, (0, v2)), (3, (2, 3010)), (4, (0, v4)), (6, (0, v6))] [] μ (am_res 2 q) := by
  intro v2 v4 v6 μ q h
  unfold L_feed_L82_b at h
  refine rn_sls 2 (pc' := 85) (ls' := [(0, (2, 0)), (1, (2, 3000)), (2, (0, v2)), (3, (2, 3010)), (4, (0, v4)), (6, (0, v6))]) (st' := [(0, 3), (0, v6)]) rfl ?_
  refine rn_icmpn (t := 99) rfl rfl rfl rfl h (fun h => ?_) (fun h => ?_)
  · refine rn_sls 3 (pc' := 92) (ls' := [(0, (2, 0)), (1, (2, 3000)), (2, (0, v2)), (3, (2, 3010)), (4, (0, v4)), (6, (0, v6))]) (st' := [(1, 0), (0, v6), (2, 3010)]) rfl ?_
    refine rn_last (n := 3) rfl rfl rfl h (fun μ1 h => ?_)
    refine rn_sls 1 (pc' := 96) (ls' := [(6, (0, (w32 (v6 + 1)))), (0, (2, 0)), (1, (2, 3000)), (2, (0, v2)), (3, (2, 3010)), (4, (0, v4))]) (st' := []) rfl ?_
    refine rn_goto (t := 82) rfl rfl rfl ?_
    exact rn_sub [1, 2, 3, 4, 5, 0] rfl (hk82 _ _ _ _ _ h)
  · exact rn_sub [0, 1, 2, 3, 4] rfl (t_L_feed_B99 d k7 hk7 _ _ _ _ h)
set_option maxRecDepth 20000 in
theorem t_L_feed_L82 (d : Nat) (k7 : Int → Int → am_M → am_O) (hk7 : ∀ (v2 : Int) (v4 : Int) (μ : am_M) q, k7 v2 v4 μ = some q → am_run none (am_ar g_mt (d + 3)) 7 none k_L_feed 7 [(0, (2, 0)), (1, (2, 3000)), (2, (0, v2)), (3, (2, 3010)), (4, (0, v4))] [] μ (am_res 2 q)) : ∀ (n : Nat) (v2 : Int) (v4 : Int) (v6 : Int) (μ : am_M) q, L_feed_L82 k7 n v2 v4 v6 μ = some q → am_run none (am_ar g_mt (d + 3)) 7 none k_L_feed 82 [(0, (2, 0)), (1, (2, 3000)), (2, (0, v2)), (3, (2, 3010)), (4, (0, v4)), (6, (0, v6))] [] μ (am_res 2 q) := by
  intro n
  induction n with
  | zero => intro v2 v4 v6 μ q h; cases h
  | succ n ih => intro v2 v4 v6 μ q h; exact t_L_feed_L82_b d k7 hk7 (L_feed_L82 k7 n) ih v2 v4 v6 μ q h
set_option maxRecDepth 20000 in
theorem t_L_feed_B65 (d : Nat) (k7 : Int → Int → am_M → am_O) (hk7 : ∀ (v2 : Int) (v4 : Int) (μ : am_M) q, k7 v2 v4 μ = some q → am_run none (am_ar g_mt (d + 3)) 7 none k_L_feed 7 [(0, (2, 0)), (1, (2, 3000)), (2, (0, v2)), (3, (2, 3010)), (4, (0, v4))] [] μ (am_res 2 q)) : ∀ (v2 : Int) (v4 : Int) (μ : am_M) q, L_feed_B65 k7 v2 v4 μ = some q → am_run none (am_ar g_mt (d + 3)) 7 none k_L_feed 65 [(0, (2, 0)), (1, (2, 3000)), (2, (0, v2)), (3, (2, 3010)), (4, (0, v4))] [] μ (am_res 2 q) := by
  intro v2 v4 μ q h
  unfold L_feed_B65 at h
  refine rn_sls 3 (pc' := 68) (ls' := [(0, (2, 0)), (1, (2, 3000)), (2, (0, v2)), (3, (2, 3010)), (4, (0, v4))]) (st' := [(0, 0), (2, 3010), (2, 0)]) rfl ?_
  refine rn_lald (n := 3) rfl rfl rfl h (fun a1 h => ?_)
  refine rn_sls 2 (pc' := 71) (ls' := [(0, (2, 0)), (1, (2, 3000)), (2, (0, v2)), (3, (2, 3010)), (4, (0, v4))]) (st' := [(0, 1), (2, 3010), (1, a1), (2, 0)]) rfl ?_
  refine rn_lald (n := 3) rfl rfl rfl h (fun a2 h => ?_)
  refine rn_sls 2 (pc' := 74) (ls' := [(0, (2, 0)), (1, (2, 3000)), (2, (0, v2)), (3, (2, 3010)), (4, (0, v4))]) (st' := [(0, 2), (2, 3010), (1, a2), (1, a1), (2, 0)]) rfl ?_
  refine rn_lald (n := 3) rfl rfl rfl h (fun a3 h => ?_)
  refine rn_call 0 0 [(2, 0), (1, a1), (1, a2), (1, a3)] (r := []) rfl ⟨rfl, Or.inl ⟨_, rfl, by decide⟩⟩ (by decide) (fun _ => ⟨_, rfl, rfl⟩) rfl rfl (Nat.le_of_ble_eq_true rfl) h (fun w hw => t_X_feed (d + 0) _ _ _ _ _ hw) (fun a4 μ5 h => ?_)
  refine rn_sls 0 (pc' := 78) (ls' := [(0, (2, 0)), (1, (2, 3000)), (2, (0, v2)), (3, (2, 3010)), (4, (0, v4))]) (st' := [(0, a4)]) rfl ?_
  refine rn_sls 3 (pc' := 82) (ls' := [(6, (0, 0)), (0, (2, 0)), (1, (2, 3000)), (2, (0, v2)), (3, (2, 3010)), (4, (0, v4))]) (st' := []) rfl ?_
  exact rn_sub [1, 2, 3, 4, 5, 0] rfl (t_L_feed_L82 d k7 hk7 am_FU _ _ _ _ _ h)
set_option maxRecDepth 20000 in
theorem t_L_feed_L7_b (d : Nat) (k7 : Int → Int → am_M → am_O) (hk7 : ∀ (v2 : Int) (v4 : Int) (μ : am_M) q, k7 v2 v4 μ = some q → am_run none (am_ar g_mt (d + 3)) 7 none k_L_feed 7 [(0, (2, 0)), (1, (2, 3000)), (2, (0, v2)), (3, (2, 3010)), (4, (0, v4))] [] μ (am_res 2 q)) : ∀ (v2 : Int) (v4 : Int) (μ : am_M) q, L_feed_L7_b k7 v2 v4 μ = some q → am_run none (am_ar g_mt (d + 3)) 7 none k_L_feed 7 [(0, (2, 0)), (1, (2, 3000)), (2, (0, v2)), (3, (2, 3010)), (4, (0, v4))] [] μ (am_res 2 q) := by
  intro v2 v4 μ q h
  unfold L_feed_L7_b at h
  refine rn_sls 2 (pc' := 10) (ls' := [(0, (2, 0)), (1, (2, 3000)), (2, (0, v2)), (3, (2, 3010)), (4, (0, v4))]) (st' := [(0, v2), (0, v4)]) rfl ?_
  refine rn_icmpn (t := 105) rfl rfl rfl rfl h (fun h => ?_) (fun h => ?_)
  · refine rn_sls 9 (pc' := 27) (ls' := [(5, (0, (aRem v4 24))), (0, (2, 0)), (1, (2, 3000)), (2, (0, v2)), (3, (2, 3010)), (4, (0, v4))]) (st' := [(0, (aDiv (aRem v4 24) 8)), (2, 3010), (0, (aDiv (aRem v4 24) 8)), (2, 3010)]) rfl ?_
    refine rn_lald (n := 3) rfl rfl rfl h (fun a1 h => ?_)
    refine rn_sls 2 (pc' := 31) (ls' := [(5, (0, (aRem v4 24))), (0, (2, 0)), (1, (2, 3000)), (2, (0, v2)), (3, (2, 3010)), (4, (0, v4))]) (st' := [(0, v4), (2, 3000), (1, a1), (0, (aDiv (aRem v4 24) 8)), (2, 3010)]) rfl ?_
    refine rn_iald (n := 950) rfl rfl rfl h (fun a2 h => ?_)
    refine rn_sls 10 (pc' := 46) (ls' := [(5, (0, (aRem v4 24))), (0, (2, 0)), (1, (2, 3000)), (2, (0, v2)), (3, (2, 3010)), (4, (0, v4))]) (st' := [(1, (lOr a1 (lShl a2 (w32 (56 - (w32 (8 * (aRem (aRem v4 24) 8)))))))), (0, (aDiv (aRem v4 24) 8)), (2, 3010)]) rfl ?_
    refine rn_last (n := 3) rfl rfl rfl h (fun μ3 h => ?_)
    refine rn_sls 2 (pc' := 51) (ls' := [(5, (0, (aRem v4 24))), (0, (2, 0)), (1, (2, 3000)), (2, (0, v2)), (3, (2, 3010)), (4, (0, v4))]) (st' := [(0, 23), (0, (aRem v4 24))]) rfl ?_
    refine rn_icmpn (t := 65) rfl rfl rfl rfl h (fun h => ?_) (fun h => ?_)
    · refine rn_sls 4 (pc' := 59) (ls' := [(5, (0, (aRem v4 24))), (0, (2, 0)), (1, (2, 3000)), (2, (0, v2)), (3, (2, 3010)), (4, (0, v4))]) (st' := [(0, (w32 (v2 - 1))), (0, v4)]) rfl ?_
      refine rn_icmpn (t := 65) rfl rfl rfl rfl h (fun h => ?_) (fun h => ?_)
      · refine rn_goto (t := 99) rfl rfl rfl ?_
        exact rn_sub [1, 2, 3, 4, 5] rfl (t_L_feed_B99 d k7 hk7 _ _ _ _ h)
      · exact rn_sub [1, 2, 3, 4, 5] rfl (t_L_feed_B65 d k7 hk7 _ _ _ _ h)
    · exact rn_sub [1, 2, 3, 4, 5] rfl (t_L_feed_B65 d k7 hk7 _ _ _ _ h)
  · exact rn_ret (v := 0) rfl rfl rfl h rfl
set_option maxRecDepth 20000 in
theorem t_L_feed_L7 (d : Nat) : ∀ (n : Nat) (v2 : Int) (v4 : Int) (μ : am_M) q, L_feed_L7 n v2 v4 μ = some q → am_run none (am_ar g_mt (d + 3)) 7 none k_L_feed 7 [(0, (2, 0)), (1, (2, 3000)), (2, (0, v2)), (3, (2, 3010)), (4, (0, v4))] [] μ (am_res 2 q) := by
  intro n
  induction n with
  | zero => intro v2 v4 μ q h; cases h
  | succ n ih => intro v2 v4 μ q h; exact t_L_feed_L7_b d (L_feed_L7 n) ih v2 v4 μ q h
set_option maxRecDepth 20000 in
theorem t_L_feed (d : Nat) : ∀ (v2 : Int) (μ : am_M) q, L_feed v2 μ = some q → am_run none (am_ar g_mt (d + 3)) 7 none k_L_feed 4 [(0, (2, 0)), (1, (2, 3000)), (2, (0, v2)), (3, (2, 3010))] [] μ (am_res 2 q) := by
  intro v2 μ q h
  unfold L_feed at h
  refine rn_sls 2 (pc' := 7) (ls' := [(4, (0, 0)), (0, (2, 0)), (1, (2, 3000)), (2, (0, v2)), (3, (2, 3010))]) (st' := []) rfl ?_
  exact rn_sub [1, 2, 3, 4, 0] rfl (t_L_feed_L7 d  am_FU _ _ _ _ h)
set_option maxRecDepth 20000 in
theorem t_L_tells_B843 (d : Nat) : ∀ (s0 : Int) (s1 : Int) (μ : am_M) q, L_tells_B843 s0 s1 μ = some q → am_run none (am_ar g_mt (d + 8)) 4 (some .boolean) k_L_tells 843 [(0, (2, 0))] [(0, s1), (0, s0)] μ (am_res 0 q) := by
  intro s0 s1 μ q h
  unfold L_tells_B843 at h
  refine rn_icmpn (t := 858) rfl rfl rfl rfl h (fun h => ?_) (fun h => ?_)
  · refine rn_sls 2 (pc' := 848) (ls' := [(0, (2, 0))]) (st' := [(0, 0), (2, 0)]) rfl ?_
    refine rn_call 0 0 [(2, 0), (0, 0)] (r := []) rfl ⟨rfl, Or.inl ⟨_, rfl, by decide⟩⟩ (by decide) (fun _ => ⟨_, rfl, rfl⟩) rfl rfl (Nat.le_of_ble_eq_true rfl) h (fun w hw => t_X_machine (d + 4) _ _ _ hw) (fun a1 μ2 h => ?_)
    refine rn_sls 0 (pc' := 851) (ls' := [(0, (2, 0))]) (st' := [(0, a1)]) rfl ?_
    refine rn_ifn (t := 858) rfl rfl rfl rfl h (fun h => ?_) (fun h => ?_)
    · refine rn_sls 1 (pc' := 855) (ls' := [(0, (2, 0))]) (st' := [(0, 1)]) rfl ?_
      refine rn_goto (t := 859) rfl rfl rfl ?_
      exact rn_iretb rfl rfl rfl (Or.inr rfl) h rfl
    · refine rn_sls 1 (pc' := 859) (ls' := [(0, (2, 0))]) (st' := [(0, 0)]) rfl ?_
      exact rn_iretb rfl rfl rfl (Or.inl rfl) h rfl
  · refine rn_sls 1 (pc' := 859) (ls' := [(0, (2, 0))]) (st' := [(0, 0)]) rfl ?_
    exact rn_iretb rfl rfl rfl (Or.inl rfl) h rfl
set_option maxRecDepth 20000 in
theorem t_L_tells (d : Nat) : ∀ (v1 : Int) (μ : am_M) q, L_tells v1 μ = some q → am_run none (am_ar g_mt (d + 8)) 4 (some .boolean) k_L_tells 821 [(0, (2, 0)), (1, (0, v1))] [] μ (am_res 0 q) := by
  intro v1 μ q h
  unfold L_tells at h
  refine rn_sls 1 (pc' := 822) (ls' := [(0, (2, 0)), (1, (0, v1))]) (st' := [(2, 0)]) rfl ?_
  refine rn_call 0 0 [(2, 0)] (r := []) rfl ⟨rfl, Or.inl ⟨_, rfl, by decide⟩⟩ (by decide) (fun _ => ⟨_, rfl, rfl⟩) rfl rfl (Nat.le_of_ble_eq_true rfl) h (fun w hw => t_X_bills (d + 0)  _ _ hw) (fun a1 μ2 h => ?_)
  refine rn_sls 0 (pc' := 825) (ls' := [(0, (2, 0)), (1, (0, v1))]) (st' := [(0, a1)]) rfl ?_
  refine rn_ifn (t := 858) rfl rfl rfl rfl h (fun h => ?_) (fun h => ?_)
  · refine rn_sls 2 (pc' := 830) (ls' := [(0, (2, 0)), (1, (0, v1))]) (st' := [(0, 1), (2, 0)]) rfl ?_
    refine rn_call 0 0 [(2, 0), (0, 1)] (r := []) rfl ⟨rfl, Or.inl ⟨_, rfl, by decide⟩⟩ (by decide) (fun _ => ⟨_, rfl, rfl⟩) rfl rfl (Nat.le_of_ble_eq_true rfl) h (fun w hw => t_X_count (d + 7) _ _ _ hw) (fun a3 μ4 h => ?_)
    refine rn_sls 0 (pc' := 833) (ls' := [(0, (2, 0)), (1, (0, v1))]) (st' := [(0, a3)]) rfl ?_
    refine rn_sls 2 (pc' := 835) (ls' := [(0, (2, 0)), (1, (0, v1))]) (st' := [(0, 2), (0, v1), (0, a3)]) rfl ?_
    refine rn_icmpn (t := 842) rfl rfl rfl rfl h (fun h => ?_) (fun h => ?_)
    · refine rn_sls 1 (pc' := 839) (ls' := [(0, (2, 0)), (1, (0, v1))]) (st' := [(0, 3), (0, a3)]) rfl ?_
      refine rn_goto (t := 843) rfl rfl rfl ?_
      exact rn_sub [0] rfl (t_L_tells_B843 d  _ _ _ _ h)
    · refine rn_sls 1 (pc' := 843) (ls' := [(0, (2, 0)), (1, (0, v1))]) (st' := [(0, 1), (0, a3)]) rfl ?_
      exact rn_sub [0] rfl (t_L_tells_B843 d  _ _ _ _ h)
  · refine rn_sls 1 (pc' := 859) (ls' := [(0, (2, 0)), (1, (0, v1))]) (st' := [(0, 0)]) rfl ?_
    exact rn_iretb rfl rfl rfl (Or.inl rfl) h rfl
set_option maxRecDepth 20000 in
theorem t_L_sound_B255 (d : Nat) (k4 : Int → Int → am_M → am_O) (hk4 : ∀ (v1 : Int) (v2 : Int) (μ : am_M) q, k4 v1 v2 μ = some q → am_run none (am_ar g_mt (d + 7)) 15 (some .boolean) k_L_sound 4 [(0, (2, 0)), (1, (0, v1)), (2, (0, v2))] [] μ (am_res 0 q)) (k232 : Int → Int → Int → Int → Int → Int → Int → am_M → am_O) (hk232 : ∀ (v1 : Int) (v2 : Int) (v3 : Int) (v4 : Int) (v6 : Int) (v7 : Int) (v8 : Int) (μ : am_M) q, k232 v1 v2 v3 v4 v6 v7 v8 μ = some q → am_run none (am_ar g_mt (d + 7)) 15 (some .boolean) k_L_sound 232 [(0, (2, 0)), (1, (0, v1)), (2, (0, v2)), (3, (0, v3)), (4, (0, v4)), (6, (0, v6)), (7, (0, v7)), (8, (0, v8))] [] μ (am_res 0 q)) : ∀ (v1 : Int) (v2 : Int) (v3 : Int) (v4 : Int) (v6 : Int) (v7 : Int) (v8 : Int) (μ : am_M) q, L_sound_B255 k4 k232 v1 v2 v3 v4 v6 v7 v8 μ = some q → am_run none (am_ar g_mt (d + 7)) 15 (some .boolean) k_L_sound 255 [(0, (2, 0)), (1, (0, v1)), (2, (0, v2)), (3, (0, v3)), (4, (0, v4)), (6, (0, v6)), (7, (0, v7)), (8, (0, v8))] [] μ (am_res 0 q) := by
  intro v1 v2 v3 v4 v6 v7 v8 μ q h
  unfold L_sound_B255 at h
  refine rn_sls 4 (pc' := 261) (ls' := [(0, (2, 0)), (1, (0, v1)), (2, (0, v2)), (3, (0, v3)), (4, (0, v4)), (6, (0, v6)), (7, (0, v7)), (8, (0, v8))]) (st' := [(0, 3), (0, v8), (2, 0), (0, v7)]) rfl ?_
  refine rn_call 0 0 [(2, 0), (0, v8), (0, 3)] (r := [(0, v7)]) rfl ⟨rfl, Or.inl ⟨_, rfl, by decide⟩⟩ (by decide) (fun _ => ⟨_, rfl, rfl⟩) rfl rfl (Nat.le_of_ble_eq_true rfl) h (fun w hw => t_X_line (d + 3) _ _ _ _ hw) (fun a1 μ2 h => ?_)
  refine rn_sls 0 (pc' := 264) (ls' := [(0, (2, 0)), (1, (0, v1)), (2, (0, v2)), (3, (0, v3)), (4, (0, v4)), (6, (0, v6)), (7, (0, v7)), (8, (0, v8))]) (st' := [(0, a1), (0, v7)]) rfl ?_
  refine rn_sls 3 (pc' := 270) (ls' := [(8, (0, (w32 (v8 + 1)))), (7, (0, (w32 (v7 + a1)))), (0, (2, 0)), (1, (0, v1)), (2, (0, v2)), (3, (0, v3)), (4, (0, v4)), (6, (0, v6))]) (st' := []) rfl ?_
  refine rn_goto (t := 232) rfl rfl rfl ?_
  exact rn_sub [2, 3, 4, 5, 6, 7, 1, 0] rfl (hk232 _ _ _ _ _ _ _ _ _ h)
set_option maxRecDepth 20000 in
theorem t_L_sound_B536 (d : Nat) (k4 : Int → Int → am_M → am_O) (hk4 : ∀ (v1 : Int) (v2 : Int) (μ : am_M) q, k4 v1 v2 μ = some q → am_run none (am_ar g_mt (d + 7)) 15 (some .boolean) k_L_sound 4 [(0, (2, 0)), (1, (0, v1)), (2, (0, v2))] [] μ (am_res 0 q)) : ∀ (v1 : Int) (v2 : Int) (μ : am_M) q, L_sound_B536 k4 v1 v2 μ = some q → am_run none (am_ar g_mt (d + 7)) 15 (some .boolean) k_L_sound 536 [(0, (2, 0)), (1, (0, v1)), (2, (0, v2))] [] μ (am_res 0 q) := by
  intro v1 v2 μ q h
  unfold L_sound_B536 at h
  refine rn_sls 1 (pc' := 539) (ls' := [(2, (0, (w32 (v2 + 1)))), (0, (2, 0)), (1, (0, v1))]) (st' := []) rfl ?_
  refine rn_goto (t := 4) rfl rfl rfl ?_
  exact rn_sub [1, 2, 0] rfl (hk4 _ _ _ _ h)
set_option maxRecDepth 20000 in
theorem t_L_sound_L470_b (d : Nat) (k4 : Int → Int → am_M → am_O) (hk4 : ∀ (v1 : Int) (v2 : Int) (μ : am_M) q, k4 v1 v2 μ = some q → am_run none (am_ar g_mt (d + 7)) 15 (some .boolean) k_L_sound 4 [(0, (2, 0)), (1, (0, v1)), (2, (0, v2))] [] μ (am_res 0 q)) (k470 : Int → Int → Int → Int → am_M → am_O) (hk470 : ∀ (v1 : Int) (v2 : Int) (v10 : Int) (v12 : Int) (μ : am_M) q, k470 v1 v2 v10 v12 μ = some q → am_run none (am_ar g_mt (d + 7)) 15 (some .boolean) k_L_sound 470 [(0, (2, 0)), (1, (0, v1)), (2, (0, v2)), (10, (1, v10)), (12, (0, v12))] [] μ (am_res 0 q)) : ∀ (v1 : Int) (v2 : Int) (v10 : Int) (v12 : Int) (μ : am_M) q, L_sound_L470_b k4 k470 v1 v2 v10 v12 μ = some q → am_run none (am_ar g_mt (d + 7)) 15 (some .boolean) k_L_sound 470 [(0, (2, 0)), (1, (0, v1)), (2, (0, v2)), (10, (1, v10)), (12, (0, v12))] [] μ (am_res 0 q) := by
  intro v1 v2 v10 v12 μ q h
  unfold L_sound_L470_b at h
  refine rn_sls 2 (pc' := 474) (ls' := [(0, (2, 0)), (1, (0, v1)), (2, (0, v2)), (10, (1, v10)), (12, (0, v12))]) (st' := [(0, 20), (0, v12)]) rfl ?_
  refine rn_icmpn (t := 508) rfl rfl rfl rfl h (fun h => ?_) (fun h => ?_)
  · refine rn_sls 4 (pc' := 483) (ls' := [(0, (2, 0)), (1, (0, v1)), (2, (0, v2)), (10, (1, v10)), (12, (0, v12))]) (st' := [(0, 7), (0, v12), (0, v2), (2, 0)]) rfl ?_
    refine rn_call 0 1 [(2, 0), (0, v2), (0, v12), (0, 7)] (r := []) rfl ⟨rfl, Or.inl ⟨_, rfl, by decide⟩⟩ (by decide) (fun _ => ⟨_, rfl, rfl⟩) rfl rfl (Nat.le_of_ble_eq_true rfl) h (fun w hw => t_X_cheapest (d + 0) _ _ _ _ _ hw) (fun a1 μ2 h => ?_)
    refine rn_sls 0 (pc' := 486) (ls' := [(0, (2, 0)), (1, (0, v1)), (2, (0, v2)), (10, (1, v10)), (12, (0, v12))]) (st' := [(1, a1)]) rfl ?_
    refine rn_sls 4 (pc' := 493) (ls' := [(13, (1, a1)), (0, (2, 0)), (1, (0, v1)), (2, (0, v2)), (10, (1, v10)), (12, (0, v12))]) (st' := [(0, (lCmp a1 v10))]) rfl ?_
    refine rn_ifn (t := 498) rfl rfl rfl rfl h (fun h => ?_) (fun h => ?_)
    · refine rn_sls 1 (pc' := 497) (ls' := [(13, (1, a1)), (0, (2, 0)), (1, (0, v1)), (2, (0, v2)), (10, (1, v10)), (12, (0, v12))]) (st' := [(0, 0)]) rfl ?_
      exact rn_iretb rfl rfl rfl (Or.inl rfl) h rfl
    · refine rn_sls 3 (pc' := 505) (ls' := [(12, (0, (w32 (v12 + 1)))), (10, (1, a1)), (13, (1, a1)), (0, (2, 0)), (1, (0, v1)), (2, (0, v2))]) (st' := []) rfl ?_
      refine rn_goto (t := 470) rfl rfl rfl ?_
      exact rn_sub [3, 4, 5, 1, 0] rfl (hk470 _ _ _ _ _ _ h)
  · refine rn_goto (t := 536) rfl rfl rfl ?_
    exact rn_sub [0, 1, 2] rfl (t_L_sound_B536 d k4 hk4 _ _ _ _ h)
set_option maxRecDepth 20000 in
theorem t_L_sound_L470 (d : Nat) (k4 : Int → Int → am_M → am_O) (hk4 : ∀ (v1 : Int) (v2 : Int) (μ : am_M) q, k4 v1 v2 μ = some q → am_run none (am_ar g_mt (d + 7)) 15 (some .boolean) k_L_sound 4 [(0, (2, 0)), (1, (0, v1)), (2, (0, v2))] [] μ (am_res 0 q)) : ∀ (n : Nat) (v1 : Int) (v2 : Int) (v10 : Int) (v12 : Int) (μ : am_M) q, L_sound_L470 k4 n v1 v2 v10 v12 μ = some q → am_run none (am_ar g_mt (d + 7)) 15 (some .boolean) k_L_sound 470 [(0, (2, 0)), (1, (0, v1)), (2, (0, v2)), (10, (1, v10)), (12, (0, v12))] [] μ (am_res 0 q) := by
  intro n
  induction n with
  | zero => intro v1 v2 v10 v12 μ q h; cases h
  | succ n ih => intro v1 v2 v10 v12 μ q h; exact t_L_sound_L470_b d k4 hk4 (L_sound_L470 k4 n) ih v1 v2 v10 v12 μ q h
set_option maxRecDepth 20000 in
theorem t_L_sound_B444 (d : Nat) (k4 : Int → Int → am_M → am_O) (hk4 : ∀ (v1 : Int) (v2 : Int) (μ : am_M) q, k4 v1 v2 μ = some q → am_run none (am_ar g_mt (d + 7)) 15 (some .boolean) k_L_sound 4 [(0, (2, 0)), (1, (0, v1)), (2, (0, v2))] [] μ (am_res 0 q)) : ∀ (v1 : Int) (v2 : Int) (v9 : Int) (μ : am_M) q, L_sound_B444 k4 v1 v2 v9 μ = some q → am_run none (am_ar g_mt (d + 7)) 15 (some .boolean) k_L_sound 444 [(0, (2, 0)), (1, (0, v1)), (2, (0, v2)), (9, (0, v9))] [] μ (am_res 0 q) := by
  intro v1 v2 v9 μ q h
  unfold L_sound_B444 at h
  refine rn_sls 3 (pc' := 448) (ls' := [(0, (2, 0)), (1, (0, v1)), (2, (0, v2)), (9, (0, v9))]) (st' := [(0, 20), (0, v2), (2, 0)]) rfl ?_
  refine rn_call 0 1 [(2, 0), (0, v2), (0, 20)] (r := []) rfl ⟨rfl, Or.inl ⟨_, rfl, by decide⟩⟩ (by decide) (fun _ => ⟨_, rfl, rfl⟩) rfl rfl (Nat.le_of_ble_eq_true rfl) h (fun w hw => t_X_orders (d + 0) _ _ _ _ hw) (fun a1 μ2 h => ?_)
  refine rn_sls 0 (pc' := 451) (ls' := [(0, (2, 0)), (1, (0, v1)), (2, (0, v2)), (9, (0, v9))]) (st' := [(1, a1)]) rfl ?_
  refine rn_sls 3 (pc' := 455) (ls' := [(0, (2, 0)), (1, (0, v1)), (2, (0, v2)), (9, (0, v9))]) (st' := [(0, v9), (0, v2), (2, 0), (1, a1)]) rfl ?_
  refine rn_call 0 1 [(2, 0), (0, v2), (0, v9)] (r := [(1, a1)]) rfl ⟨rfl, Or.inl ⟨_, rfl, by decide⟩⟩ (by decide) (fun _ => ⟨_, rfl, rfl⟩) rfl rfl (Nat.le_of_ble_eq_true rfl) h (fun w hw => t_X_orders (d + 0) _ _ _ _ hw) (fun a3 μ4 h => ?_)
  refine rn_sls 0 (pc' := 458) (ls' := [(0, (2, 0)), (1, (0, v1)), (2, (0, v2)), (9, (0, v9))]) (st' := [(1, a3), (1, a1)]) rfl ?_
  refine rn_sls 1 (pc' := 459) (ls' := [(0, (2, 0)), (1, (0, v1)), (2, (0, v2)), (9, (0, v9))]) (st' := [(0, (lCmp a1 a3))]) rfl ?_
  refine rn_ifn (t := 464) rfl rfl rfl rfl h (fun h => ?_) (fun h => ?_)
  · refine rn_sls 1 (pc' := 463) (ls' := [(0, (2, 0)), (1, (0, v1)), (2, (0, v2)), (9, (0, v9))]) (st' := [(0, 0)]) rfl ?_
    exact rn_iretb rfl rfl rfl (Or.inl rfl) h rfl
  · refine rn_sls 4 (pc' := 470) (ls' := [(12, (0, 0)), (10, (1, 0)), (0, (2, 0)), (1, (0, v1)), (2, (0, v2)), (9, (0, v9))]) (st' := []) rfl ?_
    exact rn_sub [2, 3, 4, 1, 0] rfl (t_L_sound_L470 d k4 hk4 am_FU _ _ _ _ _ _ h)
set_option maxRecDepth 20000 in
theorem t_L_sound_B382 (d : Nat) (k4 : Int → Int → am_M → am_O) (hk4 : ∀ (v1 : Int) (v2 : Int) (μ : am_M) q, k4 v1 v2 μ = some q → am_run none (am_ar g_mt (d + 7)) 15 (some .boolean) k_L_sound 4 [(0, (2, 0)), (1, (0, v1)), (2, (0, v2))] [] μ (am_res 0 q)) : ∀ (v1 : Int) (v2 : Int) (μ : am_M) q, L_sound_B382 k4 v1 v2 μ = some q → am_run none (am_ar g_mt (d + 7)) 15 (some .boolean) k_L_sound 382 [(0, (2, 0)), (1, (0, v1)), (2, (0, v2))] [] μ (am_res 0 q) := by
  intro v1 v2 μ q h
  unfold L_sound_B382 at h
  refine rn_sls 2 (pc' := 384) (ls' := [(0, (2, 0)), (1, (0, v1)), (2, (0, v2))]) (st' := [(0, v2), (2, 0)]) rfl ?_
  refine rn_call 0 0 [(2, 0), (0, v2)] (r := []) rfl ⟨rfl, Or.inl ⟨_, rfl, by decide⟩⟩ (by decide) (fun _ => ⟨_, rfl, rfl⟩) rfl rfl (Nat.le_of_ble_eq_true rfl) h (fun w hw => t_X_plain (d + 2) _ _ _ hw) (fun a1 μ2 h => ?_)
  refine rn_sls 0 (pc' := 387) (ls' := [(0, (2, 0)), (1, (0, v1)), (2, (0, v2))]) (st' := [(0, a1)]) rfl ?_
  refine rn_sls 1 (pc' := 388) (ls' := [(0, (2, 0)), (1, (0, v1)), (2, (0, v2))]) (st' := [(0, 1), (0, a1)]) rfl ?_
  refine rn_icmpn (t := 511) rfl rfl rfl rfl h (fun h => ?_) (fun h => ?_)
  · refine rn_sls 2 (pc' := 393) (ls' := [(0, (2, 0)), (1, (0, v1)), (2, (0, v2))]) (st' := [(0, v2), (2, 0)]) rfl ?_
    refine rn_call 0 0 [(2, 0), (0, v2)] (r := []) rfl ⟨rfl, Or.inl ⟨_, rfl, by decide⟩⟩ (by decide) (fun _ => ⟨_, rfl, rfl⟩) rfl rfl (Nat.le_of_ble_eq_true rfl) h (fun w hw => t_X_fewest (d + 0) _ _ _ hw) (fun a7 μ8 h => ?_)
    refine rn_sls 0 (pc' := 396) (ls' := [(0, (2, 0)), (1, (0, v1)), (2, (0, v2))]) (st' := [(0, a7)]) rfl ?_
    refine rn_sls 4 (pc' := 402) (ls' := [(9, (0, a7)), (0, (2, 0)), (1, (0, v1)), (2, (0, v2))]) (st' := [(0, v2), (2, 0), (0, a7)]) rfl ?_
    refine rn_call 0 0 [(2, 0), (0, v2)] (r := [(0, a7)]) rfl ⟨rfl, Or.inl ⟨_, rfl, by decide⟩⟩ (by decide) (fun _ => ⟨_, rfl, rfl⟩) rfl rfl (Nat.le_of_ble_eq_true rfl) h (fun w hw => t_X_asTold (d + 0) _ _ _ hw) (fun a9 μ10 h => ?_)
    refine rn_sls 0 (pc' := 405) (ls' := [(9, (0, a7)), (0, (2, 0)), (1, (0, v1)), (2, (0, v2))]) (st' := [(0, a9), (0, a7)]) rfl ?_
    refine rn_icmpn (t := 462) rfl rfl rfl rfl h (fun h => ?_) (fun h => ?_)
    · refine rn_sls 1 (pc' := 410) (ls' := [(9, (0, a7)), (0, (2, 0)), (1, (0, v1)), (2, (0, v2))]) (st' := [(0, a7)]) rfl ?_
      refine rn_if (t := 462) rfl rfl rfl rfl h (fun h => ?_) (fun h => ?_)
      · refine rn_sls 1 (pc' := 463) (ls' := [(9, (0, a7)), (0, (2, 0)), (1, (0, v1)), (2, (0, v2))]) (st' := [(0, 0)]) rfl ?_
        exact rn_iretb rfl rfl rfl (Or.inl rfl) h rfl
      · refine rn_sls 3 (pc' := 417) (ls' := [(9, (0, a7)), (0, (2, 0)), (1, (0, v1)), (2, (0, v2))]) (st' := [(0, a7), (0, v2), (2, 0)]) rfl ?_
        refine rn_call 0 1 [(2, 0), (0, v2), (0, a7)] (r := []) rfl ⟨rfl, Or.inl ⟨_, rfl, by decide⟩⟩ (by decide) (fun _ => ⟨_, rfl, rfl⟩) rfl rfl (Nat.le_of_ble_eq_true rfl) h (fun w hw => t_X_orders (d + 0) _ _ _ _ hw) (fun a11 μ12 h => ?_)
        refine rn_sls 0 (pc' := 420) (ls' := [(9, (0, a7)), (0, (2, 0)), (1, (0, v1)), (2, (0, v2))]) (st' := [(1, a11)]) rfl ?_
        refine rn_sls 2 (pc' := 422) (ls' := [(9, (0, a7)), (0, (2, 0)), (1, (0, v1)), (2, (0, v2))]) (st' := [(0, (lCmp a11 1))]) rfl ?_
        refine rn_if (t := 462) rfl rfl rfl rfl h (fun h => ?_) (fun h => ?_)
        · refine rn_sls 1 (pc' := 463) (ls' := [(9, (0, a7)), (0, (2, 0)), (1, (0, v1)), (2, (0, v2))]) (st' := [(0, 0)]) rfl ?_
          exact rn_iretb rfl rfl rfl (Or.inl rfl) h rfl
        · refine rn_sls 1 (pc' := 427) (ls' := [(9, (0, a7)), (0, (2, 0)), (1, (0, v1)), (2, (0, v2))]) (st' := [(0, a7)]) rfl ?_
          refine rn_if (t := 444) rfl rfl rfl rfl h (fun h => ?_) (fun h => ?_)
          · exact rn_sub [1, 2, 3, 0] rfl (t_L_sound_B444 d k4 hk4 _ _ _ _ _ h)
          · refine rn_sls 5 (pc' := 436) (ls' := [(9, (0, a7)), (0, (2, 0)), (1, (0, v1)), (2, (0, v2))]) (st' := [(0, (w32 (a7 - 1))), (0, v2), (2, 0)]) rfl ?_
            refine rn_call 0 1 [(2, 0), (0, v2), (0, (w32 (a7 - 1)))] (r := []) rfl ⟨rfl, Or.inl ⟨_, rfl, by decide⟩⟩ (by decide) (fun _ => ⟨_, rfl, rfl⟩) rfl rfl (Nat.le_of_ble_eq_true rfl) h (fun w hw => t_X_orders (d + 0) _ _ _ _ hw) (fun a13 μ14 h => ?_)
            refine rn_sls 0 (pc' := 439) (ls' := [(9, (0, a7)), (0, (2, 0)), (1, (0, v1)), (2, (0, v2))]) (st' := [(1, a13)]) rfl ?_
            refine rn_sls 2 (pc' := 441) (ls' := [(9, (0, a7)), (0, (2, 0)), (1, (0, v1)), (2, (0, v2))]) (st' := [(0, (lCmp a13 0))]) rfl ?_
            refine rn_ifn (t := 462) rfl rfl rfl rfl h (fun h => ?_) (fun h => ?_)
            · exact rn_sub [1, 2, 3, 0] rfl (t_L_sound_B444 d k4 hk4 _ _ _ _ _ h)
            · refine rn_sls 1 (pc' := 463) (ls' := [(9, (0, a7)), (0, (2, 0)), (1, (0, v1)), (2, (0, v2))]) (st' := [(0, 0)]) rfl ?_
              exact rn_iretb rfl rfl rfl (Or.inl rfl) h rfl
    · refine rn_sls 1 (pc' := 463) (ls' := [(9, (0, a7)), (0, (2, 0)), (1, (0, v1)), (2, (0, v2))]) (st' := [(0, 0)]) rfl ?_
      exact rn_iretb rfl rfl rfl (Or.inl rfl) h rfl
  · refine rn_sls 2 (pc' := 513) (ls' := [(0, (2, 0)), (1, (0, v1)), (2, (0, v2))]) (st' := [(0, v2), (2, 0)]) rfl ?_
    refine rn_call 0 0 [(2, 0), (0, v2)] (r := []) rfl ⟨rfl, Or.inl ⟨_, rfl, by decide⟩⟩ (by decide) (fun _ => ⟨_, rfl, rfl⟩) rfl rfl (Nat.le_of_ble_eq_true rfl) h (fun w hw => t_X_fewest (d + 0) _ _ _ hw) (fun a3 μ4 h => ?_)
    refine rn_sls 0 (pc' := 516) (ls' := [(0, (2, 0)), (1, (0, v1)), (2, (0, v2))]) (st' := [(0, a3)]) rfl ?_
    refine rn_sls 1 (pc' := 517) (ls' := [(0, (2, 0)), (1, (0, v1)), (2, (0, v2))]) (st' := [(0, (-1)), (0, a3)]) rfl ?_
    refine rn_icmpn (t := 534) rfl rfl rfl rfl h (fun h => ?_) (fun h => ?_)
    · refine rn_sls 4 (pc' := 524) (ls' := [(0, (2, 0)), (1, (0, v1)), (2, (0, v2))]) (st' := [(0, 1), (0, 1), (0, v2), (2, 0)]) rfl ?_
      refine rn_call 0 1 [(2, 0), (0, v2), (0, 1), (0, 1)] (r := []) rfl ⟨rfl, Or.inl ⟨_, rfl, by decide⟩⟩ (by decide) (fun _ => ⟨_, rfl, rfl⟩) rfl rfl (Nat.le_of_ble_eq_true rfl) h (fun w hw => t_X_cheapest (d + 0) _ _ _ _ _ hw) (fun a5 μ6 h => ?_)
      refine rn_sls 0 (pc' := 527) (ls' := [(0, (2, 0)), (1, (0, v1)), (2, (0, v2))]) (st' := [(1, a5)]) rfl ?_
      refine rn_sls 2 (pc' := 531) (ls' := [(0, (2, 0)), (1, (0, v1)), (2, (0, v2))]) (st' := [(0, (lCmp a5 (-1)))]) rfl ?_
      refine rn_if (t := 536) rfl rfl rfl rfl h (fun h => ?_) (fun h => ?_)
      · exact rn_sub [0, 1, 2] rfl (t_L_sound_B536 d k4 hk4 _ _ _ _ h)
      · refine rn_sls 1 (pc' := 535) (ls' := [(0, (2, 0)), (1, (0, v1)), (2, (0, v2))]) (st' := [(0, 0)]) rfl ?_
        exact rn_iretb rfl rfl rfl (Or.inl rfl) h rfl
    · refine rn_sls 1 (pc' := 535) (ls' := [(0, (2, 0)), (1, (0, v1)), (2, (0, v2))]) (st' := [(0, 0)]) rfl ?_
      exact rn_iretb rfl rfl rfl (Or.inl rfl) h rfl
set_option maxRecDepth 20000 in
theorem t_L_sound_L310_b (d : Nat) (k4 : Int → Int → am_M → am_O) (hk4 : ∀ (v1 : Int) (v2 : Int) (μ : am_M) q, k4 v1 v2 μ = some q → am_run none (am_ar g_mt (d + 7)) 15 (some .boolean) k_L_sound 4 [(0, (2, 0)), (1, (0, v1)), (2, (0, v2))] [] μ (am_res 0 q)) (k310 : Int → Int → Int → Int → Int → Int → am_M → am_O) (hk310 : ∀ (v1 : Int) (v2 : Int) (v6 : Int) (v7 : Int) (v8 : Int) (v9 : Int) (μ : am_M) q, k310 v1 v2 v6 v7 v8 v9 μ = some q → am_run none (am_ar g_mt (d + 7)) 15 (some .boolean) k_L_sound 310 [(0, (2, 0)), (1, (0, v1)), (2, (0, v2)), (6, (0, v6)), (7, (0, v7)), (8, (0, v8)), (9, (0, v9))] [] μ (am_res 0 q)) : ∀ (v1 : Int) (v2 : Int) (v6 : Int) (v7 : Int) (v8 : Int) (v9 : Int) (μ : am_M) q, L_sound_L310_b k4 k310 v1 v2 v6 v7 v8 v9 μ = some q → am_run none (am_ar g_mt (d + 7)) 15 (some .boolean) k_L_sound 310 [(0, (2, 0)), (1, (0, v1)), (2, (0, v2)), (6, (0, v6)), (7, (0, v7)), (8, (0, v8)), (9, (0, v9))] [] μ (am_res 0 q) := by
  intro v1 v2 v6 v7 v8 v9 μ q h
  unfold L_sound_L310_b at h
  refine rn_sls 4 (pc' := 315) (ls' := [(0, (2, 0)), (1, (0, v1)), (2, (0, v2)), (6, (0, v6)), (7, (0, v7)), (8, (0, v8)), (9, (0, v9))]) (st' := [(0, 3), (0, v2), (2, 0), (0, v9)]) rfl ?_
  refine rn_call 0 0 [(2, 0), (0, v2), (0, 3)] (r := [(0, v9)]) rfl ⟨rfl, Or.inl ⟨_, rfl, by decide⟩⟩ (by decide) (fun _ => ⟨_, rfl, rfl⟩) rfl rfl (Nat.le_of_ble_eq_true rfl) h (fun w hw => t_X_bill (d + 5) _ _ _ _ hw) (fun a1 μ2 h => ?_)
  refine rn_sls 0 (pc' := 318) (ls' := [(0, (2, 0)), (1, (0, v1)), (2, (0, v2)), (6, (0, v6)), (7, (0, v7)), (8, (0, v8)), (9, (0, v9))]) (st' := [(0, a1), (0, v9)]) rfl ?_
  refine rn_icmpn (t := 361) rfl rfl rfl rfl h (fun h => ?_) (fun h => ?_)
  · refine rn_sls 4 (pc' := 326) (ls' := [(0, (2, 0)), (1, (0, v1)), (2, (0, v2)), (6, (0, v6)), (7, (0, v7)), (8, (0, v8)), (9, (0, v9))]) (st' := [(0, 0), (0, v9), (0, v2), (2, 0)]) rfl ?_
    refine rn_call 0 0 [(2, 0), (0, v2), (0, v9), (0, 0)] (r := []) rfl ⟨rfl, Or.inl ⟨_, rfl, by decide⟩⟩ (by decide) (fun _ => ⟨_, rfl, rfl⟩) rfl rfl (Nat.le_of_ble_eq_true rfl) h (fun w hw => t_X_reads (d + 1) _ _ _ _ _ hw) (fun a3 μ4 h => ?_)
    refine rn_sls 0 (pc' := 329) (ls' := [(0, (2, 0)), (1, (0, v1)), (2, (0, v2)), (6, (0, v6)), (7, (0, v7)), (8, (0, v8)), (9, (0, v9))]) (st' := [(0, a3)]) rfl ?_
    refine rn_sls 4 (pc' := 334) (ls' := [(0, (2, 0)), (1, (0, v1)), (2, (0, v2)), (6, (0, v6)), (7, (0, v7)), (8, (0, v8)), (9, (0, v9))]) (st' := [(0, 1), (0, v9), (0, v2), (2, 0), (0, a3)]) rfl ?_
    refine rn_call 0 0 [(2, 0), (0, v2), (0, v9), (0, 1)] (r := [(0, a3)]) rfl ⟨rfl, Or.inl ⟨_, rfl, by decide⟩⟩ (by decide) (fun _ => ⟨_, rfl, rfl⟩) rfl rfl (Nat.le_of_ble_eq_true rfl) h (fun w hw => t_X_reads (d + 1) _ _ _ _ _ hw) (fun a5 μ6 h => ?_)
    refine rn_sls 0 (pc' := 337) (ls' := [(0, (2, 0)), (1, (0, v1)), (2, (0, v2)), (6, (0, v6)), (7, (0, v7)), (8, (0, v8)), (9, (0, v9))]) (st' := [(0, a5), (0, a3)]) rfl ?_
    refine rn_icmp (t := 342) rfl rfl rfl rfl h (fun h => ?_) (fun h => ?_)
    · refine rn_sls 5 (pc' := 349) (ls' := [(0, (2, 0)), (1, (0, v1)), (2, (0, v2)), (6, (0, v6)), (7, (0, v7)), (8, (0, v8)), (9, (0, v9))]) (st' := [(0, 1), (0, v9), (0, v2), (2, 0), (0, v8)]) rfl ?_
      refine rn_call 0 0 [(2, 0), (0, v2), (0, v9), (0, 1)] (r := [(0, v8)]) rfl ⟨rfl, Or.inl ⟨_, rfl, by decide⟩⟩ (by decide) (fun _ => ⟨_, rfl, rfl⟩) rfl rfl (Nat.le_of_ble_eq_true rfl) h (fun w hw => t_X_reads (d + 1) _ _ _ _ _ hw) (fun a7 μ8 h => ?_)
      refine rn_sls 0 (pc' := 352) (ls' := [(0, (2, 0)), (1, (0, v1)), (2, (0, v2)), (6, (0, v6)), (7, (0, v7)), (8, (0, v8)), (9, (0, v9))]) (st' := [(0, a7), (0, v8)]) rfl ?_
      refine rn_sls 3 (pc' := 358) (ls' := [(9, (0, (w32 (v9 + 1)))), (8, (0, (w32 (v8 + a7)))), (0, (2, 0)), (1, (0, v1)), (2, (0, v2)), (6, (0, v6)), (7, (0, v7))]) (st' := []) rfl ?_
      refine rn_goto (t := 310) rfl rfl rfl ?_
      exact rn_sub [2, 3, 4, 5, 6, 1, 0] rfl (hk310 _ _ _ _ _ _ _ _ h)
    · refine rn_sls 1 (pc' := 341) (ls' := [(0, (2, 0)), (1, (0, v1)), (2, (0, v2)), (6, (0, v6)), (7, (0, v7)), (8, (0, v8)), (9, (0, v9))]) (st' := [(0, 0)]) rfl ?_
      exact rn_iretb rfl rfl rfl (Or.inl rfl) h rfl
  · refine rn_sls 2 (pc' := 365) (ls' := [(0, (2, 0)), (1, (0, v1)), (2, (0, v2)), (6, (0, v6)), (7, (0, v7)), (8, (0, v8)), (9, (0, v9))]) (st' := [(0, v7), (0, v8)]) rfl ?_
    refine rn_icmpn (t := 380) rfl rfl rfl rfl h (fun h => ?_) (fun h => ?_)
    · refine rn_sls 1 (pc' := 370) (ls' := [(0, (2, 0)), (1, (0, v1)), (2, (0, v2)), (6, (0, v6)), (7, (0, v7)), (8, (0, v8)), (9, (0, v9))]) (st' := [(0, v6)]) rfl ?_
      refine rn_ifn (t := 382) rfl rfl rfl rfl h (fun h => ?_) (fun h => ?_)
      · refine rn_sls 2 (pc' := 377) (ls' := [(0, (2, 0)), (1, (0, v1)), (2, (0, v2)), (6, (0, v6)), (7, (0, v7)), (8, (0, v8)), (9, (0, v9))]) (st' := [(0, v7), (0, v8)]) rfl ?_
        refine rn_icmp (t := 382) rfl rfl rfl rfl h (fun h => ?_) (fun h => ?_)
        · exact rn_sub [0, 1, 2] rfl (t_L_sound_B382 d k4 hk4 _ _ _ _ h)
        · refine rn_sls 1 (pc' := 381) (ls' := [(0, (2, 0)), (1, (0, v1)), (2, (0, v2)), (6, (0, v6)), (7, (0, v7)), (8, (0, v8)), (9, (0, v9))]) (st' := [(0, 0)]) rfl ?_
          exact rn_iretb rfl rfl rfl (Or.inl rfl) h rfl
      · exact rn_sub [0, 1, 2] rfl (t_L_sound_B382 d k4 hk4 _ _ _ _ h)
    · refine rn_sls 1 (pc' := 381) (ls' := [(0, (2, 0)), (1, (0, v1)), (2, (0, v2)), (6, (0, v6)), (7, (0, v7)), (8, (0, v8)), (9, (0, v9))]) (st' := [(0, 0)]) rfl ?_
      exact rn_iretb rfl rfl rfl (Or.inl rfl) h rfl
set_option maxRecDepth 20000 in
theorem t_L_sound_L310 (d : Nat) (k4 : Int → Int → am_M → am_O) (hk4 : ∀ (v1 : Int) (v2 : Int) (μ : am_M) q, k4 v1 v2 μ = some q → am_run none (am_ar g_mt (d + 7)) 15 (some .boolean) k_L_sound 4 [(0, (2, 0)), (1, (0, v1)), (2, (0, v2))] [] μ (am_res 0 q)) : ∀ (n : Nat) (v1 : Int) (v2 : Int) (v6 : Int) (v7 : Int) (v8 : Int) (v9 : Int) (μ : am_M) q, L_sound_L310 k4 n v1 v2 v6 v7 v8 v9 μ = some q → am_run none (am_ar g_mt (d + 7)) 15 (some .boolean) k_L_sound 310 [(0, (2, 0)), (1, (0, v1)), (2, (0, v2)), (6, (0, v6)), (7, (0, v7)), (8, (0, v8)), (9, (0, v9))] [] μ (am_res 0 q) := by
  intro n
  induction n with
  | zero => intro v1 v2 v6 v7 v8 v9 μ q h; cases h
  | succ n ih => intro v1 v2 v6 v7 v8 v9 μ q h; exact t_L_sound_L310_b d k4 hk4 (L_sound_L310 k4 n) ih v1 v2 v6 v7 v8 v9 μ q h
set_option maxRecDepth 20000 in
theorem t_L_sound_B304 (d : Nat) (k4 : Int → Int → am_M → am_O) (hk4 : ∀ (v1 : Int) (v2 : Int) (μ : am_M) q, k4 v1 v2 μ = some q → am_run none (am_ar g_mt (d + 7)) 15 (some .boolean) k_L_sound 4 [(0, (2, 0)), (1, (0, v1)), (2, (0, v2))] [] μ (am_res 0 q)) : ∀ (v1 : Int) (v2 : Int) (v6 : Int) (v7 : Int) (μ : am_M) q, L_sound_B304 k4 v1 v2 v6 v7 μ = some q → am_run none (am_ar g_mt (d + 7)) 15 (some .boolean) k_L_sound 304 [(0, (2, 0)), (1, (0, v1)), (2, (0, v2)), (6, (0, v6)), (7, (0, v7))] [] μ (am_res 0 q) := by
  intro v1 v2 v6 v7 μ q h
  unfold L_sound_B304 at h
  refine rn_sls 4 (pc' := 310) (ls' := [(9, (0, 0)), (8, (0, 0)), (0, (2, 0)), (1, (0, v1)), (2, (0, v2)), (6, (0, v6)), (7, (0, v7))]) (st' := []) rfl ?_
  exact rn_sub [2, 3, 4, 5, 6, 1, 0] rfl (t_L_sound_L310 d k4 hk4 am_FU _ _ _ _ _ _ _ _ h)
set_option maxRecDepth 20000 in
theorem t_L_sound_B288 (d : Nat) (k4 : Int → Int → am_M → am_O) (hk4 : ∀ (v1 : Int) (v2 : Int) (μ : am_M) q, k4 v1 v2 μ = some q → am_run none (am_ar g_mt (d + 7)) 15 (some .boolean) k_L_sound 4 [(0, (2, 0)), (1, (0, v1)), (2, (0, v2))] [] μ (am_res 0 q)) : ∀ (v1 : Int) (v2 : Int) (v6 : Int) (v7 : Int) (μ : am_M) q, L_sound_B288 k4 v1 v2 v6 v7 μ = some q → am_run none (am_ar g_mt (d + 7)) 15 (some .boolean) k_L_sound 288 [(0, (2, 0)), (1, (0, v1)), (2, (0, v2)), (6, (0, v6)), (7, (0, v7))] [] μ (am_res 0 q) := by
  intro v1 v2 v6 v7 μ q h
  unfold L_sound_B288 at h
  refine rn_sls 2 (pc' := 290) (ls' := [(0, (2, 0)), (1, (0, v1)), (2, (0, v2)), (6, (0, v6)), (7, (0, v7))]) (st' := [(0, v2), (2, 0)]) rfl ?_
  refine rn_call 0 0 [(2, 0), (0, v2)] (r := []) rfl ⟨rfl, Or.inl ⟨_, rfl, by decide⟩⟩ (by decide) (fun _ => ⟨_, rfl, rfl⟩) rfl rfl (Nat.le_of_ble_eq_true rfl) h (fun w hw => t_X_plain (d + 2) _ _ _ hw) (fun a1 μ2 h => ?_)
  refine rn_sls 0 (pc' := 293) (ls' := [(0, (2, 0)), (1, (0, v1)), (2, (0, v2)), (6, (0, v6)), (7, (0, v7))]) (st' := [(0, a1)]) rfl ?_
  refine rn_sls 1 (pc' := 294) (ls' := [(0, (2, 0)), (1, (0, v1)), (2, (0, v2)), (6, (0, v6)), (7, (0, v7))]) (st' := [(0, 1), (0, a1)]) rfl ?_
  refine rn_icmpn (t := 304) rfl rfl rfl rfl h (fun h => ?_) (fun h => ?_)
  · refine rn_sls 1 (pc' := 299) (ls' := [(0, (2, 0)), (1, (0, v1)), (2, (0, v2)), (6, (0, v6)), (7, (0, v7))]) (st' := [(0, v6)]) rfl ?_
    refine rn_if (t := 304) rfl rfl rfl rfl h (fun h => ?_) (fun h => ?_)
    · exact rn_sub [0, 1, 2, 3, 4] rfl (t_L_sound_B304 d k4 hk4 _ _ _ _ _ _ h)
    · refine rn_sls 1 (pc' := 303) (ls' := [(0, (2, 0)), (1, (0, v1)), (2, (0, v2)), (6, (0, v6)), (7, (0, v7))]) (st' := [(0, 0)]) rfl ?_
      exact rn_iretb rfl rfl rfl (Or.inl rfl) h rfl
  · exact rn_sub [0, 1, 2, 3, 4] rfl (t_L_sound_B304 d k4 hk4 _ _ _ _ _ _ h)
set_option maxRecDepth 20000 in
theorem t_L_sound_L232_b (d : Nat) (k4 : Int → Int → am_M → am_O) (hk4 : ∀ (v1 : Int) (v2 : Int) (μ : am_M) q, k4 v1 v2 μ = some q → am_run none (am_ar g_mt (d + 7)) 15 (some .boolean) k_L_sound 4 [(0, (2, 0)), (1, (0, v1)), (2, (0, v2))] [] μ (am_res 0 q)) (k232 : Int → Int → Int → Int → Int → Int → Int → am_M → am_O) (hk232 : ∀ (v1 : Int) (v2 : Int) (v3 : Int) (v4 : Int) (v6 : Int) (v7 : Int) (v8 : Int) (μ : am_M) q, k232 v1 v2 v3 v4 v6 v7 v8 μ = some q → am_run none (am_ar g_mt (d + 7)) 15 (some .boolean) k_L_sound 232 [(0, (2, 0)), (1, (0, v1)), (2, (0, v2)), (3, (0, v3)), (4, (0, v4)), (6, (0, v6)), (7, (0, v7)), (8, (0, v8))] [] μ (am_res 0 q)) : ∀ (v1 : Int) (v2 : Int) (v3 : Int) (v4 : Int) (v6 : Int) (v7 : Int) (v8 : Int) (μ : am_M) q, L_sound_L232_b k4 k232 v1 v2 v3 v4 v6 v7 v8 μ = some q → am_run none (am_ar g_mt (d + 7)) 15 (some .boolean) k_L_sound 232 [(0, (2, 0)), (1, (0, v1)), (2, (0, v2)), (3, (0, v3)), (4, (0, v4)), (6, (0, v6)), (7, (0, v7)), (8, (0, v8))] [] μ (am_res 0 q) := by
  intro v1 v2 v3 v4 v6 v7 v8 μ q h
  unfold L_sound_L232_b at h
  refine rn_sls 4 (pc' := 238) (ls' := [(0, (2, 0)), (1, (0, v1)), (2, (0, v2)), (3, (0, v3)), (4, (0, v4)), (6, (0, v6)), (7, (0, v7)), (8, (0, v8))]) (st' := [(0, (w32 (v3 + v4))), (0, v8)]) rfl ?_
  refine rn_icmpn (t := 273) rfl rfl rfl rfl h (fun h => ?_) (fun h => ?_)
  · refine rn_sls 3 (pc' := 245) (ls' := [(0, (2, 0)), (1, (0, v1)), (2, (0, v2)), (3, (0, v3)), (4, (0, v4)), (6, (0, v6)), (7, (0, v7)), (8, (0, v8))]) (st' := [(0, 0), (0, v8), (2, 0)]) rfl ?_
    refine rn_call 0 0 [(2, 0), (0, v8), (0, 0)] (r := []) rfl ⟨rfl, Or.inl ⟨_, rfl, by decide⟩⟩ (by decide) (fun _ => ⟨_, rfl, rfl⟩) rfl rfl (Nat.le_of_ble_eq_true rfl) h (fun w hw => t_X_line (d + 3) _ _ _ _ hw) (fun a3 μ4 h => ?_)
    refine rn_sls 0 (pc' := 248) (ls' := [(0, (2, 0)), (1, (0, v1)), (2, (0, v2)), (3, (0, v3)), (4, (0, v4)), (6, (0, v6)), (7, (0, v7)), (8, (0, v8))]) (st' := [(0, a3)]) rfl ?_
    refine rn_sls 1 (pc' := 249) (ls' := [(0, (2, 0)), (1, (0, v1)), (2, (0, v2)), (3, (0, v3)), (4, (0, v4)), (6, (0, v6)), (7, (0, v7)), (8, (0, v8))]) (st' := [(0, 5), (0, a3)]) rfl ?_
    refine rn_icmpn (t := 255) rfl rfl rfl rfl h (fun h => ?_) (fun h => ?_)
    · refine rn_sls 1 (pc' := 255) (ls' := [(6, (0, (w32 (v6 + 1)))), (0, (2, 0)), (1, (0, v1)), (2, (0, v2)), (3, (0, v3)), (4, (0, v4)), (7, (0, v7)), (8, (0, v8))]) (st' := []) rfl ?_
      exact rn_sub [1, 2, 3, 4, 5, 0, 6, 7] rfl (t_L_sound_B255 d k4 hk4 k232 hk232 _ _ _ _ _ _ _ _ _ h)
    · exact rn_sub [0, 1, 2, 3, 4, 5, 6, 7] rfl (t_L_sound_B255 d k4 hk4 k232 hk232 _ _ _ _ _ _ _ _ _ h)
  · refine rn_sls 1 (pc' := 275) (ls' := [(0, (2, 0)), (1, (0, v1)), (2, (0, v2)), (3, (0, v3)), (4, (0, v4)), (6, (0, v6)), (7, (0, v7)), (8, (0, v8))]) (st' := [(0, v6)]) rfl ?_
    refine rn_ifn (t := 288) rfl rfl rfl rfl h (fun h => ?_) (fun h => ?_)
    · refine rn_sls 3 (pc' := 281) (ls' := [(0, (2, 0)), (1, (0, v1)), (2, (0, v2)), (3, (0, v3)), (4, (0, v4)), (6, (0, v6)), (7, (0, v7)), (8, (0, v8))]) (st' := [(0, 0), (0, v2), (2, 0)]) rfl ?_
      refine rn_call 0 0 [(2, 0), (0, v2), (0, 0)] (r := []) rfl ⟨rfl, Or.inl ⟨_, rfl, by decide⟩⟩ (by decide) (fun _ => ⟨_, rfl, rfl⟩) rfl rfl (Nat.le_of_ble_eq_true rfl) h (fun w hw => t_X_ways (d + 1) _ _ _ _ hw) (fun a1 μ2 h => ?_)
      refine rn_sls 0 (pc' := 284) (ls' := [(0, (2, 0)), (1, (0, v1)), (2, (0, v2)), (3, (0, v3)), (4, (0, v4)), (6, (0, v6)), (7, (0, v7)), (8, (0, v8))]) (st' := [(0, a1)]) rfl ?_
      refine rn_sls 1 (pc' := 285) (ls' := [(0, (2, 0)), (1, (0, v1)), (2, (0, v2)), (3, (0, v3)), (4, (0, v4)), (6, (0, v6)), (7, (0, v7)), (8, (0, v8))]) (st' := [(0, 1), (0, a1)]) rfl ?_
      refine rn_icmpn (t := 302) rfl rfl rfl rfl h (fun h => ?_) (fun h => ?_)
      · exact rn_sub [0, 1, 2, 5, 6] rfl (t_L_sound_B288 d k4 hk4 _ _ _ _ _ _ h)
      · refine rn_sls 1 (pc' := 303) (ls' := [(0, (2, 0)), (1, (0, v1)), (2, (0, v2)), (3, (0, v3)), (4, (0, v4)), (6, (0, v6)), (7, (0, v7)), (8, (0, v8))]) (st' := [(0, 0)]) rfl ?_
        exact rn_iretb rfl rfl rfl (Or.inl rfl) h rfl
    · exact rn_sub [0, 1, 2, 5, 6] rfl (t_L_sound_B288 d k4 hk4 _ _ _ _ _ _ h)
set_option maxRecDepth 20000 in
theorem t_L_sound_L232 (d : Nat) (k4 : Int → Int → am_M → am_O) (hk4 : ∀ (v1 : Int) (v2 : Int) (μ : am_M) q, k4 v1 v2 μ = some q → am_run none (am_ar g_mt (d + 7)) 15 (some .boolean) k_L_sound 4 [(0, (2, 0)), (1, (0, v1)), (2, (0, v2))] [] μ (am_res 0 q)) : ∀ (n : Nat) (v1 : Int) (v2 : Int) (v3 : Int) (v4 : Int) (v6 : Int) (v7 : Int) (v8 : Int) (μ : am_M) q, L_sound_L232 k4 n v1 v2 v3 v4 v6 v7 v8 μ = some q → am_run none (am_ar g_mt (d + 7)) 15 (some .boolean) k_L_sound 232 [(0, (2, 0)), (1, (0, v1)), (2, (0, v2)), (3, (0, v3)), (4, (0, v4)), (6, (0, v6)), (7, (0, v7)), (8, (0, v8))] [] μ (am_res 0 q) := by
  intro n
  induction n with
  | zero => intro v1 v2 v3 v4 v6 v7 v8 μ q h; cases h
  | succ n ih => intro v1 v2 v3 v4 v6 v7 v8 μ q h; exact t_L_sound_L232_b d k4 hk4 (L_sound_L232 k4 n) ih v1 v2 v3 v4 v6 v7 v8 μ q h
set_option maxRecDepth 20000 in
theorem t_L_sound_B150 (d : Nat) (k4 : Int → Int → am_M → am_O) (hk4 : ∀ (v1 : Int) (v2 : Int) (μ : am_M) q, k4 v1 v2 μ = some q → am_run none (am_ar g_mt (d + 7)) 15 (some .boolean) k_L_sound 4 [(0, (2, 0)), (1, (0, v1)), (2, (0, v2))] [] μ (am_res 0 q)) : ∀ (v1 : Int) (v2 : Int) (v3 : Int) (v4 : Int) (μ : am_M) q, L_sound_B150 k4 v1 v2 v3 v4 μ = some q → am_run none (am_ar g_mt (d + 7)) 15 (some .boolean) k_L_sound 150 [(0, (2, 0)), (1, (0, v1)), (2, (0, v2)), (3, (0, v3)), (4, (0, v4))] [] μ (am_res 0 q) := by
  intro v1 v2 v3 v4 μ q h
  unfold L_sound_B150 at h
  refine rn_sls 7 (pc' := 158) (ls' := [(1, (0, (w32 (v1 + v4)))), (0, (2, 0)), (2, (0, v2)), (3, (0, v3)), (4, (0, v4))]) (st' := [(0, 0), (0, v2), (2, 0)]) rfl ?_
  refine rn_call 0 0 [(2, 0), (0, v2), (0, 0)] (r := []) rfl ⟨rfl, Or.inl ⟨_, rfl, by decide⟩⟩ (by decide) (fun _ => ⟨_, rfl, rfl⟩) rfl rfl (Nat.le_of_ble_eq_true rfl) h (fun w hw => t_X_ways (d + 1) _ _ _ _ hw) (fun a1 μ2 h => ?_)
  refine rn_sls 0 (pc' := 161) (ls' := [(1, (0, (w32 (v1 + v4)))), (0, (2, 0)), (2, (0, v2)), (3, (0, v3)), (4, (0, v4))]) (st' := [(0, a1)]) rfl ?_
  refine rn_sls 1 (pc' := 162) (ls' := [(1, (0, (w32 (v1 + v4)))), (0, (2, 0)), (2, (0, v2)), (3, (0, v3)), (4, (0, v4))]) (st' := [(0, 1), (0, a1)]) rfl ?_
  refine rn_icmp (t := 221) rfl rfl rfl rfl h (fun h => ?_) (fun h => ?_)
  · refine rn_sls 1 (pc' := 222) (ls' := [(1, (0, (w32 (v1 + v4)))), (0, (2, 0)), (2, (0, v2)), (3, (0, v3)), (4, (0, v4))]) (st' := [(0, 0)]) rfl ?_
    exact rn_iretb rfl rfl rfl (Or.inl rfl) h rfl
  · refine rn_sls 3 (pc' := 168) (ls' := [(1, (0, (w32 (v1 + v4)))), (0, (2, 0)), (2, (0, v2)), (3, (0, v3)), (4, (0, v4))]) (st' := [(0, 1), (0, v2), (2, 0)]) rfl ?_
    refine rn_call 0 0 [(2, 0), (0, v2), (0, 1)] (r := []) rfl ⟨rfl, Or.inl ⟨_, rfl, by decide⟩⟩ (by decide) (fun _ => ⟨_, rfl, rfl⟩) rfl rfl (Nat.le_of_ble_eq_true rfl) h (fun w hw => t_X_ways (d + 1) _ _ _ _ hw) (fun a3 μ4 h => ?_)
    refine rn_sls 0 (pc' := 171) (ls' := [(1, (0, (w32 (v1 + v4)))), (0, (2, 0)), (2, (0, v2)), (3, (0, v3)), (4, (0, v4))]) (st' := [(0, a3)]) rfl ?_
    refine rn_sls 3 (pc' := 174) (ls' := [(1, (0, (w32 (v1 + v4)))), (0, (2, 0)), (2, (0, v2)), (3, (0, v3)), (4, (0, v4))]) (st' := [(0, 2), (0, v2), (2, 0), (0, a3)]) rfl ?_
    refine rn_call 0 0 [(2, 0), (0, v2), (0, 2)] (r := [(0, a3)]) rfl ⟨rfl, Or.inl ⟨_, rfl, by decide⟩⟩ (by decide) (fun _ => ⟨_, rfl, rfl⟩) rfl rfl (Nat.le_of_ble_eq_true rfl) h (fun w hw => t_X_ways (d + 1) _ _ _ _ hw) (fun a5 μ6 h => ?_)
    refine rn_sls 0 (pc' := 177) (ls' := [(1, (0, (w32 (v1 + v4)))), (0, (2, 0)), (2, (0, v2)), (3, (0, v3)), (4, (0, v4))]) (st' := [(0, a5), (0, a3)]) rfl ?_
    refine rn_icmp (t := 221) rfl rfl rfl rfl h (fun h => ?_) (fun h => ?_)
    · refine rn_sls 1 (pc' := 222) (ls' := [(1, (0, (w32 (v1 + v4)))), (0, (2, 0)), (2, (0, v2)), (3, (0, v3)), (4, (0, v4))]) (st' := [(0, 0)]) rfl ?_
      exact rn_iretb rfl rfl rfl (Or.inl rfl) h rfl
    · refine rn_sls 3 (pc' := 183) (ls' := [(1, (0, (w32 (v1 + v4)))), (0, (2, 0)), (2, (0, v2)), (3, (0, v3)), (4, (0, v4))]) (st' := [(0, 1), (0, v2), (2, 0)]) rfl ?_
      refine rn_call 0 0 [(2, 0), (0, v2), (0, 1)] (r := []) rfl ⟨rfl, Or.inl ⟨_, rfl, by decide⟩⟩ (by decide) (fun _ => ⟨_, rfl, rfl⟩) rfl rfl (Nat.le_of_ble_eq_true rfl) h (fun w hw => t_X_ways (d + 1) _ _ _ _ hw) (fun a7 μ8 h => ?_)
      refine rn_sls 0 (pc' := 186) (ls' := [(1, (0, (w32 (v1 + v4)))), (0, (2, 0)), (2, (0, v2)), (3, (0, v3)), (4, (0, v4))]) (st' := [(0, a7)]) rfl ?_
      refine rn_sls 1 (pc' := 188) (ls' := [(1, (0, (w32 (v1 + v4)))), (0, (2, 0)), (2, (0, v2)), (3, (0, v3)), (4, (0, v4))]) (st' := [(0, v4), (0, a7)]) rfl ?_
      refine rn_icmpn (t := 221) rfl rfl rfl rfl h (fun h => ?_) (fun h => ?_)
      · refine rn_sls 3 (pc' := 194) (ls' := [(1, (0, (w32 (v1 + v4)))), (0, (2, 0)), (2, (0, v2)), (3, (0, v3)), (4, (0, v4))]) (st' := [(0, 0), (0, v2), (2, 0)]) rfl ?_
        refine rn_call 0 0 [(2, 0), (0, v2), (0, 0)] (r := []) rfl ⟨rfl, Or.inl ⟨_, rfl, by decide⟩⟩ (by decide) (fun _ => ⟨_, rfl, rfl⟩) rfl rfl (Nat.le_of_ble_eq_true rfl) h (fun w hw => t_X_needs (d + 0) _ _ _ _ hw) (fun a9 μ10 h => ?_)
        refine rn_sls 0 (pc' := 197) (ls' := [(1, (0, (w32 (v1 + v4)))), (0, (2, 0)), (2, (0, v2)), (3, (0, v3)), (4, (0, v4))]) (st' := [(0, a9)]) rfl ?_
        refine rn_sls 3 (pc' := 200) (ls' := [(1, (0, (w32 (v1 + v4)))), (0, (2, 0)), (2, (0, v2)), (3, (0, v3)), (4, (0, v4))]) (st' := [(0, 1), (0, v2), (2, 0), (0, a9)]) rfl ?_
        refine rn_call 0 0 [(2, 0), (0, v2), (0, 1)] (r := [(0, a9)]) rfl ⟨rfl, Or.inl ⟨_, rfl, by decide⟩⟩ (by decide) (fun _ => ⟨_, rfl, rfl⟩) rfl rfl (Nat.le_of_ble_eq_true rfl) h (fun w hw => t_X_needs (d + 0) _ _ _ _ hw) (fun a11 μ12 h => ?_)
        refine rn_sls 0 (pc' := 203) (ls' := [(1, (0, (w32 (v1 + v4)))), (0, (2, 0)), (2, (0, v2)), (3, (0, v3)), (4, (0, v4))]) (st' := [(0, a11), (0, a9)]) rfl ?_
        refine rn_icmpn (t := 221) rfl rfl rfl rfl h (fun h => ?_) (fun h => ?_)
        · refine rn_sls 3 (pc' := 209) (ls' := [(1, (0, (w32 (v1 + v4)))), (0, (2, 0)), (2, (0, v2)), (3, (0, v3)), (4, (0, v4))]) (st' := [(0, 2), (0, v2), (2, 0)]) rfl ?_
          refine rn_call 0 0 [(2, 0), (0, v2), (0, 2)] (r := []) rfl ⟨rfl, Or.inl ⟨_, rfl, by decide⟩⟩ (by decide) (fun _ => ⟨_, rfl, rfl⟩) rfl rfl (Nat.le_of_ble_eq_true rfl) h (fun w hw => t_X_needs (d + 0) _ _ _ _ hw) (fun a13 μ14 h => ?_)
          refine rn_sls 0 (pc' := 212) (ls' := [(1, (0, (w32 (v1 + v4)))), (0, (2, 0)), (2, (0, v2)), (3, (0, v3)), (4, (0, v4))]) (st' := [(0, a13)]) rfl ?_
          refine rn_sls 3 (pc' := 215) (ls' := [(1, (0, (w32 (v1 + v4)))), (0, (2, 0)), (2, (0, v2)), (3, (0, v3)), (4, (0, v4))]) (st' := [(0, 3), (0, v2), (2, 0), (0, a13)]) rfl ?_
          refine rn_call 0 0 [(2, 0), (0, v2), (0, 3)] (r := [(0, a13)]) rfl ⟨rfl, Or.inl ⟨_, rfl, by decide⟩⟩ (by decide) (fun _ => ⟨_, rfl, rfl⟩) rfl rfl (Nat.le_of_ble_eq_true rfl) h (fun w hw => t_X_needs (d + 0) _ _ _ _ hw) (fun a15 μ16 h => ?_)
          refine rn_sls 0 (pc' := 218) (ls' := [(1, (0, (w32 (v1 + v4)))), (0, (2, 0)), (2, (0, v2)), (3, (0, v3)), (4, (0, v4))]) (st' := [(0, a15), (0, a13)]) rfl ?_
          refine rn_icmp (t := 223) rfl rfl rfl rfl h (fun h => ?_) (fun h => ?_)
          · refine rn_sls 6 (pc' := 232) (ls' := [(8, (0, v3)), (7, (0, 0)), (6, (0, 0)), (1, (0, (w32 (v1 + v4)))), (0, (2, 0)), (2, (0, v2)), (3, (0, v3)), (4, (0, v4))]) (st' := []) rfl ?_
            exact rn_sub [4, 3, 5, 6, 7, 2, 1, 0] rfl (t_L_sound_L232 d k4 hk4 am_FU _ _ _ _ _ _ _ _ _ h)
          · refine rn_sls 1 (pc' := 222) (ls' := [(1, (0, (w32 (v1 + v4)))), (0, (2, 0)), (2, (0, v2)), (3, (0, v3)), (4, (0, v4))]) (st' := [(0, 0)]) rfl ?_
            exact rn_iretb rfl rfl rfl (Or.inl rfl) h rfl
        · refine rn_sls 1 (pc' := 222) (ls' := [(1, (0, (w32 (v1 + v4)))), (0, (2, 0)), (2, (0, v2)), (3, (0, v3)), (4, (0, v4))]) (st' := [(0, 0)]) rfl ?_
          exact rn_iretb rfl rfl rfl (Or.inl rfl) h rfl
      · refine rn_sls 1 (pc' := 222) (ls' := [(1, (0, (w32 (v1 + v4)))), (0, (2, 0)), (2, (0, v2)), (3, (0, v3)), (4, (0, v4))]) (st' := [(0, 0)]) rfl ?_
        exact rn_iretb rfl rfl rfl (Or.inl rfl) h rfl
set_option maxRecDepth 20000 in
theorem t_L_sound_B117 (d : Nat) (k4 : Int → Int → am_M → am_O) (hk4 : ∀ (v1 : Int) (v2 : Int) (μ : am_M) q, k4 v1 v2 μ = some q → am_run none (am_ar g_mt (d + 7)) 15 (some .boolean) k_L_sound 4 [(0, (2, 0)), (1, (0, v1)), (2, (0, v2))] [] μ (am_res 0 q)) : ∀ (v1 : Int) (v2 : Int) (v3 : Int) (v4 : Int) (v5 : Int) (s0 : Int) (s1 : Int) (μ : am_M) q, L_sound_B117 k4 v1 v2 v3 v4 v5 s0 s1 μ = some q → am_run none (am_ar g_mt (d + 7)) 15 (some .boolean) k_L_sound 117 [(0, (2, 0)), (1, (0, v1)), (2, (0, v2)), (3, (0, v3)), (4, (0, v4)), (5, (0, v5))] [(0, s1), (0, s0)] μ (am_res 0 q) := by
  intro v1 v2 v3 v4 v5 s0 s1 μ q h
  unfold L_sound_B117 at h
  refine rn_icmpn (t := 148) rfl rfl rfl rfl h (fun h => ?_) (fun h => ?_)
  · refine rn_sls 1 (pc' := 122) (ls' := [(0, (2, 0)), (1, (0, v1)), (2, (0, v2)), (3, (0, v3)), (4, (0, v4)), (5, (0, v5))]) (st' := [(0, v5)]) rfl ?_
    refine rn_if (t := 150) rfl rfl rfl rfl h (fun h => ?_) (fun h => ?_)
    · exact rn_sub [0, 1, 2, 3, 4] rfl (t_L_sound_B150 d k4 hk4 _ _ _ _ _ _ h)
    · refine rn_sls 3 (pc' := 128) (ls' := [(0, (2, 0)), (1, (0, v1)), (2, (0, v2)), (3, (0, v3)), (4, (0, v4)), (5, (0, v5))]) (st' := [(0, 1), (0, v2), (2, 0)]) rfl ?_
      refine rn_call 0 0 [(2, 0), (0, v2), (0, 1)] (r := []) rfl ⟨rfl, Or.inl ⟨_, rfl, by decide⟩⟩ (by decide) (fun _ => ⟨_, rfl, rfl⟩) rfl rfl (Nat.le_of_ble_eq_true rfl) h (fun w hw => t_X_check (d + 5) _ _ _ _ hw) (fun a1 μ2 h => ?_)
      refine rn_sls 0 (pc' := 131) (ls' := [(0, (2, 0)), (1, (0, v1)), (2, (0, v2)), (3, (0, v3)), (4, (0, v4)), (5, (0, v5))]) (st' := [(0, a1)]) rfl ?_
      refine rn_sls 1 (pc' := 132) (ls' := [(0, (2, 0)), (1, (0, v1)), (2, (0, v2)), (3, (0, v3)), (4, (0, v4)), (5, (0, v5))]) (st' := [(0, v3), (0, a1)]) rfl ?_
      refine rn_icmp (t := 148) rfl rfl rfl rfl h (fun h => ?_) (fun h => ?_)
      · refine rn_sls 1 (pc' := 149) (ls' := [(0, (2, 0)), (1, (0, v1)), (2, (0, v2)), (3, (0, v3)), (4, (0, v4)), (5, (0, v5))]) (st' := [(0, 0)]) rfl ?_
        exact rn_iretb rfl rfl rfl (Or.inl rfl) h rfl
      · refine rn_sls 3 (pc' := 138) (ls' := [(0, (2, 0)), (1, (0, v1)), (2, (0, v2)), (3, (0, v3)), (4, (0, v4)), (5, (0, v5))]) (st' := [(0, 1), (0, v2), (2, 0)]) rfl ?_
        refine rn_call 0 0 [(2, 0), (0, v2), (0, 1)] (r := []) rfl ⟨rfl, Or.inl ⟨_, rfl, by decide⟩⟩ (by decide) (fun _ => ⟨_, rfl, rfl⟩) rfl rfl (Nat.le_of_ble_eq_true rfl) h (fun w hw => t_X_check (d + 5) _ _ _ _ hw) (fun a3 μ4 h => ?_)
        refine rn_sls 0 (pc' := 141) (ls' := [(0, (2, 0)), (1, (0, v1)), (2, (0, v2)), (3, (0, v3)), (4, (0, v4)), (5, (0, v5))]) (st' := [(0, a3)]) rfl ?_
        refine rn_sls 3 (pc' := 145) (ls' := [(0, (2, 0)), (1, (0, v1)), (2, (0, v2)), (3, (0, v3)), (4, (0, v4)), (5, (0, v5))]) (st' := [(0, (w32 (v3 + v4))), (0, a3)]) rfl ?_
        refine rn_icmp (t := 150) rfl rfl rfl rfl h (fun h => ?_) (fun h => ?_)
        · exact rn_sub [0, 1, 2, 3, 4] rfl (t_L_sound_B150 d k4 hk4 _ _ _ _ _ _ h)
        · refine rn_sls 1 (pc' := 149) (ls' := [(0, (2, 0)), (1, (0, v1)), (2, (0, v2)), (3, (0, v3)), (4, (0, v4)), (5, (0, v5))]) (st' := [(0, 0)]) rfl ?_
          exact rn_iretb rfl rfl rfl (Or.inl rfl) h rfl
  · refine rn_sls 1 (pc' := 149) (ls' := [(0, (2, 0)), (1, (0, v1)), (2, (0, v2)), (3, (0, v3)), (4, (0, v4)), (5, (0, v5))]) (st' := [(0, 0)]) rfl ?_
    exact rn_iretb rfl rfl rfl (Or.inl rfl) h rfl
set_option maxRecDepth 20000 in
theorem t_L_sound_B103 (d : Nat) (k4 : Int → Int → am_M → am_O) (hk4 : ∀ (v1 : Int) (v2 : Int) (μ : am_M) q, k4 v1 v2 μ = some q → am_run none (am_ar g_mt (d + 7)) 15 (some .boolean) k_L_sound 4 [(0, (2, 0)), (1, (0, v1)), (2, (0, v2))] [] μ (am_res 0 q)) : ∀ (v1 : Int) (v2 : Int) (v3 : Int) (v4 : Int) (v5 : Int) (s0 : Int) (μ : am_M) q, L_sound_B103 k4 v1 v2 v3 v4 v5 s0 μ = some q → am_run none (am_ar g_mt (d + 7)) 15 (some .boolean) k_L_sound 103 [(0, (2, 0)), (1, (0, v1)), (2, (0, v2)), (3, (0, v3)), (4, (0, v4)), (5, (0, v5))] [(0, s0)] μ (am_res 0 q) := by
  intro v1 v2 v3 v4 v5 s0 μ q h
  unfold L_sound_B103 at h
  refine rn_sls 3 (pc' := 106) (ls' := [(0, (2, 0)), (1, (0, v1)), (2, (0, v2)), (3, (0, v3)), (4, (0, v4)), (5, (0, v5))]) (st' := [(0, 1), (0, v2), (2, 0), (0, s0)]) rfl ?_
  refine rn_call 0 0 [(2, 0), (0, v2), (0, 1)] (r := [(0, s0)]) rfl ⟨rfl, Or.inl ⟨_, rfl, by decide⟩⟩ (by decide) (fun _ => ⟨_, rfl, rfl⟩) rfl rfl (Nat.le_of_ble_eq_true rfl) h (fun w hw => t_X_check (d + 5) _ _ _ _ hw) (fun a1 μ2 h => ?_)
  refine rn_sls 0 (pc' := 109) (ls' := [(0, (2, 0)), (1, (0, v1)), (2, (0, v2)), (3, (0, v3)), (4, (0, v4)), (5, (0, v5))]) (st' := [(0, a1), (0, s0)]) rfl ?_
  refine rn_ifn (t := 116) rfl rfl rfl rfl h (fun h => ?_) (fun h => ?_)
  · refine rn_sls 1 (pc' := 113) (ls' := [(0, (2, 0)), (1, (0, v1)), (2, (0, v2)), (3, (0, v3)), (4, (0, v4)), (5, (0, v5))]) (st' := [(0, 1), (0, s0)]) rfl ?_
    refine rn_goto (t := 117) rfl rfl rfl ?_
    exact rn_sub [0, 1, 2, 3, 4, 5] rfl (t_L_sound_B117 d k4 hk4 _ _ _ _ _ _ _ _ _ h)
  · refine rn_sls 1 (pc' := 117) (ls' := [(0, (2, 0)), (1, (0, v1)), (2, (0, v2)), (3, (0, v3)), (4, (0, v4)), (5, (0, v5))]) (st' := [(0, 0), (0, s0)]) rfl ?_
    exact rn_sub [0, 1, 2, 3, 4, 5] rfl (t_L_sound_B117 d k4 hk4 _ _ _ _ _ _ _ _ _ h)
set_option maxRecDepth 20000 in
theorem t_L_sound_B57 (d : Nat) (k4 : Int → Int → am_M → am_O) (hk4 : ∀ (v1 : Int) (v2 : Int) (μ : am_M) q, k4 v1 v2 μ = some q → am_run none (am_ar g_mt (d + 7)) 15 (some .boolean) k_L_sound 4 [(0, (2, 0)), (1, (0, v1)), (2, (0, v2))] [] μ (am_res 0 q)) : ∀ (v1 : Int) (v2 : Int) (v3 : Int) (v4 : Int) (v5 : Int) (s0 : Int) (s1 : Int) (μ : am_M) q, L_sound_B57 k4 v1 v2 v3 v4 v5 s0 s1 μ = some q → am_run none (am_ar g_mt (d + 7)) 15 (some .boolean) k_L_sound 57 [(0, (2, 0)), (1, (0, v1)), (2, (0, v2)), (3, (0, v3)), (4, (0, v4)), (5, (0, v5))] [(0, s1), (0, s0)] μ (am_res 0 q) := by
  intro v1 v2 v3 v4 v5 s0 s1 μ q h
  unfold L_sound_B57 at h
  refine rn_icmpn (t := 91) rfl rfl rfl rfl h (fun h => ?_) (fun h => ?_)
  · refine rn_sls 3 (pc' := 63) (ls' := [(0, (2, 0)), (1, (0, v1)), (2, (0, v2)), (3, (0, v3)), (4, (0, v4)), (5, (0, v5))]) (st' := [(0, 5), (0, v2), (2, 0)]) rfl ?_
    refine rn_call 0 0 [(2, 0), (0, v2), (0, 5)] (r := []) rfl ⟨rfl, Or.inl ⟨_, rfl, by decide⟩⟩ (by decide) (fun _ => ⟨_, rfl, rfl⟩) rfl rfl (Nat.le_of_ble_eq_true rfl) h (fun w hw => t_X_bill (d + 5) _ _ _ _ hw) (fun a1 μ2 h => ?_)
    refine rn_sls 0 (pc' := 66) (ls' := [(0, (2, 0)), (1, (0, v1)), (2, (0, v2)), (3, (0, v3)), (4, (0, v4)), (5, (0, v5))]) (st' := [(0, a1)]) rfl ?_
    refine rn_sls 3 (pc' := 69) (ls' := [(0, (2, 0)), (1, (0, v1)), (2, (0, v2)), (3, (0, v3)), (4, (0, v4)), (5, (0, v5))]) (st' := [(0, 4), (0, v2), (2, 0), (0, a1)]) rfl ?_
    refine rn_call 0 0 [(2, 0), (0, v2), (0, 4)] (r := [(0, a1)]) rfl ⟨rfl, Or.inl ⟨_, rfl, by decide⟩⟩ (by decide) (fun _ => ⟨_, rfl, rfl⟩) rfl rfl (Nat.le_of_ble_eq_true rfl) h (fun w hw => t_X_bill (d + 5) _ _ _ _ hw) (fun a3 μ4 h => ?_)
    refine rn_sls 0 (pc' := 72) (ls' := [(0, (2, 0)), (1, (0, v1)), (2, (0, v2)), (3, (0, v3)), (4, (0, v4)), (5, (0, v5))]) (st' := [(0, a3), (0, a1)]) rfl ?_
    refine rn_icmpn (t := 91) rfl rfl rfl rfl h (fun h => ?_) (fun h => ?_)
    · refine rn_sls 7 (pc' := 83) (ls' := [(0, (2, 0)), (1, (0, v1)), (2, (0, v2)), (3, (0, v3)), (4, (0, v4)), (5, (0, v5))]) (st' := [(0, 0), (0, (w32 ((w32 (v3 + v4)) - 1))), (2, 0)]) rfl ?_
      refine rn_call 0 0 [(2, 0), (0, (w32 ((w32 (v3 + v4)) - 1))), (0, 0)] (r := []) rfl ⟨rfl, Or.inl ⟨_, rfl, by decide⟩⟩ (by decide) (fun _ => ⟨_, rfl, rfl⟩) rfl rfl (Nat.le_of_ble_eq_true rfl) h (fun w hw => t_X_line (d + 3) _ _ _ _ hw) (fun a5 μ6 h => ?_)
      refine rn_sls 0 (pc' := 86) (ls' := [(0, (2, 0)), (1, (0, v1)), (2, (0, v2)), (3, (0, v3)), (4, (0, v4)), (5, (0, v5))]) (st' := [(0, a5)]) rfl ?_
      refine rn_sls 1 (pc' := 88) (ls' := [(0, (2, 0)), (1, (0, v1)), (2, (0, v2)), (3, (0, v3)), (4, (0, v4)), (5, (0, v5))]) (st' := [(0, 8), (0, a5)]) rfl ?_
      refine rn_icmp (t := 93) rfl rfl rfl rfl h (fun h => ?_) (fun h => ?_)
      · refine rn_sls 1 (pc' := 95) (ls' := [(0, (2, 0)), (1, (0, v1)), (2, (0, v2)), (3, (0, v3)), (4, (0, v4)), (5, (0, v5))]) (st' := [(0, v5)]) rfl ?_
        refine rn_ifn (t := 102) rfl rfl rfl rfl h (fun h => ?_) (fun h => ?_)
        · refine rn_sls 1 (pc' := 99) (ls' := [(0, (2, 0)), (1, (0, v1)), (2, (0, v2)), (3, (0, v3)), (4, (0, v4)), (5, (0, v5))]) (st' := [(0, 1)]) rfl ?_
          refine rn_goto (t := 103) rfl rfl rfl ?_
          exact rn_sub [0, 1, 2, 3, 4, 5] rfl (t_L_sound_B103 d k4 hk4 _ _ _ _ _ _ _ _ h)
        · refine rn_sls 1 (pc' := 103) (ls' := [(0, (2, 0)), (1, (0, v1)), (2, (0, v2)), (3, (0, v3)), (4, (0, v4)), (5, (0, v5))]) (st' := [(0, 0)]) rfl ?_
          exact rn_sub [0, 1, 2, 3, 4, 5] rfl (t_L_sound_B103 d k4 hk4 _ _ _ _ _ _ _ _ h)
      · refine rn_sls 1 (pc' := 92) (ls' := [(0, (2, 0)), (1, (0, v1)), (2, (0, v2)), (3, (0, v3)), (4, (0, v4)), (5, (0, v5))]) (st' := [(0, 0)]) rfl ?_
        exact rn_iretb rfl rfl rfl (Or.inl rfl) h rfl
    · refine rn_sls 1 (pc' := 92) (ls' := [(0, (2, 0)), (1, (0, v1)), (2, (0, v2)), (3, (0, v3)), (4, (0, v4)), (5, (0, v5))]) (st' := [(0, 0)]) rfl ?_
      exact rn_iretb rfl rfl rfl (Or.inl rfl) h rfl
  · refine rn_sls 1 (pc' := 92) (ls' := [(0, (2, 0)), (1, (0, v1)), (2, (0, v2)), (3, (0, v3)), (4, (0, v4)), (5, (0, v5))]) (st' := [(0, 0)]) rfl ?_
    exact rn_iretb rfl rfl rfl (Or.inl rfl) h rfl
set_option maxRecDepth 20000 in
theorem t_L_sound_B580 (d : Nat) : ∀ (s0 : Int) (s1 : Int) (μ : am_M) q, L_sound_B580 s0 s1 μ = some q → am_run none (am_ar g_mt (d + 7)) 15 (some .boolean) k_L_sound 580 [(0, (2, 0))] [(0, s1), (0, s0)] μ (am_res 0 q) := by
  intro s0 s1 μ q h
  unfold L_sound_B580 at h
  refine rn_icmpn (t := 611) rfl rfl rfl rfl h (fun h => ?_) (fun h => ?_)
  · refine rn_sls 2 (pc' := 585) (ls' := [(0, (2, 0))]) (st' := [(0, 2), (2, 0)]) rfl ?_
    refine rn_call 0 0 [(2, 0), (0, 2)] (r := []) rfl ⟨rfl, Or.inl ⟨_, rfl, by decide⟩⟩ (by decide) (fun _ => ⟨_, rfl, rfl⟩) rfl rfl (Nat.le_of_ble_eq_true rfl) h (fun w hw => t_X_machine (d + 3) _ _ _ hw) (fun a1 μ2 h => ?_)
    refine rn_sls 0 (pc' := 588) (ls' := [(0, (2, 0))]) (st' := [(0, a1)]) rfl ?_
    refine rn_sls 2 (pc' := 590) (ls' := [(0, (2, 0))]) (st' := [(0, 3), (2, 0), (0, a1)]) rfl ?_
    refine rn_call 0 0 [(2, 0), (0, 3)] (r := [(0, a1)]) rfl ⟨rfl, Or.inl ⟨_, rfl, by decide⟩⟩ (by decide) (fun _ => ⟨_, rfl, rfl⟩) rfl rfl (Nat.le_of_ble_eq_true rfl) h (fun w hw => t_X_machine (d + 3) _ _ _ hw) (fun a3 μ4 h => ?_)
    refine rn_sls 0 (pc' := 593) (ls' := [(0, (2, 0))]) (st' := [(0, a3), (0, a1)]) rfl ?_
    refine rn_icmpn (t := 611) rfl rfl rfl rfl h (fun h => ?_) (fun h => ?_)
    · refine rn_sls 2 (pc' := 599) (ls' := [(0, (2, 0))]) (st' := [(0, 7), (2, 0)]) rfl ?_
      refine rn_call 0 0 [(2, 0), (0, 7)] (r := []) rfl ⟨rfl, Or.inl ⟨_, rfl, by decide⟩⟩ (by decide) (fun _ => ⟨_, rfl, rfl⟩) rfl rfl (Nat.le_of_ble_eq_true rfl) h (fun w hw => t_X_machine (d + 3) _ _ _ hw) (fun a5 μ6 h => ?_)
      refine rn_sls 0 (pc' := 602) (ls' := [(0, (2, 0))]) (st' := [(0, a5)]) rfl ?_
      refine rn_sls 1 (pc' := 604) (ls' := [(0, (2, 0))]) (st' := [(0, 16), (0, a5)]) rfl ?_
      refine rn_icmpn (t := 611) rfl rfl rfl rfl h (fun h => ?_) (fun h => ?_)
      · refine rn_sls 1 (pc' := 608) (ls' := [(0, (2, 0))]) (st' := [(0, 1)]) rfl ?_
        refine rn_goto (t := 612) rfl rfl rfl ?_
        exact rn_iretb rfl rfl rfl (Or.inr rfl) h rfl
      · refine rn_sls 1 (pc' := 612) (ls' := [(0, (2, 0))]) (st' := [(0, 0)]) rfl ?_
        exact rn_iretb rfl rfl rfl (Or.inl rfl) h rfl
    · refine rn_sls 1 (pc' := 612) (ls' := [(0, (2, 0))]) (st' := [(0, 0)]) rfl ?_
      exact rn_iretb rfl rfl rfl (Or.inl rfl) h rfl
  · refine rn_sls 1 (pc' := 612) (ls' := [(0, (2, 0))]) (st' := [(0, 0)]) rfl ?_
    exact rn_iretb rfl rfl rfl (Or.inl rfl) h rfl
set_option maxRecDepth 20000 in
theorem t_L_sound_B567 (d : Nat) : ∀ (s0 : Int) (μ : am_M) q, L_sound_B567 s0 μ = some q → am_run none (am_ar g_mt (d + 7)) 15 (some .boolean) k_L_sound 567 [(0, (2, 0))] [(0, s0)] μ (am_res 0 q) := by
  intro s0 μ q h
  unfold L_sound_B567 at h
  refine rn_sls 2 (pc' := 569) (ls' := [(0, (2, 0))]) (st' := [(0, 1), (2, 0), (0, s0)]) rfl ?_
  refine rn_call 0 0 [(2, 0), (0, 1)] (r := [(0, s0)]) rfl ⟨rfl, Or.inl ⟨_, rfl, by decide⟩⟩ (by decide) (fun _ => ⟨_, rfl, rfl⟩) rfl rfl (Nat.le_of_ble_eq_true rfl) h (fun w hw => t_X_machine (d + 3) _ _ _ hw) (fun a1 μ2 h => ?_)
  refine rn_sls 0 (pc' := 572) (ls' := [(0, (2, 0))]) (st' := [(0, a1), (0, s0)]) rfl ?_
  refine rn_if (t := 579) rfl rfl rfl rfl h (fun h => ?_) (fun h => ?_)
  · refine rn_sls 1 (pc' := 580) (ls' := [(0, (2, 0))]) (st' := [(0, 0), (0, s0)]) rfl ?_
    exact rn_sub [0] rfl (t_L_sound_B580 d  _ _ _ _ h)
  · refine rn_sls 1 (pc' := 576) (ls' := [(0, (2, 0))]) (st' := [(0, 1), (0, s0)]) rfl ?_
    refine rn_goto (t := 580) rfl rfl rfl ?_
    exact rn_sub [0] rfl (t_L_sound_B580 d  _ _ _ _ h)
set_option maxRecDepth 20000 in
theorem t_L_sound_L4_b (d : Nat) (k4 : Int → Int → am_M → am_O) (hk4 : ∀ (v1 : Int) (v2 : Int) (μ : am_M) q, k4 v1 v2 μ = some q → am_run none (am_ar g_mt (d + 7)) 15 (some .boolean) k_L_sound 4 [(0, (2, 0)), (1, (0, v1)), (2, (0, v2))] [] μ (am_res 0 q)) : ∀ (v1 : Int) (v2 : Int) (μ : am_M) q, L_sound_L4_b k4 v1 v2 μ = some q → am_run none (am_ar g_mt (d + 7)) 15 (some .boolean) k_L_sound 4 [(0, (2, 0)), (1, (0, v1)), (2, (0, v2))] [] μ (am_res 0 q) := by
  intro v1 v2 μ q h
  unfold L_sound_L4_b at h
  refine rn_sls 3 (pc' := 7) (ls' := [(0, (2, 0)), (1, (0, v1)), (2, (0, v2))]) (st' := [(0, 1), (2, 0), (0, v2)]) rfl ?_
  refine rn_call 0 0 [(2, 0), (0, 1)] (r := [(0, v2)]) rfl ⟨rfl, Or.inl ⟨_, rfl, by decide⟩⟩ (by decide) (fun _ => ⟨_, rfl, rfl⟩) rfl rfl (Nat.le_of_ble_eq_true rfl) h (fun w hw => t_X_count (d + 6) _ _ _ hw) (fun a1 μ2 h => ?_)
  refine rn_sls 0 (pc' := 10) (ls' := [(0, (2, 0)), (1, (0, v1)), (2, (0, v2))]) (st' := [(0, a1), (0, v2)]) rfl ?_
  refine rn_icmpn (t := 542) rfl rfl rfl rfl h (fun h => ?_) (fun h => ?_)
  · refine rn_sls 3 (pc' := 16) (ls' := [(0, (2, 0)), (1, (0, v1)), (2, (0, v2))]) (st' := [(0, 0), (0, v2), (2, 0)]) rfl ?_
    refine rn_call 0 0 [(2, 0), (0, v2), (0, 0)] (r := []) rfl ⟨rfl, Or.inl ⟨_, rfl, by decide⟩⟩ (by decide) (fun _ => ⟨_, rfl, rfl⟩) rfl rfl (Nat.le_of_ble_eq_true rfl) h (fun w hw => t_X_bill (d + 5) _ _ _ _ hw) (fun a7 μ8 h => ?_)
    refine rn_sls 0 (pc' := 19) (ls' := [(0, (2, 0)), (1, (0, v1)), (2, (0, v2))]) (st' := [(0, a7)]) rfl ?_
    refine rn_sls 4 (pc' := 23) (ls' := [(3, (0, a7)), (0, (2, 0)), (1, (0, v1)), (2, (0, v2))]) (st' := [(0, 1), (0, v2), (2, 0)]) rfl ?_
    refine rn_call 0 0 [(2, 0), (0, v2), (0, 1)] (r := []) rfl ⟨rfl, Or.inl ⟨_, rfl, by decide⟩⟩ (by decide) (fun _ => ⟨_, rfl, rfl⟩) rfl rfl (Nat.le_of_ble_eq_true rfl) h (fun w hw => t_X_bill (d + 5) _ _ _ _ hw) (fun a9 μ10 h => ?_)
    refine rn_sls 0 (pc' := 26) (ls' := [(3, (0, a7)), (0, (2, 0)), (1, (0, v1)), (2, (0, v2))]) (st' := [(0, a9)]) rfl ?_
    refine rn_sls 4 (pc' := 31) (ls' := [(4, (0, a9)), (3, (0, a7)), (0, (2, 0)), (1, (0, v1)), (2, (0, v2))]) (st' := [(0, 0), (0, v2), (2, 0)]) rfl ?_
    refine rn_call 0 0 [(2, 0), (0, v2), (0, 0)] (r := []) rfl ⟨rfl, Or.inl ⟨_, rfl, by decide⟩⟩ (by decide) (fun _ => ⟨_, rfl, rfl⟩) rfl rfl (Nat.le_of_ble_eq_true rfl) h (fun w hw => t_X_check (d + 5) _ _ _ _ hw) (fun a11 μ12 h => ?_)
    refine rn_sls 0 (pc' := 34) (ls' := [(4, (0, a9)), (3, (0, a7)), (0, (2, 0)), (1, (0, v1)), (2, (0, v2))]) (st' := [(0, a11)]) rfl ?_
    refine rn_sls 3 (pc' := 38) (ls' := [(5, (0, a11)), (4, (0, a9)), (3, (0, a7)), (0, (2, 0)), (1, (0, v1)), (2, (0, v2))]) (st' := [(0, v1), (0, a7)]) rfl ?_
    refine rn_icmpn (t := 91) rfl rfl rfl rfl h (fun h => ?_) (fun h => ?_)
    · refine rn_sls 3 (pc' := 44) (ls' := [(5, (0, a11)), (4, (0, a9)), (3, (0, a7)), (0, (2, 0)), (1, (0, v1)), (2, (0, v2))]) (st' := [(0, 4), (0, v2), (2, 0)]) rfl ?_
      refine rn_call 0 0 [(2, 0), (0, v2), (0, 4)] (r := []) rfl ⟨rfl, Or.inl ⟨_, rfl, by decide⟩⟩ (by decide) (fun _ => ⟨_, rfl, rfl⟩) rfl rfl (Nat.le_of_ble_eq_true rfl) h (fun w hw => t_X_bill (d + 5) _ _ _ _ hw) (fun a13 μ14 h => ?_)
      refine rn_sls 0 (pc' := 47) (ls' := [(5, (0, a11)), (4, (0, a9)), (3, (0, a7)), (0, (2, 0)), (1, (0, v1)), (2, (0, v2))]) (st' := [(0, a13)]) rfl ?_
      refine rn_sls 1 (pc' := 49) (ls' := [(5, (0, a11)), (4, (0, a9)), (3, (0, a7)), (0, (2, 0)), (1, (0, v1)), (2, (0, v2))]) (st' := [(0, a11), (0, a13)]) rfl ?_
      refine rn_ifn (t := 56) rfl rfl rfl rfl h (fun h => ?_) (fun h => ?_)
      · refine rn_sls 1 (pc' := 53) (ls' := [(5, (0, a11)), (4, (0, a9)), (3, (0, a7)), (0, (2, 0)), (1, (0, v1)), (2, (0, v2))]) (st' := [(0, 1), (0, a13)]) rfl ?_
        refine rn_goto (t := 57) rfl rfl rfl ?_
        exact rn_sub [3, 4, 5, 2, 1, 0] rfl (t_L_sound_B57 d k4 hk4 _ _ _ _ _ _ _ _ _ h)
      · refine rn_sls 1 (pc' := 57) (ls' := [(5, (0, a11)), (4, (0, a9)), (3, (0, a7)), (0, (2, 0)), (1, (0, v1)), (2, (0, v2))]) (st' := [(0, 0), (0, a13)]) rfl ?_
        exact rn_sub [3, 4, 5, 2, 1, 0] rfl (t_L_sound_B57 d k4 hk4 _ _ _ _ _ _ _ _ _ h)
    · refine rn_sls 1 (pc' := 92) (ls' := [(5, (0, a11)), (4, (0, a9)), (3, (0, a7)), (0, (2, 0)), (1, (0, v1)), (2, (0, v2))]) (st' := [(0, 0)]) rfl ?_
      exact rn_iretb rfl rfl rfl (Or.inl rfl) h rfl
  · refine rn_sls 2 (pc' := 544) (ls' := [(0, (2, 0)), (1, (0, v1)), (2, (0, v2))]) (st' := [(0, 0), (2, 0)]) rfl ?_
    refine rn_call 0 0 [(2, 0), (0, 0)] (r := []) rfl ⟨rfl, Or.inl ⟨_, rfl, by decide⟩⟩ (by decide) (fun _ => ⟨_, rfl, rfl⟩) rfl rfl (Nat.le_of_ble_eq_true rfl) h (fun w hw => t_X_machine (d + 3) _ _ _ hw) (fun a3 μ4 h => ?_)
    refine rn_sls 0 (pc' := 547) (ls' := [(0, (2, 0)), (1, (0, v1)), (2, (0, v2))]) (st' := [(0, a3)]) rfl ?_
    refine rn_sls 4 (pc' := 551) (ls' := [(2, (0, a3)), (0, (2, 0)), (1, (0, v1))]) (st' := [(0, 2), (2, 0), (0, v1)]) rfl ?_
    refine rn_call 0 0 [(2, 0), (0, 2)] (r := [(0, v1)]) rfl ⟨rfl, Or.inl ⟨_, rfl, by decide⟩⟩ (by decide) (fun _ => ⟨_, rfl, rfl⟩) rfl rfl (Nat.le_of_ble_eq_true rfl) h (fun w hw => t_X_count (d + 6) _ _ _ hw) (fun a5 μ6 h => ?_)
    refine rn_sls 0 (pc' := 554) (ls' := [(2, (0, a3)), (0, (2, 0)), (1, (0, v1))]) (st' := [(0, a5), (0, v1)]) rfl ?_
    refine rn_icmpn (t := 611) rfl rfl rfl rfl h (fun h => ?_) (fun h => ?_)
    · refine rn_sls 2 (pc' := 559) (ls' := [(2, (0, a3)), (0, (2, 0)), (1, (0, v1))]) (st' := [(0, 1), (0, a3)]) rfl ?_
      refine rn_icmpn (t := 566) rfl rfl rfl rfl h (fun h => ?_) (fun h => ?_)
      · refine rn_sls 1 (pc' := 563) (ls' := [(2, (0, a3)), (0, (2, 0)), (1, (0, v1))]) (st' := [(0, 1)]) rfl ?_
        refine rn_goto (t := 567) rfl rfl rfl ?_
        exact rn_sub [1] rfl (t_L_sound_B567 d  _ _ _ h)
      · refine rn_sls 1 (pc' := 567) (ls' := [(2, (0, a3)), (0, (2, 0)), (1, (0, v1))]) (st' := [(0, 0)]) rfl ?_
        exact rn_sub [1] rfl (t_L_sound_B567 d  _ _ _ h)
    · refine rn_sls 1 (pc' := 612) (ls' := [(2, (0, a3)), (0, (2, 0)), (1, (0, v1))]) (st' := [(0, 0)]) rfl ?_
      exact rn_iretb rfl rfl rfl (Or.inl rfl) h rfl
set_option maxRecDepth 20000 in
theorem t_L_sound_L4 (d : Nat) : ∀ (n : Nat) (v1 : Int) (v2 : Int) (μ : am_M) q, L_sound_L4 n v1 v2 μ = some q → am_run none (am_ar g_mt (d + 7)) 15 (some .boolean) k_L_sound 4 [(0, (2, 0)), (1, (0, v1)), (2, (0, v2))] [] μ (am_res 0 q) := by
  intro n
  induction n with
  | zero => intro v1 v2 μ q h; cases h
  | succ n ih => intro v1 v2 μ q h; exact t_L_sound_L4_b d (L_sound_L4 n) ih v1 v2 μ q h
set_option maxRecDepth 20000 in
theorem t_L_sound (d : Nat) : ∀  (μ : am_M) q, L_sound  μ = some q → am_ar g_mt (d + 8) 144 [(2, 0)] μ (am_res 0 q) := by
  intro  μ q h
  unfold L_sound at h
  refine am_ar_of (d := d + 7) i_L_sound rfl rfl (Nat.le_of_ble_eq_true rfl) ?_
  show am_run none (am_ar g_mt (d + 7)) 15 (some .boolean) k_L_sound 0 [(0, (2, 0))] [] μ (am_res 0 q)
  refine rn_sls 4 (pc' := 4) (ls' := [(2, (0, 0)), (1, (0, 0)), (0, (2, 0))]) (st' := []) rfl ?_
  exact rn_sub [2, 1, 0] rfl (t_L_sound_L4 d  am_FU _ _ _ _ h)
