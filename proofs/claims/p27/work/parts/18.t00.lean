/-! The code does what the functions say. Printed by program. -/
set_option maxRecDepth 20000 in
theorem t_Ln_empty (d : Nat) : ∀ (b : Int) (μ : am_M) q, Ln_empty b μ = some q → am_ar g_mt (d + 1) 15 [(2, b)] μ (am_res 2 q) := by
  intro b μ q h
  unfold Ln_empty at h
  refine am_ar_of (d := d + 0) i_Ln_empty rfl rfl (Nat.le_of_ble_eq_true rfl) ?_
  show am_run none (am_ar g_mt (d + 0)) 1 none k_Ln_empty 0 [(0, (2, b))] [] μ (am_res 2 q)
  refine rn_sls 2 (pc' := 2) (ls' := [(0, (2, b))]) (st' := [(0, 0), (2, b)]) rfl ?_
  refine rn_gd h (fun ho1 h => ?_)
  refine rn_put rfl rfl ho1 rfl (Or.inl ⟨rfl, rfl⟩) rfl h (fun μ2 h => ?_)
  refine rn_sls 2 (pc' := 7) (ls' := [(0, (2, b))]) (st' := [(0, 0), (2, b)]) rfl ?_
  refine rn_put rfl rfl ho1 rfl (Or.inl ⟨rfl, rfl⟩) rfl h (fun μ3 h => ?_)
  exact rn_ret (v := 0) rfl rfl rfl h rfl
set_option maxRecDepth 20000 in
theorem t_Bi_empty (d : Nat) : ∀ (b : Int) (μ : am_M) q, Bi_empty b μ = some q → am_ar g_mt (d + 2) 0 [(2, b)] μ (am_res 2 q) := by
  intro b μ q h
  unfold Bi_empty at h
  refine am_ar_of (d := d + 1) i_Bi_empty rfl rfl (Nat.le_of_ble_eq_true rfl) ?_
  show am_run none (am_ar g_mt (d + 1)) 1 none k_Bi_empty 0 [(0, (2, b))] [] μ (am_res 2 q)
  refine rn_sls 1 (pc' := 1) (ls' := [(0, (2, b))]) (st' := [(2, b)]) rfl ?_
  refine rn_gd h (fun ho1 h => ?_)
  refine rn_get ho1 rfl rfl rfl ?_
  refine rn_sls 0 (pc' := 4) (ls' := [(0, (2, b))]) (st' := [(2, (b + 1))]) rfl ?_
  refine rn_gd h (fun ho2 h => ?_)
  refine rn_call 0 2 [(2, (b + 1))] (r := []) rfl ⟨rfl, Or.inl ⟨_, rfl, by decide⟩⟩ (by decide) (fun _ => ⟨_, rfl, ho2⟩) rfl rfl (Nat.le_of_ble_eq_true rfl) h (fun w hw => t_Ln_empty (d + 0) _ _ _ hw) (fun a3 μ4 h => ?_)
  refine rn_sls 0 (pc' := 7) (ls' := [(0, (2, b))]) (st' := []) rfl ?_
  refine rn_sls 2 (pc' := 9) (ls' := [(0, (2, b))]) (st' := [(0, 0), (2, b)]) rfl ?_
  refine rn_put rfl rfl ho1 rfl (Or.inl ⟨rfl, rfl⟩) rfl h (fun μ5 h => ?_)
  refine rn_sls 2 (pc' := 14) (ls' := [(0, (2, b))]) (st' := [(0, 0), (2, b)]) rfl ?_
  refine rn_put rfl rfl ho1 rfl (Or.inl ⟨rfl, rfl⟩) rfl h (fun μ6 h => ?_)
  exact rn_ret (v := 0) rfl rfl rfl h rfl
set_option maxRecDepth 20000 in
theorem t_Bi_has (d : Nat) : ∀ (b : Int) (v1 : Int) (μ : am_M) q, Bi_has b v1 μ = some q → am_ar g_mt (d + 1) 1 [(2, b), (0, v1)] μ (am_res 0 q) := by
  intro b v1 μ q h
  unfold Bi_has at h
  refine am_ar_of (d := d + 0) i_Bi_has rfl rfl (Nat.le_of_ble_eq_true rfl) ?_
  show am_run none (am_ar g_mt (d + 0)) 2 (some .boolean) k_Bi_has 0 [(0, (2, b)), (1, (0, v1))] [] μ (am_res 0 q)
  refine rn_sls 1 (pc' := 1) (ls' := [(0, (2, b)), (1, (0, v1))]) (st' := [(0, v1)]) rfl ?_
  refine rn_if (t := 16) rfl rfl rfl rfl h (fun h => ?_) (fun h => ?_)
  · refine rn_sls 1 (pc' := 17) (ls' := [(0, (2, b)), (1, (0, v1))]) (st' := [(0, 0)]) rfl ?_
    exact rn_iretb rfl rfl rfl (Or.inl rfl) h rfl
  · refine rn_sls 2 (pc' := 6) (ls' := [(0, (2, b)), (1, (0, v1))]) (st' := [(2, b), (0, v1)]) rfl ?_
    refine rn_gd h (fun ho1 h => ?_)
    refine rn_get ho1 rfl rfl rfl ?_
    refine rn_sls 0 (pc' := 9) (ls' := [(0, (2, b)), (1, (0, v1))]) (st' := [(0, (μ b 13)), (0, v1)]) rfl ?_
    refine rn_icmpn (t := 16) rfl rfl rfl rfl h (fun h => ?_) (fun h => ?_)
    · refine rn_sls 1 (pc' := 13) (ls' := [(0, (2, b)), (1, (0, v1))]) (st' := [(0, 1)]) rfl ?_
      refine rn_goto (t := 17) rfl rfl rfl ?_
      exact rn_iretb rfl rfl rfl (Or.inr rfl) h rfl
    · refine rn_sls 1 (pc' := 17) (ls' := [(0, (2, b)), (1, (0, v1))]) (st' := [(0, 0)]) rfl ?_
      exact rn_iretb rfl rfl rfl (Or.inl rfl) h rfl
set_option maxRecDepth 20000 in
theorem t_X_put (d : Nat) : ∀ (v0 : Int) (v1 : Int) (v2 : Int) (μ : am_M) q, X_put v0 v1 v2 μ = some q → am_ar g_mt (d + 1) 140 [(2, v0), (0, v1), (0, v2)] μ (am_res 2 q) := by
  intro v0 v1 v2 μ q h
  unfold X_put at h
  refine am_ar_of (d := d + 0) i_X_put rfl rfl (Nat.le_of_ble_eq_true rfl) ?_
  show am_run none (am_ar g_mt (d + 0)) 3 none k_X_put 0 [(0, (2, v0)), (1, (0, v1)), (2, (0, v2))] [] μ (am_res 2 q)
  refine rn_sls 1 (pc' := 1) (ls' := [(0, (2, v0)), (1, (0, v1)), (2, (0, v2))]) (st' := [(0, v1)]) rfl ?_
  refine rn_if (t := 14) rfl rfl rfl rfl h (fun h => ?_) (fun h => ?_)
  · exact rn_ret (v := 0) rfl rfl rfl h rfl
  · refine rn_sls 2 (pc' := 6) (ls' := [(0, (2, v0)), (1, (0, v1)), (2, (0, v2))]) (st' := [(2, v0), (0, v1)]) rfl ?_
    refine rn_len rfl rfl rfl h (fun a1 h => ?_)
    refine rn_icmpn (t := 14) rfl rfl rfl rfl h (fun h => ?_) (fun h => ?_)
    · refine rn_sls 3 (pc' := 13) (ls' := [(0, (2, v0)), (1, (0, v1)), (2, (0, v2))]) (st' := [(0, v2), (0, v1), (2, v0)]) rfl ?_
      refine rn_iast (n := (am_lenK 0 v0)) rfl rfl rfl h (fun μ2 h => ?_)
      exact rn_ret (v := 0) rfl rfl rfl h rfl
    · exact rn_ret (v := 0) rfl rfl rfl h rfl
set_option maxRecDepth 20000 in
theorem t_Bi_addWall (d : Nat) : ∀ (b : Int) (v1 : Int) (v3 : Int) (μ : am_M) q, Bi_addWall b v1 v3 μ = some q → am_ar g_mt (d + 2) 2 [(2, b), (1, v1), (0, v3)] μ (am_res 2 q) := by
  intro b v1 v3 μ q h
  unfold Bi_addWall at h
  refine am_ar_of (d := d + 1) i_Bi_addWall rfl rfl (Nat.le_of_ble_eq_true rfl) ?_
  show am_run none (am_ar g_mt (d + 1)) 4 none k_Bi_addWall 0 [(0, (2, b)), (1, (1, v1)), (3, (0, v3))] [] μ (am_res 2 q)
  refine rn_sls 1 (pc' := 1) (ls' := [(0, (2, b)), (1, (1, v1)), (3, (0, v3))]) (st' := [(2, b)]) rfl ?_
  refine rn_gd h (fun ho1 h => ?_)
  refine rn_get ho1 rfl rfl rfl ?_
  refine rn_sls 0 (pc' := 4) (ls' := [(0, (2, b)), (1, (1, v1)), (3, (0, v3))]) (st' := [(0, (μ b 12))]) rfl ?_
  refine rn_sls 1 (pc' := 5) (ls' := [(0, (2, b)), (1, (1, v1)), (3, (0, v3))]) (st' := [(0, 4), (0, (μ b 12))]) rfl ?_
  refine rn_icmpn (t := 40) rfl rfl rfl rfl h (fun h => ?_) (fun h => ?_)
  · refine rn_sls 1 (pc' := 9) (ls' := [(0, (2, b)), (1, (1, v1)), (3, (0, v3))]) (st' := [(2, b)]) rfl ?_
    refine rn_get ho1 rfl rfl rfl ?_
    refine rn_sls 0 (pc' := 12) (ls' := [(0, (2, b)), (1, (1, v1)), (3, (0, v3))]) (st' := [(2, (b + 12))]) rfl ?_
    refine rn_sls 1 (pc' := 13) (ls' := [(0, (2, b)), (1, (1, v1)), (3, (0, v3))]) (st' := [(2, b), (2, (b + 12))]) rfl ?_
    refine rn_get ho1 rfl rfl rfl ?_
    refine rn_sls 0 (pc' := 16) (ls' := [(0, (2, b)), (1, (1, v1)), (3, (0, v3))]) (st' := [(0, (μ b 12)), (2, (b + 12))]) rfl ?_
    refine rn_sls 1 (pc' := 17) (ls' := [(0, (2, b)), (1, (1, v1)), (3, (0, v3))]) (st' := [(1, v1), (0, (μ b 12)), (2, (b + 12))]) rfl ?_
    refine rn_last (n := (am_lenK 1 (b + 12))) rfl rfl rfl h (fun μ2 h => ?_)
    refine rn_sls 1 (pc' := 19) (ls' := [(0, (2, b)), (1, (1, v1)), (3, (0, v3))]) (st' := [(2, b)]) rfl ?_
    refine rn_get ho1 rfl rfl rfl ?_
    refine rn_sls 0 (pc' := 22) (ls' := [(0, (2, b)), (1, (1, v1)), (3, (0, v3))]) (st' := [(2, (b + 13))]) rfl ?_
    refine rn_sls 1 (pc' := 23) (ls' := [(0, (2, b)), (1, (1, v1)), (3, (0, v3))]) (st' := [(2, b), (2, (b + 13))]) rfl ?_
    refine rn_get ho1 rfl rfl rfl ?_
    refine rn_sls 0 (pc' := 26) (ls' := [(0, (2, b)), (1, (1, v1)), (3, (0, v3))]) (st' := [(0, (μ2 b 12)), (2, (b + 13))]) rfl ?_
    refine rn_sls 1 (pc' := 27) (ls' := [(0, (2, b)), (1, (1, v1)), (3, (0, v3))]) (st' := [(0, v3), (0, (μ2 b 12)), (2, (b + 13))]) rfl ?_
    refine rn_call 3 2 [(2, (b + 13)), (0, (μ2 b 12)), (0, v3)] (r := []) rfl ⟨rfl, Or.inr ⟨_, rfl, by decide⟩⟩ (by decide) (fun z => absurd z (by decide)) rfl rfl (Nat.le_of_ble_eq_true rfl) h (fun w hw => t_X_put (d + 0) _ _ _ _ _ hw) (fun a3 μ4 h => ?_)
    refine rn_sls 0 (pc' := 30) (ls' := [(0, (2, b)), (1, (1, v1)), (3, (0, v3))]) (st' := []) rfl ?_
    refine rn_sls 2 (pc' := 32) (ls' := [(0, (2, b)), (1, (1, v1)), (3, (0, v3))]) (st' := [(2, b), (2, b)]) rfl ?_
    refine rn_get ho1 rfl rfl rfl ?_
    refine rn_sls 0 (pc' := 35) (ls' := [(0, (2, b)), (1, (1, v1)), (3, (0, v3))]) (st' := [(0, (μ4 b 12)), (2, b)]) rfl ?_
    refine rn_sls 2 (pc' := 37) (ls' := [(0, (2, b)), (1, (1, v1)), (3, (0, v3))]) (st' := [(0, (w32 ((μ4 b 12) + 1))), (2, b)]) rfl ?_
    refine rn_put rfl rfl ho1 rfl (Or.inl ⟨rfl, rfl⟩) rfl h (fun μ5 h => ?_)
    exact rn_ret (v := 0) rfl rfl rfl h rfl
  · exact rn_ret (v := 0) rfl rfl rfl h rfl
set_option maxRecDepth 20000 in
theorem t_Bi_addBill (d : Nat) : ∀ (b : Int) (v1 : Int) (μ : am_M) q, Bi_addBill b v1 μ = some q → am_ar g_mt (d + 2) 3 [(2, b), (1, v1)] μ (am_res 2 q) := by
  intro b v1 μ q h
  unfold Bi_addBill at h
  refine am_ar_of (d := d + 1) i_Bi_addBill rfl rfl (Nat.le_of_ble_eq_true rfl) ?_
  show am_run none (am_ar g_mt (d + 1)) 3 none k_Bi_addBill 0 [(0, (2, b)), (1, (1, v1))] [] μ (am_res 2 q)
  refine rn_sls 1 (pc' := 1) (ls' := [(0, (2, b)), (1, (1, v1))]) (st' := [(2, b)]) rfl ?_
  refine rn_gd h (fun ho1 h => ?_)
  refine rn_get ho1 rfl rfl rfl ?_
  refine rn_sls 0 (pc' := 4) (ls' := [(0, (2, b)), (1, (1, v1))]) (st' := [(0, (μ b 13))]) rfl ?_
  refine rn_sls 1 (pc' := 5) (ls' := [(0, (2, b)), (1, (1, v1))]) (st' := [(0, 4), (0, (μ b 13))]) rfl ?_
  refine rn_icmpn (t := 70) rfl rfl rfl rfl h (fun h => ?_) (fun h => ?_)
  · refine rn_sls 1 (pc' := 9) (ls' := [(0, (2, b)), (1, (1, v1))]) (st' := [(2, b)]) rfl ?_
    refine rn_get ho1 rfl rfl rfl ?_
    refine rn_sls 0 (pc' := 12) (ls' := [(0, (2, b)), (1, (1, v1))]) (st' := [(2, (b + 14))]) rfl ?_
    refine rn_sls 1 (pc' := 13) (ls' := [(0, (2, b)), (1, (1, v1))]) (st' := [(2, b), (2, (b + 14))]) rfl ?_
    refine rn_get ho1 rfl rfl rfl ?_
    refine rn_sls 0 (pc' := 16) (ls' := [(0, (2, b)), (1, (1, v1))]) (st' := [(0, (μ b 13)), (2, (b + 14))]) rfl ?_
    refine rn_sls 1 (pc' := 17) (ls' := [(0, (2, b)), (1, (1, v1))]) (st' := [(1, v1), (0, (μ b 13)), (2, (b + 14))]) rfl ?_
    refine rn_last (n := (am_lenK 1 (b + 14))) rfl rfl rfl h (fun μ2 h => ?_)
    refine rn_sls 1 (pc' := 19) (ls' := [(0, (2, b)), (1, (1, v1))]) (st' := [(2, b)]) rfl ?_
    refine rn_get ho1 rfl rfl rfl ?_
    refine rn_sls 0 (pc' := 22) (ls' := [(0, (2, b)), (1, (1, v1))]) (st' := [(2, (b + 15))]) rfl ?_
    refine rn_sls 1 (pc' := 23) (ls' := [(0, (2, b)), (1, (1, v1))]) (st' := [(2, b), (2, (b + 15))]) rfl ?_
    refine rn_get ho1 rfl rfl rfl ?_
    refine rn_sls 0 (pc' := 26) (ls' := [(0, (2, b)), (1, (1, v1))]) (st' := [(0, (μ2 b 13)), (2, (b + 15))]) rfl ?_
    refine rn_sls 1 (pc' := 27) (ls' := [(0, (2, b)), (1, (1, v1))]) (st' := [(2, b), (0, (μ2 b 13)), (2, (b + 15))]) rfl ?_
    refine rn_get ho1 rfl rfl rfl ?_
    refine rn_sls 0 (pc' := 30) (ls' := [(0, (2, b)), (1, (1, v1))]) (st' := [(2, (b + 1)), (0, (μ2 b 13)), (2, (b + 15))]) rfl ?_
    refine rn_gd h (fun ho3 h => ?_)
    refine rn_get ho3 rfl rfl rfl ?_
    refine rn_sls 0 (pc' := 33) (ls' := [(0, (2, b)), (1, (1, v1))]) (st' := [(0, (μ2 (b + 1) 10)), (0, (μ2 b 13)), (2, (b + 15))]) rfl ?_
    refine rn_call 3 2 [(2, (b + 15)), (0, (μ2 b 13)), (0, (μ2 (b + 1) 10))] (r := []) rfl ⟨rfl, Or.inr ⟨_, rfl, by decide⟩⟩ (by decide) (fun z => absurd z (by decide)) rfl rfl (Nat.le_of_ble_eq_true rfl) h (fun w hw => t_X_put (d + 0) _ _ _ _ _ hw) (fun a4 μ5 h => ?_)
    refine rn_sls 0 (pc' := 36) (ls' := [(0, (2, b)), (1, (1, v1))]) (st' := []) rfl ?_
    refine rn_sls 1 (pc' := 37) (ls' := [(0, (2, b)), (1, (1, v1))]) (st' := [(2, b)]) rfl ?_
    refine rn_get ho1 rfl rfl rfl ?_
    refine rn_sls 0 (pc' := 40) (ls' := [(0, (2, b)), (1, (1, v1))]) (st' := [(2, (b + 16))]) rfl ?_
    refine rn_sls 1 (pc' := 41) (ls' := [(0, (2, b)), (1, (1, v1))]) (st' := [(2, b), (2, (b + 16))]) rfl ?_
    refine rn_get ho1 rfl rfl rfl ?_
    refine rn_sls 0 (pc' := 44) (ls' := [(0, (2, b)), (1, (1, v1))]) (st' := [(0, (μ5 b 13)), (2, (b + 16))]) rfl ?_
    refine rn_sls 1 (pc' := 45) (ls' := [(0, (2, b)), (1, (1, v1))]) (st' := [(0, 0), (0, (μ5 b 13)), (2, (b + 16))]) rfl ?_
    refine rn_call 3 2 [(2, (b + 16)), (0, (μ5 b 13)), (0, 0)] (r := []) rfl ⟨rfl, Or.inr ⟨_, rfl, by decide⟩⟩ (by decide) (fun z => absurd z (by decide)) rfl rfl (Nat.le_of_ble_eq_true rfl) h (fun w hw => t_X_put (d + 0) _ _ _ _ _ hw) (fun a6 μ7 h => ?_)
    refine rn_sls 0 (pc' := 48) (ls' := [(0, (2, b)), (1, (1, v1))]) (st' := []) rfl ?_
    refine rn_sls 1 (pc' := 49) (ls' := [(0, (2, b)), (1, (1, v1))]) (st' := [(2, b)]) rfl ?_
    refine rn_get ho1 rfl rfl rfl ?_
    refine rn_sls 0 (pc' := 52) (ls' := [(0, (2, b)), (1, (1, v1))]) (st' := [(2, (b + 17))]) rfl ?_
    refine rn_sls 1 (pc' := 53) (ls' := [(0, (2, b)), (1, (1, v1))]) (st' := [(2, b), (2, (b + 17))]) rfl ?_
    refine rn_get ho1 rfl rfl rfl ?_
    refine rn_sls 0 (pc' := 56) (ls' := [(0, (2, b)), (1, (1, v1))]) (st' := [(0, (μ7 b 13)), (2, (b + 17))]) rfl ?_
    refine rn_sls 1 (pc' := 57) (ls' := [(0, (2, b)), (1, (1, v1))]) (st' := [(0, 0), (0, (μ7 b 13)), (2, (b + 17))]) rfl ?_
    refine rn_call 3 2 [(2, (b + 17)), (0, (μ7 b 13)), (0, 0)] (r := []) rfl ⟨rfl, Or.inr ⟨_, rfl, by decide⟩⟩ (by decide) (fun z => absurd z (by decide)) rfl rfl (Nat.le_of_ble_eq_true rfl) h (fun w hw => t_X_put (d + 0) _ _ _ _ _ hw) (fun a8 μ9 h => ?_)
    refine rn_sls 0 (pc' := 60) (ls' := [(0, (2, b)), (1, (1, v1))]) (st' := []) rfl ?_
    refine rn_sls 2 (pc' := 62) (ls' := [(0, (2, b)), (1, (1, v1))]) (st' := [(2, b), (2, b)]) rfl ?_
    refine rn_get ho1 rfl rfl rfl ?_
    refine rn_sls 0 (pc' := 65) (ls' := [(0, (2, b)), (1, (1, v1))]) (st' := [(0, (μ9 b 13)), (2, b)]) rfl ?_
    refine rn_sls 2 (pc' := 67) (ls' := [(0, (2, b)), (1, (1, v1))]) (st' := [(0, (w32 ((μ9 b 13) + 1))), (2, b)]) rfl ?_
    refine rn_put rfl rfl ho1 rfl (Or.inl ⟨rfl, rfl⟩) rfl h (fun μ10 h => ?_)
    exact rn_ret (v := 0) rfl rfl rfl h rfl
  · exact rn_ret (v := 0) rfl rfl rfl h rfl
set_option maxRecDepth 20000 in
theorem t_X_at (d : Nat) : ∀ (v0 : Int) (v1 : Int) (μ : am_M) q, X_at v0 v1 μ = some q → am_ar g_mt (d + 1) 139 [(2, v0), (0, v1)] μ (am_res 0 q) := by
  intro v0 v1 μ q h
  unfold X_at at h
  refine am_ar_of (d := d + 0) i_X_at rfl rfl (Nat.le_of_ble_eq_true rfl) ?_
  show am_run none (am_ar g_mt (d + 0)) 2 (some .int) k_X_at 0 [(0, (2, v0)), (1, (0, v1))] [] μ (am_res 0 q)
  refine rn_sls 1 (pc' := 1) (ls' := [(0, (2, v0)), (1, (0, v1))]) (st' := [(0, v1)]) rfl ?_
  refine rn_if (t := 16) rfl rfl rfl rfl h (fun h => ?_) (fun h => ?_)
  · refine rn_sls 1 (pc' := 17) (ls' := [(0, (2, v0)), (1, (0, v1))]) (st' := [(0, 0)]) rfl ?_
    exact rn_ireti rfl rfl rfl h rfl
  · refine rn_sls 2 (pc' := 6) (ls' := [(0, (2, v0)), (1, (0, v1))]) (st' := [(2, v0), (0, v1)]) rfl ?_
    refine rn_len rfl rfl rfl h (fun a1 h => ?_)
    refine rn_icmpn (t := 16) rfl rfl rfl rfl h (fun h => ?_) (fun h => ?_)
    · refine rn_sls 2 (pc' := 12) (ls' := [(0, (2, v0)), (1, (0, v1))]) (st' := [(0, v1), (2, v0)]) rfl ?_
      refine rn_iald (n := (am_lenK 0 v0)) rfl rfl rfl h (fun a2 h => ?_)
      refine rn_goto (t := 17) rfl rfl rfl ?_
      exact rn_ireti rfl rfl rfl h rfl
    · refine rn_sls 1 (pc' := 17) (ls' := [(0, (2, v0)), (1, (0, v1))]) (st' := [(0, 0)]) rfl ?_
      exact rn_ireti rfl rfl rfl h rfl
set_option maxRecDepth 20000 in
theorem t_Bi_lineBehind (d : Nat) : ∀ (b : Int) (v1 : Int) (μ : am_M) q, Bi_lineBehind b v1 μ = some q → am_ar g_mt (d + 2) 4 [(2, b), (0, v1)] μ (am_res 0 q) := by
  intro b v1 μ q h
  unfold Bi_lineBehind at h
  refine am_ar_of (d := d + 1) i_Bi_lineBehind rfl rfl (Nat.le_of_ble_eq_true rfl) ?_
  show am_run none (am_ar g_mt (d + 1)) 2 (some .int) k_Bi_lineBehind 0 [(0, (2, b)), (1, (0, v1))] [] μ (am_res 0 q)
  refine rn_sls 1 (pc' := 1) (ls' := [(0, (2, b)), (1, (0, v1))]) (st' := [(2, b)]) rfl ?_
  refine rn_gd h (fun ho1 h => ?_)
  refine rn_get ho1 rfl rfl rfl ?_
  refine rn_sls 0 (pc' := 4) (ls' := [(0, (2, b)), (1, (0, v1))]) (st' := [(2, (b + 15))]) rfl ?_
  refine rn_sls 1 (pc' := 5) (ls' := [(0, (2, b)), (1, (0, v1))]) (st' := [(0, v1), (2, (b + 15))]) rfl ?_
  refine rn_call 3 0 [(2, (b + 15)), (0, v1)] (r := []) rfl ⟨rfl, Or.inr ⟨_, rfl, by decide⟩⟩ (by decide) (fun z => absurd z (by decide)) rfl rfl (Nat.le_of_ble_eq_true rfl) h (fun w hw => t_X_at (d + 0) _ _ _ _ hw) (fun a2 μ3 h => ?_)
  refine rn_sls 0 (pc' := 8) (ls' := [(0, (2, b)), (1, (0, v1))]) (st' := [(0, a2)]) rfl ?_
  refine rn_sls 1 (pc' := 9) (ls' := [(0, (2, b)), (1, (0, v1))]) (st' := [(2, b), (0, a2)]) rfl ?_
  refine rn_get ho1 rfl rfl rfl ?_
  refine rn_sls 0 (pc' := 12) (ls' := [(0, (2, b)), (1, (0, v1))]) (st' := [(2, (b + 16)), (0, a2)]) rfl ?_
  refine rn_sls 1 (pc' := 13) (ls' := [(0, (2, b)), (1, (0, v1))]) (st' := [(0, v1), (2, (b + 16)), (0, a2)]) rfl ?_
  refine rn_call 3 0 [(2, (b + 16)), (0, v1)] (r := [(0, a2)]) rfl ⟨rfl, Or.inr ⟨_, rfl, by decide⟩⟩ (by decide) (fun z => absurd z (by decide)) rfl rfl (Nat.le_of_ble_eq_true rfl) h (fun w hw => t_X_at (d + 0) _ _ _ _ hw) (fun a4 μ5 h => ?_)
  refine rn_sls 0 (pc' := 16) (ls' := [(0, (2, b)), (1, (0, v1))]) (st' := [(0, a4), (0, a2)]) rfl ?_
  refine rn_sls 1 (pc' := 17) (ls' := [(0, (2, b)), (1, (0, v1))]) (st' := [(0, (w32 (a2 + a4)))]) rfl ?_
  exact rn_ireti rfl rfl rfl h rfl
set_option maxRecDepth 20000 in
theorem t_Ln_codeKind (d : Nat) : ∀ (b : Int) (v1 : Int) (μ : am_M) q, Ln_codeKind b v1 μ = some q → am_ar g_mt (d + 2) 18 [(2, b), (0, v1)] μ (am_res 0 q) := by
  intro b v1 μ q h
  unfold Ln_codeKind at h
  refine am_ar_of (d := d + 1) i_Ln_codeKind rfl rfl (Nat.le_of_ble_eq_true rfl) ?_
  show am_run none (am_ar g_mt (d + 1)) 2 (some .int) k_Ln_codeKind 0 [(0, (2, b)), (1, (0, v1))] [] μ (am_res 0 q)
  refine rn_sls 1 (pc' := 1) (ls' := [(0, (2, b)), (1, (0, v1))]) (st' := [(2, b)]) rfl ?_
  refine rn_gd h (fun ho1 h => ?_)
  refine rn_get ho1 rfl rfl rfl ?_
  refine rn_sls 0 (pc' := 4) (ls' := [(0, (2, b)), (1, (0, v1))]) (st' := [(2, (b + 10))]) rfl ?_
  refine rn_sls 1 (pc' := 5) (ls' := [(0, (2, b)), (1, (0, v1))]) (st' := [(0, v1), (2, (b + 10))]) rfl ?_
  refine rn_call 3 0 [(2, (b + 10)), (0, v1)] (r := []) rfl ⟨rfl, Or.inr ⟨_, rfl, by decide⟩⟩ (by decide) (fun z => absurd z (by decide)) rfl rfl (Nat.le_of_ble_eq_true rfl) h (fun w hw => t_X_at (d + 0) _ _ _ _ hw) (fun a2 μ3 h => ?_)
  refine rn_sls 0 (pc' := 8) (ls' := [(0, (2, b)), (1, (0, v1))]) (st' := [(0, a2)]) rfl ?_
  refine rn_sls 2 (pc' := 12) (ls' := [(0, (2, b)), (1, (0, v1))]) (st' := [(0, (aRem a2 128))]) rfl ?_
  exact rn_ireti rfl rfl rfl h rfl
set_option maxRecDepth 20000 in
theorem t_Ln_codeNumber (d : Nat) : ∀ (b : Int) (v1 : Int) (μ : am_M) q, Ln_codeNumber b v1 μ = some q → am_ar g_mt (d + 2) 19 [(2, b), (0, v1)] μ (am_res 0 q) := by
  intro b v1 μ q h
  unfold Ln_codeNumber at h
  refine am_ar_of (d := d + 1) i_Ln_codeNumber rfl rfl (Nat.le_of_ble_eq_true rfl) ?_
  show am_run none (am_ar g_mt (d + 1)) 2 (some .int) k_Ln_codeNumber 0 [(0, (2, b)), (1, (0, v1))] [] μ (am_res 0 q)
  refine rn_sls 1 (pc' := 1) (ls' := [(0, (2, b)), (1, (0, v1))]) (st' := [(2, b)]) rfl ?_
  refine rn_gd h (fun ho1 h => ?_)
  refine rn_get ho1 rfl rfl rfl ?_
  refine rn_sls 0 (pc' := 4) (ls' := [(0, (2, b)), (1, (0, v1))]) (st' := [(2, (b + 10))]) rfl ?_
  refine rn_sls 1 (pc' := 5) (ls' := [(0, (2, b)), (1, (0, v1))]) (st' := [(0, v1), (2, (b + 10))]) rfl ?_
  refine rn_call 3 0 [(2, (b + 10)), (0, v1)] (r := []) rfl ⟨rfl, Or.inr ⟨_, rfl, by decide⟩⟩ (by decide) (fun z => absurd z (by decide)) rfl rfl (Nat.le_of_ble_eq_true rfl) h (fun w hw => t_X_at (d + 0) _ _ _ _ hw) (fun a2 μ3 h => ?_)
  refine rn_sls 0 (pc' := 8) (ls' := [(0, (2, b)), (1, (0, v1))]) (st' := [(0, a2)]) rfl ?_
  refine rn_sls 2 (pc' := 12) (ls' := [(0, (2, b)), (1, (0, v1))]) (st' := [(0, (aDiv a2 128))]) rfl ?_
  exact rn_ireti rfl rfl rfl h rfl
set_option maxRecDepth 20000 in
theorem t_Ln_readSet_B50 (d : Nat) (k21 : Int → Int → Int → Int → am_M → am_O) (hk21 : ∀ (b : Int) (v2 : Int) (v3 : Int) (v4 : Int) (μ : am_M) q, k21 b v2 v3 v4 μ = some q → am_run none (am_ar g_mt (d + 2)) 5 (some .int) k_Ln_readSet 21 [(0, (2, b)), (2, (0, v2)), (3, (0, v3)), (4, (0, v4))] [] μ (am_res 0 q)) : ∀ (b : Int) (v3 : Int) (v4 : Int) (s0 : Int) (s1 : Int) (μ : am_M) q, Ln_readSet_B50 k21 b v3 v4 s0 s1 μ = some q → am_run none (am_ar g_mt (d + 2)) 5 (some .int) k_Ln_readSet 50 [(0, (2, b)), (3, (0, v3)), (4, (0, v4))] [(0, s1), (0, s0)] μ (am_res 0 q) := by
  intro b v3 v4 s0 s1 μ q h
  unfold Ln_readSet_B50 at h
  refine rn_sls 3 (pc' := 55) (ls' := [(4, (0, (w32 (v4 + 1)))), (2, (0, (aOr s0 s1))), (0, (2, b)), (3, (0, v3))]) (st' := []) rfl ?_
  refine rn_goto (t := 21) rfl rfl rfl ?_
  exact rn_sub [2, 1, 3, 0] rfl (hk21 _ _ _ _ _ _ h)
set_option maxRecDepth 20000 in
theorem t_Ln_readSet_L21_b (d : Nat) (k21 : Int → Int → Int → Int → am_M → am_O) (hk21 : ∀ (b : Int) (v2 : Int) (v3 : Int) (v4 : Int) (μ : am_M) q, k21 b v2 v3 v4 μ = some q → am_run none (am_ar g_mt (d + 2)) 5 (some .int) k_Ln_readSet 21 [(0, (2, b)), (2, (0, v2)), (3, (0, v3)), (4, (0, v4))] [] μ (am_res 0 q)) : ∀ (b : Int) (v2 : Int) (v3 : Int) (v4 : Int) (μ : am_M) q, Ln_readSet_L21_b k21 b v2 v3 v4 μ = some q → am_run none (am_ar g_mt (d + 2)) 5 (some .int) k_Ln_readSet 21 [(0, (2, b)), (2, (0, v2)), (3, (0, v3)), (4, (0, v4))] [] μ (am_res 0 q) := by
  intro b v2 v3 v4 μ q h
  unfold Ln_readSet_L21_b at h
  refine rn_sls 2 (pc' := 24) (ls' := [(0, (2, b)), (2, (0, v2)), (3, (0, v3)), (4, (0, v4))]) (st' := [(0, v3), (0, v4)]) rfl ?_
  refine rn_icmpn (t := 58) rfl rfl rfl rfl h (fun h => ?_) (fun h => ?_)
  · refine rn_sls 3 (pc' := 31) (ls' := [(0, (2, b)), (2, (0, v2)), (3, (0, v3)), (4, (0, v4))]) (st' := [(0, v4), (2, b), (0, v2)]) rfl ?_
    refine rn_gd h (fun ho1 h => ?_)
    refine rn_call 0 0 [(2, b), (0, v4)] (r := [(0, v2)]) rfl ⟨rfl, Or.inl ⟨_, rfl, by decide⟩⟩ (by decide) (fun _ => ⟨_, rfl, ho1⟩) rfl rfl (Nat.le_of_ble_eq_true rfl) h (fun w hw => t_Ln_codeKind (d + 0) _ _ _ _ hw) (fun a2 μ3 h => ?_)
    refine rn_sls 0 (pc' := 34) (ls' := [(0, (2, b)), (2, (0, v2)), (3, (0, v3)), (4, (0, v4))]) (st' := [(0, a2), (0, v2)]) rfl ?_
    refine rn_sls 1 (pc' := 35) (ls' := [(0, (2, b)), (2, (0, v2)), (3, (0, v3)), (4, (0, v4))]) (st' := [(0, 2), (0, a2), (0, v2)]) rfl ?_
    refine rn_icmpn (t := 49) rfl rfl rfl rfl h (fun h => ?_) (fun h => ?_)
    · refine rn_sls 3 (pc' := 42) (ls' := [(0, (2, b)), (2, (0, v2)), (3, (0, v3)), (4, (0, v4))]) (st' := [(0, v4), (2, b), (0, 1), (0, v2)]) rfl ?_
      refine rn_call 0 0 [(2, b), (0, v4)] (r := [(0, 1), (0, v2)]) rfl ⟨rfl, Or.inl ⟨_, rfl, by decide⟩⟩ (by decide) (fun _ => ⟨_, rfl, ho1⟩) rfl rfl (Nat.le_of_ble_eq_true rfl) h (fun w hw => t_Ln_codeNumber (d + 0) _ _ _ _ hw) (fun a4 μ5 h => ?_)
      refine rn_sls 0 (pc' := 45) (ls' := [(0, (2, b)), (2, (0, v2)), (3, (0, v3)), (4, (0, v4))]) (st' := [(0, a4), (0, 1), (0, v2)]) rfl ?_
      refine rn_sls 1 (pc' := 46) (ls' := [(0, (2, b)), (2, (0, v2)), (3, (0, v3)), (4, (0, v4))]) (st' := [(0, (aShl 1 a4)), (0, v2)]) rfl ?_
      refine rn_goto (t := 50) rfl rfl rfl ?_
      exact rn_sub [0, 2, 3] rfl (t_Ln_readSet_B50 d k21 hk21 _ _ _ _ _ _ _ h)
    · refine rn_sls 1 (pc' := 50) (ls' := [(0, (2, b)), (2, (0, v2)), (3, (0, v3)), (4, (0, v4))]) (st' := [(0, 0), (0, v2)]) rfl ?_
      exact rn_sub [0, 2, 3] rfl (t_Ln_readSet_B50 d k21 hk21 _ _ _ _ _ _ _ h)
  · refine rn_sls 1 (pc' := 59) (ls' := [(0, (2, b)), (2, (0, v2)), (3, (0, v3)), (4, (0, v4))]) (st' := [(0, v2)]) rfl ?_
    exact rn_ireti rfl rfl rfl h rfl
set_option maxRecDepth 20000 in
theorem t_Ln_readSet_L21 (d : Nat) : ∀ (n : Nat) (b : Int) (v2 : Int) (v3 : Int) (v4 : Int) (μ : am_M) q, Ln_readSet_L21 n b v2 v3 v4 μ = some q → am_run none (am_ar g_mt (d + 2)) 5 (some .int) k_Ln_readSet 21 [(0, (2, b)), (2, (0, v2)), (3, (0, v3)), (4, (0, v4))] [] μ (am_res 0 q) := by
  intro n
  induction n with
  | zero => intro b v2 v3 v4 μ q h; cases h
  | succ n ih => intro b v2 v3 v4 μ q h; exact t_Ln_readSet_L21_b d (Ln_readSet_L21 n) ih b v2 v3 v4 μ q h
set_option maxRecDepth 20000 in
theorem t_Ln_readSet (d : Nat) : ∀ (b : Int) (v1 : Int) (μ : am_M) q, Ln_readSet b v1 μ = some q → am_ar g_mt (d + 3) 23 [(2, b), (0, v1)] μ (am_res 0 q) := by
  intro b v1 μ q h
  unfold Ln_readSet at h
  refine am_ar_of (d := d + 2) i_Ln_readSet rfl rfl (Nat.le_of_ble_eq_true rfl) ?_
  show am_run none (am_ar g_mt (d + 2)) 5 (some .int) k_Ln_readSet 0 [(0, (2, b)), (1, (0, v1))] [] μ (am_res 0 q)
  refine rn_sls 3 (pc' := 3) (ls' := [(2, (0, 0)), (0, (2, b)), (1, (0, v1))]) (st' := [(2, b)]) rfl ?_
  refine rn_gd h (fun ho1 h => ?_)
  refine rn_get ho1 rfl rfl rfl ?_
  refine rn_sls 0 (pc' := 6) (ls' := [(2, (0, 0)), (0, (2, b)), (1, (0, v1))]) (st' := [(2, (b + 9))]) rfl ?_
  refine rn_sls 1 (pc' := 7) (ls' := [(2, (0, 0)), (0, (2, b)), (1, (0, v1))]) (st' := [(0, v1), (2, (b + 9))]) rfl ?_
  refine rn_call 3 0 [(2, (b + 9)), (0, v1)] (r := []) rfl ⟨rfl, Or.inr ⟨_, rfl, by decide⟩⟩ (by decide) (fun z => absurd z (by decide)) rfl rfl (Nat.le_of_ble_eq_true rfl) h (fun w hw => t_X_at (d + 1) _ _ _ _ hw) (fun a2 μ3 h => ?_)
  refine rn_sls 0 (pc' := 10) (ls' := [(2, (0, 0)), (0, (2, b)), (1, (0, v1))]) (st' := [(0, a2)]) rfl ?_
  refine rn_sls 2 (pc' := 12) (ls' := [(3, (0, a2)), (2, (0, 0)), (0, (2, b)), (1, (0, v1))]) (st' := [(2, b)]) rfl ?_
  refine rn_get ho1 rfl rfl rfl ?_
  refine rn_sls 0 (pc' := 15) (ls' := [(3, (0, a2)), (2, (0, 0)), (0, (2, b)), (1, (0, v1))]) (st' := [(2, (b + 8))]) rfl ?_
  refine rn_sls 1 (pc' := 16) (ls' := [(3, (0, a2)), (2, (0, 0)), (0, (2, b)), (1, (0, v1))]) (st' := [(0, v1), (2, (b + 8))]) rfl ?_
  refine rn_call 3 0 [(2, (b + 8)), (0, v1)] (r := []) rfl ⟨rfl, Or.inr ⟨_, rfl, by decide⟩⟩ (by decide) (fun z => absurd z (by decide)) rfl rfl (Nat.le_of_ble_eq_true rfl) h (fun w hw => t_X_at (d + 1) _ _ _ _ hw) (fun a4 μ5 h => ?_)
  refine rn_sls 0 (pc' := 19) (ls' := [(3, (0, a2)), (2, (0, 0)), (0, (2, b)), (1, (0, v1))]) (st' := [(0, a4)]) rfl ?_
  refine rn_sls 1 (pc' := 21) (ls' := [(4, (0, a4)), (3, (0, a2)), (2, (0, 0)), (0, (2, b)), (1, (0, v1))]) (st' := []) rfl ?_
  exact rn_sub [3, 2, 1, 0] rfl (t_Ln_readSet_L21 d  am_FU _ _ _ _ _ _ h)
set_option maxRecDepth 20000 in
theorem t_Ln_bit (d : Nat) : ∀ (v0 : Int) (μ : am_M) q, Ln_bit v0 μ = some q → am_ar g_mt (d + 1) 25 [(0, v0)] μ (am_res 0 q) := by
  intro v0 μ q h
  unfold Ln_bit at h
  refine am_ar_of (d := d + 0) i_Ln_bit rfl rfl (Nat.le_of_ble_eq_true rfl) ?_
  show am_run none (am_ar g_mt (d + 0)) 1 (some .int) k_Ln_bit 0 [(0, (0, v0))] [] μ (am_res 0 q)
  refine rn_sls 2 (pc' := 2) (ls' := [(0, (0, v0))]) (st' := [(0, (-1)), (0, v0)]) rfl ?_
  refine rn_icmpn (t := 9) rfl rfl rfl rfl h (fun h => ?_) (fun h => ?_)
  · refine rn_sls 1 (pc' := 6) (ls' := [(0, (0, v0))]) (st' := [(0, 0)]) rfl ?_
    refine rn_goto (t := 12) rfl rfl rfl ?_
    exact rn_ireti rfl rfl rfl h rfl
  · refine rn_sls 3 (pc' := 12) (ls' := [(0, (0, v0))]) (st' := [(0, (aShl 1 v0))]) rfl ?_
    exact rn_ireti rfl rfl rfl h rfl
set_option maxRecDepth 20000 in
theorem t_Ln_laidSet (d : Nat) : ∀ (b : Int) (v1 : Int) (μ : am_M) q, Ln_laidSet b v1 μ = some q → am_ar g_mt (d + 2) 24 [(2, b), (0, v1)] μ (am_res 0 q) := by
  intro b v1 μ q h
  unfold Ln_laidSet at h
  refine am_ar_of (d := d + 1) i_Ln_laidSet rfl rfl (Nat.le_of_ble_eq_true rfl) ?_
  show am_run none (am_ar g_mt (d + 1)) 2 (some .int) k_Ln_laidSet 0 [(0, (2, b)), (1, (0, v1))] [] μ (am_res 0 q)
  refine rn_sls 1 (pc' := 1) (ls' := [(0, (2, b)), (1, (0, v1))]) (st' := [(2, b)]) rfl ?_
  refine rn_gd h (fun ho1 h => ?_)
  refine rn_get ho1 rfl rfl rfl ?_
  refine rn_sls 0 (pc' := 4) (ls' := [(0, (2, b)), (1, (0, v1))]) (st' := [(2, (b + 2))]) rfl ?_
  refine rn_sls 1 (pc' := 5) (ls' := [(0, (2, b)), (1, (0, v1))]) (st' := [(0, v1), (2, (b + 2))]) rfl ?_
  refine rn_call 3 0 [(2, (b + 2)), (0, v1)] (r := []) rfl ⟨rfl, Or.inr ⟨_, rfl, by decide⟩⟩ (by decide) (fun z => absurd z (by decide)) rfl rfl (Nat.le_of_ble_eq_true rfl) h (fun w hw => t_X_at (d + 0) _ _ _ _ hw) (fun a2 μ3 h => ?_)
  refine rn_sls 0 (pc' := 8) (ls' := [(0, (2, b)), (1, (0, v1))]) (st' := [(0, a2)]) rfl ?_
  refine rn_call 2 0 [(0, a2)] (r := []) rfl ⟨rfl, Or.inr ⟨_, rfl, by decide⟩⟩ (by decide) (fun z => absurd z (by decide)) rfl rfl (Nat.le_of_ble_eq_true rfl) h (fun w hw => t_Ln_bit (d + 0) _ _ _ hw) (fun a4 μ5 h => ?_)
  refine rn_sls 0 (pc' := 11) (ls' := [(0, (2, b)), (1, (0, v1))]) (st' := [(0, a4)]) rfl ?_
  refine rn_sls 1 (pc' := 12) (ls' := [(0, (2, b)), (1, (0, v1))]) (st' := [(2, b), (0, a4)]) rfl ?_
  refine rn_get ho1 rfl rfl rfl ?_
  refine rn_sls 0 (pc' := 15) (ls' := [(0, (2, b)), (1, (0, v1))]) (st' := [(2, (b + 3)), (0, a4)]) rfl ?_
  refine rn_sls 1 (pc' := 16) (ls' := [(0, (2, b)), (1, (0, v1))]) (st' := [(0, v1), (2, (b + 3)), (0, a4)]) rfl ?_
  refine rn_call 3 0 [(2, (b + 3)), (0, v1)] (r := [(0, a4)]) rfl ⟨rfl, Or.inr ⟨_, rfl, by decide⟩⟩ (by decide) (fun z => absurd z (by decide)) rfl rfl (Nat.le_of_ble_eq_true rfl) h (fun w hw => t_X_at (d + 0) _ _ _ _ hw) (fun a6 μ7 h => ?_)
  refine rn_sls 0 (pc' := 19) (ls' := [(0, (2, b)), (1, (0, v1))]) (st' := [(0, a6), (0, a4)]) rfl ?_
  refine rn_call 2 0 [(0, a6)] (r := [(0, a4)]) rfl ⟨rfl, Or.inr ⟨_, rfl, by decide⟩⟩ (by decide) (fun z => absurd z (by decide)) rfl rfl (Nat.le_of_ble_eq_true rfl) h (fun w hw => t_Ln_bit (d + 0) _ _ _ hw) (fun a8 μ9 h => ?_)
  refine rn_sls 0 (pc' := 22) (ls' := [(0, (2, b)), (1, (0, v1))]) (st' := [(0, a8), (0, a4)]) rfl ?_
  refine rn_sls 1 (pc' := 23) (ls' := [(0, (2, b)), (1, (0, v1))]) (st' := [(0, (aOr a4 a8))]) rfl ?_
  exact rn_ireti rfl rfl rfl h rfl
set_option maxRecDepth 20000 in
theorem t_Bi_isPlain_B69 (d : Nat) (k18 : Int → Int → Int → Int → am_M → am_O) (hk18 : ∀ (b : Int) (v2 : Int) (v3 : Int) (v4 : Int) (μ : am_M) q, k18 b v2 v3 v4 μ = some q → am_run none (am_ar g_mt (d + 3)) 7 (some .boolean) k_Bi_isPlain 18 [(0, (2, b)), (2, (0, v2)), (3, (0, v3)), (4, (0, v4))] [] μ (am_res 0 q)) : ∀ (b : Int) (v2 : Int) (v3 : Int) (v4 : Int) (v6 : Int) (μ : am_M) q, Bi_isPlain_B69 k18 b v2 v3 v4 v6 μ = some q → am_run none (am_ar g_mt (d + 3)) 7 (some .boolean) k_Bi_isPlain 69 [(0, (2, b)), (2, (0, v2)), (3, (0, v3)), (4, (0, v4)), (6, (0, v6))] [] μ (am_res 0 q) := by
  intro b v2 v3 v4 v6 μ q h
  unfold Bi_isPlain_B69 at h
  refine rn_sls 1 (pc' := 70) (ls' := [(0, (2, b)), (2, (0, v2)), (3, (0, v3)), (4, (0, v4)), (6, (0, v6))]) (st' := [(2, b)]) rfl ?_
  refine rn_gd h (fun ho1 h => ?_)
  refine rn_get ho1 rfl rfl rfl ?_
  refine rn_sls 0 (pc' := 73) (ls' := [(0, (2, b)), (2, (0, v2)), (3, (0, v3)), (4, (0, v4)), (6, (0, v6))]) (st' := [(2, (b + 1))]) rfl ?_
  refine rn_sls 1 (pc' := 75) (ls' := [(0, (2, b)), (2, (0, v2)), (3, (0, v3)), (4, (0, v4)), (6, (0, v6))]) (st' := [(0, v4), (2, (b + 1))]) rfl ?_
  refine rn_gd h (fun ho2 h => ?_)
  refine rn_call 0 0 [(2, (b + 1)), (0, v4)] (r := []) rfl ⟨rfl, Or.inl ⟨_, rfl, by decide⟩⟩ (by decide) (fun _ => ⟨_, rfl, ho2⟩) rfl rfl (Nat.le_of_ble_eq_true rfl) h (fun w hw => t_Ln_readSet (d + 0) _ _ _ _ hw) (fun a3 μ4 h => ?_)
  refine rn_sls 0 (pc' := 78) (ls' := [(0, (2, b)), (2, (0, v2)), (3, (0, v3)), (4, (0, v4)), (6, (0, v6))]) (st' := [(0, a3)]) rfl ?_
  refine rn_sls 4 (pc' := 82) (ls' := [(0, (2, b)), (2, (0, v2)), (3, (0, v3)), (4, (0, v4)), (6, (0, v6))]) (st' := [(0, (aAnd a3 (aXor v2 (-1))))]) rfl ?_
  refine rn_ifn (t := 92) rfl rfl rfl rfl h (fun h => ?_) (fun h => ?_)
  · refine rn_sls 3 (pc' := 89) (ls' := [(0, (2, b)), (2, (0, v2)), (3, (0, v3)), (4, (0, v4)), (6, (0, v6))]) (st' := [(0, (aAnd v6 v2))]) rfl ?_
    refine rn_if (t := 94) rfl rfl rfl rfl h (fun h => ?_) (fun h => ?_)
    · refine rn_sls 5 (pc' := 102) (ls' := [(4, (0, (w32 (v4 + 1)))), (2, (0, (aOr v2 v6))), (0, (2, b)), (3, (0, v3)), (6, (0, v6))]) (st' := []) rfl ?_
      refine rn_goto (t := 18) rfl rfl rfl ?_
      exact rn_sub [2, 1, 3, 0] rfl (hk18 _ _ _ _ _ _ h)
    · refine rn_sls 1 (pc' := 93) (ls' := [(0, (2, b)), (2, (0, v2)), (3, (0, v3)), (4, (0, v4)), (6, (0, v6))]) (st' := [(0, 0)]) rfl ?_
      exact rn_iretb rfl rfl rfl (Or.inl rfl) h rfl
  · refine rn_sls 1 (pc' := 93) (ls' := [(0, (2, b)), (2, (0, v2)), (3, (0, v3)), (4, (0, v4)), (6, (0, v6))]) (st' := [(0, 0)]) rfl ?_
    exact rn_iretb rfl rfl rfl (Or.inl rfl) h rfl
set_option maxRecDepth 20000 in
theorem t_Bi_isPlain_L18_b (d : Nat) (k18 : Int → Int → Int → Int → am_M → am_O) (hk18 : ∀ (b : Int) (v2 : Int) (v3 : Int) (v4 : Int) (μ : am_M) q, k18 b v2 v3 v4 μ = some q → am_run none (am_ar g_mt (d + 3)) 7 (some .boolean) k_Bi_isPlain 18 [(0, (2, b)), (2, (0, v2)), (3, (0, v3)), (4, (0, v4))] [] μ (am_res 0 q)) : ∀ (b : Int) (v2 : Int) (v3 : Int) (v4 : Int) (μ : am_M) q, Bi_isPlain_L18_b k18 b v2 v3 v4 μ = some q → am_run none (am_ar g_mt (d + 3)) 7 (some .boolean) k_Bi_isPlain 18 [(0, (2, b)), (2, (0, v2)), (3, (0, v3)), (4, (0, v4))] [] μ (am_res 0 q) := by
  intro b v2 v3 v4 μ q h
  unfold Bi_isPlain_L18_b at h
  refine rn_sls 2 (pc' := 21) (ls' := [(0, (2, b)), (2, (0, v2)), (3, (0, v3)), (4, (0, v4))]) (st' := [(0, v3), (0, v4)]) rfl ?_
  refine rn_icmpn (t := 105) rfl rfl rfl rfl h (fun h => ?_) (fun h => ?_)
  · refine rn_sls 1 (pc' := 25) (ls' := [(0, (2, b)), (2, (0, v2)), (3, (0, v3)), (4, (0, v4))]) (st' := [(2, b)]) rfl ?_
    refine rn_gd h (fun ho1 h => ?_)
    refine rn_get ho1 rfl rfl rfl ?_
    refine rn_sls 0 (pc' := 28) (ls' := [(0, (2, b)), (2, (0, v2)), (3, (0, v3)), (4, (0, v4))]) (st' := [(2, (b + 1))]) rfl ?_
    refine rn_gd h (fun ho2 h => ?_)
    refine rn_get ho2 rfl rfl rfl ?_
    refine rn_sls 0 (pc' := 31) (ls' := [(0, (2, b)), (2, (0, v2)), (3, (0, v3)), (4, (0, v4))]) (st' := [(2, ((b + 1) + 1))]) rfl ?_
    refine rn_sls 1 (pc' := 33) (ls' := [(0, (2, b)), (2, (0, v2)), (3, (0, v3)), (4, (0, v4))]) (st' := [(0, v4), (2, ((b + 1) + 1))]) rfl ?_
    refine rn_call 3 0 [(2, ((b + 1) + 1)), (0, v4)] (r := []) rfl ⟨rfl, Or.inr ⟨_, rfl, by decide⟩⟩ (by decide) (fun z => absurd z (by decide)) rfl rfl (Nat.le_of_ble_eq_true rfl) h (fun w hw => t_X_at (d + 2) _ _ _ _ hw) (fun a3 μ4 h => ?_)
    refine rn_sls 0 (pc' := 36) (ls' := [(0, (2, b)), (2, (0, v2)), (3, (0, v3)), (4, (0, v4))]) (st' := [(0, a3)]) rfl ?_
    refine rn_sls 2 (pc' := 39) (ls' := [(5, (0, a3)), (0, (2, b)), (2, (0, v2)), (3, (0, v3)), (4, (0, v4))]) (st' := [(2, b)]) rfl ?_
    refine rn_get ho1 rfl rfl rfl ?_
    refine rn_sls 0 (pc' := 42) (ls' := [(5, (0, a3)), (0, (2, b)), (2, (0, v2)), (3, (0, v3)), (4, (0, v4))]) (st' := [(2, (b + 1))]) rfl ?_
    refine rn_sls 1 (pc' := 44) (ls' := [(5, (0, a3)), (0, (2, b)), (2, (0, v2)), (3, (0, v3)), (4, (0, v4))]) (st' := [(0, v4), (2, (b + 1))]) rfl ?_
    refine rn_call 0 0 [(2, (b + 1)), (0, v4)] (r := []) rfl ⟨rfl, Or.inl ⟨_, rfl, by decide⟩⟩ (by decide) (fun _ => ⟨_, rfl, ho2⟩) rfl rfl (Nat.le_of_ble_eq_true rfl) h (fun w hw => t_Ln_laidSet (d + 1) _ _ _ _ hw) (fun a5 μ6 h => ?_)
    refine rn_sls 0 (pc' := 47) (ls' := [(5, (0, a3)), (0, (2, b)), (2, (0, v2)), (3, (0, v3)), (4, (0, v4))]) (st' := [(0, a5)]) rfl ?_
    refine rn_sls 2 (pc' := 51) (ls' := [(6, (0, a5)), (5, (0, a3)), (0, (2, b)), (2, (0, v2)), (3, (0, v3)), (4, (0, v4))]) (st' := [(0, a3)]) rfl ?_
    refine rn_if (t := 69) rfl rfl rfl rfl h (fun h => ?_) (fun h => ?_)
    · exact rn_sub [2, 3, 4, 5, 0] rfl (t_Bi_isPlain_B69 d k18 hk18 _ _ _ _ _ _ _ h)
    · refine rn_sls 2 (pc' := 57) (ls' := [(6, (0, a5)), (5, (0, a3)), (0, (2, b)), (2, (0, v2)), (3, (0, v3)), (4, (0, v4))]) (st' := [(0, 1), (0, a3)]) rfl ?_
      refine rn_icmp (t := 69) rfl rfl rfl rfl h (fun h => ?_) (fun h => ?_)
      · exact rn_sub [2, 3, 4, 5, 0] rfl (t_Bi_isPlain_B69 d k18 hk18 _ _ _ _ _ _ _ h)
      · refine rn_sls 2 (pc' := 64) (ls' := [(6, (0, a5)), (5, (0, a3)), (0, (2, b)), (2, (0, v2)), (3, (0, v3)), (4, (0, v4))]) (st' := [(0, 8), (0, a3)]) rfl ?_
        refine rn_icmp (t := 69) rfl rfl rfl rfl h (fun h => ?_) (fun h => ?_)
        · exact rn_sub [2, 3, 4, 5, 0] rfl (t_Bi_isPlain_B69 d k18 hk18 _ _ _ _ _ _ _ h)
        · refine rn_sls 1 (pc' := 68) (ls' := [(6, (0, a5)), (5, (0, a3)), (0, (2, b)), (2, (0, v2)), (3, (0, v3)), (4, (0, v4))]) (st' := [(0, 0)]) rfl ?_
          exact rn_iretb rfl rfl rfl (Or.inl rfl) h rfl
  · refine rn_sls 1 (pc' := 106) (ls' := [(0, (2, b)), (2, (0, v2)), (3, (0, v3)), (4, (0, v4))]) (st' := [(0, 1)]) rfl ?_
    exact rn_iretb rfl rfl rfl (Or.inr rfl) h rfl
set_option maxRecDepth 20000 in
theorem t_Bi_isPlain_L18 (d : Nat) : ∀ (n : Nat) (b : Int) (v2 : Int) (v3 : Int) (v4 : Int) (μ : am_M) q, Bi_isPlain_L18 n b v2 v3 v4 μ = some q → am_run none (am_ar g_mt (d + 3)) 7 (some .boolean) k_Bi_isPlain 18 [(0, (2, b)), (2, (0, v2)), (3, (0, v3)), (4, (0, v4))] [] μ (am_res 0 q) := by
  intro n
  induction n with
  | zero => intro b v2 v3 v4 μ q h; cases h
  | succ n ih => intro b v2 v3 v4 μ q h; exact t_Bi_isPlain_L18_b d (Bi_isPlain_L18 n) ih b v2 v3 v4 μ q h
set_option maxRecDepth 20000 in
theorem t_Bi_isPlain (d : Nat) : ∀ (b : Int) (v1 : Int) (μ : am_M) q, Bi_isPlain b v1 μ = some q → am_ar g_mt (d + 4) 5 [(2, b), (0, v1)] μ (am_res 0 q) := by
  intro b v1 μ q h
  unfold Bi_isPlain at h
  refine am_ar_of (d := d + 3) i_Bi_isPlain rfl rfl (Nat.le_of_ble_eq_true rfl) ?_
  show am_run none (am_ar g_mt (d + 3)) 7 (some .boolean) k_Bi_isPlain 0 [(0, (2, b)), (1, (0, v1))] [] μ (am_res 0 q)
  refine rn_sls 4 (pc' := 4) (ls' := [(2, (0, 0)), (0, (2, b)), (1, (0, v1))]) (st' := [(0, v1), (2, b)]) rfl ?_
  refine rn_gd h (fun ho1 h => ?_)
  refine rn_call 0 0 [(2, b), (0, v1)] (r := []) rfl ⟨rfl, Or.inl ⟨_, rfl, by decide⟩⟩ (by decide) (fun _ => ⟨_, rfl, ho1⟩) rfl rfl (Nat.le_of_ble_eq_true rfl) h (fun w hw => t_Bi_lineBehind (d + 1) _ _ _ _ hw) (fun a2 μ3 h => ?_)
  refine rn_sls 0 (pc' := 7) (ls' := [(2, (0, 0)), (0, (2, b)), (1, (0, v1))]) (st' := [(0, a2)]) rfl ?_
  refine rn_sls 2 (pc' := 9) (ls' := [(3, (0, a2)), (2, (0, 0)), (0, (2, b)), (1, (0, v1))]) (st' := [(2, b)]) rfl ?_
  refine rn_get ho1 rfl rfl rfl ?_
  refine rn_sls 0 (pc' := 12) (ls' := [(3, (0, a2)), (2, (0, 0)), (0, (2, b)), (1, (0, v1))]) (st' := [(2, (b + 15))]) rfl ?_
  refine rn_sls 1 (pc' := 13) (ls' := [(3, (0, a2)), (2, (0, 0)), (0, (2, b)), (1, (0, v1))]) (st' := [(0, v1), (2, (b + 15))]) rfl ?_
  refine rn_call 3 0 [(2, (b + 15)), (0, v1)] (r := []) rfl ⟨rfl, Or.inr ⟨_, rfl, by decide⟩⟩ (by decide) (fun z => absurd z (by decide)) rfl rfl (Nat.le_of_ble_eq_true rfl) h (fun w hw => t_X_at (d + 2) _ _ _ _ hw) (fun a4 μ5 h => ?_)
  refine rn_sls 0 (pc' := 16) (ls' := [(3, (0, a2)), (2, (0, 0)), (0, (2, b)), (1, (0, v1))]) (st' := [(0, a4)]) rfl ?_
  refine rn_sls 1 (pc' := 18) (ls' := [(4, (0, a4)), (3, (0, a2)), (2, (0, 0)), (0, (2, b)), (1, (0, v1))]) (st' := []) rfl ?_
  exact rn_sub [3, 2, 1, 0] rfl (t_Bi_isPlain_L18 d  am_FU _ _ _ _ _ _ h)
set_option maxRecDepth 20000 in
theorem t_Ck_blame (d : Nat) : ∀ (v1 : Int) (v2 : Int) (μ : am_M) q, Ck_blame v1 v2 μ = some q → am_ar g_mt (d + 1) 9 [(2, 30), (0, v1), (0, v2)] μ (am_res 2 q) := by
  intro v1 v2 μ q h
  unfold Ck_blame at h
  refine am_ar_of (d := d + 0) i_Ck_blame rfl rfl (Nat.le_of_ble_eq_true rfl) ?_
  show am_run none (am_ar g_mt (d + 0)) 3 none k_Ck_blame 0 [(0, (2, 30)), (1, (0, v1)), (2, (0, v2))] [] μ (am_res 2 q)
  refine rn_sls 2 (pc' := 4) (ls' := [(0, (2, 30)), (1, (0, v1)), (2, (0, v2))]) (st' := [(0, (μ 30 8))]) rfl ?_
  refine rn_ifn (t := 17) rfl rfl rfl rfl h (fun h => ?_) (fun h => ?_)
  · refine rn_sls 2 (pc' := 9) (ls' := [(0, (2, 30)), (1, (0, v1)), (2, (0, v2))]) (st' := [(0, v1), (2, 30)]) rfl ?_
    refine rn_put rfl rfl rfl rfl (Or.inl ⟨rfl, rfl⟩) rfl h (fun μ1 h => ?_)
    refine rn_sls 2 (pc' := 14) (ls' := [(0, (2, 30)), (1, (0, v1)), (2, (0, v2))]) (st' := [(0, v2), (2, 30)]) rfl ?_
    refine rn_put rfl rfl rfl rfl (Or.inl ⟨rfl, rfl⟩) rfl h (fun μ2 h => ?_)
    exact rn_ret (v := 0) rfl rfl rfl h rfl
  · exact rn_ret (v := 0) rfl rfl rfl h rfl
set_option maxRecDepth 20000 in
theorem t_Ck_takeAway_B97 (d : Nat) (k19 : Int → Int → Int → am_M → am_O) (hk19 : ∀ (v1 : Int) (v3 : Int) (v4 : Int) (μ : am_M) q, k19 v1 v3 v4 μ = some q → am_run none (am_ar g_mt (d + 2)) 6 none k_Ck_takeAway 19 [(0, (2, 30)), (1, (2, v1)), (3, (0, v3)), (4, (0, v4))] [] μ (am_res 2 q)) : ∀ (v1 : Int) (v3 : Int) (v4 : Int) (μ : am_M) q, Ck_takeAway_B97 k19 v1 v3 v4 μ = some q → am_run none (am_ar g_mt (d + 2)) 6 none k_Ck_takeAway 97 [(0, (2, 30)), (1, (2, v1)), (3, (0, v3)), (4, (0, v4))] [] μ (am_res 2 q) := by
  intro v1 v3 v4 μ q h
  unfold Ck_takeAway_B97 at h
  refine rn_sls 1 (pc' := 100) (ls' := [(4, (0, (w32 (v4 + 1)))), (0, (2, 30)), (1, (2, v1)), (3, (0, v3))]) (st' := []) rfl ?_
  refine rn_goto (t := 19) rfl rfl rfl ?_
  exact rn_sub [1, 2, 3, 0] rfl (hk19 _ _ _ _ _ h)
set_option maxRecDepth 20000 in
theorem t_Ck_takeAway_B67 (d : Nat) (k19 : Int → Int → Int → am_M → am_O) (hk19 : ∀ (v1 : Int) (v3 : Int) (v4 : Int) (μ : am_M) q, k19 v1 v3 v4 μ = some q → am_run none (am_ar g_mt (d + 2)) 6 none k_Ck_takeAway 19 [(0, (2, 30)), (1, (2, v1)), (3, (0, v3)), (4, (0, v4))] [] μ (am_res 2 q)) : ∀ (v1 : Int) (v3 : Int) (v4 : Int) (v5 : Int) (μ : am_M) q, Ck_takeAway_B67 k19 v1 v3 v4 v5 μ = some q → am_run none (am_ar g_mt (d + 2)) 6 none k_Ck_takeAway 67 [(0, (2, 30)), (1, (2, v1)), (3, (0, v3)), (4, (0, v4)), (5, (0, v5))] [] μ (am_res 2 q) := by
  intro v1 v3 v4 v5 μ q h
  unfold Ck_takeAway_B67 at h
  refine rn_sls 9 (pc' := 79) (ls' := [(0, (2, 30)), (1, (2, v1)), (3, (0, v3)), (4, (0, v4)), (5, (0, v5))]) (st' := [(0, (aAnd (μ 30 5) (aXor (aShl 1 v5) (-1)))), (2, 30)]) rfl ?_
  refine rn_put rfl rfl rfl rfl (Or.inl ⟨rfl, rfl⟩) rfl h (fun μ1 h => ?_)
  refine rn_sls 9 (pc' := 94) (ls' := [(0, (2, 30)), (1, (2, v1)), (3, (0, v3)), (4, (0, v4)), (5, (0, v5))]) (st' := [(0, (aAnd (μ1 30 6) (aXor (aShl 1 v5) (-1)))), (2, 30)]) rfl ?_
  refine rn_put rfl rfl rfl rfl (Or.inl ⟨rfl, rfl⟩) rfl h (fun μ2 h => ?_)
  exact rn_sub [0, 1, 2, 3] rfl (t_Ck_takeAway_B97 d k19 hk19 _ _ _ _ _ h)
set_option maxRecDepth 20000 in
theorem t_Ck_takeAway_L19_b (d : Nat) (k19 : Int → Int → Int → am_M → am_O) (hk19 : ∀ (v1 : Int) (v3 : Int) (v4 : Int) (μ : am_M) q, k19 v1 v3 v4 μ = some q → am_run none (am_ar g_mt (d + 2)) 6 none k_Ck_takeAway 19 [(0, (2, 30)), (1, (2, v1)), (3, (0, v3)), (4, (0, v4))] [] μ (am_res 2 q)) : ∀ (v1 : Int) (v3 : Int) (v4 : Int) (μ : am_M) q, Ck_takeAway_L19_b k19 v1 v3 v4 μ = some q → am_run none (am_ar g_mt (d + 2)) 6 none k_Ck_takeAway 19 [(0, (2, 30)), (1, (2, v1)), (3, (0, v3)), (4, (0, v4))] [] μ (am_res 2 q) := by
  intro v1 v3 v4 μ q h
  unfold Ck_takeAway_L19_b at h
  refine rn_sls 2 (pc' := 22) (ls' := [(0, (2, 30)), (1, (2, v1)), (3, (0, v3)), (4, (0, v4))]) (st' := [(0, v3), (0, v4)]) rfl ?_
  refine rn_icmpn (t := 103) rfl rfl rfl rfl h (fun h => ?_) (fun h => ?_)
  · refine rn_sls 2 (pc' := 28) (ls' := [(0, (2, 30)), (1, (2, v1)), (3, (0, v3)), (4, (0, v4))]) (st' := [(0, v4), (2, v1)]) rfl ?_
    refine rn_gd h (fun ho1 h => ?_)
    refine rn_call 0 0 [(2, v1), (0, v4)] (r := []) rfl ⟨rfl, Or.inl ⟨_, rfl, by decide⟩⟩ (by decide) (fun _ => ⟨_, rfl, ho1⟩) rfl rfl (Nat.le_of_ble_eq_true rfl) h (fun w hw => t_Ln_codeKind (d + 0) _ _ _ _ hw) (fun a2 μ3 h => ?_)
    refine rn_sls 0 (pc' := 31) (ls' := [(0, (2, 30)), (1, (2, v1)), (3, (0, v3)), (4, (0, v4))]) (st' := [(0, a2)]) rfl ?_
    refine rn_sls 1 (pc' := 32) (ls' := [(0, (2, 30)), (1, (2, v1)), (3, (0, v3)), (4, (0, v4))]) (st' := [(0, 2), (0, a2)]) rfl ?_
    refine rn_icmpn (t := 97) rfl rfl rfl rfl h (fun h => ?_) (fun h => ?_)
    · refine rn_sls 2 (pc' := 38) (ls' := [(0, (2, 30)), (1, (2, v1)), (3, (0, v3)), (4, (0, v4))]) (st' := [(0, v4), (2, v1)]) rfl ?_
      refine rn_call 0 0 [(2, v1), (0, v4)] (r := []) rfl ⟨rfl, Or.inl ⟨_, rfl, by decide⟩⟩ (by decide) (fun _ => ⟨_, rfl, ho1⟩) rfl rfl (Nat.le_of_ble_eq_true rfl) h (fun w hw => t_Ln_codeNumber (d + 0) _ _ _ _ hw) (fun a4 μ5 h => ?_)
      refine rn_sls 0 (pc' := 41) (ls' := [(0, (2, 30)), (1, (2, v1)), (3, (0, v3)), (4, (0, v4))]) (st' := [(0, a4)]) rfl ?_
      refine rn_sls 10 (pc' := 57) (ls' := [(5, (0, a4)), (0, (2, 30)), (1, (2, v1)), (3, (0, v3)), (4, (0, v4))]) (st' := [(0, (aAnd (aShr (aOr (μ5 30 5) (μ5 30 6)) a4) 1))]) rfl ?_
      refine rn_ifn (t := 67) rfl rfl rfl rfl h (fun h => ?_) (fun h => ?_)
      · refine rn_sls 3 (pc' := 64) (ls' := [(5, (0, a4)), (0, (2, 30)), (1, (2, v1)), (3, (0, v3)), (4, (0, v4))]) (st' := [(0, a4), (0, 1), (2, 30)]) rfl ?_
        refine rn_call 0 2 [(2, 30), (0, 1), (0, a4)] (r := []) rfl ⟨rfl, Or.inl ⟨_, rfl, by decide⟩⟩ (by decide) (fun _ => ⟨_, rfl, rfl⟩) rfl rfl (Nat.le_of_ble_eq_true rfl) h (fun w hw => t_Ck_blame (d + 1) _ _ _ _ hw) (fun a6 μ7 h => ?_)
        refine rn_sls 0 (pc' := 67) (ls' := [(5, (0, a4)), (0, (2, 30)), (1, (2, v1)), (3, (0, v3)), (4, (0, v4))]) (st' := []) rfl ?_
        exact rn_sub [1, 2, 3, 4, 0] rfl (t_Ck_takeAway_B67 d k19 hk19 _ _ _ _ _ _ h)
      · exact rn_sub [1, 2, 3, 4, 0] rfl (t_Ck_takeAway_B67 d k19 hk19 _ _ _ _ _ _ h)
    · exact rn_sub [0, 1, 2, 3] rfl (t_Ck_takeAway_B97 d k19 hk19 _ _ _ _ _ h)
  · exact rn_ret (v := 0) rfl rfl rfl h rfl
set_option maxRecDepth 20000 in
theorem t_Ck_takeAway_L19 (d : Nat) : ∀ (n : Nat) (v1 : Int) (v3 : Int) (v4 : Int) (μ : am_M) q, Ck_takeAway_L19 n v1 v3 v4 μ = some q → am_run none (am_ar g_mt (d + 2)) 6 none k_Ck_takeAway 19 [(0, (2, 30)), (1, (2, v1)), (3, (0, v3)), (4, (0, v4))] [] μ (am_res 2 q) := by
  intro n
  induction n with
  | zero => intro v1 v3 v4 μ q h; cases h
  | succ n ih => intro v1 v3 v4 μ q h; exact t_Ck_takeAway_L19_b d (Ck_takeAway_L19 n) ih v1 v3 v4 μ q h
set_option maxRecDepth 20000 in
theorem t_Ck_takeAway (d : Nat) : ∀ (v1 : Int) (v2 : Int) (μ : am_M) q, Ck_takeAway v1 v2 μ = some q → am_ar g_mt (d + 3) 11 [(2, 30), (2, v1), (0, v2)] μ (am_res 2 q) := by
  intro v1 v2 μ q h
  unfold Ck_takeAway at h
  refine am_ar_of (d := d + 2) i_Ck_takeAway rfl rfl (Nat.le_of_ble_eq_true rfl) ?_
  show am_run none (am_ar g_mt (d + 2)) 6 none k_Ck_takeAway 0 [(0, (2, 30)), (1, (2, v1)), (2, (0, v2))] [] μ (am_res 2 q)
  refine rn_sls 1 (pc' := 1) (ls' := [(0, (2, 30)), (1, (2, v1)), (2, (0, v2))]) (st' := [(2, v1)]) rfl ?_
  refine rn_gd h (fun ho1 h => ?_)
  refine rn_get ho1 rfl rfl rfl ?_
  refine rn_sls 0 (pc' := 4) (ls' := [(0, (2, 30)), (1, (2, v1)), (2, (0, v2))]) (st' := [(2, (v1 + 9))]) rfl ?_
  refine rn_sls 1 (pc' := 5) (ls' := [(0, (2, 30)), (1, (2, v1)), (2, (0, v2))]) (st' := [(0, v2), (2, (v1 + 9))]) rfl ?_
  refine rn_call 3 0 [(2, (v1 + 9)), (0, v2)] (r := []) rfl ⟨rfl, Or.inr ⟨_, rfl, by decide⟩⟩ (by decide) (fun z => absurd z (by decide)) rfl rfl (Nat.le_of_ble_eq_true rfl) h (fun w hw => t_X_at (d + 1) _ _ _ _ hw) (fun a2 μ3 h => ?_)
  refine rn_sls 0 (pc' := 8) (ls' := [(0, (2, 30)), (1, (2, v1)), (2, (0, v2))]) (st' := [(0, a2)]) rfl ?_
  refine rn_sls 2 (pc' := 10) (ls' := [(3, (0, a2)), (0, (2, 30)), (1, (2, v1)), (2, (0, v2))]) (st' := [(2, v1)]) rfl ?_
  refine rn_get ho1 rfl rfl rfl ?_
  refine rn_sls 0 (pc' := 13) (ls' := [(3, (0, a2)), (0, (2, 30)), (1, (2, v1)), (2, (0, v2))]) (st' := [(2, (v1 + 8))]) rfl ?_
  refine rn_sls 1 (pc' := 14) (ls' := [(3, (0, a2)), (0, (2, 30)), (1, (2, v1)), (2, (0, v2))]) (st' := [(0, v2), (2, (v1 + 8))]) rfl ?_
  refine rn_call 3 0 [(2, (v1 + 8)), (0, v2)] (r := []) rfl ⟨rfl, Or.inr ⟨_, rfl, by decide⟩⟩ (by decide) (fun z => absurd z (by decide)) rfl rfl (Nat.le_of_ble_eq_true rfl) h (fun w hw => t_X_at (d + 1) _ _ _ _ hw) (fun a4 μ5 h => ?_)
  refine rn_sls 0 (pc' := 17) (ls' := [(3, (0, a2)), (0, (2, 30)), (1, (2, v1)), (2, (0, v2))]) (st' := [(0, a4)]) rfl ?_
  refine rn_sls 1 (pc' := 19) (ls' := [(4, (0, a4)), (3, (0, a2)), (0, (2, 30)), (1, (2, v1)), (2, (0, v2))]) (st' := []) rfl ?_
  exact rn_sub [2, 3, 1, 0] rfl (t_Ck_takeAway_L19 d  am_FU _ _ _ _ _ h)
set_option maxRecDepth 20000 in
theorem t_Ck_lay (d : Nat) : ∀ (v1 : Int) (v2 : Int) (μ : am_M) q, Ck_lay v1 v2 μ = some q → am_ar g_mt (d + 2) 12 [(2, 30), (0, v1), (0, v2)] μ (am_res 2 q) := by
  intro v1 v2 μ q h
  unfold Ck_lay at h
  refine am_ar_of (d := d + 1) i_Ck_lay rfl rfl (Nat.le_of_ble_eq_true rfl) ?_
  show am_run none (am_ar g_mt (d + 1)) 3 none k_Ck_lay 0 [(0, (2, 30)), (1, (0, v1)), (2, (0, v2))] [] μ (am_res 2 q)
  refine rn_sls 2 (pc' := 2) (ls' := [(0, (2, 30)), (1, (0, v1)), (2, (0, v2))]) (st' := [(0, (-1)), (0, v1)]) rfl ?_
  refine rn_icmpn (t := 6) rfl rfl rfl rfl h (fun h => ?_) (fun h => ?_)
  · exact rn_ret (v := 0) rfl rfl rfl h rfl
  · refine rn_sls 9 (pc' := 19) (ls' := [(0, (2, 30)), (1, (0, v1)), (2, (0, v2))]) (st' := [(0, (aAnd (aShr (aOr (μ 30 5) (μ 30 6)) v1) 1))]) rfl ?_
    refine rn_if (t := 31) rfl rfl rfl rfl h (fun h => ?_) (fun h => ?_)
    · refine rn_sls 2 (pc' := 33) (ls' := [(0, (2, 30)), (1, (0, v1)), (2, (0, v2))]) (st' := [(0, 1), (0, v2)]) rfl ?_
      refine rn_icmpn (t := 51) rfl rfl rfl rfl h (fun h => ?_) (fun h => ?_)
      · refine rn_sls 7 (pc' := 45) (ls' := [(0, (2, 30)), (1, (0, v1)), (2, (0, v2))]) (st' := [(0, (aOr (μ 30 5) (aShl 1 v1))), (2, 30)]) rfl ?_
        refine rn_put rfl rfl rfl rfl (Or.inl ⟨rfl, rfl⟩) rfl h (fun μ2 h => ?_)
        refine rn_goto (t := 63) rfl rfl rfl ?_
        exact rn_ret (v := 0) rfl rfl rfl h rfl
      · refine rn_sls 7 (pc' := 60) (ls' := [(0, (2, 30)), (1, (0, v1)), (2, (0, v2))]) (st' := [(0, (aOr (μ 30 6) (aShl 1 v1))), (2, 30)]) rfl ?_
        refine rn_put rfl rfl rfl rfl (Or.inl ⟨rfl, rfl⟩) rfl h (fun μ1 h => ?_)
        exact rn_ret (v := 0) rfl rfl rfl h rfl
    · refine rn_sls 3 (pc' := 25) (ls' := [(0, (2, 30)), (1, (0, v1)), (2, (0, v2))]) (st' := [(0, v1), (0, 2), (2, 30)]) rfl ?_
      refine rn_call 0 2 [(2, 30), (0, 2), (0, v1)] (r := []) rfl ⟨rfl, Or.inl ⟨_, rfl, by decide⟩⟩ (by decide) (fun _ => ⟨_, rfl, rfl⟩) rfl rfl (Nat.le_of_ble_eq_true rfl) h (fun w hw => t_Ck_blame (d + 0) _ _ _ _ hw) (fun a3 μ4 h => ?_)
      refine rn_sls 0 (pc' := 28) (ls' := [(0, (2, 30)), (1, (0, v1)), (2, (0, v2))]) (st' := []) rfl ?_
      refine rn_goto (t := 63) rfl rfl rfl ?_
      exact rn_ret (v := 0) rfl rfl rfl h rfl
set_option maxRecDepth 20000 in
theorem t_Ck_turnToElse (d : Nat) : ∀ (v1 : Int) (μ : am_M) q, Ck_turnToElse v1 μ = some q → am_ar g_mt (d + 2) 13 [(2, 30), (0, v1)] μ (am_res 2 q) := by
  intro v1 μ q h
  unfold Ck_turnToElse at h
  refine am_ar_of (d := d + 1) i_Ck_turnToElse rfl rfl (Nat.le_of_ble_eq_true rfl) ?_
  show am_run none (am_ar g_mt (d + 1)) 3 none k_Ck_turnToElse 0 [(0, (2, 30)), (1, (0, v1))] [] μ (am_res 2 q)
  refine rn_sls 10 (pc' := 16) (ls' := [(2, (0, (w32 ((μ 30 7) - 1)))), (0, (2, 30)), (1, (0, v1))]) (st' := [(0, (μ 30 5)), (0, (w32 ((μ 30 7) - 1))), (2, 33)]) rfl ?_
  refine rn_call 3 2 [(2, 33), (0, (w32 ((μ 30 7) - 1))), (0, (μ 30 5))] (r := []) rfl ⟨rfl, Or.inr ⟨_, rfl, by decide⟩⟩ (by decide) (fun z => absurd z (by decide)) rfl rfl (Nat.le_of_ble_eq_true rfl) h (fun w hw => t_X_put (d + 0) _ _ _ _ _ hw) (fun a1 μ2 h => ?_)
  refine rn_sls 0 (pc' := 19) (ls' := [(2, (0, (w32 ((μ 30 7) - 1)))), (0, (2, 30)), (1, (0, v1))]) (st' := []) rfl ?_
  refine rn_sls 5 (pc' := 28) (ls' := [(2, (0, (w32 ((μ 30 7) - 1)))), (0, (2, 30)), (1, (0, v1))]) (st' := [(0, (μ2 30 6)), (0, (w32 ((μ 30 7) - 1))), (2, 34)]) rfl ?_
  refine rn_call 3 2 [(2, 34), (0, (w32 ((μ 30 7) - 1))), (0, (μ2 30 6))] (r := []) rfl ⟨rfl, Or.inr ⟨_, rfl, by decide⟩⟩ (by decide) (fun z => absurd z (by decide)) rfl rfl (Nat.le_of_ble_eq_true rfl) h (fun w hw => t_X_put (d + 0) _ _ _ _ _ hw) (fun a3 μ4 h => ?_)
  refine rn_sls 0 (pc' := 31) (ls' := [(2, (0, (w32 ((μ 30 7) - 1)))), (0, (2, 30)), (1, (0, v1))]) (st' := []) rfl ?_
  refine rn_sls 4 (pc' := 37) (ls' := [(2, (0, (w32 ((μ 30 7) - 1)))), (0, (2, 30)), (1, (0, v1))]) (st' := [(0, v1), (0, (w32 ((μ 30 7) - 1))), (2, 35)]) rfl ?_
  refine rn_call 3 2 [(2, 35), (0, (w32 ((μ 30 7) - 1))), (0, v1)] (r := []) rfl ⟨rfl, Or.inr ⟨_, rfl, by decide⟩⟩ (by decide) (fun z => absurd z (by decide)) rfl rfl (Nat.le_of_ble_eq_true rfl) h (fun w hw => t_X_put (d + 0) _ _ _ _ _ hw) (fun a5 μ6 h => ?_)
  refine rn_sls 0 (pc' := 40) (ls' := [(2, (0, (w32 ((μ 30 7) - 1)))), (0, (2, 30)), (1, (0, v1))]) (st' := []) rfl ?_
  refine rn_sls 4 (pc' := 46) (ls' := [(2, (0, (w32 ((μ 30 7) - 1)))), (0, (2, 30)), (1, (0, v1))]) (st' := [(0, (w32 ((μ 30 7) - 1))), (2, 31), (2, 30)]) rfl ?_
  refine rn_call 3 0 [(2, 31), (0, (w32 ((μ 30 7) - 1)))] (r := [(2, 30)]) rfl ⟨rfl, Or.inr ⟨_, rfl, by decide⟩⟩ (by decide) (fun z => absurd z (by decide)) rfl rfl (Nat.le_of_ble_eq_true rfl) h (fun w hw => t_X_at (d + 0) _ _ _ _ hw) (fun a7 μ8 h => ?_)
  refine rn_sls 0 (pc' := 49) (ls' := [(2, (0, (w32 ((μ 30 7) - 1)))), (0, (2, 30)), (1, (0, v1))]) (st' := [(0, a7), (2, 30)]) rfl ?_
  refine rn_put rfl rfl rfl rfl (Or.inl ⟨rfl, rfl⟩) rfl h (fun μ9 h => ?_)
  refine rn_sls 4 (pc' := 58) (ls' := [(2, (0, (w32 ((μ 30 7) - 1)))), (0, (2, 30)), (1, (0, v1))]) (st' := [(0, (w32 ((μ 30 7) - 1))), (2, 32), (2, 30)]) rfl ?_
  refine rn_call 3 0 [(2, 32), (0, (w32 ((μ 30 7) - 1)))] (r := [(2, 30)]) rfl ⟨rfl, Or.inr ⟨_, rfl, by decide⟩⟩ (by decide) (fun z => absurd z (by decide)) rfl rfl (Nat.le_of_ble_eq_true rfl) h (fun w hw => t_X_at (d + 0) _ _ _ _ hw) (fun a10 μ11 h => ?_)
  refine rn_sls 0 (pc' := 61) (ls' := [(2, (0, (w32 ((μ 30 7) - 1)))), (0, (2, 30)), (1, (0, v1))]) (st' := [(0, a10), (2, 30)]) rfl ?_
  refine rn_put rfl rfl rfl rfl (Or.inl ⟨rfl, rfl⟩) rfl h (fun μ12 h => ?_)
  exact rn_ret (v := 0) rfl rfl rfl h rfl
set_option maxRecDepth 20000 in
theorem t_JI_ntz_B74 (d : Nat) : ∀ (v0 : Int) (v1 : Int) (μ : am_M) q, JI_ntz_B74 v0 v1 μ = some q → am_run none (am_ar g_mt (d + 0)) 2 (some .int) k_JI_ntz 74 [(0, (0, v0)), (1, (0, v1))] [] μ (am_res 0 q) := by
  intro v0 v1 μ q h
  unfold JI_ntz_B74 at h
  refine rn_sls 5 (pc' := 79) (ls' := [(0, (0, v0)), (1, (0, v1))]) (st' := [(0, (w32 (v1 + (aUshr v0 1))))]) rfl ?_
  exact rn_ireti rfl rfl rfl h rfl
set_option maxRecDepth 20000 in
theorem t_JI_ntz_B62 (d : Nat) : ∀ (v0 : Int) (v1 : Int) (μ : am_M) q, JI_ntz_B62 v0 v1 μ = some q → am_run none (am_ar g_mt (d + 0)) 2 (some .int) k_JI_ntz 62 [(0, (0, v0)), (1, (0, v1))] [] μ (am_res 0 q) := by
  intro v0 v1 μ q h
  unfold JI_ntz_B62 at h
  refine rn_sls 2 (pc' := 64) (ls' := [(0, (0, v0)), (1, (0, v1))]) (st' := [(0, 4), (0, v0)]) rfl ?_
  refine rn_icmp (t := 74) rfl rfl rfl rfl h (fun h => ?_) (fun h => ?_)
  · exact rn_sub [0, 1] rfl (t_JI_ntz_B74 d  _ _ _ _ h)
  · refine rn_sls 5 (pc' := 74) (ls' := [(0, (0, (aUshr v0 2))), (1, (0, (w32 (v1 + 2))))]) (st' := []) rfl ?_
    exact rn_sub [0, 1] rfl (t_JI_ntz_B74 d  _ _ _ _ h)
set_option maxRecDepth 20000 in
theorem t_JI_ntz_B49 (d : Nat) : ∀ (v0 : Int) (v1 : Int) (μ : am_M) q, JI_ntz_B49 v0 v1 μ = some q → am_run none (am_ar g_mt (d + 0)) 2 (some .int) k_JI_ntz 49 [(0, (0, v0)), (1, (0, v1))] [] μ (am_res 0 q) := by
  intro v0 v1 μ q h
  unfold JI_ntz_B49 at h
  refine rn_sls 2 (pc' := 52) (ls' := [(0, (0, v0)), (1, (0, v1))]) (st' := [(0, 16), (0, v0)]) rfl ?_
  refine rn_icmp (t := 62) rfl rfl rfl rfl h (fun h => ?_) (fun h => ?_)
  · exact rn_sub [0, 1] rfl (t_JI_ntz_B62 d  _ _ _ _ h)
  · refine rn_sls 5 (pc' := 62) (ls' := [(0, (0, (aUshr v0 4))), (1, (0, (w32 (v1 + 4))))]) (st' := []) rfl ?_
    exact rn_sub [0, 1] rfl (t_JI_ntz_B62 d  _ _ _ _ h)
set_option maxRecDepth 20000 in
theorem t_JI_ntz_B34 (d : Nat) : ∀ (v0 : Int) (v1 : Int) (μ : am_M) q, JI_ntz_B34 v0 v1 μ = some q → am_run none (am_ar g_mt (d + 0)) 2 (some .int) k_JI_ntz 34 [(0, (0, v0)), (1, (0, v1))] [] μ (am_res 0 q) := by
  intro v0 v1 μ q h
  unfold JI_ntz_B34 at h
  refine rn_sls 2 (pc' := 38) (ls' := [(0, (0, v0)), (1, (0, v1))]) (st' := [(0, 256), (0, v0)]) rfl ?_
  refine rn_icmp (t := 49) rfl rfl rfl rfl h (fun h => ?_) (fun h => ?_)
  · exact rn_sub [0, 1] rfl (t_JI_ntz_B49 d  _ _ _ _ h)
  · refine rn_sls 5 (pc' := 49) (ls' := [(0, (0, (aUshr v0 8))), (1, (0, (w32 (v1 + 8))))]) (st' := []) rfl ?_
    exact rn_sub [0, 1] rfl (t_JI_ntz_B49 d  _ _ _ _ h)
set_option maxRecDepth 20000 in
theorem t_JI_ntz (d : Nat) : ∀ (v0 : Int) (μ : am_M) q, JI_ntz v0 μ = some q → am_ar g_mt (d + 1) 147 [(0, v0)] μ (am_res 0 q) := by
  intro v0 μ q h
  unfold JI_ntz at h
  refine am_ar_of (d := d + 0) i_JI_ntz rfl rfl (Nat.le_of_ble_eq_true rfl) ?_
  show am_run none (am_ar g_mt (d + 0)) 2 (some .int) k_JI_ntz 0 [(0, (0, v0))] [] μ (am_res 0 q)
  refine rn_sls 9 (pc' := 9) (ls' := [(0, (0, (aAnd (aXor v0 (-1)) (w32 (v0 - 1)))))]) (st' := [(0, (aAnd (aXor v0 (-1)) (w32 (v0 - 1))))]) rfl ?_
  refine rn_ifn (t := 17) rfl rfl rfl rfl h (fun h => ?_) (fun h => ?_)
  · refine rn_sls 3 (pc' := 16) (ls' := [(0, (0, (aAnd (aXor v0 (-1)) (w32 (v0 - 1)))))]) (st' := [(0, (aAnd (aAnd (aXor v0 (-1)) (w32 (v0 - 1))) 32))]) rfl ?_
    exact rn_ireti rfl rfl rfl h rfl
  · refine rn_sls 4 (pc' := 23) (ls' := [(1, (0, 1)), (0, (0, (aAnd (aXor v0 (-1)) (w32 (v0 - 1)))))]) (st' := [(0, 65536), (0, (aAnd (aXor v0 (-1)) (w32 (v0 - 1))))]) rfl ?_
    refine rn_icmp (t := 34) rfl rfl rfl rfl h (fun h => ?_) (fun h => ?_)
    · exact rn_sub [1, 0] rfl (t_JI_ntz_B34 d  _ _ _ _ h)
    · refine rn_sls 5 (pc' := 34) (ls' := [(0, (0, (aUshr (aAnd (aXor v0 (-1)) (w32 (v0 - 1))) 16))), (1, (0, (w32 (1 + 16))))]) (st' := []) rfl ?_
      refine rn_nm (ls := fun x => [(0, (0, x)), (1, (0, (w32 (1 + 16))))]) (st := fun x => []) h (fun a1 h => ?_)
      exact rn_sub [0, 1] rfl (t_JI_ntz_B34 d  _ _ _ _ h)
set_option maxRecDepth 20000 in
theorem t_Ck_joinBranches_B40 (d : Nat) : ∀ (v1 : Int) (v2 : Int) (μ : am_M) q, Ck_joinBranches_B40 v1 v2 μ = some q → am_run none (am_ar g_mt (d + 1)) 5 none k_Ck_joinBranches 40 [(0, (2, 30)), (1, (2, v1)), (2, (0, v2))] [] μ (am_res 2 q) := by
  intro v1 v2 μ q h
  unfold Ck_joinBranches_B40 at h
  refine rn_sls 4 (pc' := 48) (ls' := [(0, (2, 30)), (1, (2, v1)), (2, (0, v2))]) (st' := [(0, (μ 30 7)), (2, 34)]) rfl ?_
  refine rn_call 3 0 [(2, 34), (0, (μ 30 7))] (r := []) rfl ⟨rfl, Or.inr ⟨_, rfl, by decide⟩⟩ (by decide) (fun z => absurd z (by decide)) rfl rfl (Nat.le_of_ble_eq_true rfl) h (fun w hw => t_X_at (d + 0) _ _ _ _ hw) (fun a1 μ2 h => ?_)
  refine rn_sls 0 (pc' := 51) (ls' := [(0, (2, 30)), (1, (2, v1)), (2, (0, v2))]) (st' := [(0, a1)]) rfl ?_
  refine rn_sls 2 (pc' := 54) (ls' := [(4, (0, a1)), (0, (2, 30)), (1, (2, v1)), (2, (0, v2))]) (st' := [(2, v1)]) rfl ?_
  refine rn_gd h (fun ho3 h => ?_)
  refine rn_get ho3 rfl rfl rfl ?_
  refine rn_sls 0 (pc' := 57) (ls' := [(4, (0, a1)), (0, (2, 30)), (1, (2, v1)), (2, (0, v2))]) (st' := [(2, (v1 + 7))]) rfl ?_
  refine rn_sls 4 (pc' := 65) (ls' := [(4, (0, a1)), (0, (2, 30)), (1, (2, v1)), (2, (0, v2))]) (st' := [(0, (μ2 30 7)), (2, 35), (2, (v1 + 7))]) rfl ?_
  refine rn_call 3 0 [(2, 35), (0, (μ2 30 7))] (r := [(2, (v1 + 7))]) rfl ⟨rfl, Or.inr ⟨_, rfl, by decide⟩⟩ (by decide) (fun z => absurd z (by decide)) rfl rfl (Nat.le_of_ble_eq_true rfl) h (fun w hw => t_X_at (d + 0) _ _ _ _ hw) (fun a4 μ5 h => ?_)
  refine rn_sls 0 (pc' := 68) (ls' := [(4, (0, a1)), (0, (2, 30)), (1, (2, v1)), (2, (0, v2))]) (st' := [(0, a4), (2, (v1 + 7))]) rfl ?_
  refine rn_sls 6 (pc' := 77) (ls' := [(4, (0, a1)), (0, (2, 30)), (1, (2, v1)), (2, (0, v2))]) (st' := [(0, (aAnd a1 (aXor (μ5 30 6) (-1)))), (0, a4), (2, (v1 + 7))]) rfl ?_
  refine rn_call 3 2 [(2, (v1 + 7)), (0, a4), (0, (aAnd a1 (aXor (μ5 30 6) (-1))))] (r := []) rfl ⟨rfl, Or.inr ⟨_, rfl, by decide⟩⟩ (by decide) (fun z => absurd z (by decide)) rfl rfl (Nat.le_of_ble_eq_true rfl) h (fun w hw => t_X_put (d + 0) _ _ _ _ _ hw) (fun a6 μ7 h => ?_)
  refine rn_sls 0 (pc' := 80) (ls' := [(4, (0, a1)), (0, (2, 30)), (1, (2, v1)), (2, (0, v2))]) (st' := []) rfl ?_
  refine rn_sls 1 (pc' := 81) (ls' := [(4, (0, a1)), (0, (2, 30)), (1, (2, v1)), (2, (0, v2))]) (st' := [(2, v1)]) rfl ?_
  refine rn_get ho3 rfl rfl rfl ?_
  refine rn_sls 0 (pc' := 84) (ls' := [(4, (0, a1)), (0, (2, 30)), (1, (2, v1)), (2, (0, v2))]) (st' := [(2, (v1 + 7))]) rfl ?_
  refine rn_sls 7 (pc' := 94) (ls' := [(4, (0, a1)), (0, (2, 30)), (1, (2, v1)), (2, (0, v2))]) (st' := [(0, (aAnd (μ7 30 6) (aXor a1 (-1)))), (0, v2), (2, (v1 + 7))]) rfl ?_
  refine rn_call 3 2 [(2, (v1 + 7)), (0, v2), (0, (aAnd (μ7 30 6) (aXor a1 (-1))))] (r := []) rfl ⟨rfl, Or.inr ⟨_, rfl, by decide⟩⟩ (by decide) (fun z => absurd z (by decide)) rfl rfl (Nat.le_of_ble_eq_true rfl) h (fun w hw => t_X_put (d + 0) _ _ _ _ _ hw) (fun a8 μ9 h => ?_)
  refine rn_sls 0 (pc' := 97) (ls' := [(4, (0, a1)), (0, (2, 30)), (1, (2, v1)), (2, (0, v2))]) (st' := []) rfl ?_
  refine rn_sls 5 (pc' := 105) (ls' := [(4, (0, a1)), (0, (2, 30)), (1, (2, v1)), (2, (0, v2))]) (st' := [(0, (aAnd (μ9 30 6) a1)), (2, 30)]) rfl ?_
  refine rn_put rfl rfl rfl rfl (Or.inl ⟨rfl, rfl⟩) rfl h (fun μ10 h => ?_)
  exact rn_ret (v := 0) rfl rfl rfl h rfl
set_option maxRecDepth 20000 in
theorem t_Ck_joinBranches (d : Nat) : ∀ (v1 : Int) (v2 : Int) (μ : am_M) q, Ck_joinBranches v1 v2 μ = some q → am_ar g_mt (d + 2) 14 [(2, 30), (2, v1), (0, v2)] μ (am_res 2 q) := by
  intro v1 v2 μ q h
  unfold Ck_joinBranches at h
  refine am_ar_of (d := d + 1) i_Ck_joinBranches rfl rfl (Nat.le_of_ble_eq_true rfl) ?_
  show am_run none (am_ar g_mt (d + 1)) 5 none k_Ck_joinBranches 0 [(0, (2, 30)), (1, (2, v1)), (2, (0, v2))] [] μ (am_res 2 q)
  refine rn_sls 5 (pc' := 7) (ls' := [(0, (2, 30)), (1, (2, v1)), (2, (0, v2))]) (st' := [(0, (w32 ((μ 30 7) - 1))), (2, 30)]) rfl ?_
  refine rn_put rfl rfl rfl rfl (Or.inl ⟨rfl, rfl⟩) rfl h (fun μ1 h => ?_)
  refine rn_sls 4 (pc' := 18) (ls' := [(0, (2, 30)), (1, (2, v1)), (2, (0, v2))]) (st' := [(0, (μ1 30 7)), (2, 33)]) rfl ?_
  refine rn_call 3 0 [(2, 33), (0, (μ1 30 7))] (r := []) rfl ⟨rfl, Or.inr ⟨_, rfl, by decide⟩⟩ (by decide) (fun z => absurd z (by decide)) rfl rfl (Nat.le_of_ble_eq_true rfl) h (fun w hw => t_X_at (d + 0) _ _ _ _ hw) (fun a2 μ3 h => ?_)
  refine rn_sls 0 (pc' := 21) (ls' := [(0, (2, 30)), (1, (2, v1)), (2, (0, v2))]) (st' := [(0, a2)]) rfl ?_
  refine rn_sls 5 (pc' := 28) (ls' := [(3, (0, (aXor a2 (μ3 30 5)))), (0, (2, 30)), (1, (2, v1)), (2, (0, v2))]) (st' := [(0, (aXor a2 (μ3 30 5)))]) rfl ?_
  refine rn_if (t := 40) rfl rfl rfl rfl h (fun h => ?_) (fun h => ?_)
  · exact rn_sub [1, 2, 3] rfl (t_Ck_joinBranches_B40 d  _ _ _ _ h)
  · refine rn_sls 3 (pc' := 34) (ls' := [(3, (0, (aXor a2 (μ3 30 5)))), (0, (2, 30)), (1, (2, v1)), (2, (0, v2))]) (st' := [(0, (aXor a2 (μ3 30 5))), (0, 3), (2, 30)]) rfl ?_
    refine rn_call 2 0 [(0, (aXor a2 (μ3 30 5)))] (r := [(0, 3), (2, 30)]) rfl ⟨rfl, Or.inr ⟨_, rfl, by decide⟩⟩ (by decide) (fun z => absurd z (by decide)) rfl rfl (Nat.le_of_ble_eq_true rfl) h (fun w hw => t_JI_ntz (d + 0) _ _ _ hw) (fun a4 μ5 h => ?_)
    refine rn_sls 0 (pc' := 37) (ls' := [(3, (0, (aXor a2 (μ3 30 5)))), (0, (2, 30)), (1, (2, v1)), (2, (0, v2))]) (st' := [(0, a4), (0, 3), (2, 30)]) rfl ?_
    refine rn_call 0 2 [(2, 30), (0, 3), (0, a4)] (r := []) rfl ⟨rfl, Or.inl ⟨_, rfl, by decide⟩⟩ (by decide) (fun _ => ⟨_, rfl, rfl⟩) rfl rfl (Nat.le_of_ble_eq_true rfl) h (fun w hw => t_Ck_blame (d + 0) _ _ _ _ hw) (fun a6 μ7 h => ?_)
    refine rn_sls 0 (pc' := 40) (ls' := [(3, (0, (aXor a2 (μ3 30 5)))), (0, (2, 30)), (1, (2, v1)), (2, (0, v2))]) (st' := []) rfl ?_
    exact rn_sub [1, 2, 3] rfl (t_Ck_joinBranches_B40 d  _ _ _ _ h)
set_option maxRecDepth 20000 in
theorem t_Ck_checkLine (d : Nat) : ∀ (v1 : Int) (v2 : Int) (μ : am_M) q, Ck_checkLine v1 v2 μ = some q → am_ar g_mt (d + 4) 10 [(2, 30), (2, v1), (0, v2)] μ (am_res 2 q) := by
  intro v1 v2 μ q h
  unfold Ck_checkLine at h
  refine am_ar_of (d := d + 3) i_Ck_checkLine rfl rfl (Nat.le_of_ble_eq_true rfl) ?_
  show am_run none (am_ar g_mt (d + 3)) 3 none k_Ck_checkLine 0 [(0, (2, 30)), (1, (2, v1)), (2, (0, v2))] [] μ (am_res 2 q)
  refine rn_sls 3 (pc' := 3) (ls' := [(0, (2, 30)), (1, (2, v1)), (2, (0, v2))]) (st' := [(0, v2), (2, v1), (2, 30)]) rfl ?_
  refine rn_call 0 2 [(2, 30), (2, v1), (0, v2)] (r := []) rfl ⟨rfl, Or.inl ⟨_, rfl, by decide⟩⟩ (by decide) (fun _ => ⟨_, rfl, rfl⟩) rfl rfl (Nat.le_of_ble_eq_true rfl) h (fun w hw => t_Ck_takeAway (d + 0) _ _ _ _ hw) (fun a1 μ2 h => ?_)
  refine rn_sls 0 (pc' := 6) (ls' := [(0, (2, 30)), (1, (2, v1)), (2, (0, v2))]) (st' := []) rfl ?_
  refine rn_sls 2 (pc' := 8) (ls' := [(0, (2, 30)), (1, (2, v1)), (2, (0, v2))]) (st' := [(2, v1), (2, 30)]) rfl ?_
  refine rn_gd h (fun ho3 h => ?_)
  refine rn_get ho3 rfl rfl rfl ?_
  refine rn_sls 0 (pc' := 11) (ls' := [(0, (2, 30)), (1, (2, v1)), (2, (0, v2))]) (st' := [(2, (v1 + 2)), (2, 30)]) rfl ?_
  refine rn_sls 1 (pc' := 12) (ls' := [(0, (2, 30)), (1, (2, v1)), (2, (0, v2))]) (st' := [(0, v2), (2, (v1 + 2)), (2, 30)]) rfl ?_
  refine rn_call 3 0 [(2, (v1 + 2)), (0, v2)] (r := [(2, 30)]) rfl ⟨rfl, Or.inr ⟨_, rfl, by decide⟩⟩ (by decide) (fun z => absurd z (by decide)) rfl rfl (Nat.le_of_ble_eq_true rfl) h (fun w hw => t_X_at (d + 2) _ _ _ _ hw) (fun a4 μ5 h => ?_)
  refine rn_sls 0 (pc' := 15) (ls' := [(0, (2, 30)), (1, (2, v1)), (2, (0, v2))]) (st' := [(0, a4), (2, 30)]) rfl ?_
  refine rn_sls 1 (pc' := 16) (ls' := [(0, (2, 30)), (1, (2, v1)), (2, (0, v2))]) (st' := [(2, v1), (0, a4), (2, 30)]) rfl ?_
  refine rn_get ho3 rfl rfl rfl ?_
  refine rn_sls 0 (pc' := 19) (ls' := [(0, (2, 30)), (1, (2, v1)), (2, (0, v2))]) (st' := [(2, (v1 + 4)), (0, a4), (2, 30)]) rfl ?_
  refine rn_sls 1 (pc' := 20) (ls' := [(0, (2, 30)), (1, (2, v1)), (2, (0, v2))]) (st' := [(0, v2), (2, (v1 + 4)), (0, a4), (2, 30)]) rfl ?_
  refine rn_call 3 0 [(2, (v1 + 4)), (0, v2)] (r := [(0, a4), (2, 30)]) rfl ⟨rfl, Or.inr ⟨_, rfl, by decide⟩⟩ (by decide) (fun z => absurd z (by decide)) rfl rfl (Nat.le_of_ble_eq_true rfl) h (fun w hw => t_X_at (d + 2) _ _ _ _ hw) (fun a6 μ7 h => ?_)
  refine rn_sls 0 (pc' := 23) (ls' := [(0, (2, 30)), (1, (2, v1)), (2, (0, v2))]) (st' := [(0, a6), (0, a4), (2, 30)]) rfl ?_
  refine rn_call 0 2 [(2, 30), (0, a4), (0, a6)] (r := []) rfl ⟨rfl, Or.inl ⟨_, rfl, by decide⟩⟩ (by decide) (fun _ => ⟨_, rfl, rfl⟩) rfl rfl (Nat.le_of_ble_eq_true rfl) h (fun w hw => t_Ck_lay (d + 1) _ _ _ _ hw) (fun a8 μ9 h => ?_)
  refine rn_sls 0 (pc' := 26) (ls' := [(0, (2, 30)), (1, (2, v1)), (2, (0, v2))]) (st' := []) rfl ?_
  refine rn_sls 2 (pc' := 28) (ls' := [(0, (2, 30)), (1, (2, v1)), (2, (0, v2))]) (st' := [(2, v1), (2, 30)]) rfl ?_
  refine rn_get ho3 rfl rfl rfl ?_
  refine rn_sls 0 (pc' := 31) (ls' := [(0, (2, 30)), (1, (2, v1)), (2, (0, v2))]) (st' := [(2, (v1 + 3)), (2, 30)]) rfl ?_
  refine rn_sls 1 (pc' := 32) (ls' := [(0, (2, 30)), (1, (2, v1)), (2, (0, v2))]) (st' := [(0, v2), (2, (v1 + 3)), (2, 30)]) rfl ?_
  refine rn_call 3 0 [(2, (v1 + 3)), (0, v2)] (r := [(2, 30)]) rfl ⟨rfl, Or.inr ⟨_, rfl, by decide⟩⟩ (by decide) (fun z => absurd z (by decide)) rfl rfl (Nat.le_of_ble_eq_true rfl) h (fun w hw => t_X_at (d + 2) _ _ _ _ hw) (fun a10 μ11 h => ?_)
  refine rn_sls 0 (pc' := 35) (ls' := [(0, (2, 30)), (1, (2, v1)), (2, (0, v2))]) (st' := [(0, a10), (2, 30)]) rfl ?_
  refine rn_sls 1 (pc' := 36) (ls' := [(0, (2, 30)), (1, (2, v1)), (2, (0, v2))]) (st' := [(2, v1), (0, a10), (2, 30)]) rfl ?_
  refine rn_get ho3 rfl rfl rfl ?_
  refine rn_sls 0 (pc' := 39) (ls' := [(0, (2, 30)), (1, (2, v1)), (2, (0, v2))]) (st' := [(2, (v1 + 4)), (0, a10), (2, 30)]) rfl ?_
  refine rn_sls 1 (pc' := 40) (ls' := [(0, (2, 30)), (1, (2, v1)), (2, (0, v2))]) (st' := [(0, v2), (2, (v1 + 4)), (0, a10), (2, 30)]) rfl ?_
  refine rn_call 3 0 [(2, (v1 + 4)), (0, v2)] (r := [(0, a10), (2, 30)]) rfl ⟨rfl, Or.inr ⟨_, rfl, by decide⟩⟩ (by decide) (fun z => absurd z (by decide)) rfl rfl (Nat.le_of_ble_eq_true rfl) h (fun w hw => t_X_at (d + 2) _ _ _ _ hw) (fun a12 μ13 h => ?_)
  refine rn_sls 0 (pc' := 43) (ls' := [(0, (2, 30)), (1, (2, v1)), (2, (0, v2))]) (st' := [(0, a12), (0, a10), (2, 30)]) rfl ?_
  refine rn_call 0 2 [(2, 30), (0, a10), (0, a12)] (r := []) rfl ⟨rfl, Or.inl ⟨_, rfl, by decide⟩⟩ (by decide) (fun _ => ⟨_, rfl, rfl⟩) rfl rfl (Nat.le_of_ble_eq_true rfl) h (fun w hw => t_Ck_lay (d + 1) _ _ _ _ hw) (fun a14 μ15 h => ?_)
  refine rn_sls 0 (pc' := 46) (ls' := [(0, (2, 30)), (1, (2, v1)), (2, (0, v2))]) (st' := []) rfl ?_
  refine rn_sls 1 (pc' := 47) (ls' := [(0, (2, 30)), (1, (2, v1)), (2, (0, v2))]) (st' := [(2, v1)]) rfl ?_
  refine rn_get ho3 rfl rfl rfl ?_
  refine rn_sls 0 (pc' := 50) (ls' := [(0, (2, 30)), (1, (2, v1)), (2, (0, v2))]) (st' := [(2, (v1 + 1))]) rfl ?_
  refine rn_sls 1 (pc' := 51) (ls' := [(0, (2, 30)), (1, (2, v1)), (2, (0, v2))]) (st' := [(0, v2), (2, (v1 + 1))]) rfl ?_
  refine rn_call 3 0 [(2, (v1 + 1)), (0, v2)] (r := []) rfl ⟨rfl, Or.inr ⟨_, rfl, by decide⟩⟩ (by decide) (fun z => absurd z (by decide)) rfl rfl (Nat.le_of_ble_eq_true rfl) h (fun w hw => t_X_at (d + 2) _ _ _ _ hw) (fun a16 μ17 h => ?_)
  refine rn_sls 0 (pc' := 54) (ls' := [(0, (2, 30)), (1, (2, v1)), (2, (0, v2))]) (st' := [(0, a16)]) rfl ?_
  refine rn_tsw rfl rfl ?_
  refine rn_swc (t := 84) rfl h (fun h => ?_) (fun h => ?_)
  · refine rn_sls 6 (pc' := 96) (ls' := [(0, (2, 30)), (1, (2, v1)), (2, (0, v2))]) (st' := [(0, (μ17 30 5)), (0, (μ17 30 7)), (2, 31)]) rfl ?_
    refine rn_call 3 2 [(2, 31), (0, (μ17 30 7)), (0, (μ17 30 5))] (r := []) rfl ⟨rfl, Or.inr ⟨_, rfl, by decide⟩⟩ (by decide) (fun z => absurd z (by decide)) rfl rfl (Nat.le_of_ble_eq_true rfl) h (fun w hw => t_X_put (d + 2) _ _ _ _ _ hw) (fun a18 μ19 h => ?_)
    refine rn_sls 0 (pc' := 99) (ls' := [(0, (2, 30)), (1, (2, v1)), (2, (0, v2))]) (st' := []) rfl ?_
    refine rn_sls 6 (pc' := 111) (ls' := [(0, (2, 30)), (1, (2, v1)), (2, (0, v2))]) (st' := [(0, (μ19 30 6)), (0, (μ19 30 7)), (2, 32)]) rfl ?_
    refine rn_call 3 2 [(2, 32), (0, (μ19 30 7)), (0, (μ19 30 6))] (r := []) rfl ⟨rfl, Or.inr ⟨_, rfl, by decide⟩⟩ (by decide) (fun z => absurd z (by decide)) rfl rfl (Nat.le_of_ble_eq_true rfl) h (fun w hw => t_X_put (d + 2) _ _ _ _ _ hw) (fun a20 μ21 h => ?_)
    refine rn_sls 0 (pc' := 114) (ls' := [(0, (2, 30)), (1, (2, v1)), (2, (0, v2))]) (st' := []) rfl ?_
    refine rn_sls 5 (pc' := 121) (ls' := [(0, (2, 30)), (1, (2, v1)), (2, (0, v2))]) (st' := [(0, (w32 ((μ21 30 7) + 1))), (2, 30)]) rfl ?_
    refine rn_put rfl rfl rfl rfl (Or.inl ⟨rfl, rfl⟩) rfl h (fun μ22 h => ?_)
    refine rn_goto (t := 166) rfl rfl rfl ?_
    exact rn_ret (v := 0) rfl rfl rfl h rfl
  refine rn_swc (t := 127) rfl h (fun h => ?_) (fun h => ?_)
  · refine rn_sls 2 (pc' := 129) (ls' := [(0, (2, 30)), (1, (2, v1)), (2, (0, v2))]) (st' := [(0, v2), (2, 30)]) rfl ?_
    refine rn_call 0 2 [(2, 30), (0, v2)] (r := []) rfl ⟨rfl, Or.inl ⟨_, rfl, by decide⟩⟩ (by decide) (fun _ => ⟨_, rfl, rfl⟩) rfl rfl (Nat.le_of_ble_eq_true rfl) h (fun w hw => t_Ck_turnToElse (d + 1) _ _ _ hw) (fun a23 μ24 h => ?_)
    refine rn_sls 0 (pc' := 132) (ls' := [(0, (2, 30)), (1, (2, v1)), (2, (0, v2))]) (st' := []) rfl ?_
    refine rn_goto (t := 166) rfl rfl rfl ?_
    exact rn_ret (v := 0) rfl rfl rfl h rfl
  refine rn_swc (t := 135) rfl h (fun h => ?_) (fun h => ?_)
  · refine rn_sls 3 (pc' := 138) (ls' := [(0, (2, 30)), (1, (2, v1)), (2, (0, v2))]) (st' := [(0, v2), (2, v1), (2, 30)]) rfl ?_
    refine rn_call 0 2 [(2, 30), (2, v1), (0, v2)] (r := []) rfl ⟨rfl, Or.inl ⟨_, rfl, by decide⟩⟩ (by decide) (fun _ => ⟨_, rfl, rfl⟩) rfl rfl (Nat.le_of_ble_eq_true rfl) h (fun w hw => t_Ck_joinBranches (d + 1) _ _ _ _ hw) (fun a25 μ26 h => ?_)
    refine rn_sls 0 (pc' := 141) (ls' := [(0, (2, 30)), (1, (2, v1)), (2, (0, v2))]) (st' := []) rfl ?_
    refine rn_goto (t := 166) rfl rfl rfl ?_
    exact rn_ret (v := 0) rfl rfl rfl h rfl
  refine rn_swc (t := 144) rfl h (fun h => ?_) (fun h => ?_)
  · refine rn_sls 2 (pc' := 148) (ls' := [(0, (2, 30)), (1, (2, v1)), (2, (0, v2))]) (st' := [(0, (μ17 30 5))]) rfl ?_
    refine rn_if (t := 166) rfl rfl rfl rfl h (fun h => ?_) (fun h => ?_)
    · exact rn_ret (v := 0) rfl rfl rfl h rfl
    · refine rn_sls 4 (pc' := 157) (ls' := [(0, (2, 30)), (1, (2, v1)), (2, (0, v2))]) (st' := [(0, (μ17 30 5)), (0, 4), (2, 30)]) rfl ?_
      refine rn_call 2 0 [(0, (μ17 30 5))] (r := [(0, 4), (2, 30)]) rfl ⟨rfl, Or.inr ⟨_, rfl, by decide⟩⟩ (by decide) (fun z => absurd z (by decide)) rfl rfl (Nat.le_of_ble_eq_true rfl) h (fun w hw => t_JI_ntz (d + 2) _ _ _ hw) (fun a27 μ28 h => ?_)
      refine rn_sls 0 (pc' := 160) (ls' := [(0, (2, 30)), (1, (2, v1)), (2, (0, v2))]) (st' := [(0, a27), (0, 4), (2, 30)]) rfl ?_
      refine rn_call 0 2 [(2, 30), (0, 4), (0, a27)] (r := []) rfl ⟨rfl, Or.inl ⟨_, rfl, by decide⟩⟩ (by decide) (fun _ => ⟨_, rfl, rfl⟩) rfl rfl (Nat.le_of_ble_eq_true rfl) h (fun w hw => t_Ck_blame (d + 2) _ _ _ _ hw) (fun a29 μ30 h => ?_)
      refine rn_sls 0 (pc' := 163) (ls' := [(0, (2, 30)), (1, (2, v1)), (2, (0, v2))]) (st' := []) rfl ?_
      refine rn_goto (t := 166) rfl rfl rfl ?_
      exact rn_ret (v := 0) rfl rfl rfl h rfl
  refine rn_sw0 (t := 166) rfl ?_
  exact rn_ret (v := 0) rfl rfl rfl h rfl
set_option maxRecDepth 20000 in
theorem t_Ck_checkBill_B81 (d : Nat) (k44 : Int → Int → Int → Int → Int → am_M → am_O) (hk44 : ∀ (v1 : Int) (v2 : Int) (v3 : Int) (v4 : Int) (v5 : Int) (μ : am_M) q, k44 v1 v2 v3 v4 v5 μ = some q → am_run none (am_ar g_mt (d + 4)) 6 none k_Ck_checkBill 44 [(0, (2, 30)), (1, (2, v1)), (2, (0, v2)), (3, (0, v3)), (4, (0, v4)), (5, (0, v5))] [] μ (am_res 2 q)) : ∀ (v1 : Int) (v2 : Int) (v4 : Int) (v5 : Int) (s0 : Int) (μ : am_M) q, Ck_checkBill_B81 k44 v1 v2 v4 v5 s0 μ = some q → am_run none (am_ar g_mt (d + 4)) 6 none k_Ck_checkBill 81 [(0, (2, 30)), (1, (2, v1)), (2, (0, v2)), (4, (0, v4)), (5, (0, v5))] [(0, s0)] μ (am_res 2 q) := by
  intro v1 v2 v4 v5 s0 μ q h
  unfold Ck_checkBill_B81 at h
  refine rn_sls 2 (pc' := 85) (ls' := [(5, (0, (w32 (v5 + 1)))), (3, (0, s0)), (0, (2, 30)), (1, (2, v1)), (2, (0, v2)), (4, (0, v4))]) (st' := []) rfl ?_
  refine rn_goto (t := 44) rfl rfl rfl ?_
  exact rn_sub [2, 3, 4, 1, 5, 0] rfl (hk44 _ _ _ _ _ _ _ h)
set_option maxRecDepth 20000 in
theorem t_Ck_checkBill_B88 (d : Nat) : ∀ (v1 : Int) (v2 : Int) (v3 : Int) (μ : am_M) q, Ck_checkBill_B88 v1 v2 v3 μ = some q → am_run none (am_ar g_mt (d + 4)) 6 none k_Ck_checkBill 88 [(0, (2, 30)), (1, (2, v1)), (2, (0, v2)), (3, (0, v3))] [] μ (am_res 2 q) := by
  intro v1 v2 v3 μ q h
  unfold Ck_checkBill_B88 at h
  refine rn_sls 1 (pc' := 89) (ls' := [(0, (2, 30)), (1, (2, v1)), (2, (0, v2)), (3, (0, v3))]) (st' := [(2, v1)]) rfl ?_
  refine rn_gd h (fun ho1 h => ?_)
  refine rn_get ho1 rfl rfl rfl ?_
  refine rn_sls 0 (pc' := 92) (ls' := [(0, (2, 30)), (1, (2, v1)), (2, (0, v2)), (3, (0, v3))]) (st' := [(2, (v1 + 19))]) rfl ?_
  refine rn_sls 3 (pc' := 97) (ls' := [(0, (2, 30)), (1, (2, v1)), (2, (0, v2)), (3, (0, v3))]) (st' := [(0, (μ 30 8)), (0, v2), (2, (v1 + 19))]) rfl ?_
  refine rn_call 3 2 [(2, (v1 + 19)), (0, v2), (0, (μ 30 8))] (r := []) rfl ⟨rfl, Or.inr ⟨_, rfl, by decide⟩⟩ (by decide) (fun z => absurd z (by decide)) rfl rfl (Nat.le_of_ble_eq_true rfl) h (fun w hw => t_X_put (d + 3) _ _ _ _ _ hw) (fun a2 μ3 h => ?_)
  refine rn_sls 0 (pc' := 100) (ls' := [(0, (2, 30)), (1, (2, v1)), (2, (0, v2)), (3, (0, v3))]) (st' := []) rfl ?_
  refine rn_sls 1 (pc' := 101) (ls' := [(0, (2, 30)), (1, (2, v1)), (2, (0, v2)), (3, (0, v3))]) (st' := [(2, v1)]) rfl ?_
  refine rn_get ho1 rfl rfl rfl ?_
  refine rn_sls 0 (pc' := 104) (ls' := [(0, (2, 30)), (1, (2, v1)), (2, (0, v2)), (3, (0, v3))]) (st' := [(2, (v1 + 20))]) rfl ?_
  refine rn_sls 2 (pc' := 106) (ls' := [(0, (2, 30)), (1, (2, v1)), (2, (0, v2)), (3, (0, v3))]) (st' := [(0, v3), (0, v2), (2, (v1 + 20))]) rfl ?_
  refine rn_call 3 2 [(2, (v1 + 20)), (0, v2), (0, v3)] (r := []) rfl ⟨rfl, Or.inr ⟨_, rfl, by decide⟩⟩ (by decide) (fun z => absurd z (by decide)) rfl rfl (Nat.le_of_ble_eq_true rfl) h (fun w hw => t_X_put (d + 3) _ _ _ _ _ hw) (fun a4 μ5 h => ?_)
  refine rn_sls 0 (pc' := 109) (ls' := [(0, (2, 30)), (1, (2, v1)), (2, (0, v2)), (3, (0, v3))]) (st' := []) rfl ?_
  refine rn_sls 1 (pc' := 110) (ls' := [(0, (2, 30)), (1, (2, v1)), (2, (0, v2)), (3, (0, v3))]) (st' := [(2, v1)]) rfl ?_
  refine rn_get ho1 rfl rfl rfl ?_
  refine rn_sls 0 (pc' := 113) (ls' := [(0, (2, 30)), (1, (2, v1)), (2, (0, v2)), (3, (0, v3))]) (st' := [(2, (v1 + 21))]) rfl ?_
  refine rn_sls 3 (pc' := 118) (ls' := [(0, (2, 30)), (1, (2, v1)), (2, (0, v2)), (3, (0, v3))]) (st' := [(0, (μ5 30 9)), (0, v2), (2, (v1 + 21))]) rfl ?_
  refine rn_call 3 2 [(2, (v1 + 21)), (0, v2), (0, (μ5 30 9))] (r := []) rfl ⟨rfl, Or.inr ⟨_, rfl, by decide⟩⟩ (by decide) (fun z => absurd z (by decide)) rfl rfl (Nat.le_of_ble_eq_true rfl) h (fun w hw => t_X_put (d + 3) _ _ _ _ _ hw) (fun a6 μ7 h => ?_)
  refine rn_sls 0 (pc' := 121) (ls' := [(0, (2, 30)), (1, (2, v1)), (2, (0, v2)), (3, (0, v3))]) (st' := []) rfl ?_
  exact rn_ret (v := 0) rfl rfl rfl h rfl
set_option maxRecDepth 20000 in
theorem t_Ck_checkBill_L44_b (d : Nat) (k44 : Int → Int → Int → Int → Int → am_M → am_O) (hk44 : ∀ (v1 : Int) (v2 : Int) (v3 : Int) (v4 : Int) (v5 : Int) (μ : am_M) q, k44 v1 v2 v3 v4 v5 μ = some q → am_run none (am_ar g_mt (d + 4)) 6 none k_Ck_checkBill 44 [(0, (2, 30)), (1, (2, v1)), (2, (0, v2)), (3, (0, v3)), (4, (0, v4)), (5, (0, v5))] [] μ (am_res 2 q)) : ∀ (v1 : Int) (v2 : Int) (v3 : Int) (v4 : Int) (v5 : Int) (μ : am_M) q, Ck_checkBill_L44_b k44 v1 v2 v3 v4 v5 μ = some q → am_run none (am_ar g_mt (d + 4)) 6 none k_Ck_checkBill 44 [(0, (2, 30)), (1, (2, v1)), (2, (0, v2)), (3, (0, v3)), (4, (0, v4)), (5, (0, v5))] [] μ (am_res 2 q) := by
  intro v1 v2 v3 v4 v5 μ q h
  unfold Ck_checkBill_L44_b at h
  refine rn_sls 2 (pc' := 48) (ls' := [(0, (2, 30)), (1, (2, v1)), (2, (0, v2)), (3, (0, v3)), (4, (0, v4)), (5, (0, v5))]) (st' := [(0, v4), (0, v5)]) rfl ?_
  refine rn_icmpn (t := 88) rfl rfl rfl rfl h (fun h => ?_) (fun h => ?_)
  · refine rn_sls 2 (pc' := 55) (ls' := [(0, (2, 30)), (1, (2, v1)), (2, (0, v2)), (3, (0, v3)), (4, (0, v4)), (5, (0, v5))]) (st' := [(0, (μ 30 8))]) rfl ?_
    refine rn_ifn (t := 88) rfl rfl rfl rfl h (fun h => ?_) (fun h => ?_)
    · refine rn_sls 2 (pc' := 60) (ls' := [(0, (2, 30)), (1, (2, v1)), (2, (0, v2)), (3, (0, v3)), (4, (0, v4)), (5, (0, v5))]) (st' := [(2, v1), (2, 30)]) rfl ?_
      refine rn_gd h (fun ho1 h => ?_)
      refine rn_get ho1 rfl rfl rfl ?_
      refine rn_sls 0 (pc' := 63) (ls' := [(0, (2, 30)), (1, (2, v1)), (2, (0, v2)), (3, (0, v3)), (4, (0, v4)), (5, (0, v5))]) (st' := [(2, (v1 + 1)), (2, 30)]) rfl ?_
      refine rn_sls 1 (pc' := 65) (ls' := [(0, (2, 30)), (1, (2, v1)), (2, (0, v2)), (3, (0, v3)), (4, (0, v4)), (5, (0, v5))]) (st' := [(0, v5), (2, (v1 + 1)), (2, 30)]) rfl ?_
      refine rn_call 0 2 [(2, 30), (2, (v1 + 1)), (0, v5)] (r := []) rfl ⟨rfl, Or.inl ⟨_, rfl, by decide⟩⟩ (by decide) (fun _ => ⟨_, rfl, rfl⟩) rfl rfl (Nat.le_of_ble_eq_true rfl) h (fun w hw => t_Ck_checkLine (d + 0) _ _ _ _ hw) (fun a2 μ3 h => ?_)
      refine rn_sls 0 (pc' := 68) (ls' := [(0, (2, 30)), (1, (2, v1)), (2, (0, v2)), (3, (0, v3)), (4, (0, v4)), (5, (0, v5))]) (st' := []) rfl ?_
      refine rn_sls 2 (pc' := 72) (ls' := [(0, (2, 30)), (1, (2, v1)), (2, (0, v2)), (3, (0, v3)), (4, (0, v4)), (5, (0, v5))]) (st' := [(0, (μ3 30 8))]) rfl ?_
      refine rn_ifn (t := 79) rfl rfl rfl rfl h (fun h => ?_) (fun h => ?_)
      · refine rn_sls 1 (pc' := 76) (ls' := [(0, (2, 30)), (1, (2, v1)), (2, (0, v2)), (3, (0, v3)), (4, (0, v4)), (5, (0, v5))]) (st' := [(0, (-1))]) rfl ?_
        refine rn_goto (t := 81) rfl rfl rfl ?_
        exact rn_sub [0, 1, 2, 4, 5] rfl (t_Ck_checkBill_B81 d k44 hk44 _ _ _ _ _ _ _ h)
      · refine rn_sls 1 (pc' := 81) (ls' := [(0, (2, 30)), (1, (2, v1)), (2, (0, v2)), (3, (0, v3)), (4, (0, v4)), (5, (0, v5))]) (st' := [(0, v5)]) rfl ?_
        exact rn_sub [0, 1, 2, 4, 5] rfl (t_Ck_checkBill_B81 d k44 hk44 _ _ _ _ _ _ _ h)
    · exact rn_sub [0, 1, 2, 3] rfl (t_Ck_checkBill_B88 d  _ _ _ _ _ h)
  · exact rn_sub [0, 1, 2, 3] rfl (t_Ck_checkBill_B88 d  _ _ _ _ _ h)
set_option maxRecDepth 20000 in
theorem t_Ck_checkBill_L44 (d : Nat) : ∀ (n : Nat) (v1 : Int) (v2 : Int) (v3 : Int) (v4 : Int) (v5 : Int) (μ : am_M) q, Ck_checkBill_L44 n v1 v2 v3 v4 v5 μ = some q → am_run none (am_ar g_mt (d + 4)) 6 none k_Ck_checkBill 44 [(0, (2, 30)), (1, (2, v1)), (2, (0, v2)), (3, (0, v3)), (4, (0, v4)), (5, (0, v5))] [] μ (am_res 2 q) := by
  intro n
  induction n with
  | zero => intro v1 v2 v3 v4 v5 μ q h; cases h
  | succ n ih => intro v1 v2 v3 v4 v5 μ q h; exact t_Ck_checkBill_L44_b d (Ck_checkBill_L44 n) ih v1 v2 v3 v4 v5 μ q h
set_option maxRecDepth 20000 in
theorem t_Ck_checkBill (d : Nat) : ∀ (v1 : Int) (v2 : Int) (μ : am_M) q, Ck_checkBill v1 v2 μ = some q → am_ar g_mt (d + 5) 7 [(2, 30), (2, v1), (0, v2)] μ (am_res 2 q) := by
  intro v1 v2 μ q h
  unfold Ck_checkBill at h
  refine am_ar_of (d := d + 4) i_Ck_checkBill rfl rfl (Nat.le_of_ble_eq_true rfl) ?_
  show am_run none (am_ar g_mt (d + 4)) 6 none k_Ck_checkBill 0 [(0, (2, 30)), (1, (2, v1)), (2, (0, v2))] [] μ (am_res 2 q)
  refine rn_sls 2 (pc' := 2) (ls' := [(0, (2, 30)), (1, (2, v1)), (2, (0, v2))]) (st' := [(0, 0), (2, 30)]) rfl ?_
  refine rn_put rfl rfl rfl rfl (Or.inl ⟨rfl, rfl⟩) rfl h (fun μ1 h => ?_)
  refine rn_sls 2 (pc' := 7) (ls' := [(0, (2, 30)), (1, (2, v1)), (2, (0, v2))]) (st' := [(0, 0), (2, 30)]) rfl ?_
  refine rn_put rfl rfl rfl rfl (Or.inl ⟨rfl, rfl⟩) rfl h (fun μ2 h => ?_)
  refine rn_sls 2 (pc' := 12) (ls' := [(0, (2, 30)), (1, (2, v1)), (2, (0, v2))]) (st' := [(0, 0), (2, 30)]) rfl ?_
  refine rn_put rfl rfl rfl rfl (Or.inl ⟨rfl, rfl⟩) rfl h (fun μ3 h => ?_)
  refine rn_sls 2 (pc' := 17) (ls' := [(0, (2, 30)), (1, (2, v1)), (2, (0, v2))]) (st' := [(0, 0), (2, 30)]) rfl ?_
  refine rn_put rfl rfl rfl rfl (Or.inl ⟨rfl, rfl⟩) rfl h (fun μ4 h => ?_)
  refine rn_sls 2 (pc' := 22) (ls' := [(0, (2, 30)), (1, (2, v1)), (2, (0, v2))]) (st' := [(0, (-1)), (2, 30)]) rfl ?_
  refine rn_put rfl rfl rfl rfl (Or.inl ⟨rfl, rfl⟩) rfl h (fun μ5 h => ?_)
  refine rn_sls 4 (pc' := 29) (ls' := [(3, (0, (-1))), (0, (2, 30)), (1, (2, v1)), (2, (0, v2))]) (st' := [(0, v2), (2, v1)]) rfl ?_
  refine rn_gd h (fun ho6 h => ?_)
  refine rn_call 0 0 [(2, v1), (0, v2)] (r := []) rfl ⟨rfl, Or.inl ⟨_, rfl, by decide⟩⟩ (by decide) (fun _ => ⟨_, rfl, ho6⟩) rfl rfl (Nat.le_of_ble_eq_true rfl) h (fun w hw => t_Bi_lineBehind (d + 2) _ _ _ _ hw) (fun a7 μ8 h => ?_)
  refine rn_sls 0 (pc' := 32) (ls' := [(3, (0, (-1))), (0, (2, 30)), (1, (2, v1)), (2, (0, v2))]) (st' := [(0, a7)]) rfl ?_
  refine rn_sls 2 (pc' := 35) (ls' := [(4, (0, a7)), (3, (0, (-1))), (0, (2, 30)), (1, (2, v1)), (2, (0, v2))]) (st' := [(2, v1)]) rfl ?_
  refine rn_get ho6 rfl rfl rfl ?_
  refine rn_sls 0 (pc' := 38) (ls' := [(4, (0, a7)), (3, (0, (-1))), (0, (2, 30)), (1, (2, v1)), (2, (0, v2))]) (st' := [(2, (v1 + 15))]) rfl ?_
  refine rn_sls 1 (pc' := 39) (ls' := [(4, (0, a7)), (3, (0, (-1))), (0, (2, 30)), (1, (2, v1)), (2, (0, v2))]) (st' := [(0, v2), (2, (v1 + 15))]) rfl ?_
  refine rn_call 3 0 [(2, (v1 + 15)), (0, v2)] (r := []) rfl ⟨rfl, Or.inr ⟨_, rfl, by decide⟩⟩ (by decide) (fun z => absurd z (by decide)) rfl rfl (Nat.le_of_ble_eq_true rfl) h (fun w hw => t_X_at (d + 3) _ _ _ _ hw) (fun a9 μ10 h => ?_)
  refine rn_sls 0 (pc' := 42) (ls' := [(4, (0, a7)), (3, (0, (-1))), (0, (2, 30)), (1, (2, v1)), (2, (0, v2))]) (st' := [(0, a9)]) rfl ?_
  refine rn_sls 1 (pc' := 44) (ls' := [(5, (0, a9)), (4, (0, a7)), (3, (0, (-1))), (0, (2, 30)), (1, (2, v1)), (2, (0, v2))]) (st' := []) rfl ?_
  exact rn_sub [3, 4, 5, 2, 1, 0] rfl (t_Ck_checkBill_L44 d  am_FU _ _ _ _ _ _ _ h)
set_option maxRecDepth 20000 in
theorem t_Ck_isSound_B79 (d : Nat) (k33 : Int → Int → Int → Int → Int → am_M → am_O) (hk33 : ∀ (v0 : Int) (v1 : Int) (v2 : Int) (v3 : Int) (v4 : Int) (μ : am_M) q, k33 v0 v1 v2 v3 v4 μ = some q → am_run none (am_ar g_mt (d + 2)) 6 (some .boolean) k_Ck_isSound 33 [(0, (2, v0)), (1, (0, v1)), (2, (0, v2)), (3, (0, v3)), (4, (0, v4))] [] μ (am_res 0 q)) : ∀ (v0 : Int) (v1 : Int) (v2 : Int) (v3 : Int) (v4 : Int) (μ : am_M) q, Ck_isSound_B79 k33 v0 v1 v2 v3 v4 μ = some q → am_run none (am_ar g_mt (d + 2)) 6 (some .boolean) k_Ck_isSound 79 [(0, (2, v0)), (1, (0, v1)), (2, (0, v2)), (3, (0, v3)), (4, (0, v4))] [] μ (am_res 0 q) := by
  intro v0 v1 v2 v3 v4 μ q h
  unfold Ck_isSound_B79 at h
  refine rn_sls 1 (pc' := 82) (ls' := [(4, (0, (w32 (v4 + 1)))), (0, (2, v0)), (1, (0, v1)), (2, (0, v2)), (3, (0, v3))]) (st' := []) rfl ?_
  refine rn_goto (t := 33) rfl rfl rfl ?_
  exact rn_sub [1, 2, 3, 4, 0] rfl (hk33 _ _ _ _ _ _ _ h)
set_option maxRecDepth 20000 in
theorem t_Ck_isSound_L33_b (d : Nat) (k33 : Int → Int → Int → Int → Int → am_M → am_O) (hk33 : ∀ (v0 : Int) (v1 : Int) (v2 : Int) (v3 : Int) (v4 : Int) (μ : am_M) q, k33 v0 v1 v2 v3 v4 μ = some q → am_run none (am_ar g_mt (d + 2)) 6 (some .boolean) k_Ck_isSound 33 [(0, (2, v0)), (1, (0, v1)), (2, (0, v2)), (3, (0, v3)), (4, (0, v4))] [] μ (am_res 0 q)) : ∀ (v0 : Int) (v1 : Int) (v2 : Int) (v3 : Int) (v4 : Int) (μ : am_M) q, Ck_isSound_L33_b k33 v0 v1 v2 v3 v4 μ = some q → am_run none (am_ar g_mt (d + 2)) 6 (some .boolean) k_Ck_isSound 33 [(0, (2, v0)), (1, (0, v1)), (2, (0, v2)), (3, (0, v3)), (4, (0, v4))] [] μ (am_res 0 q) := by
  intro v0 v1 v2 v3 v4 μ q h
  unfold Ck_isSound_L33_b at h
  refine rn_sls 2 (pc' := 36) (ls' := [(0, (2, v0)), (1, (0, v1)), (2, (0, v2)), (3, (0, v3)), (4, (0, v4))]) (st' := [(0, v3), (0, v4)]) rfl ?_
  refine rn_icmpn (t := 85) rfl rfl rfl rfl h (fun h => ?_) (fun h => ?_)
  · refine rn_sls 1 (pc' := 40) (ls' := [(0, (2, v0)), (1, (0, v1)), (2, (0, v2)), (3, (0, v3)), (4, (0, v4))]) (st' := [(2, v0)]) rfl ?_
    refine rn_gd h (fun ho1 h => ?_)
    refine rn_get ho1 rfl rfl rfl ?_
    refine rn_sls 0 (pc' := 43) (ls' := [(0, (2, v0)), (1, (0, v1)), (2, (0, v2)), (3, (0, v3)), (4, (0, v4))]) (st' := [(2, (v0 + 1))]) rfl ?_
    refine rn_gd h (fun ho2 h => ?_)
    refine rn_get ho2 rfl rfl rfl ?_
    refine rn_sls 0 (pc' := 46) (ls' := [(0, (2, v0)), (1, (0, v1)), (2, (0, v2)), (3, (0, v3)), (4, (0, v4))]) (st' := [(2, ((v0 + 1) + 5))]) rfl ?_
    refine rn_sls 1 (pc' := 48) (ls' := [(0, (2, v0)), (1, (0, v1)), (2, (0, v2)), (3, (0, v3)), (4, (0, v4))]) (st' := [(0, v4), (2, ((v0 + 1) + 5))]) rfl ?_
    refine rn_call 3 0 [(2, ((v0 + 1) + 5)), (0, v4)] (r := []) rfl ⟨rfl, Or.inr ⟨_, rfl, by decide⟩⟩ (by decide) (fun z => absurd z (by decide)) rfl rfl (Nat.le_of_ble_eq_true rfl) h (fun w hw => t_X_at (d + 1) _ _ _ _ hw) (fun a3 μ4 h => ?_)
    refine rn_sls 0 (pc' := 51) (ls' := [(0, (2, v0)), (1, (0, v1)), (2, (0, v2)), (3, (0, v3)), (4, (0, v4))]) (st' := [(0, a3)]) rfl ?_
    refine rn_sls 3 (pc' := 56) (ls' := [(5, (0, a3)), (0, (2, v0)), (1, (0, v1)), (2, (0, v2)), (3, (0, v3)), (4, (0, v4))]) (st' := [(0, (-1)), (0, a3)]) rfl ?_
    refine rn_icmp (t := 79) rfl rfl rfl rfl h (fun h => ?_) (fun h => ?_)
    · exact rn_sub [1, 2, 3, 4, 5] rfl (t_Ck_isSound_B79 d k33 hk33 _ _ _ _ _ _ _ h)
    · refine rn_sls 2 (pc' := 62) (ls' := [(5, (0, a3)), (0, (2, v0)), (1, (0, v1)), (2, (0, v2)), (3, (0, v3)), (4, (0, v4))]) (st' := [(0, v1), (0, a3)]) rfl ?_
      refine rn_icmp (t := 79) rfl rfl rfl rfl h (fun h => ?_) (fun h => ?_)
      · exact rn_sub [1, 2, 3, 4, 5] rfl (t_Ck_isSound_B79 d k33 hk33 _ _ _ _ _ _ _ h)
      · refine rn_sls 1 (pc' := 66) (ls' := [(5, (0, a3)), (0, (2, v0)), (1, (0, v1)), (2, (0, v2)), (3, (0, v3)), (4, (0, v4))]) (st' := [(2, v0)]) rfl ?_
        refine rn_get ho1 rfl rfl rfl ?_
        refine rn_sls 0 (pc' := 69) (ls' := [(5, (0, a3)), (0, (2, v0)), (1, (0, v1)), (2, (0, v2)), (3, (0, v3)), (4, (0, v4))]) (st' := [(2, (v0 + 22))]) rfl ?_
        refine rn_sls 1 (pc' := 71) (ls' := [(5, (0, a3)), (0, (2, v0)), (1, (0, v1)), (2, (0, v2)), (3, (0, v3)), (4, (0, v4))]) (st' := [(0, a3), (2, (v0 + 22))]) rfl ?_
        refine rn_call 3 0 [(2, (v0 + 22)), (0, a3)] (r := []) rfl ⟨rfl, Or.inr ⟨_, rfl, by decide⟩⟩ (by decide) (fun z => absurd z (by decide)) rfl rfl (Nat.le_of_ble_eq_true rfl) h (fun w hw => t_X_at (d + 1) _ _ _ _ hw) (fun a5 μ6 h => ?_)
        refine rn_sls 0 (pc' := 74) (ls' := [(5, (0, a3)), (0, (2, v0)), (1, (0, v1)), (2, (0, v2)), (3, (0, v3)), (4, (0, v4))]) (st' := [(0, a5)]) rfl ?_
        refine rn_ifn (t := 79) rfl rfl rfl rfl h (fun h => ?_) (fun h => ?_)
        · refine rn_sls 2 (pc' := 79) (ls' := [(2, (0, 0)), (5, (0, a3)), (0, (2, v0)), (1, (0, v1)), (3, (0, v3)), (4, (0, v4))]) (st' := []) rfl ?_
          exact rn_sub [2, 3, 0, 4, 5] rfl (t_Ck_isSound_B79 d k33 hk33 _ _ _ _ _ _ _ h)
        · exact rn_sub [1, 2, 3, 4, 5] rfl (t_Ck_isSound_B79 d k33 hk33 _ _ _ _ _ _ _ h)
  · refine rn_sls 1 (pc' := 86) (ls' := [(0, (2, v0)), (1, (0, v1)), (2, (0, v2)), (3, (0, v3)), (4, (0, v4))]) (st' := [(0, v2)]) rfl ?_
    exact rn_iretB rfl rfl rfl h rfl
set_option maxRecDepth 20000 in
theorem t_Ck_isSound_L33 (d : Nat) : ∀ (n : Nat) (v0 : Int) (v1 : Int) (v2 : Int) (v3 : Int) (v4 : Int) (μ : am_M) q, Ck_isSound_L33 n v0 v1 v2 v3 v4 μ = some q → am_run none (am_ar g_mt (d + 2)) 6 (some .boolean) k_Ck_isSound 33 [(0, (2, v0)), (1, (0, v1)), (2, (0, v2)), (3, (0, v3)), (4, (0, v4))] [] μ (am_res 0 q) := by
  intro n
  induction n with
  | zero => intro v0 v1 v2 v3 v4 μ q h; cases h
  | succ n ih => intro v0 v1 v2 v3 v4 μ q h; exact t_Ck_isSound_L33_b d (Ck_isSound_L33 n) ih v0 v1 v2 v3 v4 μ q h
set_option maxRecDepth 20000 in
theorem t_Ck_isSound_B16 (d : Nat) : ∀ (v0 : Int) (v1 : Int) (s0 : Int) (μ : am_M) q, Ck_isSound_B16 v0 v1 s0 μ = some q → am_run none (am_ar g_mt (d + 2)) 6 (some .boolean) k_Ck_isSound 16 [(0, (2, v0)), (1, (0, v1))] [(0, s0)] μ (am_res 0 q) := by
  intro v0 v1 s0 μ q h
  unfold Ck_isSound_B16 at h
  refine rn_sls 3 (pc' := 19) (ls' := [(2, (0, s0)), (0, (2, v0)), (1, (0, v1))]) (st' := [(0, v1), (2, v0)]) rfl ?_
  refine rn_gd h (fun ho1 h => ?_)
  refine rn_call 0 0 [(2, v0), (0, v1)] (r := []) rfl ⟨rfl, Or.inl ⟨_, rfl, by decide⟩⟩ (by decide) (fun _ => ⟨_, rfl, ho1⟩) rfl rfl (Nat.le_of_ble_eq_true rfl) h (fun w hw => t_Bi_lineBehind (d + 0) _ _ _ _ hw) (fun a2 μ3 h => ?_)
  refine rn_sls 0 (pc' := 22) (ls' := [(2, (0, s0)), (0, (2, v0)), (1, (0, v1))]) (st' := [(0, a2)]) rfl ?_
  refine rn_sls 2 (pc' := 24) (ls' := [(3, (0, a2)), (2, (0, s0)), (0, (2, v0)), (1, (0, v1))]) (st' := [(2, v0)]) rfl ?_
  refine rn_get ho1 rfl rfl rfl ?_
  refine rn_sls 0 (pc' := 27) (ls' := [(3, (0, a2)), (2, (0, s0)), (0, (2, v0)), (1, (0, v1))]) (st' := [(2, (v0 + 15))]) rfl ?_
  refine rn_sls 1 (pc' := 28) (ls' := [(3, (0, a2)), (2, (0, s0)), (0, (2, v0)), (1, (0, v1))]) (st' := [(0, v1), (2, (v0 + 15))]) rfl ?_
  refine rn_call 3 0 [(2, (v0 + 15)), (0, v1)] (r := []) rfl ⟨rfl, Or.inr ⟨_, rfl, by decide⟩⟩ (by decide) (fun z => absurd z (by decide)) rfl rfl (Nat.le_of_ble_eq_true rfl) h (fun w hw => t_X_at (d + 1) _ _ _ _ hw) (fun a4 μ5 h => ?_)
  refine rn_sls 0 (pc' := 31) (ls' := [(3, (0, a2)), (2, (0, s0)), (0, (2, v0)), (1, (0, v1))]) (st' := [(0, a4)]) rfl ?_
  refine rn_sls 1 (pc' := 33) (ls' := [(4, (0, a4)), (3, (0, a2)), (2, (0, s0)), (0, (2, v0)), (1, (0, v1))]) (st' := []) rfl ?_
  exact rn_sub [3, 4, 2, 1, 0] rfl (t_Ck_isSound_L33 d  am_FU _ _ _ _ _ _ _ h)
set_option maxRecDepth 20000 in
theorem t_Ck_isSound (d : Nat) : ∀ (v0 : Int) (v1 : Int) (μ : am_M) q, Ck_isSound v0 v1 μ = some q → am_ar g_mt (d + 3) 8 [(2, v0), (0, v1)] μ (am_res 0 q) := by
  intro v0 v1 μ q h
  unfold Ck_isSound at h
  refine am_ar_of (d := d + 2) i_Ck_isSound rfl rfl (Nat.le_of_ble_eq_true rfl) ?_
  show am_run none (am_ar g_mt (d + 2)) 6 (some .boolean) k_Ck_isSound 0 [(0, (2, v0)), (1, (0, v1))] [] μ (am_res 0 q)
  refine rn_sls 1 (pc' := 1) (ls' := [(0, (2, v0)), (1, (0, v1))]) (st' := [(2, v0)]) rfl ?_
  refine rn_gd h (fun ho1 h => ?_)
  refine rn_get ho1 rfl rfl rfl ?_
  refine rn_sls 0 (pc' := 4) (ls' := [(0, (2, v0)), (1, (0, v1))]) (st' := [(2, (v0 + 19))]) rfl ?_
  refine rn_sls 1 (pc' := 5) (ls' := [(0, (2, v0)), (1, (0, v1))]) (st' := [(0, v1), (2, (v0 + 19))]) rfl ?_
  refine rn_call 3 0 [(2, (v0 + 19)), (0, v1)] (r := []) rfl ⟨rfl, Or.inr ⟨_, rfl, by decide⟩⟩ (by decide) (fun z => absurd z (by decide)) rfl rfl (Nat.le_of_ble_eq_true rfl) h (fun w hw => t_X_at (d + 1) _ _ _ _ hw) (fun a2 μ3 h => ?_)
  refine rn_sls 0 (pc' := 8) (ls' := [(0, (2, v0)), (1, (0, v1))]) (st' := [(0, a2)]) rfl ?_
  refine rn_ifn (t := 15) rfl rfl rfl rfl h (fun h => ?_) (fun h => ?_)
  · refine rn_sls 1 (pc' := 12) (ls' := [(0, (2, v0)), (1, (0, v1))]) (st' := [(0, 1)]) rfl ?_
    refine rn_goto (t := 16) rfl rfl rfl ?_
    exact rn_sub [0, 1] rfl (t_Ck_isSound_B16 d  _ _ _ _ _ h)
  · refine rn_sls 1 (pc' := 16) (ls' := [(0, (2, v0)), (1, (0, v1))]) (st' := [(0, 0)]) rfl ?_
    exact rn_sub [0, 1] rfl (t_Ck_isSound_B16 d  _ _ _ _ _ h)
set_option maxRecDepth 20000 in
theorem t_Ck_checkAll_B34 (d : Nat) (k2 : Int → Int → am_M → am_O) (hk2 : ∀ (v1 : Int) (v2 : Int) (μ : am_M) q, k2 v1 v2 μ = some q → am_run none (am_ar g_mt (d + 5)) 3 none k_Ck_checkAll 2 [(0, (2, 30)), (1, (2, v1)), (2, (0, v2))] [] μ (am_res 2 q)) : ∀ (v1 : Int) (v2 : Int) (s0 : Int) (s1 : Int) (s2 : Int) (μ : am_M) q, Ck_checkAll_B34 k2 v1 v2 s0 s1 s2 μ = some q → am_run none (am_ar g_mt (d + 5)) 3 none k_Ck_checkAll 34 [(0, (2, 30)), (1, (2, v1)), (2, (0, v2))] [(0, s2), (0, s1), (2, s0)] μ (am_res 2 q) := by
  intro v1 v2 s0 s1 s2 μ q h
  unfold Ck_checkAll_B34 at h
  refine rn_call 3 2 [(2, s0), (0, s1), (0, s2)] (r := []) rfl ⟨rfl, Or.inr ⟨_, rfl, by decide⟩⟩ (by decide) (fun z => absurd z (by decide)) rfl rfl (Nat.le_of_ble_eq_true rfl) h (fun w hw => t_X_put (d + 4) _ _ _ _ _ hw) (fun a1 μ2 h => ?_)
  refine rn_sls 0 (pc' := 37) (ls' := [(0, (2, 30)), (1, (2, v1)), (2, (0, v2))]) (st' := []) rfl ?_
  refine rn_sls 1 (pc' := 40) (ls' := [(2, (0, (w32 (v2 + 1)))), (0, (2, 30)), (1, (2, v1))]) (st' := []) rfl ?_
  refine rn_goto (t := 2) rfl rfl rfl ?_
  exact rn_sub [1, 2, 0] rfl (hk2 _ _ _ _ h)
set_option maxRecDepth 20000 in
theorem t_Ck_checkAll_L2_b (d : Nat) (k2 : Int → Int → am_M → am_O) (hk2 : ∀ (v1 : Int) (v2 : Int) (μ : am_M) q, k2 v1 v2 μ = some q → am_run none (am_ar g_mt (d + 5)) 3 none k_Ck_checkAll 2 [(0, (2, 30)), (1, (2, v1)), (2, (0, v2))] [] μ (am_res 2 q)) : ∀ (v1 : Int) (v2 : Int) (μ : am_M) q, Ck_checkAll_L2_b k2 v1 v2 μ = some q → am_run none (am_ar g_mt (d + 5)) 3 none k_Ck_checkAll 2 [(0, (2, 30)), (1, (2, v1)), (2, (0, v2))] [] μ (am_res 2 q) := by
  intro v1 v2 μ q h
  unfold Ck_checkAll_L2_b at h
  refine rn_sls 2 (pc' := 4) (ls' := [(0, (2, 30)), (1, (2, v1)), (2, (0, v2))]) (st' := [(2, v1), (0, v2)]) rfl ?_
  refine rn_gd h (fun ho1 h => ?_)
  refine rn_get ho1 rfl rfl rfl ?_
  refine rn_sls 0 (pc' := 7) (ls' := [(0, (2, 30)), (1, (2, v1)), (2, (0, v2))]) (st' := [(0, (μ v1 13)), (0, v2)]) rfl ?_
  refine rn_icmpn (t := 43) rfl rfl rfl rfl h (fun h => ?_) (fun h => ?_)
  · refine rn_sls 3 (pc' := 13) (ls' := [(0, (2, 30)), (1, (2, v1)), (2, (0, v2))]) (st' := [(0, v2), (2, v1), (2, 30)]) rfl ?_
    refine rn_call 0 2 [(2, 30), (2, v1), (0, v2)] (r := []) rfl ⟨rfl, Or.inl ⟨_, rfl, by decide⟩⟩ (by decide) (fun _ => ⟨_, rfl, rfl⟩) rfl rfl (Nat.le_of_ble_eq_true rfl) h (fun w hw => t_Ck_checkBill (d + 0) _ _ _ _ hw) (fun a2 μ3 h => ?_)
    refine rn_sls 0 (pc' := 16) (ls' := [(0, (2, 30)), (1, (2, v1)), (2, (0, v2))]) (st' := []) rfl ?_
    refine rn_sls 1 (pc' := 17) (ls' := [(0, (2, 30)), (1, (2, v1)), (2, (0, v2))]) (st' := [(2, v1)]) rfl ?_
    refine rn_get ho1 rfl rfl rfl ?_
    refine rn_sls 0 (pc' := 20) (ls' := [(0, (2, 30)), (1, (2, v1)), (2, (0, v2))]) (st' := [(2, (v1 + 22))]) rfl ?_
    refine rn_sls 3 (pc' := 23) (ls' := [(0, (2, 30)), (1, (2, v1)), (2, (0, v2))]) (st' := [(0, v2), (2, v1), (0, v2), (2, (v1 + 22))]) rfl ?_
    refine rn_call 2 0 [(2, v1), (0, v2)] (r := [(0, v2), (2, (v1 + 22))]) rfl ⟨rfl, Or.inr ⟨_, rfl, by decide⟩⟩ (by decide) (fun z => absurd z (by decide)) rfl rfl (Nat.le_of_ble_eq_true rfl) h (fun w hw => t_Ck_isSound (d + 2) _ _ _ _ hw) (fun a4 μ5 h => ?_)
    refine rn_sls 0 (pc' := 26) (ls' := [(0, (2, 30)), (1, (2, v1)), (2, (0, v2))]) (st' := [(0, a4), (0, v2), (2, (v1 + 22))]) rfl ?_
    refine rn_if (t := 33) rfl rfl rfl rfl h (fun h => ?_) (fun h => ?_)
    · refine rn_sls 1 (pc' := 34) (ls' := [(0, (2, 30)), (1, (2, v1)), (2, (0, v2))]) (st' := [(0, 0), (0, v2), (2, (v1 + 22))]) rfl ?_
      exact rn_sub [0, 1, 2] rfl (t_Ck_checkAll_B34 d k2 hk2 _ _ _ _ _ _ _ h)
    · refine rn_sls 1 (pc' := 30) (ls' := [(0, (2, 30)), (1, (2, v1)), (2, (0, v2))]) (st' := [(0, 1), (0, v2), (2, (v1 + 22))]) rfl ?_
      refine rn_goto (t := 34) rfl rfl rfl ?_
      exact rn_sub [0, 1, 2] rfl (t_Ck_checkAll_B34 d k2 hk2 _ _ _ _ _ _ _ h)
  · exact rn_ret (v := 0) rfl rfl rfl h rfl
set_option maxRecDepth 20000 in
theorem t_Ck_checkAll_L2 (d : Nat) : ∀ (n : Nat) (v1 : Int) (v2 : Int) (μ : am_M) q, Ck_checkAll_L2 n v1 v2 μ = some q → am_run none (am_ar g_mt (d + 5)) 3 none k_Ck_checkAll 2 [(0, (2, 30)), (1, (2, v1)), (2, (0, v2))] [] μ (am_res 2 q) := by
  intro n
  induction n with
  | zero => intro v1 v2 μ q h; cases h
  | succ n ih => intro v1 v2 μ q h; exact t_Ck_checkAll_L2_b d (Ck_checkAll_L2 n) ih v1 v2 μ q h
set_option maxRecDepth 20000 in
theorem t_Ck_checkAll (d : Nat) : ∀ (v1 : Int) (μ : am_M) q, Ck_checkAll v1 μ = some q → am_ar g_mt (d + 6) 6 [(2, 30), (2, v1)] μ (am_res 2 q) := by
  intro v1 μ q h
  unfold Ck_checkAll at h
  refine am_ar_of (d := d + 5) i_Ck_checkAll rfl rfl (Nat.le_of_ble_eq_true rfl) ?_
  show am_run none (am_ar g_mt (d + 5)) 3 none k_Ck_checkAll 0 [(0, (2, 30)), (1, (2, v1))] [] μ (am_res 2 q)
  refine rn_sls 2 (pc' := 2) (ls' := [(2, (0, 0)), (0, (2, 30)), (1, (2, v1))]) (st' := []) rfl ?_
  exact rn_sub [1, 2, 0] rfl (t_Ck_checkAll_L2 d  am_FU _ _ _ _ h)
set_option maxRecDepth 20000 in
theorem t_Ln_add (d : Nat) : ∀ (b : Int) (v1 : Int) (μ : am_M) q, Ln_add b v1 μ = some q → am_ar g_mt (d + 2) 16 [(2, b), (0, v1)] μ (am_res 0 q) := by
  intro b v1 μ q h
  unfold Ln_add at h
  refine am_ar_of (d := d + 1) i_Ln_add rfl rfl (Nat.le_of_ble_eq_true rfl) ?_
  show am_run none (am_ar g_mt (d + 1)) 3 (some .int) k_Ln_add 0 [(0, (2, b)), (1, (0, v1))] [] μ (am_res 0 q)
  refine rn_sls 1 (pc' := 1) (ls' := [(0, (2, b)), (1, (0, v1))]) (st' := [(2, b)]) rfl ?_
  refine rn_gd h (fun ho1 h => ?_)
  refine rn_get ho1 rfl rfl rfl ?_
  refine rn_sls 0 (pc' := 4) (ls' := [(0, (2, b)), (1, (0, v1))]) (st' := [(0, (μ b 10))]) rfl ?_
  refine rn_sls 2 (pc' := 6) (ls' := [(2, (0, (μ b 10))), (0, (2, b)), (1, (0, v1))]) (st' := [(2, b)]) rfl ?_
  refine rn_get ho1 rfl rfl rfl ?_
  refine rn_sls 0 (pc' := 9) (ls' := [(2, (0, (μ b 10))), (0, (2, b)), (1, (0, v1))]) (st' := [(2, (b + 1))]) rfl ?_
  refine rn_sls 2 (pc' := 11) (ls' := [(2, (0, (μ b 10))), (0, (2, b)), (1, (0, v1))]) (st' := [(0, v1), (0, (μ b 10)), (2, (b + 1))]) rfl ?_
  refine rn_call 3 2 [(2, (b + 1)), (0, (μ b 10)), (0, v1)] (r := []) rfl ⟨rfl, Or.inr ⟨_, rfl, by decide⟩⟩ (by decide) (fun z => absurd z (by decide)) rfl rfl (Nat.le_of_ble_eq_true rfl) h (fun w hw => t_X_put (d + 0) _ _ _ _ _ hw) (fun a2 μ3 h => ?_)
  refine rn_sls 0 (pc' := 14) (ls' := [(2, (0, (μ b 10))), (0, (2, b)), (1, (0, v1))]) (st' := []) rfl ?_
  refine rn_sls 1 (pc' := 15) (ls' := [(2, (0, (μ b 10))), (0, (2, b)), (1, (0, v1))]) (st' := [(2, b)]) rfl ?_
  refine rn_get ho1 rfl rfl rfl ?_
  refine rn_sls 0 (pc' := 18) (ls' := [(2, (0, (μ b 10))), (0, (2, b)), (1, (0, v1))]) (st' := [(2, (b + 2))]) rfl ?_
  refine rn_sls 2 (pc' := 20) (ls' := [(2, (0, (μ b 10))), (0, (2, b)), (1, (0, v1))]) (st' := [(0, (-1)), (0, (μ b 10)), (2, (b + 2))]) rfl ?_
  refine rn_call 3 2 [(2, (b + 2)), (0, (μ b 10)), (0, (-1))] (r := []) rfl ⟨rfl, Or.inr ⟨_, rfl, by decide⟩⟩ (by decide) (fun z => absurd z (by decide)) rfl rfl (Nat.le_of_ble_eq_true rfl) h (fun w hw => t_X_put (d + 0) _ _ _ _ _ hw) (fun a4 μ5 h => ?_)
  refine rn_sls 0 (pc' := 23) (ls' := [(2, (0, (μ b 10))), (0, (2, b)), (1, (0, v1))]) (st' := []) rfl ?_
  refine rn_sls 1 (pc' := 24) (ls' := [(2, (0, (μ b 10))), (0, (2, b)), (1, (0, v1))]) (st' := [(2, b)]) rfl ?_
  refine rn_get ho1 rfl rfl rfl ?_
  refine rn_sls 0 (pc' := 27) (ls' := [(2, (0, (μ b 10))), (0, (2, b)), (1, (0, v1))]) (st' := [(2, (b + 3))]) rfl ?_
  refine rn_sls 2 (pc' := 29) (ls' := [(2, (0, (μ b 10))), (0, (2, b)), (1, (0, v1))]) (st' := [(0, (-1)), (0, (μ b 10)), (2, (b + 3))]) rfl ?_
  refine rn_call 3 2 [(2, (b + 3)), (0, (μ b 10)), (0, (-1))] (r := []) rfl ⟨rfl, Or.inr ⟨_, rfl, by decide⟩⟩ (by decide) (fun z => absurd z (by decide)) rfl rfl (Nat.le_of_ble_eq_true rfl) h (fun w hw => t_X_put (d + 0) _ _ _ _ _ hw) (fun a6 μ7 h => ?_)
  refine rn_sls 0 (pc' := 32) (ls' := [(2, (0, (μ b 10))), (0, (2, b)), (1, (0, v1))]) (st' := []) rfl ?_
  refine rn_sls 1 (pc' := 33) (ls' := [(2, (0, (μ b 10))), (0, (2, b)), (1, (0, v1))]) (st' := [(2, b)]) rfl ?_
  refine rn_get ho1 rfl rfl rfl ?_
  refine rn_sls 0 (pc' := 36) (ls' := [(2, (0, (μ b 10))), (0, (2, b)), (1, (0, v1))]) (st' := [(2, (b + 4))]) rfl ?_
  refine rn_sls 2 (pc' := 38) (ls' := [(2, (0, (μ b 10))), (0, (2, b)), (1, (0, v1))]) (st' := [(0, 1), (0, (μ b 10)), (2, (b + 4))]) rfl ?_
  refine rn_call 3 2 [(2, (b + 4)), (0, (μ b 10)), (0, 1)] (r := []) rfl ⟨rfl, Or.inr ⟨_, rfl, by decide⟩⟩ (by decide) (fun z => absurd z (by decide)) rfl rfl (Nat.le_of_ble_eq_true rfl) h (fun w hw => t_X_put (d + 0) _ _ _ _ _ hw) (fun a8 μ9 h => ?_)
  refine rn_sls 0 (pc' := 41) (ls' := [(2, (0, (μ b 10))), (0, (2, b)), (1, (0, v1))]) (st' := []) rfl ?_
  refine rn_sls 1 (pc' := 42) (ls' := [(2, (0, (μ b 10))), (0, (2, b)), (1, (0, v1))]) (st' := [(2, b)]) rfl ?_
  refine rn_get ho1 rfl rfl rfl ?_
  refine rn_sls 0 (pc' := 45) (ls' := [(2, (0, (μ b 10))), (0, (2, b)), (1, (0, v1))]) (st' := [(2, (b + 5))]) rfl ?_
  refine rn_sls 2 (pc' := 47) (ls' := [(2, (0, (μ b 10))), (0, (2, b)), (1, (0, v1))]) (st' := [(0, (-1)), (0, (μ b 10)), (2, (b + 5))]) rfl ?_
  refine rn_call 3 2 [(2, (b + 5)), (0, (μ b 10)), (0, (-1))] (r := []) rfl ⟨rfl, Or.inr ⟨_, rfl, by decide⟩⟩ (by decide) (fun z => absurd z (by decide)) rfl rfl (Nat.le_of_ble_eq_true rfl) h (fun w hw => t_X_put (d + 0) _ _ _ _ _ hw) (fun a10 μ11 h => ?_)
  refine rn_sls 0 (pc' := 50) (ls' := [(2, (0, (μ b 10))), (0, (2, b)), (1, (0, v1))]) (st' := []) rfl ?_
  refine rn_sls 1 (pc' := 51) (ls' := [(2, (0, (μ b 10))), (0, (2, b)), (1, (0, v1))]) (st' := [(2, b)]) rfl ?_
  refine rn_get ho1 rfl rfl rfl ?_
  refine rn_sls 0 (pc' := 54) (ls' := [(2, (0, (μ b 10))), (0, (2, b)), (1, (0, v1))]) (st' := [(2, (b + 6))]) rfl ?_
  refine rn_sls 2 (pc' := 56) (ls' := [(2, (0, (μ b 10))), (0, (2, b)), (1, (0, v1))]) (st' := [(0, (-1)), (0, (μ b 10)), (2, (b + 6))]) rfl ?_
  refine rn_call 3 2 [(2, (b + 6)), (0, (μ b 10)), (0, (-1))] (r := []) rfl ⟨rfl, Or.inr ⟨_, rfl, by decide⟩⟩ (by decide) (fun z => absurd z (by decide)) rfl rfl (Nat.le_of_ble_eq_true rfl) h (fun w hw => t_X_put (d + 0) _ _ _ _ _ hw) (fun a12 μ13 h => ?_)
  refine rn_sls 0 (pc' := 59) (ls' := [(2, (0, (μ b 10))), (0, (2, b)), (1, (0, v1))]) (st' := []) rfl ?_
  refine rn_sls 1 (pc' := 60) (ls' := [(2, (0, (μ b 10))), (0, (2, b)), (1, (0, v1))]) (st' := [(2, b)]) rfl ?_
  refine rn_get ho1 rfl rfl rfl ?_
  refine rn_sls 0 (pc' := 63) (ls' := [(2, (0, (μ b 10))), (0, (2, b)), (1, (0, v1))]) (st' := [(2, (b + 7))]) rfl ?_
  refine rn_sls 2 (pc' := 65) (ls' := [(2, (0, (μ b 10))), (0, (2, b)), (1, (0, v1))]) (st' := [(0, 0), (0, (μ b 10)), (2, (b + 7))]) rfl ?_
  refine rn_call 3 2 [(2, (b + 7)), (0, (μ b 10)), (0, 0)] (r := []) rfl ⟨rfl, Or.inr ⟨_, rfl, by decide⟩⟩ (by decide) (fun z => absurd z (by decide)) rfl rfl (Nat.le_of_ble_eq_true rfl) h (fun w hw => t_X_put (d + 0) _ _ _ _ _ hw) (fun a14 μ15 h => ?_)
  refine rn_sls 0 (pc' := 68) (ls' := [(2, (0, (μ b 10))), (0, (2, b)), (1, (0, v1))]) (st' := []) rfl ?_
  refine rn_sls 1 (pc' := 69) (ls' := [(2, (0, (μ b 10))), (0, (2, b)), (1, (0, v1))]) (st' := [(2, b)]) rfl ?_
  refine rn_get ho1 rfl rfl rfl ?_
  refine rn_sls 0 (pc' := 72) (ls' := [(2, (0, (μ b 10))), (0, (2, b)), (1, (0, v1))]) (st' := [(2, (b + 8))]) rfl ?_
  refine rn_sls 2 (pc' := 74) (ls' := [(2, (0, (μ b 10))), (0, (2, b)), (1, (0, v1))]) (st' := [(2, b), (0, (μ b 10)), (2, (b + 8))]) rfl ?_
  refine rn_get ho1 rfl rfl rfl ?_
  refine rn_sls 0 (pc' := 77) (ls' := [(2, (0, (μ b 10))), (0, (2, b)), (1, (0, v1))]) (st' := [(0, (μ15 b 11)), (0, (μ b 10)), (2, (b + 8))]) rfl ?_
  refine rn_call 3 2 [(2, (b + 8)), (0, (μ b 10)), (0, (μ15 b 11))] (r := []) rfl ⟨rfl, Or.inr ⟨_, rfl, by decide⟩⟩ (by decide) (fun z => absurd z (by decide)) rfl rfl (Nat.le_of_ble_eq_true rfl) h (fun w hw => t_X_put (d + 0) _ _ _ _ _ hw) (fun a16 μ17 h => ?_)
  refine rn_sls 0 (pc' := 80) (ls' := [(2, (0, (μ b 10))), (0, (2, b)), (1, (0, v1))]) (st' := []) rfl ?_
  refine rn_sls 1 (pc' := 81) (ls' := [(2, (0, (μ b 10))), (0, (2, b)), (1, (0, v1))]) (st' := [(2, b)]) rfl ?_
  refine rn_get ho1 rfl rfl rfl ?_
  refine rn_sls 0 (pc' := 84) (ls' := [(2, (0, (μ b 10))), (0, (2, b)), (1, (0, v1))]) (st' := [(2, (b + 9))]) rfl ?_
  refine rn_sls 2 (pc' := 86) (ls' := [(2, (0, (μ b 10))), (0, (2, b)), (1, (0, v1))]) (st' := [(2, b), (0, (μ b 10)), (2, (b + 9))]) rfl ?_
  refine rn_get ho1 rfl rfl rfl ?_
  refine rn_sls 0 (pc' := 89) (ls' := [(2, (0, (μ b 10))), (0, (2, b)), (1, (0, v1))]) (st' := [(0, (μ17 b 11)), (0, (μ b 10)), (2, (b + 9))]) rfl ?_
  refine rn_call 3 2 [(2, (b + 9)), (0, (μ b 10)), (0, (μ17 b 11))] (r := []) rfl ⟨rfl, Or.inr ⟨_, rfl, by decide⟩⟩ (by decide) (fun z => absurd z (by decide)) rfl rfl (Nat.le_of_ble_eq_true rfl) h (fun w hw => t_X_put (d + 0) _ _ _ _ _ hw) (fun a18 μ19 h => ?_)
  refine rn_sls 0 (pc' := 92) (ls' := [(2, (0, (μ b 10))), (0, (2, b)), (1, (0, v1))]) (st' := []) rfl ?_
  refine rn_sls 2 (pc' := 94) (ls' := [(2, (0, (μ b 10))), (0, (2, b)), (1, (0, v1))]) (st' := [(2, b), (2, b)]) rfl ?_
  refine rn_get ho1 rfl rfl rfl ?_
  refine rn_sls 0 (pc' := 97) (ls' := [(2, (0, (μ b 10))), (0, (2, b)), (1, (0, v1))]) (st' := [(0, (μ19 b 10)), (2, b)]) rfl ?_
  refine rn_sls 2 (pc' := 99) (ls' := [(2, (0, (μ b 10))), (0, (2, b)), (1, (0, v1))]) (st' := [(0, (w32 ((μ19 b 10) + 1))), (2, b)]) rfl ?_
  refine rn_put rfl rfl ho1 rfl (Or.inl ⟨rfl, rfl⟩) rfl h (fun μ20 h => ?_)
  refine rn_sls 1 (pc' := 103) (ls' := [(2, (0, (μ b 10))), (0, (2, b)), (1, (0, v1))]) (st' := [(0, (μ b 10))]) rfl ?_
  exact rn_ireti rfl rfl rfl h rfl
set_option maxRecDepth 20000 in
theorem t_Ln_addCode (d : Nat) : ∀ (b : Int) (v1 : Int) (v2 : Int) (μ : am_M) q, Ln_addCode b v1 v2 μ = some q → am_ar g_mt (d + 2) 17 [(2, b), (0, v1), (0, v2)] μ (am_res 2 q) := by
  intro b v1 v2 μ q h
  unfold Ln_addCode at h
  refine am_ar_of (d := d + 1) i_Ln_addCode rfl rfl (Nat.le_of_ble_eq_true rfl) ?_
  show am_run none (am_ar g_mt (d + 1)) 3 none k_Ln_addCode 0 [(0, (2, b)), (1, (0, v1)), (2, (0, v2))] [] μ (am_res 2 q)
  refine rn_sls 1 (pc' := 1) (ls' := [(0, (2, b)), (1, (0, v1)), (2, (0, v2))]) (st' := [(2, b)]) rfl ?_
  refine rn_gd h (fun ho1 h => ?_)
  refine rn_get ho1 rfl rfl rfl ?_
  refine rn_sls 0 (pc' := 4) (ls' := [(0, (2, b)), (1, (0, v1)), (2, (0, v2))]) (st' := [(0, (μ b 11))]) rfl ?_
  refine rn_sls 1 (pc' := 5) (ls' := [(0, (2, b)), (1, (0, v1)), (2, (0, v2))]) (st' := [(2, b), (0, (μ b 11))]) rfl ?_
  refine rn_get ho1 rfl rfl rfl ?_
  refine rn_sls 0 (pc' := 8) (ls' := [(0, (2, b)), (1, (0, v1)), (2, (0, v2))]) (st' := [(2, (b + 10)), (0, (μ b 11))]) rfl ?_
  refine rn_len rfl rfl rfl h (fun a2 h => ?_)
  refine rn_icmpn (t := 57) rfl rfl rfl rfl h (fun h => ?_) (fun h => ?_)
  · refine rn_sls 1 (pc' := 13) (ls' := [(0, (2, b)), (1, (0, v1)), (2, (0, v2))]) (st' := [(2, b)]) rfl ?_
    refine rn_get ho1 rfl rfl rfl ?_
    refine rn_sls 0 (pc' := 16) (ls' := [(0, (2, b)), (1, (0, v1)), (2, (0, v2))]) (st' := [(2, (b + 10))]) rfl ?_
    refine rn_sls 1 (pc' := 17) (ls' := [(0, (2, b)), (1, (0, v1)), (2, (0, v2))]) (st' := [(2, b), (2, (b + 10))]) rfl ?_
    refine rn_get ho1 rfl rfl rfl ?_
    refine rn_sls 0 (pc' := 20) (ls' := [(0, (2, b)), (1, (0, v1)), (2, (0, v2))]) (st' := [(0, (μ b 11)), (2, (b + 10))]) rfl ?_
    refine rn_sls 5 (pc' := 27) (ls' := [(0, (2, b)), (1, (0, v1)), (2, (0, v2))]) (st' := [(0, (w32 (v1 + (w32 (v2 * 128))))), (0, (μ b 11)), (2, (b + 10))]) rfl ?_
    refine rn_call 3 2 [(2, (b + 10)), (0, (μ b 11)), (0, (w32 (v1 + (w32 (v2 * 128)))))] (r := []) rfl ⟨rfl, Or.inr ⟨_, rfl, by decide⟩⟩ (by decide) (fun z => absurd z (by decide)) rfl rfl (Nat.le_of_ble_eq_true rfl) h (fun w hw => t_X_put (d + 0) _ _ _ _ _ hw) (fun a3 μ4 h => ?_)
    refine rn_sls 0 (pc' := 30) (ls' := [(0, (2, b)), (1, (0, v1)), (2, (0, v2))]) (st' := []) rfl ?_
    refine rn_sls 2 (pc' := 32) (ls' := [(0, (2, b)), (1, (0, v1)), (2, (0, v2))]) (st' := [(2, b), (2, b)]) rfl ?_
    refine rn_get ho1 rfl rfl rfl ?_
    refine rn_sls 0 (pc' := 35) (ls' := [(0, (2, b)), (1, (0, v1)), (2, (0, v2))]) (st' := [(0, (μ4 b 11)), (2, b)]) rfl ?_
    refine rn_sls 2 (pc' := 37) (ls' := [(0, (2, b)), (1, (0, v1)), (2, (0, v2))]) (st' := [(0, (w32 ((μ4 b 11) + 1))), (2, b)]) rfl ?_
    refine rn_put rfl rfl ho1 rfl (Or.inl ⟨rfl, rfl⟩) rfl h (fun μ5 h => ?_)
    refine rn_sls 1 (pc' := 41) (ls' := [(0, (2, b)), (1, (0, v1)), (2, (0, v2))]) (st' := [(2, b)]) rfl ?_
    refine rn_get ho1 rfl rfl rfl ?_
    refine rn_sls 0 (pc' := 44) (ls' := [(0, (2, b)), (1, (0, v1)), (2, (0, v2))]) (st' := [(2, (b + 9))]) rfl ?_
    refine rn_sls 1 (pc' := 45) (ls' := [(0, (2, b)), (1, (0, v1)), (2, (0, v2))]) (st' := [(2, b), (2, (b + 9))]) rfl ?_
    refine rn_get ho1 rfl rfl rfl ?_
    refine rn_sls 0 (pc' := 48) (ls' := [(0, (2, b)), (1, (0, v1)), (2, (0, v2))]) (st' := [(0, (μ5 b 10)), (2, (b + 9))]) rfl ?_
    refine rn_sls 3 (pc' := 51) (ls' := [(0, (2, b)), (1, (0, v1)), (2, (0, v2))]) (st' := [(2, b), (0, (w32 ((μ5 b 10) - 1))), (2, (b + 9))]) rfl ?_
    refine rn_get ho1 rfl rfl rfl ?_
    refine rn_sls 0 (pc' := 54) (ls' := [(0, (2, b)), (1, (0, v1)), (2, (0, v2))]) (st' := [(0, (μ5 b 11)), (0, (w32 ((μ5 b 10) - 1))), (2, (b + 9))]) rfl ?_
    refine rn_call 3 2 [(2, (b + 9)), (0, (w32 ((μ5 b 10) - 1))), (0, (μ5 b 11))] (r := []) rfl ⟨rfl, Or.inr ⟨_, rfl, by decide⟩⟩ (by decide) (fun z => absurd z (by decide)) rfl rfl (Nat.le_of_ble_eq_true rfl) h (fun w hw => t_X_put (d + 0) _ _ _ _ _ hw) (fun a6 μ7 h => ?_)
    refine rn_sls 0 (pc' := 57) (ls' := [(0, (2, b)), (1, (0, v1)), (2, (0, v2))]) (st' := []) rfl ?_
    exact rn_ret (v := 0) rfl rfl rfl h rfl
  · exact rn_ret (v := 0) rfl rfl rfl h rfl
set_option maxRecDepth 20000 in
theorem t_Ln_isSlip (d : Nat) : ∀ (b : Int) (v1 : Int) (v2 : Int) (μ : am_M) q, Ln_isSlip b v1 v2 μ = some q → am_ar g_mt (d + 3) 20 [(2, b), (0, v1), (0, v2)] μ (am_res 0 q) := by
  intro b v1 v2 μ q h
  unfold Ln_isSlip at h
  refine am_ar_of (d := d + 2) i_Ln_isSlip rfl rfl (Nat.le_of_ble_eq_true rfl) ?_
  show am_run none (am_ar g_mt (d + 2)) 3 (some .boolean) k_Ln_isSlip 0 [(0, (2, b)), (1, (0, v1)), (2, (0, v2))] [] μ (am_res 0 q)
  refine rn_sls 2 (pc' := 2) (ls' := [(0, (2, b)), (1, (0, v1)), (2, (0, v2))]) (st' := [(0, v1), (2, b)]) rfl ?_
  refine rn_gd h (fun ho1 h => ?_)
  refine rn_call 0 0 [(2, b), (0, v1)] (r := []) rfl ⟨rfl, Or.inl ⟨_, rfl, by decide⟩⟩ (by decide) (fun _ => ⟨_, rfl, ho1⟩) rfl rfl (Nat.le_of_ble_eq_true rfl) h (fun w hw => t_Ln_codeKind (d + 0) _ _ _ _ hw) (fun a2 μ3 h => ?_)
  refine rn_sls 0 (pc' := 5) (ls' := [(0, (2, b)), (1, (0, v1)), (2, (0, v2))]) (st' := [(0, a2)]) rfl ?_
  refine rn_sls 1 (pc' := 6) (ls' := [(0, (2, b)), (1, (0, v1)), (2, (0, v2))]) (st' := [(0, 2), (0, a2)]) rfl ?_
  refine rn_icmpn (t := 22) rfl rfl rfl rfl h (fun h => ?_) (fun h => ?_)
  · refine rn_sls 2 (pc' := 11) (ls' := [(0, (2, b)), (1, (0, v1)), (2, (0, v2))]) (st' := [(0, v1), (2, b)]) rfl ?_
    refine rn_call 0 0 [(2, b), (0, v1)] (r := []) rfl ⟨rfl, Or.inl ⟨_, rfl, by decide⟩⟩ (by decide) (fun _ => ⟨_, rfl, ho1⟩) rfl rfl (Nat.le_of_ble_eq_true rfl) h (fun w hw => t_Ln_codeNumber (d + 0) _ _ _ _ hw) (fun a4 μ5 h => ?_)
    refine rn_sls 0 (pc' := 14) (ls' := [(0, (2, b)), (1, (0, v1)), (2, (0, v2))]) (st' := [(0, a4)]) rfl ?_
    refine rn_sls 1 (pc' := 15) (ls' := [(0, (2, b)), (1, (0, v1)), (2, (0, v2))]) (st' := [(0, v2), (0, a4)]) rfl ?_
    refine rn_icmpn (t := 22) rfl rfl rfl rfl h (fun h => ?_) (fun h => ?_)
    · refine rn_sls 1 (pc' := 19) (ls' := [(0, (2, b)), (1, (0, v1)), (2, (0, v2))]) (st' := [(0, 1)]) rfl ?_
      refine rn_goto (t := 23) rfl rfl rfl ?_
      exact rn_iretb rfl rfl rfl (Or.inr rfl) h rfl
    · refine rn_sls 1 (pc' := 23) (ls' := [(0, (2, b)), (1, (0, v1)), (2, (0, v2))]) (st' := [(0, 0)]) rfl ?_
      exact rn_iretb rfl rfl rfl (Or.inl rfl) h rfl
  · refine rn_sls 1 (pc' := 23) (ls' := [(0, (2, b)), (1, (0, v1)), (2, (0, v2))]) (st' := [(0, 0)]) rfl ?_
    exact rn_iretb rfl rfl rfl (Or.inl rfl) h rfl
set_option maxRecDepth 20000 in
theorem t_Ln_timesRead_B43 (d : Nat) (k21 : Int → Int → Int → Int → am_M → am_O) (hk21 : ∀ (b : Int) (v2 : Int) (v3 : Int) (v4 : Int) (μ : am_M) q, k21 b v2 v3 v4 μ = some q → am_run none (am_ar g_mt (d + 2)) 5 (some .int) k_Ln_timesRead 21 [(0, (2, b)), (2, (0, v2)), (3, (0, v3)), (4, (0, v4))] [] μ (am_res 0 q)) : ∀ (b : Int) (v3 : Int) (v4 : Int) (s0 : Int) (s1 : Int) (μ : am_M) q, Ln_timesRead_B43 k21 b v3 v4 s0 s1 μ = some q → am_run none (am_ar g_mt (d + 2)) 5 (some .int) k_Ln_timesRead 43 [(0, (2, b)), (3, (0, v3)), (4, (0, v4))] [(0, s1), (0, s0)] μ (am_res 0 q) := by
  intro b v3 v4 s0 s1 μ q h
  unfold Ln_timesRead_B43 at h
  refine rn_sls 3 (pc' := 48) (ls' := [(4, (0, (w32 (v4 + 1)))), (2, (0, (w32 (s0 + s1)))), (0, (2, b)), (3, (0, v3))]) (st' := []) rfl ?_
  refine rn_goto (t := 21) rfl rfl rfl ?_
  exact rn_sub [2, 1, 3, 0] rfl (hk21 _ _ _ _ _ _ h)
set_option maxRecDepth 20000 in
theorem t_Ln_timesRead_L21_b (d : Nat) (k21 : Int → Int → Int → Int → am_M → am_O) (hk21 : ∀ (b : Int) (v2 : Int) (v3 : Int) (v4 : Int) (μ : am_M) q, k21 b v2 v3 v4 μ = some q → am_run none (am_ar g_mt (d + 2)) 5 (some .int) k_Ln_timesRead 21 [(0, (2, b)), (2, (0, v2)), (3, (0, v3)), (4, (0, v4))] [] μ (am_res 0 q)) : ∀ (b : Int) (v2 : Int) (v3 : Int) (v4 : Int) (μ : am_M) q, Ln_timesRead_L21_b k21 b v2 v3 v4 μ = some q → am_run none (am_ar g_mt (d + 2)) 5 (some .int) k_Ln_timesRead 21 [(0, (2, b)), (2, (0, v2)), (3, (0, v3)), (4, (0, v4))] [] μ (am_res 0 q) := by
  intro b v2 v3 v4 μ q h
  unfold Ln_timesRead_L21_b at h
  refine rn_sls 2 (pc' := 24) (ls' := [(0, (2, b)), (2, (0, v2)), (3, (0, v3)), (4, (0, v4))]) (st' := [(0, v3), (0, v4)]) rfl ?_
  refine rn_icmpn (t := 51) rfl rfl rfl rfl h (fun h => ?_) (fun h => ?_)
  · refine rn_sls 3 (pc' := 31) (ls' := [(0, (2, b)), (2, (0, v2)), (3, (0, v3)), (4, (0, v4))]) (st' := [(0, v4), (2, b), (0, v2)]) rfl ?_
    refine rn_gd h (fun ho1 h => ?_)
    refine rn_call 0 0 [(2, b), (0, v4)] (r := [(0, v2)]) rfl ⟨rfl, Or.inl ⟨_, rfl, by decide⟩⟩ (by decide) (fun _ => ⟨_, rfl, ho1⟩) rfl rfl (Nat.le_of_ble_eq_true rfl) h (fun w hw => t_Ln_codeKind (d + 0) _ _ _ _ hw) (fun a2 μ3 h => ?_)
    refine rn_sls 0 (pc' := 34) (ls' := [(0, (2, b)), (2, (0, v2)), (3, (0, v3)), (4, (0, v4))]) (st' := [(0, a2), (0, v2)]) rfl ?_
    refine rn_sls 1 (pc' := 35) (ls' := [(0, (2, b)), (2, (0, v2)), (3, (0, v3)), (4, (0, v4))]) (st' := [(0, 2), (0, a2), (0, v2)]) rfl ?_
    refine rn_icmpn (t := 42) rfl rfl rfl rfl h (fun h => ?_) (fun h => ?_)
    · refine rn_sls 1 (pc' := 39) (ls' := [(0, (2, b)), (2, (0, v2)), (3, (0, v3)), (4, (0, v4))]) (st' := [(0, 1), (0, v2)]) rfl ?_
      refine rn_goto (t := 43) rfl rfl rfl ?_
      exact rn_sub [0, 2, 3] rfl (t_Ln_timesRead_B43 d k21 hk21 _ _ _ _ _ _ _ h)
    · refine rn_sls 1 (pc' := 43) (ls' := [(0, (2, b)), (2, (0, v2)), (3, (0, v3)), (4, (0, v4))]) (st' := [(0, 0), (0, v2)]) rfl ?_
      exact rn_sub [0, 2, 3] rfl (t_Ln_timesRead_B43 d k21 hk21 _ _ _ _ _ _ _ h)
  · refine rn_sls 1 (pc' := 52) (ls' := [(0, (2, b)), (2, (0, v2)), (3, (0, v3)), (4, (0, v4))]) (st' := [(0, v2)]) rfl ?_
    exact rn_ireti rfl rfl rfl h rfl
set_option maxRecDepth 20000 in
theorem t_Ln_timesRead_L21 (d : Nat) : ∀ (n : Nat) (b : Int) (v2 : Int) (v3 : Int) (v4 : Int) (μ : am_M) q, Ln_timesRead_L21 n b v2 v3 v4 μ = some q → am_run none (am_ar g_mt (d + 2)) 5 (some .int) k_Ln_timesRead 21 [(0, (2, b)), (2, (0, v2)), (3, (0, v3)), (4, (0, v4))] [] μ (am_res 0 q) := by
  intro n
  induction n with
  | zero => intro b v2 v3 v4 μ q h; cases h
  | succ n ih => intro b v2 v3 v4 μ q h; exact t_Ln_timesRead_L21_b d (Ln_timesRead_L21 n) ih b v2 v3 v4 μ q h
set_option maxRecDepth 20000 in
theorem t_Ln_timesRead (d : Nat) : ∀ (b : Int) (v1 : Int) (μ : am_M) q, Ln_timesRead b v1 μ = some q → am_ar g_mt (d + 3) 21 [(2, b), (0, v1)] μ (am_res 0 q) := by
  intro b v1 μ q h
  unfold Ln_timesRead at h
  refine am_ar_of (d := d + 2) i_Ln_timesRead rfl rfl (Nat.le_of_ble_eq_true rfl) ?_
  show am_run none (am_ar g_mt (d + 2)) 5 (some .int) k_Ln_timesRead 0 [(0, (2, b)), (1, (0, v1))] [] μ (am_res 0 q)
  refine rn_sls 3 (pc' := 3) (ls' := [(2, (0, 0)), (0, (2, b)), (1, (0, v1))]) (st' := [(2, b)]) rfl ?_
  refine rn_gd h (fun ho1 h => ?_)
  refine rn_get ho1 rfl rfl rfl ?_
  refine rn_sls 0 (pc' := 6) (ls' := [(2, (0, 0)), (0, (2, b)), (1, (0, v1))]) (st' := [(2, (b + 9))]) rfl ?_
  refine rn_sls 1 (pc' := 7) (ls' := [(2, (0, 0)), (0, (2, b)), (1, (0, v1))]) (st' := [(0, v1), (2, (b + 9))]) rfl ?_
  refine rn_call 3 0 [(2, (b + 9)), (0, v1)] (r := []) rfl ⟨rfl, Or.inr ⟨_, rfl, by decide⟩⟩ (by decide) (fun z => absurd z (by decide)) rfl rfl (Nat.le_of_ble_eq_true rfl) h (fun w hw => t_X_at (d + 1) _ _ _ _ hw) (fun a2 μ3 h => ?_)
  refine rn_sls 0 (pc' := 10) (ls' := [(2, (0, 0)), (0, (2, b)), (1, (0, v1))]) (st' := [(0, a2)]) rfl ?_
  refine rn_sls 2 (pc' := 12) (ls' := [(3, (0, a2)), (2, (0, 0)), (0, (2, b)), (1, (0, v1))]) (st' := [(2, b)]) rfl ?_
  refine rn_get ho1 rfl rfl rfl ?_
  refine rn_sls 0 (pc' := 15) (ls' := [(3, (0, a2)), (2, (0, 0)), (0, (2, b)), (1, (0, v1))]) (st' := [(2, (b + 8))]) rfl ?_
  refine rn_sls 1 (pc' := 16) (ls' := [(3, (0, a2)), (2, (0, 0)), (0, (2, b)), (1, (0, v1))]) (st' := [(0, v1), (2, (b + 8))]) rfl ?_
  refine rn_call 3 0 [(2, (b + 8)), (0, v1)] (r := []) rfl ⟨rfl, Or.inr ⟨_, rfl, by decide⟩⟩ (by decide) (fun z => absurd z (by decide)) rfl rfl (Nat.le_of_ble_eq_true rfl) h (fun w hw => t_X_at (d + 1) _ _ _ _ hw) (fun a4 μ5 h => ?_)
  refine rn_sls 0 (pc' := 19) (ls' := [(3, (0, a2)), (2, (0, 0)), (0, (2, b)), (1, (0, v1))]) (st' := [(0, a4)]) rfl ?_
  refine rn_sls 1 (pc' := 21) (ls' := [(4, (0, a4)), (3, (0, a2)), (2, (0, 0)), (0, (2, b)), (1, (0, v1))]) (st' := []) rfl ?_
  exact rn_sub [3, 2, 1, 0] rfl (t_Ln_timesRead_L21 d  am_FU _ _ _ _ _ _ h)
set_option maxRecDepth 20000 in
theorem t_Ln_timesRead__B45 (d : Nat) (k22 : Int → Int → Int → Int → Int → am_M → am_O) (hk22 : ∀ (b : Int) (v2 : Int) (v3 : Int) (v4 : Int) (v5 : Int) (μ : am_M) q, k22 b v2 v3 v4 v5 μ = some q → am_run none (am_ar g_mt (d + 3)) 6 (some .int) k_Ln_timesRead_ 22 [(0, (2, b)), (2, (0, v2)), (3, (0, v3)), (4, (0, v4)), (5, (0, v5))] [] μ (am_res 0 q)) : ∀ (b : Int) (v2 : Int) (v4 : Int) (v5 : Int) (s0 : Int) (s1 : Int) (μ : am_M) q, Ln_timesRead__B45 k22 b v2 v4 v5 s0 s1 μ = some q → am_run none (am_ar g_mt (d + 3)) 6 (some .int) k_Ln_timesRead_ 45 [(0, (2, b)), (2, (0, v2)), (4, (0, v4)), (5, (0, v5))] [(0, s1), (0, s0)] μ (am_res 0 q) := by
  intro b v2 v4 v5 s0 s1 μ q h
  unfold Ln_timesRead__B45 at h
  refine rn_sls 3 (pc' := 50) (ls' := [(5, (0, (w32 (v5 + 1)))), (3, (0, (w32 (s0 + s1)))), (0, (2, b)), (2, (0, v2)), (4, (0, v4))]) (st' := []) rfl ?_
  refine rn_goto (t := 22) rfl rfl rfl ?_
  exact rn_sub [2, 3, 1, 4, 0] rfl (hk22 _ _ _ _ _ _ _ h)
set_option maxRecDepth 20000 in
theorem t_Ln_timesRead__L22_b (d : Nat) (k22 : Int → Int → Int → Int → Int → am_M → am_O) (hk22 : ∀ (b : Int) (v2 : Int) (v3 : Int) (v4 : Int) (v5 : Int) (μ : am_M) q, k22 b v2 v3 v4 v5 μ = some q → am_run none (am_ar g_mt (d + 3)) 6 (some .int) k_Ln_timesRead_ 22 [(0, (2, b)), (2, (0, v2)), (3, (0, v3)), (4, (0, v4)), (5, (0, v5))] [] μ (am_res 0 q)) : ∀ (b : Int) (v2 : Int) (v3 : Int) (v4 : Int) (v5 : Int) (μ : am_M) q, Ln_timesRead__L22_b k22 b v2 v3 v4 v5 μ = some q → am_run none (am_ar g_mt (d + 3)) 6 (some .int) k_Ln_timesRead_ 22 [(0, (2, b)), (2, (0, v2)), (3, (0, v3)), (4, (0, v4)), (5, (0, v5))] [] μ (am_res 0 q) := by
  intro b v2 v3 v4 v5 μ q h
  unfold Ln_timesRead__L22_b at h
  refine rn_sls 2 (pc' := 26) (ls' := [(0, (2, b)), (2, (0, v2)), (3, (0, v3)), (4, (0, v4)), (5, (0, v5))]) (st' := [(0, v4), (0, v5)]) rfl ?_
  refine rn_icmpn (t := 53) rfl rfl rfl rfl h (fun h => ?_) (fun h => ?_)
  · refine rn_sls 4 (pc' := 34) (ls' := [(0, (2, b)), (2, (0, v2)), (3, (0, v3)), (4, (0, v4)), (5, (0, v5))]) (st' := [(0, v2), (0, v5), (2, b), (0, v3)]) rfl ?_
    refine rn_gd h (fun ho1 h => ?_)
    refine rn_call 0 0 [(2, b), (0, v5), (0, v2)] (r := [(0, v3)]) rfl ⟨rfl, Or.inl ⟨_, rfl, by decide⟩⟩ (by decide) (fun _ => ⟨_, rfl, ho1⟩) rfl rfl (Nat.le_of_ble_eq_true rfl) h (fun w hw => t_Ln_isSlip (d + 0) _ _ _ _ _ hw) (fun a2 μ3 h => ?_)
    refine rn_sls 0 (pc' := 37) (ls' := [(0, (2, b)), (2, (0, v2)), (3, (0, v3)), (4, (0, v4)), (5, (0, v5))]) (st' := [(0, a2), (0, v3)]) rfl ?_
    refine rn_if (t := 44) rfl rfl rfl rfl h (fun h => ?_) (fun h => ?_)
    · refine rn_sls 1 (pc' := 45) (ls' := [(0, (2, b)), (2, (0, v2)), (3, (0, v3)), (4, (0, v4)), (5, (0, v5))]) (st' := [(0, 0), (0, v3)]) rfl ?_
      exact rn_sub [0, 1, 3, 4] rfl (t_Ln_timesRead__B45 d k22 hk22 _ _ _ _ _ _ _ _ h)
    · refine rn_sls 1 (pc' := 41) (ls' := [(0, (2, b)), (2, (0, v2)), (3, (0, v3)), (4, (0, v4)), (5, (0, v5))]) (st' := [(0, 1), (0, v3)]) rfl ?_
      refine rn_goto (t := 45) rfl rfl rfl ?_
      exact rn_sub [0, 1, 3, 4] rfl (t_Ln_timesRead__B45 d k22 hk22 _ _ _ _ _ _ _ _ h)
  · refine rn_sls 1 (pc' := 54) (ls' := [(0, (2, b)), (2, (0, v2)), (3, (0, v3)), (4, (0, v4)), (5, (0, v5))]) (st' := [(0, v3)]) rfl ?_
    exact rn_ireti rfl rfl rfl h rfl
set_option maxRecDepth 20000 in
theorem t_Ln_timesRead__L22 (d : Nat) : ∀ (n : Nat) (b : Int) (v2 : Int) (v3 : Int) (v4 : Int) (v5 : Int) (μ : am_M) q, Ln_timesRead__L22 n b v2 v3 v4 v5 μ = some q → am_run none (am_ar g_mt (d + 3)) 6 (some .int) k_Ln_timesRead_ 22 [(0, (2, b)), (2, (0, v2)), (3, (0, v3)), (4, (0, v4)), (5, (0, v5))] [] μ (am_res 0 q) := by
  intro n
  induction n with
  | zero => intro b v2 v3 v4 v5 μ q h; cases h
  | succ n ih => intro b v2 v3 v4 v5 μ q h; exact t_Ln_timesRead__L22_b d (Ln_timesRead__L22 n) ih b v2 v3 v4 v5 μ q h
set_option maxRecDepth 20000 in
theorem t_Ln_timesRead_ (d : Nat) : ∀ (b : Int) (v1 : Int) (v2 : Int) (μ : am_M) q, Ln_timesRead_ b v1 v2 μ = some q → am_ar g_mt (d + 4) 22 [(2, b), (0, v1), (0, v2)] μ (am_res 0 q) := by
  intro b v1 v2 μ q h
  unfold Ln_timesRead_ at h
  refine am_ar_of (d := d + 3) i_Ln_timesRead_ rfl rfl (Nat.le_of_ble_eq_true rfl) ?_
  show am_run none (am_ar g_mt (d + 3)) 6 (some .int) k_Ln_timesRead_ 0 [(0, (2, b)), (1, (0, v1)), (2, (0, v2))] [] μ (am_res 0 q)
  refine rn_sls 3 (pc' := 3) (ls' := [(3, (0, 0)), (0, (2, b)), (1, (0, v1)), (2, (0, v2))]) (st' := [(2, b)]) rfl ?_
  refine rn_gd h (fun ho1 h => ?_)
  refine rn_get ho1 rfl rfl rfl ?_
  refine rn_sls 0 (pc' := 6) (ls' := [(3, (0, 0)), (0, (2, b)), (1, (0, v1)), (2, (0, v2))]) (st' := [(2, (b + 9))]) rfl ?_
  refine rn_sls 1 (pc' := 7) (ls' := [(3, (0, 0)), (0, (2, b)), (1, (0, v1)), (2, (0, v2))]) (st' := [(0, v1), (2, (b + 9))]) rfl ?_
  refine rn_call 3 0 [(2, (b + 9)), (0, v1)] (r := []) rfl ⟨rfl, Or.inr ⟨_, rfl, by decide⟩⟩ (by decide) (fun z => absurd z (by decide)) rfl rfl (Nat.le_of_ble_eq_true rfl) h (fun w hw => t_X_at (d + 2) _ _ _ _ hw) (fun a2 μ3 h => ?_)
  refine rn_sls 0 (pc' := 10) (ls' := [(3, (0, 0)), (0, (2, b)), (1, (0, v1)), (2, (0, v2))]) (st' := [(0, a2)]) rfl ?_
  refine rn_sls 2 (pc' := 13) (ls' := [(4, (0, a2)), (3, (0, 0)), (0, (2, b)), (1, (0, v1)), (2, (0, v2))]) (st' := [(2, b)]) rfl ?_
  refine rn_get ho1 rfl rfl rfl ?_
  refine rn_sls 0 (pc' := 16) (ls' := [(4, (0, a2)), (3, (0, 0)), (0, (2, b)), (1, (0, v1)), (2, (0, v2))]) (st' := [(2, (b + 8))]) rfl ?_
  refine rn_sls 1 (pc' := 17) (ls' := [(4, (0, a2)), (3, (0, 0)), (0, (2, b)), (1, (0, v1)), (2, (0, v2))]) (st' := [(0, v1), (2, (b + 8))]) rfl ?_
  refine rn_call 3 0 [(2, (b + 8)), (0, v1)] (r := []) rfl ⟨rfl, Or.inr ⟨_, rfl, by decide⟩⟩ (by decide) (fun z => absurd z (by decide)) rfl rfl (Nat.le_of_ble_eq_true rfl) h (fun w hw => t_X_at (d + 2) _ _ _ _ hw) (fun a4 μ5 h => ?_)
  refine rn_sls 0 (pc' := 20) (ls' := [(4, (0, a2)), (3, (0, 0)), (0, (2, b)), (1, (0, v1)), (2, (0, v2))]) (st' := [(0, a4)]) rfl ?_
  refine rn_sls 1 (pc' := 22) (ls' := [(5, (0, a4)), (4, (0, a2)), (3, (0, 0)), (0, (2, b)), (1, (0, v1)), (2, (0, v2))]) (st' := []) rfl ?_
  exact rn_sub [3, 5, 2, 1, 0] rfl (t_Ln_timesRead__L22 d  am_FU _ _ _ _ _ _ _ h)
set_option maxRecDepth 20000 in
theorem t_Mc_stand (d : Nat) : ∀ (b : Int) (μ : am_M) q, Mc_stand b μ = some q → am_ar g_mt (d + 1) 26 [(2, b)] μ (am_res 2 q) := by
  intro b μ q h
  unfold Mc_stand at h
  refine am_ar_of (d := d + 0) i_Mc_stand rfl rfl (Nat.le_of_ble_eq_true rfl) ?_
  show am_run none (am_ar g_mt (d + 0)) 1 none k_Mc_stand 0 [(0, (2, b))] [] μ (am_res 2 q)
  refine rn_sls 2 (pc' := 2) (ls' := [(0, (2, b))]) (st' := [(0, 0), (2, b)]) rfl ?_
  refine rn_gd h (fun ho1 h => ?_)
  refine rn_put rfl rfl ho1 rfl (Or.inl ⟨rfl, rfl⟩) rfl h (fun μ2 h => ?_)
  refine rn_sls 2 (pc' := 7) (ls' := [(0, (2, b))]) (st' := [(0, 0), (2, b)]) rfl ?_
  refine rn_put rfl rfl ho1 rfl (Or.inl ⟨rfl, rfl⟩) rfl h (fun μ3 h => ?_)
  refine rn_sls 2 (pc' := 12) (ls' := [(0, (2, b))]) (st' := [(0, 0), (2, b)]) rfl ?_
  refine rn_put rfl rfl ho1 rfl (Or.inl ⟨rfl, rfl⟩) rfl h (fun μ4 h => ?_)
  refine rn_sls 2 (pc' := 17) (ls' := [(0, (2, b))]) (st' := [(0, 0), (2, b)]) rfl ?_
  refine rn_put rfl rfl ho1 rfl (Or.inl ⟨rfl, rfl⟩) rfl h (fun μ5 h => ?_)
  refine rn_sls 2 (pc' := 22) (ls' := [(0, (2, b))]) (st' := [(0, 0), (2, b)]) rfl ?_
  refine rn_put rfl rfl ho1 rfl (Or.inl ⟨rfl, rfl⟩) rfl h (fun μ6 h => ?_)
  refine rn_sls 2 (pc' := 27) (ls' := [(0, (2, b))]) (st' := [(0, 0), (2, b)]) rfl ?_
  refine rn_put rfl rfl ho1 rfl (Or.inl ⟨rfl, rfl⟩) rfl h (fun μ7 h => ?_)
  refine rn_sls 2 (pc' := 32) (ls' := [(0, (2, b))]) (st' := [(0, 0), (2, b)]) rfl ?_
  refine rn_put rfl rfl ho1 rfl (Or.inl ⟨rfl, rfl⟩) rfl h (fun μ8 h => ?_)
  exact rn_ret (v := 0) rfl rfl rfl h rfl
set_option maxRecDepth 20000 in
theorem t_Mc_become (d : Nat) : ∀ (b : Int) (v1 : Int) (μ : am_M) q, Mc_become b v1 μ = some q → am_ar g_mt (d + 1) 27 [(2, b), (2, v1)] μ (am_res 2 q) := by
  intro b v1 μ q h
  unfold Mc_become at h
  refine am_ar_of (d := d + 0) i_Mc_become rfl rfl (Nat.le_of_ble_eq_true rfl) ?_
  show am_run none (am_ar g_mt (d + 0)) 2 none k_Mc_become 0 [(0, (2, b)), (1, (2, v1))] [] μ (am_res 2 q)
  refine rn_sls 1 (pc' := 1) (ls' := [(0, (2, b)), (1, (2, v1))]) (st' := [(2, v1)]) rfl ?_
  refine rn_gd h (fun ho1 h => ?_)
  refine rn_get ho1 rfl rfl rfl ?_
  refine rn_sls 0 (pc' := 4) (ls' := [(0, (2, b)), (1, (2, v1))]) (st' := [(2, (v1 + 1))]) rfl ?_
  refine rn_sls 2 (pc' := 6) (ls' := [(0, (2, b)), (1, (2, v1))]) (st' := [(2, b), (0, 0), (2, (v1 + 1))]) rfl ?_
  refine rn_gd h (fun ho2 h => ?_)
  refine rn_get ho2 rfl rfl rfl ?_
  refine rn_sls 0 (pc' := 9) (ls' := [(0, (2, b)), (1, (2, v1))]) (st' := [(2, (b + 1)), (0, 0), (2, (v1 + 1))]) rfl ?_
  refine rn_sls 2 (pc' := 11) (ls' := [(0, (2, b)), (1, (2, v1))]) (st' := [(2, b), (0, 0), (2, (b + 1)), (0, 0), (2, (v1 + 1))]) rfl ?_
  refine rn_get ho2 rfl rfl rfl ?_
  refine rn_sls 0 (pc' := 14) (ls' := [(0, (2, b)), (1, (2, v1))]) (st' := [(2, (b + 1)), (0, 0), (2, (b + 1)), (0, 0), (2, (v1 + 1))]) rfl ?_
  refine rn_len rfl rfl rfl h (fun a3 h => ?_)
  refine rn_cpy rfl ⟨rfl, Or.inr ⟨_, rfl, by decide⟩⟩ (Nat.le_of_ble_eq_true rfl) h (fun μ4 h => ?_)
  refine rn_sls 1 (pc' := 19) (ls' := [(0, (2, b)), (1, (2, v1))]) (st' := [(2, v1)]) rfl ?_
  refine rn_get ho1 rfl rfl rfl ?_
  refine rn_sls 0 (pc' := 22) (ls' := [(0, (2, b)), (1, (2, v1))]) (st' := [(2, (v1 + 2))]) rfl ?_
  refine rn_sls 2 (pc' := 24) (ls' := [(0, (2, b)), (1, (2, v1))]) (st' := [(2, b), (0, 0), (2, (v1 + 2))]) rfl ?_
  refine rn_get ho2 rfl rfl rfl ?_
  refine rn_sls 0 (pc' := 27) (ls' := [(0, (2, b)), (1, (2, v1))]) (st' := [(2, (b + 2)), (0, 0), (2, (v1 + 2))]) rfl ?_
  refine rn_sls 2 (pc' := 29) (ls' := [(0, (2, b)), (1, (2, v1))]) (st' := [(2, b), (0, 0), (2, (b + 2)), (0, 0), (2, (v1 + 2))]) rfl ?_
  refine rn_get ho2 rfl rfl rfl ?_
  refine rn_sls 0 (pc' := 32) (ls' := [(0, (2, b)), (1, (2, v1))]) (st' := [(2, (b + 2)), (0, 0), (2, (b + 2)), (0, 0), (2, (v1 + 2))]) rfl ?_
  refine rn_len rfl rfl rfl h (fun a5 h => ?_)
  refine rn_cpy rfl ⟨rfl, Or.inr ⟨_, rfl, by decide⟩⟩ (Nat.le_of_ble_eq_true rfl) h (fun μ6 h => ?_)
  refine rn_sls 1 (pc' := 37) (ls' := [(0, (2, b)), (1, (2, v1))]) (st' := [(2, v1)]) rfl ?_
  refine rn_get ho1 rfl rfl rfl ?_
  refine rn_sls 0 (pc' := 40) (ls' := [(0, (2, b)), (1, (2, v1))]) (st' := [(2, (v1 + 3))]) rfl ?_
  refine rn_sls 2 (pc' := 42) (ls' := [(0, (2, b)), (1, (2, v1))]) (st' := [(2, b), (0, 0), (2, (v1 + 3))]) rfl ?_
  refine rn_get ho2 rfl rfl rfl ?_
  refine rn_sls 0 (pc' := 45) (ls' := [(0, (2, b)), (1, (2, v1))]) (st' := [(2, (b + 3)), (0, 0), (2, (v1 + 3))]) rfl ?_
  refine rn_sls 2 (pc' := 47) (ls' := [(0, (2, b)), (1, (2, v1))]) (st' := [(2, b), (0, 0), (2, (b + 3)), (0, 0), (2, (v1 + 3))]) rfl ?_
  refine rn_get ho2 rfl rfl rfl ?_
  refine rn_sls 0 (pc' := 50) (ls' := [(0, (2, b)), (1, (2, v1))]) (st' := [(2, (b + 3)), (0, 0), (2, (b + 3)), (0, 0), (2, (v1 + 3))]) rfl ?_
  refine rn_len rfl rfl rfl h (fun a7 h => ?_)
  refine rn_cpy rfl ⟨rfl, Or.inr ⟨_, rfl, by decide⟩⟩ (Nat.le_of_ble_eq_true rfl) h (fun μ8 h => ?_)
  refine rn_sls 2 (pc' := 56) (ls' := [(0, (2, b)), (1, (2, v1))]) (st' := [(2, v1), (2, b)]) rfl ?_
  refine rn_get ho1 rfl rfl rfl ?_
  refine rn_sls 0 (pc' := 59) (ls' := [(0, (2, b)), (1, (2, v1))]) (st' := [(0, (μ8 v1 5)), (2, b)]) rfl ?_
  refine rn_put rfl rfl ho2 rfl (Or.inl ⟨rfl, rfl⟩) rfl h (fun μ9 h => ?_)
  refine rn_sls 2 (pc' := 64) (ls' := [(0, (2, b)), (1, (2, v1))]) (st' := [(2, v1), (2, b)]) rfl ?_
  refine rn_get ho1 rfl rfl rfl ?_
  refine rn_sls 0 (pc' := 67) (ls' := [(0, (2, b)), (1, (2, v1))]) (st' := [(0, (μ9 v1 6)), (2, b)]) rfl ?_
  refine rn_put rfl rfl ho2 rfl (Or.inl ⟨rfl, rfl⟩) rfl h (fun μ10 h => ?_)
  refine rn_sls 2 (pc' := 72) (ls' := [(0, (2, b)), (1, (2, v1))]) (st' := [(2, v1), (2, b)]) rfl ?_
  refine rn_get ho1 rfl rfl rfl ?_
  refine rn_sls 0 (pc' := 75) (ls' := [(0, (2, b)), (1, (2, v1))]) (st' := [(0, (μ10 v1 7)), (2, b)]) rfl ?_
  refine rn_put rfl rfl ho2 rfl (Or.inl ⟨rfl, rfl⟩) rfl h (fun μ11 h => ?_)
  refine rn_sls 2 (pc' := 80) (ls' := [(0, (2, b)), (1, (2, v1))]) (st' := [(2, v1), (2, b)]) rfl ?_
  refine rn_get ho1 rfl rfl rfl ?_
  refine rn_sls 0 (pc' := 83) (ls' := [(0, (2, b)), (1, (2, v1))]) (st' := [(0, (μ11 v1 8)), (2, b)]) rfl ?_
  refine rn_put rfl rfl ho2 rfl (Or.inl ⟨rfl, rfl⟩) rfl h (fun μ12 h => ?_)
  refine rn_sls 2 (pc' := 88) (ls' := [(0, (2, b)), (1, (2, v1))]) (st' := [(2, v1), (2, b)]) rfl ?_
  refine rn_get ho1 rfl rfl rfl ?_
  refine rn_sls 0 (pc' := 91) (ls' := [(0, (2, b)), (1, (2, v1))]) (st' := [(0, (μ12 v1 9)), (2, b)]) rfl ?_
  refine rn_put rfl rfl ho2 rfl (Or.inl ⟨rfl, rfl⟩) rfl h (fun μ13 h => ?_)
  refine rn_sls 2 (pc' := 96) (ls' := [(0, (2, b)), (1, (2, v1))]) (st' := [(2, v1), (2, b)]) rfl ?_
  refine rn_get ho1 rfl rfl rfl ?_
  refine rn_sls 0 (pc' := 99) (ls' := [(0, (2, b)), (1, (2, v1))]) (st' := [(0, (μ13 v1 10)), (2, b)]) rfl ?_
  refine rn_put rfl rfl ho2 rfl (Or.inl ⟨rfl, rfl⟩) rfl h (fun μ14 h => ?_)
  refine rn_sls 2 (pc' := 104) (ls' := [(0, (2, b)), (1, (2, v1))]) (st' := [(2, v1), (2, b)]) rfl ?_
  refine rn_get ho1 rfl rfl rfl ?_
  refine rn_sls 0 (pc' := 107) (ls' := [(0, (2, b)), (1, (2, v1))]) (st' := [(0, (μ14 v1 11)), (2, b)]) rfl ?_
  refine rn_put rfl rfl ho2 rfl (Or.inl ⟨rfl, rfl⟩) rfl h (fun μ15 h => ?_)
  refine rn_sls 2 (pc' := 112) (ls' := [(0, (2, b)), (1, (2, v1))]) (st' := [(2, v1), (2, b)]) rfl ?_
  refine rn_get ho1 rfl rfl rfl ?_
  refine rn_sls 0 (pc' := 115) (ls' := [(0, (2, b)), (1, (2, v1))]) (st' := [(0, (μ15 v1 12)), (2, b)]) rfl ?_
  refine rn_put rfl rfl ho2 rfl (Or.inl ⟨rfl, rfl⟩) rfl h (fun μ16 h => ?_)
  refine rn_sls 2 (pc' := 120) (ls' := [(0, (2, b)), (1, (2, v1))]) (st' := [(2, v1), (2, b)]) rfl ?_
  refine rn_get ho1 rfl rfl rfl ?_
  refine rn_sls 0 (pc' := 123) (ls' := [(0, (2, b)), (1, (2, v1))]) (st' := [(0, (μ16 v1 13)), (2, b)]) rfl ?_
  refine rn_put rfl rfl ho2 rfl (Or.inl ⟨rfl, rfl⟩) rfl h (fun μ17 h => ?_)
  exact rn_ret (v := 0) rfl rfl rfl h rfl
set_option maxRecDepth 20000 in
theorem t_Mc_take (d : Nat) : ∀ (b : Int) (v1 : Int) (v2 : Int) (v3 : Int) (v4 : Int) (μ : am_M) q, Mc_take b v1 v2 v3 v4 μ = some q → am_ar g_mt (d + 2) 28 [(2, b), (0, v1), (0, v2), (0, v3), (0, v4)] μ (am_res 2 q) := by
  intro b v1 v2 v3 v4 μ q h
  unfold Mc_take at h
  refine am_ar_of (d := d + 1) i_Mc_take rfl rfl (Nat.le_of_ble_eq_true rfl) ?_
  show am_run none (am_ar g_mt (d + 1)) 5 none k_Mc_take 0 [(0, (2, b)), (1, (0, v1)), (2, (0, v2)), (3, (0, v3)), (4, (0, v4))] [] μ (am_res 2 q)
  refine rn_sls 1 (pc' := 1) (ls' := [(0, (2, b)), (1, (0, v1)), (2, (0, v2)), (3, (0, v3)), (4, (0, v4))]) (st' := [(2, b)]) rfl ?_
  refine rn_gd h (fun ho1 h => ?_)
  refine rn_get ho1 rfl rfl rfl ?_
  refine rn_sls 0 (pc' := 4) (ls' := [(0, (2, b)), (1, (0, v1)), (2, (0, v2)), (3, (0, v3)), (4, (0, v4))]) (st' := [(2, (b + 3))]) rfl ?_
  refine rn_sls 2 (pc' := 6) (ls' := [(0, (2, b)), (1, (0, v1)), (2, (0, v2)), (3, (0, v3)), (4, (0, v4))]) (st' := [(0, v1), (0, 0), (2, (b + 3))]) rfl ?_
  refine rn_call 3 2 [(2, (b + 3)), (0, 0), (0, v1)] (r := []) rfl ⟨rfl, Or.inr ⟨_, rfl, by decide⟩⟩ (by decide) (fun z => absurd z (by decide)) rfl rfl (Nat.le_of_ble_eq_true rfl) h (fun w hw => t_X_put (d + 0) _ _ _ _ _ hw) (fun a2 μ3 h => ?_)
  refine rn_sls 0 (pc' := 9) (ls' := [(0, (2, b)), (1, (0, v1)), (2, (0, v2)), (3, (0, v3)), (4, (0, v4))]) (st' := []) rfl ?_
  refine rn_sls 1 (pc' := 10) (ls' := [(0, (2, b)), (1, (0, v1)), (2, (0, v2)), (3, (0, v3)), (4, (0, v4))]) (st' := [(2, b)]) rfl ?_
  refine rn_get ho1 rfl rfl rfl ?_
  refine rn_sls 0 (pc' := 13) (ls' := [(0, (2, b)), (1, (0, v1)), (2, (0, v2)), (3, (0, v3)), (4, (0, v4))]) (st' := [(2, (b + 3))]) rfl ?_
  refine rn_sls 2 (pc' := 15) (ls' := [(0, (2, b)), (1, (0, v1)), (2, (0, v2)), (3, (0, v3)), (4, (0, v4))]) (st' := [(0, v2), (0, 1), (2, (b + 3))]) rfl ?_
  refine rn_call 3 2 [(2, (b + 3)), (0, 1), (0, v2)] (r := []) rfl ⟨rfl, Or.inr ⟨_, rfl, by decide⟩⟩ (by decide) (fun z => absurd z (by decide)) rfl rfl (Nat.le_of_ble_eq_true rfl) h (fun w hw => t_X_put (d + 0) _ _ _ _ _ hw) (fun a4 μ5 h => ?_)
  refine rn_sls 0 (pc' := 18) (ls' := [(0, (2, b)), (1, (0, v1)), (2, (0, v2)), (3, (0, v3)), (4, (0, v4))]) (st' := []) rfl ?_
  refine rn_sls 1 (pc' := 19) (ls' := [(0, (2, b)), (1, (0, v1)), (2, (0, v2)), (3, (0, v3)), (4, (0, v4))]) (st' := [(2, b)]) rfl ?_
  refine rn_get ho1 rfl rfl rfl ?_
  refine rn_sls 0 (pc' := 22) (ls' := [(0, (2, b)), (1, (0, v1)), (2, (0, v2)), (3, (0, v3)), (4, (0, v4))]) (st' := [(2, (b + 3))]) rfl ?_
  refine rn_sls 2 (pc' := 24) (ls' := [(0, (2, b)), (1, (0, v1)), (2, (0, v2)), (3, (0, v3)), (4, (0, v4))]) (st' := [(0, v3), (0, 2), (2, (b + 3))]) rfl ?_
  refine rn_call 3 2 [(2, (b + 3)), (0, 2), (0, v3)] (r := []) rfl ⟨rfl, Or.inr ⟨_, rfl, by decide⟩⟩ (by decide) (fun z => absurd z (by decide)) rfl rfl (Nat.le_of_ble_eq_true rfl) h (fun w hw => t_X_put (d + 0) _ _ _ _ _ hw) (fun a6 μ7 h => ?_)
  refine rn_sls 0 (pc' := 27) (ls' := [(0, (2, b)), (1, (0, v1)), (2, (0, v2)), (3, (0, v3)), (4, (0, v4))]) (st' := []) rfl ?_
  refine rn_sls 1 (pc' := 28) (ls' := [(0, (2, b)), (1, (0, v1)), (2, (0, v2)), (3, (0, v3)), (4, (0, v4))]) (st' := [(2, b)]) rfl ?_
  refine rn_get ho1 rfl rfl rfl ?_
  refine rn_sls 0 (pc' := 31) (ls' := [(0, (2, b)), (1, (0, v1)), (2, (0, v2)), (3, (0, v3)), (4, (0, v4))]) (st' := [(2, (b + 3))]) rfl ?_
  refine rn_sls 2 (pc' := 34) (ls' := [(0, (2, b)), (1, (0, v1)), (2, (0, v2)), (3, (0, v3)), (4, (0, v4))]) (st' := [(0, v4), (0, 3), (2, (b + 3))]) rfl ?_
  refine rn_call 3 2 [(2, (b + 3)), (0, 3), (0, v4)] (r := []) rfl ⟨rfl, Or.inr ⟨_, rfl, by decide⟩⟩ (by decide) (fun z => absurd z (by decide)) rfl rfl (Nat.le_of_ble_eq_true rfl) h (fun w hw => t_X_put (d + 0) _ _ _ _ _ hw) (fun a8 μ9 h => ?_)
  refine rn_sls 0 (pc' := 37) (ls' := [(0, (2, b)), (1, (0, v1)), (2, (0, v2)), (3, (0, v3)), (4, (0, v4))]) (st' := []) rfl ?_
  exact rn_ret (v := 0) rfl rfl rfl h rfl
set_option maxRecDepth 20000 in
theorem t_Mc_enter (d : Nat) : ∀ (b : Int) (v1 : Int) (v2 : Int) (μ : am_M) q, Mc_enter b v1 v2 μ = some q → am_ar g_mt (d + 2) 30 [(2, b), (2, v1), (0, v2)] μ (am_res 2 q) := by
  intro b v1 v2 μ q h
  unfold Mc_enter at h
  refine am_ar_of (d := d + 1) i_Mc_enter rfl rfl (Nat.le_of_ble_eq_true rfl) ?_
  show am_run none (am_ar g_mt (d + 1)) 4 none k_Mc_enter 0 [(0, (2, b)), (1, (2, v1)), (2, (0, v2))] [] μ (am_res 2 q)
  refine rn_sls 1 (pc' := 1) (ls' := [(0, (2, b)), (1, (2, v1)), (2, (0, v2))]) (st' := [(2, v1)]) rfl ?_
  refine rn_gd h (fun ho1 h => ?_)
  refine rn_get ho1 rfl rfl rfl ?_
  refine rn_sls 0 (pc' := 4) (ls' := [(0, (2, b)), (1, (2, v1)), (2, (0, v2))]) (st' := [(2, (v1 + 17))]) rfl ?_
  refine rn_sls 1 (pc' := 5) (ls' := [(0, (2, b)), (1, (2, v1)), (2, (0, v2))]) (st' := [(0, v2), (2, (v1 + 17))]) rfl ?_
  refine rn_call 3 0 [(2, (v1 + 17)), (0, v2)] (r := []) rfl ⟨rfl, Or.inr ⟨_, rfl, by decide⟩⟩ (by decide) (fun z => absurd z (by decide)) rfl rfl (Nat.le_of_ble_eq_true rfl) h (fun w hw => t_X_at (d + 0) _ _ _ _ hw) (fun a2 μ3 h => ?_)
  refine rn_sls 0 (pc' := 8) (ls' := [(0, (2, b)), (1, (2, v1)), (2, (0, v2))]) (st' := [(0, a2)]) rfl ?_
  refine rn_sls 2 (pc' := 10) (ls' := [(3, (0, a2)), (0, (2, b)), (1, (2, v1)), (2, (0, v2))]) (st' := [(2, b)]) rfl ?_
  refine rn_gd h (fun ho4 h => ?_)
  refine rn_get ho4 rfl rfl rfl ?_
  refine rn_sls 0 (pc' := 13) (ls' := [(3, (0, a2)), (0, (2, b)), (1, (2, v1)), (2, (0, v2))]) (st' := [(2, (b + 1))]) rfl ?_
  refine rn_sls 1 (pc' := 14) (ls' := [(3, (0, a2)), (0, (2, b)), (1, (2, v1)), (2, (0, v2))]) (st' := [(2, b), (2, (b + 1))]) rfl ?_
  refine rn_get ho4 rfl rfl rfl ?_
  refine rn_sls 0 (pc' := 17) (ls' := [(3, (0, a2)), (0, (2, b)), (1, (2, v1)), (2, (0, v2))]) (st' := [(0, (μ3 b 5)), (2, (b + 1))]) rfl ?_
  refine rn_sls 1 (pc' := 18) (ls' := [(3, (0, a2)), (0, (2, b)), (1, (2, v1)), (2, (0, v2))]) (st' := [(2, v1), (0, (μ3 b 5)), (2, (b + 1))]) rfl ?_
  refine rn_get ho1 rfl rfl rfl ?_
  refine rn_sls 0 (pc' := 21) (ls' := [(3, (0, a2)), (0, (2, b)), (1, (2, v1)), (2, (0, v2))]) (st' := [(2, (v1 + 15)), (0, (μ3 b 5)), (2, (b + 1))]) rfl ?_
  refine rn_sls 1 (pc' := 22) (ls' := [(3, (0, a2)), (0, (2, b)), (1, (2, v1)), (2, (0, v2))]) (st' := [(0, v2), (2, (v1 + 15)), (0, (μ3 b 5)), (2, (b + 1))]) rfl ?_
  refine rn_call 3 0 [(2, (v1 + 15)), (0, v2)] (r := [(0, (μ3 b 5)), (2, (b + 1))]) rfl ⟨rfl, Or.inr ⟨_, rfl, by decide⟩⟩ (by decide) (fun z => absurd z (by decide)) rfl rfl (Nat.le_of_ble_eq_true rfl) h (fun w hw => t_X_at (d + 0) _ _ _ _ hw) (fun a5 μ6 h => ?_)
  refine rn_sls 0 (pc' := 25) (ls' := [(3, (0, a2)), (0, (2, b)), (1, (2, v1)), (2, (0, v2))]) (st' := [(0, a5), (0, (μ3 b 5)), (2, (b + 1))]) rfl ?_
  refine rn_sls 2 (pc' := 27) (ls' := [(3, (0, a2)), (0, (2, b)), (1, (2, v1)), (2, (0, v2))]) (st' := [(0, (w32 (a5 + a2))), (0, (μ3 b 5)), (2, (b + 1))]) rfl ?_
  refine rn_call 3 2 [(2, (b + 1)), (0, (μ3 b 5)), (0, (w32 (a5 + a2)))] (r := []) rfl ⟨rfl, Or.inr ⟨_, rfl, by decide⟩⟩ (by decide) (fun z => absurd z (by decide)) rfl rfl (Nat.le_of_ble_eq_true rfl) h (fun w hw => t_X_put (d + 0) _ _ _ _ _ hw) (fun a7 μ8 h => ?_)
  refine rn_sls 0 (pc' := 30) (ls' := [(3, (0, a2)), (0, (2, b)), (1, (2, v1)), (2, (0, v2))]) (st' := []) rfl ?_
  refine rn_sls 1 (pc' := 31) (ls' := [(3, (0, a2)), (0, (2, b)), (1, (2, v1)), (2, (0, v2))]) (st' := [(2, b)]) rfl ?_
  refine rn_get ho4 rfl rfl rfl ?_
  refine rn_sls 0 (pc' := 34) (ls' := [(3, (0, a2)), (0, (2, b)), (1, (2, v1)), (2, (0, v2))]) (st' := [(2, (b + 2))]) rfl ?_
  refine rn_sls 1 (pc' := 35) (ls' := [(3, (0, a2)), (0, (2, b)), (1, (2, v1)), (2, (0, v2))]) (st' := [(2, b), (2, (b + 2))]) rfl ?_
  refine rn_get ho4 rfl rfl rfl ?_
  refine rn_sls 0 (pc' := 38) (ls' := [(3, (0, a2)), (0, (2, b)), (1, (2, v1)), (2, (0, v2))]) (st' := [(0, (μ8 b 5)), (2, (b + 2))]) rfl ?_
  refine rn_sls 5 (pc' := 43) (ls' := [(3, (0, a2)), (0, (2, b)), (1, (2, v1)), (2, (0, v2))]) (st' := [(0, (w32 ((aShl 1 a2) - 1))), (0, (μ8 b 5)), (2, (b + 2))]) rfl ?_
  refine rn_call 3 2 [(2, (b + 2)), (0, (μ8 b 5)), (0, (w32 ((aShl 1 a2) - 1)))] (r := []) rfl ⟨rfl, Or.inr ⟨_, rfl, by decide⟩⟩ (by decide) (fun z => absurd z (by decide)) rfl rfl (Nat.le_of_ble_eq_true rfl) h (fun w hw => t_X_put (d + 0) _ _ _ _ _ hw) (fun a9 μ10 h => ?_)
  refine rn_sls 0 (pc' := 46) (ls' := [(3, (0, a2)), (0, (2, b)), (1, (2, v1)), (2, (0, v2))]) (st' := []) rfl ?_
  refine rn_sls 2 (pc' := 48) (ls' := [(3, (0, a2)), (0, (2, b)), (1, (2, v1)), (2, (0, v2))]) (st' := [(2, b), (2, b)]) rfl ?_
  refine rn_get ho4 rfl rfl rfl ?_
  refine rn_sls 0 (pc' := 51) (ls' := [(3, (0, a2)), (0, (2, b)), (1, (2, v1)), (2, (0, v2))]) (st' := [(0, (μ10 b 5)), (2, b)]) rfl ?_
  refine rn_sls 2 (pc' := 53) (ls' := [(3, (0, a2)), (0, (2, b)), (1, (2, v1)), (2, (0, v2))]) (st' := [(0, (w32 ((μ10 b 5) + 1))), (2, b)]) rfl ?_
  refine rn_put rfl rfl ho4 rfl (Or.inl ⟨rfl, rfl⟩) rfl h (fun μ11 h => ?_)
  exact rn_ret (v := 0) rfl rfl rfl h rfl
set_option maxRecDepth 20000 in
theorem t_JI_bitCount (d : Nat) : ∀ (v0 : Int) (μ : am_M) q, JI_bitCount v0 μ = some q → am_ar g_mt (d + 1) 146 [(0, v0)] μ (am_res 0 q) := by
  intro v0 μ q h
  unfold JI_bitCount at h
  refine am_ar_of (d := d + 0) i_JI_bitCount rfl rfl (Nat.le_of_ble_eq_true rfl) ?_
  show am_run none (am_ar g_mt (d + 0)) 1 (some .int) k_JI_bitCount 0 [(0, (0, v0))] [] μ (am_res 0 q)
  refine rn_sls 8 (pc' := 10) (ls' := [(0, (0, (w32 (v0 - (aAnd (aUshr v0 1) 1431655765)))))]) (st' := []) rfl ?_
  refine rn_nm (ls := fun x => [(0, (0, x))]) (st := fun x => []) h (fun a1 h => ?_)
  refine rn_sls 10 (pc' := 24) (ls' := [(0, (0, (w32 ((aAnd a1 858993459) + (aAnd (aUshr a1 2) 858993459)))))]) (st' := []) rfl ?_
  refine rn_nm (ls := fun x => [(0, (0, x))]) (st := fun x => []) h (fun a2 h => ?_)
  refine rn_sls 8 (pc' := 34) (ls' := [(0, (0, (aAnd (w32 (a2 + (aUshr a2 4))) 252645135)))]) (st' := []) rfl ?_
  refine rn_nm (ls := fun x => [(0, (0, x))]) (st := fun x => []) h (fun a3 h => ?_)
  refine rn_sls 12 (pc' := 48) (ls' := [(0, (0, (w32 ((w32 (a3 + (aUshr a3 8))) + (aUshr (w32 (a3 + (aUshr a3 8))) 16)))))]) (st' := []) rfl ?_
  refine rn_nm (ls := fun x => [(0, (0, x))]) (st := fun x => []) h (fun a4 h => ?_)
  refine rn_sls 3 (pc' := 52) (ls' := [(0, (0, a4))]) (st' := [(0, (aAnd a4 63))]) rfl ?_
  exact rn_ireti rfl rfl rfl h rfl
set_option maxRecDepth 20000 in
theorem t_Mc_lying_L4_b (d : Nat) (k4 : Int → Int → Int → am_M → am_O) (hk4 : ∀ (b : Int) (v1 : Int) (v2 : Int) (μ : am_M) q, k4 b v1 v2 μ = some q → am_run none (am_ar g_mt (d + 1)) 3 (some .int) k_Mc_lying 4 [(0, (2, b)), (1, (0, v1)), (2, (0, v2))] [] μ (am_res 0 q)) : ∀ (b : Int) (v1 : Int) (v2 : Int) (μ : am_M) q, Mc_lying_L4_b k4 b v1 v2 μ = some q → am_run none (am_ar g_mt (d + 1)) 3 (some .int) k_Mc_lying 4 [(0, (2, b)), (1, (0, v1)), (2, (0, v2))] [] μ (am_res 0 q) := by
  intro b v1 v2 μ q h
  unfold Mc_lying_L4_b at h
  refine rn_sls 2 (pc' := 6) (ls' := [(0, (2, b)), (1, (0, v1)), (2, (0, v2))]) (st' := [(2, b), (0, v2)]) rfl ?_
  refine rn_gd h (fun ho1 h => ?_)
  refine rn_get ho1 rfl rfl rfl ?_
  refine rn_sls 0 (pc' := 9) (ls' := [(0, (2, b)), (1, (0, v1)), (2, (0, v2))]) (st' := [(0, (μ b 5)), (0, v2)]) rfl ?_
  refine rn_icmpn (t := 32) rfl rfl rfl rfl h (fun h => ?_) (fun h => ?_)
  · refine rn_sls 2 (pc' := 14) (ls' := [(0, (2, b)), (1, (0, v1)), (2, (0, v2))]) (st' := [(2, b), (0, v1)]) rfl ?_
    refine rn_get ho1 rfl rfl rfl ?_
    refine rn_sls 0 (pc' := 17) (ls' := [(0, (2, b)), (1, (0, v1)), (2, (0, v2))]) (st' := [(2, (b + 2)), (0, v1)]) rfl ?_
    refine rn_sls 1 (pc' := 18) (ls' := [(0, (2, b)), (1, (0, v1)), (2, (0, v2))]) (st' := [(0, v2), (2, (b + 2)), (0, v1)]) rfl ?_
    refine rn_call 3 0 [(2, (b + 2)), (0, v2)] (r := [(0, v1)]) rfl ⟨rfl, Or.inr ⟨_, rfl, by decide⟩⟩ (by decide) (fun z => absurd z (by decide)) rfl rfl (Nat.le_of_ble_eq_true rfl) h (fun w hw => t_X_at (d + 0) _ _ _ _ hw) (fun a2 μ3 h => ?_)
    refine rn_sls 0 (pc' := 21) (ls' := [(0, (2, b)), (1, (0, v1)), (2, (0, v2))]) (st' := [(0, a2), (0, v1)]) rfl ?_
    refine rn_call 2 0 [(0, a2)] (r := [(0, v1)]) rfl ⟨rfl, Or.inr ⟨_, rfl, by decide⟩⟩ (by decide) (fun z => absurd z (by decide)) rfl rfl (Nat.le_of_ble_eq_true rfl) h (fun w hw => t_JI_bitCount (d + 0) _ _ _ hw) (fun a4 μ5 h => ?_)
    refine rn_sls 0 (pc' := 24) (ls' := [(0, (2, b)), (1, (0, v1)), (2, (0, v2))]) (st' := [(0, a4), (0, v1)]) rfl ?_
    refine rn_sls 3 (pc' := 29) (ls' := [(2, (0, (w32 (v2 + 1)))), (1, (0, (w32 (v1 + a4)))), (0, (2, b))]) (st' := []) rfl ?_
    refine rn_goto (t := 4) rfl rfl rfl ?_
    exact rn_sub [2, 1, 0] rfl (hk4 _ _ _ _ _ h)
  · refine rn_sls 1 (pc' := 33) (ls' := [(0, (2, b)), (1, (0, v1)), (2, (0, v2))]) (st' := [(0, v1)]) rfl ?_
    exact rn_ireti rfl rfl rfl h rfl
set_option maxRecDepth 20000 in
theorem t_Mc_lying_L4 (d : Nat) : ∀ (n : Nat) (b : Int) (v1 : Int) (v2 : Int) (μ : am_M) q, Mc_lying_L4 n b v1 v2 μ = some q → am_run none (am_ar g_mt (d + 1)) 3 (some .int) k_Mc_lying 4 [(0, (2, b)), (1, (0, v1)), (2, (0, v2))] [] μ (am_res 0 q) := by
  intro n
  induction n with
  | zero => intro b v1 v2 μ q h; cases h
  | succ n ih => intro b v1 v2 μ q h; exact t_Mc_lying_L4_b d (Mc_lying_L4 n) ih b v1 v2 μ q h
set_option maxRecDepth 20000 in
theorem t_Mc_lying (d : Nat) : ∀ (b : Int) (μ : am_M) q, Mc_lying b μ = some q → am_ar g_mt (d + 2) 33 [(2, b)] μ (am_res 0 q) := by
  intro b μ q h
  unfold Mc_lying at h
  refine am_ar_of (d := d + 1) i_Mc_lying rfl rfl (Nat.le_of_ble_eq_true rfl) ?_
  show am_run none (am_ar g_mt (d + 1)) 3 (some .int) k_Mc_lying 0 [(0, (2, b))] [] μ (am_res 0 q)
  refine rn_sls 4 (pc' := 4) (ls' := [(2, (0, 0)), (1, (0, 0)), (0, (2, b))]) (st' := []) rfl ?_
  exact rn_sub [2, 1, 0] rfl (t_Mc_lying_L4 d  am_FU _ _ _ _ _ h)
set_option maxRecDepth 20000 in
theorem t_Mc_lookAtTable (d : Nat) : ∀ (b : Int) (μ : am_M) q, Mc_lookAtTable b μ = some q → am_ar g_mt (d + 3) 34 [(2, b)] μ (am_res 2 q) := by
  intro b μ q h
  unfold Mc_lookAtTable at h
  refine am_ar_of (d := d + 2) i_Mc_lookAtTable rfl rfl (Nat.le_of_ble_eq_true rfl) ?_
  show am_run none (am_ar g_mt (d + 2)) 2 none k_Mc_lookAtTable 0 [(0, (2, b))] [] μ (am_res 2 q)
  refine rn_sls 1 (pc' := 1) (ls' := [(0, (2, b))]) (st' := [(2, b)]) rfl ?_
  refine rn_gd h (fun ho1 h => ?_)
  refine rn_call 0 0 [(2, b)] (r := []) rfl ⟨rfl, Or.inl ⟨_, rfl, by decide⟩⟩ (by decide) (fun _ => ⟨_, rfl, ho1⟩) rfl rfl (Nat.le_of_ble_eq_true rfl) h (fun w hw => t_Mc_lying (d + 0) _ _ _ hw) (fun a2 μ3 h => ?_)
  refine rn_sls 0 (pc' := 4) (ls' := [(0, (2, b))]) (st' := [(0, a2)]) rfl ?_
  refine rn_sls 3 (pc' := 7) (ls' := [(1, (0, a2)), (0, (2, b))]) (st' := [(2, b), (2, b)]) rfl ?_
  refine rn_get ho1 rfl rfl rfl ?_
  refine rn_sls 0 (pc' := 10) (ls' := [(1, (0, a2)), (0, (2, b))]) (st' := [(0, (μ3 b 8)), (2, b)]) rfl ?_
  refine rn_sls 1 (pc' := 11) (ls' := [(1, (0, a2)), (0, (2, b))]) (st' := [(0, a2), (0, (μ3 b 8)), (2, b)]) rfl ?_
  refine rn_max rfl ⟨rfl, Or.inr ⟨_, rfl, by decide⟩⟩ rfl (Nat.le_of_ble_eq_true rfl) ?_
  refine rn_nm (ls := fun x => [(1, (0, a2)), (0, (2, b))]) (st := fun x => [(0, x), (2, b)]) h (fun a4 h => ?_)
  refine rn_put rfl rfl ho1 rfl (Or.inl ⟨rfl, rfl⟩) rfl h (fun μ5 h => ?_)
  refine rn_sls 1 (pc' := 18) (ls' := [(1, (0, a2)), (0, (2, b))]) (st' := [(2, b)]) rfl ?_
  refine rn_get ho1 rfl rfl rfl ?_
  refine rn_sls 0 (pc' := 21) (ls' := [(1, (0, a2)), (0, (2, b))]) (st' := [(0, (μ5 b 1))]) rfl ?_
  refine rn_if (t := 45) rfl rfl rfl rfl h (fun h => ?_) (fun h => ?_)
  · exact rn_ret (v := 0) rfl rfl rfl h rfl
  · refine rn_sls 1 (pc' := 25) (ls' := [(1, (0, a2)), (0, (2, b))]) (st' := [(2, b)]) rfl ?_
    refine rn_get ho1 rfl rfl rfl ?_
    refine rn_sls 0 (pc' := 28) (ls' := [(1, (0, a2)), (0, (2, b))]) (st' := [(0, (μ5 b 6))]) rfl ?_
    refine rn_sls 1 (pc' := 29) (ls' := [(1, (0, a2)), (0, (2, b))]) (st' := [(0, 1), (0, (μ5 b 6))]) rfl ?_
    refine rn_icmpn (t := 45) rfl rfl rfl rfl h (fun h => ?_) (fun h => ?_)
    · refine rn_sls 2 (pc' := 34) (ls' := [(1, (0, a2)), (0, (2, b))]) (st' := [(2, b), (0, a2)]) rfl ?_
      refine rn_get ho1 rfl rfl rfl ?_
      refine rn_sls 0 (pc' := 37) (ls' := [(1, (0, a2)), (0, (2, b))]) (st' := [(0, (μ5 b 12)), (0, a2)]) rfl ?_
      refine rn_icmp (t := 45) rfl rfl rfl rfl h (fun h => ?_) (fun h => ?_)
      · exact rn_ret (v := 0) rfl rfl rfl h rfl
      · refine rn_sls 2 (pc' := 42) (ls' := [(1, (0, a2)), (0, (2, b))]) (st' := [(0, 3), (2, b)]) rfl ?_
        refine rn_put rfl rfl ho1 rfl (Or.inl ⟨rfl, rfl⟩) rfl h (fun μ6 h => ?_)
        exact rn_ret (v := 0) rfl rfl rfl h rfl
    · exact rn_ret (v := 0) rfl rfl rfl h rfl
set_option maxRecDepth 20000 in
theorem t_Mc_start (d : Nat) : ∀ (b : Int) (v1 : Int) (v2 : Int) (μ : am_M) q, Mc_start b v1 v2 μ = some q → am_ar g_mt (d + 4) 29 [(2, b), (2, v1), (0, v2)] μ (am_res 2 q) := by
  intro b v1 v2 μ q h
  unfold Mc_start at h
  refine am_ar_of (d := d + 3) i_Mc_start rfl rfl (Nat.le_of_ble_eq_true rfl) ?_
  show am_run none (am_ar g_mt (d + 3)) 3 none k_Mc_start 0 [(0, (2, b)), (1, (2, v1)), (2, (0, v2))] [] μ (am_res 2 q)
  refine rn_sls 1 (pc' := 1) (ls' := [(0, (2, b)), (1, (2, v1)), (2, (0, v2))]) (st' := [(2, b)]) rfl ?_
  refine rn_gd h (fun ho1 h => ?_)
  refine rn_call 0 2 [(2, b)] (r := []) rfl ⟨rfl, Or.inl ⟨_, rfl, by decide⟩⟩ (by decide) (fun _ => ⟨_, rfl, ho1⟩) rfl rfl (Nat.le_of_ble_eq_true rfl) h (fun w hw => t_Mc_stand (d + 2) _ _ _ hw) (fun a2 μ3 h => ?_)
  refine rn_sls 0 (pc' := 4) (ls' := [(0, (2, b)), (1, (2, v1)), (2, (0, v2))]) (st' := []) rfl ?_
  refine rn_sls 2 (pc' := 6) (ls' := [(0, (2, b)), (1, (2, v1)), (2, (0, v2))]) (st' := [(0, 1), (2, b)]) rfl ?_
  refine rn_put rfl rfl ho1 rfl (Or.inl ⟨rfl, rfl⟩) rfl h (fun μ4 h => ?_)
  refine rn_sls 3 (pc' := 12) (ls' := [(0, (2, b)), (1, (2, v1)), (2, (0, v2))]) (st' := [(0, v2), (2, v1), (2, b)]) rfl ?_
  refine rn_call 0 2 [(2, b), (2, v1), (0, v2)] (r := []) rfl ⟨rfl, Or.inl ⟨_, rfl, by decide⟩⟩ (by decide) (fun _ => ⟨_, rfl, ho1⟩) rfl rfl (Nat.le_of_ble_eq_true rfl) h (fun w hw => t_Mc_enter (d + 1) _ _ _ _ _ hw) (fun a5 μ6 h => ?_)
  refine rn_sls 0 (pc' := 15) (ls' := [(0, (2, b)), (1, (2, v1)), (2, (0, v2))]) (st' := []) rfl ?_
  refine rn_sls 1 (pc' := 16) (ls' := [(0, (2, b)), (1, (2, v1)), (2, (0, v2))]) (st' := [(2, b)]) rfl ?_
  refine rn_call 0 2 [(2, b)] (r := []) rfl ⟨rfl, Or.inl ⟨_, rfl, by decide⟩⟩ (by decide) (fun _ => ⟨_, rfl, ho1⟩) rfl rfl (Nat.le_of_ble_eq_true rfl) h (fun w hw => t_Mc_lookAtTable (d + 0) _ _ _ hw) (fun a7 μ8 h => ?_)
  refine rn_sls 0 (pc' := 19) (ls' := [(0, (2, b)), (1, (2, v1)), (2, (0, v2))]) (st' := []) rfl ?_
  exact rn_ret (v := 0) rfl rfl rfl h rfl
