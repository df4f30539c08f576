/-! The code does what the functions say. Printed by program. -/
set_option maxRecDepth 20000 in
theorem t_Or_greatestAsTold_L4_b (d : Nat) (k4 : Int → Int → am_M → am_O) (hk4 : ∀ (v1 : Int) (v2 : Int) (μ : am_M) q, k4 v1 v2 μ = some q → am_run none (am_ar g_mt (d + 1)) 3 (some .int) k_Or_greatestAsTold 4 [(0, (2, 60)), (1, (0, v1)), (2, (0, v2))] [] μ (am_res 0 q)) : ∀ (v1 : Int) (v2 : Int) (μ : am_M) q, Or_greatestAsTold_L4_b k4 v1 v2 μ = some q → am_run none (am_ar g_mt (d + 1)) 3 (some .int) k_Or_greatestAsTold 4 [(0, (2, 60)), (1, (0, v1)), (2, (0, v2))] [] μ (am_res 0 q) := by
  intro v1 v2 μ q h
  unfold Or_greatestAsTold_L4_b at h
  refine rn_sls 3 (pc' := 9) (ls' := [(0, (2, 60)), (1, (0, v1)), (2, (0, v2))]) (st' := [(0, (μ 60 8)), (0, v2)]) rfl ?_
  refine rn_icmpn (t := 35) rfl rfl rfl rfl h (fun h => ?_) (fun h => ?_)
  · refine rn_sls 8 (pc' := 22) (ls' := [(0, (2, 60)), (1, (0, v1)), (2, (0, v2))]) (st' := [(0, (w32 ((aShl 1 v2) - 1))), (2, 65), (0, v1)]) rfl ?_
    refine rn_call 3 0 [(2, 65), (0, (w32 ((aShl 1 v2) - 1)))] (r := [(0, v1)]) rfl ⟨rfl, Or.inr ⟨_, rfl, by decide⟩⟩ (by decide) (fun z => absurd z (by decide)) rfl rfl (Nat.le_of_ble_eq_true rfl) h (fun w hw => t_X_at (d + 0) _ _ _ _ hw) (fun a1 μ2 h => ?_)
    refine rn_sls 0 (pc' := 25) (ls' := [(0, (2, 60)), (1, (0, v1)), (2, (0, v2))]) (st' := [(0, a1), (0, v1)]) rfl ?_
    refine rn_max rfl ⟨rfl, Or.inr ⟨_, rfl, by decide⟩⟩ rfl (Nat.le_of_ble_eq_true rfl) ?_
    refine rn_nm (ls := fun x => [(0, (2, 60)), (1, (0, v1)), (2, (0, v2))]) (st := fun x => [(0, x)]) h (fun a3 h => ?_)
    refine rn_sls 2 (pc' := 32) (ls' := [(2, (0, (w32 (v2 + 1)))), (1, (0, a3)), (0, (2, 60))]) (st' := []) rfl ?_
    refine rn_goto (t := 4) rfl rfl rfl ?_
    exact rn_sub [2, 1, 0] rfl (hk4 _ _ _ _ h)
  · refine rn_sls 1 (pc' := 36) (ls' := [(0, (2, 60)), (1, (0, v1)), (2, (0, v2))]) (st' := [(0, v1)]) rfl ?_
    exact rn_ireti rfl rfl rfl h rfl
set_option maxRecDepth 20000 in
theorem t_Or_greatestAsTold_L4 (d : Nat) : ∀ (n : Nat) (v1 : Int) (v2 : Int) (μ : am_M) q, Or_greatestAsTold_L4 n v1 v2 μ = some q → am_run none (am_ar g_mt (d + 1)) 3 (some .int) k_Or_greatestAsTold 4 [(0, (2, 60)), (1, (0, v1)), (2, (0, v2))] [] μ (am_res 0 q) := by
  intro n
  induction n with
  | zero => intro v1 v2 μ q h; cases h
  | succ n ih => intro v1 v2 μ q h; exact t_Or_greatestAsTold_L4_b d (Or_greatestAsTold_L4 n) ih v1 v2 μ q h
set_option maxRecDepth 20000 in
theorem t_Or_greatestAsTold (d : Nat) : ∀  (μ : am_M) q, Or_greatestAsTold  μ = some q → am_ar g_mt (d + 2) 56 [(2, 60)] μ (am_res 0 q) := by
  intro  μ q h
  unfold Or_greatestAsTold at h
  refine am_ar_of (d := d + 1) i_Or_greatestAsTold rfl rfl (Nat.le_of_ble_eq_true rfl) ?_
  show am_run none (am_ar g_mt (d + 1)) 3 (some .int) k_Or_greatestAsTold 0 [(0, (2, 60))] [] μ (am_res 0 q)
  refine rn_sls 4 (pc' := 4) (ls' := [(2, (0, 0)), (1, (0, 0)), (0, (2, 60))]) (st' := []) rfl ?_
  exact rn_sub [2, 1, 0] rfl (t_Or_greatestAsTold_L4 d  am_FU _ _ _ _ h)
set_option maxRecDepth 20000 in
theorem t_Or_countFollowing_B52 (d : Nat) (k5 : Int → Int → Int → am_M → am_O) (hk5 : ∀ (v1 : Int) (v2 : Int) (v4 : Int) (μ : am_M) q, k5 v1 v2 v4 μ = some q → am_run none (am_ar g_mt (d + 2)) 6 (some .long) k_Or_countFollowing 5 [(0, (2, 60)), (1, (0, v1)), (2, (1, v2)), (4, (0, v4))] [] μ (am_res 1 q)) : ∀ (v1 : Int) (v2 : Int) (v4 : Int) (μ : am_M) q, Or_countFollowing_B52 k5 v1 v2 v4 μ = some q → am_run none (am_ar g_mt (d + 2)) 6 (some .long) k_Or_countFollowing 52 [(0, (2, 60)), (1, (0, v1)), (2, (1, v2)), (4, (0, v4))] [] μ (am_res 1 q) := by
  intro v1 v2 v4 μ q h
  unfold Or_countFollowing_B52 at h
  refine rn_sls 1 (pc' := 55) (ls' := [(4, (0, (w32 (v4 + 1)))), (0, (2, 60)), (1, (0, v1)), (2, (1, v2))]) (st' := []) rfl ?_
  refine rn_goto (t := 5) rfl rfl rfl ?_
  exact rn_sub [1, 2, 3, 0] rfl (hk5 _ _ _ _ _ h)
set_option maxRecDepth 20000 in
theorem t_Or_countFollowing_L5_b (d : Nat) (k5 : Int → Int → Int → am_M → am_O) (hk5 : ∀ (v1 : Int) (v2 : Int) (v4 : Int) (μ : am_M) q, k5 v1 v2 v4 μ = some q → am_run none (am_ar g_mt (d + 2)) 6 (some .long) k_Or_countFollowing 5 [(0, (2, 60)), (1, (0, v1)), (2, (1, v2)), (4, (0, v4))] [] μ (am_res 1 q)) : ∀ (v1 : Int) (v2 : Int) (v4 : Int) (μ : am_M) q, Or_countFollowing_L5_b k5 v1 v2 v4 μ = some q → am_run none (am_ar g_mt (d + 2)) 6 (some .long) k_Or_countFollowing 5 [(0, (2, 60)), (1, (0, v1)), (2, (1, v2)), (4, (0, v4))] [] μ (am_res 1 q) := by
  intro v1 v2 v4 μ q h
  unfold Or_countFollowing_L5_b at h
  refine rn_sls 3 (pc' := 11) (ls' := [(0, (2, 60)), (1, (0, v1)), (2, (1, v2)), (4, (0, v4))]) (st' := [(0, (μ 60 8)), (0, v4)]) rfl ?_
  refine rn_icmpn (t := 58) rfl rfl rfl rfl h (fun h => ?_) (fun h => ?_)
  · refine rn_sls 9 (pc' := 26) (ls' := [(5, (0, (aOr v1 (aShl 1 v4)))), (0, (2, 60)), (1, (0, v1)), (2, (1, v2)), (4, (0, v4))]) (st' := [(0, v1), (0, v4), (2, 60)]) rfl ?_
    refine rn_call 0 0 [(2, 60), (0, v4), (0, v1)] (r := []) rfl ⟨rfl, Or.inl ⟨_, rfl, by decide⟩⟩ (by decide) (fun _ => ⟨_, rfl, rfl⟩) rfl rfl (Nat.le_of_ble_eq_true rfl) h (fun w hw => t_Or_mayFollow (d + 0) _ _ _ _ hw) (fun a1 μ2 h => ?_)
    refine rn_sls 0 (pc' := 29) (ls' := [(5, (0, (aOr v1 (aShl 1 v4)))), (0, (2, 60)), (1, (0, v1)), (2, (1, v2)), (4, (0, v4))]) (st' := [(0, a1)]) rfl ?_
    refine rn_if (t := 52) rfl rfl rfl rfl h (fun h => ?_) (fun h => ?_)
    · exact rn_sub [1, 2, 3, 4] rfl (t_Or_countFollowing_B52 d k5 hk5 _ _ _ _ _ h)
    · refine rn_sls 4 (pc' := 39) (ls' := [(5, (0, (aOr v1 (aShl 1 v4)))), (0, (2, 60)), (1, (0, v1)), (2, (1, v2)), (4, (0, v4))]) (st' := [(0, 1024), (0, (aOr v1 (aShl 1 v4)))]) rfl ?_
      refine rn_icmpn (t := 52) rfl rfl rfl rfl h (fun h => ?_) (fun h => ?_)
      · refine rn_sls 4 (pc' := 49) (ls' := [(5, (0, (aOr v1 (aShl 1 v4)))), (0, (2, 60)), (1, (0, v1)), (2, (1, v2)), (4, (0, v4))]) (st' := [(0, (aOr v1 (aShl 1 v4))), (2, 67), (1, v2)]) rfl ?_
        refine rn_lald (n := 1024) rfl rfl rfl h (fun a3 h => ?_)
        refine rn_sls 2 (pc' := 52) (ls' := [(2, (1, (w64 (v2 + a3)))), (5, (0, (aOr v1 (aShl 1 v4)))), (0, (2, 60)), (1, (0, v1)), (4, (0, v4))]) (st' := []) rfl ?_
        exact rn_sub [2, 3, 0, 4] rfl (t_Or_countFollowing_B52 d k5 hk5 _ _ _ _ _ h)
      · exact rn_sub [1, 2, 3, 4] rfl (t_Or_countFollowing_B52 d k5 hk5 _ _ _ _ _ h)
  · refine rn_sls 1 (pc' := 59) (ls' := [(0, (2, 60)), (1, (0, v1)), (2, (1, v2)), (4, (0, v4))]) (st' := [(1, v2)]) rfl ?_
    exact rn_lret rfl rfl rfl h rfl
set_option maxRecDepth 20000 in
theorem t_Or_countFollowing_L5 (d : Nat) : ∀ (n : Nat) (v1 : Int) (v2 : Int) (v4 : Int) (μ : am_M) q, Or_countFollowing_L5 n v1 v2 v4 μ = some q → am_run none (am_ar g_mt (d + 2)) 6 (some .long) k_Or_countFollowing 5 [(0, (2, 60)), (1, (0, v1)), (2, (1, v2)), (4, (0, v4))] [] μ (am_res 1 q) := by
  intro n
  induction n with
  | zero => intro v1 v2 v4 μ q h; cases h
  | succ n ih => intro v1 v2 v4 μ q h; exact t_Or_countFollowing_L5_b d (Or_countFollowing_L5 n) ih v1 v2 v4 μ q h
set_option maxRecDepth 20000 in
theorem t_Or_countFollowing (d : Nat) : ∀ (v1 : Int) (μ : am_M) q, Or_countFollowing v1 μ = some q → am_ar g_mt (d + 3) 58 [(2, 60), (0, v1)] μ (am_res 1 q) := by
  intro v1 μ q h
  unfold Or_countFollowing at h
  refine am_ar_of (d := d + 2) i_Or_countFollowing rfl rfl (Nat.le_of_ble_eq_true rfl) ?_
  show am_run none (am_ar g_mt (d + 2)) 6 (some .long) k_Or_countFollowing 0 [(0, (2, 60)), (1, (0, v1))] [] μ (am_res 1 q)
  refine rn_sls 4 (pc' := 5) (ls' := [(4, (0, 0)), (2, (1, 0)), (0, (2, 60)), (1, (0, v1))]) (st' := []) rfl ?_
  exact rn_sub [2, 3, 1, 0] rfl (t_Or_countFollowing_L5 d  am_FU _ _ _ _ _ h)
set_option maxRecDepth 20000 in
theorem t_Or_howMany_B50 (d : Nat) (k5 : Int → Int → am_M → am_O) (hk5 : ∀ (v1 : Int) (v2 : Int) (μ : am_M) q, k5 v1 v2 μ = some q → am_run none (am_ar g_mt (d + 3)) 5 (some .long) k_Or_howMany 5 [(0, (2, 60)), (1, (0, v1)), (2, (0, v2))] [] μ (am_res 1 q)) : ∀ (v1 : Int) (v2 : Int) (v3 : Int) (μ : am_M) q, Or_howMany_B50 k5 v1 v2 v3 μ = some q → am_run none (am_ar g_mt (d + 3)) 5 (some .long) k_Or_howMany 50 [(0, (2, 60)), (1, (0, v1)), (2, (0, v2)), (3, (1, v3))] [] μ (am_res 1 q) := by
  intro v1 v2 v3 μ q h
  unfold Or_howMany_B50 at h
  refine rn_sls 4 (pc' := 56) (ls' := [(0, (2, 60)), (1, (0, v1)), (2, (0, v2)), (3, (1, v3))]) (st' := [(1, v3), (0, v2), (2, 67)]) rfl ?_
  refine rn_last (n := 1024) rfl rfl rfl h (fun μ1 h => ?_)
  refine rn_sls 1 (pc' := 60) (ls' := [(2, (0, (w32 (v2 + (-1))))), (0, (2, 60)), (1, (0, v1)), (3, (1, v3))]) (st' := []) rfl ?_
  refine rn_goto (t := 5) rfl rfl rfl ?_
  exact rn_sub [1, 2, 0] rfl (hk5 _ _ _ _ h)
set_option maxRecDepth 20000 in
theorem t_Or_howMany_B49 (d : Nat) (k5 : Int → Int → am_M → am_O) (hk5 : ∀ (v1 : Int) (v2 : Int) (μ : am_M) q, k5 v1 v2 μ = some q → am_run none (am_ar g_mt (d + 3)) 5 (some .long) k_Or_howMany 5 [(0, (2, 60)), (1, (0, v1)), (2, (0, v2))] [] μ (am_res 1 q)) : ∀ (v1 : Int) (v2 : Int) (s0 : Int) (μ : am_M) q, Or_howMany_B49 k5 v1 v2 s0 μ = some q → am_run none (am_ar g_mt (d + 3)) 5 (some .long) k_Or_howMany 49 [(0, (2, 60)), (1, (0, v1)), (2, (0, v2))] [(1, s0)] μ (am_res 1 q) := by
  intro v1 v2 s0 μ q h
  unfold Or_howMany_B49 at h
  refine rn_sls 1 (pc' := 50) (ls' := [(3, (1, s0)), (0, (2, 60)), (1, (0, v1)), (2, (0, v2))]) (st' := []) rfl ?_
  exact rn_sub [1, 2, 3, 0] rfl (t_Or_howMany_B50 d k5 hk5 _ _ _ _ _ h)
set_option maxRecDepth 20000 in
theorem t_Or_howMany_B63 (d : Nat) : ∀  (μ : am_M) q, Or_howMany_B63  μ = some q → am_run none (am_ar g_mt (d + 3)) 5 (some .long) k_Or_howMany 63 [(0, (2, 60))] [] μ (am_res 1 q) := by
  intro  μ q h
  unfold Or_howMany_B63 at h
  refine rn_sls 3 (pc' := 68) (ls' := [(0, (2, 60))]) (st' := [(0, 0), (2, 67)]) rfl ?_
  refine rn_lald (n := 1024) rfl rfl rfl h (fun a1 h => ?_)
  exact rn_lret rfl rfl rfl h rfl
set_option maxRecDepth 20000 in
theorem t_Or_howMany_L5_b (d : Nat) (k5 : Int → Int → am_M → am_O) (hk5 : ∀ (v1 : Int) (v2 : Int) (μ : am_M) q, k5 v1 v2 μ = some q → am_run none (am_ar g_mt (d + 3)) 5 (some .long) k_Or_howMany 5 [(0, (2, 60)), (1, (0, v1)), (2, (0, v2))] [] μ (am_res 1 q)) : ∀ (v1 : Int) (v2 : Int) (μ : am_M) q, Or_howMany_L5_b k5 v1 v2 μ = some q → am_run none (am_ar g_mt (d + 3)) 5 (some .long) k_Or_howMany 5 [(0, (2, 60)), (1, (0, v1)), (2, (0, v2))] [] μ (am_res 1 q) := by
  intro v1 v2 μ q h
  unfold Or_howMany_L5_b at h
  refine rn_sls 1 (pc' := 6) (ls' := [(0, (2, 60)), (1, (0, v1)), (2, (0, v2))]) (st' := [(0, v2)]) rfl ?_
  refine rn_if (t := 63) rfl rfl rfl rfl h (fun h => ?_) (fun h => ?_)
  · exact rn_sub [0] rfl (t_Or_howMany_B63 d  _ _ h)
  · refine rn_sls 4 (pc' := 15) (ls' := [(0, (2, 60)), (1, (0, v1)), (2, (0, v2))]) (st' := [(0, 1024), (0, v2)]) rfl ?_
    refine rn_icmpn (t := 63) rfl rfl rfl rfl h (fun h => ?_) (fun h => ?_)
    · refine rn_sls 5 (pc' := 25) (ls' := [(3, (1, 0)), (0, (2, 60)), (1, (0, v1)), (2, (0, v2))]) (st' := [(0, v2), (2, 65)]) rfl ?_
      refine rn_call 3 0 [(2, 65), (0, v2)] (r := []) rfl ⟨rfl, Or.inr ⟨_, rfl, by decide⟩⟩ (by decide) (fun z => absurd z (by decide)) rfl rfl (Nat.le_of_ble_eq_true rfl) h (fun w hw => t_X_at (d + 2) _ _ _ _ hw) (fun a1 μ2 h => ?_)
      refine rn_sls 0 (pc' := 28) (ls' := [(3, (1, 0)), (0, (2, 60)), (1, (0, v1)), (2, (0, v2))]) (st' := [(0, a1)]) rfl ?_
      refine rn_sls 1 (pc' := 29) (ls' := [(3, (1, 0)), (0, (2, 60)), (1, (0, v1)), (2, (0, v2))]) (st' := [(0, v1), (0, a1)]) rfl ?_
      refine rn_icmpn (t := 50) rfl rfl rfl rfl h (fun h => ?_) (fun h => ?_)
      · refine rn_sls 2 (pc' := 34) (ls' := [(3, (1, 0)), (0, (2, 60)), (1, (0, v1)), (2, (0, v2))]) (st' := [(2, 60), (0, v2)]) rfl ?_
        refine rn_call 0 0 [(2, 60)] (r := [(0, v2)]) rfl ⟨rfl, Or.inl ⟨_, rfl, by decide⟩⟩ (by decide) (fun _ => ⟨_, rfl, rfl⟩) rfl rfl (Nat.le_of_ble_eq_true rfl) h (fun w hw => t_Or_allSums (d + 2)  _ _ hw) (fun a3 μ4 h => ?_)
        refine rn_sls 0 (pc' := 37) (ls' := [(3, (1, 0)), (0, (2, 60)), (1, (0, v1)), (2, (0, v2))]) (st' := [(0, a3), (0, v2)]) rfl ?_
        refine rn_icmpn (t := 44) rfl rfl rfl rfl h (fun h => ?_) (fun h => ?_)
        · refine rn_sls 1 (pc' := 41) (ls' := [(3, (1, 0)), (0, (2, 60)), (1, (0, v1)), (2, (0, v2))]) (st' := [(1, 1)]) rfl ?_
          refine rn_goto (t := 49) rfl rfl rfl ?_
          exact rn_sub [1, 2, 3] rfl (t_Or_howMany_B49 d k5 hk5 _ _ _ _ _ h)
        · refine rn_sls 2 (pc' := 46) (ls' := [(3, (1, 0)), (0, (2, 60)), (1, (0, v1)), (2, (0, v2))]) (st' := [(0, v2), (2, 60)]) rfl ?_
          refine rn_call 0 1 [(2, 60), (0, v2)] (r := []) rfl ⟨rfl, Or.inl ⟨_, rfl, by decide⟩⟩ (by decide) (fun _ => ⟨_, rfl, rfl⟩) rfl rfl (Nat.le_of_ble_eq_true rfl) h (fun w hw => t_Or_countFollowing (d + 0) _ _ _ hw) (fun a5 μ6 h => ?_)
          refine rn_sls 0 (pc' := 49) (ls' := [(3, (1, 0)), (0, (2, 60)), (1, (0, v1)), (2, (0, v2))]) (st' := [(1, a5)]) rfl ?_
          exact rn_sub [1, 2, 3] rfl (t_Or_howMany_B49 d k5 hk5 _ _ _ _ _ h)
      · exact rn_sub [1, 2, 3, 0] rfl (t_Or_howMany_B50 d k5 hk5 _ _ _ _ _ h)
    · exact rn_sub [0] rfl (t_Or_howMany_B63 d  _ _ h)
set_option maxRecDepth 20000 in
theorem t_Or_howMany_L5 (d : Nat) : ∀ (n : Nat) (v1 : Int) (v2 : Int) (μ : am_M) q, Or_howMany_L5 n v1 v2 μ = some q → am_run none (am_ar g_mt (d + 3)) 5 (some .long) k_Or_howMany 5 [(0, (2, 60)), (1, (0, v1)), (2, (0, v2))] [] μ (am_res 1 q) := by
  intro n
  induction n with
  | zero => intro v1 v2 μ q h; cases h
  | succ n ih => intro v1 v2 μ q h; exact t_Or_howMany_L5_b d (Or_howMany_L5 n) ih v1 v2 μ q h
set_option maxRecDepth 20000 in
theorem t_Or_howMany (d : Nat) : ∀ (v1 : Int) (μ : am_M) q, Or_howMany v1 μ = some q → am_ar g_mt (d + 4) 57 [(2, 60), (0, v1)] μ (am_res 1 q) := by
  intro v1 μ q h
  unfold Or_howMany at h
  refine am_ar_of (d := d + 3) i_Or_howMany rfl rfl (Nat.le_of_ble_eq_true rfl) ?_
  show am_run none (am_ar g_mt (d + 3)) 5 (some .long) k_Or_howMany 0 [(0, (2, 60)), (1, (0, v1))] [] μ (am_res 1 q)
  refine rn_sls 1 (pc' := 1) (ls' := [(0, (2, 60)), (1, (0, v1))]) (st' := [(2, 60)]) rfl ?_
  refine rn_call 0 0 [(2, 60)] (r := []) rfl ⟨rfl, Or.inl ⟨_, rfl, by decide⟩⟩ (by decide) (fun _ => ⟨_, rfl, rfl⟩) rfl rfl (Nat.le_of_ble_eq_true rfl) h (fun w hw => t_Or_allSums (d + 2)  _ _ hw) (fun a1 μ2 h => ?_)
  refine rn_sls 0 (pc' := 4) (ls' := [(0, (2, 60)), (1, (0, v1))]) (st' := [(0, a1)]) rfl ?_
  refine rn_sls 1 (pc' := 5) (ls' := [(2, (0, a1)), (0, (2, 60)), (1, (0, v1))]) (st' := []) rfl ?_
  exact rn_sub [1, 2, 0] rfl (t_Or_howMany_L5 d  am_FU _ _ _ _ h)
set_option maxRecDepth 20000 in
theorem t_Or_leastCoin_L41_b (d : Nat) (k27 : Int → Int → Int → am_M → am_O) (hk27 : ∀ (v1 : Int) (v2 : Int) (v3 : Int) (μ : am_M) q, k27 v1 v2 v3 μ = some q → am_run none (am_ar g_mt (d + 2)) 8 (some .long) k_Or_leastCoin 27 [(0, (2, 60)), (1, (0, v1)), (2, (0, v2)), (3, (0, v3))] [] μ (am_res 1 q)) (k41 : Int → Int → Int → Int → Int → am_M → am_O) (hk41 : ∀ (v1 : Int) (v2 : Int) (v3 : Int) (v4 : Int) (v5 : Int) (μ : am_M) q, k41 v1 v2 v3 v4 v5 μ = some q → am_run none (am_ar g_mt (d + 2)) 8 (some .long) k_Or_leastCoin 41 [(0, (2, 60)), (1, (0, v1)), (2, (0, v2)), (3, (0, v3)), (4, (0, v4)), (5, (0, v5))] [] μ (am_res 1 q)) : ∀ (v1 : Int) (v2 : Int) (v3 : Int) (v4 : Int) (v5 : Int) (μ : am_M) q, Or_leastCoin_L41_b k27 k41 v1 v2 v3 v4 v5 μ = some q → am_run none (am_ar g_mt (d + 2)) 8 (some .long) k_Or_leastCoin 41 [(0, (2, 60)), (1, (0, v1)), (2, (0, v2)), (3, (0, v3)), (4, (0, v4)), (5, (0, v5))] [] μ (am_res 1 q) := by
  intro v1 v2 v3 v4 v5 μ q h
  unfold Or_leastCoin_L41_b at h
  refine rn_sls 3 (pc' := 45) (ls' := [(0, (2, 60)), (1, (0, v1)), (2, (0, v2)), (3, (0, v3)), (4, (0, v4)), (5, (0, v5))]) (st' := [(0, v3), (2, 60), (0, v5)]) rfl ?_
  refine rn_call 0 0 [(2, 60), (0, v3)] (r := [(0, v5)]) rfl ⟨rfl, Or.inl ⟨_, rfl, by decide⟩⟩ (by decide) (fun _ => ⟨_, rfl, rfl⟩) rfl rfl (Nat.le_of_ble_eq_true rfl) h (fun w hw => t_Or_slipOf (d + 1) _ _ _ hw) (fun a1 μ2 h => ?_)
  refine rn_sls 0 (pc' := 48) (ls' := [(0, (2, 60)), (1, (0, v1)), (2, (0, v2)), (3, (0, v3)), (4, (0, v4)), (5, (0, v5))]) (st' := [(0, a1), (0, v5)]) rfl ?_
  refine rn_icmpn (t := 79) rfl rfl rfl rfl h (fun h => ?_) (fun h => ?_)
  · refine rn_sls 4 (pc' := 57) (ls' := [(0, (2, 60)), (1, (0, v1)), (2, (0, v2)), (3, (0, v3)), (4, (0, v4)), (5, (0, v5))]) (st' := [(0, v5), (0, v3), (2, 60), (0, v4)]) rfl ?_
    refine rn_call 0 0 [(2, 60), (0, v3), (0, v5)] (r := [(0, v4)]) rfl ⟨rfl, Or.inl ⟨_, rfl, by decide⟩⟩ (by decide) (fun _ => ⟨_, rfl, rfl⟩) rfl rfl (Nat.le_of_ble_eq_true rfl) h (fun w hw => t_Or_standing (d + 0) _ _ _ _ hw) (fun a8 μ9 h => ?_)
    refine rn_sls 0 (pc' := 60) (ls' := [(0, (2, 60)), (1, (0, v1)), (2, (0, v2)), (3, (0, v3)), (4, (0, v4)), (5, (0, v5))]) (st' := [(0, a8), (0, v4)]) rfl ?_
    refine rn_sls 3 (pc' := 66) (ls' := [(0, (2, 60)), (1, (0, v1)), (2, (0, v2)), (3, (0, v3)), (4, (0, v4)), (5, (0, v5))]) (st' := [(0, v5), (2, 64), (0, a8), (0, v4)]) rfl ?_
    refine rn_call 3 0 [(2, 64), (0, v5)] (r := [(0, a8), (0, v4)]) rfl ⟨rfl, Or.inr ⟨_, rfl, by decide⟩⟩ (by decide) (fun z => absurd z (by decide)) rfl rfl (Nat.le_of_ble_eq_true rfl) h (fun w hw => t_X_at (d + 1) _ _ _ _ hw) (fun a10 μ11 h => ?_)
    refine rn_sls 0 (pc' := 69) (ls' := [(0, (2, 60)), (1, (0, v1)), (2, (0, v2)), (3, (0, v3)), (4, (0, v4)), (5, (0, v5))]) (st' := [(0, a10), (0, a8), (0, v4)]) rfl ?_
    refine rn_sls 4 (pc' := 76) (ls' := [(5, (0, (w32 (v5 + 1)))), (4, (0, (w32 (v4 + (w32 (a8 * a10)))))), (0, (2, 60)), (1, (0, v1)), (2, (0, v2)), (3, (0, v3))]) (st' := []) rfl ?_
    refine rn_goto (t := 41) rfl rfl rfl ?_
    exact rn_sub [2, 3, 4, 5, 1, 0] rfl (hk41 _ _ _ _ _ _ _ h)
  · refine rn_sls 4 (pc' := 85) (ls' := [(0, (2, 60)), (1, (0, v1)), (2, (0, v2)), (3, (0, v3)), (4, (0, v4)), (5, (0, v5))]) (st' := [(0, v3), (2, 60), (2, 64)]) rfl ?_
    refine rn_call 0 0 [(2, 60), (0, v3)] (r := [(2, 64)]) rfl ⟨rfl, Or.inl ⟨_, rfl, by decide⟩⟩ (by decide) (fun _ => ⟨_, rfl, rfl⟩) rfl rfl (Nat.le_of_ble_eq_true rfl) h (fun w hw => t_Or_slipOf (d + 1) _ _ _ hw) (fun a3 μ4 h => ?_)
    refine rn_sls 0 (pc' := 88) (ls' := [(0, (2, 60)), (1, (0, v1)), (2, (0, v2)), (3, (0, v3)), (4, (0, v4)), (5, (0, v5))]) (st' := [(0, a3), (2, 64)]) rfl ?_
    refine rn_sls 2 (pc' := 91) (ls' := [(0, (2, 60)), (1, (0, v1)), (2, (0, v2)), (3, (0, v3)), (4, (0, v4)), (5, (0, v5))]) (st' := [(0, v4), (0, v1), (0, a3), (2, 64)]) rfl ?_
    refine rn_min rfl ⟨rfl, Or.inr ⟨_, rfl, by decide⟩⟩ rfl (Nat.le_of_ble_eq_true rfl) ?_
    refine rn_nm (ls := fun x => [(0, (2, 60)), (1, (0, v1)), (2, (0, v2)), (3, (0, v3)), (4, (0, v4)), (5, (0, v5))]) (st := fun x => [(0, x), (0, a3), (2, 64)]) h (fun a5 h => ?_)
    refine rn_call 3 2 [(2, 64), (0, a3), (0, a5)] (r := []) rfl ⟨rfl, Or.inr ⟨_, rfl, by decide⟩⟩ (by decide) (fun z => absurd z (by decide)) rfl rfl (Nat.le_of_ble_eq_true rfl) h (fun w hw => t_X_put (d + 1) _ _ _ _ _ hw) (fun a6 μ7 h => ?_)
    refine rn_sls 0 (pc' := 97) (ls' := [(0, (2, 60)), (1, (0, v1)), (2, (0, v2)), (3, (0, v3)), (4, (0, v4)), (5, (0, v5))]) (st' := []) rfl ?_
    refine rn_sls 1 (pc' := 100) (ls' := [(3, (0, (w32 (v3 + 1)))), (0, (2, 60)), (1, (0, v1)), (2, (0, v2)), (4, (0, v4)), (5, (0, v5))]) (st' := []) rfl ?_
    refine rn_goto (t := 27) rfl rfl rfl ?_
    exact rn_sub [1, 2, 3, 0] rfl (hk27 _ _ _ _ _ h)
set_option maxRecDepth 20000 in
theorem t_Or_leastCoin_L41 (d : Nat) (k27 : Int → Int → Int → am_M → am_O) (hk27 : ∀ (v1 : Int) (v2 : Int) (v3 : Int) (μ : am_M) q, k27 v1 v2 v3 μ = some q → am_run none (am_ar g_mt (d + 2)) 8 (some .long) k_Or_leastCoin 27 [(0, (2, 60)), (1, (0, v1)), (2, (0, v2)), (3, (0, v3))] [] μ (am_res 1 q)) : ∀ (n : Nat) (v1 : Int) (v2 : Int) (v3 : Int) (v4 : Int) (v5 : Int) (μ : am_M) q, Or_leastCoin_L41 k27 n v1 v2 v3 v4 v5 μ = some q → am_run none (am_ar g_mt (d + 2)) 8 (some .long) k_Or_leastCoin 41 [(0, (2, 60)), (1, (0, v1)), (2, (0, v2)), (3, (0, v3)), (4, (0, v4)), (5, (0, v5))] [] μ (am_res 1 q) := by
  intro n
  induction n with
  | zero => intro v1 v2 v3 v4 v5 μ q h; cases h
  | succ n ih => intro v1 v2 v3 v4 v5 μ q h; exact t_Or_leastCoin_L41_b d k27 hk27 (Or_leastCoin_L41 k27 n) ih v1 v2 v3 v4 v5 μ q h
set_option maxRecDepth 20000 in
theorem t_Or_leastCoin_L134_b (d : Nat) (k115 : Int → Int → am_M → am_O) (hk115 : ∀ (v3 : Int) (v5 : Int) (μ : am_M) q, k115 v3 v5 μ = some q → am_run none (am_ar g_mt (d + 2)) 8 (some .long) k_Or_leastCoin 115 [(0, (2, 60)), (3, (1, v3)), (5, (0, v5))] [] μ (am_res 1 q)) (k134 : Int → Int → Int → Int → am_M → am_O) (hk134 : ∀ (v3 : Int) (v5 : Int) (v6 : Int) (v7 : Int) (μ : am_M) q, k134 v3 v5 v6 v7 μ = some q → am_run none (am_ar g_mt (d + 2)) 8 (some .long) k_Or_leastCoin 134 [(0, (2, 60)), (3, (1, v3)), (5, (0, v5)), (6, (0, v6)), (7, (0, v7))] [] μ (am_res 1 q)) : ∀ (v3 : Int) (v5 : Int) (v6 : Int) (v7 : Int) (μ : am_M) q, Or_leastCoin_L134_b k115 k134 v3 v5 v6 v7 μ = some q → am_run none (am_ar g_mt (d + 2)) 8 (some .long) k_Or_leastCoin 134 [(0, (2, 60)), (3, (1, v3)), (5, (0, v5)), (6, (0, v6)), (7, (0, v7))] [] μ (am_res 1 q) := by
  intro v3 v5 v6 v7 μ q h
  unfold Or_leastCoin_L134_b at h
  refine rn_sls 3 (pc' := 140) (ls' := [(0, (2, 60)), (3, (1, v3)), (5, (0, v5)), (6, (0, v6)), (7, (0, v7))]) (st' := [(0, (μ 60 8)), (0, v7)]) rfl ?_
  refine rn_icmpn (t := 162) rfl rfl rfl rfl h (fun h => ?_) (fun h => ?_)
  · refine rn_sls 4 (pc' := 150) (ls' := [(0, (2, 60)), (3, (1, v3)), (5, (0, v5)), (6, (0, v6)), (7, (0, v7))]) (st' := [(0, v5), (0, v7), (2, 60), (0, v6)]) rfl ?_
    refine rn_call 0 0 [(2, 60), (0, v7), (0, v5)] (r := [(0, v6)]) rfl ⟨rfl, Or.inl ⟨_, rfl, by decide⟩⟩ (by decide) (fun _ => ⟨_, rfl, rfl⟩) rfl rfl (Nat.le_of_ble_eq_true rfl) h (fun w hw => t_Or_standing (d + 0) _ _ _ _ hw) (fun a4 μ5 h => ?_)
    refine rn_sls 0 (pc' := 153) (ls' := [(0, (2, 60)), (3, (1, v3)), (5, (0, v5)), (6, (0, v6)), (7, (0, v7))]) (st' := [(0, a4), (0, v6)]) rfl ?_
    refine rn_sls 3 (pc' := 159) (ls' := [(7, (0, (w32 (v7 + 1)))), (6, (0, (w32 (v6 + a4)))), (0, (2, 60)), (3, (1, v3)), (5, (0, v5))]) (st' := []) rfl ?_
    refine rn_goto (t := 134) rfl rfl rfl ?_
    exact rn_sub [2, 3, 4, 1, 0] rfl (hk134 _ _ _ _ _ _ h)
  · refine rn_sls 5 (pc' := 168) (ls' := [(0, (2, 60)), (3, (1, v3)), (5, (0, v5)), (6, (0, v6)), (7, (0, v7))]) (st' := [(0, (w32 (v6 - 1))), (0, 0), (1, v3)]) rfl ?_
    refine rn_max rfl ⟨rfl, Or.inr ⟨_, rfl, by decide⟩⟩ rfl (Nat.le_of_ble_eq_true rfl) ?_
    refine rn_nm (ls := fun x => [(0, (2, 60)), (3, (1, v3)), (5, (0, v5)), (6, (0, v6)), (7, (0, v7))]) (st := fun x => [(0, x), (1, v3)]) h (fun a1 h => ?_)
    refine rn_sls 4 (pc' := 178) (ls' := [(0, (2, 60)), (3, (1, v3)), (5, (0, v5)), (6, (0, v6)), (7, (0, v7))]) (st' := [(0, v5), (2, 64), (1, a1), (1, v3)]) rfl ?_
    refine rn_call 3 0 [(2, 64), (0, v5)] (r := [(1, a1), (1, v3)]) rfl ⟨rfl, Or.inr ⟨_, rfl, by decide⟩⟩ (by decide) (fun z => absurd z (by decide)) rfl rfl (Nat.le_of_ble_eq_true rfl) h (fun w hw => t_X_at (d + 1) _ _ _ _ hw) (fun a2 μ3 h => ?_)
    refine rn_sls 0 (pc' := 181) (ls' := [(0, (2, 60)), (3, (1, v3)), (5, (0, v5)), (6, (0, v6)), (7, (0, v7))]) (st' := [(0, a2), (1, a1), (1, v3)]) rfl ?_
    refine rn_sls 5 (pc' := 188) (ls' := [(5, (0, (w32 (v5 + 1)))), (3, (1, (w64 (v3 + (w64 (a1 * a2)))))), (0, (2, 60)), (6, (0, v6)), (7, (0, v7))]) (st' := []) rfl ?_
    refine rn_goto (t := 115) rfl rfl rfl ?_
    exact rn_sub [2, 1, 0] rfl (hk115 _ _ _ _ h)
set_option maxRecDepth 20000 in
theorem t_Or_leastCoin_L134 (d : Nat) (k115 : Int → Int → am_M → am_O) (hk115 : ∀ (v3 : Int) (v5 : Int) (μ : am_M) q, k115 v3 v5 μ = some q → am_run none (am_ar g_mt (d + 2)) 8 (some .long) k_Or_leastCoin 115 [(0, (2, 60)), (3, (1, v3)), (5, (0, v5))] [] μ (am_res 1 q)) : ∀ (n : Nat) (v3 : Int) (v5 : Int) (v6 : Int) (v7 : Int) (μ : am_M) q, Or_leastCoin_L134 k115 n v3 v5 v6 v7 μ = some q → am_run none (am_ar g_mt (d + 2)) 8 (some .long) k_Or_leastCoin 134 [(0, (2, 60)), (3, (1, v3)), (5, (0, v5)), (6, (0, v6)), (7, (0, v7))] [] μ (am_res 1 q) := by
  intro n
  induction n with
  | zero => intro v3 v5 v6 v7 μ q h; cases h
  | succ n ih => intro v3 v5 v6 v7 μ q h; exact t_Or_leastCoin_L134_b d k115 hk115 (Or_leastCoin_L134 k115 n) ih v3 v5 v6 v7 μ q h
set_option maxRecDepth 20000 in
theorem t_Or_leastCoin_L115_b (d : Nat) (k115 : Int → Int → am_M → am_O) (hk115 : ∀ (v3 : Int) (v5 : Int) (μ : am_M) q, k115 v3 v5 μ = some q → am_run none (am_ar g_mt (d + 2)) 8 (some .long) k_Or_leastCoin 115 [(0, (2, 60)), (3, (1, v3)), (5, (0, v5))] [] μ (am_res 1 q)) : ∀ (v3 : Int) (v5 : Int) (μ : am_M) q, Or_leastCoin_L115_b k115 v3 v5 μ = some q → am_run none (am_ar g_mt (d + 2)) 8 (some .long) k_Or_leastCoin 115 [(0, (2, 60)), (3, (1, v3)), (5, (0, v5))] [] μ (am_res 1 q) := by
  intro v3 v5 μ q h
  unfold Or_leastCoin_L115_b at h
  refine rn_sls 4 (pc' := 122) (ls' := [(0, (2, 60)), (3, (1, v3)), (5, (0, v5))]) (st' := [(0, (μ 60 8)), (2, 60), (0, v5)]) rfl ?_
  refine rn_call 0 0 [(2, 60), (0, (μ 60 8))] (r := [(0, v5)]) rfl ⟨rfl, Or.inl ⟨_, rfl, by decide⟩⟩ (by decide) (fun _ => ⟨_, rfl, rfl⟩) rfl rfl (Nat.le_of_ble_eq_true rfl) h (fun w hw => t_Or_slipOf (d + 1) _ _ _ hw) (fun a1 μ2 h => ?_)
  refine rn_sls 0 (pc' := 125) (ls' := [(0, (2, 60)), (3, (1, v3)), (5, (0, v5))]) (st' := [(0, a1), (0, v5)]) rfl ?_
  refine rn_icmpn (t := 191) rfl rfl rfl rfl h (fun h => ?_) (fun h => ?_)
  · refine rn_sls 4 (pc' := 134) (ls' := [(7, (0, 0)), (6, (0, 0)), (0, (2, 60)), (3, (1, v3)), (5, (0, v5))]) (st' := []) rfl ?_
    exact rn_sub [2, 3, 4, 1, 0] rfl (t_Or_leastCoin_L134 d k115 hk115 am_FU _ _ _ _ _ _ h)
  · refine rn_sls 1 (pc' := 192) (ls' := [(0, (2, 60)), (3, (1, v3)), (5, (0, v5))]) (st' := [(1, v3)]) rfl ?_
    exact rn_lret rfl rfl rfl h rfl
set_option maxRecDepth 20000 in
theorem t_Or_leastCoin_L115 (d : Nat) : ∀ (n : Nat) (v3 : Int) (v5 : Int) (μ : am_M) q, Or_leastCoin_L115 n v3 v5 μ = some q → am_run none (am_ar g_mt (d + 2)) 8 (some .long) k_Or_leastCoin 115 [(0, (2, 60)), (3, (1, v3)), (5, (0, v5))] [] μ (am_res 1 q) := by
  intro n
  induction n with
  | zero => intro v3 v5 μ q h; cases h
  | succ n ih => intro v3 v5 μ q h; exact t_Or_leastCoin_L115_b d (Or_leastCoin_L115 n) ih v3 v5 μ q h
set_option maxRecDepth 20000 in
theorem t_Or_leastCoin_L27_b (d : Nat) (k27 : Int → Int → Int → am_M → am_O) (hk27 : ∀ (v1 : Int) (v2 : Int) (v3 : Int) (μ : am_M) q, k27 v1 v2 v3 μ = some q → am_run none (am_ar g_mt (d + 2)) 8 (some .long) k_Or_leastCoin 27 [(0, (2, 60)), (1, (0, v1)), (2, (0, v2)), (3, (0, v3))] [] μ (am_res 1 q)) : ∀ (v1 : Int) (v2 : Int) (v3 : Int) (μ : am_M) q, Or_leastCoin_L27_b k27 v1 v2 v3 μ = some q → am_run none (am_ar g_mt (d + 2)) 8 (some .long) k_Or_leastCoin 27 [(0, (2, 60)), (1, (0, v1)), (2, (0, v2)), (3, (0, v3))] [] μ (am_res 1 q) := by
  intro v1 v2 v3 μ q h
  unfold Or_leastCoin_L27_b at h
  refine rn_sls 3 (pc' := 32) (ls' := [(0, (2, 60)), (1, (0, v1)), (2, (0, v2)), (3, (0, v3))]) (st' := [(0, (μ 60 8)), (0, v3)]) rfl ?_
  refine rn_icmpn (t := 103) rfl rfl rfl rfl h (fun h => ?_) (fun h => ?_)
  · refine rn_sls 4 (pc' := 41) (ls' := [(5, (0, 0)), (4, (0, v2)), (0, (2, 60)), (1, (0, v1)), (2, (0, v2)), (3, (0, v3))]) (st' := []) rfl ?_
    exact rn_sub [2, 3, 4, 5, 1, 0] rfl (t_Or_leastCoin_L41 d k27 hk27 am_FU _ _ _ _ _ _ _ h)
  · refine rn_sls 9 (pc' := 115) (ls' := [(5, (0, 0)), (3, (1, (w64 ((μ 60 8) * v2)))), (0, (2, 60)), (1, (0, v1)), (2, (0, v2))]) (st' := []) rfl ?_
    exact rn_sub [2, 1, 0] rfl (t_Or_leastCoin_L115 d  am_FU _ _ _ _ h)
set_option maxRecDepth 20000 in
theorem t_Or_leastCoin_L27 (d : Nat) : ∀ (n : Nat) (v1 : Int) (v2 : Int) (v3 : Int) (μ : am_M) q, Or_leastCoin_L27 n v1 v2 v3 μ = some q → am_run none (am_ar g_mt (d + 2)) 8 (some .long) k_Or_leastCoin 27 [(0, (2, 60)), (1, (0, v1)), (2, (0, v2)), (3, (0, v3))] [] μ (am_res 1 q) := by
  intro n
  induction n with
  | zero => intro v1 v2 v3 μ q h; cases h
  | succ n ih => intro v1 v2 v3 μ q h; exact t_Or_leastCoin_L27_b d (Or_leastCoin_L27 n) ih v1 v2 v3 μ q h
set_option maxRecDepth 20000 in
theorem t_Or_leastCoin_L2_b (d : Nat) (k2 : Int → Int → Int → am_M → am_O) (hk2 : ∀ (v1 : Int) (v2 : Int) (v3 : Int) (μ : am_M) q, k2 v1 v2 v3 μ = some q → am_run none (am_ar g_mt (d + 2)) 8 (some .long) k_Or_leastCoin 2 [(0, (2, 60)), (1, (0, v1)), (2, (0, v2)), (3, (0, v3))] [] μ (am_res 1 q)) : ∀ (v1 : Int) (v2 : Int) (v3 : Int) (μ : am_M) q, Or_leastCoin_L2_b k2 v1 v2 v3 μ = some q → am_run none (am_ar g_mt (d + 2)) 8 (some .long) k_Or_leastCoin 2 [(0, (2, 60)), (1, (0, v1)), (2, (0, v2)), (3, (0, v3))] [] μ (am_res 1 q) := by
  intro v1 v2 v3 μ q h
  unfold Or_leastCoin_L2_b at h
  refine rn_sls 3 (pc' := 7) (ls' := [(0, (2, 60)), (1, (0, v1)), (2, (0, v2)), (3, (0, v3))]) (st' := [(0, (μ 60 7)), (0, v3)]) rfl ?_
  refine rn_icmpn (t := 25) rfl rfl rfl rfl h (fun h => ?_) (fun h => ?_)
  · refine rn_sls 4 (pc' := 16) (ls' := [(0, (2, 60)), (1, (0, v1)), (2, (0, v2)), (3, (0, v3))]) (st' := [(0, v1), (0, v3), (2, 64)]) rfl ?_
    refine rn_call 3 2 [(2, 64), (0, v3), (0, v1)] (r := []) rfl ⟨rfl, Or.inr ⟨_, rfl, by decide⟩⟩ (by decide) (fun z => absurd z (by decide)) rfl rfl (Nat.le_of_ble_eq_true rfl) h (fun w hw => t_X_put (d + 1) _ _ _ _ _ hw) (fun a1 μ2 h => ?_)
    refine rn_sls 0 (pc' := 19) (ls' := [(0, (2, 60)), (1, (0, v1)), (2, (0, v2)), (3, (0, v3))]) (st' := []) rfl ?_
    refine rn_sls 1 (pc' := 22) (ls' := [(3, (0, (w32 (v3 + 1)))), (0, (2, 60)), (1, (0, v1)), (2, (0, v2))]) (st' := []) rfl ?_
    refine rn_goto (t := 2) rfl rfl rfl ?_
    exact rn_sub [1, 2, 3, 0] rfl (hk2 _ _ _ _ _ h)
  · refine rn_sls 2 (pc' := 27) (ls' := [(3, (0, 0)), (0, (2, 60)), (1, (0, v1)), (2, (0, v2))]) (st' := []) rfl ?_
    exact rn_sub [1, 2, 3, 0] rfl (t_Or_leastCoin_L27 d  am_FU _ _ _ _ _ h)
set_option maxRecDepth 20000 in
theorem t_Or_leastCoin_L2 (d : Nat) : ∀ (n : Nat) (v1 : Int) (v2 : Int) (v3 : Int) (μ : am_M) q, Or_leastCoin_L2 n v1 v2 v3 μ = some q → am_run none (am_ar g_mt (d + 2)) 8 (some .long) k_Or_leastCoin 2 [(0, (2, 60)), (1, (0, v1)), (2, (0, v2)), (3, (0, v3))] [] μ (am_res 1 q) := by
  intro n
  induction n with
  | zero => intro v1 v2 v3 μ q h; cases h
  | succ n ih => intro v1 v2 v3 μ q h; exact t_Or_leastCoin_L2_b d (Or_leastCoin_L2 n) ih v1 v2 v3 μ q h
set_option maxRecDepth 20000 in
theorem t_Or_leastCoin (d : Nat) : ∀ (v1 : Int) (v2 : Int) (μ : am_M) q, Or_leastCoin v1 v2 μ = some q → am_ar g_mt (d + 3) 59 [(2, 60), (0, v1), (0, v2)] μ (am_res 1 q) := by
  intro v1 v2 μ q h
  unfold Or_leastCoin at h
  refine am_ar_of (d := d + 2) i_Or_leastCoin rfl rfl (Nat.le_of_ble_eq_true rfl) ?_
  show am_run none (am_ar g_mt (d + 2)) 8 (some .long) k_Or_leastCoin 0 [(0, (2, 60)), (1, (0, v1)), (2, (0, v2))] [] μ (am_res 1 q)
  refine rn_sls 2 (pc' := 2) (ls' := [(3, (0, 0)), (0, (2, 60)), (1, (0, v1)), (2, (0, v2))]) (st' := []) rfl ?_
  exact rn_sub [1, 2, 3, 0] rfl (t_Or_leastCoin_L2 d  am_FU _ _ _ _ _ h)
set_option maxRecDepth 20000 in
theorem t_Rd_fail (d : Nat) : ∀ (v1 : Int) (μ : am_M) q, Rd_fail v1 μ = some q → am_ar g_mt (d + 1) 61 [(2, 20), (0, v1)] μ (am_res 0 q) := by
  intro v1 μ q h
  unfold Rd_fail at h
  refine am_ar_of (d := d + 0) i_Rd_fail rfl rfl (Nat.le_of_ble_eq_true rfl) ?_
  show am_run none (am_ar g_mt (d + 0)) 2 (some .boolean) k_Rd_fail 0 [(0, (2, 20)), (1, (0, v1))] [] μ (am_res 0 q)
  refine rn_sls 2 (pc' := 4) (ls' := [(0, (2, 20)), (1, (0, v1))]) (st' := [(0, (μ 20 10))]) rfl ?_
  refine rn_ifn (t := 23) rfl rfl rfl rfl h (fun h => ?_) (fun h => ?_)
  · refine rn_sls 8 (pc' := 20) (ls' := [(0, (2, 20)), (1, (0, v1))]) (st' := [(0, (w32 (v1 + (w32 (16 * (μ 10 3)))))), (2, 20)]) rfl ?_
    refine rn_put rfl rfl rfl rfl (Or.inl ⟨rfl, rfl⟩) rfl h (fun μ1 h => ?_)
    refine rn_sls 1 (pc' := 24) (ls' := [(0, (2, 20)), (1, (0, v1))]) (st' := [(0, 0)]) rfl ?_
    exact rn_iretb rfl rfl rfl (Or.inl rfl) h rfl
  · refine rn_sls 1 (pc' := 24) (ls' := [(0, (2, 20)), (1, (0, v1))]) (st' := [(0, 0)]) rfl ?_
    exact rn_iretb rfl rfl rfl (Or.inl rfl) h rfl
set_option maxRecDepth 20000 in
theorem t_Tp_withLetter (d : Nat) : ∀ (v0 : Int) (v2 : Int) (μ : am_M) q, Tp_withLetter v0 v2 μ = some q → am_ar g_mt (d + 1) 98 [(1, v0), (0, v2)] μ (am_res 1 q) := by
  intro v0 v2 μ q h
  unfold Tp_withLetter at h
  refine am_ar_of (d := d + 0) i_Tp_withLetter rfl rfl (Nat.le_of_ble_eq_true rfl) ?_
  show am_run none (am_ar g_mt (d + 0)) 3 (some .long) k_Tp_withLetter 0 [(0, (1, v0)), (2, (0, v2))] [] μ (am_res 1 q)
  refine rn_sls 10 (pc' := 13) (ls' := [(0, (1, v0)), (2, (0, v2))]) (st' := [(1, (w64 ((w64 (v0 * 32)) + (w32 ((w32 (v2 - 97)) + 1)))))]) rfl ?_
  exact rn_lret rfl rfl rfl h rfl
set_option maxRecDepth 20000 in
theorem t_Tp_isLetter (d : Nat) : ∀ (v0 : Int) (μ : am_M) q, Tp_isLetter v0 μ = some q → am_ar g_mt (d + 1) 100 [(0, v0)] μ (am_res 0 q) := by
  intro v0 μ q h
  unfold Tp_isLetter at h
  refine am_ar_of (d := d + 0) i_Tp_isLetter rfl rfl (Nat.le_of_ble_eq_true rfl) ?_
  show am_run none (am_ar g_mt (d + 0)) 1 (some .boolean) k_Tp_isLetter 0 [(0, (0, v0))] [] μ (am_res 0 q)
  refine rn_sls 2 (pc' := 3) (ls' := [(0, (0, v0))]) (st' := [(0, 97), (0, v0)]) rfl ?_
  refine rn_icmp (t := 16) rfl rfl rfl rfl h (fun h => ?_) (fun h => ?_)
  · refine rn_sls 1 (pc' := 17) (ls' := [(0, (0, v0))]) (st' := [(0, 0)]) rfl ?_
    exact rn_iretb rfl rfl rfl (Or.inl rfl) h rfl
  · refine rn_sls 2 (pc' := 9) (ls' := [(0, (0, v0))]) (st' := [(0, 122), (0, v0)]) rfl ?_
    refine rn_icmpn (t := 16) rfl rfl rfl rfl h (fun h => ?_) (fun h => ?_)
    · refine rn_sls 1 (pc' := 13) (ls' := [(0, (0, v0))]) (st' := [(0, 1)]) rfl ?_
      refine rn_goto (t := 17) rfl rfl rfl ?_
      exact rn_iretb rfl rfl rfl (Or.inr rfl) h rfl
    · refine rn_sls 1 (pc' := 17) (ls' := [(0, (0, v0))]) (st' := [(0, 0)]) rfl ?_
      exact rn_iretb rfl rfl rfl (Or.inl rfl) h rfl
set_option maxRecDepth 20000 in
theorem t_X_find_L3_b (d : Nat) (k3 : Int → Int → Int → Int → am_M → am_O) (hk3 : ∀ (v0 : Int) (v1 : Int) (v2 : Int) (v4 : Int) (μ : am_M) q, k3 v0 v1 v2 v4 μ = some q → am_run none (am_ar g_mt (d + 0)) 5 (some .int) k_X_find 3 [(0, (2, v0)), (1, (0, v1)), (2, (1, v2)), (4, (0, v4))] [] μ (am_res 0 q)) : ∀ (v0 : Int) (v1 : Int) (v2 : Int) (v4 : Int) (μ : am_M) q, X_find_L3_b k3 v0 v1 v2 v4 μ = some q → am_run none (am_ar g_mt (d + 0)) 5 (some .int) k_X_find 3 [(0, (2, v0)), (1, (0, v1)), (2, (1, v2)), (4, (0, v4))] [] μ (am_res 0 q) := by
  intro v0 v1 v2 v4 μ q h
  unfold X_find_L3_b at h
  refine rn_sls 2 (pc' := 6) (ls' := [(0, (2, v0)), (1, (0, v1)), (2, (1, v2)), (4, (0, v4))]) (st' := [(0, v1), (0, v4)]) rfl ?_
  refine rn_icmpn (t := 34) rfl rfl rfl rfl h (fun h => ?_) (fun h => ?_)
  · refine rn_sls 2 (pc' := 12) (ls' := [(0, (2, v0)), (1, (0, v1)), (2, (1, v2)), (4, (0, v4))]) (st' := [(2, v0), (0, v4)]) rfl ?_
    refine rn_len rfl rfl rfl h (fun a1 h => ?_)
    refine rn_icmpn (t := 34) rfl rfl rfl rfl h (fun h => ?_) (fun h => ?_)
    · refine rn_sls 2 (pc' := 19) (ls' := [(0, (2, v0)), (1, (0, v1)), (2, (1, v2)), (4, (0, v4))]) (st' := [(0, v4), (2, v0)]) rfl ?_
      refine rn_lald (n := (am_lenK 1 v0)) rfl rfl rfl h (fun a2 h => ?_)
      refine rn_sls 2 (pc' := 22) (ls' := [(0, (2, v0)), (1, (0, v1)), (2, (1, v2)), (4, (0, v4))]) (st' := [(0, (lCmp a2 v2))]) rfl ?_
      refine rn_ifn (t := 28) rfl rfl rfl rfl h (fun h => ?_) (fun h => ?_)
      · refine rn_sls 1 (pc' := 27) (ls' := [(0, (2, v0)), (1, (0, v1)), (2, (1, v2)), (4, (0, v4))]) (st' := [(0, v4)]) rfl ?_
        exact rn_ireti rfl rfl rfl h rfl
      · refine rn_sls 1 (pc' := 31) (ls' := [(4, (0, (w32 (v4 + 1)))), (0, (2, v0)), (1, (0, v1)), (2, (1, v2))]) (st' := []) rfl ?_
        refine rn_goto (t := 3) rfl rfl rfl ?_
        exact rn_sub [1, 2, 3, 0] rfl (hk3 _ _ _ _ _ _ h)
    · refine rn_sls 1 (pc' := 35) (ls' := [(0, (2, v0)), (1, (0, v1)), (2, (1, v2)), (4, (0, v4))]) (st' := [(0, (-1))]) rfl ?_
      exact rn_ireti rfl rfl rfl h rfl
  · refine rn_sls 1 (pc' := 35) (ls' := [(0, (2, v0)), (1, (0, v1)), (2, (1, v2)), (4, (0, v4))]) (st' := [(0, (-1))]) rfl ?_
    exact rn_ireti rfl rfl rfl h rfl
set_option maxRecDepth 20000 in
theorem t_X_find_L3 (d : Nat) : ∀ (n : Nat) (v0 : Int) (v1 : Int) (v2 : Int) (v4 : Int) (μ : am_M) q, X_find_L3 n v0 v1 v2 v4 μ = some q → am_run none (am_ar g_mt (d + 0)) 5 (some .int) k_X_find 3 [(0, (2, v0)), (1, (0, v1)), (2, (1, v2)), (4, (0, v4))] [] μ (am_res 0 q) := by
  intro n
  induction n with
  | zero => intro v0 v1 v2 v4 μ q h; cases h
  | succ n ih => intro v0 v1 v2 v4 μ q h; exact t_X_find_L3_b d (X_find_L3 n) ih v0 v1 v2 v4 μ q h
set_option maxRecDepth 20000 in
theorem t_X_find (d : Nat) : ∀ (v0 : Int) (v1 : Int) (v2 : Int) (μ : am_M) q, X_find v0 v1 v2 μ = some q → am_ar g_mt (d + 1) 141 [(2, v0), (0, v1), (1, v2)] μ (am_res 0 q) := by
  intro v0 v1 v2 μ q h
  unfold X_find at h
  refine am_ar_of (d := d + 0) i_X_find rfl rfl (Nat.le_of_ble_eq_true rfl) ?_
  show am_run none (am_ar g_mt (d + 0)) 5 (some .int) k_X_find 0 [(0, (2, v0)), (1, (0, v1)), (2, (1, v2))] [] μ (am_res 0 q)
  refine rn_sls 2 (pc' := 3) (ls' := [(4, (0, 0)), (0, (2, v0)), (1, (0, v1)), (2, (1, v2))]) (st' := []) rfl ?_
  exact rn_sub [1, 2, 3, 0] rfl (t_X_find_L3 d  am_FU _ _ _ _ _ _ h)
set_option maxRecDepth 20000 in
theorem t_Tp_readWord_B101 (d : Nat) : ∀ (v2 : Int) (s1 : Int) (μ : am_M) q, Tp_readWord_B101 v2 s1 μ = some q → am_run none (am_ar g_mt (d + 1)) 6 none k_Tp_readWord 101 [(0, (2, 10)), (2, (1, v2))] [(0, s1), (2, 10)] μ (am_res 2 q) := by
  intro v2 s1 μ q h
  unfold Tp_readWord_B101 at h
  refine rn_put rfl rfl rfl rfl (Or.inl ⟨rfl, rfl⟩) rfl h (fun μ1 h => ?_)
  refine rn_sls 2 (pc' := 106) (ls' := [(0, (2, 10)), (2, (1, v2))]) (st' := [(1, v2), (2, 10)]) rfl ?_
  refine rn_put rfl rfl rfl rfl (Or.inr (Or.inl ⟨rfl, rfl⟩)) rfl h (fun μ2 h => ?_)
  exact rn_ret (v := 0) rfl rfl rfl h rfl
set_option maxRecDepth 20000 in
theorem t_Tp_readWord_B49 (d : Nat) : ∀ (v1 : Int) (v2 : Int) (v4 : Int) (μ : am_M) q, Tp_readWord_B49 v1 v2 v4 μ = some q → am_run none (am_ar g_mt (d + 1)) 6 none k_Tp_readWord 49 [(0, (2, 10)), (1, (0, v1)), (2, (1, v2)), (4, (0, v4))] [] μ (am_res 2 q) := by
  intro v1 v2 v4 μ q h
  unfold Tp_readWord_B49 at h
  refine rn_sls 2 (pc' := 52) (ls' := [(0, (2, 10)), (1, (0, v1)), (2, (1, v2)), (4, (0, v4))]) (st' := [(0, v4), (2, 10)]) rfl ?_
  refine rn_put rfl rfl rfl rfl (Or.inl ⟨rfl, rfl⟩) rfl h (fun μ1 h => ?_)
  refine rn_sls 4 (pc' := 61) (ls' := [(0, (2, 10)), (1, (0, v1)), (2, (1, v2)), (4, (0, v4))]) (st' := [(0, 8), (0, (w32 (v4 - v1)))]) rfl ?_
  refine rn_icmp (t := 70) rfl rfl rfl rfl h (fun h => ?_) (fun h => ?_)
  · refine rn_sls 6 (pc' := 80) (ls' := [(0, (2, 10)), (1, (0, v1)), (2, (1, v2)), (4, (0, v4))]) (st' := [(1, v2), (0, 17), (2, 12)]) rfl ?_
    refine rn_call 3 0 [(2, 12), (0, 17), (1, v2)] (r := []) rfl ⟨rfl, Or.inr ⟨_, rfl, by decide⟩⟩ (by decide) (fun z => absurd z (by decide)) rfl rfl (Nat.le_of_ble_eq_true rfl) h (fun w hw => t_X_find (d + 0) _ _ _ _ _ hw) (fun a2 μ3 h => ?_)
    refine rn_sls 0 (pc' := 83) (ls' := [(0, (2, 10)), (1, (0, v1)), (2, (1, v2)), (4, (0, v4))]) (st' := [(0, a2)]) rfl ?_
    refine rn_sls 4 (pc' := 89) (ls' := [(5, (0, a2)), (0, (2, 10)), (1, (0, v1)), (2, (1, v2)), (4, (0, v4))]) (st' := [(0, (-1)), (0, a2), (2, 10)]) rfl ?_
    refine rn_icmpn (t := 96) rfl rfl rfl rfl h (fun h => ?_) (fun h => ?_)
    · refine rn_sls 1 (pc' := 93) (ls' := [(5, (0, a2)), (0, (2, 10)), (1, (0, v1)), (2, (1, v2)), (4, (0, v4))]) (st' := [(0, 2), (2, 10)]) rfl ?_
      refine rn_goto (t := 101) rfl rfl rfl ?_
      exact rn_sub [1, 3] rfl (t_Tp_readWord_B101 d  _ _ _ _ h)
    · refine rn_sls 3 (pc' := 101) (ls' := [(5, (0, a2)), (0, (2, 10)), (1, (0, v1)), (2, (1, v2)), (4, (0, v4))]) (st' := [(0, (w32 (100 + a2))), (2, 10)]) rfl ?_
      exact rn_sub [1, 3] rfl (t_Tp_readWord_B101 d  _ _ _ _ h)
  · refine rn_sls 2 (pc' := 66) (ls' := [(0, (2, 10)), (1, (0, v1)), (2, (1, v2)), (4, (0, v4))]) (st' := [(0, 0), (2, 10)]) rfl ?_
    refine rn_put rfl rfl rfl rfl (Or.inl ⟨rfl, rfl⟩) rfl h (fun μ4 h => ?_)
    exact rn_ret (v := 0) rfl rfl rfl h rfl
set_option maxRecDepth 20000 in
theorem t_Tp_readWord_L5_b (d : Nat) (k5 : Int → Int → Int → am_M → am_O) (hk5 : ∀ (v1 : Int) (v2 : Int) (v4 : Int) (μ : am_M) q, k5 v1 v2 v4 μ = some q → am_run none (am_ar g_mt (d + 1)) 6 none k_Tp_readWord 5 [(0, (2, 10)), (1, (0, v1)), (2, (1, v2)), (4, (0, v4))] [] μ (am_res 2 q)) : ∀ (v1 : Int) (v2 : Int) (v4 : Int) (μ : am_M) q, Tp_readWord_L5_b k5 v1 v2 v4 μ = some q → am_run none (am_ar g_mt (d + 1)) 6 none k_Tp_readWord 5 [(0, (2, 10)), (1, (0, v1)), (2, (1, v2)), (4, (0, v4))] [] μ (am_res 2 q) := by
  intro v1 v2 v4 μ q h
  unfold Tp_readWord_L5_b at h
  refine rn_sls 3 (pc' := 11) (ls' := [(0, (2, 10)), (1, (0, v1)), (2, (1, v2)), (4, (0, v4))]) (st' := [(0, (μ 10 2)), (0, v4)]) rfl ?_
  refine rn_icmpn (t := 49) rfl rfl rfl rfl h (fun h => ?_) (fun h => ?_)
  · refine rn_sls 3 (pc' := 20) (ls' := [(0, (2, 10)), (1, (0, v1)), (2, (1, v2)), (4, (0, v4))]) (st' := [(0, v4), (2, 11)]) rfl ?_
    refine rn_call 3 0 [(2, 11), (0, v4)] (r := []) rfl ⟨rfl, Or.inr ⟨_, rfl, by decide⟩⟩ (by decide) (fun z => absurd z (by decide)) rfl rfl (Nat.le_of_ble_eq_true rfl) h (fun w hw => t_X_at (d + 0) _ _ _ _ hw) (fun a1 μ2 h => ?_)
    refine rn_sls 0 (pc' := 23) (ls' := [(0, (2, 10)), (1, (0, v1)), (2, (1, v2)), (4, (0, v4))]) (st' := [(0, a1)]) rfl ?_
    refine rn_call 2 0 [(0, a1)] (r := []) rfl ⟨rfl, Or.inr ⟨_, rfl, by decide⟩⟩ (by decide) (fun z => absurd z (by decide)) rfl rfl (Nat.le_of_ble_eq_true rfl) h (fun w hw => t_Tp_isLetter (d + 0) _ _ _ hw) (fun a3 μ4 h => ?_)
    refine rn_sls 0 (pc' := 26) (ls' := [(0, (2, 10)), (1, (0, v1)), (2, (1, v2)), (4, (0, v4))]) (st' := [(0, a3)]) rfl ?_
    refine rn_if (t := 49) rfl rfl rfl rfl h (fun h => ?_) (fun h => ?_)
    · exact rn_sub [0, 1, 2, 3] rfl (t_Tp_readWord_B49 d  _ _ _ _ _ h)
    · refine rn_sls 4 (pc' := 36) (ls' := [(0, (2, 10)), (1, (0, v1)), (2, (1, v2)), (4, (0, v4))]) (st' := [(0, v4), (2, 11), (1, v2)]) rfl ?_
      refine rn_call 3 0 [(2, 11), (0, v4)] (r := [(1, v2)]) rfl ⟨rfl, Or.inr ⟨_, rfl, by decide⟩⟩ (by decide) (fun z => absurd z (by decide)) rfl rfl (Nat.le_of_ble_eq_true rfl) h (fun w hw => t_X_at (d + 0) _ _ _ _ hw) (fun a5 μ6 h => ?_)
      refine rn_sls 0 (pc' := 39) (ls' := [(0, (2, 10)), (1, (0, v1)), (2, (1, v2)), (4, (0, v4))]) (st' := [(0, a5), (1, v2)]) rfl ?_
      refine rn_call 2 1 [(1, v2), (0, a5)] (r := []) rfl ⟨rfl, Or.inr ⟨_, rfl, by decide⟩⟩ (by decide) (fun z => absurd z (by decide)) rfl rfl (Nat.le_of_ble_eq_true rfl) h (fun w hw => t_Tp_withLetter (d + 0) _ _ _ _ hw) (fun a7 μ8 h => ?_)
      refine rn_sls 0 (pc' := 42) (ls' := [(0, (2, 10)), (1, (0, v1)), (2, (1, v2)), (4, (0, v4))]) (st' := [(1, a7)]) rfl ?_
      refine rn_sls 2 (pc' := 46) (ls' := [(4, (0, (w32 (v4 + 1)))), (2, (1, a7)), (0, (2, 10)), (1, (0, v1))]) (st' := []) rfl ?_
      refine rn_goto (t := 5) rfl rfl rfl ?_
      exact rn_sub [2, 3, 1, 0] rfl (hk5 _ _ _ _ _ h)
  · exact rn_sub [0, 1, 2, 3] rfl (t_Tp_readWord_B49 d  _ _ _ _ _ h)
set_option maxRecDepth 20000 in
theorem t_Tp_readWord_L5 (d : Nat) : ∀ (n : Nat) (v1 : Int) (v2 : Int) (v4 : Int) (μ : am_M) q, Tp_readWord_L5 n v1 v2 v4 μ = some q → am_run none (am_ar g_mt (d + 1)) 6 none k_Tp_readWord 5 [(0, (2, 10)), (1, (0, v1)), (2, (1, v2)), (4, (0, v4))] [] μ (am_res 2 q) := by
  intro n
  induction n with
  | zero => intro v1 v2 v4 μ q h; cases h
  | succ n ih => intro v1 v2 v4 μ q h; exact t_Tp_readWord_L5_b d (Tp_readWord_L5 n) ih v1 v2 v4 μ q h
set_option maxRecDepth 20000 in
theorem t_Tp_readWord (d : Nat) : ∀ (v1 : Int) (μ : am_M) q, Tp_readWord v1 μ = some q → am_ar g_mt (d + 2) 96 [(2, 10), (0, v1)] μ (am_res 2 q) := by
  intro v1 μ q h
  unfold Tp_readWord at h
  refine am_ar_of (d := d + 1) i_Tp_readWord rfl rfl (Nat.le_of_ble_eq_true rfl) ?_
  show am_run none (am_ar g_mt (d + 1)) 6 none k_Tp_readWord 0 [(0, (2, 10)), (1, (0, v1))] [] μ (am_res 2 q)
  refine rn_sls 4 (pc' := 5) (ls' := [(4, (0, v1)), (2, (1, 0)), (0, (2, 10)), (1, (0, v1))]) (st' := []) rfl ?_
  exact rn_sub [2, 3, 1, 0] rfl (t_Tp_readWord_L5 d  am_FU _ _ _ _ _ h)
set_option maxRecDepth 20000 in
theorem t_Tp_isDigit (d : Nat) : ∀ (v0 : Int) (μ : am_M) q, Tp_isDigit v0 μ = some q → am_ar g_mt (d + 1) 101 [(0, v0)] μ (am_res 0 q) := by
  intro v0 μ q h
  unfold Tp_isDigit at h
  refine am_ar_of (d := d + 0) i_Tp_isDigit rfl rfl (Nat.le_of_ble_eq_true rfl) ?_
  show am_run none (am_ar g_mt (d + 0)) 1 (some .boolean) k_Tp_isDigit 0 [(0, (0, v0))] [] μ (am_res 0 q)
  refine rn_sls 2 (pc' := 3) (ls' := [(0, (0, v0))]) (st' := [(0, 48), (0, v0)]) rfl ?_
  refine rn_icmp (t := 16) rfl rfl rfl rfl h (fun h => ?_) (fun h => ?_)
  · refine rn_sls 1 (pc' := 17) (ls' := [(0, (0, v0))]) (st' := [(0, 0)]) rfl ?_
    exact rn_iretb rfl rfl rfl (Or.inl rfl) h rfl
  · refine rn_sls 2 (pc' := 9) (ls' := [(0, (0, v0))]) (st' := [(0, 57), (0, v0)]) rfl ?_
    refine rn_icmpn (t := 16) rfl rfl rfl rfl h (fun h => ?_) (fun h => ?_)
    · refine rn_sls 1 (pc' := 13) (ls' := [(0, (0, v0))]) (st' := [(0, 1)]) rfl ?_
      refine rn_goto (t := 17) rfl rfl rfl ?_
      exact rn_iretb rfl rfl rfl (Or.inr rfl) h rfl
    · refine rn_sls 1 (pc' := 17) (ls' := [(0, (0, v0))]) (st' := [(0, 0)]) rfl ?_
      exact rn_iretb rfl rfl rfl (Or.inl rfl) h rfl
set_option maxRecDepth 20000 in
theorem t_Tp_readNumber_B67 (d : Nat) : ∀ (v2 : Int) (s1 : Int) (μ : am_M) q, Tp_readNumber_B67 v2 s1 μ = some q → am_run none (am_ar g_mt (d + 1)) 4 none k_Tp_readNumber 67 [(0, (2, 10)), (2, (0, v2))] [(0, s1), (2, 10)] μ (am_res 2 q) := by
  intro v2 s1 μ q h
  unfold Tp_readNumber_B67 at h
  refine rn_put rfl rfl rfl rfl (Or.inl ⟨rfl, rfl⟩) rfl h (fun μ1 h => ?_)
  refine rn_sls 2 (pc' := 72) (ls' := [(0, (2, 10)), (2, (0, v2))]) (st' := [(0, v2), (2, 10)]) rfl ?_
  refine rn_put rfl rfl rfl rfl (Or.inl ⟨rfl, rfl⟩) rfl h (fun μ2 h => ?_)
  exact rn_ret (v := 0) rfl rfl rfl h rfl
set_option maxRecDepth 20000 in
theorem t_Tp_readNumber_B49 (d : Nat) : ∀ (v1 : Int) (v2 : Int) (v3 : Int) (μ : am_M) q, Tp_readNumber_B49 v1 v2 v3 μ = some q → am_run none (am_ar g_mt (d + 1)) 4 none k_Tp_readNumber 49 [(0, (2, 10)), (1, (0, v1)), (2, (0, v2)), (3, (0, v3))] [] μ (am_res 2 q) := by
  intro v1 v2 v3 μ q h
  unfold Tp_readNumber_B49 at h
  refine rn_sls 2 (pc' := 51) (ls' := [(0, (2, 10)), (1, (0, v1)), (2, (0, v2)), (3, (0, v3))]) (st' := [(0, v3), (2, 10)]) rfl ?_
  refine rn_put rfl rfl rfl rfl (Or.inl ⟨rfl, rfl⟩) rfl h (fun μ1 h => ?_)
  refine rn_sls 5 (pc' := 59) (ls' := [(0, (2, 10)), (1, (0, v1)), (2, (0, v2)), (3, (0, v3))]) (st' := [(0, 4), (0, (w32 (v3 - v1))), (2, 10)]) rfl ?_
  refine rn_icmp (t := 66) rfl rfl rfl rfl h (fun h => ?_) (fun h => ?_)
  · refine rn_sls 1 (pc' := 67) (ls' := [(0, (2, 10)), (1, (0, v1)), (2, (0, v2)), (3, (0, v3))]) (st' := [(0, 3), (2, 10)]) rfl ?_
    exact rn_sub [0, 2] rfl (t_Tp_readNumber_B67 d  _ _ _ _ h)
  · refine rn_sls 1 (pc' := 63) (ls' := [(0, (2, 10)), (1, (0, v1)), (2, (0, v2)), (3, (0, v3))]) (st' := [(0, 0), (2, 10)]) rfl ?_
    refine rn_goto (t := 67) rfl rfl rfl ?_
    exact rn_sub [0, 2] rfl (t_Tp_readNumber_B67 d  _ _ _ _ h)
set_option maxRecDepth 20000 in
theorem t_Tp_readNumber_L4_b (d : Nat) (k4 : Int → Int → Int → am_M → am_O) (hk4 : ∀ (v1 : Int) (v2 : Int) (v3 : Int) (μ : am_M) q, k4 v1 v2 v3 μ = some q → am_run none (am_ar g_mt (d + 1)) 4 none k_Tp_readNumber 4 [(0, (2, 10)), (1, (0, v1)), (2, (0, v2)), (3, (0, v3))] [] μ (am_res 2 q)) : ∀ (v1 : Int) (v2 : Int) (v3 : Int) (μ : am_M) q, Tp_readNumber_L4_b k4 v1 v2 v3 μ = some q → am_run none (am_ar g_mt (d + 1)) 4 none k_Tp_readNumber 4 [(0, (2, 10)), (1, (0, v1)), (2, (0, v2)), (3, (0, v3))] [] μ (am_res 2 q) := by
  intro v1 v2 v3 μ q h
  unfold Tp_readNumber_L4_b at h
  refine rn_sls 3 (pc' := 9) (ls' := [(0, (2, 10)), (1, (0, v1)), (2, (0, v2)), (3, (0, v3))]) (st' := [(0, (μ 10 2)), (0, v3)]) rfl ?_
  refine rn_icmpn (t := 49) rfl rfl rfl rfl h (fun h => ?_) (fun h => ?_)
  · refine rn_sls 3 (pc' := 17) (ls' := [(0, (2, 10)), (1, (0, v1)), (2, (0, v2)), (3, (0, v3))]) (st' := [(0, v3), (2, 11)]) rfl ?_
    refine rn_call 3 0 [(2, 11), (0, v3)] (r := []) rfl ⟨rfl, Or.inr ⟨_, rfl, by decide⟩⟩ (by decide) (fun z => absurd z (by decide)) rfl rfl (Nat.le_of_ble_eq_true rfl) h (fun w hw => t_X_at (d + 0) _ _ _ _ hw) (fun a1 μ2 h => ?_)
    refine rn_sls 0 (pc' := 20) (ls' := [(0, (2, 10)), (1, (0, v1)), (2, (0, v2)), (3, (0, v3))]) (st' := [(0, a1)]) rfl ?_
    refine rn_call 2 0 [(0, a1)] (r := []) rfl ⟨rfl, Or.inr ⟨_, rfl, by decide⟩⟩ (by decide) (fun z => absurd z (by decide)) rfl rfl (Nat.le_of_ble_eq_true rfl) h (fun w hw => t_Tp_isDigit (d + 0) _ _ _ hw) (fun a3 μ4 h => ?_)
    refine rn_sls 0 (pc' := 23) (ls' := [(0, (2, 10)), (1, (0, v1)), (2, (0, v2)), (3, (0, v3))]) (st' := [(0, a3)]) rfl ?_
    refine rn_if (t := 49) rfl rfl rfl rfl h (fun h => ?_) (fun h => ?_)
    · exact rn_sub [0, 1, 2, 3] rfl (t_Tp_readNumber_B49 d  _ _ _ _ _ h)
    · refine rn_sls 6 (pc' := 35) (ls' := [(0, (2, 10)), (1, (0, v1)), (2, (0, v2)), (3, (0, v3))]) (st' := [(0, v3), (2, 11), (0, (w32 (v2 * 10)))]) rfl ?_
      refine rn_call 3 0 [(2, 11), (0, v3)] (r := [(0, (w32 (v2 * 10)))]) rfl ⟨rfl, Or.inr ⟨_, rfl, by decide⟩⟩ (by decide) (fun z => absurd z (by decide)) rfl rfl (Nat.le_of_ble_eq_true rfl) h (fun w hw => t_X_at (d + 0) _ _ _ _ hw) (fun a5 μ6 h => ?_)
      refine rn_sls 0 (pc' := 38) (ls' := [(0, (2, 10)), (1, (0, v1)), (2, (0, v2)), (3, (0, v3))]) (st' := [(0, a5), (0, (w32 (v2 * 10)))]) rfl ?_
      refine rn_sls 4 (pc' := 43) (ls' := [(2, (0, (w32 ((w32 ((w32 (v2 * 10)) + a5)) - 48)))), (0, (2, 10)), (1, (0, v1)), (3, (0, v3))]) (st' := []) rfl ?_
      refine rn_nm (ls := fun x => [(2, (0, x)), (0, (2, 10)), (1, (0, v1)), (3, (0, v3))]) (st := fun x => []) h (fun a7 h => ?_)
      refine rn_sls 1 (pc' := 46) (ls' := [(3, (0, (w32 (v3 + 1)))), (2, (0, a7)), (0, (2, 10)), (1, (0, v1))]) (st' := []) rfl ?_
      refine rn_goto (t := 4) rfl rfl rfl ?_
      exact rn_sub [2, 3, 1, 0] rfl (hk4 _ _ _ _ _ h)
  · exact rn_sub [0, 1, 2, 3] rfl (t_Tp_readNumber_B49 d  _ _ _ _ _ h)
set_option maxRecDepth 20000 in
theorem t_Tp_readNumber_L4 (d : Nat) : ∀ (n : Nat) (v1 : Int) (v2 : Int) (v3 : Int) (μ : am_M) q, Tp_readNumber_L4 n v1 v2 v3 μ = some q → am_run none (am_ar g_mt (d + 1)) 4 none k_Tp_readNumber 4 [(0, (2, 10)), (1, (0, v1)), (2, (0, v2)), (3, (0, v3))] [] μ (am_res 2 q) := by
  intro n
  induction n with
  | zero => intro v1 v2 v3 μ q h; cases h
  | succ n ih => intro v1 v2 v3 μ q h; exact t_Tp_readNumber_L4_b d (Tp_readNumber_L4 n) ih v1 v2 v3 μ q h
set_option maxRecDepth 20000 in
theorem t_Tp_readNumber (d : Nat) : ∀ (v1 : Int) (μ : am_M) q, Tp_readNumber v1 μ = some q → am_ar g_mt (d + 2) 97 [(2, 10), (0, v1)] μ (am_res 2 q) := by
  intro v1 μ q h
  unfold Tp_readNumber at h
  refine am_ar_of (d := d + 1) i_Tp_readNumber rfl rfl (Nat.le_of_ble_eq_true rfl) ?_
  show am_run none (am_ar g_mt (d + 1)) 4 none k_Tp_readNumber 0 [(0, (2, 10)), (1, (0, v1))] [] μ (am_res 2 q)
  refine rn_sls 4 (pc' := 4) (ls' := [(3, (0, v1)), (2, (0, 0)), (0, (2, 10)), (1, (0, v1))]) (st' := []) rfl ?_
  exact rn_sub [2, 3, 1, 0] rfl (t_Tp_readNumber_L4 d  am_FU _ _ _ _ _ h)
set_option maxRecDepth 20000 in
theorem t_Tp_isBlank (d : Nat) : ∀ (v0 : Int) (μ : am_M) q, Tp_isBlank v0 μ = some q → am_ar g_mt (d + 1) 99 [(0, v0)] μ (am_res 0 q) := by
  intro v0 μ q h
  unfold Tp_isBlank at h
  refine am_ar_of (d := d + 0) i_Tp_isBlank rfl rfl (Nat.le_of_ble_eq_true rfl) ?_
  show am_run none (am_ar g_mt (d + 0)) 1 (some .boolean) k_Tp_isBlank 0 [(0, (0, v0))] [] μ (am_res 0 q)
  refine rn_sls 2 (pc' := 3) (ls' := [(0, (0, v0))]) (st' := [(0, 10), (0, v0)]) rfl ?_
  refine rn_icmp (t := 12) rfl rfl rfl rfl h (fun h => ?_) (fun h => ?_)
  · refine rn_sls 1 (pc' := 13) (ls' := [(0, (0, v0))]) (st' := [(0, 1)]) rfl ?_
    refine rn_goto (t := 17) rfl rfl rfl ?_
    exact rn_iretb rfl rfl rfl (Or.inr rfl) h rfl
  · refine rn_sls 2 (pc' := 9) (ls' := [(0, (0, v0))]) (st' := [(0, 32), (0, v0)]) rfl ?_
    refine rn_icmpn (t := 16) rfl rfl rfl rfl h (fun h => ?_) (fun h => ?_)
    · refine rn_sls 1 (pc' := 13) (ls' := [(0, (0, v0))]) (st' := [(0, 1)]) rfl ?_
      refine rn_goto (t := 17) rfl rfl rfl ?_
      exact rn_iretb rfl rfl rfl (Or.inr rfl) h rfl
    · refine rn_sls 1 (pc' := 17) (ls' := [(0, (0, v0))]) (st' := [(0, 0)]) rfl ?_
      exact rn_iretb rfl rfl rfl (Or.inl rfl) h rfl
set_option maxRecDepth 20000 in
theorem t_Tp_isSign (d : Nat) : ∀ (v0 : Int) (μ : am_M) q, Tp_isSign v0 μ = some q → am_ar g_mt (d + 1) 102 [(0, v0)] μ (am_res 0 q) := by
  intro v0 μ q h
  unfold Tp_isSign at h
  refine am_ar_of (d := d + 0) i_Tp_isSign rfl rfl (Nat.le_of_ble_eq_true rfl) ?_
  show am_run none (am_ar g_mt (d + 0)) 1 (some .boolean) k_Tp_isSign 0 [(0, (0, v0))] [] μ (am_res 0 q)
  refine rn_sls 1 (pc' := 1) (ls' := [(0, (0, v0))]) (st' := [(0, v0)]) rfl ?_
  refine rn_tsw rfl rfl ?_
  refine rn_swc (t := 104) rfl h (fun h => ?_) (fun h => ?_)
  · refine rn_sls 1 (pc' := 105) (ls' := [(0, (0, v0))]) (st' := [(0, 1)]) rfl ?_
    exact rn_iretb rfl rfl rfl (Or.inr rfl) h rfl
  refine rn_swc (t := 104) rfl h (fun h => ?_) (fun h => ?_)
  · refine rn_sls 1 (pc' := 105) (ls' := [(0, (0, v0))]) (st' := [(0, 1)]) rfl ?_
    exact rn_iretb rfl rfl rfl (Or.inr rfl) h rfl
  refine rn_swc (t := 104) rfl h (fun h => ?_) (fun h => ?_)
  · refine rn_sls 1 (pc' := 105) (ls' := [(0, (0, v0))]) (st' := [(0, 1)]) rfl ?_
    exact rn_iretb rfl rfl rfl (Or.inr rfl) h rfl
  refine rn_swc (t := 104) rfl h (fun h => ?_) (fun h => ?_)
  · refine rn_sls 1 (pc' := 105) (ls' := [(0, (0, v0))]) (st' := [(0, 1)]) rfl ?_
    exact rn_iretb rfl rfl rfl (Or.inr rfl) h rfl
  refine rn_swc (t := 106) rfl h (fun h => ?_) (fun h => ?_)
  · refine rn_sls 1 (pc' := 107) (ls' := [(0, (0, v0))]) (st' := [(0, 0)]) rfl ?_
    exact rn_iretb rfl rfl rfl (Or.inl rfl) h rfl
  refine rn_swc (t := 104) rfl h (fun h => ?_) (fun h => ?_)
  · refine rn_sls 1 (pc' := 105) (ls' := [(0, (0, v0))]) (st' := [(0, 1)]) rfl ?_
    exact rn_iretb rfl rfl rfl (Or.inr rfl) h rfl
  refine rn_swc (t := 106) rfl h (fun h => ?_) (fun h => ?_)
  · refine rn_sls 1 (pc' := 107) (ls' := [(0, (0, v0))]) (st' := [(0, 0)]) rfl ?_
    exact rn_iretb rfl rfl rfl (Or.inl rfl) h rfl
  refine rn_swc (t := 106) rfl h (fun h => ?_) (fun h => ?_)
  · refine rn_sls 1 (pc' := 107) (ls' := [(0, (0, v0))]) (st' := [(0, 0)]) rfl ?_
    exact rn_iretb rfl rfl rfl (Or.inl rfl) h rfl
  refine rn_swc (t := 106) rfl h (fun h => ?_) (fun h => ?_)
  · refine rn_sls 1 (pc' := 107) (ls' := [(0, (0, v0))]) (st' := [(0, 0)]) rfl ?_
    exact rn_iretb rfl rfl rfl (Or.inl rfl) h rfl
  refine rn_swc (t := 106) rfl h (fun h => ?_) (fun h => ?_)
  · refine rn_sls 1 (pc' := 107) (ls' := [(0, (0, v0))]) (st' := [(0, 0)]) rfl ?_
    exact rn_iretb rfl rfl rfl (Or.inl rfl) h rfl
  refine rn_swc (t := 106) rfl h (fun h => ?_) (fun h => ?_)
  · refine rn_sls 1 (pc' := 107) (ls' := [(0, (0, v0))]) (st' := [(0, 0)]) rfl ?_
    exact rn_iretb rfl rfl rfl (Or.inl rfl) h rfl
  refine rn_swc (t := 106) rfl h (fun h => ?_) (fun h => ?_)
  · refine rn_sls 1 (pc' := 107) (ls' := [(0, (0, v0))]) (st' := [(0, 0)]) rfl ?_
    exact rn_iretb rfl rfl rfl (Or.inl rfl) h rfl
  refine rn_swc (t := 106) rfl h (fun h => ?_) (fun h => ?_)
  · refine rn_sls 1 (pc' := 107) (ls' := [(0, (0, v0))]) (st' := [(0, 0)]) rfl ?_
    exact rn_iretb rfl rfl rfl (Or.inl rfl) h rfl
  refine rn_swc (t := 106) rfl h (fun h => ?_) (fun h => ?_)
  · refine rn_sls 1 (pc' := 107) (ls' := [(0, (0, v0))]) (st' := [(0, 0)]) rfl ?_
    exact rn_iretb rfl rfl rfl (Or.inl rfl) h rfl
  refine rn_swc (t := 106) rfl h (fun h => ?_) (fun h => ?_)
  · refine rn_sls 1 (pc' := 107) (ls' := [(0, (0, v0))]) (st' := [(0, 0)]) rfl ?_
    exact rn_iretb rfl rfl rfl (Or.inl rfl) h rfl
  refine rn_swc (t := 106) rfl h (fun h => ?_) (fun h => ?_)
  · refine rn_sls 1 (pc' := 107) (ls' := [(0, (0, v0))]) (st' := [(0, 0)]) rfl ?_
    exact rn_iretb rfl rfl rfl (Or.inl rfl) h rfl
  refine rn_swc (t := 106) rfl h (fun h => ?_) (fun h => ?_)
  · refine rn_sls 1 (pc' := 107) (ls' := [(0, (0, v0))]) (st' := [(0, 0)]) rfl ?_
    exact rn_iretb rfl rfl rfl (Or.inl rfl) h rfl
  refine rn_swc (t := 106) rfl h (fun h => ?_) (fun h => ?_)
  · refine rn_sls 1 (pc' := 107) (ls' := [(0, (0, v0))]) (st' := [(0, 0)]) rfl ?_
    exact rn_iretb rfl rfl rfl (Or.inl rfl) h rfl
  refine rn_swc (t := 106) rfl h (fun h => ?_) (fun h => ?_)
  · refine rn_sls 1 (pc' := 107) (ls' := [(0, (0, v0))]) (st' := [(0, 0)]) rfl ?_
    exact rn_iretb rfl rfl rfl (Or.inl rfl) h rfl
  refine rn_swc (t := 104) rfl h (fun h => ?_) (fun h => ?_)
  · refine rn_sls 1 (pc' := 105) (ls' := [(0, (0, v0))]) (st' := [(0, 1)]) rfl ?_
    exact rn_iretb rfl rfl rfl (Or.inr rfl) h rfl
  refine rn_swc (t := 104) rfl h (fun h => ?_) (fun h => ?_)
  · refine rn_sls 1 (pc' := 105) (ls' := [(0, (0, v0))]) (st' := [(0, 1)]) rfl ?_
    exact rn_iretb rfl rfl rfl (Or.inr rfl) h rfl
  refine rn_swc (t := 104) rfl h (fun h => ?_) (fun h => ?_)
  · refine rn_sls 1 (pc' := 105) (ls' := [(0, (0, v0))]) (st' := [(0, 1)]) rfl ?_
    exact rn_iretb rfl rfl rfl (Or.inr rfl) h rfl
  refine rn_sw0 (t := 106) rfl ?_
  refine rn_sls 1 (pc' := 107) (ls' := [(0, (0, v0))]) (st' := [(0, 0)]) rfl ?_
  exact rn_iretb rfl rfl rfl (Or.inl rfl) h rfl
set_option maxRecDepth 20000 in
theorem t_Tp_advance_B112 (d : Nat) : ∀ (v1 : Int) (s1 : Int) (μ : am_M) q, Tp_advance_B112 v1 s1 μ = some q → am_run none (am_ar g_mt (d + 2)) 3 none k_Tp_advance 112 [(0, (2, 10)), (1, (0, v1))] [(0, s1), (2, 10)] μ (am_res 2 q) := by
  intro v1 s1 μ q h
  unfold Tp_advance_B112 at h
  refine rn_put rfl rfl rfl rfl (Or.inl ⟨rfl, rfl⟩) rfl h (fun μ1 h => ?_)
  refine rn_sls 4 (pc' := 119) (ls' := [(0, (2, 10)), (1, (0, v1))]) (st' := [(0, (w32 (v1 + 1))), (2, 10)]) rfl ?_
  refine rn_put rfl rfl rfl rfl (Or.inl ⟨rfl, rfl⟩) rfl h (fun μ2 h => ?_)
  exact rn_ret (v := 0) rfl rfl rfl h rfl
set_option maxRecDepth 20000 in
theorem t_Tp_advance_B33 (d : Nat) : ∀ (v1 : Int) (μ : am_M) q, Tp_advance_B33 v1 μ = some q → am_run none (am_ar g_mt (d + 2)) 3 none k_Tp_advance 33 [(0, (2, 10)), (1, (0, v1))] [] μ (am_res 2 q) := by
  intro v1 μ q h
  unfold Tp_advance_B33 at h
  refine rn_sls 2 (pc' := 35) (ls' := [(0, (2, 10)), (1, (0, v1))]) (st' := [(0, v1), (2, 10)]) rfl ?_
  refine rn_put rfl rfl rfl rfl (Or.inl ⟨rfl, rfl⟩) rfl h (fun μ1 h => ?_)
  refine rn_sls 3 (pc' := 43) (ls' := [(0, (2, 10)), (1, (0, v1))]) (st' := [(0, (μ1 10 2)), (0, v1)]) rfl ?_
  refine rn_icmp (t := 60) rfl rfl rfl rfl h (fun h => ?_) (fun h => ?_)
  · refine rn_sls 3 (pc' := 65) (ls' := [(0, (2, 10)), (1, (0, v1))]) (st' := [(0, v1), (2, 11)]) rfl ?_
    refine rn_call 3 0 [(2, 11), (0, v1)] (r := []) rfl ⟨rfl, Or.inr ⟨_, rfl, by decide⟩⟩ (by decide) (fun z => absurd z (by decide)) rfl rfl (Nat.le_of_ble_eq_true rfl) h (fun w hw => t_X_at (d + 1) _ _ _ _ hw) (fun a2 μ3 h => ?_)
    refine rn_sls 0 (pc' := 68) (ls' := [(0, (2, 10)), (1, (0, v1))]) (st' := [(0, a2)]) rfl ?_
    refine rn_sls 2 (pc' := 70) (ls' := [(2, (0, a2)), (0, (2, 10)), (1, (0, v1))]) (st' := [(0, a2)]) rfl ?_
    refine rn_call 2 0 [(0, a2)] (r := []) rfl ⟨rfl, Or.inr ⟨_, rfl, by decide⟩⟩ (by decide) (fun z => absurd z (by decide)) rfl rfl (Nat.le_of_ble_eq_true rfl) h (fun w hw => t_Tp_isLetter (d + 1) _ _ _ hw) (fun a4 μ5 h => ?_)
    refine rn_sls 0 (pc' := 73) (ls' := [(2, (0, a2)), (0, (2, 10)), (1, (0, v1))]) (st' := [(0, a4)]) rfl ?_
    refine rn_if (t := 84) rfl rfl rfl rfl h (fun h => ?_) (fun h => ?_)
    · refine rn_sls 1 (pc' := 85) (ls' := [(2, (0, a2)), (0, (2, 10)), (1, (0, v1))]) (st' := [(0, a2)]) rfl ?_
      refine rn_call 2 0 [(0, a2)] (r := []) rfl ⟨rfl, Or.inr ⟨_, rfl, by decide⟩⟩ (by decide) (fun z => absurd z (by decide)) rfl rfl (Nat.le_of_ble_eq_true rfl) h (fun w hw => t_Tp_isDigit (d + 1) _ _ _ hw) (fun a6 μ7 h => ?_)
      refine rn_sls 0 (pc' := 88) (ls' := [(2, (0, a2)), (0, (2, 10)), (1, (0, v1))]) (st' := [(0, a6)]) rfl ?_
      refine rn_if (t := 99) rfl rfl rfl rfl h (fun h => ?_) (fun h => ?_)
      · refine rn_sls 2 (pc' := 101) (ls' := [(2, (0, a2)), (0, (2, 10)), (1, (0, v1))]) (st' := [(0, a2), (2, 10)]) rfl ?_
        refine rn_call 2 0 [(0, a2)] (r := [(2, 10)]) rfl ⟨rfl, Or.inr ⟨_, rfl, by decide⟩⟩ (by decide) (fun z => absurd z (by decide)) rfl rfl (Nat.le_of_ble_eq_true rfl) h (fun w hw => t_Tp_isSign (d + 1) _ _ _ hw) (fun a8 μ9 h => ?_)
        refine rn_sls 0 (pc' := 104) (ls' := [(2, (0, a2)), (0, (2, 10)), (1, (0, v1))]) (st' := [(0, a8), (2, 10)]) rfl ?_
        refine rn_if (t := 111) rfl rfl rfl rfl h (fun h => ?_) (fun h => ?_)
        · refine rn_sls 1 (pc' := 112) (ls' := [(2, (0, a2)), (0, (2, 10)), (1, (0, v1))]) (st' := [(0, 0), (2, 10)]) rfl ?_
          exact rn_sub [1, 2] rfl (t_Tp_advance_B112 d  _ _ _ _ h)
        · refine rn_sls 1 (pc' := 108) (ls' := [(2, (0, a2)), (0, (2, 10)), (1, (0, v1))]) (st' := [(0, a2), (2, 10)]) rfl ?_
          refine rn_goto (t := 112) rfl rfl rfl ?_
          exact rn_sub [1, 2] rfl (t_Tp_advance_B112 d  _ _ _ _ h)
      · refine rn_sls 2 (pc' := 93) (ls' := [(2, (0, a2)), (0, (2, 10)), (1, (0, v1))]) (st' := [(0, v1), (2, 10)]) rfl ?_
        refine rn_call 0 2 [(2, 10), (0, v1)] (r := []) rfl ⟨rfl, Or.inl ⟨_, rfl, by decide⟩⟩ (by decide) (fun _ => ⟨_, rfl, rfl⟩) rfl rfl (Nat.le_of_ble_eq_true rfl) h (fun w hw => t_Tp_readNumber (d + 0) _ _ _ hw) (fun a10 μ11 h => ?_)
        refine rn_sls 0 (pc' := 96) (ls' := [(2, (0, a2)), (0, (2, 10)), (1, (0, v1))]) (st' := []) rfl ?_
        refine rn_goto (t := 122) rfl rfl rfl ?_
        exact rn_ret (v := 0) rfl rfl rfl h rfl
    · refine rn_sls 2 (pc' := 78) (ls' := [(2, (0, a2)), (0, (2, 10)), (1, (0, v1))]) (st' := [(0, v1), (2, 10)]) rfl ?_
      refine rn_call 0 2 [(2, 10), (0, v1)] (r := []) rfl ⟨rfl, Or.inl ⟨_, rfl, by decide⟩⟩ (by decide) (fun _ => ⟨_, rfl, rfl⟩) rfl rfl (Nat.le_of_ble_eq_true rfl) h (fun w hw => t_Tp_readWord (d + 0) _ _ _ hw) (fun a12 μ13 h => ?_)
      refine rn_sls 0 (pc' := 81) (ls' := [(2, (0, a2)), (0, (2, 10)), (1, (0, v1))]) (st' := []) rfl ?_
      refine rn_goto (t := 122) rfl rfl rfl ?_
      exact rn_ret (v := 0) rfl rfl rfl h rfl
  · refine rn_sls 2 (pc' := 48) (ls' := [(0, (2, 10)), (1, (0, v1))]) (st' := [(0, 1), (2, 10)]) rfl ?_
    refine rn_put rfl rfl rfl rfl (Or.inl ⟨rfl, rfl⟩) rfl h (fun μ14 h => ?_)
    refine rn_sls 3 (pc' := 56) (ls' := [(0, (2, 10)), (1, (0, v1))]) (st' := [(0, (μ14 10 2)), (2, 10)]) rfl ?_
    refine rn_put rfl rfl rfl rfl (Or.inl ⟨rfl, rfl⟩) rfl h (fun μ15 h => ?_)
    exact rn_ret (v := 0) rfl rfl rfl h rfl
set_option maxRecDepth 20000 in
theorem t_Tp_advance_L5_b (d : Nat) (k5 : Int → am_M → am_O) (hk5 : ∀ (v1 : Int) (μ : am_M) q, k5 v1 μ = some q → am_run none (am_ar g_mt (d + 2)) 3 none k_Tp_advance 5 [(0, (2, 10)), (1, (0, v1))] [] μ (am_res 2 q)) : ∀ (v1 : Int) (μ : am_M) q, Tp_advance_L5_b k5 v1 μ = some q → am_run none (am_ar g_mt (d + 2)) 3 none k_Tp_advance 5 [(0, (2, 10)), (1, (0, v1))] [] μ (am_res 2 q) := by
  intro v1 μ q h
  unfold Tp_advance_L5_b at h
  refine rn_sls 3 (pc' := 10) (ls' := [(0, (2, 10)), (1, (0, v1))]) (st' := [(0, (μ 10 2)), (0, v1)]) rfl ?_
  refine rn_icmpn (t := 33) rfl rfl rfl rfl h (fun h => ?_) (fun h => ?_)
  · refine rn_sls 3 (pc' := 18) (ls' := [(0, (2, 10)), (1, (0, v1))]) (st' := [(0, v1), (2, 11)]) rfl ?_
    refine rn_call 3 0 [(2, 11), (0, v1)] (r := []) rfl ⟨rfl, Or.inr ⟨_, rfl, by decide⟩⟩ (by decide) (fun z => absurd z (by decide)) rfl rfl (Nat.le_of_ble_eq_true rfl) h (fun w hw => t_X_at (d + 1) _ _ _ _ hw) (fun a1 μ2 h => ?_)
    refine rn_sls 0 (pc' := 21) (ls' := [(0, (2, 10)), (1, (0, v1))]) (st' := [(0, a1)]) rfl ?_
    refine rn_call 2 0 [(0, a1)] (r := []) rfl ⟨rfl, Or.inr ⟨_, rfl, by decide⟩⟩ (by decide) (fun z => absurd z (by decide)) rfl rfl (Nat.le_of_ble_eq_true rfl) h (fun w hw => t_Tp_isBlank (d + 1) _ _ _ hw) (fun a3 μ4 h => ?_)
    refine rn_sls 0 (pc' := 24) (ls' := [(0, (2, 10)), (1, (0, v1))]) (st' := [(0, a3)]) rfl ?_
    refine rn_if (t := 33) rfl rfl rfl rfl h (fun h => ?_) (fun h => ?_)
    · exact rn_sub [0, 1] rfl (t_Tp_advance_B33 d  _ _ _ h)
    · refine rn_sls 1 (pc' := 30) (ls' := [(1, (0, (w32 (v1 + 1)))), (0, (2, 10))]) (st' := []) rfl ?_
      refine rn_goto (t := 5) rfl rfl rfl ?_
      exact rn_sub [1, 0] rfl (hk5 _ _ _ h)
  · exact rn_sub [0, 1] rfl (t_Tp_advance_B33 d  _ _ _ h)
set_option maxRecDepth 20000 in
theorem t_Tp_advance_L5 (d : Nat) : ∀ (n : Nat) (v1 : Int) (μ : am_M) q, Tp_advance_L5 n v1 μ = some q → am_run none (am_ar g_mt (d + 2)) 3 none k_Tp_advance 5 [(0, (2, 10)), (1, (0, v1))] [] μ (am_res 2 q) := by
  intro n
  induction n with
  | zero => intro v1 μ q h; cases h
  | succ n ih => intro v1 μ q h; exact t_Tp_advance_L5_b d (Tp_advance_L5 n) ih v1 μ q h
set_option maxRecDepth 20000 in
theorem t_Tp_advance (d : Nat) : ∀  (μ : am_M) q, Tp_advance  μ = some q → am_ar g_mt (d + 3) 95 [(2, 10)] μ (am_res 2 q) := by
  intro  μ q h
  unfold Tp_advance at h
  refine am_ar_of (d := d + 2) i_Tp_advance rfl rfl (Nat.le_of_ble_eq_true rfl) ?_
  show am_run none (am_ar g_mt (d + 2)) 3 none k_Tp_advance 0 [(0, (2, 10))] [] μ (am_res 2 q)
  refine rn_sls 3 (pc' := 5) (ls' := [(1, (0, (μ 10 4))), (0, (2, 10))]) (st' := []) rfl ?_
  exact rn_sub [1, 0] rfl (t_Tp_advance_L5 d  am_FU _ _ _ h)
set_option maxRecDepth 20000 in
theorem t_Rd_expect (d : Nat) : ∀ (v1 : Int) (μ : am_M) q, Rd_expect v1 μ = some q → am_ar g_mt (d + 4) 62 [(2, 20), (0, v1)] μ (am_res 0 q) := by
  intro v1 μ q h
  unfold Rd_expect at h
  refine am_ar_of (d := d + 3) i_Rd_expect rfl rfl (Nat.le_of_ble_eq_true rfl) ?_
  show am_run none (am_ar g_mt (d + 3)) 2 (some .boolean) k_Rd_expect 0 [(0, (2, 20)), (1, (0, v1))] [] μ (am_res 0 q)
  refine rn_sls 4 (pc' := 8) (ls' := [(0, (2, 20)), (1, (0, v1))]) (st' := [(0, v1), (0, (μ 10 5))]) rfl ?_
  refine rn_icmp (t := 17) rfl rfl rfl rfl h (fun h => ?_) (fun h => ?_)
  · refine rn_sls 2 (pc' := 21) (ls' := [(0, (2, 20)), (1, (0, v1))]) (st' := [(2, 10)]) rfl ?_
    refine rn_call 0 2 [(2, 10)] (r := []) rfl ⟨rfl, Or.inl ⟨_, rfl, by decide⟩⟩ (by decide) (fun _ => ⟨_, rfl, rfl⟩) rfl rfl (Nat.le_of_ble_eq_true rfl) h (fun w hw => t_Tp_advance (d + 0)  _ _ hw) (fun a1 μ2 h => ?_)
    refine rn_sls 0 (pc' := 24) (ls' := [(0, (2, 20)), (1, (0, v1))]) (st' := []) rfl ?_
    refine rn_sls 1 (pc' := 25) (ls' := [(0, (2, 20)), (1, (0, v1))]) (st' := [(0, 1)]) rfl ?_
    exact rn_iretb rfl rfl rfl (Or.inr rfl) h rfl
  · refine rn_sls 2 (pc' := 13) (ls' := [(0, (2, 20)), (1, (0, v1))]) (st' := [(0, 1), (2, 20)]) rfl ?_
    refine rn_call 0 0 [(2, 20), (0, 1)] (r := []) rfl ⟨rfl, Or.inl ⟨_, rfl, by decide⟩⟩ (by decide) (fun _ => ⟨_, rfl, rfl⟩) rfl rfl (Nat.le_of_ble_eq_true rfl) h (fun w hw => t_Rd_fail (d + 2) _ _ _ hw) (fun a3 μ4 h => ?_)
    refine rn_sls 0 (pc' := 16) (ls' := [(0, (2, 20)), (1, (0, v1))]) (st' := [(0, a3)]) rfl ?_
    exact rn_iretB rfl rfl rfl h rfl
set_option maxRecDepth 20000 in
theorem t_Rd_endHead (d : Nat) : ∀ (v1 : Int) (v2 : Int) (μ : am_M) q, Rd_endHead v1 v2 μ = some q → am_ar g_mt (d + 5) 64 [(2, 20), (0, v1), (1, v2)] μ (am_res 2 q) := by
  intro v1 v2 μ q h
  unfold Rd_endHead at h
  refine am_ar_of (d := d + 4) i_Rd_endHead rfl rfl (Nat.le_of_ble_eq_true rfl) ?_
  show am_run none (am_ar g_mt (d + 4)) 5 none k_Rd_endHead 0 [(0, (2, 20)), (1, (0, v1)), (2, (1, v2))] [] μ (am_res 2 q)
  refine rn_sls 5 (pc' := 10) (ls' := [(4, (0, (μ 10 6))), (0, (2, 20)), (1, (0, v1)), (2, (1, v2))]) (st' := [(0, v1)]) rfl ?_
  refine rn_if (t := 43) rfl rfl rfl rfl h (fun h => ?_) (fun h => ?_)
  · refine rn_sls 2 (pc' := 46) (ls' := [(4, (0, (μ 10 6))), (0, (2, 20)), (1, (0, v1)), (2, (1, v2))]) (st' := [(0, 59), (2, 20)]) rfl ?_
    refine rn_call 0 0 [(2, 20), (0, 59)] (r := []) rfl ⟨rfl, Or.inl ⟨_, rfl, by decide⟩⟩ (by decide) (fun _ => ⟨_, rfl, rfl⟩) rfl rfl (Nat.le_of_ble_eq_true rfl) h (fun w hw => t_Rd_expect (d + 0) _ _ _ hw) (fun a1 μ2 h => ?_)
    refine rn_sls 0 (pc' := 49) (ls' := [(4, (0, (μ 10 6))), (0, (2, 20)), (1, (0, v1)), (2, (1, v2))]) (st' := [(0, a1)]) rfl ?_
    refine rn_if (t := 86) rfl rfl rfl rfl h (fun h => ?_) (fun h => ?_)
    · exact rn_ret (v := 0) rfl rfl rfl h rfl
    · refine rn_sls 3 (pc' := 57) (ls' := [(4, (0, (μ 10 6))), (0, (2, 20)), (1, (0, v1)), (2, (1, v2))]) (st' := [(2, (μ2 20 4)), (2, 20)]) rfl ?_
      refine rn_gd h (fun ho3 h => ?_)
      refine rn_get ho3 rfl rfl rfl ?_
      refine rn_sls 0 (pc' := 60) (ls' := [(4, (0, (μ 10 6))), (0, (2, 20)), (1, (0, v1)), (2, (1, v2))]) (st' := [(0, (μ2 (μ2 20 4) 13)), (2, 20)]) rfl ?_
      refine rn_put rfl rfl rfl rfl (Or.inl ⟨rfl, rfl⟩) rfl h (fun μ4 h => ?_)
      refine rn_sls 3 (pc' := 68) (ls' := [(4, (0, (μ 10 6))), (0, (2, 20)), (1, (0, v1)), (2, (1, v2))]) (st' := [(1, v2), (2, (μ4 20 4))]) rfl ?_
      refine rn_gd h (fun ho5 h => ?_)
      refine rn_call 0 2 [(2, (μ4 20 4)), (1, v2)] (r := []) rfl ⟨rfl, Or.inl ⟨_, rfl, by decide⟩⟩ (by decide) (fun _ => ⟨_, rfl, ho5⟩) rfl rfl (Nat.le_of_ble_eq_true rfl) h (fun w hw => t_Bi_addBill (d + 2) _ _ _ _ hw) (fun a6 μ7 h => ?_)
      refine rn_sls 0 (pc' := 71) (ls' := [(4, (0, (μ 10 6))), (0, (2, 20)), (1, (0, v1)), (2, (1, v2))]) (st' := []) rfl ?_
      refine rn_sls 2 (pc' := 73) (ls' := [(4, (0, (μ 10 6))), (0, (2, 20)), (1, (0, v1)), (2, (1, v2))]) (st' := [(0, 0), (2, 20)]) rfl ?_
      refine rn_put rfl rfl rfl rfl (Or.inl ⟨rfl, rfl⟩) rfl h (fun μ8 h => ?_)
      refine rn_sls 2 (pc' := 78) (ls' := [(4, (0, (μ 10 6))), (0, (2, 20)), (1, (0, v1)), (2, (1, v2))]) (st' := [(0, 0), (2, 20)]) rfl ?_
      refine rn_put rfl rfl rfl rfl (Or.inl ⟨rfl, rfl⟩) rfl h (fun μ9 h => ?_)
      refine rn_sls 2 (pc' := 83) (ls' := [(4, (0, (μ 10 6))), (0, (2, 20)), (1, (0, v1)), (2, (1, v2))]) (st' := [(0, 1), (2, 20)]) rfl ?_
      refine rn_putb rfl rfl rfl rfl rfl rfl h (fun μ10 h => ?_)
      exact rn_ret (v := 0) rfl rfl rfl h rfl
  · refine rn_sls 2 (pc' := 15) (ls' := [(4, (0, (μ 10 6))), (0, (2, 20)), (1, (0, v1)), (2, (1, v2))]) (st' := [(0, 3), (2, 20)]) rfl ?_
    refine rn_call 0 0 [(2, 20), (0, 3)] (r := []) rfl ⟨rfl, Or.inl ⟨_, rfl, by decide⟩⟩ (by decide) (fun _ => ⟨_, rfl, rfl⟩) rfl rfl (Nat.le_of_ble_eq_true rfl) h (fun w hw => t_Rd_expect (d + 0) _ _ _ hw) (fun a11 μ12 h => ?_)
    refine rn_sls 0 (pc' := 18) (ls' := [(4, (0, (μ 10 6))), (0, (2, 20)), (1, (0, v1)), (2, (1, v2))]) (st' := [(0, a11)]) rfl ?_
    refine rn_if (t := 86) rfl rfl rfl rfl h (fun h => ?_) (fun h => ?_)
    · exact rn_ret (v := 0) rfl rfl rfl h rfl
    · refine rn_sls 2 (pc' := 24) (ls' := [(4, (0, (μ 10 6))), (0, (2, 20)), (1, (0, v1)), (2, (1, v2))]) (st' := [(0, 59), (2, 20)]) rfl ?_
      refine rn_call 0 0 [(2, 20), (0, 59)] (r := []) rfl ⟨rfl, Or.inl ⟨_, rfl, by decide⟩⟩ (by decide) (fun _ => ⟨_, rfl, rfl⟩) rfl rfl (Nat.le_of_ble_eq_true rfl) h (fun w hw => t_Rd_expect (d + 0) _ _ _ hw) (fun a13 μ14 h => ?_)
      refine rn_sls 0 (pc' := 27) (ls' := [(4, (0, (μ 10 6))), (0, (2, 20)), (1, (0, v1)), (2, (1, v2))]) (st' := [(0, a13)]) rfl ?_
      refine rn_if (t := 86) rfl rfl rfl rfl h (fun h => ?_) (fun h => ?_)
      · exact rn_ret (v := 0) rfl rfl rfl h rfl
      · refine rn_sls 4 (pc' := 37) (ls' := [(4, (0, (μ 10 6))), (0, (2, 20)), (1, (0, v1)), (2, (1, v2))]) (st' := [(0, (μ 10 6)), (1, v2), (2, (μ14 20 4))]) rfl ?_
        refine rn_gd h (fun ho15 h => ?_)
        refine rn_call 0 2 [(2, (μ14 20 4)), (1, v2), (0, (μ 10 6))] (r := []) rfl ⟨rfl, Or.inl ⟨_, rfl, by decide⟩⟩ (by decide) (fun _ => ⟨_, rfl, ho15⟩) rfl rfl (Nat.le_of_ble_eq_true rfl) h (fun w hw => t_Bi_addWall (d + 2) _ _ _ _ _ hw) (fun a16 μ17 h => ?_)
        refine rn_sls 0 (pc' := 40) (ls' := [(4, (0, (μ 10 6))), (0, (2, 20)), (1, (0, v1)), (2, (1, v2))]) (st' := []) rfl ?_
        refine rn_goto (t := 86) rfl rfl rfl ?_
        exact rn_ret (v := 0) rfl rfl rfl h rfl
set_option maxRecDepth 20000 in
theorem t_Rd_isWall (d : Nat) : ∀  (μ : am_M) q, Rd_isWall  μ = some q → am_ar g_mt (d + 2) 66 [(2, 20)] μ (am_res 0 q) := by
  intro  μ q h
  unfold Rd_isWall at h
  refine am_ar_of (d := d + 1) i_Rd_isWall rfl rfl (Nat.le_of_ble_eq_true rfl) ?_
  show am_run none (am_ar g_mt (d + 1)) 1 (some .boolean) k_Rd_isWall 0 [(0, (2, 20))] [] μ (am_res 0 q)
  refine rn_sls 2 (pc' := 4) (ls' := [(0, (2, 20))]) (st' := [(2, (μ 20 4))]) rfl ?_
  refine rn_gd h (fun ho1 h => ?_)
  refine rn_get ho1 rfl rfl rfl ?_
  refine rn_sls 0 (pc' := 7) (ls' := [(0, (2, 20))]) (st' := [(2, ((μ 20 4) + 12))]) rfl ?_
  refine rn_sls 2 (pc' := 11) (ls' := [(0, (2, 20))]) (st' := [(2, (μ 20 4)), (2, ((μ 20 4) + 12))]) rfl ?_
  refine rn_get ho1 rfl rfl rfl ?_
  refine rn_sls 0 (pc' := 14) (ls' := [(0, (2, 20))]) (st' := [(0, (μ (μ 20 4) 12)), (2, ((μ 20 4) + 12))]) rfl ?_
  refine rn_sls 3 (pc' := 21) (ls' := [(0, (2, 20))]) (st' := [(1, (μ 10 7)), (0, (μ (μ 20 4) 12)), (2, ((μ 20 4) + 12))]) rfl ?_
  refine rn_call 3 0 [(2, ((μ 20 4) + 12)), (0, (μ (μ 20 4) 12)), (1, (μ 10 7))] (r := []) rfl ⟨rfl, Or.inr ⟨_, rfl, by decide⟩⟩ (by decide) (fun z => absurd z (by decide)) rfl rfl (Nat.le_of_ble_eq_true rfl) h (fun w hw => t_X_find (d + 0) _ _ _ _ _ hw) (fun a2 μ3 h => ?_)
  refine rn_sls 0 (pc' := 24) (ls' := [(0, (2, 20))]) (st' := [(0, a2)]) rfl ?_
  refine rn_sls 1 (pc' := 25) (ls' := [(0, (2, 20))]) (st' := [(0, (-1)), (0, a2)]) rfl ?_
  refine rn_icmp (t := 32) rfl rfl rfl rfl h (fun h => ?_) (fun h => ?_)
  · refine rn_sls 1 (pc' := 33) (ls' := [(0, (2, 20))]) (st' := [(0, 0)]) rfl ?_
    exact rn_iretb rfl rfl rfl (Or.inl rfl) h rfl
  · refine rn_sls 1 (pc' := 29) (ls' := [(0, (2, 20))]) (st' := [(0, 1)]) rfl ?_
    refine rn_goto (t := 33) rfl rfl rfl ?_
    exact rn_iretb rfl rfl rfl (Or.inr rfl) h rfl
set_option maxRecDepth 20000 in
theorem t_Rd_isBill (d : Nat) : ∀  (μ : am_M) q, Rd_isBill  μ = some q → am_ar g_mt (d + 2) 67 [(2, 20)] μ (am_res 0 q) := by
  intro  μ q h
  unfold Rd_isBill at h
  refine am_ar_of (d := d + 1) i_Rd_isBill rfl rfl (Nat.le_of_ble_eq_true rfl) ?_
  show am_run none (am_ar g_mt (d + 1)) 1 (some .boolean) k_Rd_isBill 0 [(0, (2, 20))] [] μ (am_res 0 q)
  refine rn_sls 2 (pc' := 4) (ls' := [(0, (2, 20))]) (st' := [(2, (μ 20 4))]) rfl ?_
  refine rn_gd h (fun ho1 h => ?_)
  refine rn_get ho1 rfl rfl rfl ?_
  refine rn_sls 0 (pc' := 7) (ls' := [(0, (2, 20))]) (st' := [(2, ((μ 20 4) + 14))]) rfl ?_
  refine rn_sls 2 (pc' := 11) (ls' := [(0, (2, 20))]) (st' := [(2, (μ 20 4)), (2, ((μ 20 4) + 14))]) rfl ?_
  refine rn_get ho1 rfl rfl rfl ?_
  refine rn_sls 0 (pc' := 14) (ls' := [(0, (2, 20))]) (st' := [(0, (μ (μ 20 4) 13)), (2, ((μ 20 4) + 14))]) rfl ?_
  refine rn_sls 3 (pc' := 21) (ls' := [(0, (2, 20))]) (st' := [(1, (μ 10 7)), (0, (μ (μ 20 4) 13)), (2, ((μ 20 4) + 14))]) rfl ?_
  refine rn_call 3 0 [(2, ((μ 20 4) + 14)), (0, (μ (μ 20 4) 13)), (1, (μ 10 7))] (r := []) rfl ⟨rfl, Or.inr ⟨_, rfl, by decide⟩⟩ (by decide) (fun z => absurd z (by decide)) rfl rfl (Nat.le_of_ble_eq_true rfl) h (fun w hw => t_X_find (d + 0) _ _ _ _ _ hw) (fun a2 μ3 h => ?_)
  refine rn_sls 0 (pc' := 24) (ls' := [(0, (2, 20))]) (st' := [(0, a2)]) rfl ?_
  refine rn_sls 1 (pc' := 25) (ls' := [(0, (2, 20))]) (st' := [(0, (-1)), (0, a2)]) rfl ?_
  refine rn_icmp (t := 32) rfl rfl rfl rfl h (fun h => ?_) (fun h => ?_)
  · refine rn_sls 1 (pc' := 33) (ls' := [(0, (2, 20))]) (st' := [(0, 0)]) rfl ?_
    exact rn_iretb rfl rfl rfl (Or.inl rfl) h rfl
  · refine rn_sls 1 (pc' := 29) (ls' := [(0, (2, 20))]) (st' := [(0, 1)]) rfl ?_
    refine rn_goto (t := 33) rfl rfl rfl ?_
    exact rn_iretb rfl rfl rfl (Or.inr rfl) h rfl
set_option maxRecDepth 20000 in
theorem t_Rd_readNewName_B25 (d : Nat) : ∀  (μ : am_M) q, Rd_readNewName_B25  μ = some q → am_run none (am_ar g_mt (d + 4)) 1 (some .boolean) k_Rd_readNewName 25 [(0, (2, 20))] [] μ (am_res 0 q) := by
  intro  μ q h
  unfold Rd_readNewName_B25 at h
  refine rn_sls 2 (pc' := 27) (ls' := [(0, (2, 20))]) (st' := [(0, 3), (2, 20)]) rfl ?_
  refine rn_call 0 0 [(2, 20), (0, 3)] (r := []) rfl ⟨rfl, Or.inl ⟨_, rfl, by decide⟩⟩ (by decide) (fun _ => ⟨_, rfl, rfl⟩) rfl rfl (Nat.le_of_ble_eq_true rfl) h (fun w hw => t_Rd_fail (d + 3) _ _ _ hw) (fun a1 μ2 h => ?_)
  refine rn_sls 0 (pc' := 30) (ls' := [(0, (2, 20))]) (st' := [(0, a1)]) rfl ?_
  exact rn_iretB rfl rfl rfl h rfl
set_option maxRecDepth 20000 in
theorem t_Rd_readNewName_B31 (d : Nat) : ∀  (μ : am_M) q, Rd_readNewName_B31  μ = some q → am_run none (am_ar g_mt (d + 4)) 1 (some .boolean) k_Rd_readNewName 31 [(0, (2, 20))] [] μ (am_res 0 q) := by
  intro  μ q h
  unfold Rd_readNewName_B31 at h
  refine rn_sls 2 (pc' := 33) (ls' := [(0, (2, 20))]) (st' := [(0, 2), (2, 20)]) rfl ?_
  refine rn_call 0 0 [(2, 20), (0, 2)] (r := []) rfl ⟨rfl, Or.inl ⟨_, rfl, by decide⟩⟩ (by decide) (fun _ => ⟨_, rfl, rfl⟩) rfl rfl (Nat.le_of_ble_eq_true rfl) h (fun w hw => t_Rd_expect (d + 0) _ _ _ hw) (fun a1 μ2 h => ?_)
  refine rn_sls 0 (pc' := 36) (ls' := [(0, (2, 20))]) (st' := [(0, a1)]) rfl ?_
  exact rn_iretB rfl rfl rfl h rfl
set_option maxRecDepth 20000 in
theorem t_Rd_readNewName (d : Nat) : ∀  (μ : am_M) q, Rd_readNewName  μ = some q → am_ar g_mt (d + 5) 65 [(2, 20)] μ (am_res 0 q) := by
  intro  μ q h
  unfold Rd_readNewName at h
  refine am_ar_of (d := d + 4) i_Rd_readNewName rfl rfl (Nat.le_of_ble_eq_true rfl) ?_
  show am_run none (am_ar g_mt (d + 4)) 1 (some .boolean) k_Rd_readNewName 0 [(0, (2, 20))] [] μ (am_res 0 q)
  refine rn_sls 4 (pc' := 8) (ls' := [(0, (2, 20))]) (st' := [(0, 2), (0, (μ 10 5))]) rfl ?_
  refine rn_icmpn (t := 31) rfl rfl rfl rfl h (fun h => ?_) (fun h => ?_)
  · refine rn_sls 1 (pc' := 12) (ls' := [(0, (2, 20))]) (st' := [(2, 20)]) rfl ?_
    refine rn_call 0 0 [(2, 20)] (r := []) rfl ⟨rfl, Or.inl ⟨_, rfl, by decide⟩⟩ (by decide) (fun _ => ⟨_, rfl, rfl⟩) rfl rfl (Nat.le_of_ble_eq_true rfl) h (fun w hw => t_Rd_isWall (d + 2)  _ _ hw) (fun a1 μ2 h => ?_)
    refine rn_sls 0 (pc' := 15) (ls' := [(0, (2, 20))]) (st' := [(0, a1)]) rfl ?_
    refine rn_ifn (t := 25) rfl rfl rfl rfl h (fun h => ?_) (fun h => ?_)
    · refine rn_sls 1 (pc' := 19) (ls' := [(0, (2, 20))]) (st' := [(2, 20)]) rfl ?_
      refine rn_call 0 0 [(2, 20)] (r := []) rfl ⟨rfl, Or.inl ⟨_, rfl, by decide⟩⟩ (by decide) (fun _ => ⟨_, rfl, rfl⟩) rfl rfl (Nat.le_of_ble_eq_true rfl) h (fun w hw => t_Rd_isBill (d + 2)  _ _ hw) (fun a3 μ4 h => ?_)
      refine rn_sls 0 (pc' := 22) (ls' := [(0, (2, 20))]) (st' := [(0, a3)]) rfl ?_
      refine rn_if (t := 31) rfl rfl rfl rfl h (fun h => ?_) (fun h => ?_)
      · exact rn_sub [0] rfl (t_Rd_readNewName_B31 d  _ _ h)
      · exact rn_sub [0] rfl (t_Rd_readNewName_B25 d  _ _ h)
    · exact rn_sub [0] rfl (t_Rd_readNewName_B25 d  _ _ h)
  · exact rn_sub [0] rfl (t_Rd_readNewName_B31 d  _ _ h)
set_option maxRecDepth 20000 in
theorem t_Rd_readHead_B82 (d : Nat) : ∀  (μ : am_M) q, Rd_readHead_B82  μ = some q → am_run none (am_ar g_mt (d + 5)) 4 none k_Rd_readHead 82 [(0, (2, 20))] [] μ (am_res 2 q) := by
  intro  μ q h
  unfold Rd_readHead_B82 at h
  refine rn_sls 2 (pc' := 84) (ls' := [(0, (2, 20))]) (st' := [(0, 5), (2, 20)]) rfl ?_
  refine rn_call 0 0 [(2, 20), (0, 5)] (r := []) rfl ⟨rfl, Or.inl ⟨_, rfl, by decide⟩⟩ (by decide) (fun _ => ⟨_, rfl, rfl⟩) rfl rfl (Nat.le_of_ble_eq_true rfl) h (fun w hw => t_Rd_fail (d + 4) _ _ _ hw) (fun a1 μ2 h => ?_)
  refine rn_sls 0 (pc' := 87) (ls' := [(0, (2, 20))]) (st' := [(0, a1)]) rfl ?_
  refine rn_sls 1 (pc' := 88) (ls' := [(0, (2, 20))]) (st' := []) rfl ?_
  refine rn_goto (t := 119) rfl rfl rfl ?_
  exact rn_ret (v := 0) rfl rfl rfl h rfl
set_option maxRecDepth 20000 in
theorem t_Rd_readHead_B91 (d : Nat) : ∀ (v1 : Int) (μ : am_M) q, Rd_readHead_B91 v1 μ = some q → am_run none (am_ar g_mt (d + 5)) 4 none k_Rd_readHead 91 [(0, (2, 20)), (1, (0, v1))] [] μ (am_res 2 q) := by
  intro v1 μ q h
  unfold Rd_readHead_B91 at h
  refine rn_sls 2 (pc' := 95) (ls' := [(0, (2, 20)), (1, (0, v1))]) (st' := [(2, 10)]) rfl ?_
  refine rn_call 0 2 [(2, 10)] (r := []) rfl ⟨rfl, Or.inl ⟨_, rfl, by decide⟩⟩ (by decide) (fun _ => ⟨_, rfl, rfl⟩) rfl rfl (Nat.le_of_ble_eq_true rfl) h (fun w hw => t_Tp_advance (d + 2)  _ _ hw) (fun a1 μ2 h => ?_)
  refine rn_sls 0 (pc' := 98) (ls' := [(0, (2, 20)), (1, (0, v1))]) (st' := []) rfl ?_
  refine rn_sls 5 (pc' := 107) (ls' := [(2, (1, (μ2 10 7))), (0, (2, 20)), (1, (0, v1))]) (st' := [(2, 20)]) rfl ?_
  refine rn_call 0 0 [(2, 20)] (r := []) rfl ⟨rfl, Or.inl ⟨_, rfl, by decide⟩⟩ (by decide) (fun _ => ⟨_, rfl, rfl⟩) rfl rfl (Nat.le_of_ble_eq_true rfl) h (fun w hw => t_Rd_readNewName (d + 0)  _ _ hw) (fun a3 μ4 h => ?_)
  refine rn_sls 0 (pc' := 110) (ls' := [(2, (1, (μ2 10 7))), (0, (2, 20)), (1, (0, v1))]) (st' := [(0, a3)]) rfl ?_
  refine rn_if (t := 119) rfl rfl rfl rfl h (fun h => ?_) (fun h => ?_)
  · exact rn_ret (v := 0) rfl rfl rfl h rfl
  · refine rn_sls 3 (pc' := 116) (ls' := [(2, (1, (μ2 10 7))), (0, (2, 20)), (1, (0, v1))]) (st' := [(1, (μ2 10 7)), (0, v1), (2, 20)]) rfl ?_
    refine rn_call 0 2 [(2, 20), (0, v1), (1, (μ2 10 7))] (r := []) rfl ⟨rfl, Or.inl ⟨_, rfl, by decide⟩⟩ (by decide) (fun _ => ⟨_, rfl, rfl⟩) rfl rfl (Nat.le_of_ble_eq_true rfl) h (fun w hw => t_Rd_endHead (d + 0) _ _ _ _ hw) (fun a5 μ6 h => ?_)
    refine rn_sls 0 (pc' := 119) (ls' := [(2, (1, (μ2 10 7))), (0, (2, 20)), (1, (0, v1))]) (st' := []) rfl ?_
    exact rn_ret (v := 0) rfl rfl rfl h rfl
set_option maxRecDepth 20000 in
theorem t_Rd_readHead_B53 (d : Nat) : ∀ (v1 : Int) (μ : am_M) q, Rd_readHead_B53 v1 μ = some q → am_run none (am_ar g_mt (d + 5)) 4 none k_Rd_readHead 53 [(0, (2, 20)), (1, (0, v1))] [] μ (am_res 2 q) := by
  intro v1 μ q h
  unfold Rd_readHead_B53 at h
  refine rn_sls 1 (pc' := 54) (ls' := [(0, (2, 20)), (1, (0, v1))]) (st' := [(0, v1)]) rfl ?_
  refine rn_if (t := 71) rfl rfl rfl rfl h (fun h => ?_) (fun h => ?_)
  · refine rn_sls 2 (pc' := 75) (ls' := [(0, (2, 20)), (1, (0, v1))]) (st' := [(2, (μ 20 4))]) rfl ?_
    refine rn_gd h (fun ho1 h => ?_)
    refine rn_get ho1 rfl rfl rfl ?_
    refine rn_sls 0 (pc' := 78) (ls' := [(0, (2, 20)), (1, (0, v1))]) (st' := [(0, (μ (μ 20 4) 13))]) rfl ?_
    refine rn_sls 1 (pc' := 79) (ls' := [(0, (2, 20)), (1, (0, v1))]) (st' := [(0, 4), (0, (μ (μ 20 4) 13))]) rfl ?_
    refine rn_icmp (t := 91) rfl rfl rfl rfl h (fun h => ?_) (fun h => ?_)
    · exact rn_sub [0, 1] rfl (t_Rd_readHead_B91 d  _ _ _ h)
    · exact rn_sub [0] rfl (t_Rd_readHead_B82 d  _ _ h)
  · refine rn_sls 2 (pc' := 61) (ls' := [(0, (2, 20)), (1, (0, v1))]) (st' := [(2, (μ 20 4))]) rfl ?_
    refine rn_gd h (fun ho2 h => ?_)
    refine rn_get ho2 rfl rfl rfl ?_
    refine rn_sls 0 (pc' := 64) (ls' := [(0, (2, 20)), (1, (0, v1))]) (st' := [(0, (μ (μ 20 4) 12))]) rfl ?_
    refine rn_sls 1 (pc' := 65) (ls' := [(0, (2, 20)), (1, (0, v1))]) (st' := [(0, 4), (0, (μ (μ 20 4) 12))]) rfl ?_
    refine rn_icmp (t := 91) rfl rfl rfl rfl h (fun h => ?_) (fun h => ?_)
    · exact rn_sub [0, 1] rfl (t_Rd_readHead_B91 d  _ _ _ h)
    · refine rn_goto (t := 82) rfl rfl rfl ?_
      exact rn_sub [0] rfl (t_Rd_readHead_B82 d  _ _ h)
set_option maxRecDepth 20000 in
theorem t_Rd_readHead_B27 (d : Nat) : ∀ (s0 : Int) (μ : am_M) q, Rd_readHead_B27 s0 μ = some q → am_run none (am_ar g_mt (d + 5)) 4 none k_Rd_readHead 27 [(0, (2, 20))] [(0, s0)] μ (am_res 2 q) := by
  intro s0 μ q h
  unfold Rd_readHead_B27 at h
  refine rn_sls 2 (pc' := 29) (ls' := [(1, (0, s0)), (0, (2, 20))]) (st' := [(0, s0)]) rfl ?_
  refine rn_ifn (t := 53) rfl rfl rfl rfl h (fun h => ?_) (fun h => ?_)
  · refine rn_sls 4 (pc' := 41) (ls' := [(1, (0, s0)), (0, (2, 20))]) (st' := [(0, 110), (0, (μ 10 5))]) rfl ?_
    refine rn_icmp (t := 53) rfl rfl rfl rfl h (fun h => ?_) (fun h => ?_)
    · exact rn_sub [1, 0] rfl (t_Rd_readHead_B53 d  _ _ _ h)
    · refine rn_sls 2 (pc' := 46) (ls' := [(1, (0, s0)), (0, (2, 20))]) (st' := [(0, 1), (2, 20)]) rfl ?_
      refine rn_call 0 0 [(2, 20), (0, 1)] (r := []) rfl ⟨rfl, Or.inl ⟨_, rfl, by decide⟩⟩ (by decide) (fun _ => ⟨_, rfl, rfl⟩) rfl rfl (Nat.le_of_ble_eq_true rfl) h (fun w hw => t_Rd_fail (d + 4) _ _ _ hw) (fun a1 μ2 h => ?_)
      refine rn_sls 0 (pc' := 49) (ls' := [(1, (0, s0)), (0, (2, 20))]) (st' := [(0, a1)]) rfl ?_
      refine rn_sls 1 (pc' := 50) (ls' := [(1, (0, s0)), (0, (2, 20))]) (st' := []) rfl ?_
      refine rn_goto (t := 119) rfl rfl rfl ?_
      exact rn_ret (v := 0) rfl rfl rfl h rfl
  · exact rn_sub [1, 0] rfl (t_Rd_readHead_B53 d  _ _ _ h)
set_option maxRecDepth 20000 in
theorem t_Rd_readHead_B26 (d : Nat) : ∀  (μ : am_M) q, Rd_readHead_B26  μ = some q → am_run none (am_ar g_mt (d + 5)) 4 none k_Rd_readHead 26 [(0, (2, 20))] [] μ (am_res 2 q) := by
  intro  μ q h
  unfold Rd_readHead_B26 at h
  refine rn_sls 1 (pc' := 27) (ls' := [(0, (2, 20))]) (st' := [(0, 0)]) rfl ?_
  exact rn_sub [0] rfl (t_Rd_readHead_B27 d  _ _ _ h)
set_option maxRecDepth 20000 in
theorem t_Rd_readHead (d : Nat) : ∀  (μ : am_M) q, Rd_readHead  μ = some q → am_ar g_mt (d + 6) 63 [(2, 20)] μ (am_res 2 q) := by
  intro  μ q h
  unfold Rd_readHead at h
  refine am_ar_of (d := d + 5) i_Rd_readHead rfl rfl (Nat.le_of_ble_eq_true rfl) ?_
  show am_run none (am_ar g_mt (d + 5)) 4 none k_Rd_readHead 0 [(0, (2, 20))] [] μ (am_res 2 q)
  refine rn_sls 4 (pc' := 9) (ls' := [(0, (2, 20))]) (st' := [(0, 109), (0, (μ 10 5))]) rfl ?_
  refine rn_icmpn (t := 26) rfl rfl rfl rfl h (fun h => ?_) (fun h => ?_)
  · refine rn_sls 2 (pc' := 16) (ls' := [(0, (2, 20))]) (st' := [(2, (μ 20 4))]) rfl ?_
    refine rn_gd h (fun ho1 h => ?_)
    refine rn_get ho1 rfl rfl rfl ?_
    refine rn_sls 0 (pc' := 19) (ls' := [(0, (2, 20))]) (st' := [(0, (μ (μ 20 4) 13))]) rfl ?_
    refine rn_ifn (t := 26) rfl rfl rfl rfl h (fun h => ?_) (fun h => ?_)
    · refine rn_sls 1 (pc' := 23) (ls' := [(0, (2, 20))]) (st' := [(0, 1)]) rfl ?_
      refine rn_goto (t := 27) rfl rfl rfl ?_
      exact rn_sub [0] rfl (t_Rd_readHead_B27 d  _ _ _ h)
    · exact rn_sub [0] rfl (t_Rd_readHead_B26 d  _ _ h)
  · exact rn_sub [0] rfl (t_Rd_readHead_B26 d  _ _ h)
set_option maxRecDepth 20000 in
theorem t_Rd_mayStand (d : Nat) : ∀ (v1 : Int) (μ : am_M) q, Rd_mayStand v1 μ = some q → am_ar g_mt (d + 2) 69 [(2, 20), (0, v1)] μ (am_res 0 q) := by
  intro v1 μ q h
  unfold Rd_mayStand at h
  refine am_ar_of (d := d + 1) i_Rd_mayStand rfl rfl (Nat.le_of_ble_eq_true rfl) ?_
  show am_run none (am_ar g_mt (d + 1)) 2 (some .boolean) k_Rd_mayStand 0 [(0, (2, 20)), (1, (0, v1))] [] μ (am_res 0 q)
  refine rn_sls 1 (pc' := 1) (ls' := [(0, (2, 20)), (1, (0, v1))]) (st' := [(0, v1)]) rfl ?_
  refine rn_tsw rfl rfl ?_
  refine rn_swc (t := 52) rfl h (fun h => ?_) (fun h => ?_)
  · refine rn_sls 2 (pc' := 56) (ls' := [(0, (2, 20)), (1, (0, v1))]) (st' := [(2, (μ 20 4))]) rfl ?_
    refine rn_gd h (fun ho1 h => ?_)
    refine rn_get ho1 rfl rfl rfl ?_
    refine rn_sls 0 (pc' := 59) (ls' := [(0, (2, 20)), (1, (0, v1))]) (st' := [(2, ((μ 20 4) + 16))]) rfl ?_
    refine rn_sls 2 (pc' := 63) (ls' := [(0, (2, 20)), (1, (0, v1))]) (st' := [(0, (μ 20 11)), (2, ((μ 20 4) + 16))]) rfl ?_
    refine rn_call 3 0 [(2, ((μ 20 4) + 16)), (0, (μ 20 11))] (r := []) rfl ⟨rfl, Or.inr ⟨_, rfl, by decide⟩⟩ (by decide) (fun z => absurd z (by decide)) rfl rfl (Nat.le_of_ble_eq_true rfl) h (fun w hw => t_X_at (d + 0) _ _ _ _ hw) (fun a2 μ3 h => ?_)
    refine rn_sls 0 (pc' := 66) (ls' := [(0, (2, 20)), (1, (0, v1))]) (st' := [(0, a2)]) rfl ?_
    refine rn_sls 2 (pc' := 70) (ls' := [(0, (2, 20)), (1, (0, v1))]) (st' := [(2, (μ3 20 4)), (0, a2)]) rfl ?_
    refine rn_gd h (fun ho4 h => ?_)
    refine rn_get ho4 rfl rfl rfl ?_
    refine rn_sls 0 (pc' := 73) (ls' := [(0, (2, 20)), (1, (0, v1))]) (st' := [(2, ((μ3 20 4) + 17)), (0, a2)]) rfl ?_
    refine rn_sls 2 (pc' := 77) (ls' := [(0, (2, 20)), (1, (0, v1))]) (st' := [(0, (μ3 20 11)), (2, ((μ3 20 4) + 17)), (0, a2)]) rfl ?_
    refine rn_call 3 0 [(2, ((μ3 20 4) + 17)), (0, (μ3 20 11))] (r := [(0, a2)]) rfl ⟨rfl, Or.inr ⟨_, rfl, by decide⟩⟩ (by decide) (fun z => absurd z (by decide)) rfl rfl (Nat.le_of_ble_eq_true rfl) h (fun w hw => t_X_at (d + 0) _ _ _ _ hw) (fun a5 μ6 h => ?_)
    refine rn_sls 0 (pc' := 80) (ls' := [(0, (2, 20)), (1, (0, v1))]) (st' := [(0, a5), (0, a2)]) rfl ?_
    refine rn_icmpn (t := 87) rfl rfl rfl rfl h (fun h => ?_) (fun h => ?_)
    · refine rn_sls 1 (pc' := 84) (ls' := [(0, (2, 20)), (1, (0, v1))]) (st' := [(0, 1)]) rfl ?_
      refine rn_goto (t := 88) rfl rfl rfl ?_
      exact rn_iretb rfl rfl rfl (Or.inr rfl) h rfl
    · refine rn_sls 1 (pc' := 88) (ls' := [(0, (2, 20)), (1, (0, v1))]) (st' := [(0, 0)]) rfl ?_
      exact rn_iretb rfl rfl rfl (Or.inl rfl) h rfl
  refine rn_swc (t := 183) rfl h (fun h => ?_) (fun h => ?_)
  · refine rn_sls 1 (pc' := 184) (ls' := [(0, (2, 20)), (1, (0, v1))]) (st' := [(0, 1)]) rfl ?_
    exact rn_iretb rfl rfl rfl (Or.inr rfl) h rfl
  refine rn_swc (t := 183) rfl h (fun h => ?_) (fun h => ?_)
  · refine rn_sls 1 (pc' := 184) (ls' := [(0, (2, 20)), (1, (0, v1))]) (st' := [(0, 1)]) rfl ?_
    exact rn_iretb rfl rfl rfl (Or.inr rfl) h rfl
  refine rn_swc (t := 183) rfl h (fun h => ?_) (fun h => ?_)
  · refine rn_sls 1 (pc' := 184) (ls' := [(0, (2, 20)), (1, (0, v1))]) (st' := [(0, 1)]) rfl ?_
    exact rn_iretb rfl rfl rfl (Or.inr rfl) h rfl
  refine rn_swc (t := 183) rfl h (fun h => ?_) (fun h => ?_)
  · refine rn_sls 1 (pc' := 184) (ls' := [(0, (2, 20)), (1, (0, v1))]) (st' := [(0, 1)]) rfl ?_
    exact rn_iretb rfl rfl rfl (Or.inr rfl) h rfl
  refine rn_swc (t := 183) rfl h (fun h => ?_) (fun h => ?_)
  · refine rn_sls 1 (pc' := 184) (ls' := [(0, (2, 20)), (1, (0, v1))]) (st' := [(0, 1)]) rfl ?_
    exact rn_iretb rfl rfl rfl (Or.inr rfl) h rfl
  refine rn_swc (t := 89) rfl h (fun h => ?_) (fun h => ?_)
  · refine rn_sls 2 (pc' := 93) (ls' := [(0, (2, 20)), (1, (0, v1))]) (st' := [(0, (μ 20 7))]) rfl ?_
    refine rn_if (t := 127) rfl rfl rfl rfl h (fun h => ?_) (fun h => ?_)
    · refine rn_sls 1 (pc' := 128) (ls' := [(0, (2, 20)), (1, (0, v1))]) (st' := [(0, 0)]) rfl ?_
      exact rn_iretb rfl rfl rfl (Or.inl rfl) h rfl
    · refine rn_sls 2 (pc' := 100) (ls' := [(0, (2, 20)), (1, (0, v1))]) (st' := [(2, (μ 20 5))]) rfl ?_
      refine rn_gd h (fun ho7 h => ?_)
      refine rn_get ho7 rfl rfl rfl ?_
      refine rn_sls 0 (pc' := 103) (ls' := [(0, (2, 20)), (1, (0, v1))]) (st' := [(2, ((μ 20 5) + 1))]) rfl ?_
      refine rn_sls 6 (pc' := 113) (ls' := [(0, (2, 20)), (1, (0, v1))]) (st' := [(0, (w32 ((μ 20 7) - 1))), (2, 22), (2, ((μ 20 5) + 1))]) rfl ?_
      refine rn_call 3 0 [(2, 22), (0, (w32 ((μ 20 7) - 1)))] (r := [(2, ((μ 20 5) + 1))]) rfl ⟨rfl, Or.inr ⟨_, rfl, by decide⟩⟩ (by decide) (fun z => absurd z (by decide)) rfl rfl (Nat.le_of_ble_eq_true rfl) h (fun w hw => t_X_at (d + 0) _ _ _ _ hw) (fun a8 μ9 h => ?_)
      refine rn_sls 0 (pc' := 116) (ls' := [(0, (2, 20)), (1, (0, v1))]) (st' := [(0, a8), (2, ((μ 20 5) + 1))]) rfl ?_
      refine rn_call 3 0 [(2, ((μ 20 5) + 1)), (0, a8)] (r := []) rfl ⟨rfl, Or.inr ⟨_, rfl, by decide⟩⟩ (by decide) (fun z => absurd z (by decide)) rfl rfl (Nat.le_of_ble_eq_true rfl) h (fun w hw => t_X_at (d + 0) _ _ _ _ hw) (fun a10 μ11 h => ?_)
      refine rn_sls 0 (pc' := 119) (ls' := [(0, (2, 20)), (1, (0, v1))]) (st' := [(0, a10)]) rfl ?_
      refine rn_sls 1 (pc' := 120) (ls' := [(0, (2, 20)), (1, (0, v1))]) (st' := [(0, 5), (0, a10)]) rfl ?_
      refine rn_icmpn (t := 127) rfl rfl rfl rfl h (fun h => ?_) (fun h => ?_)
      · refine rn_sls 1 (pc' := 124) (ls' := [(0, (2, 20)), (1, (0, v1))]) (st' := [(0, 1)]) rfl ?_
        refine rn_goto (t := 128) rfl rfl rfl ?_
        exact rn_iretb rfl rfl rfl (Or.inr rfl) h rfl
      · refine rn_sls 1 (pc' := 128) (ls' := [(0, (2, 20)), (1, (0, v1))]) (st' := [(0, 0)]) rfl ?_
        exact rn_iretb rfl rfl rfl (Or.inl rfl) h rfl
  refine rn_swc (t := 129) rfl h (fun h => ?_) (fun h => ?_)
  · refine rn_sls 2 (pc' := 133) (ls' := [(0, (2, 20)), (1, (0, v1))]) (st' := [(0, (μ 20 7))]) rfl ?_
    refine rn_if (t := 168) rfl rfl rfl rfl h (fun h => ?_) (fun h => ?_)
    · refine rn_sls 1 (pc' := 169) (ls' := [(0, (2, 20)), (1, (0, v1))]) (st' := [(0, 0)]) rfl ?_
      exact rn_iretb rfl rfl rfl (Or.inl rfl) h rfl
    · refine rn_sls 2 (pc' := 140) (ls' := [(0, (2, 20)), (1, (0, v1))]) (st' := [(2, (μ 20 5))]) rfl ?_
      refine rn_gd h (fun ho12 h => ?_)
      refine rn_get ho12 rfl rfl rfl ?_
      refine rn_sls 0 (pc' := 143) (ls' := [(0, (2, 20)), (1, (0, v1))]) (st' := [(2, ((μ 20 5) + 1))]) rfl ?_
      refine rn_sls 6 (pc' := 153) (ls' := [(0, (2, 20)), (1, (0, v1))]) (st' := [(0, (w32 ((μ 20 7) - 1))), (2, 22), (2, ((μ 20 5) + 1))]) rfl ?_
      refine rn_call 3 0 [(2, 22), (0, (w32 ((μ 20 7) - 1)))] (r := [(2, ((μ 20 5) + 1))]) rfl ⟨rfl, Or.inr ⟨_, rfl, by decide⟩⟩ (by decide) (fun z => absurd z (by decide)) rfl rfl (Nat.le_of_ble_eq_true rfl) h (fun w hw => t_X_at (d + 0) _ _ _ _ hw) (fun a13 μ14 h => ?_)
      refine rn_sls 0 (pc' := 156) (ls' := [(0, (2, 20)), (1, (0, v1))]) (st' := [(0, a13), (2, ((μ 20 5) + 1))]) rfl ?_
      refine rn_call 3 0 [(2, ((μ 20 5) + 1)), (0, a13)] (r := []) rfl ⟨rfl, Or.inr ⟨_, rfl, by decide⟩⟩ (by decide) (fun z => absurd z (by decide)) rfl rfl (Nat.le_of_ble_eq_true rfl) h (fun w hw => t_X_at (d + 0) _ _ _ _ hw) (fun a15 μ16 h => ?_)
      refine rn_sls 0 (pc' := 159) (ls' := [(0, (2, 20)), (1, (0, v1))]) (st' := [(0, a15)]) rfl ?_
      refine rn_sls 1 (pc' := 161) (ls' := [(0, (2, 20)), (1, (0, v1))]) (st' := [(0, 6), (0, a15)]) rfl ?_
      refine rn_icmpn (t := 168) rfl rfl rfl rfl h (fun h => ?_) (fun h => ?_)
      · refine rn_sls 1 (pc' := 165) (ls' := [(0, (2, 20)), (1, (0, v1))]) (st' := [(0, 1)]) rfl ?_
        refine rn_goto (t := 169) rfl rfl rfl ?_
        exact rn_iretb rfl rfl rfl (Or.inr rfl) h rfl
      · refine rn_sls 1 (pc' := 169) (ls' := [(0, (2, 20)), (1, (0, v1))]) (st' := [(0, 0)]) rfl ?_
        exact rn_iretb rfl rfl rfl (Or.inl rfl) h rfl
  refine rn_swc (t := 170) rfl h (fun h => ?_) (fun h => ?_)
  · refine rn_sls 2 (pc' := 174) (ls' := [(0, (2, 20)), (1, (0, v1))]) (st' := [(0, (μ 20 7))]) rfl ?_
    refine rn_ifn (t := 181) rfl rfl rfl rfl h (fun h => ?_) (fun h => ?_)
    · refine rn_sls 1 (pc' := 178) (ls' := [(0, (2, 20)), (1, (0, v1))]) (st' := [(0, 1)]) rfl ?_
      refine rn_goto (t := 182) rfl rfl rfl ?_
      exact rn_iretb rfl rfl rfl (Or.inr rfl) h rfl
    · refine rn_sls 1 (pc' := 182) (ls' := [(0, (2, 20)), (1, (0, v1))]) (st' := [(0, 0)]) rfl ?_
      exact rn_iretb rfl rfl rfl (Or.inl rfl) h rfl
  refine rn_sw0 (t := 183) rfl ?_
  refine rn_sls 1 (pc' := 184) (ls' := [(0, (2, 20)), (1, (0, v1))]) (st' := [(0, 1)]) rfl ?_
  exact rn_iretb rfl rfl rfl (Or.inr rfl) h rfl
set_option maxRecDepth 20000 in
theorem t_Rd_isTooMany_B34 (d : Nat) : ∀ (v1 : Int) (μ : am_M) q, Rd_isTooMany_B34 v1 μ = some q → am_run none (am_ar g_mt (d + 1)) 2 (some .boolean) k_Rd_isTooMany 34 [(0, (2, 20)), (1, (0, v1))] [] μ (am_res 0 q) := by
  intro v1 μ q h
  unfold Rd_isTooMany_B34 at h
  refine rn_sls 2 (pc' := 36) (ls' := [(0, (2, 20)), (1, (0, v1))]) (st' := [(0, 5), (0, v1)]) rfl ?_
  refine rn_icmpn (t := 51) rfl rfl rfl rfl h (fun h => ?_) (fun h => ?_)
  · refine rn_sls 3 (pc' := 44) (ls' := [(0, (2, 20)), (1, (0, v1))]) (st' := [(0, 3), (0, (μ 20 7))]) rfl ?_
    refine rn_icmp (t := 51) rfl rfl rfl rfl h (fun h => ?_) (fun h => ?_)
    · refine rn_sls 1 (pc' := 52) (ls' := [(0, (2, 20)), (1, (0, v1))]) (st' := [(0, 0)]) rfl ?_
      exact rn_iretb rfl rfl rfl (Or.inl rfl) h rfl
    · refine rn_sls 1 (pc' := 48) (ls' := [(0, (2, 20)), (1, (0, v1))]) (st' := [(0, 1)]) rfl ?_
      refine rn_goto (t := 52) rfl rfl rfl ?_
      exact rn_iretb rfl rfl rfl (Or.inr rfl) h rfl
  · refine rn_sls 1 (pc' := 52) (ls' := [(0, (2, 20)), (1, (0, v1))]) (st' := [(0, 0)]) rfl ?_
    exact rn_iretb rfl rfl rfl (Or.inl rfl) h rfl
set_option maxRecDepth 20000 in
theorem t_Rd_isTooMany (d : Nat) : ∀ (v1 : Int) (μ : am_M) q, Rd_isTooMany v1 μ = some q → am_ar g_mt (d + 2) 70 [(2, 20), (0, v1)] μ (am_res 0 q) := by
  intro v1 μ q h
  unfold Rd_isTooMany at h
  refine am_ar_of (d := d + 1) i_Rd_isTooMany rfl rfl (Nat.le_of_ble_eq_true rfl) ?_
  show am_run none (am_ar g_mt (d + 1)) 2 (some .boolean) k_Rd_isTooMany 0 [(0, (2, 20)), (1, (0, v1))] [] μ (am_res 0 q)
  refine rn_sls 2 (pc' := 4) (ls' := [(0, (2, 20)), (1, (0, v1))]) (st' := [(2, (μ 20 5))]) rfl ?_
  refine rn_gd h (fun ho1 h => ?_)
  refine rn_get ho1 rfl rfl rfl ?_
  refine rn_sls 0 (pc' := 7) (ls' := [(0, (2, 20)), (1, (0, v1))]) (st' := [(0, (μ (μ 20 5) 10))]) rfl ?_
  refine rn_sls 1 (pc' := 9) (ls' := [(0, (2, 20)), (1, (0, v1))]) (st' := [(0, 60), (0, (μ (μ 20 5) 10))]) rfl ?_
  refine rn_icmpn (t := 47) rfl rfl rfl rfl h (fun h => ?_) (fun h => ?_)
  · refine rn_sls 1 (pc' := 13) (ls' := [(0, (2, 20)), (1, (0, v1))]) (st' := [(0, v1)]) rfl ?_
    refine rn_ifn (t := 34) rfl rfl rfl rfl h (fun h => ?_) (fun h => ?_)
    · refine rn_sls 2 (pc' := 20) (ls' := [(0, (2, 20)), (1, (0, v1))]) (st' := [(2, (μ 20 4))]) rfl ?_
      refine rn_gd h (fun ho2 h => ?_)
      refine rn_get ho2 rfl rfl rfl ?_
      refine rn_sls 0 (pc' := 23) (ls' := [(0, (2, 20)), (1, (0, v1))]) (st' := [(2, ((μ 20 4) + 17))]) rfl ?_
      refine rn_sls 2 (pc' := 27) (ls' := [(0, (2, 20)), (1, (0, v1))]) (st' := [(0, (μ 20 11)), (2, ((μ 20 4) + 17))]) rfl ?_
      refine rn_call 3 0 [(2, ((μ 20 4) + 17)), (0, (μ 20 11))] (r := []) rfl ⟨rfl, Or.inr ⟨_, rfl, by decide⟩⟩ (by decide) (fun z => absurd z (by decide)) rfl rfl (Nat.le_of_ble_eq_true rfl) h (fun w hw => t_X_at (d + 0) _ _ _ _ hw) (fun a3 μ4 h => ?_)
      refine rn_sls 0 (pc' := 30) (ls' := [(0, (2, 20)), (1, (0, v1))]) (st' := [(0, a3)]) rfl ?_
      refine rn_sls 1 (pc' := 31) (ls' := [(0, (2, 20)), (1, (0, v1))]) (st' := [(0, 4), (0, a3)]) rfl ?_
      refine rn_icmpn (t := 47) rfl rfl rfl rfl h (fun h => ?_) (fun h => ?_)
      · exact rn_sub [0, 1] rfl (t_Rd_isTooMany_B34 d  _ _ _ h)
      · refine rn_sls 1 (pc' := 48) (ls' := [(0, (2, 20)), (1, (0, v1))]) (st' := [(0, 1)]) rfl ?_
        refine rn_goto (t := 52) rfl rfl rfl ?_
        exact rn_iretb rfl rfl rfl (Or.inr rfl) h rfl
    · exact rn_sub [0, 1] rfl (t_Rd_isTooMany_B34 d  _ _ _ h)
  · refine rn_sls 1 (pc' := 48) (ls' := [(0, (2, 20)), (1, (0, v1))]) (st' := [(0, 1)]) rfl ?_
    refine rn_goto (t := 52) rfl rfl rfl ?_
    exact rn_iretb rfl rfl rfl (Or.inr rfl) h rfl
set_option maxRecDepth 20000 in
theorem t_Rd_startLine_B29 (d : Nat) : ∀  (μ : am_M) q, Rd_startLine_B29  μ = some q → am_run none (am_ar g_mt (d + 3)) 2 (some .boolean) k_Rd_startLine 29 [(0, (2, 20))] [] μ (am_res 0 q) := by
  intro  μ q h
  unfold Rd_startLine_B29 at h
  refine rn_sls 2 (pc' := 31) (ls' := [(0, (2, 20))]) (st' := [(0, 1), (2, 20)]) rfl ?_
  refine rn_call 0 0 [(2, 20), (0, 1)] (r := []) rfl ⟨rfl, Or.inl ⟨_, rfl, by decide⟩⟩ (by decide) (fun _ => ⟨_, rfl, rfl⟩) rfl rfl (Nat.le_of_ble_eq_true rfl) h (fun w hw => t_Rd_fail (d + 2) _ _ _ hw) (fun a1 μ2 h => ?_)
  refine rn_sls 0 (pc' := 34) (ls' := [(0, (2, 20))]) (st' := [(0, a1)]) rfl ?_
  exact rn_iretB rfl rfl rfl h rfl
set_option maxRecDepth 20000 in
theorem t_Rd_startLine (d : Nat) : ∀  (μ : am_M) q, Rd_startLine  μ = some q → am_ar g_mt (d + 4) 68 [(2, 20)] μ (am_res 0 q) := by
  intro  μ q h
  unfold Rd_startLine at h
  refine am_ar_of (d := d + 3) i_Rd_startLine rfl rfl (Nat.le_of_ble_eq_true rfl) ?_
  show am_run none (am_ar g_mt (d + 3)) 2 (some .boolean) k_Rd_startLine 0 [(0, (2, 20))] [] μ (am_res 0 q)
  refine rn_sls 7 (pc' := 12) (ls' := [(1, (0, (w32 ((μ 10 5) - 100)))), (0, (2, 20))]) (st' := [(0, (w32 ((μ 10 5) - 100)))]) rfl ?_
  refine rn_if (t := 29) rfl rfl rfl rfl h (fun h => ?_) (fun h => ?_)
  · exact rn_sub [1] rfl (t_Rd_startLine_B29 d  _ _ h)
  · refine rn_sls 2 (pc' := 18) (ls' := [(1, (0, (w32 ((μ 10 5) - 100)))), (0, (2, 20))]) (st' := [(0, 8), (0, (w32 ((μ 10 5) - 100)))]) rfl ?_
    refine rn_icmpn (t := 29) rfl rfl rfl rfl h (fun h => ?_) (fun h => ?_)
    · refine rn_sls 2 (pc' := 23) (ls' := [(1, (0, (w32 ((μ 10 5) - 100)))), (0, (2, 20))]) (st' := [(0, (w32 ((μ 10 5) - 100))), (2, 20)]) rfl ?_
      refine rn_call 0 0 [(2, 20), (0, (w32 ((μ 10 5) - 100)))] (r := []) rfl ⟨rfl, Or.inl ⟨_, rfl, by decide⟩⟩ (by decide) (fun _ => ⟨_, rfl, rfl⟩) rfl rfl (Nat.le_of_ble_eq_true rfl) h (fun w hw => t_Rd_mayStand (d + 1) _ _ _ hw) (fun a1 μ2 h => ?_)
      refine rn_sls 0 (pc' := 26) (ls' := [(1, (0, (w32 ((μ 10 5) - 100)))), (0, (2, 20))]) (st' := [(0, a1)]) rfl ?_
      refine rn_ifn (t := 35) rfl rfl rfl rfl h (fun h => ?_) (fun h => ?_)
      · exact rn_sub [1] rfl (t_Rd_startLine_B29 d  _ _ h)
      · refine rn_sls 2 (pc' := 37) (ls' := [(1, (0, (w32 ((μ 10 5) - 100)))), (0, (2, 20))]) (st' := [(0, (w32 ((μ 10 5) - 100))), (2, 20)]) rfl ?_
        refine rn_call 0 0 [(2, 20), (0, (w32 ((μ 10 5) - 100)))] (r := []) rfl ⟨rfl, Or.inl ⟨_, rfl, by decide⟩⟩ (by decide) (fun _ => ⟨_, rfl, rfl⟩) rfl rfl (Nat.le_of_ble_eq_true rfl) h (fun w hw => t_Rd_isTooMany (d + 1) _ _ _ hw) (fun a3 μ4 h => ?_)
        refine rn_sls 0 (pc' := 40) (ls' := [(1, (0, (w32 ((μ 10 5) - 100)))), (0, (2, 20))]) (st' := [(0, a3)]) rfl ?_
        refine rn_if (t := 49) rfl rfl rfl rfl h (fun h => ?_) (fun h => ?_)
        · refine rn_sls 4 (pc' := 55) (ls' := [(1, (0, (w32 ((μ 10 5) - 100)))), (0, (2, 20))]) (st' := [(0, (w32 ((μ 10 5) - 100))), (2, (μ4 20 5)), (2, 20)]) rfl ?_
          refine rn_gd h (fun ho5 h => ?_)
          refine rn_call 0 0 [(2, (μ4 20 5)), (0, (w32 ((μ 10 5) - 100)))] (r := [(2, 20)]) rfl ⟨rfl, Or.inl ⟨_, rfl, by decide⟩⟩ (by decide) (fun _ => ⟨_, rfl, ho5⟩) rfl rfl (Nat.le_of_ble_eq_true rfl) h (fun w hw => t_Ln_add (d + 1) _ _ _ _ hw) (fun a6 μ7 h => ?_)
          refine rn_sls 0 (pc' := 58) (ls' := [(1, (0, (w32 ((μ 10 5) - 100)))), (0, (2, 20))]) (st' := [(0, a6), (2, 20)]) rfl ?_
          refine rn_put rfl rfl rfl rfl (Or.inl ⟨rfl, rfl⟩) rfl h (fun μ8 h => ?_)
          refine rn_sls 2 (pc' := 65) (ls' := [(1, (0, (w32 ((μ 10 5) - 100)))), (0, (2, 20))]) (st' := [(2, (μ8 20 4))]) rfl ?_
          refine rn_gd h (fun ho9 h => ?_)
          refine rn_get ho9 rfl rfl rfl ?_
          refine rn_sls 0 (pc' := 68) (ls' := [(1, (0, (w32 ((μ 10 5) - 100)))), (0, (2, 20))]) (st' := [(2, ((μ8 20 4) + 16))]) rfl ?_
          refine rn_sls 4 (pc' := 76) (ls' := [(1, (0, (w32 ((μ 10 5) - 100)))), (0, (2, 20))]) (st' := [(2, (μ8 20 4)), (0, (μ8 20 11)), (2, ((μ8 20 4) + 16))]) rfl ?_
          refine rn_get ho9 rfl rfl rfl ?_
          refine rn_sls 0 (pc' := 79) (ls' := [(1, (0, (w32 ((μ 10 5) - 100)))), (0, (2, 20))]) (st' := [(2, ((μ8 20 4) + 16)), (0, (μ8 20 11)), (2, ((μ8 20 4) + 16))]) rfl ?_
          refine rn_sls 2 (pc' := 83) (ls' := [(1, (0, (w32 ((μ 10 5) - 100)))), (0, (2, 20))]) (st' := [(0, (μ8 20 11)), (2, ((μ8 20 4) + 16)), (0, (μ8 20 11)), (2, ((μ8 20 4) + 16))]) rfl ?_
          refine rn_call 3 0 [(2, ((μ8 20 4) + 16)), (0, (μ8 20 11))] (r := [(0, (μ8 20 11)), (2, ((μ8 20 4) + 16))]) rfl ⟨rfl, Or.inr ⟨_, rfl, by decide⟩⟩ (by decide) (fun z => absurd z (by decide)) rfl rfl (Nat.le_of_ble_eq_true rfl) h (fun w hw => t_X_at (d + 2) _ _ _ _ hw) (fun a10 μ11 h => ?_)
          refine rn_sls 0 (pc' := 86) (ls' := [(1, (0, (w32 ((μ 10 5) - 100)))), (0, (2, 20))]) (st' := [(0, a10), (0, (μ8 20 11)), (2, ((μ8 20 4) + 16))]) rfl ?_
          refine rn_sls 2 (pc' := 88) (ls' := [(1, (0, (w32 ((μ 10 5) - 100)))), (0, (2, 20))]) (st' := [(0, (w32 (a10 + 1))), (0, (μ8 20 11)), (2, ((μ8 20 4) + 16))]) rfl ?_
          refine rn_call 3 2 [(2, ((μ8 20 4) + 16)), (0, (μ8 20 11)), (0, (w32 (a10 + 1)))] (r := []) rfl ⟨rfl, Or.inr ⟨_, rfl, by decide⟩⟩ (by decide) (fun z => absurd z (by decide)) rfl rfl (Nat.le_of_ble_eq_true rfl) h (fun w hw => t_X_put (d + 2) _ _ _ _ _ hw) (fun a12 μ13 h => ?_)
          refine rn_sls 0 (pc' := 91) (ls' := [(1, (0, (w32 ((μ 10 5) - 100)))), (0, (2, 20))]) (st' := []) rfl ?_
          refine rn_sls 2 (pc' := 95) (ls' := [(1, (0, (w32 ((μ 10 5) - 100)))), (0, (2, 20))]) (st' := [(2, 10)]) rfl ?_
          refine rn_call 0 2 [(2, 10)] (r := []) rfl ⟨rfl, Or.inl ⟨_, rfl, by decide⟩⟩ (by decide) (fun _ => ⟨_, rfl, rfl⟩) rfl rfl (Nat.le_of_ble_eq_true rfl) h (fun w hw => t_Tp_advance (d + 0)  _ _ hw) (fun a14 μ15 h => ?_)
          refine rn_sls 0 (pc' := 98) (ls' := [(1, (0, (w32 ((μ 10 5) - 100)))), (0, (2, 20))]) (st' := []) rfl ?_
          refine rn_sls 1 (pc' := 99) (ls' := [(1, (0, (w32 ((μ 10 5) - 100)))), (0, (2, 20))]) (st' := [(0, 1)]) rfl ?_
          exact rn_iretb rfl rfl rfl (Or.inr rfl) h rfl
        · refine rn_sls 2 (pc' := 45) (ls' := [(1, (0, (w32 ((μ 10 5) - 100)))), (0, (2, 20))]) (st' := [(0, 5), (2, 20)]) rfl ?_
          refine rn_call 0 0 [(2, 20), (0, 5)] (r := []) rfl ⟨rfl, Or.inl ⟨_, rfl, by decide⟩⟩ (by decide) (fun _ => ⟨_, rfl, rfl⟩) rfl rfl (Nat.le_of_ble_eq_true rfl) h (fun w hw => t_Rd_fail (d + 2) _ _ _ hw) (fun a16 μ17 h => ?_)
          refine rn_sls 0 (pc' := 48) (ls' := [(1, (0, (w32 ((μ 10 5) - 100)))), (0, (2, 20))]) (st' := [(0, a16)]) rfl ?_
          exact rn_iretB rfl rfl rfl h rfl
    · exact rn_sub [1] rfl (t_Rd_startLine_B29 d  _ _ h)
set_option maxRecDepth 20000 in
theorem t_Rd_isUntaken_B39 (d : Nat) : ∀  (μ : am_M) q, Rd_isUntaken_B39  μ = some q → am_run none (am_ar g_mt (d + 1)) 1 (some .boolean) k_Rd_isUntaken 39 [(0, (2, 20))] [] μ (am_res 0 q) := by
  intro  μ q h
  unfold Rd_isUntaken_B39 at h
  refine rn_sls 2 (pc' := 43) (ls' := [(0, (2, 20))]) (st' := [(2, (μ 20 4))]) rfl ?_
  refine rn_gd h (fun ho1 h => ?_)
  refine rn_get ho1 rfl rfl rfl ?_
  refine rn_sls 0 (pc' := 46) (ls' := [(0, (2, 20))]) (st' := [(2, ((μ 20 4) + 17))]) rfl ?_
  refine rn_sls 4 (pc' := 54) (ls' := [(0, (2, 20))]) (st' := [(2, (μ 20 4)), (0, (μ 20 11)), (2, ((μ 20 4) + 17))]) rfl ?_
  refine rn_get ho1 rfl rfl rfl ?_
  refine rn_sls 0 (pc' := 57) (ls' := [(0, (2, 20))]) (st' := [(2, ((μ 20 4) + 17)), (0, (μ 20 11)), (2, ((μ 20 4) + 17))]) rfl ?_
  refine rn_sls 2 (pc' := 61) (ls' := [(0, (2, 20))]) (st' := [(0, (μ 20 11)), (2, ((μ 20 4) + 17)), (0, (μ 20 11)), (2, ((μ 20 4) + 17))]) rfl ?_
  refine rn_call 3 0 [(2, ((μ 20 4) + 17)), (0, (μ 20 11))] (r := [(0, (μ 20 11)), (2, ((μ 20 4) + 17))]) rfl ⟨rfl, Or.inr ⟨_, rfl, by decide⟩⟩ (by decide) (fun z => absurd z (by decide)) rfl rfl (Nat.le_of_ble_eq_true rfl) h (fun w hw => t_X_at (d + 0) _ _ _ _ hw) (fun a2 μ3 h => ?_)
  refine rn_sls 0 (pc' := 64) (ls' := [(0, (2, 20))]) (st' := [(0, a2), (0, (μ 20 11)), (2, ((μ 20 4) + 17))]) rfl ?_
  refine rn_sls 2 (pc' := 66) (ls' := [(0, (2, 20))]) (st' := [(0, (w32 (a2 + 1))), (0, (μ 20 11)), (2, ((μ 20 4) + 17))]) rfl ?_
  refine rn_call 3 2 [(2, ((μ 20 4) + 17)), (0, (μ 20 11)), (0, (w32 (a2 + 1)))] (r := []) rfl ⟨rfl, Or.inr ⟨_, rfl, by decide⟩⟩ (by decide) (fun z => absurd z (by decide)) rfl rfl (Nat.le_of_ble_eq_true rfl) h (fun w hw => t_X_put (d + 0) _ _ _ _ _ hw) (fun a4 μ5 h => ?_)
  refine rn_sls 0 (pc' := 69) (ls' := [(0, (2, 20))]) (st' := []) rfl ?_
  refine rn_sls 1 (pc' := 70) (ls' := [(0, (2, 20))]) (st' := [(0, 1)]) rfl ?_
  exact rn_iretb rfl rfl rfl (Or.inr rfl) h rfl
set_option maxRecDepth 20000 in
theorem t_Rd_isUntaken (d : Nat) : ∀  (μ : am_M) q, Rd_isUntaken  μ = some q → am_ar g_mt (d + 2) 73 [(2, 20)] μ (am_res 0 q) := by
  intro  μ q h
  unfold Rd_isUntaken at h
  refine am_ar_of (d := d + 1) i_Rd_isUntaken rfl rfl (Nat.le_of_ble_eq_true rfl) ?_
  show am_run none (am_ar g_mt (d + 1)) 1 (some .boolean) k_Rd_isUntaken 0 [(0, (2, 20))] [] μ (am_res 0 q)
  refine rn_sls 4 (pc' := 8) (ls' := [(0, (2, 20))]) (st' := [(0, 2), (0, (μ 10 5))]) rfl ?_
  refine rn_icmpn (t := 39) rfl rfl rfl rfl h (fun h => ?_) (fun h => ?_)
  · refine rn_sls 7 (pc' := 26) (ls' := [(0, (2, 20))]) (st' := [(1, (μ 10 7)), (0, (μ 20 6)), (2, 21)]) rfl ?_
    refine rn_call 3 0 [(2, 21), (0, (μ 20 6)), (1, (μ 10 7))] (r := []) rfl ⟨rfl, Or.inr ⟨_, rfl, by decide⟩⟩ (by decide) (fun z => absurd z (by decide)) rfl rfl (Nat.le_of_ble_eq_true rfl) h (fun w hw => t_X_find (d + 0) _ _ _ _ _ hw) (fun a1 μ2 h => ?_)
    refine rn_sls 0 (pc' := 29) (ls' := [(0, (2, 20))]) (st' := [(0, a1)]) rfl ?_
    refine rn_sls 1 (pc' := 30) (ls' := [(0, (2, 20))]) (st' := [(0, (-1)), (0, a1)]) rfl ?_
    refine rn_icmp (t := 39) rfl rfl rfl rfl h (fun h => ?_) (fun h => ?_)
    · exact rn_sub [0] rfl (t_Rd_isUntaken_B39 d  _ _ h)
    · refine rn_sls 2 (pc' := 35) (ls' := [(0, (2, 20))]) (st' := [(0, 3), (2, 20)]) rfl ?_
      refine rn_call 0 0 [(2, 20), (0, 3)] (r := []) rfl ⟨rfl, Or.inl ⟨_, rfl, by decide⟩⟩ (by decide) (fun _ => ⟨_, rfl, rfl⟩) rfl rfl (Nat.le_of_ble_eq_true rfl) h (fun w hw => t_Rd_fail (d + 0) _ _ _ hw) (fun a3 μ4 h => ?_)
      refine rn_sls 0 (pc' := 38) (ls' := [(0, (2, 20))]) (st' := [(0, a3)]) rfl ?_
      exact rn_iretB rfl rfl rfl h rfl
  · exact rn_sub [0] rfl (t_Rd_isUntaken_B39 d  _ _ h)
set_option maxRecDepth 20000 in
theorem t_Rd_readKind_B51 (d : Nat) : ∀ (s1 : Int) (μ : am_M) q, Rd_readKind_B51 s1 μ = some q → am_run none (am_ar g_mt (d + 4)) 1 (some .boolean) k_Rd_readKind 51 [] [(0, s1), (2, 20)] μ (am_res 0 q) := by
  intro s1 μ q h
  unfold Rd_readKind_B51 at h
  refine rn_call 0 0 [(2, 20), (0, s1)] (r := []) rfl ⟨rfl, Or.inl ⟨_, rfl, by decide⟩⟩ (by decide) (fun _ => ⟨_, rfl, rfl⟩) rfl rfl (Nat.le_of_ble_eq_true rfl) h (fun w hw => t_Rd_expect (d + 0) _ _ _ hw) (fun a1 μ2 h => ?_)
  refine rn_sls 0 (pc' := 54) (ls' := []) (st' := [(0, a1)]) rfl ?_
  exact rn_iretB rfl rfl rfl h rfl
set_option maxRecDepth 20000 in
theorem t_Rd_readKind_B28 (d : Nat) : ∀ (s0 : Int) (s1 : Int) (s2 : Int) (μ : am_M) q, Rd_readKind_B28 s0 s1 s2 μ = some q → am_run none (am_ar g_mt (d + 4)) 1 (some .boolean) k_Rd_readKind 28 [(0, (2, 20))] [(0, s2), (0, s1), (2, s0)] μ (am_res 0 q) := by
  intro s0 s1 s2 μ q h
  unfold Rd_readKind_B28 at h
  refine rn_call 3 2 [(2, s0), (0, s1), (0, s2)] (r := []) rfl ⟨rfl, Or.inr ⟨_, rfl, by decide⟩⟩ (by decide) (fun z => absurd z (by decide)) rfl rfl (Nat.le_of_ble_eq_true rfl) h (fun w hw => t_X_put (d + 3) _ _ _ _ _ hw) (fun a1 μ2 h => ?_)
  refine rn_sls 0 (pc' := 31) (ls' := [(0, (2, 20))]) (st' := []) rfl ?_
  refine rn_sls 5 (pc' := 41) (ls' := [(0, (2, 20))]) (st' := [(0, 111), (0, (μ2 10 5)), (2, 20)]) rfl ?_
  refine rn_icmpn (t := 49) rfl rfl rfl rfl h (fun h => ?_) (fun h => ?_)
  · refine rn_sls 1 (pc' := 46) (ls' := [(0, (2, 20))]) (st' := [(0, 111), (2, 20)]) rfl ?_
    refine rn_goto (t := 51) rfl rfl rfl ?_
    exact rn_sub [] rfl (t_Rd_readKind_B51 d  _ _ _ h)
  · refine rn_sls 1 (pc' := 51) (ls' := [(0, (2, 20))]) (st' := [(0, 112), (2, 20)]) rfl ?_
    exact rn_sub [] rfl (t_Rd_readKind_B51 d  _ _ _ h)
set_option maxRecDepth 20000 in
theorem t_Rd_readKind (d : Nat) : ∀  (μ : am_M) q, Rd_readKind  μ = some q → am_ar g_mt (d + 5) 74 [(2, 20)] μ (am_res 0 q) := by
  intro  μ q h
  unfold Rd_readKind at h
  refine am_ar_of (d := d + 4) i_Rd_readKind rfl rfl (Nat.le_of_ble_eq_true rfl) ?_
  show am_run none (am_ar g_mt (d + 4)) 1 (some .boolean) k_Rd_readKind 0 [(0, (2, 20))] [] μ (am_res 0 q)
  refine rn_sls 2 (pc' := 4) (ls' := [(0, (2, 20))]) (st' := [(2, (μ 20 5))]) rfl ?_
  refine rn_gd h (fun ho1 h => ?_)
  refine rn_get ho1 rfl rfl rfl ?_
  refine rn_sls 0 (pc' := 7) (ls' := [(0, (2, 20))]) (st' := [(2, ((μ 20 5) + 4))]) rfl ?_
  refine rn_sls 6 (pc' := 20) (ls' := [(0, (2, 20))]) (st' := [(0, 111), (0, (μ 10 5)), (0, (μ 20 12)), (2, ((μ 20 5) + 4))]) rfl ?_
  refine rn_icmpn (t := 27) rfl rfl rfl rfl h (fun h => ?_) (fun h => ?_)
  · refine rn_sls 1 (pc' := 24) (ls' := [(0, (2, 20))]) (st' := [(0, 1), (0, (μ 20 12)), (2, ((μ 20 5) + 4))]) rfl ?_
    refine rn_goto (t := 28) rfl rfl rfl ?_
    exact rn_sub [0] rfl (t_Rd_readKind_B28 d  _ _ _ _ _ h)
  · refine rn_sls 1 (pc' := 28) (ls' := [(0, (2, 20))]) (st' := [(0, 0), (0, (μ 20 12)), (2, ((μ 20 5) + 4))]) rfl ?_
    exact rn_sub [0] rfl (t_Rd_readKind_B28 d  _ _ _ _ _ h)
set_option maxRecDepth 20000 in
theorem t_Rd_slipNamed (d : Nat) : ∀  (μ : am_M) q, Rd_slipNamed  μ = some q → am_ar g_mt (d + 2) 76 [(2, 20)] μ (am_res 0 q) := by
  intro  μ q h
  unfold Rd_slipNamed at h
  refine am_ar_of (d := d + 1) i_Rd_slipNamed rfl rfl (Nat.le_of_ble_eq_true rfl) ?_
  show am_run none (am_ar g_mt (d + 1)) 2 (some .int) k_Rd_slipNamed 0 [(0, (2, 20))] [] μ (am_res 0 q)
  refine rn_sls 7 (pc' := 15) (ls' := [(0, (2, 20))]) (st' := [(1, (μ 10 7)), (0, (μ 20 6)), (2, 21)]) rfl ?_
  refine rn_call 3 0 [(2, 21), (0, (μ 20 6)), (1, (μ 10 7))] (r := []) rfl ⟨rfl, Or.inr ⟨_, rfl, by decide⟩⟩ (by decide) (fun z => absurd z (by decide)) rfl rfl (Nat.le_of_ble_eq_true rfl) h (fun w hw => t_X_find (d + 0) _ _ _ _ _ hw) (fun a1 μ2 h => ?_)
  refine rn_sls 0 (pc' := 18) (ls' := [(0, (2, 20))]) (st' := [(0, a1)]) rfl ?_
  refine rn_sls 3 (pc' := 21) (ls' := [(1, (0, a1)), (0, (2, 20))]) (st' := [(0, (-1)), (0, a1)]) rfl ?_
  refine rn_icmpn (t := 64) rfl rfl rfl rfl h (fun h => ?_) (fun h => ?_)
  · refine rn_sls 5 (pc' := 33) (ls' := [(1, (0, a1)), (0, (2, 20))]) (st' := [(0, 10), (0, (μ2 20 6))]) rfl ?_
    refine rn_icmpn (t := 64) rfl rfl rfl rfl h (fun h => ?_) (fun h => ?_)
    · refine rn_sls 9 (pc' := 53) (ls' := [(1, (0, (μ2 20 6))), (0, (2, 20))]) (st' := [(1, (μ2 10 7)), (0, (μ2 20 6)), (2, 21)]) rfl ?_
      refine rn_last (n := 10) rfl rfl rfl h (fun μ3 h => ?_)
      refine rn_sls 5 (pc' := 61) (ls' := [(1, (0, (μ2 20 6))), (0, (2, 20))]) (st' := [(0, (w32 ((μ3 20 6) + 1))), (2, 20)]) rfl ?_
      refine rn_put rfl rfl rfl rfl (Or.inl ⟨rfl, rfl⟩) rfl h (fun μ4 h => ?_)
      refine rn_sls 1 (pc' := 65) (ls' := [(1, (0, (μ2 20 6))), (0, (2, 20))]) (st' := [(0, (μ2 20 6))]) rfl ?_
      exact rn_ireti rfl rfl rfl h rfl
    · refine rn_sls 1 (pc' := 65) (ls' := [(1, (0, a1)), (0, (2, 20))]) (st' := [(0, a1)]) rfl ?_
      exact rn_ireti rfl rfl rfl h rfl
  · refine rn_sls 1 (pc' := 65) (ls' := [(1, (0, a1)), (0, (2, 20))]) (st' := [(0, a1)]) rfl ?_
    exact rn_ireti rfl rfl rfl h rfl
set_option maxRecDepth 20000 in
theorem t_Rd_readSlip_B92 (d : Nat) : ∀  (μ : am_M) q, Rd_readSlip_B92  μ = some q → am_run none (am_ar g_mt (d + 3)) 3 (some .boolean) k_Rd_readSlip 92 [(0, (2, 20))] [] μ (am_res 0 q) := by
  intro  μ q h
  unfold Rd_readSlip_B92 at h
  refine rn_sls 2 (pc' := 96) (ls' := [(0, (2, 20))]) (st' := [(2, 10)]) rfl ?_
  refine rn_call 0 2 [(2, 10)] (r := []) rfl ⟨rfl, Or.inl ⟨_, rfl, by decide⟩⟩ (by decide) (fun _ => ⟨_, rfl, rfl⟩) rfl rfl (Nat.le_of_ble_eq_true rfl) h (fun w hw => t_Tp_advance (d + 0)  _ _ hw) (fun a1 μ2 h => ?_)
  refine rn_sls 0 (pc' := 99) (ls' := [(0, (2, 20))]) (st' := []) rfl ?_
  refine rn_sls 1 (pc' := 100) (ls' := [(0, (2, 20))]) (st' := [(0, 1)]) rfl ?_
  exact rn_iretb rfl rfl rfl (Or.inr rfl) h rfl
set_option maxRecDepth 20000 in
theorem t_Rd_readSlip_B84 (d : Nat) : ∀ (v2 : Int) (s0 : Int) (μ : am_M) q, Rd_readSlip_B84 v2 s0 μ = some q → am_run none (am_ar g_mt (d + 3)) 3 (some .boolean) k_Rd_readSlip 84 [(0, (2, 20)), (2, (0, v2))] [(2, s0)] μ (am_res 0 q) := by
  intro v2 s0 μ q h
  unfold Rd_readSlip_B84 at h
  refine rn_sls 3 (pc' := 89) (ls' := [(0, (2, 20)), (2, (0, v2))]) (st' := [(0, v2), (0, (μ 20 12)), (2, s0)]) rfl ?_
  refine rn_call 3 2 [(2, s0), (0, (μ 20 12)), (0, v2)] (r := []) rfl ⟨rfl, Or.inr ⟨_, rfl, by decide⟩⟩ (by decide) (fun z => absurd z (by decide)) rfl rfl (Nat.le_of_ble_eq_true rfl) h (fun w hw => t_X_put (d + 2) _ _ _ _ _ hw) (fun a1 μ2 h => ?_)
  refine rn_sls 0 (pc' := 92) (ls' := [(0, (2, 20)), (2, (0, v2))]) (st' := []) rfl ?_
  exact rn_sub [0] rfl (t_Rd_readSlip_B92 d  _ _ h)
set_option maxRecDepth 20000 in
theorem t_Rd_readSlip (d : Nat) : ∀ (v1 : Int) (μ : am_M) q, Rd_readSlip v1 μ = some q → am_ar g_mt (d + 4) 75 [(2, 20), (0, v1)] μ (am_res 0 q) := by
  intro v1 μ q h
  unfold Rd_readSlip at h
  refine am_ar_of (d := d + 3) i_Rd_readSlip rfl rfl (Nat.le_of_ble_eq_true rfl) ?_
  show am_run none (am_ar g_mt (d + 3)) 3 (some .boolean) k_Rd_readSlip 0 [(0, (2, 20)), (1, (0, v1))] [] μ (am_res 0 q)
  refine rn_sls 4 (pc' := 8) (ls' := [(0, (2, 20)), (1, (0, v1))]) (st' := [(0, 2), (0, (μ 10 5))]) rfl ?_
  refine rn_icmp (t := 17) rfl rfl rfl rfl h (fun h => ?_) (fun h => ?_)
  · refine rn_sls 1 (pc' := 18) (ls' := [(0, (2, 20)), (1, (0, v1))]) (st' := [(2, 20)]) rfl ?_
    refine rn_call 0 0 [(2, 20)] (r := []) rfl ⟨rfl, Or.inl ⟨_, rfl, by decide⟩⟩ (by decide) (fun _ => ⟨_, rfl, rfl⟩) rfl rfl (Nat.le_of_ble_eq_true rfl) h (fun w hw => t_Rd_isWall (d + 1)  _ _ hw) (fun a1 μ2 h => ?_)
    refine rn_sls 0 (pc' := 21) (ls' := [(0, (2, 20)), (1, (0, v1))]) (st' := [(0, a1)]) rfl ?_
    refine rn_if (t := 30) rfl rfl rfl rfl h (fun h => ?_) (fun h => ?_)
    · refine rn_sls 1 (pc' := 31) (ls' := [(0, (2, 20)), (1, (0, v1))]) (st' := [(2, 20)]) rfl ?_
      refine rn_call 0 0 [(2, 20)] (r := []) rfl ⟨rfl, Or.inl ⟨_, rfl, by decide⟩⟩ (by decide) (fun _ => ⟨_, rfl, rfl⟩) rfl rfl (Nat.le_of_ble_eq_true rfl) h (fun w hw => t_Rd_slipNamed (d + 1)  _ _ hw) (fun a3 μ4 h => ?_)
      refine rn_sls 0 (pc' := 34) (ls' := [(0, (2, 20)), (1, (0, v1))]) (st' := [(0, a3)]) rfl ?_
      refine rn_sls 3 (pc' := 37) (ls' := [(2, (0, a3)), (0, (2, 20)), (1, (0, v1))]) (st' := [(0, (-1)), (0, a3)]) rfl ?_
      refine rn_icmpn (t := 46) rfl rfl rfl rfl h (fun h => ?_) (fun h => ?_)
      · refine rn_sls 2 (pc' := 42) (ls' := [(2, (0, a3)), (0, (2, 20)), (1, (0, v1))]) (st' := [(0, 5), (2, 20)]) rfl ?_
        refine rn_call 0 0 [(2, 20), (0, 5)] (r := []) rfl ⟨rfl, Or.inl ⟨_, rfl, by decide⟩⟩ (by decide) (fun _ => ⟨_, rfl, rfl⟩) rfl rfl (Nat.le_of_ble_eq_true rfl) h (fun w hw => t_Rd_fail (d + 2) _ _ _ hw) (fun a10 μ11 h => ?_)
        refine rn_sls 0 (pc' := 45) (ls' := [(2, (0, a3)), (0, (2, 20)), (1, (0, v1))]) (st' := [(0, a10)]) rfl ?_
        exact rn_iretB rfl rfl rfl h rfl
      · refine rn_sls 1 (pc' := 47) (ls' := [(2, (0, a3)), (0, (2, 20)), (1, (0, v1))]) (st' := [(0, v1)]) rfl ?_
        refine rn_ifn (t := 62) rfl rfl rfl rfl h (fun h => ?_) (fun h => ?_)
        · refine rn_sls 4 (pc' := 56) (ls' := [(2, (0, a3)), (0, (2, 20)), (1, (0, v1))]) (st' := [(0, a3), (0, 2), (2, (μ4 20 5))]) rfl ?_
          refine rn_gd h (fun ho7 h => ?_)
          refine rn_call 0 2 [(2, (μ4 20 5)), (0, 2), (0, a3)] (r := []) rfl ⟨rfl, Or.inl ⟨_, rfl, by decide⟩⟩ (by decide) (fun _ => ⟨_, rfl, ho7⟩) rfl rfl (Nat.le_of_ble_eq_true rfl) h (fun w hw => t_Ln_addCode (d + 1) _ _ _ _ _ hw) (fun a8 μ9 h => ?_)
          refine rn_sls 0 (pc' := 59) (ls' := [(2, (0, a3)), (0, (2, 20)), (1, (0, v1))]) (st' := []) rfl ?_
          refine rn_goto (t := 92) rfl rfl rfl ?_
          exact rn_sub [1] rfl (t_Rd_readSlip_B92 d  _ _ h)
        · refine rn_sls 2 (pc' := 64) (ls' := [(2, (0, a3)), (0, (2, 20)), (1, (0, v1))]) (st' := [(0, 1), (0, v1)]) rfl ?_
          refine rn_icmpn (t := 77) rfl rfl rfl rfl h (fun h => ?_) (fun h => ?_)
          · refine rn_sls 2 (pc' := 71) (ls' := [(2, (0, a3)), (0, (2, 20)), (1, (0, v1))]) (st' := [(2, (μ4 20 5))]) rfl ?_
            refine rn_gd h (fun ho6 h => ?_)
            refine rn_get ho6 rfl rfl rfl ?_
            refine rn_sls 0 (pc' := 74) (ls' := [(2, (0, a3)), (0, (2, 20)), (1, (0, v1))]) (st' := [(2, ((μ4 20 5) + 2))]) rfl ?_
            refine rn_goto (t := 84) rfl rfl rfl ?_
            exact rn_sub [1, 0] rfl (t_Rd_readSlip_B84 d  _ _ _ _ h)
          · refine rn_sls 2 (pc' := 81) (ls' := [(2, (0, a3)), (0, (2, 20)), (1, (0, v1))]) (st' := [(2, (μ4 20 5))]) rfl ?_
            refine rn_gd h (fun ho5 h => ?_)
            refine rn_get ho5 rfl rfl rfl ?_
            refine rn_sls 0 (pc' := 84) (ls' := [(2, (0, a3)), (0, (2, 20)), (1, (0, v1))]) (st' := [(2, ((μ4 20 5) + 3))]) rfl ?_
            exact rn_sub [1, 0] rfl (t_Rd_readSlip_B84 d  _ _ _ _ h)
    · refine rn_sls 2 (pc' := 26) (ls' := [(0, (2, 20)), (1, (0, v1))]) (st' := [(0, 3), (2, 20)]) rfl ?_
      refine rn_call 0 0 [(2, 20), (0, 3)] (r := []) rfl ⟨rfl, Or.inl ⟨_, rfl, by decide⟩⟩ (by decide) (fun _ => ⟨_, rfl, rfl⟩) rfl rfl (Nat.le_of_ble_eq_true rfl) h (fun w hw => t_Rd_fail (d + 2) _ _ _ hw) (fun a12 μ13 h => ?_)
      refine rn_sls 0 (pc' := 29) (ls' := [(0, (2, 20)), (1, (0, v1))]) (st' := [(0, a12)]) rfl ?_
      exact rn_iretB rfl rfl rfl h rfl
  · refine rn_sls 2 (pc' := 13) (ls' := [(0, (2, 20)), (1, (0, v1))]) (st' := [(0, 1), (2, 20)]) rfl ?_
    refine rn_call 0 0 [(2, 20), (0, 1)] (r := []) rfl ⟨rfl, Or.inl ⟨_, rfl, by decide⟩⟩ (by decide) (fun _ => ⟨_, rfl, rfl⟩) rfl rfl (Nat.le_of_ble_eq_true rfl) h (fun w hw => t_Rd_fail (d + 2) _ _ _ hw) (fun a14 μ15 h => ?_)
    refine rn_sls 0 (pc' := 16) (ls' := [(0, (2, 20)), (1, (0, v1))]) (st' := [(0, a14)]) rfl ?_
    exact rn_iretB rfl rfl rfl h rfl
set_option maxRecDepth 20000 in
theorem t_Rd_readCall_B134 (d : Nat) : ∀ (s1 : Int) (μ : am_M) q, Rd_readCall_B134 s1 μ = some q → am_run none (am_ar g_mt (d + 4)) 4 (some .boolean) k_Rd_readCall 134 [] [(0, s1), (2, 20)] μ (am_res 0 q) := by
  intro s1 μ q h
  unfold Rd_readCall_B134 at h
  refine rn_call 0 0 [(2, 20), (0, s1)] (r := []) rfl ⟨rfl, Or.inl ⟨_, rfl, by decide⟩⟩ (by decide) (fun _ => ⟨_, rfl, rfl⟩) rfl rfl (Nat.le_of_ble_eq_true rfl) h (fun w hw => t_Rd_fail (d + 3) _ _ _ hw) (fun a1 μ2 h => ?_)
  refine rn_sls 0 (pc' := 137) (ls' := []) (st' := [(0, a1)]) rfl ?_
  exact rn_iretB rfl rfl rfl h rfl
set_option maxRecDepth 20000 in
theorem t_Rd_readCall_L89_b (d : Nat) (k89 : Int → Int → am_M → am_O) (hk89 : ∀ (v2 : Int) (v3 : Int) (μ : am_M) q, k89 v2 v3 μ = some q → am_run none (am_ar g_mt (d + 4)) 4 (some .boolean) k_Rd_readCall 89 [(0, (2, 20)), (2, (0, v2)), (3, (0, v3))] [] μ (am_res 0 q)) : ∀ (v2 : Int) (v3 : Int) (μ : am_M) q, Rd_readCall_L89_b k89 v2 v3 μ = some q → am_run none (am_ar g_mt (d + 4)) 4 (some .boolean) k_Rd_readCall 89 [(0, (2, 20)), (2, (0, v2)), (3, (0, v3))] [] μ (am_res 0 q) := by
  intro v2 v3 μ q h
  unfold Rd_readCall_L89_b at h
  refine rn_sls 2 (pc' := 91) (ls' := [(0, (2, 20)), (2, (0, v2)), (3, (0, v3))]) (st' := [(0, v2), (0, v3)]) rfl ?_
  refine rn_icmpn (t := 110) rfl rfl rfl rfl h (fun h => ?_) (fun h => ?_)
  · refine rn_sls 2 (pc' := 96) (ls' := [(0, (2, 20)), (2, (0, v2)), (3, (0, v3))]) (st' := [(0, 0), (2, 20)]) rfl ?_
    refine rn_call 0 0 [(2, 20), (0, 0)] (r := []) rfl ⟨rfl, Or.inl ⟨_, rfl, by decide⟩⟩ (by decide) (fun _ => ⟨_, rfl, rfl⟩) rfl rfl (Nat.le_of_ble_eq_true rfl) h (fun w hw => t_Rd_readSlip (d + 0) _ _ _ hw) (fun a3 μ4 h => ?_)
    refine rn_sls 0 (pc' := 99) (ls' := [(0, (2, 20)), (2, (0, v2)), (3, (0, v3))]) (st' := [(0, a3)]) rfl ?_
    refine rn_ifn (t := 104) rfl rfl rfl rfl h (fun h => ?_) (fun h => ?_)
    · refine rn_sls 1 (pc' := 103) (ls' := [(0, (2, 20)), (2, (0, v2)), (3, (0, v3))]) (st' := [(0, 0)]) rfl ?_
      exact rn_iretb rfl rfl rfl (Or.inl rfl) h rfl
    · refine rn_sls 1 (pc' := 107) (ls' := [(3, (0, (w32 (v3 + 1)))), (0, (2, 20)), (2, (0, v2))]) (st' := []) rfl ?_
      refine rn_goto (t := 89) rfl rfl rfl ?_
      exact rn_sub [1, 2, 0] rfl (hk89 _ _ _ _ h)
  · refine rn_sls 4 (pc' := 118) (ls' := [(0, (2, 20)), (2, (0, v2)), (3, (0, v3))]) (st' := [(0, 2), (0, (μ 10 5))]) rfl ?_
    refine rn_icmpn (t := 138) rfl rfl rfl rfl h (fun h => ?_) (fun h => ?_)
    · refine rn_sls 2 (pc' := 123) (ls' := [(0, (2, 20)), (2, (0, v2)), (3, (0, v3))]) (st' := [(2, 20), (2, 20)]) rfl ?_
      refine rn_call 0 0 [(2, 20)] (r := [(2, 20)]) rfl ⟨rfl, Or.inl ⟨_, rfl, by decide⟩⟩ (by decide) (fun _ => ⟨_, rfl, rfl⟩) rfl rfl (Nat.le_of_ble_eq_true rfl) h (fun w hw => t_Rd_isWall (d + 2)  _ _ hw) (fun a1 μ2 h => ?_)
      refine rn_sls 0 (pc' := 126) (ls' := [(0, (2, 20)), (2, (0, v2)), (3, (0, v3))]) (st' := [(0, a1), (2, 20)]) rfl ?_
      refine rn_if (t := 133) rfl rfl rfl rfl h (fun h => ?_) (fun h => ?_)
      · refine rn_sls 1 (pc' := 134) (ls' := [(0, (2, 20)), (2, (0, v2)), (3, (0, v3))]) (st' := [(0, 5), (2, 20)]) rfl ?_
        exact rn_sub [] rfl (t_Rd_readCall_B134 d  _ _ _ h)
      · refine rn_sls 1 (pc' := 130) (ls' := [(0, (2, 20)), (2, (0, v2)), (3, (0, v3))]) (st' := [(0, 3), (2, 20)]) rfl ?_
        refine rn_goto (t := 134) rfl rfl rfl ?_
        exact rn_sub [] rfl (t_Rd_readCall_B134 d  _ _ _ h)
    · refine rn_sls 1 (pc' := 139) (ls' := [(0, (2, 20)), (2, (0, v2)), (3, (0, v3))]) (st' := [(0, 1)]) rfl ?_
      exact rn_iretb rfl rfl rfl (Or.inr rfl) h rfl
set_option maxRecDepth 20000 in
theorem t_Rd_readCall_L89 (d : Nat) : ∀ (n : Nat) (v2 : Int) (v3 : Int) (μ : am_M) q, Rd_readCall_L89 n v2 v3 μ = some q → am_run none (am_ar g_mt (d + 4)) 4 (some .boolean) k_Rd_readCall 89 [(0, (2, 20)), (2, (0, v2)), (3, (0, v3))] [] μ (am_res 0 q) := by
  intro n
  induction n with
  | zero => intro v2 v3 μ q h; cases h
  | succ n ih => intro v2 v3 μ q h; exact t_Rd_readCall_L89_b d (Rd_readCall_L89 n) ih v2 v3 μ q h
set_option maxRecDepth 20000 in
theorem t_Rd_readCall (d : Nat) : ∀  (μ : am_M) q, Rd_readCall  μ = some q → am_ar g_mt (d + 5) 77 [(2, 20)] μ (am_res 0 q) := by
  intro  μ q h
  unfold Rd_readCall at h
  refine am_ar_of (d := d + 4) i_Rd_readCall rfl rfl (Nat.le_of_ble_eq_true rfl) ?_
  show am_run none (am_ar g_mt (d + 4)) 4 (some .boolean) k_Rd_readCall 0 [(0, (2, 20))] [] μ (am_res 0 q)
  refine rn_sls 4 (pc' := 8) (ls' := [(0, (2, 20))]) (st' := [(0, 2), (0, (μ 10 5))]) rfl ?_
  refine rn_icmp (t := 17) rfl rfl rfl rfl h (fun h => ?_) (fun h => ?_)
  · refine rn_sls 2 (pc' := 21) (ls' := [(0, (2, 20))]) (st' := [(2, (μ 20 4))]) rfl ?_
    refine rn_gd h (fun ho1 h => ?_)
    refine rn_get ho1 rfl rfl rfl ?_
    refine rn_sls 0 (pc' := 24) (ls' := [(0, (2, 20))]) (st' := [(2, ((μ 20 4) + 14))]) rfl ?_
    refine rn_sls 2 (pc' := 28) (ls' := [(0, (2, 20))]) (st' := [(2, (μ 20 4)), (2, ((μ 20 4) + 14))]) rfl ?_
    refine rn_get ho1 rfl rfl rfl ?_
    refine rn_sls 0 (pc' := 31) (ls' := [(0, (2, 20))]) (st' := [(0, (μ (μ 20 4) 13)), (2, ((μ 20 4) + 14))]) rfl ?_
    refine rn_sls 3 (pc' := 38) (ls' := [(0, (2, 20))]) (st' := [(1, (μ 10 7)), (0, (μ (μ 20 4) 13)), (2, ((μ 20 4) + 14))]) rfl ?_
    refine rn_call 3 0 [(2, ((μ 20 4) + 14)), (0, (μ (μ 20 4) 13)), (1, (μ 10 7))] (r := []) rfl ⟨rfl, Or.inr ⟨_, rfl, by decide⟩⟩ (by decide) (fun z => absurd z (by decide)) rfl rfl (Nat.le_of_ble_eq_true rfl) h (fun w hw => t_X_find (d + 3) _ _ _ _ _ hw) (fun a2 μ3 h => ?_)
    refine rn_sls 0 (pc' := 41) (ls' := [(0, (2, 20))]) (st' := [(0, a2)]) rfl ?_
    refine rn_sls 3 (pc' := 44) (ls' := [(1, (0, a2)), (0, (2, 20))]) (st' := [(0, (-1)), (0, a2)]) rfl ?_
    refine rn_icmpn (t := 53) rfl rfl rfl rfl h (fun h => ?_) (fun h => ?_)
    · refine rn_sls 2 (pc' := 49) (ls' := [(1, (0, a2)), (0, (2, 20))]) (st' := [(0, 2), (2, 20)]) rfl ?_
      refine rn_call 0 0 [(2, 20), (0, 2)] (r := []) rfl ⟨rfl, Or.inl ⟨_, rfl, by decide⟩⟩ (by decide) (fun _ => ⟨_, rfl, rfl⟩) rfl rfl (Nat.le_of_ble_eq_true rfl) h (fun w hw => t_Rd_fail (d + 3) _ _ _ hw) (fun a12 μ13 h => ?_)
      refine rn_sls 0 (pc' := 52) (ls' := [(1, (0, a2)), (0, (2, 20))]) (st' := [(0, a12)]) rfl ?_
      exact rn_iretB rfl rfl rfl h rfl
    · refine rn_sls 2 (pc' := 57) (ls' := [(1, (0, a2)), (0, (2, 20))]) (st' := [(2, (μ3 20 5))]) rfl ?_
      refine rn_gd h (fun ho4 h => ?_)
      refine rn_get ho4 rfl rfl rfl ?_
      refine rn_sls 0 (pc' := 60) (ls' := [(1, (0, a2)), (0, (2, 20))]) (st' := [(2, ((μ3 20 5) + 5))]) rfl ?_
      refine rn_sls 3 (pc' := 65) (ls' := [(1, (0, a2)), (0, (2, 20))]) (st' := [(0, a2), (0, (μ3 20 12)), (2, ((μ3 20 5) + 5))]) rfl ?_
      refine rn_call 3 2 [(2, ((μ3 20 5) + 5)), (0, (μ3 20 12)), (0, a2)] (r := []) rfl ⟨rfl, Or.inr ⟨_, rfl, by decide⟩⟩ (by decide) (fun z => absurd z (by decide)) rfl rfl (Nat.le_of_ble_eq_true rfl) h (fun w hw => t_X_put (d + 3) _ _ _ _ _ hw) (fun a5 μ6 h => ?_)
      refine rn_sls 0 (pc' := 68) (ls' := [(1, (0, a2)), (0, (2, 20))]) (st' := []) rfl ?_
      refine rn_sls 2 (pc' := 72) (ls' := [(1, (0, a2)), (0, (2, 20))]) (st' := [(2, 10)]) rfl ?_
      refine rn_call 0 2 [(2, 10)] (r := []) rfl ⟨rfl, Or.inl ⟨_, rfl, by decide⟩⟩ (by decide) (fun _ => ⟨_, rfl, rfl⟩) rfl rfl (Nat.le_of_ble_eq_true rfl) h (fun w hw => t_Tp_advance (d + 1)  _ _ hw) (fun a7 μ8 h => ?_)
      refine rn_sls 0 (pc' := 75) (ls' := [(1, (0, a2)), (0, (2, 20))]) (st' := []) rfl ?_
      refine rn_sls 2 (pc' := 79) (ls' := [(1, (0, a2)), (0, (2, 20))]) (st' := [(2, (μ8 20 4))]) rfl ?_
      refine rn_gd h (fun ho9 h => ?_)
      refine rn_get ho9 rfl rfl rfl ?_
      refine rn_sls 0 (pc' := 82) (ls' := [(1, (0, a2)), (0, (2, 20))]) (st' := [(2, ((μ8 20 4) + 17))]) rfl ?_
      refine rn_sls 1 (pc' := 83) (ls' := [(1, (0, a2)), (0, (2, 20))]) (st' := [(0, a2), (2, ((μ8 20 4) + 17))]) rfl ?_
      refine rn_call 3 0 [(2, ((μ8 20 4) + 17)), (0, a2)] (r := []) rfl ⟨rfl, Or.inr ⟨_, rfl, by decide⟩⟩ (by decide) (fun z => absurd z (by decide)) rfl rfl (Nat.le_of_ble_eq_true rfl) h (fun w hw => t_X_at (d + 3) _ _ _ _ hw) (fun a10 μ11 h => ?_)
      refine rn_sls 0 (pc' := 86) (ls' := [(1, (0, a2)), (0, (2, 20))]) (st' := [(0, a10)]) rfl ?_
      refine rn_sls 3 (pc' := 89) (ls' := [(3, (0, 0)), (2, (0, a10)), (1, (0, a2)), (0, (2, 20))]) (st' := []) rfl ?_
      exact rn_sub [3, 1, 0] rfl (t_Rd_readCall_L89 d  am_FU _ _ _ _ h)
  · refine rn_sls 2 (pc' := 13) (ls' := [(0, (2, 20))]) (st' := [(0, 1), (2, 20)]) rfl ?_
    refine rn_call 0 0 [(2, 20), (0, 1)] (r := []) rfl ⟨rfl, Or.inl ⟨_, rfl, by decide⟩⟩ (by decide) (fun _ => ⟨_, rfl, rfl⟩) rfl rfl (Nat.le_of_ble_eq_true rfl) h (fun w hw => t_Rd_fail (d + 3) _ _ _ hw) (fun a14 μ15 h => ?_)
    refine rn_sls 0 (pc' := 16) (ls' := [(0, (2, 20))]) (st' := [(0, a14)]) rfl ?_
    exact rn_iretB rfl rfl rfl h rfl
set_option maxRecDepth 20000 in
theorem t_Rd_mayBegin_B36 (d : Nat) : ∀  (μ : am_M) q, Rd_mayBegin_B36  μ = some q → am_run none (am_ar g_mt (d + 1)) 2 (some .boolean) k_Rd_mayBegin 36 [(0, (2, 20))] [] μ (am_res 0 q) := by
  intro  μ q h
  unfold Rd_mayBegin_B36 at h
  refine rn_sls 3 (pc' := 41) (ls' := [(0, (2, 20))]) (st' := [(0, 5), (0, (μ 20 9))]) rfl ?_
  refine rn_icmp (t := 52) rfl rfl rfl rfl h (fun h => ?_) (fun h => ?_)
  · refine rn_sls 1 (pc' := 53) (ls' := [(0, (2, 20))]) (st' := [(0, 1)]) rfl ?_
    refine rn_goto (t := 57) rfl rfl rfl ?_
    exact rn_iretb rfl rfl rfl (Or.inr rfl) h rfl
  · refine rn_sls 2 (pc' := 46) (ls' := [(0, (2, 20))]) (st' := [(0, 5), (2, 20)]) rfl ?_
    refine rn_call 0 0 [(2, 20), (0, 5)] (r := []) rfl ⟨rfl, Or.inl ⟨_, rfl, by decide⟩⟩ (by decide) (fun _ => ⟨_, rfl, rfl⟩) rfl rfl (Nat.le_of_ble_eq_true rfl) h (fun w hw => t_Rd_fail (d + 0) _ _ _ hw) (fun a1 μ2 h => ?_)
    refine rn_sls 0 (pc' := 49) (ls' := [(0, (2, 20))]) (st' := [(0, a1)]) rfl ?_
    refine rn_if (t := 56) rfl rfl rfl rfl h (fun h => ?_) (fun h => ?_)
    · refine rn_sls 1 (pc' := 57) (ls' := [(0, (2, 20))]) (st' := [(0, 0)]) rfl ?_
      exact rn_iretb rfl rfl rfl (Or.inl rfl) h rfl
    · refine rn_sls 1 (pc' := 53) (ls' := [(0, (2, 20))]) (st' := [(0, 1)]) rfl ?_
      refine rn_goto (t := 57) rfl rfl rfl ?_
      exact rn_iretb rfl rfl rfl (Or.inr rfl) h rfl
set_option maxRecDepth 20000 in
theorem t_Rd_mayBegin (d : Nat) : ∀  (μ : am_M) q, Rd_mayBegin  μ = some q → am_ar g_mt (d + 2) 79 [(2, 20)] μ (am_res 0 q) := by
  intro  μ q h
  unfold Rd_mayBegin at h
  refine am_ar_of (d := d + 1) i_Rd_mayBegin rfl rfl (Nat.le_of_ble_eq_true rfl) ?_
  show am_run none (am_ar g_mt (d + 1)) 2 (some .boolean) k_Rd_mayBegin 0 [(0, (2, 20))] [] μ (am_res 0 q)
  refine rn_sls 6 (pc' := 10) (ls' := [(1, (0, (μ 10 5))), (0, (2, 20))]) (st' := [(0, 3), (0, (μ 10 5))]) rfl ?_
  refine rn_icmp (t := 36) rfl rfl rfl rfl h (fun h => ?_) (fun h => ?_)
  · exact rn_sub [1] rfl (t_Rd_mayBegin_B36 d  _ _ h)
  · refine rn_sls 2 (pc' := 15) (ls' := [(1, (0, (μ 10 5))), (0, (2, 20))]) (st' := [(0, 2), (0, (μ 10 5))]) rfl ?_
    refine rn_icmp (t := 36) rfl rfl rfl rfl h (fun h => ?_) (fun h => ?_)
    · exact rn_sub [1] rfl (t_Rd_mayBegin_B36 d  _ _ h)
    · refine rn_sls 2 (pc' := 21) (ls' := [(1, (0, (μ 10 5))), (0, (2, 20))]) (st' := [(0, 114), (0, (μ 10 5))]) rfl ?_
      refine rn_icmp (t := 36) rfl rfl rfl rfl h (fun h => ?_) (fun h => ?_)
      · exact rn_sub [1] rfl (t_Rd_mayBegin_B36 d  _ _ h)
      · refine rn_sls 2 (pc' := 27) (ls' := [(1, (0, (μ 10 5))), (0, (2, 20))]) (st' := [(0, 40), (0, (μ 10 5))]) rfl ?_
        refine rn_icmp (t := 36) rfl rfl rfl rfl h (fun h => ?_) (fun h => ?_)
        · exact rn_sub [1] rfl (t_Rd_mayBegin_B36 d  _ _ h)
        · refine rn_sls 2 (pc' := 32) (ls' := [(1, (0, (μ 10 5))), (0, (2, 20))]) (st' := [(0, 1), (2, 20)]) rfl ?_
          refine rn_call 0 0 [(2, 20), (0, 1)] (r := []) rfl ⟨rfl, Or.inl ⟨_, rfl, by decide⟩⟩ (by decide) (fun _ => ⟨_, rfl, rfl⟩) rfl rfl (Nat.le_of_ble_eq_true rfl) h (fun w hw => t_Rd_fail (d + 0) _ _ _ hw) (fun a1 μ2 h => ?_)
          refine rn_sls 0 (pc' := 35) (ls' := [(1, (0, (μ 10 5))), (0, (2, 20))]) (st' := [(0, a1)]) rfl ?_
          exact rn_iretB rfl rfl rfl h rfl
set_option maxRecDepth 20000 in
theorem t_Rd_await (d : Nat) : ∀ (v1 : Int) (μ : am_M) q, Rd_await v1 μ = some q → am_ar g_mt (d + 2) 80 [(2, 20), (0, v1)] μ (am_res 2 q) := by
  intro v1 μ q h
  unfold Rd_await at h
  refine am_ar_of (d := d + 1) i_Rd_await rfl rfl (Nat.le_of_ble_eq_true rfl) ?_
  show am_run none (am_ar g_mt (d + 1)) 2 none k_Rd_await 0 [(0, (2, 20)), (1, (0, v1))] [] μ (am_res 2 q)
  refine rn_sls 5 (pc' := 9) (ls' := [(0, (2, 20)), (1, (0, v1))]) (st' := [(0, v1), (0, (μ 20 8)), (2, 23)]) rfl ?_
  refine rn_call 3 2 [(2, 23), (0, (μ 20 8)), (0, v1)] (r := []) rfl ⟨rfl, Or.inr ⟨_, rfl, by decide⟩⟩ (by decide) (fun z => absurd z (by decide)) rfl rfl (Nat.le_of_ble_eq_true rfl) h (fun w hw => t_X_put (d + 0) _ _ _ _ _ hw) (fun a1 μ2 h => ?_)
  refine rn_sls 0 (pc' := 12) (ls' := [(0, (2, 20)), (1, (0, v1))]) (st' := []) rfl ?_
  refine rn_sls 5 (pc' := 19) (ls' := [(0, (2, 20)), (1, (0, v1))]) (st' := [(0, (w32 ((μ2 20 8) + 1))), (2, 20)]) rfl ?_
  refine rn_put rfl rfl rfl rfl (Or.inl ⟨rfl, rfl⟩) rfl h (fun μ3 h => ?_)
  exact rn_ret (v := 0) rfl rfl rfl h rfl
set_option maxRecDepth 20000 in
theorem t_Rd_wrap (d : Nat) : ∀  (μ : am_M) q, Rd_wrap  μ = some q → am_ar g_mt (d + 3) 81 [(2, 20)] μ (am_res 0 q) := by
  intro  μ q h
  unfold Rd_wrap at h
  refine am_ar_of (d := d + 2) i_Rd_wrap rfl rfl (Nat.le_of_ble_eq_true rfl) ?_
  show am_run none (am_ar g_mt (d + 2)) 1 (some .boolean) k_Rd_wrap 0 [(0, (2, 20))] [] μ (am_res 0 q)
  refine rn_sls 5 (pc' := 7) (ls' := [(0, (2, 20))]) (st' := [(0, (w32 ((μ 20 9) + 1))), (2, 20)]) rfl ?_
  refine rn_put rfl rfl rfl rfl (Or.inl ⟨rfl, rfl⟩) rfl h (fun μ1 h => ?_)
  refine rn_sls 4 (pc' := 18) (ls' := [(0, (2, 20))]) (st' := [(0, (μ1 10 5)), (2, 20)]) rfl ?_
  refine rn_call 0 2 [(2, 20), (0, (μ1 10 5))] (r := []) rfl ⟨rfl, Or.inl ⟨_, rfl, by decide⟩⟩ (by decide) (fun _ => ⟨_, rfl, rfl⟩) rfl rfl (Nat.le_of_ble_eq_true rfl) h (fun w hw => t_Rd_await (d + 0) _ _ _ hw) (fun a2 μ3 h => ?_)
  refine rn_sls 0 (pc' := 21) (ls' := [(0, (2, 20))]) (st' := []) rfl ?_
  refine rn_sls 1 (pc' := 22) (ls' := [(0, (2, 20))]) (st' := [(0, 1)]) rfl ?_
  exact rn_iretb rfl rfl rfl (Or.inr rfl) h rfl
set_option maxRecDepth 20000 in
theorem t_Rd_lastWaiting (d : Nat) : ∀  (μ : am_M) q, Rd_lastWaiting  μ = some q → am_ar g_mt (d + 2) 86 [(2, 20)] μ (am_res 0 q) := by
  intro  μ q h
  unfold Rd_lastWaiting at h
  refine am_ar_of (d := d + 1) i_Rd_lastWaiting rfl rfl (Nat.le_of_ble_eq_true rfl) ?_
  show am_run none (am_ar g_mt (d + 1)) 1 (some .int) k_Rd_lastWaiting 0 [(0, (2, 20))] [] μ (am_res 0 q)
  refine rn_sls 2 (pc' := 4) (ls' := [(0, (2, 20))]) (st' := [(0, (μ 20 8))]) rfl ?_
  refine rn_if (t := 23) rfl rfl rfl rfl h (fun h => ?_) (fun h => ?_)
  · refine rn_sls 1 (pc' := 24) (ls' := [(0, (2, 20))]) (st' := [(0, 0)]) rfl ?_
    exact rn_ireti rfl rfl rfl h rfl
  · refine rn_sls 6 (pc' := 17) (ls' := [(0, (2, 20))]) (st' := [(0, (w32 ((μ 20 8) - 1))), (2, 23)]) rfl ?_
    refine rn_call 3 0 [(2, 23), (0, (w32 ((μ 20 8) - 1)))] (r := []) rfl ⟨rfl, Or.inr ⟨_, rfl, by decide⟩⟩ (by decide) (fun z => absurd z (by decide)) rfl rfl (Nat.le_of_ble_eq_true rfl) h (fun w hw => t_X_at (d + 0) _ _ _ _ hw) (fun a1 μ2 h => ?_)
    refine rn_sls 0 (pc' := 20) (ls' := [(0, (2, 20))]) (st' := [(0, a1)]) rfl ?_
    refine rn_goto (t := 24) rfl rfl rfl ?_
    exact rn_ireti rfl rfl rfl h rfl
set_option maxRecDepth 20000 in
theorem t_Rd_codeNots_L0_b (d : Nat) (k0 : am_M → am_O) (hk0 : ∀  (μ : am_M) q, k0  μ = some q → am_run none (am_ar g_mt (d + 2)) 1 none k_Rd_codeNots 0 [(0, (2, 20))] [] μ (am_res 2 q)) : ∀  (μ : am_M) q, Rd_codeNots_L0_b k0  μ = some q → am_run none (am_ar g_mt (d + 2)) 1 none k_Rd_codeNots 0 [(0, (2, 20))] [] μ (am_res 2 q) := by
  intro  μ q h
  unfold Rd_codeNots_L0_b at h
  refine rn_sls 2 (pc' := 4) (ls' := [(0, (2, 20))]) (st' := [(0, (μ 20 8))]) rfl ?_
  refine rn_if (t := 49) rfl rfl rfl rfl h (fun h => ?_) (fun h => ?_)
  · exact rn_ret (v := 0) rfl rfl rfl h rfl
  · refine rn_sls 1 (pc' := 8) (ls' := [(0, (2, 20))]) (st' := [(2, 20)]) rfl ?_
    refine rn_call 0 0 [(2, 20)] (r := []) rfl ⟨rfl, Or.inl ⟨_, rfl, by decide⟩⟩ (by decide) (fun _ => ⟨_, rfl, rfl⟩) rfl rfl (Nat.le_of_ble_eq_true rfl) h (fun w hw => t_Rd_lastWaiting (d + 0)  _ _ hw) (fun a1 μ2 h => ?_)
    refine rn_sls 0 (pc' := 11) (ls' := [(0, (2, 20))]) (st' := [(0, a1)]) rfl ?_
    refine rn_sls 1 (pc' := 13) (ls' := [(0, (2, 20))]) (st' := [(0, 114), (0, a1)]) rfl ?_
    refine rn_icmpn (t := 49) rfl rfl rfl rfl h (fun h => ?_) (fun h => ?_)
    · refine rn_sls 4 (pc' := 23) (ls' := [(0, (2, 20))]) (st' := [(0, 0), (0, 114), (2, (μ2 20 5))]) rfl ?_
      refine rn_gd h (fun ho3 h => ?_)
      refine rn_call 0 2 [(2, (μ2 20 5)), (0, 114), (0, 0)] (r := []) rfl ⟨rfl, Or.inl ⟨_, rfl, by decide⟩⟩ (by decide) (fun _ => ⟨_, rfl, ho3⟩) rfl rfl (Nat.le_of_ble_eq_true rfl) h (fun w hw => t_Ln_addCode (d + 0) _ _ _ _ _ hw) (fun a4 μ5 h => ?_)
      refine rn_sls 0 (pc' := 26) (ls' := [(0, (2, 20))]) (st' := []) rfl ?_
      refine rn_sls 5 (pc' := 33) (ls' := [(0, (2, 20))]) (st' := [(0, (w32 ((μ5 20 8) - 1))), (2, 20)]) rfl ?_
      refine rn_put rfl rfl rfl rfl (Or.inl ⟨rfl, rfl⟩) rfl h (fun μ6 h => ?_)
      refine rn_sls 5 (pc' := 43) (ls' := [(0, (2, 20))]) (st' := [(0, (w32 ((μ6 20 9) - 1))), (2, 20)]) rfl ?_
      refine rn_put rfl rfl rfl rfl (Or.inl ⟨rfl, rfl⟩) rfl h (fun μ7 h => ?_)
      refine rn_goto (t := 0) rfl rfl rfl ?_
      exact rn_sub [0] rfl (hk0 _ _ h)
    · exact rn_ret (v := 0) rfl rfl rfl h rfl
set_option maxRecDepth 20000 in
theorem t_Rd_codeNots_L0 (d : Nat) : ∀ (n : Nat)  (μ : am_M) q, Rd_codeNots_L0 n  μ = some q → am_run none (am_ar g_mt (d + 2)) 1 none k_Rd_codeNots 0 [(0, (2, 20))] [] μ (am_res 2 q) := by
  intro n
  induction n with
  | zero => intro  μ q h; cases h
  | succ n ih => intro  μ q h; exact t_Rd_codeNots_L0_b d (Rd_codeNots_L0 n) ih  μ q h
set_option maxRecDepth 20000 in
theorem t_Rd_codeNots (d : Nat) : ∀  (μ : am_M) q, Rd_codeNots  μ = some q → am_ar g_mt (d + 3) 87 [(2, 20)] μ (am_res 2 q) := by
  intro  μ q h
  unfold Rd_codeNots at h
  refine am_ar_of (d := d + 2) i_Rd_codeNots rfl rfl (Nat.le_of_ble_eq_true rfl) ?_
  show am_run none (am_ar g_mt (d + 2)) 1 none k_Rd_codeNots 0 [(0, (2, 20))] [] μ (am_res 2 q)
  exact rn_sub [0] rfl (t_Rd_codeNots_L0 d am_FU _ _ h)
set_option maxRecDepth 20000 in
theorem t_Rd_readPart_B108 (d : Nat) : ∀  (μ : am_M) q, Rd_readPart_B108  μ = some q → am_run none (am_ar g_mt (d + 3)) 2 (some .boolean) k_Rd_readPart 108 [(0, (2, 20))] [] μ (am_res 0 q) := by
  intro  μ q h
  unfold Rd_readPart_B108 at h
  refine rn_sls 1 (pc' := 109) (ls' := [(0, (2, 20))]) (st' := [(2, 20)]) rfl ?_
  refine rn_call 0 2 [(2, 20)] (r := []) rfl ⟨rfl, Or.inl ⟨_, rfl, by decide⟩⟩ (by decide) (fun _ => ⟨_, rfl, rfl⟩) rfl rfl (Nat.le_of_ble_eq_true rfl) h (fun w hw => t_Rd_codeNots (d + 0)  _ _ hw) (fun a1 μ2 h => ?_)
  refine rn_sls 0 (pc' := 112) (ls' := [(0, (2, 20))]) (st' := []) rfl ?_
  refine rn_sls 1 (pc' := 113) (ls' := [(0, (2, 20))]) (st' := [(0, 1)]) rfl ?_
  exact rn_iretb rfl rfl rfl (Or.inr rfl) h rfl
set_option maxRecDepth 20000 in
theorem t_Rd_readPart (d : Nat) : ∀  (μ : am_M) q, Rd_readPart  μ = some q → am_ar g_mt (d + 4) 82 [(2, 20)] μ (am_res 0 q) := by
  intro  μ q h
  unfold Rd_readPart at h
  refine am_ar_of (d := d + 3) i_Rd_readPart rfl rfl (Nat.le_of_ble_eq_true rfl) ?_
  show am_run none (am_ar g_mt (d + 3)) 2 (some .boolean) k_Rd_readPart 0 [(0, (2, 20))] [] μ (am_res 0 q)
  refine rn_sls 4 (pc' := 8) (ls' := [(0, (2, 20))]) (st' := [(0, 3), (0, (μ 10 5))]) rfl ?_
  refine rn_icmpn (t := 29) rfl rfl rfl rfl h (fun h => ?_) (fun h => ?_)
  · refine rn_sls 6 (pc' := 23) (ls' := [(0, (2, 20))]) (st' := [(0, (μ 10 6)), (0, 3), (2, (μ 20 5))]) rfl ?_
    refine rn_gd h (fun ho19 h => ?_)
    refine rn_call 0 2 [(2, (μ 20 5)), (0, 3), (0, (μ 10 6))] (r := []) rfl ⟨rfl, Or.inl ⟨_, rfl, by decide⟩⟩ (by decide) (fun _ => ⟨_, rfl, ho19⟩) rfl rfl (Nat.le_of_ble_eq_true rfl) h (fun w hw => t_Ln_addCode (d + 1) _ _ _ _ _ hw) (fun a20 μ21 h => ?_)
    refine rn_sls 0 (pc' := 26) (ls' := [(0, (2, 20))]) (st' := []) rfl ?_
    refine rn_goto (t := 108) rfl rfl rfl ?_
    exact rn_sub [0] rfl (t_Rd_readPart_B108 d  _ _ h)
  · refine rn_sls 1 (pc' := 30) (ls' := [(0, (2, 20))]) (st' := [(2, 20)]) rfl ?_
    refine rn_call 0 0 [(2, 20)] (r := []) rfl ⟨rfl, Or.inl ⟨_, rfl, by decide⟩⟩ (by decide) (fun _ => ⟨_, rfl, rfl⟩) rfl rfl (Nat.le_of_ble_eq_true rfl) h (fun w hw => t_Rd_isWall (d + 1)  _ _ hw) (fun a1 μ2 h => ?_)
    refine rn_sls 0 (pc' := 33) (ls' := [(0, (2, 20))]) (st' := [(0, a1)]) rfl ?_
    refine rn_if (t := 83) rfl rfl rfl rfl h (fun h => ?_) (fun h => ?_)
    · refine rn_sls 1 (pc' := 84) (ls' := [(0, (2, 20))]) (st' := [(2, 20)]) rfl ?_
      refine rn_call 0 0 [(2, 20)] (r := []) rfl ⟨rfl, Or.inl ⟨_, rfl, by decide⟩⟩ (by decide) (fun _ => ⟨_, rfl, rfl⟩) rfl rfl (Nat.le_of_ble_eq_true rfl) h (fun w hw => t_Rd_slipNamed (d + 1)  _ _ hw) (fun a3 μ4 h => ?_)
      refine rn_sls 0 (pc' := 87) (ls' := [(0, (2, 20))]) (st' := [(0, a3)]) rfl ?_
      refine rn_sls 3 (pc' := 90) (ls' := [(1, (0, a3)), (0, (2, 20))]) (st' := [(0, (-1)), (0, a3)]) rfl ?_
      refine rn_icmpn (t := 99) rfl rfl rfl rfl h (fun h => ?_) (fun h => ?_)
      · refine rn_sls 2 (pc' := 95) (ls' := [(1, (0, a3)), (0, (2, 20))]) (st' := [(0, 5), (2, 20)]) rfl ?_
        refine rn_call 0 0 [(2, 20), (0, 5)] (r := []) rfl ⟨rfl, Or.inl ⟨_, rfl, by decide⟩⟩ (by decide) (fun _ => ⟨_, rfl, rfl⟩) rfl rfl (Nat.le_of_ble_eq_true rfl) h (fun w hw => t_Rd_fail (d + 2) _ _ _ hw) (fun a8 μ9 h => ?_)
        refine rn_sls 0 (pc' := 98) (ls' := [(1, (0, a3)), (0, (2, 20))]) (st' := [(0, a8)]) rfl ?_
        exact rn_iretB rfl rfl rfl h rfl
      · refine rn_sls 4 (pc' := 105) (ls' := [(1, (0, a3)), (0, (2, 20))]) (st' := [(0, a3), (0, 2), (2, (μ4 20 5))]) rfl ?_
        refine rn_gd h (fun ho5 h => ?_)
        refine rn_call 0 2 [(2, (μ4 20 5)), (0, 2), (0, a3)] (r := []) rfl ⟨rfl, Or.inl ⟨_, rfl, by decide⟩⟩ (by decide) (fun _ => ⟨_, rfl, ho5⟩) rfl rfl (Nat.le_of_ble_eq_true rfl) h (fun w hw => t_Ln_addCode (d + 1) _ _ _ _ _ hw) (fun a6 μ7 h => ?_)
        refine rn_sls 0 (pc' := 108) (ls' := [(1, (0, a3)), (0, (2, 20))]) (st' := []) rfl ?_
        exact rn_sub [1] rfl (t_Rd_readPart_B108 d  _ _ h)
    · refine rn_sls 2 (pc' := 40) (ls' := [(0, (2, 20))]) (st' := [(2, (μ2 20 4))]) rfl ?_
      refine rn_gd h (fun ho10 h => ?_)
      refine rn_get ho10 rfl rfl rfl ?_
      refine rn_sls 0 (pc' := 43) (ls' := [(0, (2, 20))]) (st' := [(2, ((μ2 20 4) + 12))]) rfl ?_
      refine rn_sls 2 (pc' := 47) (ls' := [(0, (2, 20))]) (st' := [(2, (μ2 20 4)), (2, ((μ2 20 4) + 12))]) rfl ?_
      refine rn_get ho10 rfl rfl rfl ?_
      refine rn_sls 0 (pc' := 50) (ls' := [(0, (2, 20))]) (st' := [(0, (μ2 (μ2 20 4) 12)), (2, ((μ2 20 4) + 12))]) rfl ?_
      refine rn_sls 3 (pc' := 57) (ls' := [(0, (2, 20))]) (st' := [(1, (μ2 10 7)), (0, (μ2 (μ2 20 4) 12)), (2, ((μ2 20 4) + 12))]) rfl ?_
      refine rn_call 3 0 [(2, ((μ2 20 4) + 12)), (0, (μ2 (μ2 20 4) 12)), (1, (μ2 10 7))] (r := []) rfl ⟨rfl, Or.inr ⟨_, rfl, by decide⟩⟩ (by decide) (fun z => absurd z (by decide)) rfl rfl (Nat.le_of_ble_eq_true rfl) h (fun w hw => t_X_find (d + 2) _ _ _ _ _ hw) (fun a11 μ12 h => ?_)
      refine rn_sls 0 (pc' := 60) (ls' := [(0, (2, 20))]) (st' := [(0, a11)]) rfl ?_
      refine rn_sls 6 (pc' := 70) (ls' := [(1, (0, a11)), (0, (2, 20))]) (st' := [(2, (μ12 20 4)), (0, 3), (2, (μ12 20 5))]) rfl ?_
      refine rn_gd h (fun ho13 h => ?_)
      refine rn_get ho13 rfl rfl rfl ?_
      refine rn_sls 0 (pc' := 73) (ls' := [(1, (0, a11)), (0, (2, 20))]) (st' := [(2, ((μ12 20 4) + 13)), (0, 3), (2, (μ12 20 5))]) rfl ?_
      refine rn_sls 1 (pc' := 74) (ls' := [(1, (0, a11)), (0, (2, 20))]) (st' := [(0, a11), (2, ((μ12 20 4) + 13)), (0, 3), (2, (μ12 20 5))]) rfl ?_
      refine rn_call 3 0 [(2, ((μ12 20 4) + 13)), (0, a11)] (r := [(0, 3), (2, (μ12 20 5))]) rfl ⟨rfl, Or.inr ⟨_, rfl, by decide⟩⟩ (by decide) (fun z => absurd z (by decide)) rfl rfl (Nat.le_of_ble_eq_true rfl) h (fun w hw => t_X_at (d + 2) _ _ _ _ hw) (fun a14 μ15 h => ?_)
      refine rn_sls 0 (pc' := 77) (ls' := [(1, (0, a11)), (0, (2, 20))]) (st' := [(0, a14), (0, 3), (2, (μ12 20 5))]) rfl ?_
      refine rn_gd h (fun ho16 h => ?_)
      refine rn_call 0 2 [(2, (μ12 20 5)), (0, 3), (0, a14)] (r := []) rfl ⟨rfl, Or.inl ⟨_, rfl, by decide⟩⟩ (by decide) (fun _ => ⟨_, rfl, ho16⟩) rfl rfl (Nat.le_of_ble_eq_true rfl) h (fun w hw => t_Ln_addCode (d + 1) _ _ _ _ _ hw) (fun a17 μ18 h => ?_)
      refine rn_sls 0 (pc' := 80) (ls' := [(1, (0, a11)), (0, (2, 20))]) (st' := []) rfl ?_
      refine rn_goto (t := 108) rfl rfl rfl ?_
      exact rn_sub [1] rfl (t_Rd_readPart_B108 d  _ _ h)
set_option maxRecDepth 20000 in
theorem t_Rd_rank (d : Nat) : ∀ (v0 : Int) (μ : am_M) q, Rd_rank v0 μ = some q → am_ar g_mt (d + 1) 89 [(0, v0)] μ (am_res 0 q) := by
  intro v0 μ q h
  unfold Rd_rank at h
  refine am_ar_of (d := d + 0) i_Rd_rank rfl rfl (Nat.le_of_ble_eq_true rfl) ?_
  show am_run none (am_ar g_mt (d + 0)) 1 (some .int) k_Rd_rank 0 [(0, (0, v0))] [] μ (am_res 0 q)
  refine rn_sls 1 (pc' := 1) (ls' := [(0, (0, v0))]) (st' := [(0, v0)]) rfl ?_
  refine rn_lsw rfl rfl ?_
  refine rn_lwc (t := 74) rfl h (fun h => ?_) (fun h => ?_)
  · refine rn_sls 1 (pc' := 75) (ls' := [(0, (0, v0))]) (st' := [(0, 4)]) rfl ?_
    exact rn_ireti rfl rfl rfl h rfl
  refine rn_lwc (t := 72) rfl h (fun h => ?_) (fun h => ?_)
  · refine rn_sls 1 (pc' := 73) (ls' := [(0, (0, v0))]) (st' := [(0, 3)]) rfl ?_
    exact rn_ireti rfl rfl rfl h rfl
  refine rn_lwc (t := 72) rfl h (fun h => ?_) (fun h => ?_)
  · refine rn_sls 1 (pc' := 73) (ls' := [(0, (0, v0))]) (st' := [(0, 3)]) rfl ?_
    exact rn_ireti rfl rfl rfl h rfl
  refine rn_lwc (t := 70) rfl h (fun h => ?_) (fun h => ?_)
  · refine rn_sls 1 (pc' := 71) (ls' := [(0, (0, v0))]) (st' := [(0, 2)]) rfl ?_
    exact rn_ireti rfl rfl rfl h rfl
  refine rn_lwc (t := 70) rfl h (fun h => ?_) (fun h => ?_)
  · refine rn_sls 1 (pc' := 71) (ls' := [(0, (0, v0))]) (st' := [(0, 2)]) rfl ?_
    exact rn_ireti rfl rfl rfl h rfl
  refine rn_lwc (t := 68) rfl h (fun h => ?_) (fun h => ?_)
  · refine rn_sls 1 (pc' := 69) (ls' := [(0, (0, v0))]) (st' := [(0, 1)]) rfl ?_
    exact rn_ireti rfl rfl rfl h rfl
  refine rn_lwc (t := 68) rfl h (fun h => ?_) (fun h => ?_)
  · refine rn_sls 1 (pc' := 69) (ls' := [(0, (0, v0))]) (st' := [(0, 1)]) rfl ?_
    exact rn_ireti rfl rfl rfl h rfl
  refine rn_lw0 (t := 76) rfl ?_
  refine rn_sls 1 (pc' := 77) (ls' := [(0, (0, v0))]) (st' := [(0, 0)]) rfl ?_
  exact rn_ireti rfl rfl rfl h rfl
set_option maxRecDepth 20000 in
theorem t_Rd_codeFrom_L0_b (d : Nat) (k0 : Int → am_M → am_O) (hk0 : ∀ (v1 : Int) (μ : am_M) q, k0 v1 μ = some q → am_run none (am_ar g_mt (d + 2)) 2 none k_Rd_codeFrom 0 [(0, (2, 20)), (1, (0, v1))] [] μ (am_res 2 q)) : ∀ (v1 : Int) (μ : am_M) q, Rd_codeFrom_L0_b k0 v1 μ = some q → am_run none (am_ar g_mt (d + 2)) 2 none k_Rd_codeFrom 0 [(0, (2, 20)), (1, (0, v1))] [] μ (am_res 2 q) := by
  intro v1 μ q h
  unfold Rd_codeFrom_L0_b at h
  refine rn_sls 2 (pc' := 4) (ls' := [(0, (2, 20)), (1, (0, v1))]) (st' := [(0, (μ 20 8))]) rfl ?_
  refine rn_if (t := 43) rfl rfl rfl rfl h (fun h => ?_) (fun h => ?_)
  · exact rn_ret (v := 0) rfl rfl rfl h rfl
  · refine rn_sls 1 (pc' := 8) (ls' := [(0, (2, 20)), (1, (0, v1))]) (st' := [(2, 20)]) rfl ?_
    refine rn_call 0 0 [(2, 20)] (r := []) rfl ⟨rfl, Or.inl ⟨_, rfl, by decide⟩⟩ (by decide) (fun _ => ⟨_, rfl, rfl⟩) rfl rfl (Nat.le_of_ble_eq_true rfl) h (fun w hw => t_Rd_lastWaiting (d + 0)  _ _ hw) (fun a1 μ2 h => ?_)
    refine rn_sls 0 (pc' := 11) (ls' := [(0, (2, 20)), (1, (0, v1))]) (st' := [(0, a1)]) rfl ?_
    refine rn_call 2 0 [(0, a1)] (r := []) rfl ⟨rfl, Or.inr ⟨_, rfl, by decide⟩⟩ (by decide) (fun z => absurd z (by decide)) rfl rfl (Nat.le_of_ble_eq_true rfl) h (fun w hw => t_Rd_rank (d + 1) _ _ _ hw) (fun a3 μ4 h => ?_)
    refine rn_sls 0 (pc' := 14) (ls' := [(0, (2, 20)), (1, (0, v1))]) (st' := [(0, a3)]) rfl ?_
    refine rn_sls 1 (pc' := 15) (ls' := [(0, (2, 20)), (1, (0, v1))]) (st' := [(0, v1), (0, a3)]) rfl ?_
    refine rn_icmp (t := 43) rfl rfl rfl rfl h (fun h => ?_) (fun h => ?_)
    · exact rn_ret (v := 0) rfl rfl rfl h rfl
    · refine rn_sls 3 (pc' := 23) (ls' := [(0, (2, 20)), (1, (0, v1))]) (st' := [(2, 20), (2, (μ4 20 5))]) rfl ?_
      refine rn_call 0 0 [(2, 20)] (r := [(2, (μ4 20 5))]) rfl ⟨rfl, Or.inl ⟨_, rfl, by decide⟩⟩ (by decide) (fun _ => ⟨_, rfl, rfl⟩) rfl rfl (Nat.le_of_ble_eq_true rfl) h (fun w hw => t_Rd_lastWaiting (d + 0)  _ _ hw) (fun a5 μ6 h => ?_)
      refine rn_sls 0 (pc' := 26) (ls' := [(0, (2, 20)), (1, (0, v1))]) (st' := [(0, a5), (2, (μ4 20 5))]) rfl ?_
      refine rn_sls 1 (pc' := 27) (ls' := [(0, (2, 20)), (1, (0, v1))]) (st' := [(0, 0), (0, a5), (2, (μ4 20 5))]) rfl ?_
      refine rn_gd h (fun ho7 h => ?_)
      refine rn_call 0 2 [(2, (μ4 20 5)), (0, a5), (0, 0)] (r := []) rfl ⟨rfl, Or.inl ⟨_, rfl, by decide⟩⟩ (by decide) (fun _ => ⟨_, rfl, ho7⟩) rfl rfl (Nat.le_of_ble_eq_true rfl) h (fun w hw => t_Ln_addCode (d + 0) _ _ _ _ _ hw) (fun a8 μ9 h => ?_)
      refine rn_sls 0 (pc' := 30) (ls' := [(0, (2, 20)), (1, (0, v1))]) (st' := []) rfl ?_
      refine rn_sls 5 (pc' := 37) (ls' := [(0, (2, 20)), (1, (0, v1))]) (st' := [(0, (w32 ((μ9 20 8) - 1))), (2, 20)]) rfl ?_
      refine rn_put rfl rfl rfl rfl (Or.inl ⟨rfl, rfl⟩) rfl h (fun μ10 h => ?_)
      refine rn_goto (t := 0) rfl rfl rfl ?_
      exact rn_sub [0, 1] rfl (hk0 _ _ _ h)
set_option maxRecDepth 20000 in
theorem t_Rd_codeFrom_L0 (d : Nat) : ∀ (n : Nat) (v1 : Int) (μ : am_M) q, Rd_codeFrom_L0 n v1 μ = some q → am_run none (am_ar g_mt (d + 2)) 2 none k_Rd_codeFrom 0 [(0, (2, 20)), (1, (0, v1))] [] μ (am_res 2 q) := by
  intro n
  induction n with
  | zero => intro v1 μ q h; cases h
  | succ n ih => intro v1 μ q h; exact t_Rd_codeFrom_L0_b d (Rd_codeFrom_L0 n) ih v1 μ q h
set_option maxRecDepth 20000 in
theorem t_Rd_codeFrom (d : Nat) : ∀ (v1 : Int) (μ : am_M) q, Rd_codeFrom v1 μ = some q → am_ar g_mt (d + 3) 88 [(2, 20), (0, v1)] μ (am_res 2 q) := by
  intro v1 μ q h
  unfold Rd_codeFrom at h
  refine am_ar_of (d := d + 2) i_Rd_codeFrom rfl rfl (Nat.le_of_ble_eq_true rfl) ?_
  show am_run none (am_ar g_mt (d + 2)) 2 none k_Rd_codeFrom 0 [(0, (2, 20)), (1, (0, v1))] [] μ (am_res 2 q)
  exact rn_sub [0, 1] rfl (t_Rd_codeFrom_L0 d am_FU _ _ _ h)
