/-! The code does what the functions say. Printed by program. -/
set_option maxRecDepth 20000 in
theorem t_M_bill (d : Nat) : ∀ (v1 : Int) (v2 : Int) (μ : am_M) q, M_bill v1 v2 μ = some q → am_ar g_mt (d + 3) 195 [(2, 1000), (0, v1), (0, v2)] μ (am_res 0 q) := by
  intro v1 v2 μ q h
  unfold M_bill at h
  refine am_ar_of (d := d + 2) i_M_bill rfl rfl (Nat.le_of_ble_eq_true rfl) ?_
  show am_run none (am_ar g_mt (d + 2)) 3 (some .int) k_M_bill 0 [(0, (2, 1000)), (1, (0, v1)), (2, (0, v2))] [] μ (am_res 0 q)
  refine rn_sls 2 (pc' := 2) (ls' := [(0, (2, 1000)), (1, (0, v1)), (2, (0, v2))]) (st' := [(0, 0), (2, 1000)]) rfl ?_
  refine rn_put rfl rfl rfl rfl (Or.inl ⟨rfl, rfl⟩) rfl h (fun μ1 h => ?_)
  refine rn_sls 2 (pc' := 7) (ls' := [(0, (2, 1000)), (1, (0, v1)), (2, (0, v2))]) (st' := [(0, v1), (2, 1000)]) rfl ?_
  refine rn_call 0 0 [(2, 1000), (0, v1)] (r := []) rfl ⟨rfl, Or.inl ⟨_, rfl, by decide⟩⟩ (by decide) (fun _ => ⟨_, rfl, rfl⟩) rfl rfl (Nat.le_of_ble_eq_true rfl) h (fun w hw => t_M_isBill (d + 1) _ _ _ hw) (fun a2 μ3 h => ?_)
  refine rn_sls 0 (pc' := 10) (ls' := [(0, (2, 1000)), (1, (0, v1)), (2, (0, v2))]) (st' := [(0, a2)]) rfl ?_
  refine rn_if (t := 22) rfl rfl rfl rfl h (fun h => ?_) (fun h => ?_)
  · refine rn_sls 1 (pc' := 23) (ls' := [(0, (2, 1000)), (1, (0, v1)), (2, (0, v2))]) (st' := [(0, (-1))]) rfl ?_
    exact rn_ireti rfl rfl rfl h rfl
  · refine rn_sls 3 (pc' := 16) (ls' := [(0, (2, 1000)), (1, (0, v1)), (2, (0, v2))]) (st' := [(0, 5), (0, 0), (0, v2)]) rfl ?_
    refine rn_call 2 0 [(0, v2), (0, 0), (0, 5)] (r := []) rfl ⟨rfl, Or.inr ⟨_, rfl, by decide⟩⟩ (by decide) (fun z => absurd z (by decide)) rfl rfl (Nat.le_of_ble_eq_true rfl) h (fun w hw => t_M_within (d + 1) _ _ _ _ _ hw) (fun a4 μ5 h => ?_)
    refine rn_sls 0 (pc' := 19) (ls' := [(0, (2, 1000)), (1, (0, v1)), (2, (0, v2))]) (st' := [(0, a4)]) rfl ?_
    refine rn_ifn (t := 24) rfl rfl rfl rfl h (fun h => ?_) (fun h => ?_)
    · refine rn_sls 1 (pc' := 23) (ls' := [(0, (2, 1000)), (1, (0, v1)), (2, (0, v2))]) (st' := [(0, (-1))]) rfl ?_
      exact rn_ireti rfl rfl rfl h rfl
    · refine rn_sls 2 (pc' := 26) (ls' := [(0, (2, 1000)), (1, (0, v1)), (2, (0, v2))]) (st' := [(0, 4), (0, v2)]) rfl ?_
      refine rn_icmpn (t := 77) rfl rfl rfl rfl h (fun h => ?_) (fun h => ?_)
      · refine rn_sls 1 (pc' := 30) (ls' := [(0, (2, 1000)), (1, (0, v1)), (2, (0, v2))]) (st' := [(0, v2)]) rfl ?_
        refine rn_ifn (t := 42) rfl rfl rfl rfl h (fun h => ?_) (fun h => ?_)
        · refine rn_sls 3 (pc' := 38) (ls' := [(0, (2, 1000)), (1, (0, v1)), (2, (0, v2))]) (st' := [(0, v1), (2, 1017)]) rfl ?_
          refine rn_iald (n := 8) rfl rfl rfl h (fun a12 h => ?_)
          refine rn_goto (t := 76) rfl rfl rfl ?_
          exact rn_ireti rfl rfl rfl h rfl
        · refine rn_sls 2 (pc' := 44) (ls' := [(0, (2, 1000)), (1, (0, v1)), (2, (0, v2))]) (st' := [(0, 1), (0, v2)]) rfl ?_
          refine rn_icmpn (t := 56) rfl rfl rfl rfl h (fun h => ?_) (fun h => ?_)
          · refine rn_sls 3 (pc' := 52) (ls' := [(0, (2, 1000)), (1, (0, v1)), (2, (0, v2))]) (st' := [(0, v1), (2, 1018)]) rfl ?_
            refine rn_iald (n := 8) rfl rfl rfl h (fun a11 h => ?_)
            refine rn_goto (t := 76) rfl rfl rfl ?_
            exact rn_ireti rfl rfl rfl h rfl
          · refine rn_sls 2 (pc' := 58) (ls' := [(0, (2, 1000)), (1, (0, v1)), (2, (0, v2))]) (st' := [(0, 2), (0, v2)]) rfl ?_
            refine rn_icmpn (t := 70) rfl rfl rfl rfl h (fun h => ?_) (fun h => ?_)
            · refine rn_sls 3 (pc' := 66) (ls' := [(0, (2, 1000)), (1, (0, v1)), (2, (0, v2))]) (st' := [(0, v1), (2, 1019)]) rfl ?_
              refine rn_iald (n := 8) rfl rfl rfl h (fun a10 h => ?_)
              refine rn_goto (t := 76) rfl rfl rfl ?_
              exact rn_ireti rfl rfl rfl h rfl
            · refine rn_sls 3 (pc' := 75) (ls' := [(0, (2, 1000)), (1, (0, v1)), (2, (0, v2))]) (st' := [(0, v1), (2, 1020)]) rfl ?_
              refine rn_iald (n := 8) rfl rfl rfl h (fun a9 h => ?_)
              exact rn_ireti rfl rfl rfl h rfl
      · refine rn_sls 2 (pc' := 79) (ls' := [(0, (2, 1000)), (1, (0, v1)), (2, (0, v2))]) (st' := [(0, 4), (0, v2)]) rfl ?_
        refine rn_icmpn (t := 94) rfl rfl rfl rfl h (fun h => ?_) (fun h => ?_)
        · refine rn_sls 3 (pc' := 87) (ls' := [(0, (2, 1000)), (1, (0, v1)), (2, (0, v2))]) (st' := [(0, v1), (2, 1039)]) rfl ?_
          refine rn_iald (n := 4) rfl rfl rfl h (fun a8 h => ?_)
          refine rn_ifn (t := 106) rfl rfl rfl rfl h (fun h => ?_) (fun h => ?_)
          · refine rn_goto (t := 102) rfl rfl rfl ?_
            refine rn_sls 1 (pc' := 103) (ls' := [(0, (2, 1000)), (1, (0, v1)), (2, (0, v2))]) (st' := [(0, 1)]) rfl ?_
            refine rn_goto (t := 107) rfl rfl rfl ?_
            exact rn_ireti rfl rfl rfl h rfl
          · refine rn_sls 1 (pc' := 107) (ls' := [(0, (2, 1000)), (1, (0, v1)), (2, (0, v2))]) (st' := [(0, 0)]) rfl ?_
            exact rn_ireti rfl rfl rfl h rfl
        · refine rn_sls 2 (pc' := 96) (ls' := [(0, (2, 1000)), (1, (0, v1)), (2, (0, v2))]) (st' := [(0, v1), (2, 1000)]) rfl ?_
          refine rn_call 0 0 [(2, 1000), (0, v1)] (r := []) rfl ⟨rfl, Or.inl ⟨_, rfl, by decide⟩⟩ (by decide) (fun _ => ⟨_, rfl, rfl⟩) rfl rfl (Nat.le_of_ble_eq_true rfl) h (fun w hw => t_M_isSound (d + 0) _ _ _ hw) (fun a6 μ7 h => ?_)
          refine rn_sls 0 (pc' := 99) (ls' := [(0, (2, 1000)), (1, (0, v1)), (2, (0, v2))]) (st' := [(0, a6)]) rfl ?_
          refine rn_if (t := 106) rfl rfl rfl rfl h (fun h => ?_) (fun h => ?_)
          · refine rn_sls 1 (pc' := 107) (ls' := [(0, (2, 1000)), (1, (0, v1)), (2, (0, v2))]) (st' := [(0, 0)]) rfl ?_
            exact rn_ireti rfl rfl rfl h rfl
          · refine rn_sls 1 (pc' := 103) (ls' := [(0, (2, 1000)), (1, (0, v1)), (2, (0, v2))]) (st' := [(0, 1)]) rfl ?_
            refine rn_goto (t := 107) rfl rfl rfl ?_
            exact rn_ireti rfl rfl rfl h rfl
set_option maxRecDepth 20000 in
theorem t_M_check (d : Nat) : ∀ (v1 : Int) (v2 : Int) (μ : am_M) q, M_check v1 v2 μ = some q → am_ar g_mt (d + 2) 196 [(2, 1000), (0, v1), (0, v2)] μ (am_res 0 q) := by
  intro v1 v2 μ q h
  unfold M_check at h
  refine am_ar_of (d := d + 1) i_M_check rfl rfl (Nat.le_of_ble_eq_true rfl) ?_
  show am_run none (am_ar g_mt (d + 1)) 3 (some .int) k_M_check 0 [(0, (2, 1000)), (1, (0, v1)), (2, (0, v2))] [] μ (am_res 0 q)
  refine rn_sls 2 (pc' := 2) (ls' := [(0, (2, 1000)), (1, (0, v1)), (2, (0, v2))]) (st' := [(0, 0), (2, 1000)]) rfl ?_
  refine rn_put rfl rfl rfl rfl (Or.inl ⟨rfl, rfl⟩) rfl h (fun μ1 h => ?_)
  refine rn_sls 2 (pc' := 7) (ls' := [(0, (2, 1000)), (1, (0, v1)), (2, (0, v2))]) (st' := [(0, v1), (2, 1000)]) rfl ?_
  refine rn_call 0 0 [(2, 1000), (0, v1)] (r := []) rfl ⟨rfl, Or.inl ⟨_, rfl, by decide⟩⟩ (by decide) (fun _ => ⟨_, rfl, rfl⟩) rfl rfl (Nat.le_of_ble_eq_true rfl) h (fun w hw => t_M_isBill (d + 0) _ _ _ hw) (fun a2 μ3 h => ?_)
  refine rn_sls 0 (pc' := 10) (ls' := [(0, (2, 1000)), (1, (0, v1)), (2, (0, v2))]) (st' := [(0, a2)]) rfl ?_
  refine rn_if (t := 22) rfl rfl rfl rfl h (fun h => ?_) (fun h => ?_)
  · refine rn_sls 1 (pc' := 23) (ls' := [(0, (2, 1000)), (1, (0, v1)), (2, (0, v2))]) (st' := [(0, (-1))]) rfl ?_
    refine rn_goto (t := 59) rfl rfl rfl ?_
    exact rn_ireti rfl rfl rfl h rfl
  · refine rn_sls 3 (pc' := 16) (ls' := [(0, (2, 1000)), (1, (0, v1)), (2, (0, v2))]) (st' := [(0, 2), (0, 0), (0, v2)]) rfl ?_
    refine rn_call 2 0 [(0, v2), (0, 0), (0, 2)] (r := []) rfl ⟨rfl, Or.inr ⟨_, rfl, by decide⟩⟩ (by decide) (fun z => absurd z (by decide)) rfl rfl (Nat.le_of_ble_eq_true rfl) h (fun w hw => t_M_within (d + 0) _ _ _ _ _ hw) (fun a4 μ5 h => ?_)
    refine rn_sls 0 (pc' := 19) (ls' := [(0, (2, 1000)), (1, (0, v1)), (2, (0, v2))]) (st' := [(0, a4)]) rfl ?_
    refine rn_ifn (t := 26) rfl rfl rfl rfl h (fun h => ?_) (fun h => ?_)
    · refine rn_sls 1 (pc' := 23) (ls' := [(0, (2, 1000)), (1, (0, v1)), (2, (0, v2))]) (st' := [(0, (-1))]) rfl ?_
      refine rn_goto (t := 59) rfl rfl rfl ?_
      exact rn_ireti rfl rfl rfl h rfl
    · refine rn_sls 1 (pc' := 27) (ls' := [(0, (2, 1000)), (1, (0, v1)), (2, (0, v2))]) (st' := [(0, v2)]) rfl ?_
      refine rn_ifn (t := 39) rfl rfl rfl rfl h (fun h => ?_) (fun h => ?_)
      · refine rn_sls 3 (pc' := 35) (ls' := [(0, (2, 1000)), (1, (0, v1)), (2, (0, v2))]) (st' := [(0, v1), (2, 1039)]) rfl ?_
        refine rn_iald (n := 4) rfl rfl rfl h (fun a8 h => ?_)
        refine rn_goto (t := 59) rfl rfl rfl ?_
        exact rn_ireti rfl rfl rfl h rfl
      · refine rn_sls 2 (pc' := 41) (ls' := [(0, (2, 1000)), (1, (0, v1)), (2, (0, v2))]) (st' := [(0, 1), (0, v2)]) rfl ?_
        refine rn_icmpn (t := 53) rfl rfl rfl rfl h (fun h => ?_) (fun h => ?_)
        · refine rn_sls 3 (pc' := 49) (ls' := [(0, (2, 1000)), (1, (0, v1)), (2, (0, v2))]) (st' := [(0, v1), (2, 1040)]) rfl ?_
          refine rn_iald (n := 4) rfl rfl rfl h (fun a7 h => ?_)
          refine rn_goto (t := 59) rfl rfl rfl ?_
          exact rn_ireti rfl rfl rfl h rfl
        · refine rn_sls 3 (pc' := 58) (ls' := [(0, (2, 1000)), (1, (0, v1)), (2, (0, v2))]) (st' := [(0, v1), (2, 1041)]) rfl ?_
          refine rn_iald (n := 4) rfl rfl rfl h (fun a6 h => ?_)
          exact rn_ireti rfl rfl rfl h rfl
set_option maxRecDepth 20000 in
theorem t_M_room (d : Nat) : ∀ (v1 : Int) (μ : am_M) q, M_room v1 μ = some q → am_ar g_mt (d + 2) 197 [(2, 1000), (0, v1)] μ (am_res 0 q) := by
  intro v1 μ q h
  unfold M_room at h
  refine am_ar_of (d := d + 1) i_M_room rfl rfl (Nat.le_of_ble_eq_true rfl) ?_
  show am_run none (am_ar g_mt (d + 1)) 2 (some .boolean) k_M_room 0 [(0, (2, 1000)), (1, (0, v1))] [] μ (am_res 0 q)
  refine rn_sls 2 (pc' := 2) (ls' := [(0, (2, 1000)), (1, (0, v1))]) (st' := [(0, 0), (2, 1000)]) rfl ?_
  refine rn_put rfl rfl rfl rfl (Or.inl ⟨rfl, rfl⟩) rfl h (fun μ1 h => ?_)
  refine rn_sls 3 (pc' := 9) (ls' := [(0, (2, 1000)), (1, (0, v1))]) (st' := [(0, 99), (0, 1), (0, v1)]) rfl ?_
  refine rn_call 2 0 [(0, v1), (0, 1), (0, 99)] (r := []) rfl ⟨rfl, Or.inr ⟨_, rfl, by decide⟩⟩ (by decide) (fun z => absurd z (by decide)) rfl rfl (Nat.le_of_ble_eq_true rfl) h (fun w hw => t_M_within (d + 0) _ _ _ _ _ hw) (fun a2 μ3 h => ?_)
  refine rn_sls 0 (pc' := 12) (ls' := [(0, (2, 1000)), (1, (0, v1))]) (st' := [(0, a2)]) rfl ?_
  refine rn_ifn (t := 17) rfl rfl rfl rfl h (fun h => ?_) (fun h => ?_)
  · refine rn_sls 1 (pc' := 16) (ls' := [(0, (2, 1000)), (1, (0, v1))]) (st' := [(0, 0)]) rfl ?_
    exact rn_iretb rfl rfl rfl (Or.inl rfl) h rfl
  · refine rn_sls 2 (pc' := 19) (ls' := [(0, (2, 1000)), (1, (0, v1))]) (st' := [(0, v1), (2, 1000)]) rfl ?_
    refine rn_put rfl rfl rfl rfl (Or.inl ⟨rfl, rfl⟩) rfl h (fun μ4 h => ?_)
    refine rn_sls 1 (pc' := 23) (ls' := [(0, (2, 1000)), (1, (0, v1))]) (st' := [(0, 1)]) rfl ?_
    exact rn_iretb rfl rfl rfl (Or.inr rfl) h rfl
set_option maxRecDepth 20000 in
theorem t_M_price (d : Nat) : ∀ (v1 : Int) (μ : am_M) q, M_price v1 μ = some q → am_ar g_mt (d + 2) 198 [(2, 1000), (0, v1)] μ (am_res 0 q) := by
  intro v1 μ q h
  unfold M_price at h
  refine am_ar_of (d := d + 1) i_M_price rfl rfl (Nat.le_of_ble_eq_true rfl) ?_
  show am_run none (am_ar g_mt (d + 1)) 2 (some .boolean) k_M_price 0 [(0, (2, 1000)), (1, (0, v1))] [] μ (am_res 0 q)
  refine rn_sls 2 (pc' := 2) (ls' := [(0, (2, 1000)), (1, (0, v1))]) (st' := [(0, 0), (2, 1000)]) rfl ?_
  refine rn_put rfl rfl rfl rfl (Or.inl ⟨rfl, rfl⟩) rfl h (fun μ1 h => ?_)
  refine rn_sls 3 (pc' := 9) (ls' := [(0, (2, 1000)), (1, (0, v1))]) (st' := [(0, 99), (0, 0), (0, v1)]) rfl ?_
  refine rn_call 2 0 [(0, v1), (0, 0), (0, 99)] (r := []) rfl ⟨rfl, Or.inr ⟨_, rfl, by decide⟩⟩ (by decide) (fun z => absurd z (by decide)) rfl rfl (Nat.le_of_ble_eq_true rfl) h (fun w hw => t_M_within (d + 0) _ _ _ _ _ hw) (fun a2 μ3 h => ?_)
  refine rn_sls 0 (pc' := 12) (ls' := [(0, (2, 1000)), (1, (0, v1))]) (st' := [(0, a2)]) rfl ?_
  refine rn_ifn (t := 17) rfl rfl rfl rfl h (fun h => ?_) (fun h => ?_)
  · refine rn_sls 1 (pc' := 16) (ls' := [(0, (2, 1000)), (1, (0, v1))]) (st' := [(0, 0)]) rfl ?_
    exact rn_iretb rfl rfl rfl (Or.inl rfl) h rfl
  · refine rn_sls 2 (pc' := 19) (ls' := [(0, (2, 1000)), (1, (0, v1))]) (st' := [(0, v1), (2, 1000)]) rfl ?_
    refine rn_put rfl rfl rfl rfl (Or.inl ⟨rfl, rfl⟩) rfl h (fun μ4 h => ?_)
    refine rn_sls 1 (pc' := 23) (ls' := [(0, (2, 1000)), (1, (0, v1))]) (st' := [(0, 1)]) rfl ?_
    exact rn_iretb rfl rfl rfl (Or.inr rfl) h rfl
set_option maxRecDepth 20000 in
theorem t_M_onTable_L4_b (d : Nat) (k4 : Int → Int → am_M → am_O) (hk4 : ∀ (v1 : Int) (v2 : Int) (μ : am_M) q, k4 v1 v2 μ = some q → am_run none (am_ar g_mt (d + 1)) 3 (some .int) k_M_onTable 4 [(0, (2, 1000)), (1, (0, v1)), (2, (0, v2))] [] μ (am_res 0 q)) : ∀ (v1 : Int) (v2 : Int) (μ : am_M) q, M_onTable_L4_b k4 v1 v2 μ = some q → am_run none (am_ar g_mt (d + 1)) 3 (some .int) k_M_onTable 4 [(0, (2, 1000)), (1, (0, v1)), (2, (0, v2))] [] μ (am_res 0 q) := by
  intro v1 v2 μ q h
  unfold M_onTable_L4_b at h
  refine rn_sls 3 (pc' := 9) (ls' := [(0, (2, 1000)), (1, (0, v1)), (2, (0, v2))]) (st' := [(0, (μ 1000 58)), (0, v2)]) rfl ?_
  refine rn_icmpn (t := 30) rfl rfl rfl rfl h (fun h => ?_) (fun h => ?_)
  · refine rn_sls 4 (pc' := 18) (ls' := [(0, (2, 1000)), (1, (0, v1)), (2, (0, v2))]) (st' := [(0, v2), (2, 1045), (0, v1)]) rfl ?_
    refine rn_iald (n := 16) rfl rfl rfl h (fun a1 h => ?_)
    refine rn_call 2 0 [(0, a1)] (r := [(0, v1)]) rfl ⟨rfl, Or.inr ⟨_, rfl, by decide⟩⟩ (by decide) (fun z => absurd z (by decide)) rfl rfl (Nat.le_of_ble_eq_true rfl) h (fun w hw => t_M_bits (d + 0) _ _ _ hw) (fun a2 μ3 h => ?_)
    refine rn_sls 0 (pc' := 22) (ls' := [(0, (2, 1000)), (1, (0, v1)), (2, (0, v2))]) (st' := [(0, a2), (0, v1)]) rfl ?_
    refine rn_sls 3 (pc' := 27) (ls' := [(2, (0, (w32 (v2 + 1)))), (1, (0, (w32 (v1 + a2)))), (0, (2, 1000))]) (st' := []) rfl ?_
    refine rn_goto (t := 4) rfl rfl rfl ?_
    exact rn_sub [2, 1, 0] rfl (hk4 _ _ _ _ h)
  · refine rn_sls 1 (pc' := 31) (ls' := [(0, (2, 1000)), (1, (0, v1)), (2, (0, v2))]) (st' := [(0, v1)]) rfl ?_
    exact rn_ireti rfl rfl rfl h rfl
set_option maxRecDepth 20000 in
theorem t_M_onTable_L4 (d : Nat) : ∀ (n : Nat) (v1 : Int) (v2 : Int) (μ : am_M) q, M_onTable_L4 n v1 v2 μ = some q → am_run none (am_ar g_mt (d + 1)) 3 (some .int) k_M_onTable 4 [(0, (2, 1000)), (1, (0, v1)), (2, (0, v2))] [] μ (am_res 0 q) := by
  intro n
  induction n with
  | zero => intro v1 v2 μ q h; cases h
  | succ n ih => intro v1 v2 μ q h; exact t_M_onTable_L4_b d (M_onTable_L4 n) ih v1 v2 μ q h
set_option maxRecDepth 20000 in
theorem t_M_onTable (d : Nat) : ∀  (μ : am_M) q, M_onTable  μ = some q → am_ar g_mt (d + 2) 199 [(2, 1000)] μ (am_res 0 q) := by
  intro  μ q h
  unfold M_onTable at h
  refine am_ar_of (d := d + 1) i_M_onTable rfl rfl (Nat.le_of_ble_eq_true rfl) ?_
  show am_run none (am_ar g_mt (d + 1)) 3 (some .int) k_M_onTable 0 [(0, (2, 1000))] [] μ (am_res 0 q)
  refine rn_sls 4 (pc' := 4) (ls' := [(2, (0, 0)), (1, (0, 0)), (0, (2, 1000))]) (st' := []) rfl ?_
  exact rn_sub [2, 1, 0] rfl (t_M_onTable_L4 d  am_FU _ _ _ _ h)
set_option maxRecDepth 20000 in
theorem t_M_laysIn (d : Nat) : ∀ (v1 : Int) (v2 : Int) (v3 : Int) (μ : am_M) q, M_laysIn v1 v2 v3 μ = some q → am_ar g_mt (d + 1) 201 [(2, 1000), (0, v1), (0, v2), (0, v3)] μ (am_res 2 q) := by
  intro v1 v2 v3 μ q h
  unfold M_laysIn at h
  refine am_ar_of (d := d + 0) i_M_laysIn rfl rfl (Nat.le_of_ble_eq_true rfl) ?_
  show am_run none (am_ar g_mt (d + 0)) 4 none k_M_laysIn 0 [(0, (2, 1000)), (1, (0, v1)), (2, (0, v2)), (3, (0, v3))] [] μ (am_res 2 q)
  refine rn_sls 4 (pc' := 6) (ls' := [(0, (2, 1000)), (1, (0, v1)), (2, (0, v2)), (3, (0, v3))]) (st' := [(0, v1), (2, 1045), (0, v1), (2, 1045)]) rfl ?_
  refine rn_iald (n := 16) rfl rfl rfl h (fun a1 h => ?_)
  refine rn_sls 4 (pc' := 11) (ls' := [(0, (2, 1000)), (1, (0, v1)), (2, (0, v2)), (3, (0, v3))]) (st' := [(0, (aOr a1 (aShl 1 v2))), (0, v1), (2, 1045)]) rfl ?_
  refine rn_iast (n := 16) rfl rfl rfl h (fun μ2 h => ?_)
  refine rn_sls 8 (pc' := 23) (ls' := [(0, (2, 1000)), (1, (0, v1)), (2, (0, v2)), (3, (0, v3))]) (st' := [(0, v3), (0, (w32 ((w32 (10 * v1)) + v2))), (2, 1046)]) rfl ?_
  refine rn_iast (n := 160) rfl rfl rfl h (fun μ3 h => ?_)
  exact rn_ret (v := 0) rfl rfl rfl h rfl
set_option maxRecDepth 20000 in
theorem t_M_opensBill_L44_b (d : Nat) (k44 : Int → Int → am_M → am_O) (hk44 : ∀ (v1 : Int) (v2 : Int) (μ : am_M) q, k44 v1 v2 μ = some q → am_run none (am_ar g_mt (d + 1)) 3 none k_M_opensBill 44 [(0, (2, 1000)), (1, (0, v1)), (2, (0, v2))] [] μ (am_res 2 q)) : ∀ (v1 : Int) (v2 : Int) (μ : am_M) q, M_opensBill_L44_b k44 v1 v2 μ = some q → am_run none (am_ar g_mt (d + 1)) 3 none k_M_opensBill 44 [(0, (2, 1000)), (1, (0, v1)), (2, (0, v2))] [] μ (am_res 2 q) := by
  intro v1 v2 μ q h
  unfold M_opensBill_L44_b at h
  refine rn_sls 4 (pc' := 50) (ls' := [(0, (2, 1000)), (1, (0, v1)), (2, (0, v2))]) (st' := [(0, v1), (2, 1019), (0, v2)]) rfl ?_
  refine rn_iald (n := 8) rfl rfl rfl h (fun a1 h => ?_)
  refine rn_icmpn (t := 87) rfl rfl rfl rfl h (fun h => ?_) (fun h => ?_)
  · refine rn_sls 8 (pc' := 68) (ls' := [(0, (2, 1000)), (1, (0, v1)), (2, (0, v2))]) (st' := [(0, v1), (2, 1017), (2, 1003), (0, (μ 1000 58)), (2, 1000)]) rfl ?_
    refine rn_iald (n := 8) rfl rfl rfl h (fun a3 h => ?_)
    refine rn_sls 2 (pc' := 71) (ls' := [(0, (2, 1000)), (1, (0, v1)), (2, (0, v2))]) (st' := [(0, (w32 (a3 + v2))), (2, 1003), (0, (μ 1000 58)), (2, 1000)]) rfl ?_
    refine rn_iald (n := 120) rfl rfl rfl h (fun a4 h => ?_)
    refine rn_sls 3 (pc' := 77) (ls' := [(0, (2, 1000)), (1, (0, v1)), (2, (0, v2))]) (st' := [(0, v2), (2, 1047), (0, a4), (0, (μ 1000 58)), (2, 1000)]) rfl ?_
    refine rn_iald (n := 4) rfl rfl rfl h (fun a5 h => ?_)
    refine rn_call 0 2 [(2, 1000), (0, (μ 1000 58)), (0, a4), (0, a5)] (r := []) rfl ⟨rfl, Or.inl ⟨_, rfl, by decide⟩⟩ (by decide) (fun _ => ⟨_, rfl, rfl⟩) rfl rfl (Nat.le_of_ble_eq_true rfl) h (fun w hw => t_M_laysIn (d + 0) _ _ _ _ _ hw) (fun a6 μ7 h => ?_)
    refine rn_sls 0 (pc' := 81) (ls' := [(0, (2, 1000)), (1, (0, v1)), (2, (0, v2))]) (st' := []) rfl ?_
    refine rn_sls 1 (pc' := 84) (ls' := [(2, (0, (w32 (v2 + 1)))), (0, (2, 1000)), (1, (0, v1))]) (st' := []) rfl ?_
    refine rn_goto (t := 44) rfl rfl rfl ?_
    exact rn_sub [1, 2, 0] rfl (hk44 _ _ _ _ h)
  · refine rn_sls 5 (pc' := 94) (ls' := [(0, (2, 1000)), (1, (0, v1)), (2, (0, v2))]) (st' := [(0, (w32 ((μ 1000 58) + 1))), (2, 1000)]) rfl ?_
    refine rn_put rfl rfl rfl rfl (Or.inl ⟨rfl, rfl⟩) rfl h (fun μ2 h => ?_)
    exact rn_ret (v := 0) rfl rfl rfl h rfl
set_option maxRecDepth 20000 in
theorem t_M_opensBill_L44 (d : Nat) : ∀ (n : Nat) (v1 : Int) (v2 : Int) (μ : am_M) q, M_opensBill_L44 n v1 v2 μ = some q → am_run none (am_ar g_mt (d + 1)) 3 none k_M_opensBill 44 [(0, (2, 1000)), (1, (0, v1)), (2, (0, v2))] [] μ (am_res 2 q) := by
  intro n
  induction n with
  | zero => intro v1 v2 μ q h; cases h
  | succ n ih => intro v1 v2 μ q h; exact t_M_opensBill_L44_b d (M_opensBill_L44 n) ih v1 v2 μ q h
set_option maxRecDepth 20000 in
theorem t_M_opensBill (d : Nat) : ∀ (v1 : Int) (μ : am_M) q, M_opensBill v1 μ = some q → am_ar g_mt (d + 2) 200 [(2, 1000), (0, v1)] μ (am_res 2 q) := by
  intro v1 μ q h
  unfold M_opensBill at h
  refine am_ar_of (d := d + 1) i_M_opensBill rfl rfl (Nat.le_of_ble_eq_true rfl) ?_
  show am_run none (am_ar g_mt (d + 1)) 3 none k_M_opensBill 0 [(0, (2, 1000)), (1, (0, v1))] [] μ (am_res 2 q)
  refine rn_sls 5 (pc' := 9) (ls' := [(0, (2, 1000)), (1, (0, v1))]) (st' := [(0, v1), (0, (μ 1000 58)), (2, 1043)]) rfl ?_
  refine rn_iast (n := 16) rfl rfl rfl h (fun μ1 h => ?_)
  refine rn_sls 5 (pc' := 19) (ls' := [(0, (2, 1000)), (1, (0, v1))]) (st' := [(0, 0), (0, (μ1 1000 58)), (2, 1045)]) rfl ?_
  refine rn_iast (n := 16) rfl rfl rfl h (fun μ2 h => ?_)
  refine rn_sls 7 (pc' := 33) (ls' := [(0, (2, 1000)), (1, (0, v1))]) (st' := [(0, v1), (2, 1017), (0, (μ2 1000 58)), (2, 1044)]) rfl ?_
  refine rn_iald (n := 8) rfl rfl rfl h (fun a3 h => ?_)
  refine rn_sls 3 (pc' := 39) (ls' := [(0, (2, 1000)), (1, (0, v1))]) (st' := [(0, v1), (2, 1019), (0, a3), (0, (μ2 1000 58)), (2, 1044)]) rfl ?_
  refine rn_iald (n := 8) rfl rfl rfl h (fun a4 h => ?_)
  refine rn_sls 1 (pc' := 41) (ls' := [(0, (2, 1000)), (1, (0, v1))]) (st' := [(0, (w32 (a3 + a4))), (0, (μ2 1000 58)), (2, 1044)]) rfl ?_
  refine rn_iast (n := 16) rfl rfl rfl h (fun μ5 h => ?_)
  refine rn_sls 2 (pc' := 44) (ls' := [(2, (0, 0)), (0, (2, 1000)), (1, (0, v1))]) (st' := []) rfl ?_
  exact rn_sub [1, 2, 0] rfl (t_M_opensBill_L44 d  am_FU _ _ _ _ h)
set_option maxRecDepth 20000 in
theorem t_M_burnsIn (d : Nat) : ∀ (v1 : Int) (v2 : Int) (μ : am_M) q, M_burnsIn v1 v2 μ = some q → am_ar g_mt (d + 1) 202 [(2, 1000), (0, v1), (0, v2)] μ (am_res 0 q) := by
  intro v1 v2 μ q h
  unfold M_burnsIn at h
  refine am_ar_of (d := d + 0) i_M_burnsIn rfl rfl (Nat.le_of_ble_eq_true rfl) ?_
  show am_run none (am_ar g_mt (d + 0)) 3 (some .int) k_M_burnsIn 0 [(0, (2, 1000)), (1, (0, v1)), (2, (0, v2))] [] μ (am_res 0 q)
  refine rn_sls 4 (pc' := 6) (ls' := [(0, (2, 1000)), (1, (0, v1)), (2, (0, v2))]) (st' := [(0, v1), (2, 1045), (0, v1), (2, 1045)]) rfl ?_
  refine rn_iald (n := 16) rfl rfl rfl h (fun a1 h => ?_)
  refine rn_sls 6 (pc' := 13) (ls' := [(0, (2, 1000)), (1, (0, v1)), (2, (0, v2))]) (st' := [(0, (aAnd a1 (aXor (aShl 1 v2) (-1)))), (0, v1), (2, 1045)]) rfl ?_
  refine rn_iast (n := 16) rfl rfl rfl h (fun μ2 h => ?_)
  refine rn_sls 5 (pc' := 21) (ls' := [(0, (2, 1000)), (1, (0, v1)), (2, (0, v2))]) (st' := [(0, (w32 ((μ2 1000 64) + 1))), (2, 1000)]) rfl ?_
  refine rn_put rfl rfl rfl rfl (Or.inl ⟨rfl, rfl⟩) rfl h (fun μ3 h => ?_)
  refine rn_sls 7 (pc' := 34) (ls' := [(0, (2, 1000)), (1, (0, v1)), (2, (0, v2))]) (st' := [(0, (w32 ((w32 (10 * v1)) + v2))), (2, 1046)]) rfl ?_
  refine rn_iald (n := 160) rfl rfl rfl h (fun a4 h => ?_)
  exact rn_ireti rfl rfl rfl h rfl
set_option maxRecDepth 20000 in
theorem t_M_looks (d : Nat) : ∀  (μ : am_M) q, M_looks  μ = some q → am_ar g_mt (d + 3) 203 [(2, 1000)] μ (am_res 2 q) := by
  intro  μ q h
  unfold M_looks at h
  refine am_ar_of (d := d + 2) i_M_looks rfl rfl (Nat.le_of_ble_eq_true rfl) ?_
  show am_run none (am_ar g_mt (d + 2)) 1 none k_M_looks 0 [(0, (2, 1000))] [] μ (am_res 2 q)
  refine rn_sls 4 (pc' := 6) (ls' := [(0, (2, 1000))]) (st' := [(2, 1000), (0, (μ 1000 63)), (2, 1000)]) rfl ?_
  refine rn_call 0 0 [(2, 1000)] (r := [(0, (μ 1000 63)), (2, 1000)]) rfl ⟨rfl, Or.inl ⟨_, rfl, by decide⟩⟩ (by decide) (fun _ => ⟨_, rfl, rfl⟩) rfl rfl (Nat.le_of_ble_eq_true rfl) h (fun w hw => t_M_onTable (d + 0)  _ _ hw) (fun a1 μ2 h => ?_)
  refine rn_sls 0 (pc' := 9) (ls' := [(0, (2, 1000))]) (st' := [(0, a1), (0, (μ 1000 63)), (2, 1000)]) rfl ?_
  refine rn_max rfl ⟨rfl, Or.inr ⟨_, rfl, by decide⟩⟩ rfl (Nat.le_of_ble_eq_true rfl) ?_
  refine rn_nm (ls := fun x => [(0, (2, 1000))]) (st := fun x => [(0, x), (2, 1000)]) h (fun a3 h => ?_)
  refine rn_put rfl rfl rfl rfl (Or.inl ⟨rfl, rfl⟩) rfl h (fun μ4 h => ?_)
  refine rn_sls 3 (pc' := 20) (ls' := [(0, (2, 1000))]) (st' := [(0, 1), (0, (μ4 1000 57))]) rfl ?_
  refine rn_icmpn (t := 39) rfl rfl rfl rfl h (fun h => ?_) (fun h => ?_)
  · refine rn_sls 1 (pc' := 24) (ls' := [(0, (2, 1000))]) (st' := [(2, 1000)]) rfl ?_
    refine rn_call 0 0 [(2, 1000)] (r := []) rfl ⟨rfl, Or.inl ⟨_, rfl, by decide⟩⟩ (by decide) (fun _ => ⟨_, rfl, rfl⟩) rfl rfl (Nat.le_of_ble_eq_true rfl) h (fun w hw => t_M_onTable (d + 0)  _ _ hw) (fun a5 μ6 h => ?_)
    refine rn_sls 0 (pc' := 27) (ls' := [(0, (2, 1000))]) (st' := [(0, a5)]) rfl ?_
    refine rn_sls 2 (pc' := 31) (ls' := [(0, (2, 1000))]) (st' := [(0, (μ6 1000 55)), (0, a5)]) rfl ?_
    refine rn_icmp (t := 39) rfl rfl rfl rfl h (fun h => ?_) (fun h => ?_)
    · exact rn_ret (v := 0) rfl rfl rfl h rfl
    · refine rn_sls 2 (pc' := 36) (ls' := [(0, (2, 1000))]) (st' := [(0, 3), (2, 1000)]) rfl ?_
      refine rn_put rfl rfl rfl rfl (Or.inl ⟨rfl, rfl⟩) rfl h (fun μ7 h => ?_)
      exact rn_ret (v := 0) rfl rfl rfl h rfl
  · exact rn_ret (v := 0) rfl rfl rfl h rfl
set_option maxRecDepth 20000 in
theorem t_M_begin (d : Nat) : ∀ (v1 : Int) (v2 : Int) (v3 : Int) (v4 : Int) (v5 : Int) (μ : am_M) q, M_begin v1 v2 v3 v4 v5 μ = some q → am_ar g_mt (d + 4) 204 [(2, 1000), (0, v1), (0, v2), (0, v3), (0, v4), (0, v5)] μ (am_res 0 q) := by
  intro v1 v2 v3 v4 v5 μ q h
  unfold M_begin at h
  refine am_ar_of (d := d + 3) i_M_begin rfl rfl (Nat.le_of_ble_eq_true rfl) ?_
  show am_run none (am_ar g_mt (d + 3)) 6 (some .boolean) k_M_begin 0 [(0, (2, 1000)), (1, (0, v1)), (2, (0, v2)), (3, (0, v3)), (4, (0, v4)), (5, (0, v5))] [] μ (am_res 0 q)
  refine rn_sls 2 (pc' := 2) (ls' := [(0, (2, 1000)), (1, (0, v1)), (2, (0, v2)), (3, (0, v3)), (4, (0, v4)), (5, (0, v5))]) (st' := [(0, 0), (2, 1000)]) rfl ?_
  refine rn_put rfl rfl rfl rfl (Or.inl ⟨rfl, rfl⟩) rfl h (fun μ1 h => ?_)
  refine rn_sls 2 (pc' := 7) (ls' := [(0, (2, 1000)), (1, (0, v1)), (2, (0, v2)), (3, (0, v3)), (4, (0, v4)), (5, (0, v5))]) (st' := [(0, v1), (2, 1000)]) rfl ?_
  refine rn_call 0 0 [(2, 1000), (0, v1)] (r := []) rfl ⟨rfl, Or.inl ⟨_, rfl, by decide⟩⟩ (by decide) (fun _ => ⟨_, rfl, rfl⟩) rfl rfl (Nat.le_of_ble_eq_true rfl) h (fun w hw => t_M_isBill (d + 2) _ _ _ hw) (fun a2 μ3 h => ?_)
  refine rn_sls 0 (pc' := 10) (ls' := [(0, (2, 1000)), (1, (0, v1)), (2, (0, v2)), (3, (0, v3)), (4, (0, v4)), (5, (0, v5))]) (st' := [(0, a2)]) rfl ?_
  refine rn_if (t := 21) rfl rfl rfl rfl h (fun h => ?_) (fun h => ?_)
  · refine rn_sls 1 (pc' := 22) (ls' := [(0, (2, 1000)), (1, (0, v1)), (2, (0, v2)), (3, (0, v3)), (4, (0, v4)), (5, (0, v5))]) (st' := [(0, 0)]) rfl ?_
    exact rn_iretb rfl rfl rfl (Or.inl rfl) h rfl
  · refine rn_sls 2 (pc' := 15) (ls' := [(0, (2, 1000)), (1, (0, v1)), (2, (0, v2)), (3, (0, v3)), (4, (0, v4)), (5, (0, v5))]) (st' := [(0, v1), (2, 1000)]) rfl ?_
    refine rn_call 0 0 [(2, 1000), (0, v1)] (r := []) rfl ⟨rfl, Or.inl ⟨_, rfl, by decide⟩⟩ (by decide) (fun _ => ⟨_, rfl, rfl⟩) rfl rfl (Nat.le_of_ble_eq_true rfl) h (fun w hw => t_M_isSound (d + 1) _ _ _ hw) (fun a4 μ5 h => ?_)
    refine rn_sls 0 (pc' := 18) (ls' := [(0, (2, 1000)), (1, (0, v1)), (2, (0, v2)), (3, (0, v3)), (4, (0, v4)), (5, (0, v5))]) (st' := [(0, a4)]) rfl ?_
    refine rn_ifn (t := 23) rfl rfl rfl rfl h (fun h => ?_) (fun h => ?_)
    · refine rn_sls 1 (pc' := 22) (ls' := [(0, (2, 1000)), (1, (0, v1)), (2, (0, v2)), (3, (0, v3)), (4, (0, v4)), (5, (0, v5))]) (st' := [(0, 0)]) rfl ?_
      exact rn_iretb rfl rfl rfl (Or.inl rfl) h rfl
    · refine rn_sls 4 (pc' := 29) (ls' := [(0, (2, 1000)), (1, (0, v1)), (2, (0, v2)), (3, (0, v3)), (4, (0, v4)), (5, (0, v5))]) (st' := [(0, v2), (0, 0), (2, 1047)]) rfl ?_
      refine rn_iast (n := 4) rfl rfl rfl h (fun μ6 h => ?_)
      refine rn_sls 4 (pc' := 36) (ls' := [(0, (2, 1000)), (1, (0, v1)), (2, (0, v2)), (3, (0, v3)), (4, (0, v4)), (5, (0, v5))]) (st' := [(0, v3), (0, 1), (2, 1047)]) rfl ?_
      refine rn_iast (n := 4) rfl rfl rfl h (fun μ7 h => ?_)
      refine rn_sls 4 (pc' := 44) (ls' := [(0, (2, 1000)), (1, (0, v1)), (2, (0, v2)), (3, (0, v3)), (4, (0, v4)), (5, (0, v5))]) (st' := [(0, v4), (0, 2), (2, 1047)]) rfl ?_
      refine rn_iast (n := 4) rfl rfl rfl h (fun μ8 h => ?_)
      refine rn_sls 4 (pc' := 52) (ls' := [(0, (2, 1000)), (1, (0, v1)), (2, (0, v2)), (3, (0, v3)), (4, (0, v4)), (5, (0, v5))]) (st' := [(0, v5), (0, 3), (2, 1047)]) rfl ?_
      refine rn_iast (n := 4) rfl rfl rfl h (fun μ9 h => ?_)
      refine rn_sls 2 (pc' := 55) (ls' := [(0, (2, 1000)), (1, (0, v1)), (2, (0, v2)), (3, (0, v3)), (4, (0, v4)), (5, (0, v5))]) (st' := [(0, 0), (2, 1000)]) rfl ?_
      refine rn_put rfl rfl rfl rfl (Or.inl ⟨rfl, rfl⟩) rfl h (fun μ10 h => ?_)
      refine rn_sls 2 (pc' := 60) (ls' := [(0, (2, 1000)), (1, (0, v1)), (2, (0, v2)), (3, (0, v3)), (4, (0, v4)), (5, (0, v5))]) (st' := [(0, 0), (2, 1000)]) rfl ?_
      refine rn_put rfl rfl rfl rfl (Or.inl ⟨rfl, rfl⟩) rfl h (fun μ11 h => ?_)
      refine rn_sls 2 (pc' := 65) (ls' := [(0, (2, 1000)), (1, (0, v1)), (2, (0, v2)), (3, (0, v3)), (4, (0, v4)), (5, (0, v5))]) (st' := [(0, 0), (2, 1000)]) rfl ?_
      refine rn_put rfl rfl rfl rfl (Or.inl ⟨rfl, rfl⟩) rfl h (fun μ12 h => ?_)
      refine rn_sls 2 (pc' := 70) (ls' := [(0, (2, 1000)), (1, (0, v1)), (2, (0, v2)), (3, (0, v3)), (4, (0, v4)), (5, (0, v5))]) (st' := [(0, 0), (2, 1000)]) rfl ?_
      refine rn_put rfl rfl rfl rfl (Or.inl ⟨rfl, rfl⟩) rfl h (fun μ13 h => ?_)
      refine rn_sls 2 (pc' := 75) (ls' := [(0, (2, 1000)), (1, (0, v1)), (2, (0, v2)), (3, (0, v3)), (4, (0, v4)), (5, (0, v5))]) (st' := [(0, 0), (2, 1000)]) rfl ?_
      refine rn_put rfl rfl rfl rfl (Or.inl ⟨rfl, rfl⟩) rfl h (fun μ14 h => ?_)
      refine rn_sls 2 (pc' := 80) (ls' := [(0, (2, 1000)), (1, (0, v1)), (2, (0, v2)), (3, (0, v3)), (4, (0, v4)), (5, (0, v5))]) (st' := [(0, 1), (2, 1000)]) rfl ?_
      refine rn_put rfl rfl rfl rfl (Or.inl ⟨rfl, rfl⟩) rfl h (fun μ15 h => ?_)
      refine rn_sls 2 (pc' := 85) (ls' := [(0, (2, 1000)), (1, (0, v1)), (2, (0, v2)), (3, (0, v3)), (4, (0, v4)), (5, (0, v5))]) (st' := [(0, v1), (2, 1000)]) rfl ?_
      refine rn_call 0 2 [(2, 1000), (0, v1)] (r := []) rfl ⟨rfl, Or.inl ⟨_, rfl, by decide⟩⟩ (by decide) (fun _ => ⟨_, rfl, rfl⟩) rfl rfl (Nat.le_of_ble_eq_true rfl) h (fun w hw => t_M_opensBill (d + 1) _ _ _ hw) (fun a16 μ17 h => ?_)
      refine rn_sls 0 (pc' := 88) (ls' := [(0, (2, 1000)), (1, (0, v1)), (2, (0, v2)), (3, (0, v3)), (4, (0, v4)), (5, (0, v5))]) (st' := []) rfl ?_
      refine rn_sls 1 (pc' := 89) (ls' := [(0, (2, 1000)), (1, (0, v1)), (2, (0, v2)), (3, (0, v3)), (4, (0, v4)), (5, (0, v5))]) (st' := [(2, 1000)]) rfl ?_
      refine rn_call 0 2 [(2, 1000)] (r := []) rfl ⟨rfl, Or.inl ⟨_, rfl, by decide⟩⟩ (by decide) (fun _ => ⟨_, rfl, rfl⟩) rfl rfl (Nat.le_of_ble_eq_true rfl) h (fun w hw => t_M_looks (d + 0)  _ _ hw) (fun a18 μ19 h => ?_)
      refine rn_sls 0 (pc' := 92) (ls' := [(0, (2, 1000)), (1, (0, v1)), (2, (0, v2)), (3, (0, v3)), (4, (0, v4)), (5, (0, v5))]) (st' := []) rfl ?_
      refine rn_sls 1 (pc' := 93) (ls' := [(0, (2, 1000)), (1, (0, v1)), (2, (0, v2)), (3, (0, v3)), (4, (0, v4)), (5, (0, v5))]) (st' := [(0, 1)]) rfl ?_
      exact rn_iretb rfl rfl rfl (Or.inr rfl) h rfl
set_option maxRecDepth 20000 in
theorem t_M_reckons_B43 (d : Nat) (k3 : Int → Int → Int → Int → am_M → am_O) (hk3 : ∀ (v1 : Int) (v2 : Int) (v3 : Int) (v4 : Int) (μ : am_M) q, k3 v1 v2 v3 v4 μ = some q → am_run none (am_ar g_mt (d + 3)) 5 (some .int) k_M_reckons 3 [(0, (2, 1000)), (1, (0, v1)), (2, (0, v2)), (3, (0, v3)), (4, (0, v4))] [] μ (am_res 0 q)) : ∀ (v1 : Int) (v2 : Int) (v3 : Int) (v4 : Int) (s1 : Int) (s2 : Int) (μ : am_M) q, M_reckons_B43 k3 v1 v2 v3 v4 s1 s2 μ = some q → am_run none (am_ar g_mt (d + 3)) 5 (some .int) k_M_reckons 43 [(0, (2, 1000)), (1, (0, v1)), (2, (0, v2)), (3, (0, v3)), (4, (0, v4))] [(0, s2), (0, s1), (2, 1033)] μ (am_res 0 q) := by
  intro v1 v2 v3 v4 s1 s2 μ q h
  unfold M_reckons_B43 at h
  refine rn_iast (n := 20) rfl rfl rfl h (fun μ1 h => ?_)
  refine rn_sls 1 (pc' := 47) (ls' := [(4, (0, (w32 (v4 + 1)))), (0, (2, 1000)), (1, (0, v1)), (2, (0, v2)), (3, (0, v3))]) (st' := []) rfl ?_
  refine rn_goto (t := 3) rfl rfl rfl ?_
  exact rn_sub [1, 2, 3, 4, 0] rfl (hk3 _ _ _ _ _ _ h)
set_option maxRecDepth 20000 in
theorem t_M_reckons_L53_b (d : Nat) (k53 : Int → Int → am_M → am_O) (hk53 : ∀ (v1 : Int) (v4 : Int) (μ : am_M) q, k53 v1 v4 μ = some q → am_run none (am_ar g_mt (d + 3)) 5 (some .int) k_M_reckons 53 [(0, (2, 1000)), (1, (0, v1)), (4, (0, v4))] [] μ (am_res 0 q)) : ∀ (v1 : Int) (v4 : Int) (μ : am_M) q, M_reckons_L53_b k53 v1 v4 μ = some q → am_run none (am_ar g_mt (d + 3)) 5 (some .int) k_M_reckons 53 [(0, (2, 1000)), (1, (0, v1)), (4, (0, v4))] [] μ (am_res 0 q) := by
  intro v1 v4 μ q h
  unfold M_reckons_L53_b at h
  refine rn_sls 2 (pc' := 56) (ls' := [(0, (2, 1000)), (1, (0, v1)), (4, (0, v4))]) (st' := [(0, 4), (0, v4)]) rfl ?_
  refine rn_icmpn (t := 82) rfl rfl rfl rfl h (fun h => ?_) (fun h => ?_)
  · refine rn_sls 8 (pc' := 74) (ls' := [(0, (2, 1000)), (1, (0, v1)), (4, (0, v4))]) (st' := [(0, v4), (2, 1015), (0, (w32 (11 + v4))), (2, 1033)]) rfl ?_
    refine rn_iald (n := 8) rfl rfl rfl h (fun a3 h => ?_)
    refine rn_iast (n := 20) rfl rfl rfl h (fun μ4 h => ?_)
    refine rn_sls 1 (pc' := 79) (ls' := [(4, (0, (w32 (v4 + 1)))), (0, (2, 1000)), (1, (0, v1))]) (st' := []) rfl ?_
    refine rn_goto (t := 53) rfl rfl rfl ?_
    exact rn_sub [1, 2, 0] rfl (hk53 _ _ _ _ h)
  · refine rn_sls 2 (pc' := 84) (ls' := [(0, (2, 1000)), (1, (0, v1)), (4, (0, v4))]) (st' := [(0, v1), (2, 1000)]) rfl ?_
    refine rn_call 0 0 [(2, 1000), (0, v1)] (r := []) rfl ⟨rfl, Or.inl ⟨_, rfl, by decide⟩⟩ (by decide) (fun _ => ⟨_, rfl, rfl⟩) rfl rfl (Nat.le_of_ble_eq_true rfl) h (fun w hw => t_M_worked (d + 0) _ _ _ hw) (fun a1 μ2 h => ?_)
    refine rn_sls 0 (pc' := 87) (ls' := [(0, (2, 1000)), (1, (0, v1)), (4, (0, v4))]) (st' := [(0, a1)]) rfl ?_
    exact rn_ireti rfl rfl rfl h rfl
set_option maxRecDepth 20000 in
theorem t_M_reckons_L53 (d : Nat) : ∀ (n : Nat) (v1 : Int) (v4 : Int) (μ : am_M) q, M_reckons_L53 n v1 v4 μ = some q → am_run none (am_ar g_mt (d + 3)) 5 (some .int) k_M_reckons 53 [(0, (2, 1000)), (1, (0, v1)), (4, (0, v4))] [] μ (am_res 0 q) := by
  intro n
  induction n with
  | zero => intro v1 v4 μ q h; cases h
  | succ n ih => intro v1 v4 μ q h; exact t_M_reckons_L53_b d (M_reckons_L53 n) ih v1 v4 μ q h
set_option maxRecDepth 20000 in
theorem t_M_reckons_L3_b (d : Nat) (k3 : Int → Int → Int → Int → am_M → am_O) (hk3 : ∀ (v1 : Int) (v2 : Int) (v3 : Int) (v4 : Int) (μ : am_M) q, k3 v1 v2 v3 v4 μ = some q → am_run none (am_ar g_mt (d + 3)) 5 (some .int) k_M_reckons 3 [(0, (2, 1000)), (1, (0, v1)), (2, (0, v2)), (3, (0, v3)), (4, (0, v4))] [] μ (am_res 0 q)) : ∀ (v1 : Int) (v2 : Int) (v3 : Int) (v4 : Int) (μ : am_M) q, M_reckons_L3_b k3 v1 v2 v3 v4 μ = some q → am_run none (am_ar g_mt (d + 3)) 5 (some .int) k_M_reckons 3 [(0, (2, 1000)), (1, (0, v1)), (2, (0, v2)), (3, (0, v3)), (4, (0, v4))] [] μ (am_res 0 q) := by
  intro v1 v2 v3 v4 μ q h
  unfold M_reckons_L3_b at h
  refine rn_sls 2 (pc' := 7) (ls' := [(0, (2, 1000)), (1, (0, v1)), (2, (0, v2)), (3, (0, v3)), (4, (0, v4))]) (st' := [(0, 10), (0, v4)]) rfl ?_
  refine rn_icmpn (t := 50) rfl rfl rfl rfl h (fun h => ?_) (fun h => ?_)
  · refine rn_sls 6 (pc' := 19) (ls' := [(0, (2, 1000)), (1, (0, v1)), (2, (0, v2)), (3, (0, v3)), (4, (0, v4))]) (st' := [(0, v3), (0, (w32 (1 + v4))), (2, 1033)]) rfl ?_
    refine rn_if (t := 34) rfl rfl rfl rfl h (fun h => ?_) (fun h => ?_)
    · refine rn_sls 5 (pc' := 42) (ls' := [(0, (2, 1000)), (1, (0, v1)), (2, (0, v2)), (3, (0, v3)), (4, (0, v4))]) (st' := [(0, (w32 (v2 + v4))), (2, 1046), (0, (w32 (1 + v4))), (2, 1033)]) rfl ?_
      refine rn_iald (n := 160) rfl rfl rfl h (fun a1 h => ?_)
      exact rn_sub [0, 1, 2, 3, 4] rfl (t_M_reckons_B43 d k3 hk3 _ _ _ _ _ _ _ _ h)
    · refine rn_sls 5 (pc' := 30) (ls' := [(0, (2, 1000)), (1, (0, v1)), (2, (0, v2)), (3, (0, v3)), (4, (0, v4))]) (st' := [(0, (w32 (v2 + v4))), (2, 1051), (0, (w32 (1 + v4))), (2, 1033)]) rfl ?_
      refine rn_iald (n := 160) rfl rfl rfl h (fun a2 h => ?_)
      refine rn_goto (t := 43) rfl rfl rfl ?_
      exact rn_sub [0, 1, 2, 3, 4] rfl (t_M_reckons_B43 d k3 hk3 _ _ _ _ _ _ _ _ h)
  · refine rn_sls 2 (pc' := 53) (ls' := [(4, (0, 0)), (0, (2, 1000)), (1, (0, v1)), (2, (0, v2)), (3, (0, v3))]) (st' := []) rfl ?_
    exact rn_sub [1, 2, 0] rfl (t_M_reckons_L53 d  am_FU _ _ _ _ h)
set_option maxRecDepth 20000 in
theorem t_M_reckons_L3 (d : Nat) : ∀ (n : Nat) (v1 : Int) (v2 : Int) (v3 : Int) (v4 : Int) (μ : am_M) q, M_reckons_L3 n v1 v2 v3 v4 μ = some q → am_run none (am_ar g_mt (d + 3)) 5 (some .int) k_M_reckons 3 [(0, (2, 1000)), (1, (0, v1)), (2, (0, v2)), (3, (0, v3)), (4, (0, v4))] [] μ (am_res 0 q) := by
  intro n
  induction n with
  | zero => intro v1 v2 v3 v4 μ q h; cases h
  | succ n ih => intro v1 v2 v3 v4 μ q h; exact t_M_reckons_L3_b d (M_reckons_L3 n) ih v1 v2 v3 v4 μ q h
set_option maxRecDepth 20000 in
theorem t_M_reckons (d : Nat) : ∀ (v1 : Int) (v2 : Int) (v3 : Int) (μ : am_M) q, M_reckons v1 v2 v3 μ = some q → am_ar g_mt (d + 4) 205 [(2, 1000), (0, v1), (0, v2), (0, v3)] μ (am_res 0 q) := by
  intro v1 v2 v3 μ q h
  unfold M_reckons at h
  refine am_ar_of (d := d + 3) i_M_reckons rfl rfl (Nat.le_of_ble_eq_true rfl) ?_
  show am_run none (am_ar g_mt (d + 3)) 5 (some .int) k_M_reckons 0 [(0, (2, 1000)), (1, (0, v1)), (2, (0, v2)), (3, (0, v3))] [] μ (am_res 0 q)
  refine rn_sls 2 (pc' := 3) (ls' := [(4, (0, 0)), (0, (2, 1000)), (1, (0, v1)), (2, (0, v2)), (3, (0, v3))]) (st' := []) rfl ?_
  exact rn_sub [1, 2, 3, 4, 0] rfl (t_M_reckons_L3 d  am_FU _ _ _ _ _ _ h)
set_option maxRecDepth 20000 in
theorem t_M_reckonsIn_B61 (d : Nat) (k19 : Int → Int → Int → Int → am_M → am_O) (hk19 : ∀ (v1 : Int) (v2 : Int) (v3 : Int) (v4 : Int) (μ : am_M) q, k19 v1 v2 v3 v4 μ = some q → am_run none (am_ar g_mt (d + 4)) 5 (some .int) k_M_reckonsIn 19 [(0, (2, 1000)), (1, (0, v1)), (2, (0, v2)), (3, (0, v3)), (4, (0, v4))] [] μ (am_res 0 q)) : ∀ (v1 : Int) (v2 : Int) (v3 : Int) (v4 : Int) (μ : am_M) q, M_reckonsIn_B61 k19 v1 v2 v3 v4 μ = some q → am_run none (am_ar g_mt (d + 4)) 5 (some .int) k_M_reckonsIn 61 [(0, (2, 1000)), (1, (0, v1)), (2, (0, v2)), (3, (0, v3)), (4, (0, v4))] [] μ (am_res 0 q) := by
  intro v1 v2 v3 v4 μ q h
  unfold M_reckonsIn_B61 at h
  refine rn_sls 1 (pc' := 64) (ls' := [(4, (0, (w32 (v4 + 1)))), (0, (2, 1000)), (1, (0, v1)), (2, (0, v2)), (3, (0, v3))]) (st' := []) rfl ?_
  refine rn_goto (t := 19) rfl rfl rfl ?_
  exact rn_sub [1, 2, 3, 4, 0] rfl (hk19 _ _ _ _ _ _ h)
set_option maxRecDepth 20000 in
theorem t_M_reckonsIn_L19_b (d : Nat) (k19 : Int → Int → Int → Int → am_M → am_O) (hk19 : ∀ (v1 : Int) (v2 : Int) (v3 : Int) (v4 : Int) (μ : am_M) q, k19 v1 v2 v3 v4 μ = some q → am_run none (am_ar g_mt (d + 4)) 5 (some .int) k_M_reckonsIn 19 [(0, (2, 1000)), (1, (0, v1)), (2, (0, v2)), (3, (0, v3)), (4, (0, v4))] [] μ (am_res 0 q)) : ∀ (v1 : Int) (v2 : Int) (v3 : Int) (v4 : Int) (μ : am_M) q, M_reckonsIn_L19_b k19 v1 v2 v3 v4 μ = some q → am_run none (am_ar g_mt (d + 4)) 5 (some .int) k_M_reckonsIn 19 [(0, (2, 1000)), (1, (0, v1)), (2, (0, v2)), (3, (0, v3)), (4, (0, v4))] [] μ (am_res 0 q) := by
  intro v1 v2 v3 v4 μ q h
  unfold M_reckonsIn_L19_b at h
  refine rn_sls 4 (pc' := 26) (ls' := [(0, (2, 1000)), (1, (0, v1)), (2, (0, v2)), (3, (0, v3)), (4, (0, v4))]) (st' := [(0, v2), (2, 1011), (0, v4)]) rfl ?_
  refine rn_iald (n := 120) rfl rfl rfl h (fun a1 h => ?_)
  refine rn_icmpn (t := 67) rfl rfl rfl rfl h (fun h => ?_) (fun h => ?_)
  · refine rn_sls 3 (pc' := 36) (ls' := [(0, (2, 1000)), (1, (0, v1)), (2, (0, v2)), (3, (0, v3)), (4, (0, v4))]) (st' := [(0, v4), (2, 1012)]) rfl ?_
    refine rn_iald (n := 2000) rfl rfl rfl h (fun a2 h => ?_)
    refine rn_sls 2 (pc' := 40) (ls' := [(0, (2, 1000)), (1, (0, v1)), (2, (0, v2)), (3, (0, v3)), (4, (0, v4))]) (st' := [(0, 10), (0, 1), (0, a2)]) rfl ?_
    refine rn_call 2 0 [(0, a2), (0, 1), (0, 10)] (r := []) rfl ⟨rfl, Or.inr ⟨_, rfl, by decide⟩⟩ (by decide) (fun z => absurd z (by decide)) rfl rfl (Nat.le_of_ble_eq_true rfl) h (fun w hw => t_M_within (d + 3) _ _ _ _ _ hw) (fun a3 μ4 h => ?_)
    refine rn_sls 0 (pc' := 43) (ls' := [(0, (2, 1000)), (1, (0, v1)), (2, (0, v2)), (3, (0, v3)), (4, (0, v4))]) (st' := [(0, a3)]) rfl ?_
    refine rn_if (t := 61) rfl rfl rfl rfl h (fun h => ?_) (fun h => ?_)
    · exact rn_sub [0, 1, 2, 3, 4] rfl (t_M_reckonsIn_B61 d k19 hk19 _ _ _ _ _ _ h)
    · refine rn_sls 5 (pc' := 54) (ls' := [(0, (2, 1000)), (1, (0, v1)), (2, (0, v2)), (3, (0, v3)), (4, (0, v4))]) (st' := [(0, v4), (2, 1012), (0, v1), (2, 1000)]) rfl ?_
      refine rn_iald (n := 2000) rfl rfl rfl h (fun a5 h => ?_)
      refine rn_sls 2 (pc' := 57) (ls' := [(0, (2, 1000)), (1, (0, v1)), (2, (0, v2)), (3, (0, v3)), (4, (0, v4))]) (st' := [(0, (w32 (a5 - 1))), (0, v1), (2, 1000)]) rfl ?_
      refine rn_call 0 0 [(2, 1000), (0, v1), (0, (w32 (a5 - 1)))] (r := []) rfl ⟨rfl, Or.inl ⟨_, rfl, by decide⟩⟩ (by decide) (fun _ => ⟨_, rfl, rfl⟩) rfl rfl (Nat.le_of_ble_eq_true rfl) h (fun w hw => t_M_burnsIn (d + 3) _ _ _ _ hw) (fun a6 μ7 h => ?_)
      refine rn_sls 0 (pc' := 60) (ls' := [(0, (2, 1000)), (1, (0, v1)), (2, (0, v2)), (3, (0, v3)), (4, (0, v4))]) (st' := [(0, a6)]) rfl ?_
      refine rn_sls 1 (pc' := 61) (ls' := [(0, (2, 1000)), (1, (0, v1)), (2, (0, v2)), (3, (0, v3)), (4, (0, v4))]) (st' := []) rfl ?_
      exact rn_sub [0, 1, 2, 3, 4] rfl (t_M_reckonsIn_B61 d k19 hk19 _ _ _ _ _ _ h)
  · refine rn_sls 1 (pc' := 68) (ls' := [(0, (2, 1000)), (1, (0, v1)), (2, (0, v2)), (3, (0, v3)), (4, (0, v4))]) (st' := [(0, v3)]) rfl ?_
    exact rn_ireti rfl rfl rfl h rfl
set_option maxRecDepth 20000 in
theorem t_M_reckonsIn_L19 (d : Nat) : ∀ (n : Nat) (v1 : Int) (v2 : Int) (v3 : Int) (v4 : Int) (μ : am_M) q, M_reckonsIn_L19 n v1 v2 v3 v4 μ = some q → am_run none (am_ar g_mt (d + 4)) 5 (some .int) k_M_reckonsIn 19 [(0, (2, 1000)), (1, (0, v1)), (2, (0, v2)), (3, (0, v3)), (4, (0, v4))] [] μ (am_res 0 q) := by
  intro n
  induction n with
  | zero => intro v1 v2 v3 v4 μ q h; cases h
  | succ n ih => intro v1 v2 v3 v4 μ q h; exact t_M_reckonsIn_L19_b d (M_reckonsIn_L19 n) ih v1 v2 v3 v4 μ q h
set_option maxRecDepth 20000 in
theorem t_M_reckonsIn (d : Nat) : ∀ (v1 : Int) (v2 : Int) (μ : am_M) q, M_reckonsIn v1 v2 μ = some q → am_ar g_mt (d + 5) 206 [(2, 1000), (0, v1), (0, v2)] μ (am_res 0 q) := by
  intro v1 v2 μ q h
  unfold M_reckonsIn at h
  refine am_ar_of (d := d + 4) i_M_reckonsIn rfl rfl (Nat.le_of_ble_eq_true rfl) ?_
  show am_run none (am_ar g_mt (d + 4)) 5 (some .int) k_M_reckonsIn 0 [(0, (2, 1000)), (1, (0, v1)), (2, (0, v2))] [] μ (am_res 0 q)
  refine rn_sls 6 (pc' := 7) (ls' := [(0, (2, 1000)), (1, (0, v1)), (2, (0, v2))]) (st' := [(0, 0), (0, (w32 (10 * v1))), (0, v2), (2, 1000)]) rfl ?_
  refine rn_call 0 0 [(2, 1000), (0, v2), (0, (w32 (10 * v1))), (0, 0)] (r := []) rfl ⟨rfl, Or.inl ⟨_, rfl, by decide⟩⟩ (by decide) (fun _ => ⟨_, rfl, rfl⟩) rfl rfl (Nat.le_of_ble_eq_true rfl) h (fun w hw => t_M_reckons (d + 0) _ _ _ _ _ hw) (fun a1 μ2 h => ?_)
  refine rn_sls 0 (pc' := 10) (ls' := [(0, (2, 1000)), (1, (0, v1)), (2, (0, v2))]) (st' := [(0, a1)]) rfl ?_
  refine rn_sls 4 (pc' := 16) (ls' := [(3, (0, a1)), (0, (2, 1000)), (1, (0, v1)), (2, (0, v2))]) (st' := [(0, v2), (2, 1010)]) rfl ?_
  refine rn_iald (n := 120) rfl rfl rfl h (fun a3 h => ?_)
  refine rn_sls 1 (pc' := 19) (ls' := [(4, (0, a3)), (3, (0, a1)), (0, (2, 1000)), (1, (0, v1)), (2, (0, v2))]) (st' := []) rfl ?_
  exact rn_sub [2, 3, 4, 1, 0] rfl (t_M_reckonsIn_L19 d  am_FU _ _ _ _ _ _ h)
set_option maxRecDepth 20000 in
theorem t_M_clears_B37 (d : Nat) (k2 : Int → Int → Int → am_M → am_O) (hk2 : ∀ (v1 : Int) (v2 : Int) (v3 : Int) (μ : am_M) q, k2 v1 v2 v3 μ = some q → am_run none (am_ar g_mt (d + 1)) 4 none k_M_clears 2 [(0, (2, 1000)), (1, (0, v1)), (2, (0, v2)), (3, (0, v3))] [] μ (am_res 2 q)) : ∀ (v1 : Int) (v2 : Int) (v3 : Int) (μ : am_M) q, M_clears_B37 k2 v1 v2 v3 μ = some q → am_run none (am_ar g_mt (d + 1)) 4 none k_M_clears 37 [(0, (2, 1000)), (1, (0, v1)), (2, (0, v2)), (3, (0, v3))] [] μ (am_res 2 q) := by
  intro v1 v2 v3 μ q h
  unfold M_clears_B37 at h
  refine rn_sls 1 (pc' := 40) (ls' := [(3, (0, (w32 (v3 + 1)))), (0, (2, 1000)), (1, (0, v1)), (2, (0, v2))]) (st' := []) rfl ?_
  refine rn_goto (t := 2) rfl rfl rfl ?_
  exact rn_sub [1, 2, 3, 0] rfl (hk2 _ _ _ _ _ h)
set_option maxRecDepth 20000 in
theorem t_M_clears_L2_b (d : Nat) (k2 : Int → Int → Int → am_M → am_O) (hk2 : ∀ (v1 : Int) (v2 : Int) (v3 : Int) (μ : am_M) q, k2 v1 v2 v3 μ = some q → am_run none (am_ar g_mt (d + 1)) 4 none k_M_clears 2 [(0, (2, 1000)), (1, (0, v1)), (2, (0, v2)), (3, (0, v3))] [] μ (am_res 2 q)) : ∀ (v1 : Int) (v2 : Int) (v3 : Int) (μ : am_M) q, M_clears_L2_b k2 v1 v2 v3 μ = some q → am_run none (am_ar g_mt (d + 1)) 4 none k_M_clears 2 [(0, (2, 1000)), (1, (0, v1)), (2, (0, v2)), (3, (0, v3))] [] μ (am_res 2 q) := by
  intro v1 v2 v3 μ q h
  unfold M_clears_L2_b at h
  refine rn_sls 2 (pc' := 5) (ls' := [(0, (2, 1000)), (1, (0, v1)), (2, (0, v2)), (3, (0, v3))]) (st' := [(0, 10), (0, v3)]) rfl ?_
  refine rn_icmpn (t := 43) rfl rfl rfl rfl h (fun h => ?_) (fun h => ?_)
  · refine rn_sls 3 (pc' := 13) (ls' := [(0, (2, 1000)), (1, (0, v1)), (2, (0, v2)), (3, (0, v3))]) (st' := [(0, v1), (2, 1045)]) rfl ?_
    refine rn_iald (n := 16) rfl rfl rfl h (fun a1 h => ?_)
    refine rn_sls 5 (pc' := 19) (ls' := [(0, (2, 1000)), (1, (0, v1)), (2, (0, v2)), (3, (0, v3))]) (st' := [(0, 1), (0, (aAnd (aShr a1 v3) 1))]) rfl ?_
    refine rn_icmpn (t := 37) rfl rfl rfl rfl h (fun h => ?_) (fun h => ?_)
    · refine rn_sls 5 (pc' := 27) (ls' := [(0, (2, 1000)), (1, (0, v1)), (2, (0, v2)), (3, (0, v3))]) (st' := [(0, (aAnd (aShr v2 v3) 1))]) rfl ?_
      refine rn_ifn (t := 37) rfl rfl rfl rfl h (fun h => ?_) (fun h => ?_)
      · refine rn_sls 3 (pc' := 33) (ls' := [(0, (2, 1000)), (1, (0, v1)), (2, (0, v2)), (3, (0, v3))]) (st' := [(0, v3), (0, v1), (2, 1000)]) rfl ?_
        refine rn_call 0 0 [(2, 1000), (0, v1), (0, v3)] (r := []) rfl ⟨rfl, Or.inl ⟨_, rfl, by decide⟩⟩ (by decide) (fun _ => ⟨_, rfl, rfl⟩) rfl rfl (Nat.le_of_ble_eq_true rfl) h (fun w hw => t_M_burnsIn (d + 0) _ _ _ _ hw) (fun a2 μ3 h => ?_)
        refine rn_sls 0 (pc' := 36) (ls' := [(0, (2, 1000)), (1, (0, v1)), (2, (0, v2)), (3, (0, v3))]) (st' := [(0, a2)]) rfl ?_
        refine rn_sls 1 (pc' := 37) (ls' := [(0, (2, 1000)), (1, (0, v1)), (2, (0, v2)), (3, (0, v3))]) (st' := []) rfl ?_
        exact rn_sub [0, 1, 2, 3] rfl (t_M_clears_B37 d k2 hk2 _ _ _ _ _ h)
      · exact rn_sub [0, 1, 2, 3] rfl (t_M_clears_B37 d k2 hk2 _ _ _ _ _ h)
    · exact rn_sub [0, 1, 2, 3] rfl (t_M_clears_B37 d k2 hk2 _ _ _ _ _ h)
  · exact rn_ret (v := 0) rfl rfl rfl h rfl
set_option maxRecDepth 20000 in
theorem t_M_clears_L2 (d : Nat) : ∀ (n : Nat) (v1 : Int) (v2 : Int) (v3 : Int) (μ : am_M) q, M_clears_L2 n v1 v2 v3 μ = some q → am_run none (am_ar g_mt (d + 1)) 4 none k_M_clears 2 [(0, (2, 1000)), (1, (0, v1)), (2, (0, v2)), (3, (0, v3))] [] μ (am_res 2 q) := by
  intro n
  induction n with
  | zero => intro v1 v2 v3 μ q h; cases h
  | succ n ih => intro v1 v2 v3 μ q h; exact t_M_clears_L2_b d (M_clears_L2 n) ih v1 v2 v3 μ q h
set_option maxRecDepth 20000 in
theorem t_M_clears (d : Nat) : ∀ (v1 : Int) (v2 : Int) (μ : am_M) q, M_clears v1 v2 μ = some q → am_ar g_mt (d + 2) 207 [(2, 1000), (0, v1), (0, v2)] μ (am_res 2 q) := by
  intro v1 v2 μ q h
  unfold M_clears at h
  refine am_ar_of (d := d + 1) i_M_clears rfl rfl (Nat.le_of_ble_eq_true rfl) ?_
  show am_run none (am_ar g_mt (d + 1)) 4 none k_M_clears 0 [(0, (2, 1000)), (1, (0, v1)), (2, (0, v2))] [] μ (am_res 2 q)
  refine rn_sls 2 (pc' := 2) (ls' := [(3, (0, 0)), (0, (2, 1000)), (1, (0, v1)), (2, (0, v2))]) (st' := []) rfl ?_
  exact rn_sub [1, 2, 3, 0] rfl (t_M_clears_L2 d  am_FU _ _ _ _ _ h)
set_option maxRecDepth 20000 in
theorem t_M_gives (d : Nat) : ∀ (v1 : Int) (v2 : Int) (μ : am_M) q, M_gives v1 v2 μ = some q → am_ar g_mt (d + 6) 208 [(2, 1000), (0, v1), (0, v2)] μ (am_res 2 q) := by
  intro v1 v2 μ q h
  unfold M_gives at h
  refine am_ar_of (d := d + 5) i_M_gives rfl rfl (Nat.le_of_ble_eq_true rfl) ?_
  show am_run none (am_ar g_mt (d + 5)) 5 none k_M_gives 0 [(0, (2, 1000)), (1, (0, v1)), (2, (0, v2))] [] μ (am_res 2 q)
  refine rn_sls 3 (pc' := 3) (ls' := [(0, (2, 1000)), (1, (0, v1)), (2, (0, v2))]) (st' := [(0, v2), (0, v1), (2, 1000)]) rfl ?_
  refine rn_call 0 0 [(2, 1000), (0, v1), (0, v2)] (r := []) rfl ⟨rfl, Or.inl ⟨_, rfl, by decide⟩⟩ (by decide) (fun _ => ⟨_, rfl, rfl⟩) rfl rfl (Nat.le_of_ble_eq_true rfl) h (fun w hw => t_M_reckonsIn (d + 0) _ _ _ _ hw) (fun a1 μ2 h => ?_)
  refine rn_sls 0 (pc' := 6) (ls' := [(0, (2, 1000)), (1, (0, v1)), (2, (0, v2))]) (st' := [(0, a1)]) rfl ?_
  refine rn_sls 4 (pc' := 10) (ls' := [(3, (0, a1)), (0, (2, 1000)), (1, (0, v1)), (2, (0, v2))]) (st' := [(0, 0), (0, v1), (2, 1000)]) rfl ?_
  refine rn_call 0 2 [(2, 1000), (0, v1), (0, 0)] (r := []) rfl ⟨rfl, Or.inl ⟨_, rfl, by decide⟩⟩ (by decide) (fun _ => ⟨_, rfl, rfl⟩) rfl rfl (Nat.le_of_ble_eq_true rfl) h (fun w hw => t_M_clears (d + 3) _ _ _ _ hw) (fun a3 μ4 h => ?_)
  refine rn_sls 0 (pc' := 13) (ls' := [(3, (0, a1)), (0, (2, 1000)), (1, (0, v1)), (2, (0, v2))]) (st' := []) rfl ?_
  refine rn_sls 5 (pc' := 20) (ls' := [(3, (0, a1)), (0, (2, 1000)), (1, (0, v1)), (2, (0, v2))]) (st' := [(0, (w32 ((μ4 1000 58) - 1))), (2, 1000)]) rfl ?_
  refine rn_put rfl rfl rfl rfl (Or.inl ⟨rfl, rfl⟩) rfl h (fun μ5 h => ?_)
  refine rn_sls 2 (pc' := 27) (ls' := [(3, (0, a1)), (0, (2, 1000)), (1, (0, v1)), (2, (0, v2))]) (st' := [(0, (μ5 1000 58))]) rfl ?_
  refine rn_ifn (t := 41) rfl rfl rfl rfl h (fun h => ?_) (fun h => ?_)
  · refine rn_sls 2 (pc' := 32) (ls' := [(3, (0, a1)), (0, (2, 1000)), (1, (0, v1)), (2, (0, v2))]) (st' := [(0, a1), (2, 1000)]) rfl ?_
    refine rn_put rfl rfl rfl rfl (Or.inl ⟨rfl, rfl⟩) rfl h (fun μ10 h => ?_)
    refine rn_sls 2 (pc' := 37) (ls' := [(3, (0, a1)), (0, (2, 1000)), (1, (0, v1)), (2, (0, v2))]) (st' := [(0, 2), (2, 1000)]) rfl ?_
    refine rn_put rfl rfl rfl rfl (Or.inl ⟨rfl, rfl⟩) rfl h (fun μ11 h => ?_)
    exact rn_ret (v := 0) rfl rfl rfl h rfl
  · refine rn_sls 5 (pc' := 48) (ls' := [(3, (0, a1)), (0, (2, 1000)), (1, (0, v1)), (2, (0, v2))]) (st' := [(0, (w32 (v1 - 1))), (2, 1044)]) rfl ?_
    refine rn_iald (n := 16) rfl rfl rfl h (fun a6 h => ?_)
    refine rn_sls 10 (pc' := 63) (ls' := [(4, (0, (w32 (a6 - 1)))), (3, (0, a1)), (0, (2, 1000)), (1, (0, v1)), (2, (0, v2))]) (st' := [(0, (w32 (a6 - 1))), (2, 1003), (0, (w32 (v1 - 1))), (2, 1000)]) rfl ?_
    refine rn_iald (n := 120) rfl rfl rfl h (fun a7 h => ?_)
    refine rn_sls 1 (pc' := 65) (ls' := [(4, (0, (w32 (a6 - 1)))), (3, (0, a1)), (0, (2, 1000)), (1, (0, v1)), (2, (0, v2))]) (st' := [(0, a1), (0, a7), (0, (w32 (v1 - 1))), (2, 1000)]) rfl ?_
    refine rn_call 0 2 [(2, 1000), (0, (w32 (v1 - 1))), (0, a7), (0, a1)] (r := []) rfl ⟨rfl, Or.inl ⟨_, rfl, by decide⟩⟩ (by decide) (fun _ => ⟨_, rfl, rfl⟩) rfl rfl (Nat.le_of_ble_eq_true rfl) h (fun w hw => t_M_laysIn (d + 4) _ _ _ _ _ hw) (fun a8 μ9 h => ?_)
    refine rn_sls 0 (pc' := 68) (ls' := [(4, (0, (w32 (a6 - 1)))), (3, (0, a1)), (0, (2, 1000)), (1, (0, v1)), (2, (0, v2))]) (st' := []) rfl ?_
    exact rn_ret (v := 0) rfl rfl rfl h rfl
set_option maxRecDepth 20000 in
theorem t_M_calls_L2_b (d : Nat) (k2 : Int → Int → Int → am_M → am_O) (hk2 : ∀ (v1 : Int) (v2 : Int) (v3 : Int) (μ : am_M) q, k2 v1 v2 v3 μ = some q → am_run none (am_ar g_mt (d + 2)) 4 none k_M_calls 2 [(0, (2, 1000)), (1, (0, v1)), (2, (0, v2)), (3, (0, v3))] [] μ (am_res 2 q)) : ∀ (v1 : Int) (v2 : Int) (v3 : Int) (μ : am_M) q, M_calls_L2_b k2 v1 v2 v3 μ = some q → am_run none (am_ar g_mt (d + 2)) 4 none k_M_calls 2 [(0, (2, 1000)), (1, (0, v1)), (2, (0, v2)), (3, (0, v3))] [] μ (am_res 2 q) := by
  intro v1 v2 v3 μ q h
  unfold M_calls_L2_b at h
  refine rn_sls 6 (pc' := 12) (ls' := [(0, (2, 1000)), (1, (0, v1)), (2, (0, v2)), (3, (0, v3))]) (st' := [(0, v2), (2, 1006), (2, 1019), (0, v3)]) rfl ?_
  refine rn_iald (n := 120) rfl rfl rfl h (fun a1 h => ?_)
  refine rn_iald (n := 8) rfl rfl rfl h (fun a2 h => ?_)
  refine rn_icmpn (t := 44) rfl rfl rfl rfl h (fun h => ?_) (fun h => ?_)
  · refine rn_sls 12 (pc' := 33) (ls' := [(0, (2, 1000)), (1, (0, v1)), (2, (0, v2)), (3, (0, v3))]) (st' := [(0, (w32 ((w32 (4 * v2)) + v3))), (2, 1007), (0, v1), (2, 1000), (0, v3), (2, 1047)]) rfl ?_
    refine rn_iald (n := 480) rfl rfl rfl h (fun a6 h => ?_)
    refine rn_call 0 0 [(2, 1000), (0, v1), (0, a6)] (r := [(0, v3), (2, 1047)]) rfl ⟨rfl, Or.inl ⟨_, rfl, by decide⟩⟩ (by decide) (fun _ => ⟨_, rfl, rfl⟩) rfl rfl (Nat.le_of_ble_eq_true rfl) h (fun w hw => t_M_burnsIn (d + 1) _ _ _ _ hw) (fun a7 μ8 h => ?_)
    refine rn_sls 0 (pc' := 37) (ls' := [(0, (2, 1000)), (1, (0, v1)), (2, (0, v2)), (3, (0, v3))]) (st' := [(0, a7), (0, v3), (2, 1047)]) rfl ?_
    refine rn_iast (n := 4) rfl rfl rfl h (fun μ9 h => ?_)
    refine rn_sls 1 (pc' := 41) (ls' := [(3, (0, (w32 (v3 + 1)))), (0, (2, 1000)), (1, (0, v1)), (2, (0, v2))]) (st' := []) rfl ?_
    refine rn_goto (t := 2) rfl rfl rfl ?_
    exact rn_sub [1, 2, 3, 0] rfl (hk2 _ _ _ _ _ h)
  · refine rn_sls 4 (pc' := 50) (ls' := [(0, (2, 1000)), (1, (0, v1)), (2, (0, v2)), (3, (0, v3))]) (st' := [(0, v2), (2, 1006), (2, 1000)]) rfl ?_
    refine rn_iald (n := 120) rfl rfl rfl h (fun a3 h => ?_)
    refine rn_call 0 2 [(2, 1000), (0, a3)] (r := []) rfl ⟨rfl, Or.inl ⟨_, rfl, by decide⟩⟩ (by decide) (fun _ => ⟨_, rfl, rfl⟩) rfl rfl (Nat.le_of_ble_eq_true rfl) h (fun w hw => t_M_opensBill (d + 0) _ _ _ hw) (fun a4 μ5 h => ?_)
    refine rn_sls 0 (pc' := 54) (ls' := [(0, (2, 1000)), (1, (0, v1)), (2, (0, v2)), (3, (0, v3))]) (st' := []) rfl ?_
    exact rn_ret (v := 0) rfl rfl rfl h rfl
set_option maxRecDepth 20000 in
theorem t_M_calls_L2 (d : Nat) : ∀ (n : Nat) (v1 : Int) (v2 : Int) (v3 : Int) (μ : am_M) q, M_calls_L2 n v1 v2 v3 μ = some q → am_run none (am_ar g_mt (d + 2)) 4 none k_M_calls 2 [(0, (2, 1000)), (1, (0, v1)), (2, (0, v2)), (3, (0, v3))] [] μ (am_res 2 q) := by
  intro n
  induction n with
  | zero => intro v1 v2 v3 μ q h; cases h
  | succ n ih => intro v1 v2 v3 μ q h; exact t_M_calls_L2_b d (M_calls_L2 n) ih v1 v2 v3 μ q h
set_option maxRecDepth 20000 in
theorem t_M_calls (d : Nat) : ∀ (v1 : Int) (v2 : Int) (μ : am_M) q, M_calls v1 v2 μ = some q → am_ar g_mt (d + 3) 209 [(2, 1000), (0, v1), (0, v2)] μ (am_res 2 q) := by
  intro v1 v2 μ q h
  unfold M_calls at h
  refine am_ar_of (d := d + 2) i_M_calls rfl rfl (Nat.le_of_ble_eq_true rfl) ?_
  show am_run none (am_ar g_mt (d + 2)) 4 none k_M_calls 0 [(0, (2, 1000)), (1, (0, v1)), (2, (0, v2))] [] μ (am_res 2 q)
  refine rn_sls 2 (pc' := 2) (ls' := [(3, (0, 0)), (0, (2, 1000)), (1, (0, v1)), (2, (0, v2))]) (st' := []) rfl ?_
  exact rn_sub [1, 2, 3, 0] rfl (t_M_calls_L2 d  am_FU _ _ _ _ _ h)
set_option maxRecDepth 20000 in
theorem t_M_works_B296 (d : Nat) : ∀  (μ : am_M) q, M_works_B296  μ = some q → am_run none (am_ar g_mt (d + 6)) 4 none k_M_works 296 [(0, (2, 1000))] [] μ (am_res 2 q) := by
  intro  μ q h
  unfold M_works_B296 at h
  refine rn_sls 1 (pc' := 297) (ls' := [(0, (2, 1000))]) (st' := [(2, 1000)]) rfl ?_
  refine rn_call 0 2 [(2, 1000)] (r := []) rfl ⟨rfl, Or.inl ⟨_, rfl, by decide⟩⟩ (by decide) (fun _ => ⟨_, rfl, rfl⟩) rfl rfl (Nat.le_of_ble_eq_true rfl) h (fun w hw => t_M_looks (d + 3)  _ _ hw) (fun a1 μ2 h => ?_)
  refine rn_sls 0 (pc' := 300) (ls' := [(0, (2, 1000))]) (st' := []) rfl ?_
  exact rn_ret (v := 0) rfl rfl rfl h rfl
set_option maxRecDepth 20000 in
theorem t_M_works_B275 (d : Nat) : ∀ (v1 : Int) (s0 : Int) (μ : am_M) q, M_works_B275 v1 s0 μ = some q → am_run none (am_ar g_mt (d + 6)) 4 none k_M_works 275 [(0, (2, 1000)), (1, (0, v1))] [(0, s0)] μ (am_res 2 q) := by
  intro v1 s0 μ q h
  unfold M_works_B275 at h
  refine rn_sls 6 (pc' := 283) (ls' := [(3, (0, s0)), (0, (2, 1000)), (1, (0, v1))]) (st' := [(0, s0), (2, 1042), (0, v1), (2, 1000)]) rfl ?_
  refine rn_iald (n := 60) rfl rfl rfl h (fun a1 h => ?_)
  refine rn_call 0 2 [(2, 1000), (0, v1), (0, a1)] (r := []) rfl ⟨rfl, Or.inl ⟨_, rfl, by decide⟩⟩ (by decide) (fun _ => ⟨_, rfl, rfl⟩) rfl rfl (Nat.le_of_ble_eq_true rfl) h (fun w hw => t_M_clears (d + 4) _ _ _ _ hw) (fun a2 μ3 h => ?_)
  refine rn_sls 0 (pc' := 287) (ls' := [(3, (0, s0)), (0, (2, 1000)), (1, (0, v1))]) (st' := []) rfl ?_
  refine rn_sls 6 (pc' := 295) (ls' := [(3, (0, s0)), (0, (2, 1000)), (1, (0, v1))]) (st' := [(0, (w32 (s0 + 1))), (0, v1), (2, 1044)]) rfl ?_
  refine rn_iast (n := 16) rfl rfl rfl h (fun μ4 h => ?_)
  exact rn_sub [1] rfl (t_M_works_B296 d  _ _ h)
set_option maxRecDepth 20000 in
theorem t_M_works_B39 (d : Nat) : ∀ (v1 : Int) (v2 : Int) (μ : am_M) q, M_works_B39 v1 v2 μ = some q → am_run none (am_ar g_mt (d + 6)) 4 none k_M_works 39 [(0, (2, 1000)), (1, (0, v1)), (2, (0, v2))] [] μ (am_res 2 q) := by
  intro v1 v2 μ q h
  unfold M_works_B39 at h
  refine rn_sls 5 (pc' := 46) (ls' := [(0, (2, 1000)), (1, (0, v1)), (2, (0, v2))]) (st' := [(0, (w32 ((μ 1000 66) + 1))), (2, 1000)]) rfl ?_
  refine rn_put rfl rfl rfl rfl (Or.inl ⟨rfl, rfl⟩) rfl h (fun μ1 h => ?_)
  refine rn_sls 6 (pc' := 57) (ls' := [(0, (2, 1000)), (1, (0, v1)), (2, (0, v2))]) (st' := [(0, (w32 (v2 + 1))), (0, v1), (2, 1044)]) rfl ?_
  refine rn_iast (n := 16) rfl rfl rfl h (fun μ2 h => ?_)
  refine rn_sls 3 (pc' := 63) (ls' := [(0, (2, 1000)), (1, (0, v1)), (2, (0, v2))]) (st' := [(0, v2), (2, 1002)]) rfl ?_
  refine rn_iald (n := 120) rfl rfl rfl h (fun a3 h => ?_)
  refine rn_sls 1 (pc' := 65) (ls' := [(0, (2, 1000)), (1, (0, v1)), (2, (0, v2))]) (st' := [(0, 1), (0, a3)]) rfl ?_
  refine rn_icmpn (t := 88) rfl rfl rfl rfl h (fun h => ?_) (fun h => ?_)
  · refine rn_sls 5 (pc' := 75) (ls' := [(0, (2, 1000)), (1, (0, v1)), (2, (0, v2))]) (st' := [(0, v2), (2, 1003), (0, v1), (2, 1000)]) rfl ?_
    refine rn_iald (n := 120) rfl rfl rfl h (fun a32 h => ?_)
    refine rn_sls 3 (pc' := 79) (ls' := [(0, (2, 1000)), (1, (0, v1)), (2, (0, v2))]) (st' := [(0, v2), (0, v1), (2, 1000), (0, a32), (0, v1), (2, 1000)]) rfl ?_
    refine rn_call 0 0 [(2, 1000), (0, v1), (0, v2)] (r := [(0, a32), (0, v1), (2, 1000)]) rfl ⟨rfl, Or.inl ⟨_, rfl, by decide⟩⟩ (by decide) (fun _ => ⟨_, rfl, rfl⟩) rfl rfl (Nat.le_of_ble_eq_true rfl) h (fun w hw => t_M_reckonsIn (d + 1) _ _ _ _ hw) (fun a33 μ34 h => ?_)
    refine rn_sls 0 (pc' := 82) (ls' := [(0, (2, 1000)), (1, (0, v1)), (2, (0, v2))]) (st' := [(0, a33), (0, a32), (0, v1), (2, 1000)]) rfl ?_
    refine rn_call 0 2 [(2, 1000), (0, v1), (0, a32), (0, a33)] (r := []) rfl ⟨rfl, Or.inl ⟨_, rfl, by decide⟩⟩ (by decide) (fun _ => ⟨_, rfl, rfl⟩) rfl rfl (Nat.le_of_ble_eq_true rfl) h (fun w hw => t_M_laysIn (d + 5) _ _ _ _ _ hw) (fun a35 μ36 h => ?_)
    refine rn_sls 0 (pc' := 85) (ls' := [(0, (2, 1000)), (1, (0, v1)), (2, (0, v2))]) (st' := []) rfl ?_
    refine rn_goto (t := 296) rfl rfl rfl ?_
    exact rn_sub [0] rfl (t_M_works_B296 d  _ _ h)
  · refine rn_sls 3 (pc' := 93) (ls' := [(0, (2, 1000)), (1, (0, v1)), (2, (0, v2))]) (st' := [(0, v2), (2, 1002)]) rfl ?_
    refine rn_iald (n := 120) rfl rfl rfl h (fun a4 h => ?_)
    refine rn_sls 1 (pc' := 95) (ls' := [(0, (2, 1000)), (1, (0, v1)), (2, (0, v2))]) (st' := [(0, 2), (0, a4)]) rfl ?_
    refine rn_icmpn (t := 152) rfl rfl rfl rfl h (fun h => ?_) (fun h => ?_)
    · refine rn_sls 7 (pc' := 107) (ls' := [(0, (2, 1000)), (1, (0, v1)), (2, (0, v2))]) (st' := [(0, (w32 (4 * v2))), (2, 1007), (0, v1), (2, 1000)]) rfl ?_
      refine rn_iald (n := 480) rfl rfl rfl h (fun a22 h => ?_)
      refine rn_call 0 0 [(2, 1000), (0, v1), (0, a22)] (r := []) rfl ⟨rfl, Or.inl ⟨_, rfl, by decide⟩⟩ (by decide) (fun _ => ⟨_, rfl, rfl⟩) rfl rfl (Nat.le_of_ble_eq_true rfl) h (fun w hw => t_M_burnsIn (d + 5) _ _ _ _ hw) (fun a23 μ24 h => ?_)
      refine rn_sls 0 (pc' := 111) (ls' := [(0, (2, 1000)), (1, (0, v1)), (2, (0, v2))]) (st' := [(0, a23)]) rfl ?_
      refine rn_sls 6 (pc' := 119) (ls' := [(3, (0, a23)), (0, (2, 1000)), (1, (0, v1)), (2, (0, v2))]) (st' := [(0, v2), (2, 1003), (0, v1), (2, 1000)]) rfl ?_
      refine rn_iald (n := 120) rfl rfl rfl h (fun a25 h => ?_)
      refine rn_sls 1 (pc' := 121) (ls' := [(3, (0, a23)), (0, (2, 1000)), (1, (0, v1)), (2, (0, v2))]) (st' := [(0, a23), (0, a25), (0, v1), (2, 1000)]) rfl ?_
      refine rn_call 0 2 [(2, 1000), (0, v1), (0, a25), (0, a23)] (r := []) rfl ⟨rfl, Or.inl ⟨_, rfl, by decide⟩⟩ (by decide) (fun _ => ⟨_, rfl, rfl⟩) rfl rfl (Nat.le_of_ble_eq_true rfl) h (fun w hw => t_M_laysIn (d + 5) _ _ _ _ _ hw) (fun a26 μ27 h => ?_)
      refine rn_sls 0 (pc' := 124) (ls' := [(3, (0, a23)), (0, (2, 1000)), (1, (0, v1)), (2, (0, v2))]) (st' := []) rfl ?_
      refine rn_sls 5 (pc' := 131) (ls' := [(3, (0, a23)), (0, (2, 1000)), (1, (0, v1)), (2, (0, v2))]) (st' := [(0, v2), (2, 1004), (0, v1), (2, 1000)]) rfl ?_
      refine rn_iald (n := 120) rfl rfl rfl h (fun a28 h => ?_)
      refine rn_sls 1 (pc' := 133) (ls' := [(3, (0, a23)), (0, (2, 1000)), (1, (0, v1)), (2, (0, v2))]) (st' := [(0, a23), (0, a28), (0, v1), (2, 1000)]) rfl ?_
      refine rn_call 0 2 [(2, 1000), (0, v1), (0, a28), (0, a23)] (r := []) rfl ⟨rfl, Or.inl ⟨_, rfl, by decide⟩⟩ (by decide) (fun _ => ⟨_, rfl, rfl⟩) rfl rfl (Nat.le_of_ble_eq_true rfl) h (fun w hw => t_M_laysIn (d + 5) _ _ _ _ _ hw) (fun a29 μ30 h => ?_)
      refine rn_sls 0 (pc' := 136) (ls' := [(3, (0, a23)), (0, (2, 1000)), (1, (0, v1)), (2, (0, v2))]) (st' := []) rfl ?_
      refine rn_sls 6 (pc' := 146) (ls' := [(3, (0, a23)), (0, (2, 1000)), (1, (0, v1)), (2, (0, v2))]) (st' := [(0, (w32 ((μ30 1000 65) + (μ30 1000 56)))), (2, 1000)]) rfl ?_
      refine rn_put rfl rfl rfl rfl (Or.inl ⟨rfl, rfl⟩) rfl h (fun μ31 h => ?_)
      refine rn_goto (t := 296) rfl rfl rfl ?_
      exact rn_sub [1] rfl (t_M_works_B296 d  _ _ h)
    · refine rn_sls 3 (pc' := 157) (ls' := [(0, (2, 1000)), (1, (0, v1)), (2, (0, v2))]) (st' := [(0, v2), (2, 1002)]) rfl ?_
      refine rn_iald (n := 120) rfl rfl rfl h (fun a5 h => ?_)
      refine rn_sls 1 (pc' := 159) (ls' := [(0, (2, 1000)), (1, (0, v1)), (2, (0, v2))]) (st' := [(0, 3), (0, a5)]) rfl ?_
      refine rn_icmpn (t := 179) rfl rfl rfl rfl h (fun h => ?_) (fun h => ?_)
      · refine rn_sls 7 (pc' := 171) (ls' := [(0, (2, 1000)), (1, (0, v1)), (2, (0, v2))]) (st' := [(0, (w32 (4 * v2))), (2, 1007), (0, v1), (2, 1000)]) rfl ?_
        refine rn_iald (n := 480) rfl rfl rfl h (fun a19 h => ?_)
        refine rn_call 0 0 [(2, 1000), (0, v1), (0, a19)] (r := []) rfl ⟨rfl, Or.inl ⟨_, rfl, by decide⟩⟩ (by decide) (fun _ => ⟨_, rfl, rfl⟩) rfl rfl (Nat.le_of_ble_eq_true rfl) h (fun w hw => t_M_burnsIn (d + 5) _ _ _ _ hw) (fun a20 μ21 h => ?_)
        refine rn_sls 0 (pc' := 175) (ls' := [(0, (2, 1000)), (1, (0, v1)), (2, (0, v2))]) (st' := [(0, a20)]) rfl ?_
        refine rn_sls 1 (pc' := 176) (ls' := [(0, (2, 1000)), (1, (0, v1)), (2, (0, v2))]) (st' := []) rfl ?_
        refine rn_goto (t := 296) rfl rfl rfl ?_
        exact rn_sub [0] rfl (t_M_works_B296 d  _ _ h)
      · refine rn_sls 3 (pc' := 184) (ls' := [(0, (2, 1000)), (1, (0, v1)), (2, (0, v2))]) (st' := [(0, v2), (2, 1002)]) rfl ?_
        refine rn_iald (n := 120) rfl rfl rfl h (fun a6 h => ?_)
        refine rn_sls 1 (pc' := 186) (ls' := [(0, (2, 1000)), (1, (0, v1)), (2, (0, v2))]) (st' := [(0, 4), (0, a6)]) rfl ?_
        refine rn_icmpn (t := 198) rfl rfl rfl rfl h (fun h => ?_) (fun h => ?_)
        · refine rn_sls 3 (pc' := 192) (ls' := [(0, (2, 1000)), (1, (0, v1)), (2, (0, v2))]) (st' := [(0, v2), (0, v1), (2, 1000)]) rfl ?_
          refine rn_call 0 2 [(2, 1000), (0, v1), (0, v2)] (r := []) rfl ⟨rfl, Or.inl ⟨_, rfl, by decide⟩⟩ (by decide) (fun _ => ⟨_, rfl, rfl⟩) rfl rfl (Nat.le_of_ble_eq_true rfl) h (fun w hw => t_M_calls (d + 3) _ _ _ _ hw) (fun a17 μ18 h => ?_)
          refine rn_sls 0 (pc' := 195) (ls' := [(0, (2, 1000)), (1, (0, v1)), (2, (0, v2))]) (st' := []) rfl ?_
          refine rn_goto (t := 296) rfl rfl rfl ?_
          exact rn_sub [0] rfl (t_M_works_B296 d  _ _ h)
        · refine rn_sls 3 (pc' := 203) (ls' := [(0, (2, 1000)), (1, (0, v1)), (2, (0, v2))]) (st' := [(0, v2), (2, 1002)]) rfl ?_
          refine rn_iald (n := 120) rfl rfl rfl h (fun a7 h => ?_)
          refine rn_sls 1 (pc' := 205) (ls' := [(0, (2, 1000)), (1, (0, v1)), (2, (0, v2))]) (st' := [(0, 5), (0, a7)]) rfl ?_
          refine rn_icmpn (t := 234) rfl rfl rfl rfl h (fun h => ?_) (fun h => ?_)
          · refine rn_sls 3 (pc' := 211) (ls' := [(0, (2, 1000)), (1, (0, v1)), (2, (0, v2))]) (st' := [(0, v2), (0, v1), (2, 1000)]) rfl ?_
            refine rn_call 0 0 [(2, 1000), (0, v1), (0, v2)] (r := []) rfl ⟨rfl, Or.inl ⟨_, rfl, by decide⟩⟩ (by decide) (fun _ => ⟨_, rfl, rfl⟩) rfl rfl (Nat.le_of_ble_eq_true rfl) h (fun w hw => t_M_reckonsIn (d + 1) _ _ _ _ hw) (fun a13 μ14 h => ?_)
            refine rn_sls 0 (pc' := 214) (ls' := [(0, (2, 1000)), (1, (0, v1)), (2, (0, v2))]) (st' := [(0, a13)]) rfl ?_
            refine rn_ifn (t := 296) rfl rfl rfl rfl h (fun h => ?_) (fun h => ?_)
            · refine rn_sls 6 (pc' := 227) (ls' := [(0, (2, 1000)), (1, (0, v1)), (2, (0, v2))]) (st' := [(0, v2), (2, 1008), (0, v1), (2, 1044)]) rfl ?_
              refine rn_iald (n := 120) rfl rfl rfl h (fun a15 h => ?_)
              refine rn_sls 2 (pc' := 230) (ls' := [(0, (2, 1000)), (1, (0, v1)), (2, (0, v2))]) (st' := [(0, (w32 (a15 + 1))), (0, v1), (2, 1044)]) rfl ?_
              refine rn_iast (n := 16) rfl rfl rfl h (fun μ16 h => ?_)
              refine rn_goto (t := 296) rfl rfl rfl ?_
              exact rn_sub [0] rfl (t_M_works_B296 d  _ _ h)
            · exact rn_sub [0] rfl (t_M_works_B296 d  _ _ h)
          · refine rn_sls 3 (pc' := 239) (ls' := [(0, (2, 1000)), (1, (0, v1)), (2, (0, v2))]) (st' := [(0, v2), (2, 1002)]) rfl ?_
            refine rn_iald (n := 120) rfl rfl rfl h (fun a8 h => ?_)
            refine rn_sls 1 (pc' := 242) (ls' := [(0, (2, 1000)), (1, (0, v1)), (2, (0, v2))]) (st' := [(0, 8), (0, a8)]) rfl ?_
            refine rn_icmpn (t := 254) rfl rfl rfl rfl h (fun h => ?_) (fun h => ?_)
            · refine rn_sls 3 (pc' := 248) (ls' := [(0, (2, 1000)), (1, (0, v1)), (2, (0, v2))]) (st' := [(0, v2), (0, v1), (2, 1000)]) rfl ?_
              refine rn_call 0 2 [(2, 1000), (0, v1), (0, v2)] (r := []) rfl ⟨rfl, Or.inl ⟨_, rfl, by decide⟩⟩ (by decide) (fun _ => ⟨_, rfl, rfl⟩) rfl rfl (Nat.le_of_ble_eq_true rfl) h (fun w hw => t_M_gives (d + 0) _ _ _ _ hw) (fun a11 μ12 h => ?_)
              refine rn_sls 0 (pc' := 251) (ls' := [(0, (2, 1000)), (1, (0, v1)), (2, (0, v2))]) (st' := []) rfl ?_
              refine rn_goto (t := 296) rfl rfl rfl ?_
              exact rn_sub [0] rfl (t_M_works_B296 d  _ _ h)
            · refine rn_sls 3 (pc' := 259) (ls' := [(0, (2, 1000)), (1, (0, v1)), (2, (0, v2))]) (st' := [(0, v2), (2, 1002)]) rfl ?_
              refine rn_iald (n := 120) rfl rfl rfl h (fun a9 h => ?_)
              refine rn_sls 1 (pc' := 262) (ls' := [(0, (2, 1000)), (1, (0, v1)), (2, (0, v2))]) (st' := [(0, 6), (0, a9)]) rfl ?_
              refine rn_icmpn (t := 274) rfl rfl rfl rfl h (fun h => ?_) (fun h => ?_)
              · refine rn_sls 3 (pc' := 270) (ls' := [(0, (2, 1000)), (1, (0, v1)), (2, (0, v2))]) (st' := [(0, v2), (2, 1009)]) rfl ?_
                refine rn_iald (n := 120) rfl rfl rfl h (fun a10 h => ?_)
                refine rn_goto (t := 275) rfl rfl rfl ?_
                exact rn_sub [0, 1] rfl (t_M_works_B275 d  _ _ _ _ h)
              · refine rn_sls 1 (pc' := 275) (ls' := [(0, (2, 1000)), (1, (0, v1)), (2, (0, v2))]) (st' := [(0, v2)]) rfl ?_
                exact rn_sub [0, 1] rfl (t_M_works_B275 d  _ _ _ _ h)
set_option maxRecDepth 20000 in
theorem t_M_works (d : Nat) : ∀  (μ : am_M) q, M_works  μ = some q → am_ar g_mt (d + 7) 210 [(2, 1000)] μ (am_res 2 q) := by
  intro  μ q h
  unfold M_works at h
  refine am_ar_of (d := d + 6) i_M_works rfl rfl (Nat.le_of_ble_eq_true rfl) ?_
  show am_run none (am_ar g_mt (d + 6)) 4 none k_M_works 0 [(0, (2, 1000))] [] μ (am_res 2 q)
  refine rn_sls 8 (pc' := 12) (ls' := [(1, (0, (w32 ((μ 1000 58) - 1)))), (0, (2, 1000))]) (st' := [(0, (w32 ((μ 1000 58) - 1))), (2, 1044)]) rfl ?_
  refine rn_iald (n := 16) rfl rfl rfl h (fun a1 h => ?_)
  refine rn_sls 4 (pc' := 19) (ls' := [(2, (0, a1)), (1, (0, (w32 ((μ 1000 58) - 1)))), (0, (2, 1000))]) (st' := [(0, a1), (2, 1002)]) rfl ?_
  refine rn_iald (n := 120) rfl rfl rfl h (fun a2 h => ?_)
  refine rn_sls 1 (pc' := 21) (ls' := [(2, (0, a1)), (1, (0, (w32 ((μ 1000 58) - 1)))), (0, (2, 1000))]) (st' := [(0, 4), (0, a2)]) rfl ?_
  refine rn_icmpn (t := 39) rfl rfl rfl rfl h (fun h => ?_) (fun h => ?_)
  · refine rn_sls 3 (pc' := 30) (ls' := [(2, (0, a1)), (1, (0, (w32 ((μ 1000 58) - 1)))), (0, (2, 1000))]) (st' := [(0, 16), (0, (μ 1000 58))]) rfl ?_
    refine rn_icmpn (t := 39) rfl rfl rfl rfl h (fun h => ?_) (fun h => ?_)
    · refine rn_sls 2 (pc' := 35) (ls' := [(2, (0, a1)), (1, (0, (w32 ((μ 1000 58) - 1)))), (0, (2, 1000))]) (st' := [(0, 4), (2, 1000)]) rfl ?_
      refine rn_put rfl rfl rfl rfl (Or.inl ⟨rfl, rfl⟩) rfl h (fun μ3 h => ?_)
      exact rn_ret (v := 0) rfl rfl rfl h rfl
    · exact rn_sub [2, 1, 0] rfl (t_M_works_B39 d  _ _ _ _ h)
  · exact rn_sub [2, 1, 0] rfl (t_M_works_B39 d  _ _ _ _ h)
set_option maxRecDepth 20000 in
theorem t_M_run_B48 (d : Nat) : ∀ (v2 : Int) (μ : am_M) q, M_run_B48 v2 μ = some q → am_run none (am_ar g_mt (d + 7)) 4 (some .int) k_M_run 48 [(0, (2, 1000)), (2, (0, v2))] [] μ (am_res 0 q) := by
  intro v2 μ q h
  unfold M_run_B48 at h
  refine rn_sls 2 (pc' := 52) (ls' := [(0, (2, 1000)), (2, (0, v2))]) (st' := [(0, (μ 1000 57))]) rfl ?_
  refine rn_ifn (t := 59) rfl rfl rfl rfl h (fun h => ?_) (fun h => ?_)
  · refine rn_sls 1 (pc' := 56) (ls' := [(0, (2, 1000)), (2, (0, v2))]) (st' := [(0, 0)]) rfl ?_
    refine rn_goto (t := 65) rfl rfl rfl ?_
    exact rn_ireti rfl rfl rfl h rfl
  · refine rn_sls 4 (pc' := 65) (ls' := [(0, (2, 1000)), (2, (0, v2))]) (st' := [(0, (w32 ((μ 1000 66) - v2)))]) rfl ?_
    exact rn_ireti rfl rfl rfl h rfl
set_option maxRecDepth 20000 in
theorem t_M_run_L25_b (d : Nat) (k25 : Int → Int → Int → am_M → am_O) (hk25 : ∀ (v1 : Int) (v2 : Int) (v3 : Int) (μ : am_M) q, k25 v1 v2 v3 μ = some q → am_run none (am_ar g_mt (d + 7)) 4 (some .int) k_M_run 25 [(0, (2, 1000)), (1, (0, v1)), (2, (0, v2)), (3, (0, v3))] [] μ (am_res 0 q)) : ∀ (v1 : Int) (v2 : Int) (v3 : Int) (μ : am_M) q, M_run_L25_b k25 v1 v2 v3 μ = some q → am_run none (am_ar g_mt (d + 7)) 4 (some .int) k_M_run 25 [(0, (2, 1000)), (1, (0, v1)), (2, (0, v2)), (3, (0, v3))] [] μ (am_res 0 q) := by
  intro v1 v2 v3 μ q h
  unfold M_run_L25_b at h
  refine rn_sls 2 (pc' := 27) (ls' := [(0, (2, 1000)), (1, (0, v1)), (2, (0, v2)), (3, (0, v3))]) (st' := [(0, v1), (0, v3)]) rfl ?_
  refine rn_icmpn (t := 48) rfl rfl rfl rfl h (fun h => ?_) (fun h => ?_)
  · refine rn_sls 3 (pc' := 35) (ls' := [(0, (2, 1000)), (1, (0, v1)), (2, (0, v2)), (3, (0, v3))]) (st' := [(0, 1), (0, (μ 1000 57))]) rfl ?_
    refine rn_icmpn (t := 48) rfl rfl rfl rfl h (fun h => ?_) (fun h => ?_)
    · refine rn_sls 1 (pc' := 39) (ls' := [(0, (2, 1000)), (1, (0, v1)), (2, (0, v2)), (3, (0, v3))]) (st' := [(2, 1000)]) rfl ?_
      refine rn_call 0 2 [(2, 1000)] (r := []) rfl ⟨rfl, Or.inl ⟨_, rfl, by decide⟩⟩ (by decide) (fun _ => ⟨_, rfl, rfl⟩) rfl rfl (Nat.le_of_ble_eq_true rfl) h (fun w hw => t_M_works (d + 0)  _ _ hw) (fun a1 μ2 h => ?_)
      refine rn_sls 0 (pc' := 42) (ls' := [(0, (2, 1000)), (1, (0, v1)), (2, (0, v2)), (3, (0, v3))]) (st' := []) rfl ?_
      refine rn_sls 1 (pc' := 45) (ls' := [(3, (0, (w32 (v3 + 1)))), (0, (2, 1000)), (1, (0, v1)), (2, (0, v2))]) (st' := []) rfl ?_
      refine rn_goto (t := 25) rfl rfl rfl ?_
      exact rn_sub [1, 2, 3, 0] rfl (hk25 _ _ _ _ _ h)
    · exact rn_sub [0, 2] rfl (t_M_run_B48 d  _ _ _ h)
  · exact rn_sub [0, 2] rfl (t_M_run_B48 d  _ _ _ h)
set_option maxRecDepth 20000 in
theorem t_M_run_L25 (d : Nat) : ∀ (n : Nat) (v1 : Int) (v2 : Int) (v3 : Int) (μ : am_M) q, M_run_L25 n v1 v2 v3 μ = some q → am_run none (am_ar g_mt (d + 7)) 4 (some .int) k_M_run 25 [(0, (2, 1000)), (1, (0, v1)), (2, (0, v2)), (3, (0, v3))] [] μ (am_res 0 q) := by
  intro n
  induction n with
  | zero => intro v1 v2 v3 μ q h; cases h
  | succ n ih => intro v1 v2 v3 μ q h; exact t_M_run_L25_b d (M_run_L25 n) ih v1 v2 v3 μ q h
set_option maxRecDepth 20000 in
theorem t_M_run (d : Nat) : ∀ (v1 : Int) (μ : am_M) q, M_run v1 μ = some q → am_ar g_mt (d + 8) 211 [(2, 1000), (0, v1)] μ (am_res 0 q) := by
  intro v1 μ q h
  unfold M_run at h
  refine am_ar_of (d := d + 7) i_M_run rfl rfl (Nat.le_of_ble_eq_true rfl) ?_
  show am_run none (am_ar g_mt (d + 7)) 4 (some .int) k_M_run 0 [(0, (2, 1000)), (1, (0, v1))] [] μ (am_res 0 q)
  refine rn_sls 2 (pc' := 2) (ls' := [(0, (2, 1000)), (1, (0, v1))]) (st' := [(0, 0), (2, 1000)]) rfl ?_
  refine rn_put rfl rfl rfl rfl (Or.inl ⟨rfl, rfl⟩) rfl h (fun μ1 h => ?_)
  refine rn_sls 3 (pc' := 10) (ls' := [(0, (2, 1000)), (1, (0, v1))]) (st' := [(0, 1000), (0, 0), (0, v1)]) rfl ?_
  refine rn_call 2 0 [(0, v1), (0, 0), (0, 1000)] (r := []) rfl ⟨rfl, Or.inr ⟨_, rfl, by decide⟩⟩ (by decide) (fun z => absurd z (by decide)) rfl rfl (Nat.le_of_ble_eq_true rfl) h (fun w hw => t_M_within (d + 6) _ _ _ _ _ hw) (fun a2 μ3 h => ?_)
  refine rn_sls 0 (pc' := 13) (ls' := [(0, (2, 1000)), (1, (0, v1))]) (st' := [(0, a2)]) rfl ?_
  refine rn_ifn (t := 18) rfl rfl rfl rfl h (fun h => ?_) (fun h => ?_)
  · refine rn_sls 1 (pc' := 17) (ls' := [(0, (2, 1000)), (1, (0, v1))]) (st' := [(0, (-1))]) rfl ?_
    exact rn_ireti rfl rfl rfl h rfl
  · refine rn_sls 5 (pc' := 25) (ls' := [(3, (0, 0)), (2, (0, (μ3 1000 66))), (0, (2, 1000)), (1, (0, v1))]) (st' := []) rfl ?_
    exact rn_sub [2, 3, 1, 0] rfl (t_M_run_L25 d  am_FU _ _ _ _ _ h)
set_option maxRecDepth 20000 in
theorem t_M_machine (d : Nat) : ∀ (v1 : Int) (μ : am_M) q, M_machine v1 μ = some q → am_ar g_mt (d + 3) 212 [(2, 1000), (0, v1)] μ (am_res 0 q) := by
  intro v1 μ q h
  unfold M_machine at h
  refine am_ar_of (d := d + 2) i_M_machine rfl rfl (Nat.le_of_ble_eq_true rfl) ?_
  show am_run none (am_ar g_mt (d + 2)) 2 (some .int) k_M_machine 0 [(0, (2, 1000)), (1, (0, v1))] [] μ (am_res 0 q)
  refine rn_sls 2 (pc' := 2) (ls' := [(0, (2, 1000)), (1, (0, v1))]) (st' := [(0, 0), (2, 1000)]) rfl ?_
  refine rn_put rfl rfl rfl rfl (Or.inl ⟨rfl, rfl⟩) rfl h (fun μ1 h => ?_)
  refine rn_sls 3 (pc' := 9) (ls' := [(0, (2, 1000)), (1, (0, v1))]) (st' := [(0, 7), (0, 0), (0, v1)]) rfl ?_
  refine rn_call 2 0 [(0, v1), (0, 0), (0, 7)] (r := []) rfl ⟨rfl, Or.inr ⟨_, rfl, by decide⟩⟩ (by decide) (fun z => absurd z (by decide)) rfl rfl (Nat.le_of_ble_eq_true rfl) h (fun w hw => t_M_within (d + 1) _ _ _ _ _ hw) (fun a2 μ3 h => ?_)
  refine rn_sls 0 (pc' := 12) (ls' := [(0, (2, 1000)), (1, (0, v1))]) (st' := [(0, a2)]) rfl ?_
  refine rn_ifn (t := 17) rfl rfl rfl rfl h (fun h => ?_) (fun h => ?_)
  · refine rn_sls 1 (pc' := 16) (ls' := [(0, (2, 1000)), (1, (0, v1))]) (st' := [(0, (-1))]) rfl ?_
    exact rn_ireti rfl rfl rfl h rfl
  · refine rn_sls 1 (pc' := 18) (ls' := [(0, (2, 1000)), (1, (0, v1))]) (st' := [(0, v1)]) rfl ?_
    refine rn_ifn (t := 26) rfl rfl rfl rfl h (fun h => ?_) (fun h => ?_)
    · refine rn_sls 2 (pc' := 25) (ls' := [(0, (2, 1000)), (1, (0, v1))]) (st' := [(0, (μ3 1000 57))]) rfl ?_
      exact rn_ireti rfl rfl rfl h rfl
    · refine rn_sls 2 (pc' := 28) (ls' := [(0, (2, 1000)), (1, (0, v1))]) (st' := [(0, 1), (0, v1)]) rfl ?_
      refine rn_icmpn (t := 55) rfl rfl rfl rfl h (fun h => ?_) (fun h => ?_)
      · refine rn_sls 3 (pc' := 36) (ls' := [(0, (2, 1000)), (1, (0, v1))]) (st' := [(0, 1), (0, (μ3 1000 57))]) rfl ?_
        refine rn_icmpn (t := 53) rfl rfl rfl rfl h (fun h => ?_) (fun h => ?_)
        · refine rn_sls 6 (pc' := 49) (ls' := [(0, (2, 1000)), (1, (0, v1))]) (st' := [(0, (w32 ((μ3 1000 58) - 1))), (2, 1044)]) rfl ?_
          refine rn_iald (n := 16) rfl rfl rfl h (fun a6 h => ?_)
          refine rn_goto (t := 54) rfl rfl rfl ?_
          exact rn_ireti rfl rfl rfl h rfl
        · refine rn_sls 1 (pc' := 54) (ls' := [(0, (2, 1000)), (1, (0, v1))]) (st' := [(0, (-1))]) rfl ?_
          exact rn_ireti rfl rfl rfl h rfl
      · refine rn_sls 2 (pc' := 59) (ls' := [(0, (2, 1000)), (1, (0, v1))]) (st' := [(0, (μ3 1000 57))]) rfl ?_
        refine rn_ifn (t := 64) rfl rfl rfl rfl h (fun h => ?_) (fun h => ?_)
        · refine rn_sls 1 (pc' := 63) (ls' := [(0, (2, 1000)), (1, (0, v1))]) (st' := [(0, 0)]) rfl ?_
          exact rn_ireti rfl rfl rfl h rfl
        · refine rn_sls 2 (pc' := 66) (ls' := [(0, (2, 1000)), (1, (0, v1))]) (st' := [(0, 2), (0, v1)]) rfl ?_
          refine rn_icmpn (t := 76) rfl rfl rfl rfl h (fun h => ?_) (fun h => ?_)
          · refine rn_sls 1 (pc' := 70) (ls' := [(0, (2, 1000)), (1, (0, v1))]) (st' := [(2, 1000)]) rfl ?_
            refine rn_call 0 0 [(2, 1000)] (r := []) rfl ⟨rfl, Or.inl ⟨_, rfl, by decide⟩⟩ (by decide) (fun _ => ⟨_, rfl, rfl⟩) rfl rfl (Nat.le_of_ble_eq_true rfl) h (fun w hw => t_M_onTable (d + 0)  _ _ hw) (fun a4 μ5 h => ?_)
            refine rn_sls 0 (pc' := 73) (ls' := [(0, (2, 1000)), (1, (0, v1))]) (st' := [(0, a4)]) rfl ?_
            refine rn_goto (t := 129) rfl rfl rfl ?_
            exact rn_ireti rfl rfl rfl h rfl
          · refine rn_sls 2 (pc' := 78) (ls' := [(0, (2, 1000)), (1, (0, v1))]) (st' := [(0, 3), (0, v1)]) rfl ?_
            refine rn_icmpn (t := 88) rfl rfl rfl rfl h (fun h => ?_) (fun h => ?_)
            · refine rn_sls 2 (pc' := 85) (ls' := [(0, (2, 1000)), (1, (0, v1))]) (st' := [(0, (μ3 1000 63))]) rfl ?_
              refine rn_goto (t := 129) rfl rfl rfl ?_
              exact rn_ireti rfl rfl rfl h rfl
            · refine rn_sls 2 (pc' := 90) (ls' := [(0, (2, 1000)), (1, (0, v1))]) (st' := [(0, 4), (0, v1)]) rfl ?_
              refine rn_icmpn (t := 100) rfl rfl rfl rfl h (fun h => ?_) (fun h => ?_)
              · refine rn_sls 2 (pc' := 97) (ls' := [(0, (2, 1000)), (1, (0, v1))]) (st' := [(0, (μ3 1000 64))]) rfl ?_
                refine rn_goto (t := 129) rfl rfl rfl ?_
                exact rn_ireti rfl rfl rfl h rfl
              · refine rn_sls 2 (pc' := 102) (ls' := [(0, (2, 1000)), (1, (0, v1))]) (st' := [(0, 5), (0, v1)]) rfl ?_
                refine rn_icmpn (t := 112) rfl rfl rfl rfl h (fun h => ?_) (fun h => ?_)
                · refine rn_sls 2 (pc' := 109) (ls' := [(0, (2, 1000)), (1, (0, v1))]) (st' := [(0, (μ3 1000 65))]) rfl ?_
                  refine rn_goto (t := 129) rfl rfl rfl ?_
                  exact rn_ireti rfl rfl rfl h rfl
                · refine rn_sls 2 (pc' := 115) (ls' := [(0, (2, 1000)), (1, (0, v1))]) (st' := [(0, 6), (0, v1)]) rfl ?_
                  refine rn_icmpn (t := 125) rfl rfl rfl rfl h (fun h => ?_) (fun h => ?_)
                  · refine rn_sls 2 (pc' := 122) (ls' := [(0, (2, 1000)), (1, (0, v1))]) (st' := [(0, (μ3 1000 66))]) rfl ?_
                    refine rn_goto (t := 129) rfl rfl rfl ?_
                    exact rn_ireti rfl rfl rfl h rfl
                  · refine rn_sls 2 (pc' := 129) (ls' := [(0, (2, 1000)), (1, (0, v1))]) (st' := [(0, (μ3 1000 58))]) rfl ?_
                    exact rn_ireti rfl rfl rfl h rfl
set_option maxRecDepth 20000 in
theorem t_M_given_B14 (d : Nat) : ∀ (s1 : Int) (μ : am_M) q, M_given_B14 s1 μ = some q → am_run none (am_ar g_mt (d + 0)) 1 (some .int) k_M_given 14 [(0, (2, 1000))] [(0, s1), (2, 1000)] μ (am_res 0 q) := by
  intro s1 μ q h
  unfold M_given_B14 at h
  refine rn_put rfl rfl rfl rfl (Or.inl ⟨rfl, rfl⟩) rfl h (fun μ1 h => ?_)
  refine rn_sls 3 (pc' := 22) (ls' := [(0, (2, 1000))]) (st' := [(0, 1), (0, (μ1 1000 0))]) rfl ?_
  refine rn_icmpn (t := 29) rfl rfl rfl rfl h (fun h => ?_) (fun h => ?_)
  · refine rn_sls 1 (pc' := 26) (ls' := [(0, (2, 1000))]) (st' := [(0, 0)]) rfl ?_
    refine rn_goto (t := 33) rfl rfl rfl ?_
    exact rn_ireti rfl rfl rfl h rfl
  · refine rn_sls 2 (pc' := 33) (ls' := [(0, (2, 1000))]) (st' := [(0, (μ1 1000 67))]) rfl ?_
    exact rn_ireti rfl rfl rfl h rfl
set_option maxRecDepth 20000 in
theorem t_M_given (d : Nat) : ∀  (μ : am_M) q, M_given  μ = some q → am_ar g_mt (d + 1) 213 [(2, 1000)] μ (am_res 0 q) := by
  intro  μ q h
  unfold M_given at h
  refine am_ar_of (d := d + 0) i_M_given rfl rfl (Nat.le_of_ble_eq_true rfl) ?_
  show am_run none (am_ar g_mt (d + 0)) 1 (some .int) k_M_given 0 [(0, (2, 1000))] [] μ (am_res 0 q)
  refine rn_sls 4 (pc' := 6) (ls' := [(0, (2, 1000))]) (st' := [(0, 2), (0, (μ 1000 57)), (2, 1000)]) rfl ?_
  refine rn_icmpn (t := 13) rfl rfl rfl rfl h (fun h => ?_) (fun h => ?_)
  · refine rn_sls 1 (pc' := 10) (ls' := [(0, (2, 1000))]) (st' := [(0, 0), (2, 1000)]) rfl ?_
    refine rn_goto (t := 14) rfl rfl rfl ?_
    exact rn_sub [0] rfl (t_M_given_B14 d  _ _ _ h)
  · refine rn_sls 1 (pc' := 14) (ls' := [(0, (2, 1000))]) (st' := [(0, 1), (2, 1000)]) rfl ?_
    exact rn_sub [0] rfl (t_M_given_B14 d  _ _ _ h)
set_option maxRecDepth 20000 in
theorem t_M_slip_B43 (d : Nat) : ∀ (v1 : Int) (s1 : Int) (μ : am_M) q, M_slip_B43 v1 s1 μ = some q → am_run none (am_ar g_mt (d + 1)) 2 (some .int) k_M_slip 43 [(0, (2, 1000)), (1, (0, v1))] [(0, s1), (2, 1000)] μ (am_res 0 q) := by
  intro v1 s1 μ q h
  unfold M_slip_B43 at h
  refine rn_put rfl rfl rfl rfl (Or.inl ⟨rfl, rfl⟩) rfl h (fun μ1 h => ?_)
  refine rn_sls 3 (pc' := 51) (ls' := [(0, (2, 1000)), (1, (0, v1))]) (st' := [(0, 1), (0, (μ1 1000 0))]) rfl ?_
  refine rn_icmpn (t := 58) rfl rfl rfl rfl h (fun h => ?_) (fun h => ?_)
  · refine rn_sls 1 (pc' := 55) (ls' := [(0, (2, 1000)), (1, (0, v1))]) (st' := [(0, 0)]) rfl ?_
    refine rn_goto (t := 74) rfl rfl rfl ?_
    exact rn_ireti rfl rfl rfl h rfl
  · refine rn_sls 10 (pc' := 73) (ls' := [(0, (2, 1000)), (1, (0, v1))]) (st' := [(0, (w32 ((w32 (10 * (w32 ((μ1 1000 58) - 1)))) + v1))), (2, 1046)]) rfl ?_
    refine rn_iald (n := 160) rfl rfl rfl h (fun a2 h => ?_)
    exact rn_ireti rfl rfl rfl h rfl
set_option maxRecDepth 20000 in
theorem t_M_slip_B42 (d : Nat) : ∀ (v1 : Int) (μ : am_M) q, M_slip_B42 v1 μ = some q → am_run none (am_ar g_mt (d + 1)) 2 (some .int) k_M_slip 42 [(0, (2, 1000)), (1, (0, v1))] [(2, 1000)] μ (am_res 0 q) := by
  intro v1 μ q h
  unfold M_slip_B42 at h
  refine rn_sls 1 (pc' := 43) (ls' := [(0, (2, 1000)), (1, (0, v1))]) (st' := [(0, 1), (2, 1000)]) rfl ?_
  exact rn_sub [0, 1] rfl (t_M_slip_B43 d  _ _ _ _ h)
set_option maxRecDepth 20000 in
theorem t_M_slip (d : Nat) : ∀ (v1 : Int) (μ : am_M) q, M_slip v1 μ = some q → am_ar g_mt (d + 2) 214 [(2, 1000), (0, v1)] μ (am_res 0 q) := by
  intro v1 μ q h
  unfold M_slip at h
  refine am_ar_of (d := d + 1) i_M_slip rfl rfl (Nat.le_of_ble_eq_true rfl) ?_
  show am_run none (am_ar g_mt (d + 1)) 2 (some .int) k_M_slip 0 [(0, (2, 1000)), (1, (0, v1))] [] μ (am_res 0 q)
  refine rn_sls 4 (pc' := 6) (ls' := [(0, (2, 1000)), (1, (0, v1))]) (st' := [(0, 1), (0, (μ 1000 57)), (2, 1000)]) rfl ?_
  refine rn_icmpn (t := 42) rfl rfl rfl rfl h (fun h => ?_) (fun h => ?_)
  · refine rn_sls 3 (pc' := 13) (ls' := [(0, (2, 1000)), (1, (0, v1))]) (st' := [(0, 9), (0, 0), (0, v1), (2, 1000)]) rfl ?_
    refine rn_call 2 0 [(0, v1), (0, 0), (0, 9)] (r := [(2, 1000)]) rfl ⟨rfl, Or.inr ⟨_, rfl, by decide⟩⟩ (by decide) (fun z => absurd z (by decide)) rfl rfl (Nat.le_of_ble_eq_true rfl) h (fun w hw => t_M_within (d + 0) _ _ _ _ _ hw) (fun a1 μ2 h => ?_)
    refine rn_sls 0 (pc' := 16) (ls' := [(0, (2, 1000)), (1, (0, v1))]) (st' := [(0, a1), (2, 1000)]) rfl ?_
    refine rn_if (t := 42) rfl rfl rfl rfl h (fun h => ?_) (fun h => ?_)
    · exact rn_sub [0, 1] rfl (t_M_slip_B42 d  _ _ _ h)
    · refine rn_sls 6 (pc' := 29) (ls' := [(0, (2, 1000)), (1, (0, v1))]) (st' := [(0, (w32 ((μ2 1000 58) - 1))), (2, 1045), (2, 1000)]) rfl ?_
      refine rn_iald (n := 16) rfl rfl rfl h (fun a3 h => ?_)
      refine rn_sls 5 (pc' := 35) (ls' := [(0, (2, 1000)), (1, (0, v1))]) (st' := [(0, 1), (0, (aAnd (aShr a3 v1) 1)), (2, 1000)]) rfl ?_
      refine rn_icmpn (t := 42) rfl rfl rfl rfl h (fun h => ?_) (fun h => ?_)
      · refine rn_sls 1 (pc' := 39) (ls' := [(0, (2, 1000)), (1, (0, v1))]) (st' := [(0, 0), (2, 1000)]) rfl ?_
        refine rn_goto (t := 43) rfl rfl rfl ?_
        exact rn_sub [0, 1] rfl (t_M_slip_B43 d  _ _ _ _ h)
      · exact rn_sub [0, 1] rfl (t_M_slip_B42 d  _ _ _ h)
  · exact rn_sub [0, 1] rfl (t_M_slip_B42 d  _ _ _ h)
set_option maxRecDepth 20000 in
theorem t_M_laysFree (d : Nat) : ∀ (v1 : Int) (v2 : Int) (v3 : Int) (μ : am_M) q, M_laysFree v1 v2 v3 μ = some q → am_ar g_mt (d + 1) 216 [(2, 1000), (0, v1), (0, v2), (0, v3)] μ (am_res 2 q) := by
  intro v1 v2 v3 μ q h
  unfold M_laysFree at h
  refine am_ar_of (d := d + 0) i_M_laysFree rfl rfl (Nat.le_of_ble_eq_true rfl) ?_
  show am_run none (am_ar g_mt (d + 0)) 4 none k_M_laysFree 0 [(0, (2, 1000)), (1, (0, v1)), (2, (0, v2)), (3, (0, v3))] [] μ (am_res 2 q)
  refine rn_sls 4 (pc' := 6) (ls' := [(0, (2, 1000)), (1, (0, v1)), (2, (0, v2)), (3, (0, v3))]) (st' := [(0, v1), (2, 1050), (0, v1), (2, 1050)]) rfl ?_
  refine rn_iald (n := 16) rfl rfl rfl h (fun a1 h => ?_)
  refine rn_sls 4 (pc' := 11) (ls' := [(0, (2, 1000)), (1, (0, v1)), (2, (0, v2)), (3, (0, v3))]) (st' := [(0, (aOr a1 (aShl 1 v2))), (0, v1), (2, 1050)]) rfl ?_
  refine rn_iast (n := 16) rfl rfl rfl h (fun μ2 h => ?_)
  refine rn_sls 8 (pc' := 23) (ls' := [(0, (2, 1000)), (1, (0, v1)), (2, (0, v2)), (3, (0, v3))]) (st' := [(0, v3), (0, (w32 ((w32 (10 * v1)) + v2))), (2, 1051)]) rfl ?_
  refine rn_iast (n := 160) rfl rfl rfl h (fun μ3 h => ?_)
  exact rn_ret (v := 0) rfl rfl rfl h rfl
set_option maxRecDepth 20000 in
theorem t_M_opensFree_L44_b (d : Nat) (k44 : Int → Int → am_M → am_O) (hk44 : ∀ (v1 : Int) (v2 : Int) (μ : am_M) q, k44 v1 v2 μ = some q → am_run none (am_ar g_mt (d + 1)) 3 none k_M_opensFree 44 [(0, (2, 1000)), (1, (0, v1)), (2, (0, v2))] [] μ (am_res 2 q)) : ∀ (v1 : Int) (v2 : Int) (μ : am_M) q, M_opensFree_L44_b k44 v1 v2 μ = some q → am_run none (am_ar g_mt (d + 1)) 3 none k_M_opensFree 44 [(0, (2, 1000)), (1, (0, v1)), (2, (0, v2))] [] μ (am_res 2 q) := by
  intro v1 v2 μ q h
  unfold M_opensFree_L44_b at h
  refine rn_sls 4 (pc' := 50) (ls' := [(0, (2, 1000)), (1, (0, v1)), (2, (0, v2))]) (st' := [(0, v1), (2, 1019), (0, v2)]) rfl ?_
  refine rn_iald (n := 8) rfl rfl rfl h (fun a1 h => ?_)
  refine rn_icmpn (t := 87) rfl rfl rfl rfl h (fun h => ?_) (fun h => ?_)
  · refine rn_sls 8 (pc' := 68) (ls' := [(0, (2, 1000)), (1, (0, v1)), (2, (0, v2))]) (st' := [(0, v1), (2, 1017), (2, 1003), (0, (μ 1000 73)), (2, 1000)]) rfl ?_
    refine rn_iald (n := 8) rfl rfl rfl h (fun a3 h => ?_)
    refine rn_sls 2 (pc' := 71) (ls' := [(0, (2, 1000)), (1, (0, v1)), (2, (0, v2))]) (st' := [(0, (w32 (a3 + v2))), (2, 1003), (0, (μ 1000 73)), (2, 1000)]) rfl ?_
    refine rn_iald (n := 120) rfl rfl rfl h (fun a4 h => ?_)
    refine rn_sls 3 (pc' := 77) (ls' := [(0, (2, 1000)), (1, (0, v1)), (2, (0, v2))]) (st' := [(0, v2), (2, 1047), (0, a4), (0, (μ 1000 73)), (2, 1000)]) rfl ?_
    refine rn_iald (n := 4) rfl rfl rfl h (fun a5 h => ?_)
    refine rn_call 0 2 [(2, 1000), (0, (μ 1000 73)), (0, a4), (0, a5)] (r := []) rfl ⟨rfl, Or.inl ⟨_, rfl, by decide⟩⟩ (by decide) (fun _ => ⟨_, rfl, rfl⟩) rfl rfl (Nat.le_of_ble_eq_true rfl) h (fun w hw => t_M_laysFree (d + 0) _ _ _ _ _ hw) (fun a6 μ7 h => ?_)
    refine rn_sls 0 (pc' := 81) (ls' := [(0, (2, 1000)), (1, (0, v1)), (2, (0, v2))]) (st' := []) rfl ?_
    refine rn_sls 1 (pc' := 84) (ls' := [(2, (0, (w32 (v2 + 1)))), (0, (2, 1000)), (1, (0, v1))]) (st' := []) rfl ?_
    refine rn_goto (t := 44) rfl rfl rfl ?_
    exact rn_sub [1, 2, 0] rfl (hk44 _ _ _ _ h)
  · refine rn_sls 5 (pc' := 94) (ls' := [(0, (2, 1000)), (1, (0, v1)), (2, (0, v2))]) (st' := [(0, (w32 ((μ 1000 73) + 1))), (2, 1000)]) rfl ?_
    refine rn_put rfl rfl rfl rfl (Or.inl ⟨rfl, rfl⟩) rfl h (fun μ2 h => ?_)
    exact rn_ret (v := 0) rfl rfl rfl h rfl
set_option maxRecDepth 20000 in
theorem t_M_opensFree_L44 (d : Nat) : ∀ (n : Nat) (v1 : Int) (v2 : Int) (μ : am_M) q, M_opensFree_L44 n v1 v2 μ = some q → am_run none (am_ar g_mt (d + 1)) 3 none k_M_opensFree 44 [(0, (2, 1000)), (1, (0, v1)), (2, (0, v2))] [] μ (am_res 2 q) := by
  intro n
  induction n with
  | zero => intro v1 v2 μ q h; cases h
  | succ n ih => intro v1 v2 μ q h; exact t_M_opensFree_L44_b d (M_opensFree_L44 n) ih v1 v2 μ q h
set_option maxRecDepth 20000 in
theorem t_M_opensFree (d : Nat) : ∀ (v1 : Int) (μ : am_M) q, M_opensFree v1 μ = some q → am_ar g_mt (d + 2) 215 [(2, 1000), (0, v1)] μ (am_res 2 q) := by
  intro v1 μ q h
  unfold M_opensFree at h
  refine am_ar_of (d := d + 1) i_M_opensFree rfl rfl (Nat.le_of_ble_eq_true rfl) ?_
  show am_run none (am_ar g_mt (d + 1)) 3 none k_M_opensFree 0 [(0, (2, 1000)), (1, (0, v1))] [] μ (am_res 2 q)
  refine rn_sls 5 (pc' := 9) (ls' := [(0, (2, 1000)), (1, (0, v1))]) (st' := [(0, v1), (0, (μ 1000 73)), (2, 1048)]) rfl ?_
  refine rn_iast (n := 16) rfl rfl rfl h (fun μ1 h => ?_)
  refine rn_sls 5 (pc' := 19) (ls' := [(0, (2, 1000)), (1, (0, v1))]) (st' := [(0, 0), (0, (μ1 1000 73)), (2, 1050)]) rfl ?_
  refine rn_iast (n := 16) rfl rfl rfl h (fun μ2 h => ?_)
  refine rn_sls 7 (pc' := 33) (ls' := [(0, (2, 1000)), (1, (0, v1))]) (st' := [(0, v1), (2, 1017), (0, (μ2 1000 73)), (2, 1049)]) rfl ?_
  refine rn_iald (n := 8) rfl rfl rfl h (fun a3 h => ?_)
  refine rn_sls 3 (pc' := 39) (ls' := [(0, (2, 1000)), (1, (0, v1))]) (st' := [(0, v1), (2, 1019), (0, a3), (0, (μ2 1000 73)), (2, 1049)]) rfl ?_
  refine rn_iald (n := 8) rfl rfl rfl h (fun a4 h => ?_)
  refine rn_sls 1 (pc' := 41) (ls' := [(0, (2, 1000)), (1, (0, v1))]) (st' := [(0, (w32 (a3 + a4))), (0, (μ2 1000 73)), (2, 1049)]) rfl ?_
  refine rn_iast (n := 16) rfl rfl rfl h (fun μ5 h => ?_)
  refine rn_sls 2 (pc' := 44) (ls' := [(2, (0, 0)), (0, (2, 1000)), (1, (0, v1))]) (st' := []) rfl ?_
  exact rn_sub [1, 2, 0] rfl (t_M_opensFree_L44 d  am_FU _ _ _ _ h)
set_option maxRecDepth 20000 in
theorem t_M_areLaid_B44 (d : Nat) (k14 : Int → Int → Int → am_M → am_O) (hk14 : ∀ (v1 : Int) (v2 : Int) (v3 : Int) (μ : am_M) q, k14 v1 v2 v3 μ = some q → am_run none (am_ar g_mt (d + 2)) 4 (some .boolean) k_M_areLaid 14 [(0, (2, 1000)), (1, (0, v1)), (2, (0, v2)), (3, (0, v3))] [] μ (am_res 0 q)) : ∀ (v1 : Int) (v2 : Int) (v3 : Int) (μ : am_M) q, M_areLaid_B44 k14 v1 v2 v3 μ = some q → am_run none (am_ar g_mt (d + 2)) 4 (some .boolean) k_M_areLaid 44 [(0, (2, 1000)), (1, (0, v1)), (2, (0, v2)), (3, (0, v3))] [] μ (am_res 0 q) := by
  intro v1 v2 v3 μ q h
  unfold M_areLaid_B44 at h
  refine rn_sls 1 (pc' := 47) (ls' := [(3, (0, (w32 (v3 + 1)))), (0, (2, 1000)), (1, (0, v1)), (2, (0, v2))]) (st' := []) rfl ?_
  refine rn_goto (t := 14) rfl rfl rfl ?_
  exact rn_sub [1, 2, 3, 0] rfl (hk14 _ _ _ _ _ h)
set_option maxRecDepth 20000 in
theorem t_M_areLaid_L14_b (d : Nat) (k14 : Int → Int → Int → am_M → am_O) (hk14 : ∀ (v1 : Int) (v2 : Int) (v3 : Int) (μ : am_M) q, k14 v1 v2 v3 μ = some q → am_run none (am_ar g_mt (d + 2)) 4 (some .boolean) k_M_areLaid 14 [(0, (2, 1000)), (1, (0, v1)), (2, (0, v2)), (3, (0, v3))] [] μ (am_res 0 q)) : ∀ (v1 : Int) (v2 : Int) (v3 : Int) (μ : am_M) q, M_areLaid_L14_b k14 v1 v2 v3 μ = some q → am_run none (am_ar g_mt (d + 2)) 4 (some .boolean) k_M_areLaid 14 [(0, (2, 1000)), (1, (0, v1)), (2, (0, v2)), (3, (0, v3))] [] μ (am_res 0 q) := by
  intro v1 v2 v3 μ q h
  unfold M_areLaid_L14_b at h
  refine rn_sls 2 (pc' := 17) (ls' := [(0, (2, 1000)), (1, (0, v1)), (2, (0, v2)), (3, (0, v3))]) (st' := [(0, 10), (0, v3)]) rfl ?_
  refine rn_icmpn (t := 50) rfl rfl rfl rfl h (fun h => ?_) (fun h => ?_)
  · refine rn_sls 3 (pc' := 23) (ls' := [(0, (2, 1000)), (1, (0, v1)), (2, (0, v2)), (3, (0, v3))]) (st' := [(0, v3), (0, v2), (2, 1000)]) rfl ?_
    refine rn_call 0 0 [(2, 1000), (0, v2), (0, v3)] (r := []) rfl ⟨rfl, Or.inl ⟨_, rfl, by decide⟩⟩ (by decide) (fun _ => ⟨_, rfl, rfl⟩) rfl rfl (Nat.le_of_ble_eq_true rfl) h (fun w hw => t_M_readsOf (d + 0) _ _ _ _ hw) (fun a1 μ2 h => ?_)
    refine rn_sls 0 (pc' := 26) (ls' := [(0, (2, 1000)), (1, (0, v1)), (2, (0, v2)), (3, (0, v3))]) (st' := [(0, a1)]) rfl ?_
    refine rn_if (t := 44) rfl rfl rfl rfl h (fun h => ?_) (fun h => ?_)
    · exact rn_sub [0, 1, 2, 3] rfl (t_M_areLaid_B44 d k14 hk14 _ _ _ _ _ h)
    · refine rn_sls 3 (pc' := 34) (ls' := [(0, (2, 1000)), (1, (0, v1)), (2, (0, v2)), (3, (0, v3))]) (st' := [(0, v1), (2, 1050)]) rfl ?_
      refine rn_iald (n := 16) rfl rfl rfl h (fun a3 h => ?_)
      refine rn_sls 4 (pc' := 39) (ls' := [(0, (2, 1000)), (1, (0, v1)), (2, (0, v2)), (3, (0, v3))]) (st' := [(0, (aAnd (aShr a3 v3) 1))]) rfl ?_
      refine rn_ifn (t := 44) rfl rfl rfl rfl h (fun h => ?_) (fun h => ?_)
      · refine rn_sls 1 (pc' := 43) (ls' := [(0, (2, 1000)), (1, (0, v1)), (2, (0, v2)), (3, (0, v3))]) (st' := [(0, 0)]) rfl ?_
        exact rn_iretb rfl rfl rfl (Or.inl rfl) h rfl
      · exact rn_sub [0, 1, 2, 3] rfl (t_M_areLaid_B44 d k14 hk14 _ _ _ _ _ h)
  · refine rn_sls 1 (pc' := 51) (ls' := [(0, (2, 1000)), (1, (0, v1)), (2, (0, v2)), (3, (0, v3))]) (st' := [(0, 1)]) rfl ?_
    exact rn_iretb rfl rfl rfl (Or.inr rfl) h rfl
set_option maxRecDepth 20000 in
theorem t_M_areLaid_L14 (d : Nat) : ∀ (n : Nat) (v1 : Int) (v2 : Int) (v3 : Int) (μ : am_M) q, M_areLaid_L14 n v1 v2 v3 μ = some q → am_run none (am_ar g_mt (d + 2)) 4 (some .boolean) k_M_areLaid 14 [(0, (2, 1000)), (1, (0, v1)), (2, (0, v2)), (3, (0, v3))] [] μ (am_res 0 q) := by
  intro n
  induction n with
  | zero => intro v1 v2 v3 μ q h; cases h
  | succ n ih => intro v1 v2 v3 μ q h; exact t_M_areLaid_L14_b d (M_areLaid_L14 n) ih v1 v2 v3 μ q h
set_option maxRecDepth 20000 in
theorem t_M_areLaid (d : Nat) : ∀ (v1 : Int) (v2 : Int) (μ : am_M) q, M_areLaid v1 v2 μ = some q → am_ar g_mt (d + 3) 217 [(2, 1000), (0, v1), (0, v2)] μ (am_res 0 q) := by
  intro v1 v2 μ q h
  unfold M_areLaid at h
  refine am_ar_of (d := d + 2) i_M_areLaid rfl rfl (Nat.le_of_ble_eq_true rfl) ?_
  show am_run none (am_ar g_mt (d + 2)) 4 (some .boolean) k_M_areLaid 0 [(0, (2, 1000)), (1, (0, v1)), (2, (0, v2))] [] μ (am_res 0 q)
  refine rn_sls 3 (pc' := 5) (ls' := [(0, (2, 1000)), (1, (0, v1)), (2, (0, v2))]) (st' := [(0, v2), (2, 1002)]) rfl ?_
  refine rn_iald (n := 120) rfl rfl rfl h (fun a1 h => ?_)
  refine rn_sls 1 (pc' := 7) (ls' := [(0, (2, 1000)), (1, (0, v1)), (2, (0, v2))]) (st' := [(0, 3), (0, a1)]) rfl ?_
  refine rn_icmpn (t := 12) rfl rfl rfl rfl h (fun h => ?_) (fun h => ?_)
  · refine rn_sls 1 (pc' := 11) (ls' := [(0, (2, 1000)), (1, (0, v1)), (2, (0, v2))]) (st' := [(0, 1)]) rfl ?_
    exact rn_iretb rfl rfl rfl (Or.inr rfl) h rfl
  · refine rn_sls 2 (pc' := 14) (ls' := [(3, (0, 0)), (0, (2, 1000)), (1, (0, v1)), (2, (0, v2))]) (st' := []) rfl ?_
    exact rn_sub [1, 2, 3, 0] rfl (t_M_areLaid_L14 d  am_FU _ _ _ _ _ h)
set_option maxRecDepth 20000 in
theorem t_M_worksFree_L155_b (d : Nat) (k155 : Int → Int → Int → am_M → am_O) (hk155 : ∀ (v1 : Int) (v2 : Int) (v3 : Int) (μ : am_M) q, k155 v1 v2 v3 μ = some q → am_run none (am_ar g_mt (d + 4)) 4 (some .boolean) k_M_worksFree 155 [(0, (2, 1000)), (1, (0, v1)), (2, (0, v2)), (3, (0, v3))] [] μ (am_res 0 q)) : ∀ (v1 : Int) (v2 : Int) (v3 : Int) (μ : am_M) q, M_worksFree_L155_b k155 v1 v2 v3 μ = some q → am_run none (am_ar g_mt (d + 4)) 4 (some .boolean) k_M_worksFree 155 [(0, (2, 1000)), (1, (0, v1)), (2, (0, v2)), (3, (0, v3))] [] μ (am_res 0 q) := by
  intro v1 v2 v3 μ q h
  unfold M_worksFree_L155_b at h
  refine rn_sls 6 (pc' := 165) (ls' := [(0, (2, 1000)), (1, (0, v1)), (2, (0, v2)), (3, (0, v3))]) (st' := [(0, v2), (2, 1006), (2, 1019), (0, v3)]) rfl ?_
  refine rn_iald (n := 120) rfl rfl rfl h (fun a1 h => ?_)
  refine rn_iald (n := 8) rfl rfl rfl h (fun a2 h => ?_)
  refine rn_icmpn (t := 202) rfl rfl rfl rfl h (fun h => ?_) (fun h => ?_)
  · refine rn_sls 15 (pc' := 192) (ls' := [(0, (2, 1000)), (1, (0, v1)), (2, (0, v2)), (3, (0, v3))]) (st' := [(0, (w32 ((w32 (4 * v2)) + v3))), (2, 1007), (0, (w32 (10 * v1))), (2, 1051), (0, v3), (2, 1047)]) rfl ?_
    refine rn_iald (n := 480) rfl rfl rfl h (fun a6 h => ?_)
    refine rn_sls 1 (pc' := 194) (ls' := [(0, (2, 1000)), (1, (0, v1)), (2, (0, v2)), (3, (0, v3))]) (st' := [(0, (w32 ((w32 (10 * v1)) + a6))), (2, 1051), (0, v3), (2, 1047)]) rfl ?_
    refine rn_iald (n := 160) rfl rfl rfl h (fun a7 h => ?_)
    refine rn_iast (n := 4) rfl rfl rfl h (fun μ8 h => ?_)
    refine rn_sls 1 (pc' := 199) (ls' := [(3, (0, (w32 (v3 + 1)))), (0, (2, 1000)), (1, (0, v1)), (2, (0, v2))]) (st' := []) rfl ?_
    refine rn_goto (t := 155) rfl rfl rfl ?_
    exact rn_sub [1, 2, 3, 0] rfl (hk155 _ _ _ _ _ h)
  · refine rn_sls 4 (pc' := 208) (ls' := [(0, (2, 1000)), (1, (0, v1)), (2, (0, v2)), (3, (0, v3))]) (st' := [(0, v2), (2, 1006), (2, 1000)]) rfl ?_
    refine rn_iald (n := 120) rfl rfl rfl h (fun a3 h => ?_)
    refine rn_call 0 2 [(2, 1000), (0, a3)] (r := []) rfl ⟨rfl, Or.inl ⟨_, rfl, by decide⟩⟩ (by decide) (fun _ => ⟨_, rfl, rfl⟩) rfl rfl (Nat.le_of_ble_eq_true rfl) h (fun w hw => t_M_opensFree (d + 2) _ _ _ hw) (fun a4 μ5 h => ?_)
    refine rn_sls 0 (pc' := 212) (ls' := [(0, (2, 1000)), (1, (0, v1)), (2, (0, v2)), (3, (0, v3))]) (st' := []) rfl ?_
    refine rn_goto (t := 351) rfl rfl rfl ?_
    refine rn_sls 1 (pc' := 352) (ls' := [(0, (2, 1000)), (1, (0, v1)), (2, (0, v2)), (3, (0, v3))]) (st' := [(0, 1)]) rfl ?_
    exact rn_iretb rfl rfl rfl (Or.inr rfl) h rfl
set_option maxRecDepth 20000 in
theorem t_M_worksFree_L155 (d : Nat) : ∀ (n : Nat) (v1 : Int) (v2 : Int) (v3 : Int) (μ : am_M) q, M_worksFree_L155 n v1 v2 v3 μ = some q → am_run none (am_ar g_mt (d + 4)) 4 (some .boolean) k_M_worksFree 155 [(0, (2, 1000)), (1, (0, v1)), (2, (0, v2)), (3, (0, v3))] [] μ (am_res 0 q) := by
  intro n
  induction n with
  | zero => intro v1 v2 v3 μ q h; cases h
  | succ n ih => intro v1 v2 v3 μ q h; exact t_M_worksFree_L155_b d (M_worksFree_L155 n) ih v1 v2 v3 μ q h
set_option maxRecDepth 20000 in
theorem t_M_worksFree_B44 (d : Nat) : ∀ (v1 : Int) (v2 : Int) (μ : am_M) q, M_worksFree_B44 v1 v2 μ = some q → am_run none (am_ar g_mt (d + 4)) 4 (some .boolean) k_M_worksFree 44 [(0, (2, 1000)), (1, (0, v1)), (2, (0, v2))] [] μ (am_res 0 q) := by
  intro v1 v2 μ q h
  unfold M_worksFree_B44 at h
  refine rn_sls 6 (pc' := 52) (ls' := [(0, (2, 1000)), (1, (0, v1)), (2, (0, v2))]) (st' := [(0, (w32 (v2 + 1))), (0, v1), (2, 1049)]) rfl ?_
  refine rn_iast (n := 16) rfl rfl rfl h (fun μ1 h => ?_)
  refine rn_sls 3 (pc' := 58) (ls' := [(0, (2, 1000)), (1, (0, v1)), (2, (0, v2))]) (st' := [(0, v2), (2, 1002)]) rfl ?_
  refine rn_iald (n := 120) rfl rfl rfl h (fun a2 h => ?_)
  refine rn_sls 1 (pc' := 60) (ls' := [(0, (2, 1000)), (1, (0, v1)), (2, (0, v2))]) (st' := [(0, 1), (0, a2)]) rfl ?_
  refine rn_icmpn (t := 87) rfl rfl rfl rfl h (fun h => ?_) (fun h => ?_)
  · refine rn_sls 5 (pc' := 70) (ls' := [(0, (2, 1000)), (1, (0, v1)), (2, (0, v2))]) (st' := [(0, v2), (2, 1003), (0, v1), (2, 1000)]) rfl ?_
    refine rn_iald (n := 120) rfl rfl rfl h (fun a30 h => ?_)
    refine rn_sls 6 (pc' := 78) (ls' := [(0, (2, 1000)), (1, (0, v1)), (2, (0, v2))]) (st' := [(0, 1), (0, (w32 (10 * v1))), (0, v2), (2, 1000), (0, a30), (0, v1), (2, 1000)]) rfl ?_
    refine rn_call 0 0 [(2, 1000), (0, v2), (0, (w32 (10 * v1))), (0, 1)] (r := [(0, a30), (0, v1), (2, 1000)]) rfl ⟨rfl, Or.inl ⟨_, rfl, by decide⟩⟩ (by decide) (fun _ => ⟨_, rfl, rfl⟩) rfl rfl (Nat.le_of_ble_eq_true rfl) h (fun w hw => t_M_reckons (d + 0) _ _ _ _ _ hw) (fun a31 μ32 h => ?_)
    refine rn_sls 0 (pc' := 81) (ls' := [(0, (2, 1000)), (1, (0, v1)), (2, (0, v2))]) (st' := [(0, a31), (0, a30), (0, v1), (2, 1000)]) rfl ?_
    refine rn_call 0 2 [(2, 1000), (0, v1), (0, a30), (0, a31)] (r := []) rfl ⟨rfl, Or.inl ⟨_, rfl, by decide⟩⟩ (by decide) (fun _ => ⟨_, rfl, rfl⟩) rfl rfl (Nat.le_of_ble_eq_true rfl) h (fun w hw => t_M_laysFree (d + 3) _ _ _ _ _ hw) (fun a33 μ34 h => ?_)
    refine rn_sls 0 (pc' := 84) (ls' := [(0, (2, 1000)), (1, (0, v1)), (2, (0, v2))]) (st' := []) rfl ?_
    refine rn_goto (t := 351) rfl rfl rfl ?_
    refine rn_sls 1 (pc' := 352) (ls' := [(0, (2, 1000)), (1, (0, v1)), (2, (0, v2))]) (st' := [(0, 1)]) rfl ?_
    exact rn_iretb rfl rfl rfl (Or.inr rfl) h rfl
  · refine rn_sls 3 (pc' := 92) (ls' := [(0, (2, 1000)), (1, (0, v1)), (2, (0, v2))]) (st' := [(0, v2), (2, 1002)]) rfl ?_
    refine rn_iald (n := 120) rfl rfl rfl h (fun a3 h => ?_)
    refine rn_sls 1 (pc' := 94) (ls' := [(0, (2, 1000)), (1, (0, v1)), (2, (0, v2))]) (st' := [(0, 2), (0, a3)]) rfl ?_
    refine rn_icmpn (t := 143) rfl rfl rfl rfl h (fun h => ?_) (fun h => ?_)
    · refine rn_sls 10 (pc' := 112) (ls' := [(0, (2, 1000)), (1, (0, v1)), (2, (0, v2))]) (st' := [(0, (w32 (4 * v2))), (2, 1007), (0, (w32 (10 * v1))), (2, 1051)]) rfl ?_
      refine rn_iald (n := 480) rfl rfl rfl h (fun a22 h => ?_)
      refine rn_sls 1 (pc' := 114) (ls' := [(0, (2, 1000)), (1, (0, v1)), (2, (0, v2))]) (st' := [(0, (w32 ((w32 (10 * v1)) + a22))), (2, 1051)]) rfl ?_
      refine rn_iald (n := 160) rfl rfl rfl h (fun a23 h => ?_)
      refine rn_sls 6 (pc' := 123) (ls' := [(3, (0, a23)), (0, (2, 1000)), (1, (0, v1)), (2, (0, v2))]) (st' := [(0, v2), (2, 1003), (0, v1), (2, 1000)]) rfl ?_
      refine rn_iald (n := 120) rfl rfl rfl h (fun a24 h => ?_)
      refine rn_sls 1 (pc' := 125) (ls' := [(3, (0, a23)), (0, (2, 1000)), (1, (0, v1)), (2, (0, v2))]) (st' := [(0, a23), (0, a24), (0, v1), (2, 1000)]) rfl ?_
      refine rn_call 0 2 [(2, 1000), (0, v1), (0, a24), (0, a23)] (r := []) rfl ⟨rfl, Or.inl ⟨_, rfl, by decide⟩⟩ (by decide) (fun _ => ⟨_, rfl, rfl⟩) rfl rfl (Nat.le_of_ble_eq_true rfl) h (fun w hw => t_M_laysFree (d + 3) _ _ _ _ _ hw) (fun a25 μ26 h => ?_)
      refine rn_sls 0 (pc' := 128) (ls' := [(3, (0, a23)), (0, (2, 1000)), (1, (0, v1)), (2, (0, v2))]) (st' := []) rfl ?_
      refine rn_sls 5 (pc' := 135) (ls' := [(3, (0, a23)), (0, (2, 1000)), (1, (0, v1)), (2, (0, v2))]) (st' := [(0, v2), (2, 1004), (0, v1), (2, 1000)]) rfl ?_
      refine rn_iald (n := 120) rfl rfl rfl h (fun a27 h => ?_)
      refine rn_sls 1 (pc' := 137) (ls' := [(3, (0, a23)), (0, (2, 1000)), (1, (0, v1)), (2, (0, v2))]) (st' := [(0, a23), (0, a27), (0, v1), (2, 1000)]) rfl ?_
      refine rn_call 0 2 [(2, 1000), (0, v1), (0, a27), (0, a23)] (r := []) rfl ⟨rfl, Or.inl ⟨_, rfl, by decide⟩⟩ (by decide) (fun _ => ⟨_, rfl, rfl⟩) rfl rfl (Nat.le_of_ble_eq_true rfl) h (fun w hw => t_M_laysFree (d + 3) _ _ _ _ _ hw) (fun a28 μ29 h => ?_)
      refine rn_sls 0 (pc' := 140) (ls' := [(3, (0, a23)), (0, (2, 1000)), (1, (0, v1)), (2, (0, v2))]) (st' := []) rfl ?_
      refine rn_goto (t := 351) rfl rfl rfl ?_
      refine rn_sls 1 (pc' := 352) (ls' := [(3, (0, a23)), (0, (2, 1000)), (1, (0, v1)), (2, (0, v2))]) (st' := [(0, 1)]) rfl ?_
      exact rn_iretb rfl rfl rfl (Or.inr rfl) h rfl
    · refine rn_sls 3 (pc' := 148) (ls' := [(0, (2, 1000)), (1, (0, v1)), (2, (0, v2))]) (st' := [(0, v2), (2, 1002)]) rfl ?_
      refine rn_iald (n := 120) rfl rfl rfl h (fun a4 h => ?_)
      refine rn_sls 1 (pc' := 150) (ls' := [(0, (2, 1000)), (1, (0, v1)), (2, (0, v2))]) (st' := [(0, 4), (0, a4)]) rfl ?_
      refine rn_icmpn (t := 215) rfl rfl rfl rfl h (fun h => ?_) (fun h => ?_)
      · refine rn_sls 2 (pc' := 155) (ls' := [(3, (0, 0)), (0, (2, 1000)), (1, (0, v1)), (2, (0, v2))]) (st' := []) rfl ?_
        exact rn_sub [1, 2, 3, 0] rfl (t_M_worksFree_L155 d  am_FU _ _ _ _ _ h)
      · refine rn_sls 3 (pc' := 220) (ls' := [(0, (2, 1000)), (1, (0, v1)), (2, (0, v2))]) (st' := [(0, v2), (2, 1002)]) rfl ?_
        refine rn_iald (n := 120) rfl rfl rfl h (fun a5 h => ?_)
        refine rn_sls 1 (pc' := 222) (ls' := [(0, (2, 1000)), (1, (0, v1)), (2, (0, v2))]) (st' := [(0, 5), (0, a5)]) rfl ?_
        refine rn_icmpn (t := 255) rfl rfl rfl rfl h (fun h => ?_) (fun h => ?_)
        · refine rn_sls 6 (pc' := 232) (ls' := [(0, (2, 1000)), (1, (0, v1)), (2, (0, v2))]) (st' := [(0, 1), (0, (w32 (10 * v1))), (0, v2), (2, 1000)]) rfl ?_
          refine rn_call 0 0 [(2, 1000), (0, v2), (0, (w32 (10 * v1))), (0, 1)] (r := []) rfl ⟨rfl, Or.inl ⟨_, rfl, by decide⟩⟩ (by decide) (fun _ => ⟨_, rfl, rfl⟩) rfl rfl (Nat.le_of_ble_eq_true rfl) h (fun w hw => t_M_reckons (d + 0) _ _ _ _ _ hw) (fun a18 μ19 h => ?_)
          refine rn_sls 0 (pc' := 235) (ls' := [(0, (2, 1000)), (1, (0, v1)), (2, (0, v2))]) (st' := [(0, a18)]) rfl ?_
          refine rn_ifn (t := 351) rfl rfl rfl rfl h (fun h => ?_) (fun h => ?_)
          · refine rn_sls 6 (pc' := 248) (ls' := [(0, (2, 1000)), (1, (0, v1)), (2, (0, v2))]) (st' := [(0, v2), (2, 1008), (0, v1), (2, 1049)]) rfl ?_
            refine rn_iald (n := 120) rfl rfl rfl h (fun a20 h => ?_)
            refine rn_sls 2 (pc' := 251) (ls' := [(0, (2, 1000)), (1, (0, v1)), (2, (0, v2))]) (st' := [(0, (w32 (a20 + 1))), (0, v1), (2, 1049)]) rfl ?_
            refine rn_iast (n := 16) rfl rfl rfl h (fun μ21 h => ?_)
            refine rn_goto (t := 351) rfl rfl rfl ?_
            refine rn_sls 1 (pc' := 352) (ls' := [(0, (2, 1000)), (1, (0, v1)), (2, (0, v2))]) (st' := [(0, 1)]) rfl ?_
            exact rn_iretb rfl rfl rfl (Or.inr rfl) h rfl
          · refine rn_sls 1 (pc' := 352) (ls' := [(0, (2, 1000)), (1, (0, v1)), (2, (0, v2))]) (st' := [(0, 1)]) rfl ?_
            exact rn_iretb rfl rfl rfl (Or.inr rfl) h rfl
        · refine rn_sls 3 (pc' := 260) (ls' := [(0, (2, 1000)), (1, (0, v1)), (2, (0, v2))]) (st' := [(0, v2), (2, 1002)]) rfl ?_
          refine rn_iald (n := 120) rfl rfl rfl h (fun a6 h => ?_)
          refine rn_sls 1 (pc' := 263) (ls' := [(0, (2, 1000)), (1, (0, v1)), (2, (0, v2))]) (st' := [(0, 6), (0, a6)]) rfl ?_
          refine rn_icmpn (t := 283) rfl rfl rfl rfl h (fun h => ?_) (fun h => ?_)
          · refine rn_sls 6 (pc' := 276) (ls' := [(0, (2, 1000)), (1, (0, v1)), (2, (0, v2))]) (st' := [(0, v2), (2, 1009), (0, v1), (2, 1049)]) rfl ?_
            refine rn_iald (n := 120) rfl rfl rfl h (fun a16 h => ?_)
            refine rn_sls 2 (pc' := 279) (ls' := [(0, (2, 1000)), (1, (0, v1)), (2, (0, v2))]) (st' := [(0, (w32 (a16 + 1))), (0, v1), (2, 1049)]) rfl ?_
            refine rn_iast (n := 16) rfl rfl rfl h (fun μ17 h => ?_)
            refine rn_goto (t := 351) rfl rfl rfl ?_
            refine rn_sls 1 (pc' := 352) (ls' := [(0, (2, 1000)), (1, (0, v1)), (2, (0, v2))]) (st' := [(0, 1)]) rfl ?_
            exact rn_iretb rfl rfl rfl (Or.inr rfl) h rfl
          · refine rn_sls 3 (pc' := 288) (ls' := [(0, (2, 1000)), (1, (0, v1)), (2, (0, v2))]) (st' := [(0, v2), (2, 1002)]) rfl ?_
            refine rn_iald (n := 120) rfl rfl rfl h (fun a7 h => ?_)
            refine rn_sls 1 (pc' := 291) (ls' := [(0, (2, 1000)), (1, (0, v1)), (2, (0, v2))]) (st' := [(0, 8), (0, a7)]) rfl ?_
            refine rn_icmpn (t := 351) rfl rfl rfl rfl h (fun h => ?_) (fun h => ?_)
            · refine rn_sls 7 (pc' := 302) (ls' := [(0, (2, 1000)), (1, (0, v1)), (2, (0, v2))]) (st' := [(0, 1), (0, (w32 (10 * v1))), (0, v2), (2, 1000), (2, 1000)]) rfl ?_
              refine rn_call 0 0 [(2, 1000), (0, v2), (0, (w32 (10 * v1))), (0, 1)] (r := [(2, 1000)]) rfl ⟨rfl, Or.inl ⟨_, rfl, by decide⟩⟩ (by decide) (fun _ => ⟨_, rfl, rfl⟩) rfl rfl (Nat.le_of_ble_eq_true rfl) h (fun w hw => t_M_reckons (d + 0) _ _ _ _ _ hw) (fun a8 μ9 h => ?_)
              refine rn_sls 0 (pc' := 305) (ls' := [(0, (2, 1000)), (1, (0, v1)), (2, (0, v2))]) (st' := [(0, a8), (2, 1000)]) rfl ?_
              refine rn_put rfl rfl rfl rfl (Or.inl ⟨rfl, rfl⟩) rfl h (fun μ10 h => ?_)
              refine rn_sls 5 (pc' := 315) (ls' := [(0, (2, 1000)), (1, (0, v1)), (2, (0, v2))]) (st' := [(0, (w32 ((μ10 1000 73) - 1))), (2, 1000)]) rfl ?_
              refine rn_put rfl rfl rfl rfl (Or.inl ⟨rfl, rfl⟩) rfl h (fun μ11 h => ?_)
              refine rn_sls 2 (pc' := 322) (ls' := [(0, (2, 1000)), (1, (0, v1)), (2, (0, v2))]) (st' := [(0, (μ11 1000 73))]) rfl ?_
              refine rn_if (t := 351) rfl rfl rfl rfl h (fun h => ?_) (fun h => ?_)
              · refine rn_sls 1 (pc' := 352) (ls' := [(0, (2, 1000)), (1, (0, v1)), (2, (0, v2))]) (st' := [(0, 1)]) rfl ?_
                exact rn_iretb rfl rfl rfl (Or.inr rfl) h rfl
              · refine rn_sls 11 (pc' := 340) (ls' := [(0, (2, 1000)), (1, (0, v1)), (2, (0, v2))]) (st' := [(0, (w32 (v1 - 1))), (2, 1049), (2, 1003), (0, (w32 (v1 - 1))), (2, 1000)]) rfl ?_
                refine rn_iald (n := 16) rfl rfl rfl h (fun a12 h => ?_)
                refine rn_sls 2 (pc' := 343) (ls' := [(0, (2, 1000)), (1, (0, v1)), (2, (0, v2))]) (st' := [(0, (w32 (a12 - 1))), (2, 1003), (0, (w32 (v1 - 1))), (2, 1000)]) rfl ?_
                refine rn_iald (n := 120) rfl rfl rfl h (fun a13 h => ?_)
                refine rn_sls 2 (pc' := 348) (ls' := [(0, (2, 1000)), (1, (0, v1)), (2, (0, v2))]) (st' := [(0, (μ11 1000 74)), (0, a13), (0, (w32 (v1 - 1))), (2, 1000)]) rfl ?_
                refine rn_call 0 2 [(2, 1000), (0, (w32 (v1 - 1))), (0, a13), (0, (μ11 1000 74))] (r := []) rfl ⟨rfl, Or.inl ⟨_, rfl, by decide⟩⟩ (by decide) (fun _ => ⟨_, rfl, rfl⟩) rfl rfl (Nat.le_of_ble_eq_true rfl) h (fun w hw => t_M_laysFree (d + 3) _ _ _ _ _ hw) (fun a14 μ15 h => ?_)
                refine rn_sls 0 (pc' := 351) (ls' := [(0, (2, 1000)), (1, (0, v1)), (2, (0, v2))]) (st' := []) rfl ?_
                refine rn_sls 1 (pc' := 352) (ls' := [(0, (2, 1000)), (1, (0, v1)), (2, (0, v2))]) (st' := [(0, 1)]) rfl ?_
                exact rn_iretb rfl rfl rfl (Or.inr rfl) h rfl
            · refine rn_sls 1 (pc' := 352) (ls' := [(0, (2, 1000)), (1, (0, v1)), (2, (0, v2))]) (st' := [(0, 1)]) rfl ?_
              exact rn_iretb rfl rfl rfl (Or.inr rfl) h rfl
set_option maxRecDepth 20000 in
theorem t_M_worksFree (d : Nat) : ∀  (μ : am_M) q, M_worksFree  μ = some q → am_ar g_mt (d + 5) 218 [(2, 1000)] μ (am_res 0 q) := by
  intro  μ q h
  unfold M_worksFree at h
  refine am_ar_of (d := d + 4) i_M_worksFree rfl rfl (Nat.le_of_ble_eq_true rfl) ?_
  show am_run none (am_ar g_mt (d + 4)) 4 (some .boolean) k_M_worksFree 0 [(0, (2, 1000))] [] μ (am_res 0 q)
  refine rn_sls 8 (pc' := 12) (ls' := [(1, (0, (w32 ((μ 1000 73) - 1)))), (0, (2, 1000))]) (st' := [(0, (w32 ((μ 1000 73) - 1))), (2, 1049)]) rfl ?_
  refine rn_iald (n := 16) rfl rfl rfl h (fun a1 h => ?_)
  refine rn_sls 4 (pc' := 17) (ls' := [(2, (0, a1)), (1, (0, (w32 ((μ 1000 73) - 1)))), (0, (2, 1000))]) (st' := [(0, a1), (0, (w32 ((μ 1000 73) - 1))), (2, 1000)]) rfl ?_
  refine rn_call 0 0 [(2, 1000), (0, (w32 ((μ 1000 73) - 1))), (0, a1)] (r := []) rfl ⟨rfl, Or.inl ⟨_, rfl, by decide⟩⟩ (by decide) (fun _ => ⟨_, rfl, rfl⟩) rfl rfl (Nat.le_of_ble_eq_true rfl) h (fun w hw => t_M_areLaid (d + 1) _ _ _ _ hw) (fun a2 μ3 h => ?_)
  refine rn_sls 0 (pc' := 20) (ls' := [(2, (0, a1)), (1, (0, (w32 ((μ 1000 73) - 1)))), (0, (2, 1000))]) (st' := [(0, a2)]) rfl ?_
  refine rn_if (t := 42) rfl rfl rfl rfl h (fun h => ?_) (fun h => ?_)
  · refine rn_sls 1 (pc' := 43) (ls' := [(2, (0, a1)), (1, (0, (w32 ((μ 1000 73) - 1)))), (0, (2, 1000))]) (st' := [(0, 0)]) rfl ?_
    exact rn_iretb rfl rfl rfl (Or.inl rfl) h rfl
  · refine rn_sls 3 (pc' := 28) (ls' := [(2, (0, a1)), (1, (0, (w32 ((μ 1000 73) - 1)))), (0, (2, 1000))]) (st' := [(0, a1), (2, 1002)]) rfl ?_
    refine rn_iald (n := 120) rfl rfl rfl h (fun a4 h => ?_)
    refine rn_sls 1 (pc' := 30) (ls' := [(2, (0, a1)), (1, (0, (w32 ((μ 1000 73) - 1)))), (0, (2, 1000))]) (st' := [(0, 4), (0, a4)]) rfl ?_
    refine rn_icmpn (t := 44) rfl rfl rfl rfl h (fun h => ?_) (fun h => ?_)
    · refine rn_sls 3 (pc' := 39) (ls' := [(2, (0, a1)), (1, (0, (w32 ((μ 1000 73) - 1)))), (0, (2, 1000))]) (st' := [(0, 16), (0, (μ3 1000 73))]) rfl ?_
      refine rn_icmpn (t := 44) rfl rfl rfl rfl h (fun h => ?_) (fun h => ?_)
      · refine rn_sls 1 (pc' := 43) (ls' := [(2, (0, a1)), (1, (0, (w32 ((μ 1000 73) - 1)))), (0, (2, 1000))]) (st' := [(0, 0)]) rfl ?_
        exact rn_iretb rfl rfl rfl (Or.inl rfl) h rfl
      · exact rn_sub [2, 1, 0] rfl (t_M_worksFree_B44 d  _ _ _ _ h)
    · exact rn_sub [2, 1, 0] rfl (t_M_worksFree_B44 d  _ _ _ _ h)
set_option maxRecDepth 20000 in
theorem t_M_free_B123 (d : Nat) : ∀ (s1 : Int) (μ : am_M) q, M_free_B123 s1 μ = some q → am_run none (am_ar g_mt (d + 5)) 8 (some .int) k_M_free 123 [(0, (2, 1000))] [(0, s1), (2, 1000)] μ (am_res 0 q) := by
  intro s1 μ q h
  unfold M_free_B123 at h
  refine rn_put rfl rfl rfl rfl (Or.inl ⟨rfl, rfl⟩) rfl h (fun μ1 h => ?_)
  refine rn_sls 3 (pc' := 131) (ls' := [(0, (2, 1000))]) (st' := [(0, 1), (0, (μ1 1000 0))]) rfl ?_
  refine rn_icmpn (t := 138) rfl rfl rfl rfl h (fun h => ?_) (fun h => ?_)
  · refine rn_sls 1 (pc' := 135) (ls' := [(0, (2, 1000))]) (st' := [(0, 0)]) rfl ?_
    refine rn_goto (t := 142) rfl rfl rfl ?_
    exact rn_ireti rfl rfl rfl h rfl
  · refine rn_sls 2 (pc' := 142) (ls' := [(0, (2, 1000))]) (st' := [(0, (μ1 1000 74))]) rfl ?_
    exact rn_ireti rfl rfl rfl h rfl
set_option maxRecDepth 20000 in
theorem t_M_free_B122 (d : Nat) : ∀  (μ : am_M) q, M_free_B122  μ = some q → am_run none (am_ar g_mt (d + 5)) 8 (some .int) k_M_free 122 [(0, (2, 1000))] [(2, 1000)] μ (am_res 0 q) := by
  intro  μ q h
  unfold M_free_B122 at h
  refine rn_sls 1 (pc' := 123) (ls' := [(0, (2, 1000))]) (st' := [(0, 1), (2, 1000)]) rfl ?_
  exact rn_sub [0] rfl (t_M_free_B123 d  _ _ _ h)
set_option maxRecDepth 20000 in
theorem t_M_free_B105 (d : Nat) : ∀ (v6 : Int) (μ : am_M) q, M_free_B105 v6 μ = some q → am_run none (am_ar g_mt (d + 5)) 8 (some .int) k_M_free 105 [(0, (2, 1000)), (6, (0, v6))] [] μ (am_res 0 q) := by
  intro v6 μ q h
  unfold M_free_B105 at h
  refine rn_sls 2 (pc' := 108) (ls' := [(0, (2, 1000)), (6, (0, v6))]) (st' := [(0, v6), (2, 1000)]) rfl ?_
  refine rn_if (t := 122) rfl rfl rfl rfl h (fun h => ?_) (fun h => ?_)
  · exact rn_sub [0] rfl (t_M_free_B122 d  _ _ h)
  · refine rn_sls 2 (pc' := 115) (ls' := [(0, (2, 1000)), (6, (0, v6))]) (st' := [(0, (μ 1000 73)), (2, 1000)]) rfl ?_
    refine rn_ifn (t := 122) rfl rfl rfl rfl h (fun h => ?_) (fun h => ?_)
    · refine rn_sls 1 (pc' := 119) (ls' := [(0, (2, 1000)), (6, (0, v6))]) (st' := [(0, 0), (2, 1000)]) rfl ?_
      refine rn_goto (t := 123) rfl rfl rfl ?_
      exact rn_sub [0] rfl (t_M_free_B123 d  _ _ _ h)
    · exact rn_sub [0] rfl (t_M_free_B122 d  _ _ h)
set_option maxRecDepth 20000 in
theorem t_M_free_L73_b (d : Nat) (k73 : Int → Int → am_M → am_O) (hk73 : ∀ (v6 : Int) (v7 : Int) (μ : am_M) q, k73 v6 v7 μ = some q → am_run none (am_ar g_mt (d + 5)) 8 (some .int) k_M_free 73 [(0, (2, 1000)), (6, (0, v6)), (7, (0, v7))] [] μ (am_res 0 q)) : ∀ (v6 : Int) (v7 : Int) (μ : am_M) q, M_free_L73_b k73 v6 v7 μ = some q → am_run none (am_ar g_mt (d + 5)) 8 (some .int) k_M_free 73 [(0, (2, 1000)), (6, (0, v6)), (7, (0, v7))] [] μ (am_res 0 q) := by
  intro v6 v7 μ q h
  unfold M_free_L73_b at h
  refine rn_sls 2 (pc' := 78) (ls' := [(0, (2, 1000)), (6, (0, v6)), (7, (0, v7))]) (st' := [(0, 3000), (0, v7)]) rfl ?_
  refine rn_icmpn (t := 105) rfl rfl rfl rfl h (fun h => ?_) (fun h => ?_)
  · refine rn_sls 1 (pc' := 83) (ls' := [(0, (2, 1000)), (6, (0, v6)), (7, (0, v7))]) (st' := [(0, v6)]) rfl ?_
    refine rn_if (t := 105) rfl rfl rfl rfl h (fun h => ?_) (fun h => ?_)
    · exact rn_sub [0, 1] rfl (t_M_free_B105 d  _ _ _ h)
    · refine rn_sls 2 (pc' := 90) (ls' := [(0, (2, 1000)), (6, (0, v6)), (7, (0, v7))]) (st' := [(0, (μ 1000 73))]) rfl ?_
      refine rn_if (t := 105) rfl rfl rfl rfl h (fun h => ?_) (fun h => ?_)
      · exact rn_sub [0, 1] rfl (t_M_free_B105 d  _ _ _ h)
      · refine rn_sls 1 (pc' := 94) (ls' := [(0, (2, 1000)), (6, (0, v6)), (7, (0, v7))]) (st' := [(2, 1000)]) rfl ?_
        refine rn_call 0 0 [(2, 1000)] (r := []) rfl ⟨rfl, Or.inl ⟨_, rfl, by decide⟩⟩ (by decide) (fun _ => ⟨_, rfl, rfl⟩) rfl rfl (Nat.le_of_ble_eq_true rfl) h (fun w hw => t_M_worksFree (d + 0)  _ _ hw) (fun a1 μ2 h => ?_)
        refine rn_sls 0 (pc' := 97) (ls' := [(0, (2, 1000)), (6, (0, v6)), (7, (0, v7))]) (st' := [(0, a1)]) rfl ?_
        refine rn_sls 2 (pc' := 102) (ls' := [(7, (0, (w32 (v7 + 1)))), (6, (0, a1)), (0, (2, 1000))]) (st' := []) rfl ?_
        refine rn_goto (t := 73) rfl rfl rfl ?_
        exact rn_sub [2, 1, 0] rfl (hk73 _ _ _ _ h)
  · exact rn_sub [0, 1] rfl (t_M_free_B105 d  _ _ _ h)
set_option maxRecDepth 20000 in
theorem t_M_free_L73 (d : Nat) : ∀ (n : Nat) (v6 : Int) (v7 : Int) (μ : am_M) q, M_free_L73 n v6 v7 μ = some q → am_run none (am_ar g_mt (d + 5)) 8 (some .int) k_M_free 73 [(0, (2, 1000)), (6, (0, v6)), (7, (0, v7))] [] μ (am_res 0 q) := by
  intro n
  induction n with
  | zero => intro v6 v7 μ q h; cases h
  | succ n ih => intro v6 v7 μ q h; exact t_M_free_L73_b d (M_free_L73 n) ih v6 v7 μ q h
set_option maxRecDepth 20000 in
theorem t_M_free_B14 (d : Nat) : ∀ (v1 : Int) (v2 : Int) (v3 : Int) (v4 : Int) (v5 : Int) (s1 : Int) (μ : am_M) q, M_free_B14 v1 v2 v3 v4 v5 s1 μ = some q → am_run none (am_ar g_mt (d + 5)) 8 (some .int) k_M_free 14 [(0, (2, 1000)), (1, (0, v1)), (2, (0, v2)), (3, (0, v3)), (4, (0, v4)), (5, (0, v5))] [(0, s1), (2, 1000)] μ (am_res 0 q) := by
  intro v1 v2 v3 v4 v5 s1 μ q h
  unfold M_free_B14 at h
  refine rn_put rfl rfl rfl rfl (Or.inl ⟨rfl, rfl⟩) rfl h (fun μ1 h => ?_)
  refine rn_sls 3 (pc' := 22) (ls' := [(0, (2, 1000)), (1, (0, v1)), (2, (0, v2)), (3, (0, v3)), (4, (0, v4)), (5, (0, v5))]) (st' := [(0, 1), (0, (μ1 1000 0))]) rfl ?_
  refine rn_icmpn (t := 27) rfl rfl rfl rfl h (fun h => ?_) (fun h => ?_)
  · refine rn_sls 1 (pc' := 26) (ls' := [(0, (2, 1000)), (1, (0, v1)), (2, (0, v2)), (3, (0, v3)), (4, (0, v4)), (5, (0, v5))]) (st' := [(0, 0)]) rfl ?_
    exact rn_ireti rfl rfl rfl h rfl
  · refine rn_sls 4 (pc' := 33) (ls' := [(0, (2, 1000)), (1, (0, v1)), (2, (0, v2)), (3, (0, v3)), (4, (0, v4)), (5, (0, v5))]) (st' := [(0, v2), (0, 0), (2, 1047)]) rfl ?_
    refine rn_iast (n := 4) rfl rfl rfl h (fun μ2 h => ?_)
    refine rn_sls 4 (pc' := 40) (ls' := [(0, (2, 1000)), (1, (0, v1)), (2, (0, v2)), (3, (0, v3)), (4, (0, v4)), (5, (0, v5))]) (st' := [(0, v3), (0, 1), (2, 1047)]) rfl ?_
    refine rn_iast (n := 4) rfl rfl rfl h (fun μ3 h => ?_)
    refine rn_sls 4 (pc' := 48) (ls' := [(0, (2, 1000)), (1, (0, v1)), (2, (0, v2)), (3, (0, v3)), (4, (0, v4)), (5, (0, v5))]) (st' := [(0, v4), (0, 2), (2, 1047)]) rfl ?_
    refine rn_iast (n := 4) rfl rfl rfl h (fun μ4 h => ?_)
    refine rn_sls 4 (pc' := 56) (ls' := [(0, (2, 1000)), (1, (0, v1)), (2, (0, v2)), (3, (0, v3)), (4, (0, v4)), (5, (0, v5))]) (st' := [(0, v5), (0, 3), (2, 1047)]) rfl ?_
    refine rn_iast (n := 4) rfl rfl rfl h (fun μ5 h => ?_)
    refine rn_sls 2 (pc' := 59) (ls' := [(0, (2, 1000)), (1, (0, v1)), (2, (0, v2)), (3, (0, v3)), (4, (0, v4)), (5, (0, v5))]) (st' := [(0, 0), (2, 1000)]) rfl ?_
    refine rn_put rfl rfl rfl rfl (Or.inl ⟨rfl, rfl⟩) rfl h (fun μ6 h => ?_)
    refine rn_sls 2 (pc' := 64) (ls' := [(0, (2, 1000)), (1, (0, v1)), (2, (0, v2)), (3, (0, v3)), (4, (0, v4)), (5, (0, v5))]) (st' := [(0, v1), (2, 1000)]) rfl ?_
    refine rn_call 0 2 [(2, 1000), (0, v1)] (r := []) rfl ⟨rfl, Or.inl ⟨_, rfl, by decide⟩⟩ (by decide) (fun _ => ⟨_, rfl, rfl⟩) rfl rfl (Nat.le_of_ble_eq_true rfl) h (fun w hw => t_M_opensFree (d + 3) _ _ _ hw) (fun a7 μ8 h => ?_)
    refine rn_sls 0 (pc' := 67) (ls' := [(0, (2, 1000)), (1, (0, v1)), (2, (0, v2)), (3, (0, v3)), (4, (0, v4)), (5, (0, v5))]) (st' := []) rfl ?_
    refine rn_sls 4 (pc' := 73) (ls' := [(7, (0, 0)), (6, (0, 1)), (0, (2, 1000)), (1, (0, v1)), (2, (0, v2)), (3, (0, v3)), (4, (0, v4)), (5, (0, v5))]) (st' := []) rfl ?_
    exact rn_sub [2, 1, 0] rfl (t_M_free_L73 d  am_FU _ _ _ _ h)
set_option maxRecDepth 20000 in
theorem t_M_free (d : Nat) : ∀ (v1 : Int) (v2 : Int) (v3 : Int) (v4 : Int) (v5 : Int) (μ : am_M) q, M_free v1 v2 v3 v4 v5 μ = some q → am_ar g_mt (d + 6) 219 [(2, 1000), (0, v1), (0, v2), (0, v3), (0, v4), (0, v5)] μ (am_res 0 q) := by
  intro v1 v2 v3 v4 v5 μ q h
  unfold M_free at h
  refine am_ar_of (d := d + 5) i_M_free rfl rfl (Nat.le_of_ble_eq_true rfl) ?_
  show am_run none (am_ar g_mt (d + 5)) 8 (some .int) k_M_free 0 [(0, (2, 1000)), (1, (0, v1)), (2, (0, v2)), (3, (0, v3)), (4, (0, v4)), (5, (0, v5))] [] μ (am_res 0 q)
  refine rn_sls 3 (pc' := 3) (ls' := [(0, (2, 1000)), (1, (0, v1)), (2, (0, v2)), (3, (0, v3)), (4, (0, v4)), (5, (0, v5))]) (st' := [(0, v1), (2, 1000), (2, 1000)]) rfl ?_
  refine rn_call 0 0 [(2, 1000), (0, v1)] (r := [(2, 1000)]) rfl ⟨rfl, Or.inl ⟨_, rfl, by decide⟩⟩ (by decide) (fun _ => ⟨_, rfl, rfl⟩) rfl rfl (Nat.le_of_ble_eq_true rfl) h (fun w hw => t_M_isBill (d + 4) _ _ _ hw) (fun a1 μ2 h => ?_)
  refine rn_sls 0 (pc' := 6) (ls' := [(0, (2, 1000)), (1, (0, v1)), (2, (0, v2)), (3, (0, v3)), (4, (0, v4)), (5, (0, v5))]) (st' := [(0, a1), (2, 1000)]) rfl ?_
  refine rn_if (t := 13) rfl rfl rfl rfl h (fun h => ?_) (fun h => ?_)
  · refine rn_sls 1 (pc' := 14) (ls' := [(0, (2, 1000)), (1, (0, v1)), (2, (0, v2)), (3, (0, v3)), (4, (0, v4)), (5, (0, v5))]) (st' := [(0, 1), (2, 1000)]) rfl ?_
    exact rn_sub [0, 1, 2, 3, 4, 5] rfl (t_M_free_B14 d  _ _ _ _ _ _ _ _ h)
  · refine rn_sls 1 (pc' := 10) (ls' := [(0, (2, 1000)), (1, (0, v1)), (2, (0, v2)), (3, (0, v3)), (4, (0, v4)), (5, (0, v5))]) (st' := [(0, 0), (2, 1000)]) rfl ?_
    refine rn_goto (t := 14) rfl rfl rfl ?_
    exact rn_sub [0, 1, 2, 3, 4, 5] rfl (t_M_free_B14 d  _ _ _ _ _ _ _ _ h)
set_option maxRecDepth 20000 in
theorem t_M_waysIn_B77 (d : Nat) (rec : Int → Int → am_M → am_O) (hrec : ∀ (v1 : Int) (v2 : Int) (μ : am_M) q, rec v1 v2 μ = some q → am_ar g_mt (d + 0) 220 [(2, 1000), (0, v1), (0, v2)] μ (am_res 0 q)) (k5 : Int → Int → Int → am_M → am_O) (hk5 : ∀ (v2 : Int) (v3 : Int) (v4 : Int) (μ : am_M) q, k5 v2 v3 v4 μ = some q → am_run none (am_ar g_mt (d + 0)) 5 (some .int) k_M_waysIn 5 [(0, (2, 1000)), (2, (0, v2)), (3, (0, v3)), (4, (0, v4))] [] μ (am_res 0 q)) : ∀ (v2 : Int) (v3 : Int) (v4 : Int) (μ : am_M) q, M_waysIn_B77 rec k5 v2 v3 v4 μ = some q → am_run none (am_ar g_mt (d + 0)) 5 (some .int) k_M_waysIn 77 [(0, (2, 1000)), (2, (0, v2)), (3, (0, v3)), (4, (0, v4))] [] μ (am_res 0 q) := by
  intro v2 v3 v4 μ q h
  unfold M_waysIn_B77 at h
  refine rn_sls 1 (pc' := 80) (ls' := [(4, (0, (w32 (v4 + 1)))), (0, (2, 1000)), (2, (0, v2)), (3, (0, v3))]) (st' := []) rfl ?_
  refine rn_goto (t := 5) rfl rfl rfl ?_
  exact rn_sub [1, 2, 3, 0] rfl (hk5 _ _ _ _ _ h)
set_option maxRecDepth 20000 in
theorem t_M_waysIn_L5_b (d : Nat) (rec : Int → Int → am_M → am_O) (hrec : ∀ (v1 : Int) (v2 : Int) (μ : am_M) q, rec v1 v2 μ = some q → am_ar g_mt (d + 0) 220 [(2, 1000), (0, v1), (0, v2)] μ (am_res 0 q)) (k5 : Int → Int → Int → am_M → am_O) (hk5 : ∀ (v2 : Int) (v3 : Int) (v4 : Int) (μ : am_M) q, k5 v2 v3 v4 μ = some q → am_run none (am_ar g_mt (d + 0)) 5 (some .int) k_M_waysIn 5 [(0, (2, 1000)), (2, (0, v2)), (3, (0, v3)), (4, (0, v4))] [] μ (am_res 0 q)) : ∀ (v2 : Int) (v3 : Int) (v4 : Int) (μ : am_M) q, M_waysIn_L5_b rec k5 v2 v3 v4 μ = some q → am_run none (am_ar g_mt (d + 0)) 5 (some .int) k_M_waysIn 5 [(0, (2, 1000)), (2, (0, v2)), (3, (0, v3)), (4, (0, v4))] [] μ (am_res 0 q) := by
  intro v2 v3 v4 μ q h
  unfold M_waysIn_L5_b at h
  refine rn_sls 2 (pc' := 8) (ls' := [(0, (2, 1000)), (2, (0, v2)), (3, (0, v3)), (4, (0, v4))]) (st' := [(0, v2), (0, v4)]) rfl ?_
  refine rn_icmpn (t := 83) rfl rfl rfl rfl h (fun h => ?_) (fun h => ?_)
  · refine rn_sls 3 (pc' := 17) (ls' := [(0, (2, 1000)), (2, (0, v2)), (3, (0, v3)), (4, (0, v4))]) (st' := [(0, v4), (2, 1002)]) rfl ?_
    refine rn_iald (n := 120) rfl rfl rfl h (fun a1 h => ?_)
    refine rn_sls 1 (pc' := 19) (ls' := [(0, (2, 1000)), (2, (0, v2)), (3, (0, v3)), (4, (0, v4))]) (st' := [(0, 5), (0, a1)]) rfl ?_
    refine rn_icmp (t := 25) rfl rfl rfl rfl h (fun h => ?_) (fun h => ?_)
    · refine rn_sls 8 (pc' := 37) (ls' := [(0, (2, 1000)), (2, (0, v2)), (3, (0, v3)), (4, (0, v4))]) (st' := [(0, v4), (2, 1008), (0, (w32 (v4 + 1))), (2, 1000), (0, v3)]) rfl ?_
      refine rn_iald (n := 120) rfl rfl rfl h (fun a2 h => ?_)
      refine rn_sls 2 (pc' := 40) (ls' := [(0, (2, 1000)), (2, (0, v2)), (3, (0, v3)), (4, (0, v4))]) (st' := [(0, (w32 (a2 - 1))), (0, (w32 (v4 + 1))), (2, 1000), (0, v3)]) rfl ?_
      refine rn_call 0 0 [(2, 1000), (0, (w32 (v4 + 1))), (0, (w32 (a2 - 1)))] (r := [(0, v3)]) rfl ⟨rfl, Or.inl ⟨_, rfl, by decide⟩⟩ (by decide) (fun _ => ⟨_, rfl, rfl⟩) rfl rfl (Nat.le_of_ble_eq_true rfl) h (fun w hw => hrec _ _ _ _ hw) (fun a3 μ4 h => ?_)
      refine rn_sls 0 (pc' := 43) (ls' := [(0, (2, 1000)), (2, (0, v2)), (3, (0, v3)), (4, (0, v4))]) (st' := [(0, a3), (0, v3)]) rfl ?_
      refine rn_sls 4 (pc' := 50) (ls' := [(0, (2, 1000)), (2, (0, v2)), (3, (0, v3)), (4, (0, v4))]) (st' := [(0, v4), (2, 1008), (2, 1000), (0, a3), (0, v3)]) rfl ?_
      refine rn_iald (n := 120) rfl rfl rfl h (fun a5 h => ?_)
      refine rn_sls 5 (pc' := 59) (ls' := [(0, (2, 1000)), (2, (0, v2)), (3, (0, v3)), (4, (0, v4))]) (st' := [(0, v4), (2, 1009), (0, (w32 (a5 + 1))), (2, 1000), (0, a3), (0, v3)]) rfl ?_
      refine rn_iald (n := 120) rfl rfl rfl h (fun a6 h => ?_)
      refine rn_sls 2 (pc' := 62) (ls' := [(0, (2, 1000)), (2, (0, v2)), (3, (0, v3)), (4, (0, v4))]) (st' := [(0, (w32 (a6 - 1))), (0, (w32 (a5 + 1))), (2, 1000), (0, a3), (0, v3)]) rfl ?_
      refine rn_call 0 0 [(2, 1000), (0, (w32 (a5 + 1))), (0, (w32 (a6 - 1)))] (r := [(0, a3), (0, v3)]) rfl ⟨rfl, Or.inl ⟨_, rfl, by decide⟩⟩ (by decide) (fun _ => ⟨_, rfl, rfl⟩) rfl rfl (Nat.le_of_ble_eq_true rfl) h (fun w hw => hrec _ _ _ _ hw) (fun a7 μ8 h => ?_)
      refine rn_sls 0 (pc' := 65) (ls' := [(0, (2, 1000)), (2, (0, v2)), (3, (0, v3)), (4, (0, v4))]) (st' := [(0, a7), (0, a3), (0, v3)]) rfl ?_
      refine rn_sls 6 (pc' := 74) (ls' := [(3, (0, (w32 (v3 * (w32 (a3 + a7)))))), (0, (2, 1000)), (2, (0, v2)), (4, (0, v4))]) (st' := [(0, v4), (2, 1009)]) rfl ?_
      refine rn_iald (n := 120) rfl rfl rfl h (fun a9 h => ?_)
      refine rn_sls 1 (pc' := 77) (ls' := [(4, (0, a9)), (3, (0, (w32 (v3 * (w32 (a3 + a7)))))), (0, (2, 1000)), (2, (0, v2))]) (st' := []) rfl ?_
      exact rn_sub [2, 3, 1, 0] rfl (t_M_waysIn_B77 d rec hrec k5 hk5 _ _ _ _ _ h)
    · refine rn_goto (t := 77) rfl rfl rfl ?_
      exact rn_sub [0, 1, 2, 3] rfl (t_M_waysIn_B77 d rec hrec k5 hk5 _ _ _ _ _ h)
  · refine rn_sls 1 (pc' := 84) (ls' := [(0, (2, 1000)), (2, (0, v2)), (3, (0, v3)), (4, (0, v4))]) (st' := [(0, v3)]) rfl ?_
    exact rn_ireti rfl rfl rfl h rfl
set_option maxRecDepth 20000 in
theorem t_M_waysIn_L5 (d : Nat) (rec : Int → Int → am_M → am_O) (hrec : ∀ (v1 : Int) (v2 : Int) (μ : am_M) q, rec v1 v2 μ = some q → am_ar g_mt (d + 0) 220 [(2, 1000), (0, v1), (0, v2)] μ (am_res 0 q)) : ∀ (n : Nat) (v2 : Int) (v3 : Int) (v4 : Int) (μ : am_M) q, M_waysIn_L5 rec n v2 v3 v4 μ = some q → am_run none (am_ar g_mt (d + 0)) 5 (some .int) k_M_waysIn 5 [(0, (2, 1000)), (2, (0, v2)), (3, (0, v3)), (4, (0, v4))] [] μ (am_res 0 q) := by
  intro n
  induction n with
  | zero => intro v2 v3 v4 μ q h; cases h
  | succ n ih => intro v2 v3 v4 μ q h; exact t_M_waysIn_L5_b d rec hrec (M_waysIn_L5 rec n) ih v2 v3 v4 μ q h
set_option maxRecDepth 20000 in
theorem t_M_waysIn_e (d : Nat) (rec : Int → Int → am_M → am_O) (hrec : ∀ (v1 : Int) (v2 : Int) (μ : am_M) q, rec v1 v2 μ = some q → am_ar g_mt (d + 0) 220 [(2, 1000), (0, v1), (0, v2)] μ (am_res 0 q)) : ∀ (v1 : Int) (v2 : Int) (μ : am_M) q, M_waysIn_e rec v1 v2 μ = some q → am_run none (am_ar g_mt (d + 0)) 5 (some .int) k_M_waysIn 0 [(0, (2, 1000)), (1, (0, v1)), (2, (0, v2))] [] μ (am_res 0 q) := by
  intro v1 v2 μ q h
  unfold M_waysIn_e at h
  refine rn_sls 4 (pc' := 5) (ls' := [(4, (0, v1)), (3, (0, 1)), (0, (2, 1000)), (1, (0, v1)), (2, (0, v2))]) (st' := []) rfl ?_
  exact rn_sub [2, 4, 1, 0] rfl (t_M_waysIn_L5 d rec hrec  am_FU _ _ _ _ _ h)
set_option maxRecDepth 20000 in
theorem t_M_waysIn (d : Nat) : ∀ (n : Nat) (v1 : Int) (v2 : Int) (μ : am_M) q, M_waysIn n v1 v2 μ = some q → am_ar g_mt (d + 0 + n) 220 [(2, 1000), (0, v1), (0, v2)] μ (am_res 0 q) := by
  intro n
  induction n with
  | zero => intro v1 v2 μ q h; cases h
  | succ n ih =>
    intro v1 v2 μ q h
    exact am_ar_of (d := d + 0 + n) i_M_waysIn rfl rfl (Nat.le_of_ble_eq_true rfl) (am_run_mono (d := d + n + 0) (d' := d + 0 + n) (by omega) (t_M_waysIn_e (d + n) (M_waysIn n) (fun v1 v2 μ q h => am_ar_mono (d := d + 0 + n) (d' := d + n + 0) (by omega) (ih v1 v2 μ q h)) v1 v2 μ q h))
set_option maxRecDepth 20000 in
theorem t_M_haveIn_B155 (d : Nat) (rec : Int → Int → Int → Int → am_M → am_O) (hrec : ∀ (v1 : Int) (v2 : Int) (v3 : Int) (v4 : Int) (μ : am_M) q, rec v1 v2 v3 v4 μ = some q → am_ar g_mt (d + 2) 221 [(2, 1000), (0, v1), (0, v2), (0, v3), (0, v4)] μ (am_res 0 q)) (k6 : Int → Int → Int → Int → Int → am_M → am_O) (hk6 : ∀ (v2 : Int) (v3 : Int) (v4 : Int) (v5 : Int) (v6 : Int) (μ : am_M) q, k6 v2 v3 v4 v5 v6 μ = some q → am_run none (am_ar g_mt (d + 2)) 9 (some .int) k_M_haveIn 6 [(0, (2, 1000)), (2, (0, v2)), (3, (0, v3)), (4, (0, v4)), (5, (0, v5)), (6, (0, v6))] [] μ (am_res 0 q)) : ∀ (v2 : Int) (v3 : Int) (v4 : Int) (v5 : Int) (v6 : Int) (μ : am_M) q, M_haveIn_B155 rec k6 v2 v3 v4 v5 v6 μ = some q → am_run none (am_ar g_mt (d + 2)) 9 (some .int) k_M_haveIn 155 [(0, (2, 1000)), (2, (0, v2)), (3, (0, v3)), (4, (0, v4)), (5, (0, v5)), (6, (0, v6))] [] μ (am_res 0 q) := by
  intro v2 v3 v4 v5 v6 μ q h
  unfold M_haveIn_B155 at h
  refine rn_sls 1 (pc' := 158) (ls' := [(6, (0, (w32 (v6 + 1)))), (0, (2, 1000)), (2, (0, v2)), (3, (0, v3)), (4, (0, v4)), (5, (0, v5))]) (st' := []) rfl ?_
  refine rn_goto (t := 6) rfl rfl rfl ?_
  exact rn_sub [1, 2, 3, 4, 5, 0] rfl (hk6 _ _ _ _ _ _ _ h)
set_option maxRecDepth 20000 in
theorem t_M_haveIn_B142 (d : Nat) (rec : Int → Int → Int → Int → am_M → am_O) (hrec : ∀ (v1 : Int) (v2 : Int) (v3 : Int) (v4 : Int) (μ : am_M) q, rec v1 v2 v3 v4 μ = some q → am_ar g_mt (d + 2) 221 [(2, 1000), (0, v1), (0, v2), (0, v3), (0, v4)] μ (am_res 0 q)) (k6 : Int → Int → Int → Int → Int → am_M → am_O) (hk6 : ∀ (v2 : Int) (v3 : Int) (v4 : Int) (v5 : Int) (v6 : Int) (μ : am_M) q, k6 v2 v3 v4 v5 v6 μ = some q → am_run none (am_ar g_mt (d + 2)) 9 (some .int) k_M_haveIn 6 [(0, (2, 1000)), (2, (0, v2)), (3, (0, v3)), (4, (0, v4)), (5, (0, v5)), (6, (0, v6))] [] μ (am_res 0 q)) : ∀ (v2 : Int) (v3 : Int) (v4 : Int) (v6 : Int) (s0 : Int) (s1 : Int) (s2 : Int) (μ : am_M) q, M_haveIn_B142 rec k6 v2 v3 v4 v6 s0 s1 s2 μ = some q → am_run none (am_ar g_mt (d + 2)) 9 (some .int) k_M_haveIn 142 [(0, (2, 1000)), (2, (0, v2)), (3, (0, v3)), (4, (0, v4)), (6, (0, v6))] [(0, s2), (0, s1), (0, s0)] μ (am_res 0 q) := by
  intro v2 v3 v4 v6 s0 s1 s2 μ q h
  unfold M_haveIn_B142 at h
  refine rn_sls 6 (pc' := 152) (ls' := [(5, (0, (w32 (s0 + (w32 (s1 + s2)))))), (0, (2, 1000)), (2, (0, v2)), (3, (0, v3)), (4, (0, v4)), (6, (0, v6))]) (st' := [(0, v6), (2, 1009)]) rfl ?_
  refine rn_iald (n := 120) rfl rfl rfl h (fun a1 h => ?_)
  refine rn_sls 1 (pc' := 155) (ls' := [(6, (0, a1)), (5, (0, (w32 (s0 + (w32 (s1 + s2)))))), (0, (2, 1000)), (2, (0, v2)), (3, (0, v3)), (4, (0, v4))]) (st' := []) rfl ?_
  exact rn_sub [2, 3, 4, 5, 1, 0] rfl (t_M_haveIn_B155 d rec hrec k6 hk6 _ _ _ _ _ _ _ h)
set_option maxRecDepth 20000 in
theorem t_M_haveIn_B133 (d : Nat) (rec : Int → Int → Int → Int → am_M → am_O) (hrec : ∀ (v1 : Int) (v2 : Int) (v3 : Int) (v4 : Int) (μ : am_M) q, rec v1 v2 v3 v4 μ = some q → am_ar g_mt (d + 2) 221 [(2, 1000), (0, v1), (0, v2), (0, v3), (0, v4)] μ (am_res 0 q)) (k6 : Int → Int → Int → Int → Int → am_M → am_O) (hk6 : ∀ (v2 : Int) (v3 : Int) (v4 : Int) (v5 : Int) (v6 : Int) (μ : am_M) q, k6 v2 v3 v4 v5 v6 μ = some q → am_run none (am_ar g_mt (d + 2)) 9 (some .int) k_M_haveIn 6 [(0, (2, 1000)), (2, (0, v2)), (3, (0, v3)), (4, (0, v4)), (5, (0, v5)), (6, (0, v6))] [] μ (am_res 0 q)) : ∀ (v2 : Int) (v3 : Int) (v4 : Int) (v6 : Int) (s0 : Int) (s1 : Int) (μ : am_M) q, M_haveIn_B133 rec k6 v2 v3 v4 v6 s0 s1 μ = some q → am_run none (am_ar g_mt (d + 2)) 9 (some .int) k_M_haveIn 133 [(0, (2, 1000)), (2, (0, v2)), (3, (0, v3)), (4, (0, v4)), (6, (0, v6))] [(0, s1), (0, s0)] μ (am_res 0 q) := by
  intro v2 v3 v4 v6 s0 s1 μ q h
  unfold M_haveIn_B133 at h
  refine rn_sls 1 (pc' := 134) (ls' := [(0, (2, 1000)), (2, (0, v2)), (3, (0, v3)), (4, (0, v4)), (6, (0, v6))]) (st' := [(0, v3), (0, s1), (0, s0)]) rfl ?_
  refine rn_ifn (t := 141) rfl rfl rfl rfl h (fun h => ?_) (fun h => ?_)
  · refine rn_sls 1 (pc' := 138) (ls' := [(0, (2, 1000)), (2, (0, v2)), (3, (0, v3)), (4, (0, v4)), (6, (0, v6))]) (st' := [(0, 1), (0, s1), (0, s0)]) rfl ?_
    refine rn_goto (t := 142) rfl rfl rfl ?_
    exact rn_sub [0, 1, 2, 3, 4] rfl (t_M_haveIn_B142 d rec hrec k6 hk6 _ _ _ _ _ _ _ _ _ h)
  · refine rn_sls 1 (pc' := 142) (ls' := [(0, (2, 1000)), (2, (0, v2)), (3, (0, v3)), (4, (0, v4)), (6, (0, v6))]) (st' := [(0, 0), (0, s1), (0, s0)]) rfl ?_
    exact rn_sub [0, 1, 2, 3, 4] rfl (t_M_haveIn_B142 d rec hrec k6 hk6 _ _ _ _ _ _ _ _ _ h)
set_option maxRecDepth 20000 in
theorem t_M_haveIn_B43 (d : Nat) (rec : Int → Int → Int → Int → am_M → am_O) (hrec : ∀ (v1 : Int) (v2 : Int) (v3 : Int) (v4 : Int) (μ : am_M) q, rec v1 v2 v3 v4 μ = some q → am_ar g_mt (d + 2) 221 [(2, 1000), (0, v1), (0, v2), (0, v3), (0, v4)] μ (am_res 0 q)) (k6 : Int → Int → Int → Int → Int → am_M → am_O) (hk6 : ∀ (v2 : Int) (v3 : Int) (v4 : Int) (v5 : Int) (v6 : Int) (μ : am_M) q, k6 v2 v3 v4 v5 v6 μ = some q → am_run none (am_ar g_mt (d + 2)) 9 (some .int) k_M_haveIn 6 [(0, (2, 1000)), (2, (0, v2)), (3, (0, v3)), (4, (0, v4)), (5, (0, v5)), (6, (0, v6))] [] μ (am_res 0 q)) : ∀ (v2 : Int) (v3 : Int) (v4 : Int) (v6 : Int) (s0 : Int) (s1 : Int) (μ : am_M) q, M_haveIn_B43 rec k6 v2 v3 v4 v6 s0 s1 μ = some q → am_run none (am_ar g_mt (d + 2)) 9 (some .int) k_M_haveIn 43 [(0, (2, 1000)), (2, (0, v2)), (3, (0, v3)), (4, (0, v4)), (6, (0, v6))] [(0, s1), (0, s0)] μ (am_res 0 q) := by
  intro v2 v3 v4 v6 s0 s1 μ q h
  unfold M_haveIn_B43 at h
  refine rn_sls 5 (pc' := 52) (ls' := [(5, (0, (w32 (s0 + s1)))), (0, (2, 1000)), (2, (0, v2)), (3, (0, v3)), (4, (0, v4)), (6, (0, v6))]) (st' := [(0, v6), (2, 1002)]) rfl ?_
  refine rn_iald (n := 120) rfl rfl rfl h (fun a1 h => ?_)
  refine rn_sls 1 (pc' := 54) (ls' := [(5, (0, (w32 (s0 + s1)))), (0, (2, 1000)), (2, (0, v2)), (3, (0, v3)), (4, (0, v4)), (6, (0, v6))]) (st' := [(0, 5), (0, a1)]) rfl ?_
  refine rn_icmp (t := 60) rfl rfl rfl rfl h (fun h => ?_) (fun h => ?_)
  · refine rn_sls 7 (pc' := 71) (ls' := [(5, (0, (w32 (s0 + s1)))), (0, (2, 1000)), (2, (0, v2)), (3, (0, v3)), (4, (0, v4)), (6, (0, v6))]) (st' := [(0, v6), (2, 1008), (0, (w32 (v6 + 1))), (2, 1000)]) rfl ?_
    refine rn_iald (n := 120) rfl rfl rfl h (fun a2 h => ?_)
    refine rn_sls 4 (pc' := 77) (ls' := [(5, (0, (w32 (s0 + s1)))), (0, (2, 1000)), (2, (0, v2)), (3, (0, v3)), (4, (0, v4)), (6, (0, v6))]) (st' := [(0, v4), (0, v3), (0, (w32 (a2 - 1))), (0, (w32 (v6 + 1))), (2, 1000)]) rfl ?_
    refine rn_call 0 0 [(2, 1000), (0, (w32 (v6 + 1))), (0, (w32 (a2 - 1))), (0, v3), (0, v4)] (r := []) rfl ⟨rfl, Or.inl ⟨_, rfl, by decide⟩⟩ (by decide) (fun _ => ⟨_, rfl, rfl⟩) rfl rfl (Nat.le_of_ble_eq_true rfl) h (fun w hw => hrec _ _ _ _ _ _ hw) (fun a3 μ4 h => ?_)
    refine rn_sls 0 (pc' := 80) (ls' := [(5, (0, (w32 (s0 + s1)))), (0, (2, 1000)), (2, (0, v2)), (3, (0, v3)), (4, (0, v4)), (6, (0, v6))]) (st' := [(0, a3)]) rfl ?_
    refine rn_sls 5 (pc' := 89) (ls' := [(7, (0, a3)), (5, (0, (w32 (s0 + s1)))), (0, (2, 1000)), (2, (0, v2)), (3, (0, v3)), (4, (0, v4)), (6, (0, v6))]) (st' := [(0, v6), (2, 1008), (2, 1000)]) rfl ?_
    refine rn_iald (n := 120) rfl rfl rfl h (fun a5 h => ?_)
    refine rn_sls 5 (pc' := 98) (ls' := [(7, (0, a3)), (5, (0, (w32 (s0 + s1)))), (0, (2, 1000)), (2, (0, v2)), (3, (0, v3)), (4, (0, v4)), (6, (0, v6))]) (st' := [(0, v6), (2, 1009), (0, (w32 (a5 + 1))), (2, 1000)]) rfl ?_
    refine rn_iald (n := 120) rfl rfl rfl h (fun a6 h => ?_)
    refine rn_sls 4 (pc' := 104) (ls' := [(7, (0, a3)), (5, (0, (w32 (s0 + s1)))), (0, (2, 1000)), (2, (0, v2)), (3, (0, v3)), (4, (0, v4)), (6, (0, v6))]) (st' := [(0, v4), (0, v3), (0, (w32 (a6 - 1))), (0, (w32 (a5 + 1))), (2, 1000)]) rfl ?_
    refine rn_call 0 0 [(2, 1000), (0, (w32 (a5 + 1))), (0, (w32 (a6 - 1))), (0, v3), (0, v4)] (r := []) rfl ⟨rfl, Or.inl ⟨_, rfl, by decide⟩⟩ (by decide) (fun _ => ⟨_, rfl, rfl⟩) rfl rfl (Nat.le_of_ble_eq_true rfl) h (fun w hw => hrec _ _ _ _ _ _ hw) (fun a7 μ8 h => ?_)
    refine rn_sls 0 (pc' := 107) (ls' := [(7, (0, a3)), (5, (0, (w32 (s0 + s1)))), (0, (2, 1000)), (2, (0, v2)), (3, (0, v3)), (4, (0, v4)), (6, (0, v6))]) (st' := [(0, a7)]) rfl ?_
    refine rn_sls 3 (pc' := 113) (ls' := [(8, (0, a7)), (7, (0, a3)), (5, (0, (w32 (s0 + s1)))), (0, (2, 1000)), (2, (0, v2)), (3, (0, v3)), (4, (0, v4)), (6, (0, v6))]) (st' := [(0, v4), (0, (w32 (s0 + s1)))]) rfl ?_
    refine rn_if (t := 126) rfl rfl rfl rfl h (fun h => ?_) (fun h => ?_)
    · refine rn_sls 2 (pc' := 130) (ls' := [(8, (0, a7)), (7, (0, a3)), (5, (0, (w32 (s0 + s1)))), (0, (2, 1000)), (2, (0, v2)), (3, (0, v3)), (4, (0, v4)), (6, (0, v6))]) (st' := [(0, a7), (0, a3), (0, (w32 (s0 + s1)))]) rfl ?_
      refine rn_min rfl ⟨rfl, Or.inr ⟨_, rfl, by decide⟩⟩ rfl (Nat.le_of_ble_eq_true rfl) ?_
      refine rn_nm (ls := fun x => [(8, (0, a7)), (7, (0, a3)), (5, (0, (w32 (s0 + s1)))), (0, (2, 1000)), (2, (0, v2)), (3, (0, v3)), (4, (0, v4)), (6, (0, v6))]) (st := fun x => [(0, x), (0, (w32 (s0 + s1)))]) h (fun a9 h => ?_)
      exact rn_sub [3, 4, 5, 6, 7] rfl (t_M_haveIn_B133 d rec hrec k6 hk6 _ _ _ _ _ _ _ _ h)
    · refine rn_sls 2 (pc' := 120) (ls' := [(8, (0, a7)), (7, (0, a3)), (5, (0, (w32 (s0 + s1)))), (0, (2, 1000)), (2, (0, v2)), (3, (0, v3)), (4, (0, v4)), (6, (0, v6))]) (st' := [(0, a7), (0, a3), (0, (w32 (s0 + s1)))]) rfl ?_
      refine rn_max rfl ⟨rfl, Or.inr ⟨_, rfl, by decide⟩⟩ rfl (Nat.le_of_ble_eq_true rfl) ?_
      refine rn_nm (ls := fun x => [(8, (0, a7)), (7, (0, a3)), (5, (0, (w32 (s0 + s1)))), (0, (2, 1000)), (2, (0, v2)), (3, (0, v3)), (4, (0, v4)), (6, (0, v6))]) (st := fun x => [(0, x), (0, (w32 (s0 + s1)))]) h (fun a10 h => ?_)
      refine rn_goto (t := 133) rfl rfl rfl ?_
      exact rn_sub [3, 4, 5, 6, 7] rfl (t_M_haveIn_B133 d rec hrec k6 hk6 _ _ _ _ _ _ _ _ h)
  · refine rn_goto (t := 155) rfl rfl rfl ?_
    exact rn_sub [1, 2, 3, 4, 0, 5] rfl (t_M_haveIn_B155 d rec hrec k6 hk6 _ _ _ _ _ _ _ h)
set_option maxRecDepth 20000 in
theorem t_M_haveIn_L6_b (d : Nat) (rec : Int → Int → Int → Int → am_M → am_O) (hrec : ∀ (v1 : Int) (v2 : Int) (v3 : Int) (v4 : Int) (μ : am_M) q, rec v1 v2 v3 v4 μ = some q → am_ar g_mt (d + 2) 221 [(2, 1000), (0, v1), (0, v2), (0, v3), (0, v4)] μ (am_res 0 q)) (k6 : Int → Int → Int → Int → Int → am_M → am_O) (hk6 : ∀ (v2 : Int) (v3 : Int) (v4 : Int) (v5 : Int) (v6 : Int) (μ : am_M) q, k6 v2 v3 v4 v5 v6 μ = some q → am_run none (am_ar g_mt (d + 2)) 9 (some .int) k_M_haveIn 6 [(0, (2, 1000)), (2, (0, v2)), (3, (0, v3)), (4, (0, v4)), (5, (0, v5)), (6, (0, v6))] [] μ (am_res 0 q)) : ∀ (v2 : Int) (v3 : Int) (v4 : Int) (v5 : Int) (v6 : Int) (μ : am_M) q, M_haveIn_L6_b rec k6 v2 v3 v4 v5 v6 μ = some q → am_run none (am_ar g_mt (d + 2)) 9 (some .int) k_M_haveIn 6 [(0, (2, 1000)), (2, (0, v2)), (3, (0, v3)), (4, (0, v4)), (5, (0, v5)), (6, (0, v6))] [] μ (am_res 0 q) := by
  intro v2 v3 v4 v5 v6 μ q h
  unfold M_haveIn_L6_b at h
  refine rn_sls 2 (pc' := 9) (ls' := [(0, (2, 1000)), (2, (0, v2)), (3, (0, v3)), (4, (0, v4)), (5, (0, v5)), (6, (0, v6))]) (st' := [(0, v2), (0, v6)]) rfl ?_
  refine rn_icmpn (t := 161) rfl rfl rfl rfl h (fun h => ?_) (fun h => ?_)
  · refine rn_sls 4 (pc' := 20) (ls' := [(0, (2, 1000)), (2, (0, v2)), (3, (0, v3)), (4, (0, v4)), (5, (0, v5)), (6, (0, v6))]) (st' := [(0, v6), (2, 1002), (0, v5)]) rfl ?_
    refine rn_iald (n := 120) rfl rfl rfl h (fun a1 h => ?_)
    refine rn_ifn (t := 28) rfl rfl rfl rfl h (fun h => ?_) (fun h => ?_)
    · refine rn_sls 1 (pc' := 25) (ls' := [(0, (2, 1000)), (2, (0, v2)), (3, (0, v3)), (4, (0, v4)), (5, (0, v5)), (6, (0, v6))]) (st' := [(0, 0), (0, v5)]) rfl ?_
      refine rn_goto (t := 43) rfl rfl rfl ?_
      exact rn_sub [0, 1, 2, 3, 5] rfl (t_M_haveIn_B43 d rec hrec k6 hk6 _ _ _ _ _ _ _ _ h)
    · refine rn_sls 1 (pc' := 29) (ls' := [(0, (2, 1000)), (2, (0, v2)), (3, (0, v3)), (4, (0, v4)), (5, (0, v5)), (6, (0, v6))]) (st' := [(0, v3), (0, v5)]) rfl ?_
      refine rn_ifn (t := 36) rfl rfl rfl rfl h (fun h => ?_) (fun h => ?_)
      · refine rn_sls 1 (pc' := 33) (ls' := [(0, (2, 1000)), (2, (0, v2)), (3, (0, v3)), (4, (0, v4)), (5, (0, v5)), (6, (0, v6))]) (st' := [(0, 1), (0, v5)]) rfl ?_
        refine rn_goto (t := 43) rfl rfl rfl ?_
        exact rn_sub [0, 1, 2, 3, 5] rfl (t_M_haveIn_B43 d rec hrec k6 hk6 _ _ _ _ _ _ _ _ h)
      · refine rn_sls 3 (pc' := 40) (ls' := [(0, (2, 1000)), (2, (0, v2)), (3, (0, v3)), (4, (0, v4)), (5, (0, v5)), (6, (0, v6))]) (st' := [(0, v3), (0, v6), (2, 1000), (0, v5)]) rfl ?_
        refine rn_call 0 0 [(2, 1000), (0, v6), (0, v3)] (r := [(0, v5)]) rfl ⟨rfl, Or.inl ⟨_, rfl, by decide⟩⟩ (by decide) (fun _ => ⟨_, rfl, rfl⟩) rfl rfl (Nat.le_of_ble_eq_true rfl) h (fun w hw => t_M_readsOf (d + 0) _ _ _ _ hw) (fun a2 μ3 h => ?_)
        refine rn_sls 0 (pc' := 43) (ls' := [(0, (2, 1000)), (2, (0, v2)), (3, (0, v3)), (4, (0, v4)), (5, (0, v5)), (6, (0, v6))]) (st' := [(0, a2), (0, v5)]) rfl ?_
        exact rn_sub [0, 1, 2, 3, 5] rfl (t_M_haveIn_B43 d rec hrec k6 hk6 _ _ _ _ _ _ _ _ h)
  · refine rn_sls 1 (pc' := 163) (ls' := [(0, (2, 1000)), (2, (0, v2)), (3, (0, v3)), (4, (0, v4)), (5, (0, v5)), (6, (0, v6))]) (st' := [(0, v5)]) rfl ?_
    exact rn_ireti rfl rfl rfl h rfl
set_option maxRecDepth 20000 in
theorem t_M_haveIn_L6 (d : Nat) (rec : Int → Int → Int → Int → am_M → am_O) (hrec : ∀ (v1 : Int) (v2 : Int) (v3 : Int) (v4 : Int) (μ : am_M) q, rec v1 v2 v3 v4 μ = some q → am_ar g_mt (d + 2) 221 [(2, 1000), (0, v1), (0, v2), (0, v3), (0, v4)] μ (am_res 0 q)) : ∀ (n : Nat) (v2 : Int) (v3 : Int) (v4 : Int) (v5 : Int) (v6 : Int) (μ : am_M) q, M_haveIn_L6 rec n v2 v3 v4 v5 v6 μ = some q → am_run none (am_ar g_mt (d + 2)) 9 (some .int) k_M_haveIn 6 [(0, (2, 1000)), (2, (0, v2)), (3, (0, v3)), (4, (0, v4)), (5, (0, v5)), (6, (0, v6))] [] μ (am_res 0 q) := by
  intro n
  induction n with
  | zero => intro v2 v3 v4 v5 v6 μ q h; cases h
  | succ n ih => intro v2 v3 v4 v5 v6 μ q h; exact t_M_haveIn_L6_b d rec hrec (M_haveIn_L6 rec n) ih v2 v3 v4 v5 v6 μ q h
set_option maxRecDepth 20000 in
theorem t_M_haveIn_e (d : Nat) (rec : Int → Int → Int → Int → am_M → am_O) (hrec : ∀ (v1 : Int) (v2 : Int) (v3 : Int) (v4 : Int) (μ : am_M) q, rec v1 v2 v3 v4 μ = some q → am_ar g_mt (d + 2) 221 [(2, 1000), (0, v1), (0, v2), (0, v3), (0, v4)] μ (am_res 0 q)) : ∀ (v1 : Int) (v2 : Int) (v3 : Int) (v4 : Int) (μ : am_M) q, M_haveIn_e rec v1 v2 v3 v4 μ = some q → am_run none (am_ar g_mt (d + 2)) 9 (some .int) k_M_haveIn 0 [(0, (2, 1000)), (1, (0, v1)), (2, (0, v2)), (3, (0, v3)), (4, (0, v4))] [] μ (am_res 0 q) := by
  intro v1 v2 v3 v4 μ q h
  unfold M_haveIn_e at h
  refine rn_sls 4 (pc' := 6) (ls' := [(6, (0, v1)), (5, (0, 0)), (0, (2, 1000)), (1, (0, v1)), (2, (0, v2)), (3, (0, v3)), (4, (0, v4))]) (st' := []) rfl ?_
  exact rn_sub [2, 4, 5, 6, 1, 0] rfl (t_M_haveIn_L6 d rec hrec  am_FU _ _ _ _ _ _ _ h)
set_option maxRecDepth 20000 in
theorem t_M_haveIn (d : Nat) : ∀ (n : Nat) (v1 : Int) (v2 : Int) (v3 : Int) (v4 : Int) (μ : am_M) q, M_haveIn n v1 v2 v3 v4 μ = some q → am_ar g_mt (d + 2 + n) 221 [(2, 1000), (0, v1), (0, v2), (0, v3), (0, v4)] μ (am_res 0 q) := by
  intro n
  induction n with
  | zero => intro v1 v2 v3 v4 μ q h; cases h
  | succ n ih =>
    intro v1 v2 v3 v4 μ q h
    exact am_ar_of (d := d + 2 + n) i_M_haveIn rfl rfl (Nat.le_of_ble_eq_true rfl) (am_run_mono (d := d + n + 2) (d' := d + 2 + n) (by omega) (t_M_haveIn_e (d + n) (M_haveIn n) (fun v1 v2 v3 v4 μ q h => am_ar_mono (d := d + 2 + n) (d' := d + n + 2) (by omega) (ih v1 v2 v3 v4 μ q h)) v1 v2 v3 v4 μ q h))
set_option maxRecDepth 20000 in
theorem t_M_ways_B69 (d : Nat) : ∀ (s1 : Int) (s2 : Int) (s3 : Int) (s4 : Int) (μ : am_M) q, M_ways_B69 s1 s2 s3 s4 μ = some q → am_run none (am_ar g_mt (d + 66)) 3 (some .int) k_M_ways 69 [] [(0, s4), (0, s3), (0, s2), (0, s1), (2, 1000)] μ (am_res 0 q) := by
  intro s1 s2 s3 s4 μ q h
  unfold M_ways_B69 at h
  refine rn_call 0 0 [(2, 1000), (0, s1), (0, s2), (0, s3), (0, s4)] (r := []) rfl ⟨rfl, Or.inl ⟨_, rfl, by decide⟩⟩ (by decide) (fun _ => ⟨_, rfl, rfl⟩) rfl rfl (Nat.le_of_ble_eq_true rfl) h (fun w hw => am_ar_mono (by omega) (t_M_haveIn 0 64 _ _ _ _ _ _ hw)) (fun a1 μ2 h => ?_)
  refine rn_sls 0 (pc' := 72) (ls' := []) (st' := [(0, a1)]) rfl ?_
  exact rn_ireti rfl rfl rfl h rfl
set_option maxRecDepth 20000 in
theorem t_M_ways (d : Nat) : ∀ (v1 : Int) (v2 : Int) (μ : am_M) q, M_ways v1 v2 μ = some q → am_ar g_mt (d + 67) 222 [(2, 1000), (0, v1), (0, v2)] μ (am_res 0 q) := by
  intro v1 v2 μ q h
  unfold M_ways at h
  refine am_ar_of (d := d + 66) i_M_ways rfl rfl (Nat.le_of_ble_eq_true rfl) ?_
  show am_run none (am_ar g_mt (d + 66)) 3 (some .int) k_M_ways 0 [(0, (2, 1000)), (1, (0, v1)), (2, (0, v2))] [] μ (am_res 0 q)
  refine rn_sls 2 (pc' := 2) (ls' := [(0, (2, 1000)), (1, (0, v1)), (2, (0, v2))]) (st' := [(0, 0), (2, 1000)]) rfl ?_
  refine rn_put rfl rfl rfl rfl (Or.inl ⟨rfl, rfl⟩) rfl h (fun μ1 h => ?_)
  refine rn_sls 2 (pc' := 7) (ls' := [(0, (2, 1000)), (1, (0, v1)), (2, (0, v2))]) (st' := [(0, v1), (2, 1000)]) rfl ?_
  refine rn_call 0 0 [(2, 1000), (0, v1)] (r := []) rfl ⟨rfl, Or.inl ⟨_, rfl, by decide⟩⟩ (by decide) (fun _ => ⟨_, rfl, rfl⟩) rfl rfl (Nat.le_of_ble_eq_true rfl) h (fun w hw => t_M_isBill (d + 65) _ _ _ hw) (fun a2 μ3 h => ?_)
  refine rn_sls 0 (pc' := 10) (ls' := [(0, (2, 1000)), (1, (0, v1)), (2, (0, v2))]) (st' := [(0, a2)]) rfl ?_
  refine rn_if (t := 22) rfl rfl rfl rfl h (fun h => ?_) (fun h => ?_)
  · refine rn_sls 1 (pc' := 23) (ls' := [(0, (2, 1000)), (1, (0, v1)), (2, (0, v2))]) (st' := [(0, (-1))]) rfl ?_
    exact rn_ireti rfl rfl rfl h rfl
  · refine rn_sls 3 (pc' := 16) (ls' := [(0, (2, 1000)), (1, (0, v1)), (2, (0, v2))]) (st' := [(0, 2), (0, 0), (0, v2)]) rfl ?_
    refine rn_call 2 0 [(0, v2), (0, 0), (0, 2)] (r := []) rfl ⟨rfl, Or.inr ⟨_, rfl, by decide⟩⟩ (by decide) (fun z => absurd z (by decide)) rfl rfl (Nat.le_of_ble_eq_true rfl) h (fun w hw => t_M_within (d + 65) _ _ _ _ _ hw) (fun a4 μ5 h => ?_)
    refine rn_sls 0 (pc' := 19) (ls' := [(0, (2, 1000)), (1, (0, v1)), (2, (0, v2))]) (st' := [(0, a4)]) rfl ?_
    refine rn_ifn (t := 24) rfl rfl rfl rfl h (fun h => ?_) (fun h => ?_)
    · refine rn_sls 1 (pc' := 23) (ls' := [(0, (2, 1000)), (1, (0, v1)), (2, (0, v2))]) (st' := [(0, (-1))]) rfl ?_
      exact rn_ireti rfl rfl rfl h rfl
    · refine rn_sls 1 (pc' := 25) (ls' := [(0, (2, 1000)), (1, (0, v1)), (2, (0, v2))]) (st' := [(0, v2)]) rfl ?_
      refine rn_ifn (t := 46) rfl rfl rfl rfl h (fun h => ?_) (fun h => ?_)
      · refine rn_sls 4 (pc' := 34) (ls' := [(0, (2, 1000)), (1, (0, v1)), (2, (0, v2))]) (st' := [(0, v1), (2, 1017), (2, 1000)]) rfl ?_
        refine rn_iald (n := 8) rfl rfl rfl h (fun a9 h => ?_)
        refine rn_sls 2 (pc' := 37) (ls' := [(0, (2, 1000)), (1, (0, v1)), (2, (0, v2))]) (st' := [(0, v1), (2, 1000), (0, a9), (2, 1000)]) rfl ?_
        refine rn_call 0 0 [(2, 1000), (0, v1)] (r := [(0, a9), (2, 1000)]) rfl ⟨rfl, Or.inl ⟨_, rfl, by decide⟩⟩ (by decide) (fun _ => ⟨_, rfl, rfl⟩) rfl rfl (Nat.le_of_ble_eq_true rfl) h (fun w hw => t_M_lastLine (d + 65) _ _ _ hw) (fun a10 μ11 h => ?_)
        refine rn_sls 0 (pc' := 40) (ls' := [(0, (2, 1000)), (1, (0, v1)), (2, (0, v2))]) (st' := [(0, a10), (0, a9), (2, 1000)]) rfl ?_
        refine rn_call 0 0 [(2, 1000), (0, a9), (0, a10)] (r := []) rfl ⟨rfl, Or.inl ⟨_, rfl, by decide⟩⟩ (by decide) (fun _ => ⟨_, rfl, rfl⟩) rfl rfl (Nat.le_of_ble_eq_true rfl) h (fun w hw => am_ar_mono (by omega) (t_M_waysIn 0 64 _ _ _ _ hw)) (fun a12 μ13 h => ?_)
        refine rn_sls 0 (pc' := 43) (ls' := [(0, (2, 1000)), (1, (0, v1)), (2, (0, v2))]) (st' := [(0, a12)]) rfl ?_
        refine rn_goto (t := 72) rfl rfl rfl ?_
        exact rn_ireti rfl rfl rfl h rfl
      · refine rn_sls 4 (pc' := 52) (ls' := [(0, (2, 1000)), (1, (0, v1)), (2, (0, v2))]) (st' := [(0, v1), (2, 1017), (2, 1000)]) rfl ?_
        refine rn_iald (n := 8) rfl rfl rfl h (fun a6 h => ?_)
        refine rn_sls 2 (pc' := 55) (ls' := [(0, (2, 1000)), (1, (0, v1)), (2, (0, v2))]) (st' := [(0, v1), (2, 1000), (0, a6), (2, 1000)]) rfl ?_
        refine rn_call 0 0 [(2, 1000), (0, v1)] (r := [(0, a6), (2, 1000)]) rfl ⟨rfl, Or.inl ⟨_, rfl, by decide⟩⟩ (by decide) (fun _ => ⟨_, rfl, rfl⟩) rfl rfl (Nat.le_of_ble_eq_true rfl) h (fun w hw => t_M_lastLine (d + 65) _ _ _ hw) (fun a7 μ8 h => ?_)
        refine rn_sls 0 (pc' := 58) (ls' := [(0, (2, 1000)), (1, (0, v1)), (2, (0, v2))]) (st' := [(0, a7), (0, a6), (2, 1000)]) rfl ?_
        refine rn_sls 3 (pc' := 61) (ls' := [(0, (2, 1000)), (1, (0, v1)), (2, (0, v2))]) (st' := [(0, 1), (0, v2), (0, (-1)), (0, a7), (0, a6), (2, 1000)]) rfl ?_
        refine rn_icmpn (t := 68) rfl rfl rfl rfl h (fun h => ?_) (fun h => ?_)
        · refine rn_sls 1 (pc' := 65) (ls' := [(0, (2, 1000)), (1, (0, v1)), (2, (0, v2))]) (st' := [(0, 1), (0, (-1)), (0, a7), (0, a6), (2, 1000)]) rfl ?_
          refine rn_goto (t := 69) rfl rfl rfl ?_
          exact rn_sub [] rfl (t_M_ways_B69 d  _ _ _ _ _ _ h)
        · refine rn_sls 1 (pc' := 69) (ls' := [(0, (2, 1000)), (1, (0, v1)), (2, (0, v2))]) (st' := [(0, 0), (0, (-1)), (0, a7), (0, a6), (2, 1000)]) rfl ?_
          exact rn_sub [] rfl (t_M_ways_B69 d  _ _ _ _ _ _ h)
