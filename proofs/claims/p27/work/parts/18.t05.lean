/-! The code does what the functions say. Printed by program. -/
set_option maxRecDepth 20000 in
theorem t_L_act_B156 (d : Nat) : ∀ (s0 : Int) (s1 : Int) (μ : am_M) q, L_act_B156 s0 s1 μ = some q → am_run none (am_ar g_mt (d + 8)) 10 (some .boolean) k_L_act 156 [] [(0, s1), (0, s0)] μ (am_res 0 q) := by
  intro s0 s1 μ q h
  unfold L_act_B156 at h
  refine rn_icmpn (t := 163) rfl rfl rfl rfl h (fun h => ?_) (fun h => ?_)
  · refine rn_sls 1 (pc' := 160) (ls' := []) (st' := [(0, 1)]) rfl ?_
    refine rn_goto (t := 164) rfl rfl rfl ?_
    exact rn_iretb rfl rfl rfl (Or.inr rfl) h rfl
  · refine rn_sls 1 (pc' := 164) (ls' := []) (st' := [(0, 0)]) rfl ?_
    exact rn_iretb rfl rfl rfl (Or.inl rfl) h rfl
set_option maxRecDepth 20000 in
theorem t_L_act_B126 (d : Nat) : ∀ (v3 : Int) (v4 : Int) (v5 : Int) (μ : am_M) q, L_act_B126 v3 v4 v5 μ = some q → am_run none (am_ar g_mt (d + 8)) 10 (some .boolean) k_L_act 126 [(0, (2, 0)), (3, (0, v3)), (4, (0, v4)), (5, (0, v5))] [] μ (am_res 0 q) := by
  intro v3 v4 v5 μ q h
  unfold L_act_B126 at h
  refine rn_sls 8 (pc' := 137) (ls' := [(0, (2, 0)), (3, (0, v3)), (4, (0, v4)), (5, (0, v5))]) (st' := [(0, 1), (0, 1), (0, v4), (0, (aRem v3 9)), (0, v5), (2, 0)]) rfl ?_
  refine rn_call 0 0 [(2, 0), (0, v5), (0, (aRem v3 9)), (0, v4), (0, 1), (0, 1)] (r := []) rfl ⟨rfl, Or.inl ⟨_, rfl, by decide⟩⟩ (by decide) (fun _ => ⟨_, rfl, rfl⟩) rfl rfl (Nat.le_of_ble_eq_true rfl) h (fun w hw => t_X_begin (d + 3) _ _ _ _ _ _ _ hw) (fun a1 μ2 h => ?_)
  refine rn_sls 0 (pc' := 140) (ls' := [(0, (2, 0)), (3, (0, v3)), (4, (0, v4)), (5, (0, v5))]) (st' := [(0, a1)]) rfl ?_
  refine rn_sls 3 (pc' := 144) (ls' := [(0, (2, 0)), (3, (0, v3)), (4, (0, v4)), (5, (0, v5))]) (st' := [(0, 5), (0, v5), (2, 0), (0, a1)]) rfl ?_
  refine rn_call 0 0 [(2, 0), (0, v5), (0, 5)] (r := [(0, a1)]) rfl ⟨rfl, Or.inl ⟨_, rfl, by decide⟩⟩ (by decide) (fun _ => ⟨_, rfl, rfl⟩) rfl rfl (Nat.le_of_ble_eq_true rfl) h (fun w hw => t_X_bill (d + 6) _ _ _ _ hw) (fun a3 μ4 h => ?_)
  refine rn_sls 0 (pc' := 147) (ls' := [(0, (2, 0)), (3, (0, v3)), (4, (0, v4)), (5, (0, v5))]) (st' := [(0, a3), (0, a1)]) rfl ?_
  refine rn_sls 1 (pc' := 148) (ls' := [(0, (2, 0)), (3, (0, v3)), (4, (0, v4)), (5, (0, v5))]) (st' := [(0, 1), (0, a3), (0, a1)]) rfl ?_
  refine rn_icmpn (t := 155) rfl rfl rfl rfl h (fun h => ?_) (fun h => ?_)
  · refine rn_sls 1 (pc' := 152) (ls' := [(0, (2, 0)), (3, (0, v3)), (4, (0, v4)), (5, (0, v5))]) (st' := [(0, 1), (0, a1)]) rfl ?_
    refine rn_goto (t := 156) rfl rfl rfl ?_
    exact rn_sub [] rfl (t_L_act_B156 d  _ _ _ _ h)
  · refine rn_sls 1 (pc' := 156) (ls' := [(0, (2, 0)), (3, (0, v3)), (4, (0, v4)), (5, (0, v5))]) (st' := [(0, 0), (0, a1)]) rfl ?_
    exact rn_sub [] rfl (t_L_act_B156 d  _ _ _ _ h)
set_option maxRecDepth 20000 in
theorem t_L_act_B216 (d : Nat) : ∀ (v3 : Int) (v7 : Int) (v8 : Int) (v9 : Int) (μ : am_M) q, L_act_B216 v3 v7 v8 v9 μ = some q → am_run none (am_ar g_mt (d + 8)) 10 (some .boolean) k_L_act 216 [(0, (2, 0)), (3, (0, v3)), (7, (0, v7)), (8, (0, v8)), (9, (0, v9))] [] μ (am_res 0 q) := by
  intro v3 v7 v8 v9 μ q h
  unfold L_act_B216 at h
  refine rn_sls 2 (pc' := 219) (ls' := [(0, (2, 0)), (3, (0, v3)), (7, (0, v7)), (8, (0, v8)), (9, (0, v9))]) (st' := [(0, 6), (2, 0)]) rfl ?_
  refine rn_call 0 0 [(2, 0), (0, 6)] (r := []) rfl ⟨rfl, Or.inl ⟨_, rfl, by decide⟩⟩ (by decide) (fun _ => ⟨_, rfl, rfl⟩) rfl rfl (Nat.le_of_ble_eq_true rfl) h (fun w hw => t_X_machine (d + 4) _ _ _ hw) (fun a1 μ2 h => ?_)
  refine rn_sls 0 (pc' := 222) (ls' := [(0, (2, 0)), (3, (0, v3)), (7, (0, v7)), (8, (0, v8)), (9, (0, v9))]) (st' := [(0, a1)]) rfl ?_
  refine rn_sls 3 (pc' := 227) (ls' := [(0, (2, 0)), (3, (0, v3)), (7, (0, v7)), (8, (0, v8)), (9, (0, v9))]) (st' := [(0, (w32 (v7 + v9))), (0, a1)]) rfl ?_
  refine rn_icmpn (t := 240) rfl rfl rfl rfl h (fun h => ?_) (fun h => ?_)
  · refine rn_sls 2 (pc' := 232) (ls' := [(0, (2, 0)), (3, (0, v3)), (7, (0, v7)), (8, (0, v8)), (9, (0, v9))]) (st' := [(0, 4), (2, 0)]) rfl ?_
    refine rn_call 0 0 [(2, 0), (0, 4)] (r := []) rfl ⟨rfl, Or.inl ⟨_, rfl, by decide⟩⟩ (by decide) (fun _ => ⟨_, rfl, rfl⟩) rfl rfl (Nat.le_of_ble_eq_true rfl) h (fun w hw => t_X_machine (d + 4) _ _ _ hw) (fun a3 μ4 h => ?_)
    refine rn_sls 0 (pc' := 235) (ls' := [(0, (2, 0)), (3, (0, v3)), (7, (0, v7)), (8, (0, v8)), (9, (0, v9))]) (st' := [(0, a3)]) rfl ?_
    refine rn_sls 1 (pc' := 237) (ls' := [(0, (2, 0)), (3, (0, v3)), (7, (0, v7)), (8, (0, v8)), (9, (0, v9))]) (st' := [(0, v8), (0, a3)]) rfl ?_
    refine rn_icmpn (t := 242) rfl rfl rfl rfl h (fun h => ?_) (fun h => ?_)
    · refine rn_sls 1 (pc' := 241) (ls' := [(0, (2, 0)), (3, (0, v3)), (7, (0, v7)), (8, (0, v8)), (9, (0, v9))]) (st' := [(0, 0)]) rfl ?_
      exact rn_iretb rfl rfl rfl (Or.inl rfl) h rfl
    · refine rn_sls 2 (pc' := 245) (ls' := [(0, (2, 0)), (3, (0, v3)), (7, (0, v7)), (8, (0, v8)), (9, (0, v9))]) (st' := [(0, v3), (0, v9)]) rfl ?_
      refine rn_icmp (t := 257) rfl rfl rfl rfl h (fun h => ?_) (fun h => ?_)
      · refine rn_sls 1 (pc' := 258) (ls' := [(0, (2, 0)), (3, (0, v3)), (7, (0, v7)), (8, (0, v8)), (9, (0, v9))]) (st' := [(0, 1)]) rfl ?_
        refine rn_goto (t := 262) rfl rfl rfl ?_
        exact rn_iretb rfl rfl rfl (Or.inr rfl) h rfl
      · refine rn_sls 2 (pc' := 250) (ls' := [(0, (2, 0)), (3, (0, v3)), (7, (0, v7)), (8, (0, v8)), (9, (0, v9))]) (st' := [(0, 0), (2, 0)]) rfl ?_
        refine rn_call 0 0 [(2, 0), (0, 0)] (r := []) rfl ⟨rfl, Or.inl ⟨_, rfl, by decide⟩⟩ (by decide) (fun _ => ⟨_, rfl, rfl⟩) rfl rfl (Nat.le_of_ble_eq_true rfl) h (fun w hw => t_X_machine (d + 4) _ _ _ hw) (fun a5 μ6 h => ?_)
        refine rn_sls 0 (pc' := 253) (ls' := [(0, (2, 0)), (3, (0, v3)), (7, (0, v7)), (8, (0, v8)), (9, (0, v9))]) (st' := [(0, a5)]) rfl ?_
        refine rn_sls 1 (pc' := 254) (ls' := [(0, (2, 0)), (3, (0, v3)), (7, (0, v7)), (8, (0, v8)), (9, (0, v9))]) (st' := [(0, 1), (0, a5)]) rfl ?_
        refine rn_icmp (t := 261) rfl rfl rfl rfl h (fun h => ?_) (fun h => ?_)
        · refine rn_sls 1 (pc' := 262) (ls' := [(0, (2, 0)), (3, (0, v3)), (7, (0, v7)), (8, (0, v8)), (9, (0, v9))]) (st' := [(0, 0)]) rfl ?_
          exact rn_iretb rfl rfl rfl (Or.inl rfl) h rfl
        · refine rn_sls 1 (pc' := 258) (ls' := [(0, (2, 0)), (3, (0, v3)), (7, (0, v7)), (8, (0, v8)), (9, (0, v9))]) (st' := [(0, 1)]) rfl ?_
          refine rn_goto (t := 262) rfl rfl rfl ?_
          exact rn_iretb rfl rfl rfl (Or.inr rfl) h rfl
  · refine rn_sls 1 (pc' := 241) (ls' := [(0, (2, 0)), (3, (0, v3)), (7, (0, v7)), (8, (0, v8)), (9, (0, v9))]) (st' := [(0, 0)]) rfl ?_
    exact rn_iretb rfl rfl rfl (Or.inl rfl) h rfl
set_option maxRecDepth 20000 in
theorem t_L_act_B165 (d : Nat) : ∀ (v3 : Int) (μ : am_M) q, L_act_B165 v3 μ = some q → am_run none (am_ar g_mt (d + 8)) 10 (some .boolean) k_L_act 165 [(0, (2, 0)), (3, (0, v3))] [] μ (am_res 0 q) := by
  intro v3 μ q h
  unfold L_act_B165 at h
  refine rn_sls 2 (pc' := 167) (ls' := [(0, (2, 0)), (3, (0, v3))]) (st' := [(0, 0), (2, 0)]) rfl ?_
  refine rn_call 0 0 [(2, 0), (0, 0)] (r := []) rfl ⟨rfl, Or.inl ⟨_, rfl, by decide⟩⟩ (by decide) (fun _ => ⟨_, rfl, rfl⟩) rfl rfl (Nat.le_of_ble_eq_true rfl) h (fun w hw => t_X_machine (d + 4) _ _ _ hw) (fun a1 μ2 h => ?_)
  refine rn_sls 0 (pc' := 170) (ls' := [(0, (2, 0)), (3, (0, v3))]) (st' := [(0, a1)]) rfl ?_
  refine rn_sls 3 (pc' := 175) (ls' := [(6, (0, a1)), (0, (2, 0)), (3, (0, v3))]) (st' := [(0, 6), (2, 0)]) rfl ?_
  refine rn_call 0 0 [(2, 0), (0, 6)] (r := []) rfl ⟨rfl, Or.inl ⟨_, rfl, by decide⟩⟩ (by decide) (fun _ => ⟨_, rfl, rfl⟩) rfl rfl (Nat.le_of_ble_eq_true rfl) h (fun w hw => t_X_machine (d + 4) _ _ _ hw) (fun a3 μ4 h => ?_)
  refine rn_sls 0 (pc' := 178) (ls' := [(6, (0, a1)), (0, (2, 0)), (3, (0, v3))]) (st' := [(0, a3)]) rfl ?_
  refine rn_sls 3 (pc' := 182) (ls' := [(7, (0, a3)), (6, (0, a1)), (0, (2, 0)), (3, (0, v3))]) (st' := [(0, 4), (2, 0)]) rfl ?_
  refine rn_call 0 0 [(2, 0), (0, 4)] (r := []) rfl ⟨rfl, Or.inl ⟨_, rfl, by decide⟩⟩ (by decide) (fun _ => ⟨_, rfl, rfl⟩) rfl rfl (Nat.le_of_ble_eq_true rfl) h (fun w hw => t_X_machine (d + 4) _ _ _ hw) (fun a5 μ6 h => ?_)
  refine rn_sls 0 (pc' := 185) (ls' := [(7, (0, a3)), (6, (0, a1)), (0, (2, 0)), (3, (0, v3))]) (st' := [(0, a5)]) rfl ?_
  refine rn_sls 3 (pc' := 189) (ls' := [(8, (0, a5)), (7, (0, a3)), (6, (0, a1)), (0, (2, 0)), (3, (0, v3))]) (st' := [(0, v3), (2, 0)]) rfl ?_
  refine rn_call 0 0 [(2, 0), (0, v3)] (r := []) rfl ⟨rfl, Or.inl ⟨_, rfl, by decide⟩⟩ (by decide) (fun _ => ⟨_, rfl, rfl⟩) rfl rfl (Nat.le_of_ble_eq_true rfl) h (fun w hw => t_X_run (d + 0) _ _ _ hw) (fun a7 μ8 h => ?_)
  refine rn_sls 0 (pc' := 192) (ls' := [(8, (0, a5)), (7, (0, a3)), (6, (0, a1)), (0, (2, 0)), (3, (0, v3))]) (st' := [(0, a7)]) rfl ?_
  refine rn_sls 2 (pc' := 196) (ls' := [(9, (0, a7)), (8, (0, a5)), (7, (0, a3)), (6, (0, a1)), (0, (2, 0)), (3, (0, v3))]) (st' := [(0, a7)]) rfl ?_
  refine rn_if (t := 240) rfl rfl rfl rfl h (fun h => ?_) (fun h => ?_)
  · refine rn_sls 1 (pc' := 241) (ls' := [(9, (0, a7)), (8, (0, a5)), (7, (0, a3)), (6, (0, a1)), (0, (2, 0)), (3, (0, v3))]) (st' := [(0, 0)]) rfl ?_
    exact rn_iretb rfl rfl rfl (Or.inl rfl) h rfl
  · refine rn_sls 2 (pc' := 202) (ls' := [(9, (0, a7)), (8, (0, a5)), (7, (0, a3)), (6, (0, a1)), (0, (2, 0)), (3, (0, v3))]) (st' := [(0, v3), (0, a7)]) rfl ?_
    refine rn_icmpn (t := 240) rfl rfl rfl rfl h (fun h => ?_) (fun h => ?_)
    · refine rn_sls 2 (pc' := 208) (ls' := [(9, (0, a7)), (8, (0, a5)), (7, (0, a3)), (6, (0, a1)), (0, (2, 0)), (3, (0, v3))]) (st' := [(0, 1), (0, a1)]) rfl ?_
      refine rn_icmp (t := 216) rfl rfl rfl rfl h (fun h => ?_) (fun h => ?_)
      · exact rn_sub [4, 5, 2, 1, 0] rfl (t_L_act_B216 d  _ _ _ _ _ _ h)
      · refine rn_sls 1 (pc' := 213) (ls' := [(9, (0, a7)), (8, (0, a5)), (7, (0, a3)), (6, (0, a1)), (0, (2, 0)), (3, (0, v3))]) (st' := [(0, a7)]) rfl ?_
        refine rn_ifn (t := 240) rfl rfl rfl rfl h (fun h => ?_) (fun h => ?_)
        · exact rn_sub [4, 5, 2, 1, 0] rfl (t_L_act_B216 d  _ _ _ _ _ _ h)
        · refine rn_sls 1 (pc' := 241) (ls' := [(9, (0, a7)), (8, (0, a5)), (7, (0, a3)), (6, (0, a1)), (0, (2, 0)), (3, (0, v3))]) (st' := [(0, 0)]) rfl ?_
          exact rn_iretb rfl rfl rfl (Or.inl rfl) h rfl
    · refine rn_sls 1 (pc' := 241) (ls' := [(9, (0, a7)), (8, (0, a5)), (7, (0, a3)), (6, (0, a1)), (0, (2, 0)), (3, (0, v3))]) (st' := [(0, 0)]) rfl ?_
      exact rn_iretb rfl rfl rfl (Or.inl rfl) h rfl
set_option maxRecDepth 20000 in
theorem t_L_act_B263 (d : Nat) : ∀ (v2 : Int) (μ : am_M) q, L_act_B263 v2 μ = some q → am_run none (am_ar g_mt (d + 8)) 10 (some .boolean) k_L_act 263 [(0, (2, 0)), (2, (0, v2))] [] μ (am_res 0 q) := by
  intro v2 μ q h
  unfold L_act_B263 at h
  refine rn_sls 4 (pc' := 267) (ls' := [(0, (2, 0)), (2, (0, v2))]) (st' := [(0, (w32 (1 + v2))), (2, 0)]) rfl ?_
  refine rn_call 0 0 [(2, 0), (0, (w32 (1 + v2)))] (r := []) rfl ⟨rfl, Or.inl ⟨_, rfl, by decide⟩⟩ (by decide) (fun _ => ⟨_, rfl, rfl⟩) rfl rfl (Nat.le_of_ble_eq_true rfl) h (fun w hw => t_X_room (d + 7) _ _ _ hw) (fun a1 μ2 h => ?_)
  refine rn_sls 0 (pc' := 270) (ls' := [(0, (2, 0)), (2, (0, v2))]) (st' := [(0, a1)]) rfl ?_
  refine rn_if (t := 288) rfl rfl rfl rfl h (fun h => ?_) (fun h => ?_)
  · refine rn_sls 1 (pc' := 289) (ls' := [(0, (2, 0)), (2, (0, v2))]) (st' := [(0, 0)]) rfl ?_
    exact rn_iretb rfl rfl rfl (Or.inl rfl) h rfl
  · refine rn_sls 2 (pc' := 275) (ls' := [(0, (2, 0)), (2, (0, v2))]) (st' := [(0, 3), (2, 0)]) rfl ?_
    refine rn_call 0 0 [(2, 0), (0, 3)] (r := []) rfl ⟨rfl, Or.inl ⟨_, rfl, by decide⟩⟩ (by decide) (fun _ => ⟨_, rfl, rfl⟩) rfl rfl (Nat.le_of_ble_eq_true rfl) h (fun w hw => t_X_count (d + 7) _ _ _ hw) (fun a3 μ4 h => ?_)
    refine rn_sls 0 (pc' := 278) (ls' := [(0, (2, 0)), (2, (0, v2))]) (st' := [(0, a3)]) rfl ?_
    refine rn_sls 3 (pc' := 281) (ls' := [(0, (2, 0)), (2, (0, v2))]) (st' := [(0, (w32 (1 + v2))), (0, a3)]) rfl ?_
    refine rn_icmpn (t := 288) rfl rfl rfl rfl h (fun h => ?_) (fun h => ?_)
    · refine rn_sls 1 (pc' := 285) (ls' := [(0, (2, 0)), (2, (0, v2))]) (st' := [(0, 1)]) rfl ?_
      refine rn_goto (t := 289) rfl rfl rfl ?_
      exact rn_iretb rfl rfl rfl (Or.inr rfl) h rfl
    · refine rn_sls 1 (pc' := 289) (ls' := [(0, (2, 0)), (2, (0, v2))]) (st' := [(0, 0)]) rfl ?_
      exact rn_iretb rfl rfl rfl (Or.inl rfl) h rfl
set_option maxRecDepth 20000 in
theorem t_L_act_B290 (d : Nat) : ∀ (v3 : Int) (μ : am_M) q, L_act_B290 v3 μ = some q → am_run none (am_ar g_mt (d + 8)) 10 (some .boolean) k_L_act 290 [(0, (2, 0)), (3, (0, v3))] [] μ (am_res 0 q) := by
  intro v3 μ q h
  unfold L_act_B290 at h
  refine rn_sls 2 (pc' := 292) (ls' := [(0, (2, 0)), (3, (0, v3))]) (st' := [(0, v3), (2, 0)]) rfl ?_
  refine rn_call 0 0 [(2, 0), (0, v3)] (r := []) rfl ⟨rfl, Or.inl ⟨_, rfl, by decide⟩⟩ (by decide) (fun _ => ⟨_, rfl, rfl⟩) rfl rfl (Nat.le_of_ble_eq_true rfl) h (fun w hw => t_X_price (d + 7) _ _ _ hw) (fun a1 μ2 h => ?_)
  refine rn_sls 0 (pc' := 295) (ls' := [(0, (2, 0)), (3, (0, v3))]) (st' := [(0, a1)]) rfl ?_
  refine rn_if (t := 311) rfl rfl rfl rfl h (fun h => ?_) (fun h => ?_)
  · refine rn_sls 1 (pc' := 312) (ls' := [(0, (2, 0)), (3, (0, v3))]) (st' := [(0, 0)]) rfl ?_
    exact rn_iretb rfl rfl rfl (Or.inl rfl) h rfl
  · refine rn_sls 2 (pc' := 300) (ls' := [(0, (2, 0)), (3, (0, v3))]) (st' := [(0, 4), (2, 0)]) rfl ?_
    refine rn_call 0 0 [(2, 0), (0, 4)] (r := []) rfl ⟨rfl, Or.inl ⟨_, rfl, by decide⟩⟩ (by decide) (fun _ => ⟨_, rfl, rfl⟩) rfl rfl (Nat.le_of_ble_eq_true rfl) h (fun w hw => t_X_count (d + 7) _ _ _ hw) (fun a3 μ4 h => ?_)
    refine rn_sls 0 (pc' := 303) (ls' := [(0, (2, 0)), (3, (0, v3))]) (st' := [(0, a3)]) rfl ?_
    refine rn_sls 1 (pc' := 304) (ls' := [(0, (2, 0)), (3, (0, v3))]) (st' := [(0, v3), (0, a3)]) rfl ?_
    refine rn_icmpn (t := 311) rfl rfl rfl rfl h (fun h => ?_) (fun h => ?_)
    · refine rn_sls 1 (pc' := 308) (ls' := [(0, (2, 0)), (3, (0, v3))]) (st' := [(0, 1)]) rfl ?_
      refine rn_goto (t := 312) rfl rfl rfl ?_
      exact rn_iretb rfl rfl rfl (Or.inr rfl) h rfl
    · refine rn_sls 1 (pc' := 312) (ls' := [(0, (2, 0)), (3, (0, v3))]) (st' := [(0, 0)]) rfl ?_
      exact rn_iretb rfl rfl rfl (Or.inl rfl) h rfl
set_option maxRecDepth 20000 in
theorem t_L_act_B358 (d : Nat) : ∀ (v5 : Int) (μ : am_M) q, L_act_B358 v5 μ = some q → am_run none (am_ar g_mt (d + 8)) 10 (some .boolean) k_L_act 358 [(0, (2, 0)), (5, (0, v5))] [] μ (am_res 0 q) := by
  intro v5 μ q h
  unfold L_act_B358 at h
  refine rn_sls 3 (pc' := 362) (ls' := [(0, (2, 0)), (5, (0, v5))]) (st' := [(0, 5), (0, v5), (2, 0)]) rfl ?_
  refine rn_call 0 0 [(2, 0), (0, v5), (0, 5)] (r := []) rfl ⟨rfl, Or.inl ⟨_, rfl, by decide⟩⟩ (by decide) (fun _ => ⟨_, rfl, rfl⟩) rfl rfl (Nat.le_of_ble_eq_true rfl) h (fun w hw => t_X_bill (d + 6) _ _ _ _ hw) (fun a1 μ2 h => ?_)
  refine rn_sls 0 (pc' := 365) (ls' := [(0, (2, 0)), (5, (0, v5))]) (st' := [(0, a1)]) rfl ?_
  refine rn_ifn (t := 372) rfl rfl rfl rfl h (fun h => ?_) (fun h => ?_)
  · refine rn_sls 1 (pc' := 369) (ls' := [(0, (2, 0)), (5, (0, v5))]) (st' := [(0, 1)]) rfl ?_
    refine rn_goto (t := 373) rfl rfl rfl ?_
    exact rn_iretb rfl rfl rfl (Or.inr rfl) h rfl
  · refine rn_sls 1 (pc' := 373) (ls' := [(0, (2, 0)), (5, (0, v5))]) (st' := [(0, 0)]) rfl ?_
    exact rn_iretb rfl rfl rfl (Or.inl rfl) h rfl
set_option maxRecDepth 20000 in
theorem t_L_act_B443 (d : Nat) : ∀  (μ : am_M) q, L_act_B443  μ = some q → am_run none (am_ar g_mt (d + 8)) 10 (some .boolean) k_L_act 443 [(0, (2, 0))] [] μ (am_res 0 q) := by
  intro  μ q h
  unfold L_act_B443 at h
  refine rn_sls 3 (pc' := 446) (ls' := [(0, (2, 0))]) (st' := [(0, 1), (0, 3), (2, 0)]) rfl ?_
  refine rn_call 0 0 [(2, 0), (0, 3), (0, 1)] (r := []) rfl ⟨rfl, Or.inl ⟨_, rfl, by decide⟩⟩ (by decide) (fun _ => ⟨_, rfl, rfl⟩) rfl rfl (Nat.le_of_ble_eq_true rfl) h (fun w hw => t_X_mark (d + 6) _ _ _ _ hw) (fun a1 μ2 h => ?_)
  refine rn_sls 0 (pc' := 449) (ls' := [(0, (2, 0))]) (st' := [(0, a1)]) rfl ?_
  exact rn_iretB rfl rfl rfl h rfl
set_option maxRecDepth 20000 in
theorem t_L_act_B415 (d : Nat) : ∀  (μ : am_M) q, L_act_B415  μ = some q → am_run none (am_ar g_mt (d + 8)) 10 (some .boolean) k_L_act 415 [(0, (2, 0))] [] μ (am_res 0 q) := by
  intro  μ q h
  unfold L_act_B415 at h
  refine rn_sls 2 (pc' := 417) (ls' := [(0, (2, 0))]) (st' := [(0, 0), (2, 0)]) rfl ?_
  refine rn_call 0 0 [(2, 0), (0, 0)] (r := []) rfl ⟨rfl, Or.inl ⟨_, rfl, by decide⟩⟩ (by decide) (fun _ => ⟨_, rfl, rfl⟩) rfl rfl (Nat.le_of_ble_eq_true rfl) h (fun w hw => t_X_machine (d + 4) _ _ _ hw) (fun a1 μ2 h => ?_)
  refine rn_sls 0 (pc' := 420) (ls' := [(0, (2, 0))]) (st' := [(0, a1)]) rfl ?_
  refine rn_sls 1 (pc' := 421) (ls' := [(0, (2, 0))]) (st' := [(0, 2), (0, a1)]) rfl ?_
  refine rn_icmpn (t := 443) rfl rfl rfl rfl h (fun h => ?_) (fun h => ?_)
  · refine rn_sls 2 (pc' := 426) (ls' := [(0, (2, 0))]) (st' := [(0, 2), (2, 0)]) rfl ?_
    refine rn_call 0 0 [(2, 0), (0, 2)] (r := []) rfl ⟨rfl, Or.inl ⟨_, rfl, by decide⟩⟩ (by decide) (fun _ => ⟨_, rfl, rfl⟩) rfl rfl (Nat.le_of_ble_eq_true rfl) h (fun w hw => t_X_machine (d + 4) _ _ _ hw) (fun a3 μ4 h => ?_)
    refine rn_sls 0 (pc' := 429) (ls' := [(0, (2, 0))]) (st' := [(0, a3)]) rfl ?_
    refine rn_ifn (t := 441) rfl rfl rfl rfl h (fun h => ?_) (fun h => ?_)
    · refine rn_sls 2 (pc' := 435) (ls' := [(0, (2, 0))]) (st' := [(0, 7), (2, 0)]) rfl ?_
      refine rn_call 0 0 [(2, 0), (0, 7)] (r := []) rfl ⟨rfl, Or.inl ⟨_, rfl, by decide⟩⟩ (by decide) (fun _ => ⟨_, rfl, rfl⟩) rfl rfl (Nat.le_of_ble_eq_true rfl) h (fun w hw => t_X_machine (d + 4) _ _ _ hw) (fun a5 μ6 h => ?_)
      refine rn_sls 0 (pc' := 438) (ls' := [(0, (2, 0))]) (st' := [(0, a5)]) rfl ?_
      refine rn_if (t := 443) rfl rfl rfl rfl h (fun h => ?_) (fun h => ?_)
      · exact rn_sub [0] rfl (t_L_act_B443 d  _ _ h)
      · refine rn_sls 1 (pc' := 442) (ls' := [(0, (2, 0))]) (st' := [(0, 0)]) rfl ?_
        exact rn_iretb rfl rfl rfl (Or.inl rfl) h rfl
    · refine rn_sls 1 (pc' := 442) (ls' := [(0, (2, 0))]) (st' := [(0, 0)]) rfl ?_
      exact rn_iretb rfl rfl rfl (Or.inl rfl) h rfl
  · exact rn_sub [0] rfl (t_L_act_B443 d  _ _ h)
set_option maxRecDepth 20000 in
theorem t_L_act_B374 (d : Nat) : ∀ (v3 : Int) (v4 : Int) (v5 : Int) (μ : am_M) q, L_act_B374 v3 v4 v5 μ = some q → am_run none (am_ar g_mt (d + 8)) 10 (some .boolean) k_L_act 374 [(0, (2, 0)), (3, (0, v3)), (4, (0, v4)), (5, (0, v5))] [] μ (am_res 0 q) := by
  intro v3 v4 v5 μ q h
  unfold L_act_B374 at h
  refine rn_sls 2 (pc' := 378) (ls' := [(0, (2, 0)), (3, (0, v3)), (4, (0, v4)), (5, (0, v5))]) (st' := [(0, 1000), (2, 0)]) rfl ?_
  refine rn_call 0 0 [(2, 0), (0, 1000)] (r := []) rfl ⟨rfl, Or.inl ⟨_, rfl, by decide⟩⟩ (by decide) (fun _ => ⟨_, rfl, rfl⟩) rfl rfl (Nat.le_of_ble_eq_true rfl) h (fun w hw => t_X_run (d + 0) _ _ _ hw) (fun a1 μ2 h => ?_)
  refine rn_sls 0 (pc' := 381) (ls' := [(0, (2, 0)), (3, (0, v3)), (4, (0, v4)), (5, (0, v5))]) (st' := [(0, a1)]) rfl ?_
  refine rn_sls 3 (pc' := 384) (ls' := [(0, (2, 0)), (3, (0, v3)), (4, (0, v4)), (5, (0, v5))]) (st' := [(0, 0), (2, 0)]) rfl ?_
  refine rn_call 0 0 [(2, 0), (0, 0)] (r := []) rfl ⟨rfl, Or.inl ⟨_, rfl, by decide⟩⟩ (by decide) (fun _ => ⟨_, rfl, rfl⟩) rfl rfl (Nat.le_of_ble_eq_true rfl) h (fun w hw => t_X_machine (d + 4) _ _ _ hw) (fun a3 μ4 h => ?_)
  refine rn_sls 0 (pc' := 387) (ls' := [(0, (2, 0)), (3, (0, v3)), (4, (0, v4)), (5, (0, v5))]) (st' := [(0, a3)]) rfl ?_
  refine rn_sls 1 (pc' := 388) (ls' := [(0, (2, 0)), (3, (0, v3)), (4, (0, v4)), (5, (0, v5))]) (st' := [(0, 2), (0, a3)]) rfl ?_
  refine rn_icmpn (t := 415) rfl rfl rfl rfl h (fun h => ?_) (fun h => ?_)
  · refine rn_sls 1 (pc' := 392) (ls' := [(0, (2, 0)), (3, (0, v3)), (4, (0, v4)), (5, (0, v5))]) (st' := [(2, 0)]) rfl ?_
    refine rn_call 0 0 [(2, 0)] (r := []) rfl ⟨rfl, Or.inl ⟨_, rfl, by decide⟩⟩ (by decide) (fun _ => ⟨_, rfl, rfl⟩) rfl rfl (Nat.le_of_ble_eq_true rfl) h (fun w hw => t_X_given (d + 7)  _ _ hw) (fun a5 μ6 h => ?_)
    refine rn_sls 0 (pc' := 395) (ls' := [(0, (2, 0)), (3, (0, v3)), (4, (0, v4)), (5, (0, v5))]) (st' := [(0, a5)]) rfl ?_
    refine rn_sls 8 (pc' := 407) (ls' := [(0, (2, 0)), (3, (0, v3)), (4, (0, v4)), (5, (0, v5))]) (st' := [(0, 6), (0, 5), (0, v4), (0, (aRem v3 9)), (0, v5), (2, 0), (0, a5)]) rfl ?_
    refine rn_call 0 0 [(2, 0), (0, v5), (0, (aRem v3 9)), (0, v4), (0, 5), (0, 6)] (r := [(0, a5)]) rfl ⟨rfl, Or.inl ⟨_, rfl, by decide⟩⟩ (by decide) (fun _ => ⟨_, rfl, rfl⟩) rfl rfl (Nat.le_of_ble_eq_true rfl) h (fun w hw => t_X_free (d + 0) _ _ _ _ _ _ _ hw) (fun a7 μ8 h => ?_)
    refine rn_sls 0 (pc' := 410) (ls' := [(0, (2, 0)), (3, (0, v3)), (4, (0, v4)), (5, (0, v5))]) (st' := [(0, a7), (0, a5)]) rfl ?_
    refine rn_icmp (t := 415) rfl rfl rfl rfl h (fun h => ?_) (fun h => ?_)
    · exact rn_sub [0] rfl (t_L_act_B415 d  _ _ h)
    · refine rn_sls 1 (pc' := 414) (ls' := [(0, (2, 0)), (3, (0, v3)), (4, (0, v4)), (5, (0, v5))]) (st' := [(0, 0)]) rfl ?_
      exact rn_iretb rfl rfl rfl (Or.inl rfl) h rfl
  · exact rn_sub [0] rfl (t_L_act_B415 d  _ _ h)
set_option maxRecDepth 20000 in
theorem t_L_act_B313 (d : Nat) : ∀ (v3 : Int) (v4 : Int) (v5 : Int) (μ : am_M) q, L_act_B313 v3 v4 v5 μ = some q → am_run none (am_ar g_mt (d + 8)) 10 (some .boolean) k_L_act 313 [(0, (2, 0)), (3, (0, v3)), (4, (0, v4)), (5, (0, v5))] [] μ (am_res 0 q) := by
  intro v3 v4 v5 μ q h
  unfold L_act_B313 at h
  refine rn_sls 3 (pc' := 317) (ls' := [(0, (2, 0)), (3, (0, v3)), (4, (0, v4)), (5, (0, v5))]) (st' := [(0, 5), (0, v5), (2, 0)]) rfl ?_
  refine rn_call 0 0 [(2, 0), (0, v5), (0, 5)] (r := []) rfl ⟨rfl, Or.inl ⟨_, rfl, by decide⟩⟩ (by decide) (fun _ => ⟨_, rfl, rfl⟩) rfl rfl (Nat.le_of_ble_eq_true rfl) h (fun w hw => t_X_bill (d + 6) _ _ _ _ hw) (fun a1 μ2 h => ?_)
  refine rn_sls 0 (pc' := 320) (ls' := [(0, (2, 0)), (3, (0, v3)), (4, (0, v4)), (5, (0, v5))]) (st' := [(0, a1)]) rfl ?_
  refine rn_if (t := 358) rfl rfl rfl rfl h (fun h => ?_) (fun h => ?_)
  · exact rn_sub [0, 3] rfl (t_L_act_B358 d  _ _ _ h)
  · refine rn_sls 3 (pc' := 326) (ls' := [(0, (2, 0)), (3, (0, v3)), (4, (0, v4)), (5, (0, v5))]) (st' := [(0, 0), (0, 3), (2, 0)]) rfl ?_
    refine rn_call 0 0 [(2, 0), (0, 3), (0, 0)] (r := []) rfl ⟨rfl, Or.inl ⟨_, rfl, by decide⟩⟩ (by decide) (fun _ => ⟨_, rfl, rfl⟩) rfl rfl (Nat.le_of_ble_eq_true rfl) h (fun w hw => t_X_mark (d + 6) _ _ _ _ hw) (fun a3 μ4 h => ?_)
    refine rn_sls 0 (pc' := 329) (ls' := [(0, (2, 0)), (3, (0, v3)), (4, (0, v4)), (5, (0, v5))]) (st' := [(0, a3)]) rfl ?_
    refine rn_if (t := 358) rfl rfl rfl rfl h (fun h => ?_) (fun h => ?_)
    · exact rn_sub [0, 3] rfl (t_L_act_B358 d  _ _ _ h)
    · refine rn_sls 2 (pc' := 335) (ls' := [(0, (2, 0)), (3, (0, v3)), (4, (0, v4)), (5, (0, v5))]) (st' := [(0, 99), (2, 0)]) rfl ?_
      refine rn_call 0 0 [(2, 0), (0, 99)] (r := []) rfl ⟨rfl, Or.inl ⟨_, rfl, by decide⟩⟩ (by decide) (fun _ => ⟨_, rfl, rfl⟩) rfl rfl (Nat.le_of_ble_eq_true rfl) h (fun w hw => t_X_room (d + 7) _ _ _ hw) (fun a5 μ6 h => ?_)
      refine rn_sls 0 (pc' := 338) (ls' := [(0, (2, 0)), (3, (0, v3)), (4, (0, v4)), (5, (0, v5))]) (st' := [(0, a5)]) rfl ?_
      refine rn_if (t := 358) rfl rfl rfl rfl h (fun h => ?_) (fun h => ?_)
      · exact rn_sub [0, 3] rfl (t_L_act_B358 d  _ _ _ h)
      · refine rn_sls 8 (pc' := 352) (ls' := [(0, (2, 0)), (3, (0, v3)), (4, (0, v4)), (5, (0, v5))]) (st' := [(0, 0), (0, 0), (0, v4), (0, (aRem v3 9)), (0, v5), (2, 0)]) rfl ?_
        refine rn_call 0 0 [(2, 0), (0, v5), (0, (aRem v3 9)), (0, v4), (0, 0), (0, 0)] (r := []) rfl ⟨rfl, Or.inl ⟨_, rfl, by decide⟩⟩ (by decide) (fun _ => ⟨_, rfl, rfl⟩) rfl rfl (Nat.le_of_ble_eq_true rfl) h (fun w hw => t_X_begin (d + 3) _ _ _ _ _ _ _ hw) (fun a7 μ8 h => ?_)
        refine rn_sls 0 (pc' := 355) (ls' := [(0, (2, 0)), (3, (0, v3)), (4, (0, v4)), (5, (0, v5))]) (st' := [(0, a7)]) rfl ?_
        refine rn_ifn (t := 374) rfl rfl rfl rfl h (fun h => ?_) (fun h => ?_)
        · exact rn_sub [0, 3] rfl (t_L_act_B358 d  _ _ _ h)
        · exact rn_sub [0, 1, 2, 3] rfl (t_L_act_B374 d  _ _ _ _ _ h)
set_option maxRecDepth 20000 in
theorem t_L_act_B450 (d : Nat) : ∀ (v2 : Int) (v4 : Int) (μ : am_M) q, L_act_B450 v2 v4 μ = some q → am_run none (am_ar g_mt (d + 8)) 10 (some .boolean) k_L_act 450 [(0, (2, 0)), (2, (0, v2)), (4, (0, v4))] [] μ (am_res 0 q) := by
  intro v2 v4 μ q h
  unfold L_act_B450 at h
  refine rn_sls 5 (pc' := 455) (ls' := [(0, (2, 0)), (2, (0, v2)), (4, (0, v4))]) (st' := [(0, 0), (0, (aAnd v2 1)), (2, 0)]) rfl ?_
  refine rn_call 0 0 [(2, 0), (0, (aAnd v2 1)), (0, 0)] (r := []) rfl ⟨rfl, Or.inl ⟨_, rfl, by decide⟩⟩ (by decide) (fun _ => ⟨_, rfl, rfl⟩) rfl rfl (Nat.le_of_ble_eq_true rfl) h (fun w hw => t_X_mark (d + 6) _ _ _ _ hw) (fun a1 μ2 h => ?_)
  refine rn_sls 0 (pc' := 458) (ls' := [(0, (2, 0)), (2, (0, v2)), (4, (0, v4))]) (st' := [(0, a1)]) rfl ?_
  refine rn_ifn (t := 463) rfl rfl rfl rfl h (fun h => ?_) (fun h => ?_)
  · refine rn_sls 1 (pc' := 462) (ls' := [(0, (2, 0)), (2, (0, v2)), (4, (0, v4))]) (st' := [(0, 0)]) rfl ?_
    exact rn_iretb rfl rfl rfl (Or.inl rfl) h rfl
  · refine rn_sls 2 (pc' := 466) (ls' := [(0, (2, 0)), (2, (0, v2)), (4, (0, v4))]) (st' := [(0, 6), (2, 0)]) rfl ?_
    refine rn_call 0 0 [(2, 0), (0, 6)] (r := []) rfl ⟨rfl, Or.inl ⟨_, rfl, by decide⟩⟩ (by decide) (fun _ => ⟨_, rfl, rfl⟩) rfl rfl (Nat.le_of_ble_eq_true rfl) h (fun w hw => t_X_machine (d + 4) _ _ _ hw) (fun a3 μ4 h => ?_)
    refine rn_sls 0 (pc' := 469) (ls' := [(0, (2, 0)), (2, (0, v2)), (4, (0, v4))]) (st' := [(0, a3)]) rfl ?_
    refine rn_sls 3 (pc' := 473) (ls' := [(6, (0, a3)), (0, (2, 0)), (2, (0, v2)), (4, (0, v4))]) (st' := [(0, 1), (2, 0)]) rfl ?_
    refine rn_call 0 0 [(2, 0), (0, 1)] (r := []) rfl ⟨rfl, Or.inl ⟨_, rfl, by decide⟩⟩ (by decide) (fun _ => ⟨_, rfl, rfl⟩) rfl rfl (Nat.le_of_ble_eq_true rfl) h (fun w hw => t_X_machine (d + 4) _ _ _ hw) (fun a5 μ6 h => ?_)
    refine rn_sls 0 (pc' := 476) (ls' := [(6, (0, a3)), (0, (2, 0)), (2, (0, v2)), (4, (0, v4))]) (st' := [(0, a5)]) rfl ?_
    refine rn_sls 3 (pc' := 480) (ls' := [(7, (0, a5)), (6, (0, a3)), (0, (2, 0)), (2, (0, v2)), (4, (0, v4))]) (st' := [(0, 5), (2, 0)]) rfl ?_
    refine rn_call 0 0 [(2, 0), (0, 5)] (r := []) rfl ⟨rfl, Or.inl ⟨_, rfl, by decide⟩⟩ (by decide) (fun _ => ⟨_, rfl, rfl⟩) rfl rfl (Nat.le_of_ble_eq_true rfl) h (fun w hw => t_X_machine (d + 4) _ _ _ hw) (fun a7 μ8 h => ?_)
    refine rn_sls 0 (pc' := 483) (ls' := [(7, (0, a5)), (6, (0, a3)), (0, (2, 0)), (2, (0, v2)), (4, (0, v4))]) (st' := [(0, a7)]) rfl ?_
    refine rn_sls 3 (pc' := 487) (ls' := [(8, (0, a7)), (7, (0, a5)), (6, (0, a3)), (0, (2, 0)), (2, (0, v2)), (4, (0, v4))]) (st' := [(0, 3), (2, 0)]) rfl ?_
    refine rn_call 0 0 [(2, 0), (0, 3)] (r := []) rfl ⟨rfl, Or.inl ⟨_, rfl, by decide⟩⟩ (by decide) (fun _ => ⟨_, rfl, rfl⟩) rfl rfl (Nat.le_of_ble_eq_true rfl) h (fun w hw => t_X_run (d + 0) _ _ _ hw) (fun a9 μ10 h => ?_)
    refine rn_sls 0 (pc' := 490) (ls' := [(8, (0, a7)), (7, (0, a5)), (6, (0, a3)), (0, (2, 0)), (2, (0, v2)), (4, (0, v4))]) (st' := [(0, a9)]) rfl ?_
    refine rn_sls 3 (pc' := 494) (ls' := [(8, (0, a7)), (7, (0, a5)), (6, (0, a3)), (0, (2, 0)), (2, (0, v2)), (4, (0, v4))]) (st' := [(0, 99), (2, 0)]) rfl ?_
    refine rn_call 0 0 [(2, 0), (0, 99)] (r := []) rfl ⟨rfl, Or.inl ⟨_, rfl, by decide⟩⟩ (by decide) (fun _ => ⟨_, rfl, rfl⟩) rfl rfl (Nat.le_of_ble_eq_true rfl) h (fun w hw => t_X_price (d + 7) _ _ _ hw) (fun a11 μ12 h => ?_)
    refine rn_sls 0 (pc' := 497) (ls' := [(8, (0, a7)), (7, (0, a5)), (6, (0, a3)), (0, (2, 0)), (2, (0, v2)), (4, (0, v4))]) (st' := [(0, a11)]) rfl ?_
    refine rn_sls 3 (pc' := 501) (ls' := [(8, (0, a7)), (7, (0, a5)), (6, (0, a3)), (0, (2, 0)), (2, (0, v2)), (4, (0, v4))]) (st' := [(0, v4), (2, 0)]) rfl ?_
    refine rn_call 0 0 [(2, 0), (0, v4)] (r := []) rfl ⟨rfl, Or.inl ⟨_, rfl, by decide⟩⟩ (by decide) (fun _ => ⟨_, rfl, rfl⟩) rfl rfl (Nat.le_of_ble_eq_true rfl) h (fun w hw => t_X_run (d + 0) _ _ _ hw) (fun a13 μ14 h => ?_)
    refine rn_sls 0 (pc' := 504) (ls' := [(8, (0, a7)), (7, (0, a5)), (6, (0, a3)), (0, (2, 0)), (2, (0, v2)), (4, (0, v4))]) (st' := [(0, a13)]) rfl ?_
    refine rn_sls 6 (pc' := 510) (ls' := [(8, (0, a7)), (7, (0, a5)), (6, (0, a3)), (0, (2, 0)), (2, (0, v2)), (4, (0, v4))]) (st' := [(0, 1), (0, (aAnd v2 1)), (2, 0)]) rfl ?_
    refine rn_call 0 0 [(2, 0), (0, (aAnd v2 1)), (0, 1)] (r := []) rfl ⟨rfl, Or.inl ⟨_, rfl, by decide⟩⟩ (by decide) (fun _ => ⟨_, rfl, rfl⟩) rfl rfl (Nat.le_of_ble_eq_true rfl) h (fun w hw => t_X_mark (d + 6) _ _ _ _ hw) (fun a15 μ16 h => ?_)
    refine rn_sls 0 (pc' := 513) (ls' := [(8, (0, a7)), (7, (0, a5)), (6, (0, a3)), (0, (2, 0)), (2, (0, v2)), (4, (0, v4))]) (st' := [(0, a15)]) rfl ?_
    refine rn_if (t := 551) rfl rfl rfl rfl h (fun h => ?_) (fun h => ?_)
    · refine rn_sls 1 (pc' := 552) (ls' := [(8, (0, a7)), (7, (0, a5)), (6, (0, a3)), (0, (2, 0)), (2, (0, v2)), (4, (0, v4))]) (st' := [(0, 0)]) rfl ?_
      exact rn_iretb rfl rfl rfl (Or.inl rfl) h rfl
    · refine rn_sls 2 (pc' := 519) (ls' := [(8, (0, a7)), (7, (0, a5)), (6, (0, a3)), (0, (2, 0)), (2, (0, v2)), (4, (0, v4))]) (st' := [(0, 6), (2, 0)]) rfl ?_
      refine rn_call 0 0 [(2, 0), (0, 6)] (r := []) rfl ⟨rfl, Or.inl ⟨_, rfl, by decide⟩⟩ (by decide) (fun _ => ⟨_, rfl, rfl⟩) rfl rfl (Nat.le_of_ble_eq_true rfl) h (fun w hw => t_X_machine (d + 4) _ _ _ hw) (fun a17 μ18 h => ?_)
      refine rn_sls 0 (pc' := 522) (ls' := [(8, (0, a7)), (7, (0, a5)), (6, (0, a3)), (0, (2, 0)), (2, (0, v2)), (4, (0, v4))]) (st' := [(0, a17)]) rfl ?_
      refine rn_sls 1 (pc' := 524) (ls' := [(8, (0, a7)), (7, (0, a5)), (6, (0, a3)), (0, (2, 0)), (2, (0, v2)), (4, (0, v4))]) (st' := [(0, a3), (0, a17)]) rfl ?_
      refine rn_icmpn (t := 551) rfl rfl rfl rfl h (fun h => ?_) (fun h => ?_)
      · refine rn_sls 2 (pc' := 529) (ls' := [(8, (0, a7)), (7, (0, a5)), (6, (0, a3)), (0, (2, 0)), (2, (0, v2)), (4, (0, v4))]) (st' := [(0, 1), (2, 0)]) rfl ?_
        refine rn_call 0 0 [(2, 0), (0, 1)] (r := []) rfl ⟨rfl, Or.inl ⟨_, rfl, by decide⟩⟩ (by decide) (fun _ => ⟨_, rfl, rfl⟩) rfl rfl (Nat.le_of_ble_eq_true rfl) h (fun w hw => t_X_machine (d + 4) _ _ _ hw) (fun a19 μ20 h => ?_)
        refine rn_sls 0 (pc' := 532) (ls' := [(8, (0, a7)), (7, (0, a5)), (6, (0, a3)), (0, (2, 0)), (2, (0, v2)), (4, (0, v4))]) (st' := [(0, a19)]) rfl ?_
        refine rn_sls 1 (pc' := 534) (ls' := [(8, (0, a7)), (7, (0, a5)), (6, (0, a3)), (0, (2, 0)), (2, (0, v2)), (4, (0, v4))]) (st' := [(0, a5), (0, a19)]) rfl ?_
        refine rn_icmpn (t := 551) rfl rfl rfl rfl h (fun h => ?_) (fun h => ?_)
        · refine rn_sls 2 (pc' := 539) (ls' := [(8, (0, a7)), (7, (0, a5)), (6, (0, a3)), (0, (2, 0)), (2, (0, v2)), (4, (0, v4))]) (st' := [(0, 5), (2, 0)]) rfl ?_
          refine rn_call 0 0 [(2, 0), (0, 5)] (r := []) rfl ⟨rfl, Or.inl ⟨_, rfl, by decide⟩⟩ (by decide) (fun _ => ⟨_, rfl, rfl⟩) rfl rfl (Nat.le_of_ble_eq_true rfl) h (fun w hw => t_X_machine (d + 4) _ _ _ hw) (fun a21 μ22 h => ?_)
          refine rn_sls 0 (pc' := 542) (ls' := [(8, (0, a7)), (7, (0, a5)), (6, (0, a3)), (0, (2, 0)), (2, (0, v2)), (4, (0, v4))]) (st' := [(0, a21)]) rfl ?_
          refine rn_sls 1 (pc' := 544) (ls' := [(8, (0, a7)), (7, (0, a5)), (6, (0, a3)), (0, (2, 0)), (2, (0, v2)), (4, (0, v4))]) (st' := [(0, a7), (0, a21)]) rfl ?_
          refine rn_icmpn (t := 551) rfl rfl rfl rfl h (fun h => ?_) (fun h => ?_)
          · refine rn_sls 1 (pc' := 548) (ls' := [(8, (0, a7)), (7, (0, a5)), (6, (0, a3)), (0, (2, 0)), (2, (0, v2)), (4, (0, v4))]) (st' := [(0, 1)]) rfl ?_
            refine rn_goto (t := 552) rfl rfl rfl ?_
            exact rn_iretb rfl rfl rfl (Or.inr rfl) h rfl
          · refine rn_sls 1 (pc' := 552) (ls' := [(8, (0, a7)), (7, (0, a5)), (6, (0, a3)), (0, (2, 0)), (2, (0, v2)), (4, (0, v4))]) (st' := [(0, 0)]) rfl ?_
            exact rn_iretb rfl rfl rfl (Or.inl rfl) h rfl
        · refine rn_sls 1 (pc' := 552) (ls' := [(8, (0, a7)), (7, (0, a5)), (6, (0, a3)), (0, (2, 0)), (2, (0, v2)), (4, (0, v4))]) (st' := [(0, 0)]) rfl ?_
          exact rn_iretb rfl rfl rfl (Or.inl rfl) h rfl
      · refine rn_sls 1 (pc' := 552) (ls' := [(8, (0, a7)), (7, (0, a5)), (6, (0, a3)), (0, (2, 0)), (2, (0, v2)), (4, (0, v4))]) (st' := [(0, 0)]) rfl ?_
        exact rn_iretb rfl rfl rfl (Or.inl rfl) h rfl
set_option maxRecDepth 20000 in
theorem t_L_act_B553 (d : Nat) : ∀  (μ : am_M) q, L_act_B553  μ = some q → am_run none (am_ar g_mt (d + 8)) 10 (some .boolean) k_L_act 553 [(0, (2, 0))] [] μ (am_res 0 q) := by
  intro  μ q h
  unfold L_act_B553 at h
  refine rn_sls 2 (pc' := 557) (ls' := [(0, (2, 0))]) (st' := [(0, 1001), (2, 0)]) rfl ?_
  refine rn_call 0 0 [(2, 0), (0, 1001)] (r := []) rfl ⟨rfl, Or.inl ⟨_, rfl, by decide⟩⟩ (by decide) (fun _ => ⟨_, rfl, rfl⟩) rfl rfl (Nat.le_of_ble_eq_true rfl) h (fun w hw => t_X_run (d + 0) _ _ _ hw) (fun a1 μ2 h => ?_)
  refine rn_sls 0 (pc' := 560) (ls' := [(0, (2, 0))]) (st' := [(0, a1)]) rfl ?_
  refine rn_sls 1 (pc' := 561) (ls' := [(0, (2, 0))]) (st' := [(0, (-1)), (0, a1)]) rfl ?_
  refine rn_icmpn (t := 600) rfl rfl rfl rfl h (fun h => ?_) (fun h => ?_)
  · refine rn_sls 3 (pc' := 567) (ls' := [(0, (2, 0))]) (st' := [(0, 1), (2, 0), (2, 0)]) rfl ?_
    refine rn_call 0 0 [(2, 0), (0, 1)] (r := [(2, 0)]) rfl ⟨rfl, Or.inl ⟨_, rfl, by decide⟩⟩ (by decide) (fun _ => ⟨_, rfl, rfl⟩) rfl rfl (Nat.le_of_ble_eq_true rfl) h (fun w hw => t_X_count (d + 7) _ _ _ hw) (fun a3 μ4 h => ?_)
    refine rn_sls 0 (pc' := 570) (ls' := [(0, (2, 0))]) (st' := [(0, a3), (2, 0)]) rfl ?_
    refine rn_sls 4 (pc' := 574) (ls' := [(0, (2, 0))]) (st' := [(0, 0), (0, 0), (0, 0), (0, 0), (0, a3), (2, 0)]) rfl ?_
    refine rn_call 0 0 [(2, 0), (0, a3), (0, 0), (0, 0), (0, 0), (0, 0)] (r := []) rfl ⟨rfl, Or.inl ⟨_, rfl, by decide⟩⟩ (by decide) (fun _ => ⟨_, rfl, rfl⟩) rfl rfl (Nat.le_of_ble_eq_true rfl) h (fun w hw => t_X_begin (d + 3) _ _ _ _ _ _ _ hw) (fun a5 μ6 h => ?_)
    refine rn_sls 0 (pc' := 577) (ls' := [(0, (2, 0))]) (st' := [(0, a5)]) rfl ?_
    refine rn_ifn (t := 600) rfl rfl rfl rfl h (fun h => ?_) (fun h => ?_)
    · refine rn_sls 2 (pc' := 582) (ls' := [(0, (2, 0))]) (st' := [(0, 0), (2, 0)]) rfl ?_
      refine rn_call 0 0 [(2, 0), (0, 0)] (r := []) rfl ⟨rfl, Or.inl ⟨_, rfl, by decide⟩⟩ (by decide) (fun _ => ⟨_, rfl, rfl⟩) rfl rfl (Nat.le_of_ble_eq_true rfl) h (fun w hw => t_X_room (d + 7) _ _ _ hw) (fun a7 μ8 h => ?_)
      refine rn_sls 0 (pc' := 585) (ls' := [(0, (2, 0))]) (st' := [(0, a7)]) rfl ?_
      refine rn_ifn (t := 600) rfl rfl rfl rfl h (fun h => ?_) (fun h => ?_)
      · refine rn_sls 2 (pc' := 590) (ls' := [(0, (2, 0))]) (st' := [(0, (-1)), (2, 0)]) rfl ?_
        refine rn_call 0 0 [(2, 0), (0, (-1))] (r := []) rfl ⟨rfl, Or.inl ⟨_, rfl, by decide⟩⟩ (by decide) (fun _ => ⟨_, rfl, rfl⟩) rfl rfl (Nat.le_of_ble_eq_true rfl) h (fun w hw => t_X_price (d + 7) _ _ _ hw) (fun a9 μ10 h => ?_)
        refine rn_sls 0 (pc' := 593) (ls' := [(0, (2, 0))]) (st' := [(0, a9)]) rfl ?_
        refine rn_ifn (t := 600) rfl rfl rfl rfl h (fun h => ?_) (fun h => ?_)
        · refine rn_sls 1 (pc' := 597) (ls' := [(0, (2, 0))]) (st' := [(0, 1)]) rfl ?_
          refine rn_goto (t := 601) rfl rfl rfl ?_
          exact rn_iretb rfl rfl rfl (Or.inr rfl) h rfl
        · refine rn_sls 1 (pc' := 601) (ls' := [(0, (2, 0))]) (st' := [(0, 0)]) rfl ?_
          exact rn_iretb rfl rfl rfl (Or.inl rfl) h rfl
      · refine rn_sls 1 (pc' := 601) (ls' := [(0, (2, 0))]) (st' := [(0, 0)]) rfl ?_
        exact rn_iretb rfl rfl rfl (Or.inl rfl) h rfl
    · refine rn_sls 1 (pc' := 601) (ls' := [(0, (2, 0))]) (st' := [(0, 0)]) rfl ?_
      exact rn_iretb rfl rfl rfl (Or.inl rfl) h rfl
  · refine rn_sls 1 (pc' := 601) (ls' := [(0, (2, 0))]) (st' := [(0, 0)]) rfl ?_
    exact rn_iretb rfl rfl rfl (Or.inl rfl) h rfl
set_option maxRecDepth 20000 in
theorem t_L_act_B677 (d : Nat) (k643 : Int → Int → Int → Int → am_M → am_O) (hk643 : ∀ (v5 : Int) (v6 : Int) (v7 : Int) (v8 : Int) (μ : am_M) q, k643 v5 v6 v7 v8 μ = some q → am_run none (am_ar g_mt (d + 8)) 10 (some .boolean) k_L_act 643 [(0, (2, 0)), (5, (0, v5)), (6, (0, v6)), (7, (0, v7)), (8, (0, v8))] [] μ (am_res 0 q)) : ∀ (v5 : Int) (v6 : Int) (v7 : Int) (v8 : Int) (μ : am_M) q, L_act_B677 k643 v5 v6 v7 v8 μ = some q → am_run none (am_ar g_mt (d + 8)) 10 (some .boolean) k_L_act 677 [(0, (2, 0)), (5, (0, v5)), (6, (0, v6)), (7, (0, v7)), (8, (0, v8))] [] μ (am_res 0 q) := by
  intro v5 v6 v7 v8 μ q h
  unfold L_act_B677 at h
  refine rn_sls 1 (pc' := 680) (ls' := [(8, (0, (w32 (v8 + 1)))), (0, (2, 0)), (5, (0, v5)), (6, (0, v6)), (7, (0, v7))]) (st' := []) rfl ?_
  refine rn_goto (t := 643) rfl rfl rfl ?_
  exact rn_sub [1, 2, 3, 4, 0] rfl (hk643 _ _ _ _ _ _ h)
set_option maxRecDepth 20000 in
theorem t_L_act_L686_b (d : Nat) (k686 : Int → Int → Int → Int → am_M → am_O) (hk686 : ∀ (v5 : Int) (v6 : Int) (v7 : Int) (v8 : Int) (μ : am_M) q, k686 v5 v6 v7 v8 μ = some q → am_run none (am_ar g_mt (d + 8)) 10 (some .boolean) k_L_act 686 [(0, (2, 0)), (5, (0, v5)), (6, (0, v6)), (7, (0, v7)), (8, (0, v8))] [] μ (am_res 0 q)) : ∀ (v5 : Int) (v6 : Int) (v7 : Int) (v8 : Int) (μ : am_M) q, L_act_L686_b k686 v5 v6 v7 v8 μ = some q → am_run none (am_ar g_mt (d + 8)) 10 (some .boolean) k_L_act 686 [(0, (2, 0)), (5, (0, v5)), (6, (0, v6)), (7, (0, v7)), (8, (0, v8))] [] μ (am_res 0 q) := by
  intro v5 v6 v7 v8 μ q h
  unfold L_act_L686_b at h
  refine rn_sls 2 (pc' := 690) (ls' := [(0, (2, 0)), (5, (0, v5)), (6, (0, v6)), (7, (0, v7)), (8, (0, v8))]) (st' := [(0, v6), (0, v8)]) rfl ?_
  refine rn_icmpn (t := 714) rfl rfl rfl rfl h (fun h => ?_) (fun h => ?_)
  · refine rn_sls 5 (pc' := 701) (ls' := [(0, (2, 0)), (5, (0, v5)), (6, (0, v6)), (7, (0, v7)), (8, (0, v8))]) (st' := [(0, v8), (0, v5), (2, 0), (0, 1), (0, v7)]) rfl ?_
    refine rn_call 0 0 [(2, 0), (0, v5), (0, v8)] (r := [(0, 1), (0, v7)]) rfl ⟨rfl, Or.inl ⟨_, rfl, by decide⟩⟩ (by decide) (fun _ => ⟨_, rfl, rfl⟩) rfl rfl (Nat.le_of_ble_eq_true rfl) h (fun w hw => t_X_order (d + 1) _ _ _ _ hw) (fun a3 μ4 h => ?_)
    refine rn_sls 0 (pc' := 704) (ls' := [(0, (2, 0)), (5, (0, v5)), (6, (0, v6)), (7, (0, v7)), (8, (0, v8))]) (st' := [(0, a3), (0, 1), (0, v7)]) rfl ?_
    refine rn_sls 4 (pc' := 711) (ls' := [(8, (0, (w32 (v8 + 1)))), (7, (0, (aOr v7 (aShl 1 a3)))), (0, (2, 0)), (5, (0, v5)), (6, (0, v6))]) (st' := []) rfl ?_
    refine rn_goto (t := 686) rfl rfl rfl ?_
    exact rn_sub [2, 3, 4, 1, 0] rfl (hk686 _ _ _ _ _ _ h)
  · refine rn_sls 6 (pc' := 722) (ls' := [(0, (2, 0)), (5, (0, v5)), (6, (0, v6)), (7, (0, v7)), (8, (0, v8))]) (st' := [(0, (w32 ((aShl 1 v6) - 1))), (0, v7)]) rfl ?_
    refine rn_icmpn (t := 741) rfl rfl rfl rfl h (fun h => ?_) (fun h => ?_)
    · refine rn_sls 3 (pc' := 730) (ls' := [(0, (2, 0)), (5, (0, v5)), (6, (0, v6)), (7, (0, v7)), (8, (0, v8))]) (st' := [(0, v6), (0, v5), (2, 0)]) rfl ?_
      refine rn_call 0 0 [(2, 0), (0, v5), (0, v6)] (r := []) rfl ⟨rfl, Or.inl ⟨_, rfl, by decide⟩⟩ (by decide) (fun _ => ⟨_, rfl, rfl⟩) rfl rfl (Nat.le_of_ble_eq_true rfl) h (fun w hw => t_X_order (d + 1) _ _ _ _ hw) (fun a1 μ2 h => ?_)
      refine rn_sls 0 (pc' := 733) (ls' := [(0, (2, 0)), (5, (0, v5)), (6, (0, v6)), (7, (0, v7)), (8, (0, v8))]) (st' := [(0, a1)]) rfl ?_
      refine rn_sls 1 (pc' := 734) (ls' := [(0, (2, 0)), (5, (0, v5)), (6, (0, v6)), (7, (0, v7)), (8, (0, v8))]) (st' := [(0, (-1)), (0, a1)]) rfl ?_
      refine rn_icmpn (t := 741) rfl rfl rfl rfl h (fun h => ?_) (fun h => ?_)
      · refine rn_sls 1 (pc' := 738) (ls' := [(0, (2, 0)), (5, (0, v5)), (6, (0, v6)), (7, (0, v7)), (8, (0, v8))]) (st' := [(0, 1)]) rfl ?_
        refine rn_goto (t := 742) rfl rfl rfl ?_
        exact rn_iretb rfl rfl rfl (Or.inr rfl) h rfl
      · refine rn_sls 1 (pc' := 742) (ls' := [(0, (2, 0)), (5, (0, v5)), (6, (0, v6)), (7, (0, v7)), (8, (0, v8))]) (st' := [(0, 0)]) rfl ?_
        exact rn_iretb rfl rfl rfl (Or.inl rfl) h rfl
    · refine rn_sls 1 (pc' := 742) (ls' := [(0, (2, 0)), (5, (0, v5)), (6, (0, v6)), (7, (0, v7)), (8, (0, v8))]) (st' := [(0, 0)]) rfl ?_
      exact rn_iretb rfl rfl rfl (Or.inl rfl) h rfl
set_option maxRecDepth 20000 in
theorem t_L_act_L686 (d : Nat) : ∀ (n : Nat) (v5 : Int) (v6 : Int) (v7 : Int) (v8 : Int) (μ : am_M) q, L_act_L686 n v5 v6 v7 v8 μ = some q → am_run none (am_ar g_mt (d + 8)) 10 (some .boolean) k_L_act 686 [(0, (2, 0)), (5, (0, v5)), (6, (0, v6)), (7, (0, v7)), (8, (0, v8))] [] μ (am_res 0 q) := by
  intro n
  induction n with
  | zero => intro v5 v6 v7 v8 μ q h; cases h
  | succ n ih => intro v5 v6 v7 v8 μ q h; exact t_L_act_L686_b d (L_act_L686 n) ih v5 v6 v7 v8 μ q h
set_option maxRecDepth 20000 in
theorem t_L_act_L643_b (d : Nat) (k643 : Int → Int → Int → Int → am_M → am_O) (hk643 : ∀ (v5 : Int) (v6 : Int) (v7 : Int) (v8 : Int) (μ : am_M) q, k643 v5 v6 v7 v8 μ = some q → am_run none (am_ar g_mt (d + 8)) 10 (some .boolean) k_L_act 643 [(0, (2, 0)), (5, (0, v5)), (6, (0, v6)), (7, (0, v7)), (8, (0, v8))] [] μ (am_res 0 q)) : ∀ (v5 : Int) (v6 : Int) (v7 : Int) (v8 : Int) (μ : am_M) q, L_act_L643_b k643 v5 v6 v7 v8 μ = some q → am_run none (am_ar g_mt (d + 8)) 10 (some .boolean) k_L_act 643 [(0, (2, 0)), (5, (0, v5)), (6, (0, v6)), (7, (0, v7)), (8, (0, v8))] [] μ (am_res 0 q) := by
  intro v5 v6 v7 v8 μ q h
  unfold L_act_L643_b at h
  refine rn_sls 4 (pc' := 649) (ls' := [(0, (2, 0)), (5, (0, v5)), (6, (0, v6)), (7, (0, v7)), (8, (0, v8))]) (st' := [(0, 0), (0, v5), (2, 0), (0, v8)]) rfl ?_
  refine rn_call 0 0 [(2, 0), (0, v5), (0, 0)] (r := [(0, v8)]) rfl ⟨rfl, Or.inl ⟨_, rfl, by decide⟩⟩ (by decide) (fun _ => ⟨_, rfl, rfl⟩) rfl rfl (Nat.le_of_ble_eq_true rfl) h (fun w hw => t_X_bill (d + 6) _ _ _ _ hw) (fun a1 μ2 h => ?_)
  refine rn_sls 0 (pc' := 652) (ls' := [(0, (2, 0)), (5, (0, v5)), (6, (0, v6)), (7, (0, v7)), (8, (0, v8))]) (st' := [(0, a1), (0, v8)]) rfl ?_
  refine rn_sls 3 (pc' := 656) (ls' := [(0, (2, 0)), (5, (0, v5)), (6, (0, v6)), (7, (0, v7)), (8, (0, v8))]) (st' := [(0, 1), (0, v5), (2, 0), (0, a1), (0, v8)]) rfl ?_
  refine rn_call 0 0 [(2, 0), (0, v5), (0, 1)] (r := [(0, a1), (0, v8)]) rfl ⟨rfl, Or.inl ⟨_, rfl, by decide⟩⟩ (by decide) (fun _ => ⟨_, rfl, rfl⟩) rfl rfl (Nat.le_of_ble_eq_true rfl) h (fun w hw => t_X_bill (d + 6) _ _ _ _ hw) (fun a3 μ4 h => ?_)
  refine rn_sls 0 (pc' := 659) (ls' := [(0, (2, 0)), (5, (0, v5)), (6, (0, v6)), (7, (0, v7)), (8, (0, v8))]) (st' := [(0, a3), (0, a1), (0, v8)]) rfl ?_
  refine rn_sls 1 (pc' := 660) (ls' := [(0, (2, 0)), (5, (0, v5)), (6, (0, v6)), (7, (0, v7)), (8, (0, v8))]) (st' := [(0, (w32 (a1 + a3))), (0, v8)]) rfl ?_
  refine rn_icmpn (t := 683) rfl rfl rfl rfl h (fun h => ?_) (fun h => ?_)
  · refine rn_sls 3 (pc' := 667) (ls' := [(0, (2, 0)), (5, (0, v5)), (6, (0, v6)), (7, (0, v7)), (8, (0, v8))]) (st' := [(0, 0), (0, v8), (2, 0)]) rfl ?_
    refine rn_call 0 0 [(2, 0), (0, v8), (0, 0)] (r := []) rfl ⟨rfl, Or.inl ⟨_, rfl, by decide⟩⟩ (by decide) (fun _ => ⟨_, rfl, rfl⟩) rfl rfl (Nat.le_of_ble_eq_true rfl) h (fun w hw => t_X_line (d + 4) _ _ _ _ hw) (fun a5 μ6 h => ?_)
    refine rn_sls 0 (pc' := 670) (ls' := [(0, (2, 0)), (5, (0, v5)), (6, (0, v6)), (7, (0, v7)), (8, (0, v8))]) (st' := [(0, a5)]) rfl ?_
    refine rn_sls 1 (pc' := 671) (ls' := [(0, (2, 0)), (5, (0, v5)), (6, (0, v6)), (7, (0, v7)), (8, (0, v8))]) (st' := [(0, 1), (0, a5)]) rfl ?_
    refine rn_icmpn (t := 677) rfl rfl rfl rfl h (fun h => ?_) (fun h => ?_)
    · refine rn_sls 1 (pc' := 677) (ls' := [(6, (0, (w32 (v6 + 1)))), (0, (2, 0)), (5, (0, v5)), (7, (0, v7)), (8, (0, v8))]) (st' := []) rfl ?_
      exact rn_sub [1, 2, 0, 3, 4] rfl (t_L_act_B677 d k643 hk643 _ _ _ _ _ _ h)
    · exact rn_sub [0, 1, 2, 3, 4] rfl (t_L_act_B677 d k643 hk643 _ _ _ _ _ _ h)
  · refine rn_sls 2 (pc' := 686) (ls' := [(8, (0, 0)), (0, (2, 0)), (5, (0, v5)), (6, (0, v6)), (7, (0, v7))]) (st' := []) rfl ?_
    exact rn_sub [1, 2, 3, 4, 0] rfl (t_L_act_L686 d  am_FU _ _ _ _ _ _ h)
set_option maxRecDepth 20000 in
theorem t_L_act_L643 (d : Nat) : ∀ (n : Nat) (v5 : Int) (v6 : Int) (v7 : Int) (v8 : Int) (μ : am_M) q, L_act_L643 n v5 v6 v7 v8 μ = some q → am_run none (am_ar g_mt (d + 8)) 10 (some .boolean) k_L_act 643 [(0, (2, 0)), (5, (0, v5)), (6, (0, v6)), (7, (0, v7)), (8, (0, v8))] [] μ (am_res 0 q) := by
  intro n
  induction n with
  | zero => intro v5 v6 v7 v8 μ q h; cases h
  | succ n ih => intro v5 v6 v7 v8 μ q h; exact t_L_act_L643_b d (L_act_L643 n) ih v5 v6 v7 v8 μ q h
set_option maxRecDepth 20000 in
theorem t_L_act_B602 (d : Nat) : ∀ (v5 : Int) (μ : am_M) q, L_act_B602 v5 μ = some q → am_run none (am_ar g_mt (d + 8)) 10 (some .boolean) k_L_act 602 [(0, (2, 0)), (5, (0, v5))] [] μ (am_res 0 q) := by
  intro v5 μ q h
  unfold L_act_B602 at h
  refine rn_sls 2 (pc' := 605) (ls' := [(0, (2, 0)), (5, (0, v5))]) (st' := [(0, v5), (2, 0)]) rfl ?_
  refine rn_call 0 0 [(2, 0), (0, v5)] (r := []) rfl ⟨rfl, Or.inl ⟨_, rfl, by decide⟩⟩ (by decide) (fun _ => ⟨_, rfl, rfl⟩) rfl rfl (Nat.le_of_ble_eq_true rfl) h (fun w hw => t_X_plain (d + 3) _ _ _ hw) (fun a1 μ2 h => ?_)
  refine rn_sls 0 (pc' := 608) (ls' := [(0, (2, 0)), (5, (0, v5))]) (st' := [(0, a1)]) rfl ?_
  refine rn_ifn (t := 628) rfl rfl rfl rfl h (fun h => ?_) (fun h => ?_)
  · refine rn_sls 3 (pc' := 615) (ls' := [(0, (2, 0)), (5, (0, v5))]) (st' := [(0, 0), (0, v5), (2, 0)]) rfl ?_
    refine rn_call 0 0 [(2, 0), (0, v5), (0, 0)] (r := []) rfl ⟨rfl, Or.inl ⟨_, rfl, by decide⟩⟩ (by decide) (fun _ => ⟨_, rfl, rfl⟩) rfl rfl (Nat.le_of_ble_eq_true rfl) h (fun w hw => t_X_order (d + 1) _ _ _ _ hw) (fun a5 μ6 h => ?_)
    refine rn_sls 0 (pc' := 618) (ls' := [(0, (2, 0)), (5, (0, v5))]) (st' := [(0, a5)]) rfl ?_
    refine rn_sls 1 (pc' := 619) (ls' := [(0, (2, 0)), (5, (0, v5))]) (st' := [(0, (-1)), (0, a5)]) rfl ?_
    refine rn_icmpn (t := 626) rfl rfl rfl rfl h (fun h => ?_) (fun h => ?_)
    · refine rn_sls 1 (pc' := 623) (ls' := [(0, (2, 0)), (5, (0, v5))]) (st' := [(0, 1)]) rfl ?_
      refine rn_goto (t := 627) rfl rfl rfl ?_
      exact rn_iretb rfl rfl rfl (Or.inr rfl) h rfl
    · refine rn_sls 1 (pc' := 627) (ls' := [(0, (2, 0)), (5, (0, v5))]) (st' := [(0, 0)]) rfl ?_
      exact rn_iretb rfl rfl rfl (Or.inl rfl) h rfl
  · refine rn_sls 7 (pc' := 638) (ls' := [(7, (0, 0)), (6, (0, 0)), (0, (2, 0)), (5, (0, v5))]) (st' := [(0, 0), (0, v5), (2, 0)]) rfl ?_
    refine rn_call 0 0 [(2, 0), (0, v5), (0, 0)] (r := []) rfl ⟨rfl, Or.inl ⟨_, rfl, by decide⟩⟩ (by decide) (fun _ => ⟨_, rfl, rfl⟩) rfl rfl (Nat.le_of_ble_eq_true rfl) h (fun w hw => t_X_bill (d + 6) _ _ _ _ hw) (fun a3 μ4 h => ?_)
    refine rn_sls 0 (pc' := 641) (ls' := [(7, (0, 0)), (6, (0, 0)), (0, (2, 0)), (5, (0, v5))]) (st' := [(0, a3)]) rfl ?_
    refine rn_sls 1 (pc' := 643) (ls' := [(8, (0, a3)), (7, (0, 0)), (6, (0, 0)), (0, (2, 0)), (5, (0, v5))]) (st' := []) rfl ?_
    exact rn_sub [3, 4, 2, 1, 0] rfl (t_L_act_L643 d  am_FU _ _ _ _ _ _ h)
set_option maxRecDepth 20000 in
theorem t_L_act (d : Nat) : ∀ (v1 : Int) (μ : am_M) q, L_act v1 μ = some q → am_ar g_mt (d + 9) 145 [(2, 0), (0, v1)] μ (am_res 0 q) := by
  intro v1 μ q h
  unfold L_act at h
  refine am_ar_of (d := d + 8) i_L_act rfl rfl (Nat.le_of_ble_eq_true rfl) ?_
  show am_run none (am_ar g_mt (d + 8)) 10 (some .boolean) k_L_act 0 [(0, (2, 0)), (1, (0, v1))] [] μ (am_res 0 q)
  refine rn_sls 21 (pc' := 27) (ls' := [(4, (0, (aAnd (aUshr v1 16) 63))), (3, (0, (aAnd (aUshr v1 10) 63))), (2, (0, (aAnd (aUshr v1 4) 63))), (0, (2, 0)), (1, (0, v1))]) (st' := [(0, 1), (2, 0), (0, (aAnd (aUshr v1 4) 63))]) rfl ?_
  refine rn_call 0 0 [(2, 0), (0, 1)] (r := [(0, (aAnd (aUshr v1 4) 63))]) rfl ⟨rfl, Or.inl ⟨_, rfl, by decide⟩⟩ (by decide) (fun _ => ⟨_, rfl, rfl⟩) rfl rfl (Nat.le_of_ble_eq_true rfl) h (fun w hw => t_X_count (d + 7) _ _ _ hw) (fun a1 μ2 h => ?_)
  refine rn_sls 0 (pc' := 30) (ls' := [(4, (0, (aAnd (aUshr v1 16) 63))), (3, (0, (aAnd (aUshr v1 10) 63))), (2, (0, (aAnd (aUshr v1 4) 63))), (0, (2, 0)), (1, (0, v1))]) (st' := [(0, a1), (0, (aAnd (aUshr v1 4) 63))]) rfl ?_
  refine rn_dv (x := (aAnd (aUshr v1 4) 63)) (ls := [(4, (0, (aAnd (aUshr v1 16) 63))), (3, (0, (aAnd (aUshr v1 10) 63))), (2, (0, (aAnd (aUshr v1 4) 63))), (0, (2, 0)), (1, (0, v1))]) (r := []) h (fun hd3 h => ?_)
  refine rn_irem hd3 rfl rfl rfl ?_
  refine rn_sls 0 (pc' := 31) (ls' := [(4, (0, (aAnd (aUshr v1 16) 63))), (3, (0, (aAnd (aUshr v1 10) 63))), (2, (0, (aAnd (aUshr v1 4) 63))), (0, (2, 0)), (1, (0, v1))]) (st' := [(0, (aRem (aAnd (aUshr v1 4) 63) a1))]) rfl ?_
  refine rn_sls 4 (pc' := 37) (ls' := [(5, (0, (aRem (aAnd (aUshr v1 4) 63) a1))), (4, (0, (aAnd (aUshr v1 16) 63))), (3, (0, (aAnd (aUshr v1 10) 63))), (2, (0, (aAnd (aUshr v1 4) 63))), (0, (2, 0)), (1, (0, v1))]) (st' := [(0, (aAnd v1 15))]) rfl ?_
  refine rn_tsw rfl rfl ?_
  refine rn_swc (t := 104) rfl h (fun h => ?_) (fun h => ?_)
  · refine rn_sls 2 (pc' := 107) (ls' := [(5, (0, (aRem (aAnd (aUshr v1 4) 63) a1))), (4, (0, (aAnd (aUshr v1 16) 63))), (3, (0, (aAnd (aUshr v1 10) 63))), (2, (0, (aAnd (aUshr v1 4) 63))), (0, (2, 0)), (1, (0, v1))]) (st' := [(0, 7), (0, (aAnd (aUshr v1 4) 63))]) rfl ?_
    refine rn_icmpn (t := 120) rfl rfl rfl rfl h (fun h => ?_) (fun h => ?_)
    · cases h
    · refine rn_sls 1 (pc' := 121) (ls' := [(5, (0, (aRem (aAnd (aUshr v1 4) 63) a1))), (4, (0, (aAnd (aUshr v1 16) 63))), (3, (0, (aAnd (aUshr v1 10) 63))), (2, (0, (aAnd (aUshr v1 4) 63))), (0, (2, 0)), (1, (0, v1))]) (st' := [(0, 1)]) rfl ?_
      refine rn_goto (t := 125) rfl rfl rfl ?_
      exact rn_iretb rfl rfl rfl (Or.inr rfl) h rfl
  refine rn_swc (t := 126) rfl h (fun h => ?_) (fun h => ?_)
  · exact rn_sub [4, 2, 1, 0] rfl (t_L_act_B126 d  _ _ _ _ _ h)
  refine rn_swc (t := 126) rfl h (fun h => ?_) (fun h => ?_)
  · exact rn_sub [4, 2, 1, 0] rfl (t_L_act_B126 d  _ _ _ _ _ h)
  refine rn_swc (t := 126) rfl h (fun h => ?_) (fun h => ?_)
  · exact rn_sub [4, 2, 1, 0] rfl (t_L_act_B126 d  _ _ _ _ _ h)
  refine rn_swc (t := 165) rfl h (fun h => ?_) (fun h => ?_)
  · exact rn_sub [4, 2] rfl (t_L_act_B165 d  _ _ _ h)
  refine rn_swc (t := 165) rfl h (fun h => ?_) (fun h => ?_)
  · exact rn_sub [4, 2] rfl (t_L_act_B165 d  _ _ _ h)
  refine rn_swc (t := 165) rfl h (fun h => ?_) (fun h => ?_)
  · exact rn_sub [4, 2] rfl (t_L_act_B165 d  _ _ _ h)
  refine rn_swc (t := 263) rfl h (fun h => ?_) (fun h => ?_)
  · exact rn_sub [4, 3] rfl (t_L_act_B263 d  _ _ _ h)
  refine rn_swc (t := 290) rfl h (fun h => ?_) (fun h => ?_)
  · exact rn_sub [4, 2] rfl (t_L_act_B290 d  _ _ _ h)
  refine rn_swc (t := 313) rfl h (fun h => ?_) (fun h => ?_)
  · exact rn_sub [4, 2, 1, 0] rfl (t_L_act_B313 d  _ _ _ _ _ h)
  refine rn_swc (t := 313) rfl h (fun h => ?_) (fun h => ?_)
  · exact rn_sub [4, 2, 1, 0] rfl (t_L_act_B313 d  _ _ _ _ _ h)
  refine rn_swc (t := 450) rfl h (fun h => ?_) (fun h => ?_)
  · exact rn_sub [4, 3, 1] rfl (t_L_act_B450 d  _ _ _ _ h)
  refine rn_swc (t := 553) rfl h (fun h => ?_) (fun h => ?_)
  · exact rn_sub [4] rfl (t_L_act_B553 d  _ _ h)
  refine rn_sw0 (t := 602) rfl ?_
  exact rn_sub [4, 0] rfl (t_L_act_B602 d  _ _ _ h)
