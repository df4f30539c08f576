/-! The code does what the functions say. Printed by program. -/
set_option maxRecDepth 20000 in
theorem t_Rd_unwrap (d : Nat) : ∀  (μ : am_M) q, Rd_unwrap  μ = some q → am_ar g_mt (d + 4) 83 [(2, 20)] μ (am_res 0 q) := by
  intro  μ q h
  unfold Rd_unwrap at h
  refine am_ar_of (d := d + 3) i_Rd_unwrap rfl rfl (Nat.le_of_ble_eq_true rfl) ?_
  show am_run none (am_ar g_mt (d + 3)) 1 (some .boolean) k_Rd_unwrap 0 [(0, (2, 20))] [] μ (am_res 0 q)
  refine rn_sls 2 (pc' := 2) (ls' := [(0, (2, 20))]) (st' := [(0, 1), (2, 20)]) rfl ?_
  refine rn_call 0 2 [(2, 20), (0, 1)] (r := []) rfl ⟨rfl, Or.inl ⟨_, rfl, by decide⟩⟩ (by decide) (fun _ => ⟨_, rfl, rfl⟩) rfl rfl (Nat.le_of_ble_eq_true rfl) h (fun w hw => t_Rd_codeFrom (d + 0) _ _ _ hw) (fun a1 μ2 h => ?_)
  refine rn_sls 0 (pc' := 5) (ls' := [(0, (2, 20))]) (st' := []) rfl ?_
  refine rn_sls 1 (pc' := 6) (ls' := [(0, (2, 20))]) (st' := [(2, 20)]) rfl ?_
  refine rn_call 0 0 [(2, 20)] (r := []) rfl ⟨rfl, Or.inl ⟨_, rfl, by decide⟩⟩ (by decide) (fun _ => ⟨_, rfl, rfl⟩) rfl rfl (Nat.le_of_ble_eq_true rfl) h (fun w hw => t_Rd_lastWaiting (d + 1)  _ _ hw) (fun a3 μ4 h => ?_)
  refine rn_sls 0 (pc' := 9) (ls' := [(0, (2, 20))]) (st' := [(0, a3)]) rfl ?_
  refine rn_sls 1 (pc' := 11) (ls' := [(0, (2, 20))]) (st' := [(0, 40), (0, a3)]) rfl ?_
  refine rn_icmp (t := 20) rfl rfl rfl rfl h (fun h => ?_) (fun h => ?_)
  · refine rn_sls 5 (pc' := 27) (ls' := [(0, (2, 20))]) (st' := [(0, (w32 ((μ4 20 8) - 1))), (2, 20)]) rfl ?_
    refine rn_put rfl rfl rfl rfl (Or.inl ⟨rfl, rfl⟩) rfl h (fun μ5 h => ?_)
    refine rn_sls 5 (pc' := 37) (ls' := [(0, (2, 20))]) (st' := [(0, (w32 ((μ5 20 9) - 1))), (2, 20)]) rfl ?_
    refine rn_put rfl rfl rfl rfl (Or.inl ⟨rfl, rfl⟩) rfl h (fun μ6 h => ?_)
    refine rn_sls 1 (pc' := 41) (ls' := [(0, (2, 20))]) (st' := [(2, 20)]) rfl ?_
    refine rn_call 0 2 [(2, 20)] (r := []) rfl ⟨rfl, Or.inl ⟨_, rfl, by decide⟩⟩ (by decide) (fun _ => ⟨_, rfl, rfl⟩) rfl rfl (Nat.le_of_ble_eq_true rfl) h (fun w hw => t_Rd_codeNots (d + 0)  _ _ hw) (fun a7 μ8 h => ?_)
    refine rn_sls 0 (pc' := 44) (ls' := [(0, (2, 20))]) (st' := []) rfl ?_
    refine rn_sls 1 (pc' := 45) (ls' := [(0, (2, 20))]) (st' := [(0, 1)]) rfl ?_
    exact rn_iretb rfl rfl rfl (Or.inr rfl) h rfl
  · refine rn_sls 2 (pc' := 16) (ls' := [(0, (2, 20))]) (st' := [(0, 1), (2, 20)]) rfl ?_
    refine rn_call 0 0 [(2, 20), (0, 1)] (r := []) rfl ⟨rfl, Or.inl ⟨_, rfl, by decide⟩⟩ (by decide) (fun _ => ⟨_, rfl, rfl⟩) rfl rfl (Nat.le_of_ble_eq_true rfl) h (fun w hw => t_Rd_fail (d + 2) _ _ _ hw) (fun a9 μ10 h => ?_)
    refine rn_sls 0 (pc' := 19) (ls' := [(0, (2, 20))]) (st' := [(0, a9)]) rfl ?_
    exact rn_iretB rfl rfl rfl h rfl
set_option maxRecDepth 20000 in
theorem t_Rd_join_B47 (d : Nat) : ∀  (μ : am_M) q, Rd_join_B47  μ = some q → am_run none (am_ar g_mt (d + 3)) 2 (some .boolean) k_Rd_join 47 [(0, (2, 20))] [] μ (am_res 0 q) := by
  intro  μ q h
  unfold Rd_join_B47 at h
  refine rn_sls 4 (pc' := 55) (ls' := [(0, (2, 20))]) (st' := [(0, (μ 10 5)), (2, 20)]) rfl ?_
  refine rn_call 0 2 [(2, 20), (0, (μ 10 5))] (r := []) rfl ⟨rfl, Or.inl ⟨_, rfl, by decide⟩⟩ (by decide) (fun _ => ⟨_, rfl, rfl⟩) rfl rfl (Nat.le_of_ble_eq_true rfl) h (fun w hw => t_Rd_await (d + 1) _ _ _ hw) (fun a1 μ2 h => ?_)
  refine rn_sls 0 (pc' := 58) (ls' := [(0, (2, 20))]) (st' := []) rfl ?_
  refine rn_sls 1 (pc' := 59) (ls' := [(0, (2, 20))]) (st' := [(0, 1)]) rfl ?_
  exact rn_iretb rfl rfl rfl (Or.inr rfl) h rfl
set_option maxRecDepth 20000 in
theorem t_Rd_join_B22 (d : Nat) : ∀ (v1 : Int) (s1 : Int) (μ : am_M) q, Rd_join_B22 v1 s1 μ = some q → am_run none (am_ar g_mt (d + 3)) 2 (some .boolean) k_Rd_join 22 [(0, (2, 20)), (1, (0, v1))] [(0, s1), (2, 20)] μ (am_res 0 q) := by
  intro v1 s1 μ q h
  unfold Rd_join_B22 at h
  refine rn_call 0 2 [(2, 20), (0, s1)] (r := []) rfl ⟨rfl, Or.inl ⟨_, rfl, by decide⟩⟩ (by decide) (fun _ => ⟨_, rfl, rfl⟩) rfl rfl (Nat.le_of_ble_eq_true rfl) h (fun w hw => t_Rd_codeFrom (d + 0) _ _ _ hw) (fun a1 μ2 h => ?_)
  refine rn_sls 0 (pc' := 25) (ls' := [(0, (2, 20)), (1, (0, v1))]) (st' := []) rfl ?_
  refine rn_sls 2 (pc' := 27) (ls' := [(0, (2, 20)), (1, (0, v1))]) (st' := [(0, 2), (0, v1)]) rfl ?_
  refine rn_icmpn (t := 47) rfl rfl rfl rfl h (fun h => ?_) (fun h => ?_)
  · refine rn_sls 1 (pc' := 31) (ls' := [(0, (2, 20)), (1, (0, v1))]) (st' := [(2, 20)]) rfl ?_
    refine rn_call 0 0 [(2, 20)] (r := []) rfl ⟨rfl, Or.inl ⟨_, rfl, by decide⟩⟩ (by decide) (fun _ => ⟨_, rfl, rfl⟩) rfl rfl (Nat.le_of_ble_eq_true rfl) h (fun w hw => t_Rd_lastWaiting (d + 1)  _ _ hw) (fun a3 μ4 h => ?_)
    refine rn_sls 0 (pc' := 34) (ls' := [(0, (2, 20)), (1, (0, v1))]) (st' := [(0, a3)]) rfl ?_
    refine rn_call 2 0 [(0, a3)] (r := []) rfl ⟨rfl, Or.inr ⟨_, rfl, by decide⟩⟩ (by decide) (fun z => absurd z (by decide)) rfl rfl (Nat.le_of_ble_eq_true rfl) h (fun w hw => t_Rd_rank (d + 2) _ _ _ hw) (fun a5 μ6 h => ?_)
    refine rn_sls 0 (pc' := 37) (ls' := [(0, (2, 20)), (1, (0, v1))]) (st' := [(0, a5)]) rfl ?_
    refine rn_sls 1 (pc' := 38) (ls' := [(0, (2, 20)), (1, (0, v1))]) (st' := [(0, 2), (0, a5)]) rfl ?_
    refine rn_icmpn (t := 47) rfl rfl rfl rfl h (fun h => ?_) (fun h => ?_)
    · refine rn_sls 2 (pc' := 43) (ls' := [(0, (2, 20)), (1, (0, v1))]) (st' := [(0, 1), (2, 20)]) rfl ?_
      refine rn_call 0 0 [(2, 20), (0, 1)] (r := []) rfl ⟨rfl, Or.inl ⟨_, rfl, by decide⟩⟩ (by decide) (fun _ => ⟨_, rfl, rfl⟩) rfl rfl (Nat.le_of_ble_eq_true rfl) h (fun w hw => t_Rd_fail (d + 2) _ _ _ hw) (fun a7 μ8 h => ?_)
      refine rn_sls 0 (pc' := 46) (ls' := [(0, (2, 20)), (1, (0, v1))]) (st' := [(0, a7)]) rfl ?_
      exact rn_iretB rfl rfl rfl h rfl
    · exact rn_sub [0] rfl (t_Rd_join_B47 d  _ _ h)
  · exact rn_sub [0] rfl (t_Rd_join_B47 d  _ _ h)
set_option maxRecDepth 20000 in
theorem t_Rd_join (d : Nat) : ∀  (μ : am_M) q, Rd_join  μ = some q → am_ar g_mt (d + 4) 84 [(2, 20)] μ (am_res 0 q) := by
  intro  μ q h
  unfold Rd_join at h
  refine am_ar_of (d := d + 3) i_Rd_join rfl rfl (Nat.le_of_ble_eq_true rfl) ?_
  show am_run none (am_ar g_mt (d + 3)) 2 (some .boolean) k_Rd_join 0 [(0, (2, 20))] [] μ (am_res 0 q)
  refine rn_sls 3 (pc' := 7) (ls' := [(0, (2, 20))]) (st' := [(0, (μ 10 5))]) rfl ?_
  refine rn_call 2 0 [(0, (μ 10 5))] (r := []) rfl ⟨rfl, Or.inr ⟨_, rfl, by decide⟩⟩ (by decide) (fun z => absurd z (by decide)) rfl rfl (Nat.le_of_ble_eq_true rfl) h (fun w hw => t_Rd_rank (d + 2) _ _ _ hw) (fun a1 μ2 h => ?_)
  refine rn_sls 0 (pc' := 10) (ls' := [(0, (2, 20))]) (st' := [(0, a1)]) rfl ?_
  refine rn_sls 4 (pc' := 14) (ls' := [(1, (0, a1)), (0, (2, 20))]) (st' := [(0, 2), (0, a1), (2, 20)]) rfl ?_
  refine rn_icmpn (t := 21) rfl rfl rfl rfl h (fun h => ?_) (fun h => ?_)
  · refine rn_sls 1 (pc' := 18) (ls' := [(1, (0, a1)), (0, (2, 20))]) (st' := [(0, 3), (2, 20)]) rfl ?_
    refine rn_goto (t := 22) rfl rfl rfl ?_
    exact rn_sub [1, 0] rfl (t_Rd_join_B22 d  _ _ _ _ h)
  · refine rn_sls 1 (pc' := 22) (ls' := [(1, (0, a1)), (0, (2, 20))]) (st' := [(0, a1), (2, 20)]) rfl ?_
    exact rn_sub [1, 0] rfl (t_Rd_join_B22 d  _ _ _ _ h)
set_option maxRecDepth 20000 in
theorem t_Rd_endSum (d : Nat) : ∀  (μ : am_M) q, Rd_endSum  μ = some q → am_ar g_mt (d + 4) 85 [(2, 20)] μ (am_res 0 q) := by
  intro  μ q h
  unfold Rd_endSum at h
  refine am_ar_of (d := d + 3) i_Rd_endSum rfl rfl (Nat.le_of_ble_eq_true rfl) ?_
  show am_run none (am_ar g_mt (d + 3)) 1 (some .boolean) k_Rd_endSum 0 [(0, (2, 20))] [] μ (am_res 0 q)
  refine rn_sls 2 (pc' := 2) (ls' := [(0, (2, 20))]) (st' := [(0, 1), (2, 20)]) rfl ?_
  refine rn_call 0 2 [(2, 20), (0, 1)] (r := []) rfl ⟨rfl, Or.inl ⟨_, rfl, by decide⟩⟩ (by decide) (fun _ => ⟨_, rfl, rfl⟩) rfl rfl (Nat.le_of_ble_eq_true rfl) h (fun w hw => t_Rd_codeFrom (d + 0) _ _ _ hw) (fun a1 μ2 h => ?_)
  refine rn_sls 0 (pc' := 5) (ls' := [(0, (2, 20))]) (st' := []) rfl ?_
  refine rn_sls 2 (pc' := 9) (ls' := [(0, (2, 20))]) (st' := [(0, (μ2 20 8))]) rfl ?_
  refine rn_if (t := 20) rfl rfl rfl rfl h (fun h => ?_) (fun h => ?_)
  · refine rn_sls 1 (pc' := 21) (ls' := [(0, (2, 20))]) (st' := [(0, 1)]) rfl ?_
    refine rn_goto (t := 25) rfl rfl rfl ?_
    exact rn_iretb rfl rfl rfl (Or.inr rfl) h rfl
  · refine rn_sls 2 (pc' := 14) (ls' := [(0, (2, 20))]) (st' := [(0, 1), (2, 20)]) rfl ?_
    refine rn_call 0 0 [(2, 20), (0, 1)] (r := []) rfl ⟨rfl, Or.inl ⟨_, rfl, by decide⟩⟩ (by decide) (fun _ => ⟨_, rfl, rfl⟩) rfl rfl (Nat.le_of_ble_eq_true rfl) h (fun w hw => t_Rd_fail (d + 2) _ _ _ hw) (fun a3 μ4 h => ?_)
    refine rn_sls 0 (pc' := 17) (ls' := [(0, (2, 20))]) (st' := [(0, a3)]) rfl ?_
    refine rn_if (t := 24) rfl rfl rfl rfl h (fun h => ?_) (fun h => ?_)
    · refine rn_sls 1 (pc' := 25) (ls' := [(0, (2, 20))]) (st' := [(0, 0)]) rfl ?_
      exact rn_iretb rfl rfl rfl (Or.inl rfl) h rfl
    · refine rn_sls 1 (pc' := 21) (ls' := [(0, (2, 20))]) (st' := [(0, 1)]) rfl ?_
      refine rn_goto (t := 25) rfl rfl rfl ?_
      exact rn_iretb rfl rfl rfl (Or.inr rfl) h rfl
set_option maxRecDepth 20000 in
theorem t_Rd_readSum_B127 (d : Nat) (k14 : Int → Int → am_M → am_O) (hk14 : ∀ (v1 : Int) (v2 : Int) (μ : am_M) q, k14 v1 v2 μ = some q → am_run none (am_ar g_mt (d + 4)) 5 (some .boolean) k_Rd_readSum 14 [(0, (2, 20)), (1, (0, v1)), (2, (0, v2))] [] μ (am_res 0 q)) : ∀ (v1 : Int) (v2 : Int) (v4 : Int) (μ : am_M) q, Rd_readSum_B127 k14 v1 v2 v4 μ = some q → am_run none (am_ar g_mt (d + 4)) 5 (some .boolean) k_Rd_readSum 127 [(0, (2, 20)), (1, (0, v1)), (2, (0, v2)), (4, (0, v4))] [] μ (am_res 0 q) := by
  intro v1 v2 v4 μ q h
  unfold Rd_readSum_B127 at h
  refine rn_sls 1 (pc' := 129) (ls' := [(0, (2, 20)), (1, (0, v1)), (2, (0, v2)), (4, (0, v4))]) (st' := [(0, v4)]) rfl ?_
  refine rn_ifn (t := 134) rfl rfl rfl rfl h (fun h => ?_) (fun h => ?_)
  · refine rn_sls 1 (pc' := 133) (ls' := [(0, (2, 20)), (1, (0, v1)), (2, (0, v2)), (4, (0, v4))]) (st' := [(0, 0)]) rfl ?_
    exact rn_iretb rfl rfl rfl (Or.inl rfl) h rfl
  · refine rn_sls 2 (pc' := 138) (ls' := [(0, (2, 20)), (1, (0, v1)), (2, (0, v2)), (4, (0, v4))]) (st' := [(2, 10)]) rfl ?_
    refine rn_call 0 2 [(2, 10)] (r := []) rfl ⟨rfl, Or.inl ⟨_, rfl, by decide⟩⟩ (by decide) (fun _ => ⟨_, rfl, rfl⟩) rfl rfl (Nat.le_of_ble_eq_true rfl) h (fun w hw => t_Tp_advance (d + 1)  _ _ hw) (fun a1 μ2 h => ?_)
    refine rn_sls 0 (pc' := 141) (ls' := [(0, (2, 20)), (1, (0, v1)), (2, (0, v2)), (4, (0, v4))]) (st' := []) rfl ?_
    refine rn_sls 1 (pc' := 144) (ls' := [(2, (0, (w32 (v2 + 1)))), (0, (2, 20)), (1, (0, v1)), (4, (0, v4))]) (st' := []) rfl ?_
    refine rn_goto (t := 14) rfl rfl rfl ?_
    exact rn_sub [1, 2, 0] rfl (hk14 _ _ _ _ h)
set_option maxRecDepth 20000 in
theorem t_Rd_readSum_B84 (d : Nat) (k14 : Int → Int → am_M → am_O) (hk14 : ∀ (v1 : Int) (v2 : Int) (μ : am_M) q, k14 v1 v2 μ = some q → am_run none (am_ar g_mt (d + 4)) 5 (some .boolean) k_Rd_readSum 14 [(0, (2, 20)), (1, (0, v1)), (2, (0, v2))] [] μ (am_res 0 q)) : ∀ (v1 : Int) (v2 : Int) (s0 : Int) (μ : am_M) q, Rd_readSum_B84 k14 v1 v2 s0 μ = some q → am_run none (am_ar g_mt (d + 4)) 5 (some .boolean) k_Rd_readSum 84 [(0, (2, 20)), (1, (0, v1)), (2, (0, v2))] [(0, s0)] μ (am_res 0 q) := by
  intro v1 v2 s0 μ q h
  unfold Rd_readSum_B84 at h
  refine rn_sls 1 (pc' := 86) (ls' := [(4, (0, s0)), (0, (2, 20)), (1, (0, v1)), (2, (0, v2))]) (st' := []) rfl ?_
  refine rn_goto (t := 127) rfl rfl rfl ?_
  exact rn_sub [1, 2, 3, 0] rfl (t_Rd_readSum_B127 d k14 hk14 _ _ _ _ _ h)
set_option maxRecDepth 20000 in
theorem t_Rd_readSum_B79 (d : Nat) (k14 : Int → Int → am_M → am_O) (hk14 : ∀ (v1 : Int) (v2 : Int) (μ : am_M) q, k14 v1 v2 μ = some q → am_run none (am_ar g_mt (d + 4)) 5 (some .boolean) k_Rd_readSum 14 [(0, (2, 20)), (1, (0, v1)), (2, (0, v2))] [] μ (am_res 0 q)) : ∀ (v1 : Int) (v2 : Int) (μ : am_M) q, Rd_readSum_B79 k14 v1 v2 μ = some q → am_run none (am_ar g_mt (d + 4)) 5 (some .boolean) k_Rd_readSum 79 [(0, (2, 20)), (1, (0, v1)), (2, (0, v2))] [] μ (am_res 0 q) := by
  intro v1 v2 μ q h
  unfold Rd_readSum_B79 at h
  refine rn_sls 1 (pc' := 80) (ls' := [(0, (2, 20)), (1, (0, v1)), (2, (0, v2))]) (st' := [(0, 1)]) rfl ?_
  refine rn_goto (t := 84) rfl rfl rfl ?_
  exact rn_sub [0, 1, 2] rfl (t_Rd_readSum_B84 d k14 hk14 _ _ _ _ _ h)
set_option maxRecDepth 20000 in
theorem t_Rd_readSum_B83 (d : Nat) (k14 : Int → Int → am_M → am_O) (hk14 : ∀ (v1 : Int) (v2 : Int) (μ : am_M) q, k14 v1 v2 μ = some q → am_run none (am_ar g_mt (d + 4)) 5 (some .boolean) k_Rd_readSum 14 [(0, (2, 20)), (1, (0, v1)), (2, (0, v2))] [] μ (am_res 0 q)) : ∀ (v1 : Int) (v2 : Int) (μ : am_M) q, Rd_readSum_B83 k14 v1 v2 μ = some q → am_run none (am_ar g_mt (d + 4)) 5 (some .boolean) k_Rd_readSum 83 [(0, (2, 20)), (1, (0, v1)), (2, (0, v2))] [] μ (am_res 0 q) := by
  intro v1 v2 μ q h
  unfold Rd_readSum_B83 at h
  refine rn_sls 1 (pc' := 84) (ls' := [(0, (2, 20)), (1, (0, v1)), (2, (0, v2))]) (st' := [(0, 0)]) rfl ?_
  exact rn_sub [0, 1, 2] rfl (t_Rd_readSum_B84 d k14 hk14 _ _ _ _ _ h)
set_option maxRecDepth 20000 in
theorem t_Rd_readSum_B50 (d : Nat) (k14 : Int → Int → am_M → am_O) (hk14 : ∀ (v1 : Int) (v2 : Int) (μ : am_M) q, k14 v1 v2 μ = some q → am_run none (am_ar g_mt (d + 4)) 5 (some .boolean) k_Rd_readSum 14 [(0, (2, 20)), (1, (0, v1)), (2, (0, v2))] [] μ (am_res 0 q)) : ∀ (v2 : Int) (s0 : Int) (μ : am_M) q, Rd_readSum_B50 k14 v2 s0 μ = some q → am_run none (am_ar g_mt (d + 4)) 5 (some .boolean) k_Rd_readSum 50 [(0, (2, 20)), (2, (0, v2))] [(0, s0)] μ (am_res 0 q) := by
  intro v2 s0 μ q h
  unfold Rd_readSum_B50 at h
  refine rn_sls 2 (pc' := 52) (ls' := [(1, (0, s0)), (0, (2, 20)), (2, (0, v2))]) (st' := [(2, 20)]) rfl ?_
  refine rn_call 0 0 [(2, 20)] (r := []) rfl ⟨rfl, Or.inl ⟨_, rfl, by decide⟩⟩ (by decide) (fun _ => ⟨_, rfl, rfl⟩) rfl rfl (Nat.le_of_ble_eq_true rfl) h (fun w hw => t_Rd_mayBegin (d + 2)  _ _ hw) (fun a1 μ2 h => ?_)
  refine rn_sls 0 (pc' := 55) (ls' := [(1, (0, s0)), (0, (2, 20)), (2, (0, v2))]) (st' := [(0, a1)]) rfl ?_
  refine rn_if (t := 83) rfl rfl rfl rfl h (fun h => ?_) (fun h => ?_)
  · exact rn_sub [1, 0, 2] rfl (t_Rd_readSum_B83 d k14 hk14 _ _ _ _ h)
  · refine rn_sls 1 (pc' := 59) (ls' := [(1, (0, s0)), (0, (2, 20)), (2, (0, v2))]) (st' := [(0, s0)]) rfl ?_
    refine rn_if (t := 72) rfl rfl rfl rfl h (fun h => ?_) (fun h => ?_)
    · refine rn_sls 1 (pc' := 73) (ls' := [(1, (0, s0)), (0, (2, 20)), (2, (0, v2))]) (st' := [(2, 20)]) rfl ?_
      refine rn_call 0 0 [(2, 20)] (r := []) rfl ⟨rfl, Or.inl ⟨_, rfl, by decide⟩⟩ (by decide) (fun _ => ⟨_, rfl, rfl⟩) rfl rfl (Nat.le_of_ble_eq_true rfl) h (fun w hw => t_Rd_readPart (d + 0)  _ _ hw) (fun a3 μ4 h => ?_)
      refine rn_sls 0 (pc' := 76) (ls' := [(1, (0, s0)), (0, (2, 20)), (2, (0, v2))]) (st' := [(0, a3)]) rfl ?_
      refine rn_if (t := 83) rfl rfl rfl rfl h (fun h => ?_) (fun h => ?_)
      · exact rn_sub [1, 0, 2] rfl (t_Rd_readSum_B83 d k14 hk14 _ _ _ _ h)
      · exact rn_sub [1, 0, 2] rfl (t_Rd_readSum_B79 d k14 hk14 _ _ _ _ h)
    · refine rn_sls 1 (pc' := 63) (ls' := [(1, (0, s0)), (0, (2, 20)), (2, (0, v2))]) (st' := [(2, 20)]) rfl ?_
      refine rn_call 0 0 [(2, 20)] (r := []) rfl ⟨rfl, Or.inl ⟨_, rfl, by decide⟩⟩ (by decide) (fun _ => ⟨_, rfl, rfl⟩) rfl rfl (Nat.le_of_ble_eq_true rfl) h (fun w hw => t_Rd_wrap (d + 1)  _ _ hw) (fun a5 μ6 h => ?_)
      refine rn_sls 0 (pc' := 66) (ls' := [(1, (0, s0)), (0, (2, 20)), (2, (0, v2))]) (st' := [(0, a5)]) rfl ?_
      refine rn_if (t := 83) rfl rfl rfl rfl h (fun h => ?_) (fun h => ?_)
      · exact rn_sub [1, 0, 2] rfl (t_Rd_readSum_B83 d k14 hk14 _ _ _ _ h)
      · refine rn_goto (t := 79) rfl rfl rfl ?_
        exact rn_sub [1, 0, 2] rfl (t_Rd_readSum_B79 d k14 hk14 _ _ _ _ h)
set_option maxRecDepth 20000 in
theorem t_Rd_readSum_B45 (d : Nat) (k14 : Int → Int → am_M → am_O) (hk14 : ∀ (v1 : Int) (v2 : Int) (μ : am_M) q, k14 v1 v2 μ = some q → am_run none (am_ar g_mt (d + 4)) 5 (some .boolean) k_Rd_readSum 14 [(0, (2, 20)), (1, (0, v1)), (2, (0, v2))] [] μ (am_res 0 q)) : ∀ (v2 : Int) (μ : am_M) q, Rd_readSum_B45 k14 v2 μ = some q → am_run none (am_ar g_mt (d + 4)) 5 (some .boolean) k_Rd_readSum 45 [(0, (2, 20)), (2, (0, v2))] [] μ (am_res 0 q) := by
  intro v2 μ q h
  unfold Rd_readSum_B45 at h
  refine rn_sls 1 (pc' := 46) (ls' := [(0, (2, 20)), (2, (0, v2))]) (st' := [(0, 1)]) rfl ?_
  refine rn_goto (t := 50) rfl rfl rfl ?_
  exact rn_sub [0, 1] rfl (t_Rd_readSum_B50 d k14 hk14 _ _ _ _ h)
set_option maxRecDepth 20000 in
theorem t_Rd_readSum_L14_b (d : Nat) (k14 : Int → Int → am_M → am_O) (hk14 : ∀ (v1 : Int) (v2 : Int) (μ : am_M) q, k14 v1 v2 μ = some q → am_run none (am_ar g_mt (d + 4)) 5 (some .boolean) k_Rd_readSum 14 [(0, (2, 20)), (1, (0, v1)), (2, (0, v2))] [] μ (am_res 0 q)) : ∀ (v1 : Int) (v2 : Int) (μ : am_M) q, Rd_readSum_L14_b k14 v1 v2 μ = some q → am_run none (am_ar g_mt (d + 4)) 5 (some .boolean) k_Rd_readSum 14 [(0, (2, 20)), (1, (0, v1)), (2, (0, v2))] [] μ (am_res 0 q) := by
  intro v1 v2 μ q h
  unfold Rd_readSum_L14_b at h
  refine rn_sls 2 (pc' := 18) (ls' := [(0, (2, 20)), (1, (0, v1)), (2, (0, v2))]) (st' := [(0, 1000), (0, v2)]) rfl ?_
  refine rn_icmpn (t := 147) rfl rfl rfl rfl h (fun h => ?_) (fun h => ?_)
  · refine rn_sls 5 (pc' := 30) (ls' := [(3, (0, (μ 10 5))), (0, (2, 20)), (1, (0, v1)), (2, (0, v2))]) (st' := [(0, v1)]) rfl ?_
    refine rn_if (t := 89) rfl rfl rfl rfl h (fun h => ?_) (fun h => ?_)
    · refine rn_sls 2 (pc' := 92) (ls' := [(3, (0, (μ 10 5))), (0, (2, 20)), (1, (0, v1)), (2, (0, v2))]) (st' := [(0, 41), (0, (μ 10 5))]) rfl ?_
      refine rn_icmpn (t := 104) rfl rfl rfl rfl h (fun h => ?_) (fun h => ?_)
      · refine rn_sls 1 (pc' := 96) (ls' := [(3, (0, (μ 10 5))), (0, (2, 20)), (1, (0, v1)), (2, (0, v2))]) (st' := [(2, 20)]) rfl ?_
        refine rn_call 0 0 [(2, 20)] (r := []) rfl ⟨rfl, Or.inl ⟨_, rfl, by decide⟩⟩ (by decide) (fun _ => ⟨_, rfl, rfl⟩) rfl rfl (Nat.le_of_ble_eq_true rfl) h (fun w hw => t_Rd_unwrap (d + 0)  _ _ hw) (fun a9 μ10 h => ?_)
        refine rn_sls 0 (pc' := 99) (ls' := [(3, (0, (μ 10 5))), (0, (2, 20)), (1, (0, v1)), (2, (0, v2))]) (st' := [(0, a9)]) rfl ?_
        refine rn_sls 1 (pc' := 101) (ls' := [(4, (0, a9)), (3, (0, (μ 10 5))), (0, (2, 20)), (1, (0, v1)), (2, (0, v2))]) (st' := []) rfl ?_
        refine rn_goto (t := 127) rfl rfl rfl ?_
        exact rn_sub [2, 3, 4, 0] rfl (t_Rd_readSum_B127 d k14 hk14 _ _ _ _ _ h)
      · refine rn_sls 1 (pc' := 105) (ls' := [(3, (0, (μ 10 5))), (0, (2, 20)), (1, (0, v1)), (2, (0, v2))]) (st' := [(0, (μ 10 5))]) rfl ?_
        refine rn_call 2 0 [(0, (μ 10 5))] (r := []) rfl ⟨rfl, Or.inr ⟨_, rfl, by decide⟩⟩ (by decide) (fun z => absurd z (by decide)) rfl rfl (Nat.le_of_ble_eq_true rfl) h (fun w hw => t_Rd_rank (d + 3) _ _ _ hw) (fun a3 μ4 h => ?_)
        refine rn_sls 0 (pc' := 108) (ls' := [(3, (0, (μ 10 5))), (0, (2, 20)), (1, (0, v1)), (2, (0, v2))]) (st' := [(0, a3)]) rfl ?_
        refine rn_if (t := 122) rfl rfl rfl rfl h (fun h => ?_) (fun h => ?_)
        · refine rn_sls 1 (pc' := 123) (ls' := [(3, (0, (μ 10 5))), (0, (2, 20)), (1, (0, v1)), (2, (0, v2))]) (st' := [(2, 20)]) rfl ?_
          refine rn_call 0 0 [(2, 20)] (r := []) rfl ⟨rfl, Or.inl ⟨_, rfl, by decide⟩⟩ (by decide) (fun _ => ⟨_, rfl, rfl⟩) rfl rfl (Nat.le_of_ble_eq_true rfl) h (fun w hw => t_Rd_endSum (d + 0)  _ _ hw) (fun a5 μ6 h => ?_)
          refine rn_sls 0 (pc' := 126) (ls' := [(3, (0, (μ 10 5))), (0, (2, 20)), (1, (0, v1)), (2, (0, v2))]) (st' := [(0, a5)]) rfl ?_
          exact rn_iretB rfl rfl rfl h rfl
        · refine rn_sls 1 (pc' := 112) (ls' := [(3, (0, (μ 10 5))), (0, (2, 20)), (1, (0, v1)), (2, (0, v2))]) (st' := [(2, 20)]) rfl ?_
          refine rn_call 0 0 [(2, 20)] (r := []) rfl ⟨rfl, Or.inl ⟨_, rfl, by decide⟩⟩ (by decide) (fun _ => ⟨_, rfl, rfl⟩) rfl rfl (Nat.le_of_ble_eq_true rfl) h (fun w hw => t_Rd_join (d + 0)  _ _ hw) (fun a7 μ8 h => ?_)
          refine rn_sls 0 (pc' := 115) (ls' := [(3, (0, (μ 10 5))), (0, (2, 20)), (1, (0, v1)), (2, (0, v2))]) (st' := [(0, a7)]) rfl ?_
          refine rn_sls 3 (pc' := 119) (ls' := [(1, (0, 1)), (4, (0, a7)), (3, (0, (μ 10 5))), (0, (2, 20)), (2, (0, v2))]) (st' := []) rfl ?_
          refine rn_goto (t := 127) rfl rfl rfl ?_
          exact rn_sub [3, 0, 4, 1] rfl (t_Rd_readSum_B127 d k14 hk14 _ _ _ _ _ h)
    · refine rn_sls 2 (pc' := 36) (ls' := [(3, (0, (μ 10 5))), (0, (2, 20)), (1, (0, v1)), (2, (0, v2))]) (st' := [(0, 114), (0, (μ 10 5))]) rfl ?_
      refine rn_icmp (t := 45) rfl rfl rfl rfl h (fun h => ?_) (fun h => ?_)
      · exact rn_sub [1, 3] rfl (t_Rd_readSum_B45 d k14 hk14 _ _ _ h)
      · refine rn_sls 2 (pc' := 42) (ls' := [(3, (0, (μ 10 5))), (0, (2, 20)), (1, (0, v1)), (2, (0, v2))]) (st' := [(0, 40), (0, (μ 10 5))]) rfl ?_
        refine rn_icmpn (t := 49) rfl rfl rfl rfl h (fun h => ?_) (fun h => ?_)
        · exact rn_sub [1, 3] rfl (t_Rd_readSum_B45 d k14 hk14 _ _ _ h)
        · refine rn_sls 1 (pc' := 50) (ls' := [(3, (0, (μ 10 5))), (0, (2, 20)), (1, (0, v1)), (2, (0, v2))]) (st' := [(0, 0)]) rfl ?_
          exact rn_sub [1, 3] rfl (t_Rd_readSum_B50 d k14 hk14 _ _ _ _ h)
  · refine rn_sls 2 (pc' := 149) (ls' := [(0, (2, 20)), (1, (0, v1)), (2, (0, v2))]) (st' := [(0, 1), (2, 20)]) rfl ?_
    refine rn_call 0 0 [(2, 20), (0, 1)] (r := []) rfl ⟨rfl, Or.inl ⟨_, rfl, by decide⟩⟩ (by decide) (fun _ => ⟨_, rfl, rfl⟩) rfl rfl (Nat.le_of_ble_eq_true rfl) h (fun w hw => t_Rd_fail (d + 3) _ _ _ hw) (fun a1 μ2 h => ?_)
    refine rn_sls 0 (pc' := 152) (ls' := [(0, (2, 20)), (1, (0, v1)), (2, (0, v2))]) (st' := [(0, a1)]) rfl ?_
    exact rn_iretB rfl rfl rfl h rfl
set_option maxRecDepth 20000 in
theorem t_Rd_readSum_L14 (d : Nat) : ∀ (n : Nat) (v1 : Int) (v2 : Int) (μ : am_M) q, Rd_readSum_L14 n v1 v2 μ = some q → am_run none (am_ar g_mt (d + 4)) 5 (some .boolean) k_Rd_readSum 14 [(0, (2, 20)), (1, (0, v1)), (2, (0, v2))] [] μ (am_res 0 q) := by
  intro n
  induction n with
  | zero => intro v1 v2 μ q h; cases h
  | succ n ih => intro v1 v2 μ q h; exact t_Rd_readSum_L14_b d (Rd_readSum_L14 n) ih v1 v2 μ q h
set_option maxRecDepth 20000 in
theorem t_Rd_readSum (d : Nat) : ∀  (μ : am_M) q, Rd_readSum  μ = some q → am_ar g_mt (d + 5) 78 [(2, 20)] μ (am_res 0 q) := by
  intro  μ q h
  unfold Rd_readSum at h
  refine am_ar_of (d := d + 4) i_Rd_readSum rfl rfl (Nat.le_of_ble_eq_true rfl) ?_
  show am_run none (am_ar g_mt (d + 4)) 5 (some .boolean) k_Rd_readSum 0 [(0, (2, 20))] [] μ (am_res 0 q)
  refine rn_sls 2 (pc' := 2) (ls' := [(0, (2, 20))]) (st' := [(0, 0), (2, 20)]) rfl ?_
  refine rn_put rfl rfl rfl rfl (Or.inl ⟨rfl, rfl⟩) rfl h (fun μ1 h => ?_)
  refine rn_sls 2 (pc' := 7) (ls' := [(0, (2, 20))]) (st' := [(0, 0), (2, 20)]) rfl ?_
  refine rn_put rfl rfl rfl rfl (Or.inl ⟨rfl, rfl⟩) rfl h (fun μ2 h => ?_)
  refine rn_sls 4 (pc' := 14) (ls' := [(2, (0, 0)), (1, (0, 1)), (0, (2, 20))]) (st' := []) rfl ?_
  exact rn_sub [2, 1, 0] rfl (t_Rd_readSum_L14 d  am_FU _ _ _ _ h)
set_option maxRecDepth 20000 in
theorem t_Rd_readRest (d : Nat) : ∀  (μ : am_M) q, Rd_readRest  μ = some q → am_ar g_mt (d + 6) 71 [(2, 20)] μ (am_res 0 q) := by
  intro  μ q h
  unfold Rd_readRest at h
  refine am_ar_of (d := d + 5) i_Rd_readRest rfl rfl (Nat.le_of_ble_eq_true rfl) ?_
  show am_run none (am_ar g_mt (d + 5)) 1 (some .boolean) k_Rd_readRest 0 [(0, (2, 20))] [] μ (am_res 0 q)
  refine rn_sls 2 (pc' := 4) (ls' := [(0, (2, 20))]) (st' := [(2, (μ 20 5))]) rfl ?_
  refine rn_gd h (fun ho1 h => ?_)
  refine rn_get ho1 rfl rfl rfl ?_
  refine rn_sls 0 (pc' := 7) (ls' := [(0, (2, 20))]) (st' := [(2, ((μ 20 5) + 1))]) rfl ?_
  refine rn_sls 2 (pc' := 11) (ls' := [(0, (2, 20))]) (st' := [(0, (μ 20 12)), (2, ((μ 20 5) + 1))]) rfl ?_
  refine rn_call 3 0 [(2, ((μ 20 5) + 1)), (0, (μ 20 12))] (r := []) rfl ⟨rfl, Or.inr ⟨_, rfl, by decide⟩⟩ (by decide) (fun z => absurd z (by decide)) rfl rfl (Nat.le_of_ble_eq_true rfl) h (fun w hw => t_X_at (d + 4) _ _ _ _ hw) (fun a2 μ3 h => ?_)
  refine rn_sls 0 (pc' := 14) (ls' := [(0, (2, 20))]) (st' := [(0, a2)]) rfl ?_
  refine rn_tsw rfl rfl ?_
  refine rn_swc (t := 60) rfl h (fun h => ?_) (fun h => ?_)
  · refine rn_sls 1 (pc' := 61) (ls' := [(0, (2, 20))]) (st' := [(2, 20)]) rfl ?_
    refine rn_call 0 0 [(2, 20)] (r := []) rfl ⟨rfl, Or.inl ⟨_, rfl, by decide⟩⟩ (by decide) (fun _ => ⟨_, rfl, rfl⟩) rfl rfl (Nat.le_of_ble_eq_true rfl) h (fun w hw => t_Rd_isUntaken (d + 3)  _ _ hw) (fun a4 μ5 h => ?_)
    refine rn_sls 0 (pc' := 64) (ls' := [(0, (2, 20))]) (st' := [(0, a4)]) rfl ?_
    refine rn_if (t := 86) rfl rfl rfl rfl h (fun h => ?_) (fun h => ?_)
    · refine rn_sls 1 (pc' := 87) (ls' := [(0, (2, 20))]) (st' := [(0, 0)]) rfl ?_
      exact rn_iretb rfl rfl rfl (Or.inl rfl) h rfl
    · refine rn_sls 2 (pc' := 69) (ls' := [(0, (2, 20))]) (st' := [(0, 1), (2, 20)]) rfl ?_
      refine rn_call 0 0 [(2, 20), (0, 1)] (r := []) rfl ⟨rfl, Or.inl ⟨_, rfl, by decide⟩⟩ (by decide) (fun _ => ⟨_, rfl, rfl⟩) rfl rfl (Nat.le_of_ble_eq_true rfl) h (fun w hw => t_Rd_readSlip (d + 1) _ _ _ hw) (fun a6 μ7 h => ?_)
      refine rn_sls 0 (pc' := 72) (ls' := [(0, (2, 20))]) (st' := [(0, a6)]) rfl ?_
      refine rn_if (t := 86) rfl rfl rfl rfl h (fun h => ?_) (fun h => ?_)
      · refine rn_sls 1 (pc' := 87) (ls' := [(0, (2, 20))]) (st' := [(0, 0)]) rfl ?_
        exact rn_iretb rfl rfl rfl (Or.inl rfl) h rfl
      · refine rn_sls 1 (pc' := 76) (ls' := [(0, (2, 20))]) (st' := [(2, 20)]) rfl ?_
        refine rn_call 0 0 [(2, 20)] (r := []) rfl ⟨rfl, Or.inl ⟨_, rfl, by decide⟩⟩ (by decide) (fun _ => ⟨_, rfl, rfl⟩) rfl rfl (Nat.le_of_ble_eq_true rfl) h (fun w hw => t_Rd_readKind (d + 0)  _ _ hw) (fun a8 μ9 h => ?_)
        refine rn_sls 0 (pc' := 79) (ls' := [(0, (2, 20))]) (st' := [(0, a8)]) rfl ?_
        refine rn_if (t := 86) rfl rfl rfl rfl h (fun h => ?_) (fun h => ?_)
        · refine rn_sls 1 (pc' := 87) (ls' := [(0, (2, 20))]) (st' := [(0, 0)]) rfl ?_
          exact rn_iretb rfl rfl rfl (Or.inl rfl) h rfl
        · refine rn_sls 1 (pc' := 83) (ls' := [(0, (2, 20))]) (st' := [(0, 1)]) rfl ?_
          refine rn_goto (t := 87) rfl rfl rfl ?_
          exact rn_iretb rfl rfl rfl (Or.inr rfl) h rfl
  refine rn_swc (t := 88) rfl h (fun h => ?_) (fun h => ?_)
  · refine rn_sls 2 (pc' := 90) (ls' := [(0, (2, 20))]) (st' := [(0, 1), (2, 20)]) rfl ?_
    refine rn_call 0 0 [(2, 20), (0, 1)] (r := []) rfl ⟨rfl, Or.inl ⟨_, rfl, by decide⟩⟩ (by decide) (fun _ => ⟨_, rfl, rfl⟩) rfl rfl (Nat.le_of_ble_eq_true rfl) h (fun w hw => t_Rd_readSlip (d + 1) _ _ _ hw) (fun a10 μ11 h => ?_)
    refine rn_sls 0 (pc' := 93) (ls' := [(0, (2, 20))]) (st' := [(0, a10)]) rfl ?_
    refine rn_if (t := 114) rfl rfl rfl rfl h (fun h => ?_) (fun h => ?_)
    · refine rn_sls 1 (pc' := 115) (ls' := [(0, (2, 20))]) (st' := [(0, 0)]) rfl ?_
      exact rn_iretb rfl rfl rfl (Or.inl rfl) h rfl
    · refine rn_sls 1 (pc' := 97) (ls' := [(0, (2, 20))]) (st' := [(2, 20)]) rfl ?_
      refine rn_call 0 0 [(2, 20)] (r := []) rfl ⟨rfl, Or.inl ⟨_, rfl, by decide⟩⟩ (by decide) (fun _ => ⟨_, rfl, rfl⟩) rfl rfl (Nat.le_of_ble_eq_true rfl) h (fun w hw => t_Rd_readKind (d + 0)  _ _ hw) (fun a12 μ13 h => ?_)
      refine rn_sls 0 (pc' := 100) (ls' := [(0, (2, 20))]) (st' := [(0, a12)]) rfl ?_
      refine rn_if (t := 114) rfl rfl rfl rfl h (fun h => ?_) (fun h => ?_)
      · refine rn_sls 1 (pc' := 115) (ls' := [(0, (2, 20))]) (st' := [(0, 0)]) rfl ?_
        exact rn_iretb rfl rfl rfl (Or.inl rfl) h rfl
      · refine rn_sls 1 (pc' := 104) (ls' := [(0, (2, 20))]) (st' := [(2, 20)]) rfl ?_
        refine rn_call 0 0 [(2, 20)] (r := []) rfl ⟨rfl, Or.inl ⟨_, rfl, by decide⟩⟩ (by decide) (fun _ => ⟨_, rfl, rfl⟩) rfl rfl (Nat.le_of_ble_eq_true rfl) h (fun w hw => t_Rd_readSum (d + 0)  _ _ hw) (fun a14 μ15 h => ?_)
        refine rn_sls 0 (pc' := 107) (ls' := [(0, (2, 20))]) (st' := [(0, a14)]) rfl ?_
        refine rn_if (t := 114) rfl rfl rfl rfl h (fun h => ?_) (fun h => ?_)
        · refine rn_sls 1 (pc' := 115) (ls' := [(0, (2, 20))]) (st' := [(0, 0)]) rfl ?_
          exact rn_iretb rfl rfl rfl (Or.inl rfl) h rfl
        · refine rn_sls 1 (pc' := 111) (ls' := [(0, (2, 20))]) (st' := [(0, 1)]) rfl ?_
          refine rn_goto (t := 115) rfl rfl rfl ?_
          exact rn_iretb rfl rfl rfl (Or.inr rfl) h rfl
  refine rn_swc (t := 116) rfl h (fun h => ?_) (fun h => ?_)
  · refine rn_sls 2 (pc' := 118) (ls' := [(0, (2, 20))]) (st' := [(0, 0), (2, 20)]) rfl ?_
    refine rn_call 0 0 [(2, 20), (0, 0)] (r := []) rfl ⟨rfl, Or.inl ⟨_, rfl, by decide⟩⟩ (by decide) (fun _ => ⟨_, rfl, rfl⟩) rfl rfl (Nat.le_of_ble_eq_true rfl) h (fun w hw => t_Rd_readSlip (d + 1) _ _ _ hw) (fun a16 μ17 h => ?_)
    refine rn_sls 0 (pc' := 121) (ls' := [(0, (2, 20))]) (st' := [(0, a16)]) rfl ?_
    refine rn_if (t := 153) rfl rfl rfl rfl h (fun h => ?_) (fun h => ?_)
    · refine rn_sls 1 (pc' := 154) (ls' := [(0, (2, 20))]) (st' := [(0, 0)]) rfl ?_
      exact rn_iretb rfl rfl rfl (Or.inl rfl) h rfl
    · refine rn_sls 2 (pc' := 127) (ls' := [(0, (2, 20))]) (st' := [(0, 113), (2, 20)]) rfl ?_
      refine rn_call 0 0 [(2, 20), (0, 113)] (r := []) rfl ⟨rfl, Or.inl ⟨_, rfl, by decide⟩⟩ (by decide) (fun _ => ⟨_, rfl, rfl⟩) rfl rfl (Nat.le_of_ble_eq_true rfl) h (fun w hw => t_Rd_expect (d + 1) _ _ _ hw) (fun a18 μ19 h => ?_)
      refine rn_sls 0 (pc' := 130) (ls' := [(0, (2, 20))]) (st' := [(0, a18)]) rfl ?_
      refine rn_if (t := 153) rfl rfl rfl rfl h (fun h => ?_) (fun h => ?_)
      · refine rn_sls 1 (pc' := 154) (ls' := [(0, (2, 20))]) (st' := [(0, 0)]) rfl ?_
        exact rn_iretb rfl rfl rfl (Or.inl rfl) h rfl
      · refine rn_sls 2 (pc' := 135) (ls' := [(0, (2, 20))]) (st' := [(0, 1), (2, 20)]) rfl ?_
        refine rn_call 0 0 [(2, 20), (0, 1)] (r := []) rfl ⟨rfl, Or.inl ⟨_, rfl, by decide⟩⟩ (by decide) (fun _ => ⟨_, rfl, rfl⟩) rfl rfl (Nat.le_of_ble_eq_true rfl) h (fun w hw => t_Rd_readSlip (d + 1) _ _ _ hw) (fun a20 μ21 h => ?_)
        refine rn_sls 0 (pc' := 138) (ls' := [(0, (2, 20))]) (st' := [(0, a20)]) rfl ?_
        refine rn_if (t := 153) rfl rfl rfl rfl h (fun h => ?_) (fun h => ?_)
        · refine rn_sls 1 (pc' := 154) (ls' := [(0, (2, 20))]) (st' := [(0, 0)]) rfl ?_
          exact rn_iretb rfl rfl rfl (Or.inl rfl) h rfl
        · refine rn_sls 2 (pc' := 143) (ls' := [(0, (2, 20))]) (st' := [(0, 2), (2, 20)]) rfl ?_
          refine rn_call 0 0 [(2, 20), (0, 2)] (r := []) rfl ⟨rfl, Or.inl ⟨_, rfl, by decide⟩⟩ (by decide) (fun _ => ⟨_, rfl, rfl⟩) rfl rfl (Nat.le_of_ble_eq_true rfl) h (fun w hw => t_Rd_readSlip (d + 1) _ _ _ hw) (fun a22 μ23 h => ?_)
          refine rn_sls 0 (pc' := 146) (ls' := [(0, (2, 20))]) (st' := [(0, a22)]) rfl ?_
          refine rn_if (t := 153) rfl rfl rfl rfl h (fun h => ?_) (fun h => ?_)
          · refine rn_sls 1 (pc' := 154) (ls' := [(0, (2, 20))]) (st' := [(0, 0)]) rfl ?_
            exact rn_iretb rfl rfl rfl (Or.inl rfl) h rfl
          · refine rn_sls 1 (pc' := 150) (ls' := [(0, (2, 20))]) (st' := [(0, 1)]) rfl ?_
            refine rn_goto (t := 154) rfl rfl rfl ?_
            exact rn_iretb rfl rfl rfl (Or.inr rfl) h rfl
  refine rn_swc (t := 155) rfl h (fun h => ?_) (fun h => ?_)
  · refine rn_sls 2 (pc' := 157) (ls' := [(0, (2, 20))]) (st' := [(0, 0), (2, 20)]) rfl ?_
    refine rn_call 0 0 [(2, 20), (0, 0)] (r := []) rfl ⟨rfl, Or.inl ⟨_, rfl, by decide⟩⟩ (by decide) (fun _ => ⟨_, rfl, rfl⟩) rfl rfl (Nat.le_of_ble_eq_true rfl) h (fun w hw => t_Rd_readSlip (d + 1) _ _ _ hw) (fun a24 μ25 h => ?_)
    refine rn_sls 0 (pc' := 160) (ls' := [(0, (2, 20))]) (st' := [(0, a24)]) rfl ?_
    exact rn_iretB rfl rfl rfl h rfl
  refine rn_swc (t := 161) rfl h (fun h => ?_) (fun h => ?_)
  · refine rn_sls 1 (pc' := 162) (ls' := [(0, (2, 20))]) (st' := [(2, 20)]) rfl ?_
    refine rn_call 0 0 [(2, 20)] (r := []) rfl ⟨rfl, Or.inl ⟨_, rfl, by decide⟩⟩ (by decide) (fun _ => ⟨_, rfl, rfl⟩) rfl rfl (Nat.le_of_ble_eq_true rfl) h (fun w hw => t_Rd_readCall (d + 0)  _ _ hw) (fun a26 μ27 h => ?_)
    refine rn_sls 0 (pc' := 165) (ls' := [(0, (2, 20))]) (st' := [(0, a26)]) rfl ?_
    refine rn_if (t := 189) rfl rfl rfl rfl h (fun h => ?_) (fun h => ?_)
    · refine rn_sls 1 (pc' := 190) (ls' := [(0, (2, 20))]) (st' := [(0, 0)]) rfl ?_
      exact rn_iretb rfl rfl rfl (Or.inl rfl) h rfl
    · refine rn_sls 2 (pc' := 171) (ls' := [(0, (2, 20))]) (st' := [(0, 113), (2, 20)]) rfl ?_
      refine rn_call 0 0 [(2, 20), (0, 113)] (r := []) rfl ⟨rfl, Or.inl ⟨_, rfl, by decide⟩⟩ (by decide) (fun _ => ⟨_, rfl, rfl⟩) rfl rfl (Nat.le_of_ble_eq_true rfl) h (fun w hw => t_Rd_expect (d + 1) _ _ _ hw) (fun a28 μ29 h => ?_)
      refine rn_sls 0 (pc' := 174) (ls' := [(0, (2, 20))]) (st' := [(0, a28)]) rfl ?_
      refine rn_if (t := 189) rfl rfl rfl rfl h (fun h => ?_) (fun h => ?_)
      · refine rn_sls 1 (pc' := 190) (ls' := [(0, (2, 20))]) (st' := [(0, 0)]) rfl ?_
        exact rn_iretb rfl rfl rfl (Or.inl rfl) h rfl
      · refine rn_sls 2 (pc' := 179) (ls' := [(0, (2, 20))]) (st' := [(0, 1), (2, 20)]) rfl ?_
        refine rn_call 0 0 [(2, 20), (0, 1)] (r := []) rfl ⟨rfl, Or.inl ⟨_, rfl, by decide⟩⟩ (by decide) (fun _ => ⟨_, rfl, rfl⟩) rfl rfl (Nat.le_of_ble_eq_true rfl) h (fun w hw => t_Rd_readSlip (d + 1) _ _ _ hw) (fun a30 μ31 h => ?_)
        refine rn_sls 0 (pc' := 182) (ls' := [(0, (2, 20))]) (st' := [(0, a30)]) rfl ?_
        refine rn_if (t := 189) rfl rfl rfl rfl h (fun h => ?_) (fun h => ?_)
        · refine rn_sls 1 (pc' := 190) (ls' := [(0, (2, 20))]) (st' := [(0, 0)]) rfl ?_
          exact rn_iretb rfl rfl rfl (Or.inl rfl) h rfl
        · refine rn_sls 1 (pc' := 186) (ls' := [(0, (2, 20))]) (st' := [(0, 1)]) rfl ?_
          refine rn_goto (t := 190) rfl rfl rfl ?_
          exact rn_iretb rfl rfl rfl (Or.inr rfl) h rfl
  refine rn_swc (t := 191) rfl h (fun h => ?_) (fun h => ?_)
  · refine rn_sls 6 (pc' := 203) (ls' := [(0, (2, 20))]) (st' := [(0, (μ3 20 12)), (0, (μ3 20 7)), (2, 22)]) rfl ?_
    refine rn_call 3 2 [(2, 22), (0, (μ3 20 7)), (0, (μ3 20 12))] (r := []) rfl ⟨rfl, Or.inr ⟨_, rfl, by decide⟩⟩ (by decide) (fun z => absurd z (by decide)) rfl rfl (Nat.le_of_ble_eq_true rfl) h (fun w hw => t_X_put (d + 4) _ _ _ _ _ hw) (fun a32 μ33 h => ?_)
    refine rn_sls 0 (pc' := 206) (ls' := [(0, (2, 20))]) (st' := []) rfl ?_
    refine rn_sls 5 (pc' := 213) (ls' := [(0, (2, 20))]) (st' := [(0, (w32 ((μ33 20 7) + 1))), (2, 20)]) rfl ?_
    refine rn_put rfl rfl rfl rfl (Or.inl ⟨rfl, rfl⟩) rfl h (fun μ34 h => ?_)
    refine rn_sls 1 (pc' := 217) (ls' := [(0, (2, 20))]) (st' := [(2, 20)]) rfl ?_
    refine rn_call 0 0 [(2, 20)] (r := []) rfl ⟨rfl, Or.inl ⟨_, rfl, by decide⟩⟩ (by decide) (fun _ => ⟨_, rfl, rfl⟩) rfl rfl (Nat.le_of_ble_eq_true rfl) h (fun w hw => t_Rd_readSum (d + 0)  _ _ hw) (fun a35 μ36 h => ?_)
    refine rn_sls 0 (pc' := 220) (ls' := [(0, (2, 20))]) (st' := [(0, a35)]) rfl ?_
    exact rn_iretB rfl rfl rfl h rfl
  refine rn_swc (t := 221) rfl h (fun h => ?_) (fun h => ?_)
  · refine rn_sls 2 (pc' := 225) (ls' := [(0, (2, 20))]) (st' := [(2, (μ3 20 5))]) rfl ?_
    refine rn_gd h (fun ho37 h => ?_)
    refine rn_get ho37 rfl rfl rfl ?_
    refine rn_sls 0 (pc' := 228) (ls' := [(0, (2, 20))]) (st' := [(2, ((μ3 20 5) + 6))]) rfl ?_
    refine rn_sls 6 (pc' := 238) (ls' := [(0, (2, 20))]) (st' := [(0, (w32 ((μ3 20 7) - 1))), (2, 22), (2, ((μ3 20 5) + 6))]) rfl ?_
    refine rn_call 3 0 [(2, 22), (0, (w32 ((μ3 20 7) - 1)))] (r := [(2, ((μ3 20 5) + 6))]) rfl ⟨rfl, Or.inr ⟨_, rfl, by decide⟩⟩ (by decide) (fun z => absurd z (by decide)) rfl rfl (Nat.le_of_ble_eq_true rfl) h (fun w hw => t_X_at (d + 4) _ _ _ _ hw) (fun a38 μ39 h => ?_)
    refine rn_sls 0 (pc' := 241) (ls' := [(0, (2, 20))]) (st' := [(0, a38), (2, ((μ3 20 5) + 6))]) rfl ?_
    refine rn_sls 2 (pc' := 245) (ls' := [(0, (2, 20))]) (st' := [(0, (μ39 20 12)), (0, a38), (2, ((μ3 20 5) + 6))]) rfl ?_
    refine rn_call 3 2 [(2, ((μ3 20 5) + 6)), (0, a38), (0, (μ39 20 12))] (r := []) rfl ⟨rfl, Or.inr ⟨_, rfl, by decide⟩⟩ (by decide) (fun z => absurd z (by decide)) rfl rfl (Nat.le_of_ble_eq_true rfl) h (fun w hw => t_X_put (d + 4) _ _ _ _ _ hw) (fun a40 μ41 h => ?_)
    refine rn_sls 0 (pc' := 248) (ls' := [(0, (2, 20))]) (st' := []) rfl ?_
    refine rn_sls 8 (pc' := 262) (ls' := [(0, (2, 20))]) (st' := [(0, (μ41 20 12)), (0, (w32 ((μ41 20 7) - 1))), (2, 22)]) rfl ?_
    refine rn_call 3 2 [(2, 22), (0, (w32 ((μ41 20 7) - 1))), (0, (μ41 20 12))] (r := []) rfl ⟨rfl, Or.inr ⟨_, rfl, by decide⟩⟩ (by decide) (fun z => absurd z (by decide)) rfl rfl (Nat.le_of_ble_eq_true rfl) h (fun w hw => t_X_put (d + 4) _ _ _ _ _ hw) (fun a42 μ43 h => ?_)
    refine rn_sls 0 (pc' := 265) (ls' := [(0, (2, 20))]) (st' := []) rfl ?_
    refine rn_sls 1 (pc' := 266) (ls' := [(0, (2, 20))]) (st' := [(0, 1)]) rfl ?_
    exact rn_iretb rfl rfl rfl (Or.inr rfl) h rfl
  refine rn_swc (t := 267) rfl h (fun h => ?_) (fun h => ?_)
  · refine rn_sls 5 (pc' := 274) (ls' := [(0, (2, 20))]) (st' := [(0, (w32 ((μ3 20 7) - 1))), (2, 20)]) rfl ?_
    refine rn_put rfl rfl rfl rfl (Or.inl ⟨rfl, rfl⟩) rfl h (fun μ44 h => ?_)
    refine rn_sls 2 (pc' := 281) (ls' := [(0, (2, 20))]) (st' := [(2, (μ44 20 5))]) rfl ?_
    refine rn_gd h (fun ho45 h => ?_)
    refine rn_get ho45 rfl rfl rfl ?_
    refine rn_sls 0 (pc' := 284) (ls' := [(0, (2, 20))]) (st' := [(2, ((μ44 20 5) + 6))]) rfl ?_
    refine rn_sls 4 (pc' := 292) (ls' := [(0, (2, 20))]) (st' := [(0, (μ44 20 7)), (2, 22), (2, ((μ44 20 5) + 6))]) rfl ?_
    refine rn_call 3 0 [(2, 22), (0, (μ44 20 7))] (r := [(2, ((μ44 20 5) + 6))]) rfl ⟨rfl, Or.inr ⟨_, rfl, by decide⟩⟩ (by decide) (fun z => absurd z (by decide)) rfl rfl (Nat.le_of_ble_eq_true rfl) h (fun w hw => t_X_at (d + 4) _ _ _ _ hw) (fun a46 μ47 h => ?_)
    refine rn_sls 0 (pc' := 295) (ls' := [(0, (2, 20))]) (st' := [(0, a46), (2, ((μ44 20 5) + 6))]) rfl ?_
    refine rn_sls 2 (pc' := 299) (ls' := [(0, (2, 20))]) (st' := [(0, (μ47 20 12)), (0, a46), (2, ((μ44 20 5) + 6))]) rfl ?_
    refine rn_call 3 2 [(2, ((μ44 20 5) + 6)), (0, a46), (0, (μ47 20 12))] (r := []) rfl ⟨rfl, Or.inr ⟨_, rfl, by decide⟩⟩ (by decide) (fun z => absurd z (by decide)) rfl rfl (Nat.le_of_ble_eq_true rfl) h (fun w hw => t_X_put (d + 4) _ _ _ _ _ hw) (fun a48 μ49 h => ?_)
    refine rn_sls 0 (pc' := 302) (ls' := [(0, (2, 20))]) (st' := []) rfl ?_
    refine rn_sls 1 (pc' := 303) (ls' := [(0, (2, 20))]) (st' := [(0, 1)]) rfl ?_
    exact rn_iretb rfl rfl rfl (Or.inr rfl) h rfl
  refine rn_sw0 (t := 304) rfl ?_
  refine rn_sls 1 (pc' := 305) (ls' := [(0, (2, 20))]) (st' := [(2, 20)]) rfl ?_
  refine rn_call 0 0 [(2, 20)] (r := []) rfl ⟨rfl, Or.inl ⟨_, rfl, by decide⟩⟩ (by decide) (fun _ => ⟨_, rfl, rfl⟩) rfl rfl (Nat.le_of_ble_eq_true rfl) h (fun w hw => t_Rd_readSum (d + 0)  _ _ hw) (fun a50 μ51 h => ?_)
  refine rn_sls 0 (pc' := 308) (ls' := [(0, (2, 20))]) (st' := [(0, a50)]) rfl ?_
  exact rn_iretB rfl rfl rfl h rfl
set_option maxRecDepth 20000 in
theorem t_Rd_endLine (d : Nat) : ∀  (μ : am_M) q, Rd_endLine  μ = some q → am_ar g_mt (d + 5) 72 [(2, 20)] μ (am_res 2 q) := by
  intro  μ q h
  unfold Rd_endLine at h
  refine am_ar_of (d := d + 4) i_Rd_endLine rfl rfl (Nat.le_of_ble_eq_true rfl) ?_
  show am_run none (am_ar g_mt (d + 4)) 1 none k_Rd_endLine 0 [(0, (2, 20))] [] μ (am_res 2 q)
  refine rn_sls 2 (pc' := 3) (ls' := [(0, (2, 20))]) (st' := [(0, 59), (2, 20)]) rfl ?_
  refine rn_call 0 0 [(2, 20), (0, 59)] (r := []) rfl ⟨rfl, Or.inl ⟨_, rfl, by decide⟩⟩ (by decide) (fun _ => ⟨_, rfl, rfl⟩) rfl rfl (Nat.le_of_ble_eq_true rfl) h (fun w hw => t_Rd_expect (d + 0) _ _ _ hw) (fun a1 μ2 h => ?_)
  refine rn_sls 0 (pc' := 6) (ls' := [(0, (2, 20))]) (st' := [(0, a1)]) rfl ?_
  refine rn_if (t := 51) rfl rfl rfl rfl h (fun h => ?_) (fun h => ?_)
  · exact rn_ret (v := 0) rfl rfl rfl h rfl
  · refine rn_sls 2 (pc' := 13) (ls' := [(0, (2, 20))]) (st' := [(2, (μ2 20 5))]) rfl ?_
    refine rn_gd h (fun ho3 h => ?_)
    refine rn_get ho3 rfl rfl rfl ?_
    refine rn_sls 0 (pc' := 16) (ls' := [(0, (2, 20))]) (st' := [(2, ((μ2 20 5) + 1))]) rfl ?_
    refine rn_sls 2 (pc' := 20) (ls' := [(0, (2, 20))]) (st' := [(0, (μ2 20 12)), (2, ((μ2 20 5) + 1))]) rfl ?_
    refine rn_call 3 0 [(2, ((μ2 20 5) + 1)), (0, (μ2 20 12))] (r := []) rfl ⟨rfl, Or.inr ⟨_, rfl, by decide⟩⟩ (by decide) (fun z => absurd z (by decide)) rfl rfl (Nat.le_of_ble_eq_true rfl) h (fun w hw => t_X_at (d + 3) _ _ _ _ hw) (fun a4 μ5 h => ?_)
    refine rn_sls 0 (pc' := 23) (ls' := [(0, (2, 20))]) (st' := [(0, a4)]) rfl ?_
    refine rn_sls 1 (pc' := 25) (ls' := [(0, (2, 20))]) (st' := [(0, 8), (0, a4)]) rfl ?_
    refine rn_icmpn (t := 51) rfl rfl rfl rfl h (fun h => ?_) (fun h => ?_)
    · refine rn_sls 2 (pc' := 32) (ls' := [(0, (2, 20))]) (st' := [(2, (μ5 20 4))]) rfl ?_
      refine rn_gd h (fun ho6 h => ?_)
      refine rn_get ho6 rfl rfl rfl ?_
      refine rn_sls 0 (pc' := 35) (ls' := [(0, (2, 20))]) (st' := [(2, ((μ5 20 4) + 18))]) rfl ?_
      refine rn_sls 4 (pc' := 43) (ls' := [(0, (2, 20))]) (st' := [(0, (μ5 20 6)), (0, (μ5 20 11)), (2, ((μ5 20 4) + 18))]) rfl ?_
      refine rn_call 3 2 [(2, ((μ5 20 4) + 18)), (0, (μ5 20 11)), (0, (μ5 20 6))] (r := []) rfl ⟨rfl, Or.inr ⟨_, rfl, by decide⟩⟩ (by decide) (fun z => absurd z (by decide)) rfl rfl (Nat.le_of_ble_eq_true rfl) h (fun w hw => t_X_put (d + 3) _ _ _ _ _ hw) (fun a7 μ8 h => ?_)
      refine rn_sls 0 (pc' := 46) (ls' := [(0, (2, 20))]) (st' := []) rfl ?_
      refine rn_sls 2 (pc' := 48) (ls' := [(0, (2, 20))]) (st' := [(0, 0), (2, 20)]) rfl ?_
      refine rn_putb rfl rfl rfl rfl rfl rfl h (fun μ9 h => ?_)
      exact rn_ret (v := 0) rfl rfl rfl h rfl
    · exact rn_ret (v := 0) rfl rfl rfl h rfl
set_option maxRecDepth 20000 in
theorem t_Tp_rewind (d : Nat) : ∀  (μ : am_M) q, Tp_rewind  μ = some q → am_ar g_mt (d + 4) 94 [(2, 10)] μ (am_res 2 q) := by
  intro  μ q h
  unfold Tp_rewind at h
  refine am_ar_of (d := d + 3) i_Tp_rewind rfl rfl (Nat.le_of_ble_eq_true rfl) ?_
  show am_run none (am_ar g_mt (d + 3)) 1 none k_Tp_rewind 0 [(0, (2, 10))] [] μ (am_res 2 q)
  refine rn_sls 2 (pc' := 2) (ls' := [(0, (2, 10))]) (st' := [(0, 0), (2, 10)]) rfl ?_
  refine rn_put rfl rfl rfl rfl (Or.inl ⟨rfl, rfl⟩) rfl h (fun μ1 h => ?_)
  refine rn_sls 1 (pc' := 6) (ls' := [(0, (2, 10))]) (st' := [(2, 10)]) rfl ?_
  refine rn_call 0 2 [(2, 10)] (r := []) rfl ⟨rfl, Or.inl ⟨_, rfl, by decide⟩⟩ (by decide) (fun _ => ⟨_, rfl, rfl⟩) rfl rfl (Nat.le_of_ble_eq_true rfl) h (fun w hw => t_Tp_advance (d + 0)  _ _ hw) (fun a2 μ3 h => ?_)
  refine rn_sls 0 (pc' := 9) (ls' := [(0, (2, 10))]) (st' := []) rfl ?_
  exact rn_ret (v := 0) rfl rfl rfl h rfl
set_option maxRecDepth 20000 in
theorem t_Rd_readInto_B96 (d : Nat) (k39 : Int → am_M → am_O) (hk39 : ∀ (v2 : Int) (μ : am_M) q, k39 v2 μ = some q → am_run none (am_ar g_mt (d + 6)) 3 (some .int) k_Rd_readInto 39 [(0, (2, 20)), (2, (0, v2))] [] μ (am_res 0 q)) : ∀ (v2 : Int) (μ : am_M) q, Rd_readInto_B96 k39 v2 μ = some q → am_run none (am_ar g_mt (d + 6)) 3 (some .int) k_Rd_readInto 96 [(0, (2, 20)), (2, (0, v2))] [] μ (am_res 0 q) := by
  intro v2 μ q h
  unfold Rd_readInto_B96 at h
  refine rn_sls 1 (pc' := 99) (ls' := [(2, (0, (w32 (v2 + 1)))), (0, (2, 20))]) (st' := []) rfl ?_
  refine rn_goto (t := 39) rfl rfl rfl ?_
  exact rn_sub [1, 0] rfl (hk39 _ _ _ h)
set_option maxRecDepth 20000 in
theorem t_Rd_readInto_B115 (d : Nat) : ∀  (μ : am_M) q, Rd_readInto_B115  μ = some q → am_run none (am_ar g_mt (d + 6)) 3 (some .int) k_Rd_readInto 115 [(0, (2, 20))] [] μ (am_res 0 q) := by
  intro  μ q h
  unfold Rd_readInto_B115 at h
  refine rn_sls 2 (pc' := 119) (ls' := [(0, (2, 20))]) (st' := [(0, (μ 20 10))]) rfl ?_
  exact rn_ireti rfl rfl rfl h rfl
set_option maxRecDepth 20000 in
theorem t_Rd_readInto_B102 (d : Nat) : ∀  (μ : am_M) q, Rd_readInto_B102  μ = some q → am_run none (am_ar g_mt (d + 6)) 3 (some .int) k_Rd_readInto 102 [(0, (2, 20))] [] μ (am_res 0 q) := by
  intro  μ q h
  unfold Rd_readInto_B102 at h
  refine rn_sls 2 (pc' := 106) (ls' := [(0, (2, 20))]) (st' := [(0, (μ 20 13))]) rfl ?_
  refine rn_if (t := 115) rfl rfl rfl rfl h (fun h => ?_) (fun h => ?_)
  · exact rn_sub [0] rfl (t_Rd_readInto_B115 d  _ _ h)
  · refine rn_sls 2 (pc' := 111) (ls' := [(0, (2, 20))]) (st' := [(0, 1), (2, 20)]) rfl ?_
    refine rn_call 0 0 [(2, 20), (0, 1)] (r := []) rfl ⟨rfl, Or.inl ⟨_, rfl, by decide⟩⟩ (by decide) (fun _ => ⟨_, rfl, rfl⟩) rfl rfl (Nat.le_of_ble_eq_true rfl) h (fun w hw => t_Rd_fail (d + 5) _ _ _ hw) (fun a1 μ2 h => ?_)
    refine rn_sls 0 (pc' := 114) (ls' := [(0, (2, 20))]) (st' := [(0, a1)]) rfl ?_
    refine rn_sls 1 (pc' := 115) (ls' := [(0, (2, 20))]) (st' := []) rfl ?_
    exact rn_sub [0] rfl (t_Rd_readInto_B115 d  _ _ h)
set_option maxRecDepth 20000 in
theorem t_Rd_readInto_L39_b (d : Nat) (k39 : Int → am_M → am_O) (hk39 : ∀ (v2 : Int) (μ : am_M) q, k39 v2 μ = some q → am_run none (am_ar g_mt (d + 6)) 3 (some .int) k_Rd_readInto 39 [(0, (2, 20)), (2, (0, v2))] [] μ (am_res 0 q)) : ∀ (v2 : Int) (μ : am_M) q, Rd_readInto_L39_b k39 v2 μ = some q → am_run none (am_ar g_mt (d + 6)) 3 (some .int) k_Rd_readInto 39 [(0, (2, 20)), (2, (0, v2))] [] μ (am_res 0 q) := by
  intro v2 μ q h
  unfold Rd_readInto_L39_b at h
  refine rn_sls 2 (pc' := 43) (ls' := [(0, (2, 20)), (2, (0, v2))]) (st' := [(0, 1000), (0, v2)]) rfl ?_
  refine rn_icmpn (t := 102) rfl rfl rfl rfl h (fun h => ?_) (fun h => ?_)
  · refine rn_sls 2 (pc' := 50) (ls' := [(0, (2, 20)), (2, (0, v2))]) (st' := [(0, (μ 20 10))]) rfl ?_
    refine rn_ifn (t := 102) rfl rfl rfl rfl h (fun h => ?_) (fun h => ?_)
    · refine rn_sls 4 (pc' := 61) (ls' := [(0, (2, 20)), (2, (0, v2))]) (st' := [(0, 1), (0, (μ 10 5))]) rfl ?_
      refine rn_icmp (t := 102) rfl rfl rfl rfl h (fun h => ?_) (fun h => ?_)
      · exact rn_sub [0] rfl (t_Rd_readInto_B102 d  _ _ h)
      · refine rn_sls 2 (pc' := 68) (ls' := [(0, (2, 20)), (2, (0, v2))]) (st' := [(0, (μ 20 13))]) rfl ?_
        refine rn_ifn (t := 78) rfl rfl rfl rfl h (fun h => ?_) (fun h => ?_)
        · refine rn_sls 1 (pc' := 72) (ls' := [(0, (2, 20)), (2, (0, v2))]) (st' := [(2, 20)]) rfl ?_
          refine rn_call 0 2 [(2, 20)] (r := []) rfl ⟨rfl, Or.inl ⟨_, rfl, by decide⟩⟩ (by decide) (fun _ => ⟨_, rfl, rfl⟩) rfl rfl (Nat.le_of_ble_eq_true rfl) h (fun w hw => t_Rd_readHead (d + 0)  _ _ hw) (fun a7 μ8 h => ?_)
          refine rn_sls 0 (pc' := 75) (ls' := [(0, (2, 20)), (2, (0, v2))]) (st' := []) rfl ?_
          refine rn_goto (t := 96) rfl rfl rfl ?_
          exact rn_sub [0, 1] rfl (t_Rd_readInto_B96 d k39 hk39 _ _ _ h)
        · refine rn_sls 1 (pc' := 79) (ls' := [(0, (2, 20)), (2, (0, v2))]) (st' := [(2, 20)]) rfl ?_
          refine rn_call 0 0 [(2, 20)] (r := []) rfl ⟨rfl, Or.inl ⟨_, rfl, by decide⟩⟩ (by decide) (fun _ => ⟨_, rfl, rfl⟩) rfl rfl (Nat.le_of_ble_eq_true rfl) h (fun w hw => t_Rd_startLine (d + 2)  _ _ hw) (fun a1 μ2 h => ?_)
          refine rn_sls 0 (pc' := 82) (ls' := [(0, (2, 20)), (2, (0, v2))]) (st' := [(0, a1)]) rfl ?_
          refine rn_if (t := 96) rfl rfl rfl rfl h (fun h => ?_) (fun h => ?_)
          · exact rn_sub [0, 1] rfl (t_Rd_readInto_B96 d k39 hk39 _ _ _ h)
          · refine rn_sls 1 (pc' := 86) (ls' := [(0, (2, 20)), (2, (0, v2))]) (st' := [(2, 20)]) rfl ?_
            refine rn_call 0 0 [(2, 20)] (r := []) rfl ⟨rfl, Or.inl ⟨_, rfl, by decide⟩⟩ (by decide) (fun _ => ⟨_, rfl, rfl⟩) rfl rfl (Nat.le_of_ble_eq_true rfl) h (fun w hw => t_Rd_readRest (d + 0)  _ _ hw) (fun a3 μ4 h => ?_)
            refine rn_sls 0 (pc' := 89) (ls' := [(0, (2, 20)), (2, (0, v2))]) (st' := [(0, a3)]) rfl ?_
            refine rn_if (t := 96) rfl rfl rfl rfl h (fun h => ?_) (fun h => ?_)
            · exact rn_sub [0, 1] rfl (t_Rd_readInto_B96 d k39 hk39 _ _ _ h)
            · refine rn_sls 1 (pc' := 93) (ls' := [(0, (2, 20)), (2, (0, v2))]) (st' := [(2, 20)]) rfl ?_
              refine rn_call 0 2 [(2, 20)] (r := []) rfl ⟨rfl, Or.inl ⟨_, rfl, by decide⟩⟩ (by decide) (fun _ => ⟨_, rfl, rfl⟩) rfl rfl (Nat.le_of_ble_eq_true rfl) h (fun w hw => t_Rd_endLine (d + 1)  _ _ hw) (fun a5 μ6 h => ?_)
              refine rn_sls 0 (pc' := 96) (ls' := [(0, (2, 20)), (2, (0, v2))]) (st' := []) rfl ?_
              exact rn_sub [0, 1] rfl (t_Rd_readInto_B96 d k39 hk39 _ _ _ h)
    · exact rn_sub [0] rfl (t_Rd_readInto_B102 d  _ _ h)
  · exact rn_sub [0] rfl (t_Rd_readInto_B102 d  _ _ h)
set_option maxRecDepth 20000 in
theorem t_Rd_readInto_L39 (d : Nat) : ∀ (n : Nat) (v2 : Int) (μ : am_M) q, Rd_readInto_L39 n v2 μ = some q → am_run none (am_ar g_mt (d + 6)) 3 (some .int) k_Rd_readInto 39 [(0, (2, 20)), (2, (0, v2))] [] μ (am_res 0 q) := by
  intro n
  induction n with
  | zero => intro v2 μ q h; cases h
  | succ n ih => intro v2 μ q h; exact t_Rd_readInto_L39_b d (Rd_readInto_L39 n) ih v2 μ q h
set_option maxRecDepth 20000 in
theorem t_Rd_readInto (d : Nat) : ∀ (v1 : Int) (μ : am_M) q, Rd_readInto v1 μ = some q → am_ar g_mt (d + 7) 60 [(2, 20), (2, v1)] μ (am_res 0 q) := by
  intro v1 μ q h
  unfold Rd_readInto at h
  refine am_ar_of (d := d + 6) i_Rd_readInto rfl rfl (Nat.le_of_ble_eq_true rfl) ?_
  show am_run none (am_ar g_mt (d + 6)) 3 (some .int) k_Rd_readInto 0 [(0, (2, 20)), (1, (2, v1))] [] μ (am_res 0 q)
  refine rn_sls 2 (pc' := 2) (ls' := [(0, (2, 20)), (1, (2, v1))]) (st' := [(2, v1), (2, 20)]) rfl ?_
  refine rn_put rfl rfl rfl rfl (Or.inr (Or.inr ⟨rfl, rfl⟩)) rfl h (fun μ1 h => ?_)
  refine rn_sls 2 (pc' := 7) (ls' := [(0, (2, 20)), (1, (2, v1))]) (st' := [(2, v1), (2, 20)]) rfl ?_
  refine rn_gd h (fun ho2 h => ?_)
  refine rn_get ho2 rfl rfl rfl ?_
  refine rn_sls 0 (pc' := 10) (ls' := [(0, (2, 20)), (1, (2, v1))]) (st' := [(2, (v1 + 1)), (2, 20)]) rfl ?_
  refine rn_put rfl rfl rfl rfl (Or.inr (Or.inr ⟨rfl, rfl⟩)) rfl h (fun μ3 h => ?_)
  refine rn_sls 2 (pc' := 17) (ls' := [(0, (2, 20)), (1, (2, v1))]) (st' := [(2, (μ3 20 4))]) rfl ?_
  refine rn_gd h (fun ho4 h => ?_)
  refine rn_call 0 2 [(2, (μ3 20 4))] (r := []) rfl ⟨rfl, Or.inl ⟨_, rfl, by decide⟩⟩ (by decide) (fun _ => ⟨_, rfl, ho4⟩) rfl rfl (Nat.le_of_ble_eq_true rfl) h (fun w hw => t_Bi_empty (d + 4) _ _ _ hw) (fun a5 μ6 h => ?_)
  refine rn_sls 0 (pc' := 20) (ls' := [(0, (2, 20)), (1, (2, v1))]) (st' := []) rfl ?_
  refine rn_sls 2 (pc' := 22) (ls' := [(0, (2, 20)), (1, (2, v1))]) (st' := [(0, 0), (2, 20)]) rfl ?_
  refine rn_put rfl rfl rfl rfl (Or.inl ⟨rfl, rfl⟩) rfl h (fun μ7 h => ?_)
  refine rn_sls 2 (pc' := 27) (ls' := [(0, (2, 20)), (1, (2, v1))]) (st' := [(0, 0), (2, 20)]) rfl ?_
  refine rn_putb rfl rfl rfl rfl rfl rfl h (fun μ8 h => ?_)
  refine rn_sls 2 (pc' := 34) (ls' := [(0, (2, 20)), (1, (2, v1))]) (st' := [(2, 10)]) rfl ?_
  refine rn_call 0 2 [(2, 10)] (r := []) rfl ⟨rfl, Or.inl ⟨_, rfl, by decide⟩⟩ (by decide) (fun _ => ⟨_, rfl, rfl⟩) rfl rfl (Nat.le_of_ble_eq_true rfl) h (fun w hw => t_Tp_rewind (d + 2)  _ _ hw) (fun a9 μ10 h => ?_)
  refine rn_sls 0 (pc' := 37) (ls' := [(0, (2, 20)), (1, (2, v1))]) (st' := []) rfl ?_
  refine rn_sls 2 (pc' := 39) (ls' := [(2, (0, 0)), (0, (2, 20)), (1, (2, v1))]) (st' := []) rfl ?_
  exact rn_sub [1, 0] rfl (t_Rd_readInto_L39 d  am_FU _ _ _ h)
set_option maxRecDepth 20000 in
theorem t_Tp_clear (d : Nat) : ∀  (μ : am_M) q, Tp_clear  μ = some q → am_ar g_mt (d + 1) 92 [(2, 10)] μ (am_res 2 q) := by
  intro  μ q h
  unfold Tp_clear at h
  refine am_ar_of (d := d + 0) i_Tp_clear rfl rfl (Nat.le_of_ble_eq_true rfl) ?_
  show am_run none (am_ar g_mt (d + 0)) 1 none k_Tp_clear 0 [(0, (2, 10))] [] μ (am_res 2 q)
  refine rn_sls 2 (pc' := 2) (ls' := [(0, (2, 10))]) (st' := [(0, 0), (2, 10)]) rfl ?_
  refine rn_put rfl rfl rfl rfl (Or.inl ⟨rfl, rfl⟩) rfl h (fun μ1 h => ?_)
  exact rn_ret (v := 0) rfl rfl rfl h rfl
set_option maxRecDepth 20000 in
theorem t_Tp_append_B85 (d : Nat) (k3 : Int → Int → am_M → am_O) (hk3 : ∀ (v1 : Int) (v3 : Int) (μ : am_M) q, k3 v1 v3 μ = some q → am_run none (am_ar g_mt (d + 1)) 6 none k_Tp_append 3 [(0, (2, 10)), (1, (1, v1)), (3, (0, v3))] [] μ (am_res 2 q)) : ∀ (v1 : Int) (v3 : Int) (μ : am_M) q, Tp_append_B85 k3 v1 v3 μ = some q → am_run none (am_ar g_mt (d + 1)) 6 none k_Tp_append 85 [(0, (2, 10)), (1, (1, v1)), (3, (0, v3))] [] μ (am_res 2 q) := by
  intro v1 v3 μ q h
  unfold Tp_append_B85 at h
  refine rn_sls 1 (pc' := 88) (ls' := [(3, (0, (w32 (v3 + (-8))))), (0, (2, 10)), (1, (1, v1))]) (st' := []) rfl ?_
  refine rn_goto (t := 3) rfl rfl rfl ?_
  exact rn_sub [1, 2, 0] rfl (hk3 _ _ _ _ h)
set_option maxRecDepth 20000 in
theorem t_Tp_append_B43 (d : Nat) (k3 : Int → Int → am_M → am_O) (hk3 : ∀ (v1 : Int) (v3 : Int) (μ : am_M) q, k3 v1 v3 μ = some q → am_run none (am_ar g_mt (d + 1)) 6 none k_Tp_append 3 [(0, (2, 10)), (1, (1, v1)), (3, (0, v3))] [] μ (am_res 2 q)) : ∀ (v1 : Int) (v3 : Int) (v4 : Int) (s0 : Int) (μ : am_M) q, Tp_append_B43 k3 v1 v3 v4 s0 μ = some q → am_run none (am_ar g_mt (d + 1)) 6 none k_Tp_append 43 [(0, (2, 10)), (1, (1, v1)), (3, (0, v3)), (4, (0, v4))] [(0, s0)] μ (am_res 2 q) := by
  intro v1 v3 v4 s0 μ q h
  unfold Tp_append_B43 at h
  refine rn_sls 2 (pc' := 47) (ls' := [(5, (0, s0)), (0, (2, 10)), (1, (1, v1)), (3, (0, v3)), (4, (0, v4))]) (st' := [(0, s0)]) rfl ?_
  refine rn_if (t := 85) rfl rfl rfl rfl h (fun h => ?_) (fun h => ?_)
  · exact rn_sub [1, 2, 3] rfl (t_Tp_append_B85 d k3 hk3 _ _ _ _ h)
  · refine rn_sls 5 (pc' := 59) (ls' := [(5, (0, s0)), (0, (2, 10)), (1, (1, v1)), (3, (0, v3)), (4, (0, v4))]) (st' := [(0, 1000), (0, (μ 10 2))]) rfl ?_
    refine rn_icmpn (t := 85) rfl rfl rfl rfl h (fun h => ?_) (fun h => ?_)
    · refine rn_sls 5 (pc' := 72) (ls' := [(5, (0, s0)), (0, (2, 10)), (1, (1, v1)), (3, (0, v3)), (4, (0, v4))]) (st' := [(0, v4), (0, (μ 10 2)), (2, 11)]) rfl ?_
      refine rn_call 3 2 [(2, 11), (0, (μ 10 2)), (0, v4)] (r := []) rfl ⟨rfl, Or.inr ⟨_, rfl, by decide⟩⟩ (by decide) (fun z => absurd z (by decide)) rfl rfl (Nat.le_of_ble_eq_true rfl) h (fun w hw => t_X_put (d + 0) _ _ _ _ _ hw) (fun a1 μ2 h => ?_)
      refine rn_sls 0 (pc' := 75) (ls' := [(5, (0, s0)), (0, (2, 10)), (1, (1, v1)), (3, (0, v3)), (4, (0, v4))]) (st' := []) rfl ?_
      refine rn_sls 5 (pc' := 82) (ls' := [(5, (0, s0)), (0, (2, 10)), (1, (1, v1)), (3, (0, v3)), (4, (0, v4))]) (st' := [(0, (w32 ((μ2 10 2) + 1))), (2, 10)]) rfl ?_
      refine rn_put rfl rfl rfl rfl (Or.inl ⟨rfl, rfl⟩) rfl h (fun μ3 h => ?_)
      exact rn_sub [1, 2, 3] rfl (t_Tp_append_B85 d k3 hk3 _ _ _ _ h)
    · exact rn_sub [1, 2, 3] rfl (t_Tp_append_B85 d k3 hk3 _ _ _ _ h)
set_option maxRecDepth 20000 in
theorem t_Tp_append_B38 (d : Nat) (k3 : Int → Int → am_M → am_O) (hk3 : ∀ (v1 : Int) (v3 : Int) (μ : am_M) q, k3 v1 v3 μ = some q → am_run none (am_ar g_mt (d + 1)) 6 none k_Tp_append 3 [(0, (2, 10)), (1, (1, v1)), (3, (0, v3))] [] μ (am_res 2 q)) : ∀ (v1 : Int) (v3 : Int) (v4 : Int) (μ : am_M) q, Tp_append_B38 k3 v1 v3 v4 μ = some q → am_run none (am_ar g_mt (d + 1)) 6 none k_Tp_append 38 [(0, (2, 10)), (1, (1, v1)), (3, (0, v3)), (4, (0, v4))] [] μ (am_res 2 q) := by
  intro v1 v3 v4 μ q h
  unfold Tp_append_B38 at h
  refine rn_sls 1 (pc' := 39) (ls' := [(0, (2, 10)), (1, (1, v1)), (3, (0, v3)), (4, (0, v4))]) (st' := [(0, 1)]) rfl ?_
  refine rn_goto (t := 43) rfl rfl rfl ?_
  exact rn_sub [0, 1, 2, 3] rfl (t_Tp_append_B43 d k3 hk3 _ _ _ _ _ _ h)
set_option maxRecDepth 20000 in
theorem t_Tp_append_B42 (d : Nat) (k3 : Int → Int → am_M → am_O) (hk3 : ∀ (v1 : Int) (v3 : Int) (μ : am_M) q, k3 v1 v3 μ = some q → am_run none (am_ar g_mt (d + 1)) 6 none k_Tp_append 3 [(0, (2, 10)), (1, (1, v1)), (3, (0, v3))] [] μ (am_res 2 q)) : ∀ (v1 : Int) (v3 : Int) (v4 : Int) (μ : am_M) q, Tp_append_B42 k3 v1 v3 v4 μ = some q → am_run none (am_ar g_mt (d + 1)) 6 none k_Tp_append 42 [(0, (2, 10)), (1, (1, v1)), (3, (0, v3)), (4, (0, v4))] [] μ (am_res 2 q) := by
  intro v1 v3 v4 μ q h
  unfold Tp_append_B42 at h
  refine rn_sls 1 (pc' := 43) (ls' := [(0, (2, 10)), (1, (1, v1)), (3, (0, v3)), (4, (0, v4))]) (st' := [(0, 0)]) rfl ?_
  exact rn_sub [0, 1, 2, 3] rfl (t_Tp_append_B43 d k3 hk3 _ _ _ _ _ _ h)
set_option maxRecDepth 20000 in
theorem t_Tp_append_L3_b (d : Nat) (k3 : Int → Int → am_M → am_O) (hk3 : ∀ (v1 : Int) (v3 : Int) (μ : am_M) q, k3 v1 v3 μ = some q → am_run none (am_ar g_mt (d + 1)) 6 none k_Tp_append 3 [(0, (2, 10)), (1, (1, v1)), (3, (0, v3))] [] μ (am_res 2 q)) : ∀ (v1 : Int) (v3 : Int) (μ : am_M) q, Tp_append_L3_b k3 v1 v3 μ = some q → am_run none (am_ar g_mt (d + 1)) 6 none k_Tp_append 3 [(0, (2, 10)), (1, (1, v1)), (3, (0, v3))] [] μ (am_res 2 q) := by
  intro v1 v3 μ q h
  unfold Tp_append_L3_b at h
  refine rn_sls 1 (pc' := 4) (ls' := [(0, (2, 10)), (1, (1, v1)), (3, (0, v3))]) (st' := [(0, v3)]) rfl ?_
  refine rn_if (t := 91) rfl rfl rfl rfl h (fun h => ?_) (fun h => ?_)
  · exact rn_ret (v := 0) rfl rfl rfl h rfl
  · refine rn_sls 9 (pc' := 21) (ls' := [(4, (0, (aAnd (w32 (lUshr v1 v3)) 255))), (0, (2, 10)), (1, (1, v1)), (3, (0, v3))]) (st' := [(0, 10), (0, (aAnd (w32 (lUshr v1 v3)) 255))]) rfl ?_
    refine rn_icmp (t := 38) rfl rfl rfl rfl h (fun h => ?_) (fun h => ?_)
    · exact rn_sub [1, 2, 3, 0] rfl (t_Tp_append_B38 d k3 hk3 _ _ _ _ _ h)
    · refine rn_sls 2 (pc' := 28) (ls' := [(4, (0, (aAnd (w32 (lUshr v1 v3)) 255))), (0, (2, 10)), (1, (1, v1)), (3, (0, v3))]) (st' := [(0, 32), (0, (aAnd (w32 (lUshr v1 v3)) 255))]) rfl ?_
      refine rn_icmp (t := 42) rfl rfl rfl rfl h (fun h => ?_) (fun h => ?_)
      · exact rn_sub [1, 2, 3, 0] rfl (t_Tp_append_B42 d k3 hk3 _ _ _ _ _ h)
      · refine rn_sls 2 (pc' := 35) (ls' := [(4, (0, (aAnd (w32 (lUshr v1 v3)) 255))), (0, (2, 10)), (1, (1, v1)), (3, (0, v3))]) (st' := [(0, 126), (0, (aAnd (w32 (lUshr v1 v3)) 255))]) rfl ?_
        refine rn_icmpn (t := 42) rfl rfl rfl rfl h (fun h => ?_) (fun h => ?_)
        · exact rn_sub [1, 2, 3, 0] rfl (t_Tp_append_B38 d k3 hk3 _ _ _ _ _ h)
        · exact rn_sub [1, 2, 3, 0] rfl (t_Tp_append_B42 d k3 hk3 _ _ _ _ _ h)
set_option maxRecDepth 20000 in
theorem t_Tp_append_L3 (d : Nat) : ∀ (n : Nat) (v1 : Int) (v3 : Int) (μ : am_M) q, Tp_append_L3 n v1 v3 μ = some q → am_run none (am_ar g_mt (d + 1)) 6 none k_Tp_append 3 [(0, (2, 10)), (1, (1, v1)), (3, (0, v3))] [] μ (am_res 2 q) := by
  intro n
  induction n with
  | zero => intro v1 v3 μ q h; cases h
  | succ n ih => intro v1 v3 μ q h; exact t_Tp_append_L3_b d (Tp_append_L3 n) ih v1 v3 μ q h
set_option maxRecDepth 20000 in
theorem t_Tp_append (d : Nat) : ∀ (v1 : Int) (μ : am_M) q, Tp_append v1 μ = some q → am_ar g_mt (d + 2) 93 [(2, 10), (1, v1)] μ (am_res 2 q) := by
  intro v1 μ q h
  unfold Tp_append at h
  refine am_ar_of (d := d + 1) i_Tp_append rfl rfl (Nat.le_of_ble_eq_true rfl) ?_
  show am_run none (am_ar g_mt (d + 1)) 6 none k_Tp_append 0 [(0, (2, 10)), (1, (1, v1))] [] μ (am_res 2 q)
  refine rn_sls 2 (pc' := 3) (ls' := [(3, (0, 56)), (0, (2, 10)), (1, (1, v1))]) (st' := []) rfl ?_
  exact rn_sub [1, 2, 0] rfl (t_Tp_append_L3 d  am_FU _ _ _ _ h)
set_option maxRecDepth 20000 in
theorem t_Wy_forget (d : Nat) : ∀  (μ : am_M) q, Wy_forget  μ = some q → am_ar g_mt (d + 1) 103 [(2, 50)] μ (am_res 2 q) := by
  intro  μ q h
  unfold Wy_forget at h
  refine am_ar_of (d := d + 0) i_Wy_forget rfl rfl (Nat.le_of_ble_eq_true rfl) ?_
  show am_run none (am_ar g_mt (d + 0)) 1 none k_Wy_forget 0 [(0, (2, 50))] [] μ (am_res 2 q)
  refine rn_sls 2 (pc' := 2) (ls' := [(0, (2, 50))]) (st' := [(0, (-1)), (2, 50)]) rfl ?_
  refine rn_put rfl rfl rfl rfl (Or.inl ⟨rfl, rfl⟩) rfl h (fun μ1 h => ?_)
  exact rn_ret (v := 0) rfl rfl rfl h rfl
set_option maxRecDepth 20000 in
theorem t_Wy_howMany_B123 (d : Nat) (k22 : Int → Int → Int → Int → Int → am_M → am_O) (hk22 : ∀ (v1 : Int) (v3 : Int) (v4 : Int) (v5 : Int) (v6 : Int) (μ : am_M) q, k22 v1 v3 v4 v5 v6 μ = some q → am_run none (am_ar g_mt (d + 2)) 8 (some .int) k_Wy_howMany 22 [(0, (2, 50)), (1, (2, v1)), (3, (0, v3)), (4, (0, v4)), (5, (0, v5)), (6, (0, v6))] [] μ (am_res 0 q)) : ∀ (v1 : Int) (v3 : Int) (v4 : Int) (v5 : Int) (v6 : Int) (μ : am_M) q, Wy_howMany_B123 k22 v1 v3 v4 v5 v6 μ = some q → am_run none (am_ar g_mt (d + 2)) 8 (some .int) k_Wy_howMany 123 [(0, (2, 50)), (1, (2, v1)), (3, (0, v3)), (4, (0, v4)), (5, (0, v5)), (6, (0, v6))] [] μ (am_res 0 q) := by
  intro v1 v3 v4 v5 v6 μ q h
  unfold Wy_howMany_B123 at h
  refine rn_sls 1 (pc' := 126) (ls' := [(6, (0, (w32 (v6 + 1)))), (0, (2, 50)), (1, (2, v1)), (3, (0, v3)), (4, (0, v4)), (5, (0, v5))]) (st' := []) rfl ?_
  refine rn_goto (t := 22) rfl rfl rfl ?_
  exact rn_sub [1, 2, 3, 4, 5, 0] rfl (hk22 _ _ _ _ _ _ _ h)
set_option maxRecDepth 20000 in
theorem t_Wy_howMany_L22_b (d : Nat) (k22 : Int → Int → Int → Int → Int → am_M → am_O) (hk22 : ∀ (v1 : Int) (v3 : Int) (v4 : Int) (v5 : Int) (v6 : Int) (μ : am_M) q, k22 v1 v3 v4 v5 v6 μ = some q → am_run none (am_ar g_mt (d + 2)) 8 (some .int) k_Wy_howMany 22 [(0, (2, 50)), (1, (2, v1)), (3, (0, v3)), (4, (0, v4)), (5, (0, v5)), (6, (0, v6))] [] μ (am_res 0 q)) : ∀ (v1 : Int) (v3 : Int) (v4 : Int) (v5 : Int) (v6 : Int) (μ : am_M) q, Wy_howMany_L22_b k22 v1 v3 v4 v5 v6 μ = some q → am_run none (am_ar g_mt (d + 2)) 8 (some .int) k_Wy_howMany 22 [(0, (2, 50)), (1, (2, v1)), (3, (0, v3)), (4, (0, v4)), (5, (0, v5)), (6, (0, v6))] [] μ (am_res 0 q) := by
  intro v1 v3 v4 v5 v6 μ q h
  unfold Wy_howMany_L22_b at h
  refine rn_sls 2 (pc' := 26) (ls' := [(0, (2, 50)), (1, (2, v1)), (3, (0, v3)), (4, (0, v4)), (5, (0, v5)), (6, (0, v6))]) (st' := [(0, v5), (0, v6)]) rfl ?_
  refine rn_icmpn (t := 129) rfl rfl rfl rfl h (fun h => ?_) (fun h => ?_)
  · refine rn_sls 1 (pc' := 30) (ls' := [(0, (2, 50)), (1, (2, v1)), (3, (0, v3)), (4, (0, v4)), (5, (0, v5)), (6, (0, v6))]) (st' := [(2, v1)]) rfl ?_
    refine rn_gd h (fun ho1 h => ?_)
    refine rn_get ho1 rfl rfl rfl ?_
    refine rn_sls 0 (pc' := 33) (ls' := [(0, (2, 50)), (1, (2, v1)), (3, (0, v3)), (4, (0, v4)), (5, (0, v5)), (6, (0, v6))]) (st' := [(2, (v1 + 1))]) rfl ?_
    refine rn_gd h (fun ho2 h => ?_)
    refine rn_get ho2 rfl rfl rfl ?_
    refine rn_sls 0 (pc' := 36) (ls' := [(0, (2, 50)), (1, (2, v1)), (3, (0, v3)), (4, (0, v4)), (5, (0, v5)), (6, (0, v6))]) (st' := [(2, ((v1 + 1) + 1))]) rfl ?_
    refine rn_sls 1 (pc' := 38) (ls' := [(0, (2, 50)), (1, (2, v1)), (3, (0, v3)), (4, (0, v4)), (5, (0, v5)), (6, (0, v6))]) (st' := [(0, v6), (2, ((v1 + 1) + 1))]) rfl ?_
    refine rn_call 3 0 [(2, ((v1 + 1) + 1)), (0, v6)] (r := []) rfl ⟨rfl, Or.inr ⟨_, rfl, by decide⟩⟩ (by decide) (fun z => absurd z (by decide)) rfl rfl (Nat.le_of_ble_eq_true rfl) h (fun w hw => t_X_at (d + 1) _ _ _ _ hw) (fun a3 μ4 h => ?_)
    refine rn_sls 0 (pc' := 41) (ls' := [(0, (2, 50)), (1, (2, v1)), (3, (0, v3)), (4, (0, v4)), (5, (0, v5)), (6, (0, v6))]) (st' := [(0, a3)]) rfl ?_
    refine rn_sls 3 (pc' := 46) (ls' := [(7, (0, a3)), (0, (2, 50)), (1, (2, v1)), (3, (0, v3)), (4, (0, v4)), (5, (0, v5)), (6, (0, v6))]) (st' := [(0, 5), (0, a3)]) rfl ?_
    refine rn_icmpn (t := 67) rfl rfl rfl rfl h (fun h => ?_) (fun h => ?_)
    · refine rn_sls 4 (pc' := 56) (ls' := [(7, (0, a3)), (0, (2, 50)), (1, (2, v1)), (3, (0, v3)), (4, (0, v4)), (5, (0, v5)), (6, (0, v6))]) (st' := [(0, v3), (0, v4), (2, 51)]) rfl ?_
      refine rn_call 3 2 [(2, 51), (0, v4), (0, v3)] (r := []) rfl ⟨rfl, Or.inr ⟨_, rfl, by decide⟩⟩ (by decide) (fun z => absurd z (by decide)) rfl rfl (Nat.le_of_ble_eq_true rfl) h (fun w hw => t_X_put (d + 1) _ _ _ _ _ hw) (fun a11 μ12 h => ?_)
      refine rn_sls 0 (pc' := 59) (ls' := [(7, (0, a3)), (0, (2, 50)), (1, (2, v1)), (3, (0, v3)), (4, (0, v4)), (5, (0, v5)), (6, (0, v6))]) (st' := []) rfl ?_
      refine rn_sls 3 (pc' := 64) (ls' := [(3, (0, 1)), (4, (0, (w32 (v4 + 1)))), (7, (0, a3)), (0, (2, 50)), (1, (2, v1)), (5, (0, v5)), (6, (0, v6))]) (st' := []) rfl ?_
      refine rn_goto (t := 123) rfl rfl rfl ?_
      exact rn_sub [3, 4, 0, 1, 5, 6] rfl (t_Wy_howMany_B123 d k22 hk22 _ _ _ _ _ _ _ h)
    · refine rn_sls 2 (pc' := 71) (ls' := [(7, (0, a3)), (0, (2, 50)), (1, (2, v1)), (3, (0, v3)), (4, (0, v4)), (5, (0, v5)), (6, (0, v6))]) (st' := [(0, 6), (0, a3)]) rfl ?_
      refine rn_icmpn (t := 91) rfl rfl rfl rfl h (fun h => ?_) (fun h => ?_)
      · refine rn_sls 6 (pc' := 83) (ls' := [(7, (0, a3)), (0, (2, 50)), (1, (2, v1)), (3, (0, v3)), (4, (0, v4)), (5, (0, v5)), (6, (0, v6))]) (st' := [(0, v3), (0, (w32 (v4 - 1))), (2, 53)]) rfl ?_
        refine rn_call 3 2 [(2, 53), (0, (w32 (v4 - 1))), (0, v3)] (r := []) rfl ⟨rfl, Or.inr ⟨_, rfl, by decide⟩⟩ (by decide) (fun z => absurd z (by decide)) rfl rfl (Nat.le_of_ble_eq_true rfl) h (fun w hw => t_X_put (d + 1) _ _ _ _ _ hw) (fun a9 μ10 h => ?_)
        refine rn_sls 0 (pc' := 86) (ls' := [(7, (0, a3)), (0, (2, 50)), (1, (2, v1)), (3, (0, v3)), (4, (0, v4)), (5, (0, v5)), (6, (0, v6))]) (st' := []) rfl ?_
        refine rn_sls 2 (pc' := 88) (ls' := [(3, (0, 1)), (7, (0, a3)), (0, (2, 50)), (1, (2, v1)), (4, (0, v4)), (5, (0, v5)), (6, (0, v6))]) (st' := []) rfl ?_
        refine rn_goto (t := 123) rfl rfl rfl ?_
        exact rn_sub [2, 3, 0, 4, 5, 6] rfl (t_Wy_howMany_B123 d k22 hk22 _ _ _ _ _ _ _ h)
      · refine rn_sls 2 (pc' := 95) (ls' := [(7, (0, a3)), (0, (2, 50)), (1, (2, v1)), (3, (0, v3)), (4, (0, v4)), (5, (0, v5)), (6, (0, v6))]) (st' := [(0, 7), (0, a3)]) rfl ?_
        refine rn_icmpn (t := 123) rfl rfl rfl rfl h (fun h => ?_) (fun h => ?_)
        · refine rn_sls 4 (pc' := 107) (ls' := [(4, (0, (w32 (v4 + (-1))))), (7, (0, a3)), (0, (2, 50)), (1, (2, v1)), (3, (0, v3)), (5, (0, v5)), (6, (0, v6))]) (st' := [(0, (w32 (v4 + (-1)))), (2, 51)]) rfl ?_
          refine rn_call 3 0 [(2, 51), (0, (w32 (v4 + (-1))))] (r := []) rfl ⟨rfl, Or.inr ⟨_, rfl, by decide⟩⟩ (by decide) (fun z => absurd z (by decide)) rfl rfl (Nat.le_of_ble_eq_true rfl) h (fun w hw => t_X_at (d + 1) _ _ _ _ hw) (fun a5 μ6 h => ?_)
          refine rn_sls 0 (pc' := 110) (ls' := [(4, (0, (w32 (v4 + (-1))))), (7, (0, a3)), (0, (2, 50)), (1, (2, v1)), (3, (0, v3)), (5, (0, v5)), (6, (0, v6))]) (st' := [(0, a5)]) rfl ?_
          refine rn_sls 3 (pc' := 116) (ls' := [(4, (0, (w32 (v4 + (-1))))), (7, (0, a3)), (0, (2, 50)), (1, (2, v1)), (3, (0, v3)), (5, (0, v5)), (6, (0, v6))]) (st' := [(0, (w32 (v4 + (-1)))), (2, 53), (0, a5)]) rfl ?_
          refine rn_call 3 0 [(2, 53), (0, (w32 (v4 + (-1))))] (r := [(0, a5)]) rfl ⟨rfl, Or.inr ⟨_, rfl, by decide⟩⟩ (by decide) (fun z => absurd z (by decide)) rfl rfl (Nat.le_of_ble_eq_true rfl) h (fun w hw => t_X_at (d + 1) _ _ _ _ hw) (fun a7 μ8 h => ?_)
          refine rn_sls 0 (pc' := 119) (ls' := [(4, (0, (w32 (v4 + (-1))))), (7, (0, a3)), (0, (2, 50)), (1, (2, v1)), (3, (0, v3)), (5, (0, v5)), (6, (0, v6))]) (st' := [(0, a7), (0, a5)]) rfl ?_
          refine rn_sls 4 (pc' := 123) (ls' := [(3, (0, (w32 (a5 * (w32 (a7 + v3)))))), (4, (0, (w32 (v4 + (-1))))), (7, (0, a3)), (0, (2, 50)), (1, (2, v1)), (5, (0, v5)), (6, (0, v6))]) (st' := []) rfl ?_
          exact rn_sub [3, 4, 0, 1, 5, 6] rfl (t_Wy_howMany_B123 d k22 hk22 _ _ _ _ _ _ _ h)
        · exact rn_sub [1, 2, 3, 4, 5, 6] rfl (t_Wy_howMany_B123 d k22 hk22 _ _ _ _ _ _ _ h)
  · refine rn_sls 1 (pc' := 130) (ls' := [(0, (2, 50)), (1, (2, v1)), (3, (0, v3)), (4, (0, v4)), (5, (0, v5)), (6, (0, v6))]) (st' := [(0, v3)]) rfl ?_
    exact rn_ireti rfl rfl rfl h rfl
set_option maxRecDepth 20000 in
theorem t_Wy_howMany_L22 (d : Nat) : ∀ (n : Nat) (v1 : Int) (v3 : Int) (v4 : Int) (v5 : Int) (v6 : Int) (μ : am_M) q, Wy_howMany_L22 n v1 v3 v4 v5 v6 μ = some q → am_run none (am_ar g_mt (d + 2)) 8 (some .int) k_Wy_howMany 22 [(0, (2, 50)), (1, (2, v1)), (3, (0, v3)), (4, (0, v4)), (5, (0, v5)), (6, (0, v6))] [] μ (am_res 0 q) := by
  intro n
  induction n with
  | zero => intro v1 v3 v4 v5 v6 μ q h; cases h
  | succ n ih => intro v1 v3 v4 v5 v6 μ q h; exact t_Wy_howMany_L22_b d (Wy_howMany_L22 n) ih v1 v3 v4 v5 v6 μ q h
set_option maxRecDepth 20000 in
theorem t_Wy_howMany (d : Nat) : ∀ (v1 : Int) (v2 : Int) (μ : am_M) q, Wy_howMany v1 v2 μ = some q → am_ar g_mt (d + 3) 104 [(2, 50), (2, v1), (0, v2)] μ (am_res 0 q) := by
  intro v1 v2 μ q h
  unfold Wy_howMany at h
  refine am_ar_of (d := d + 2) i_Wy_howMany rfl rfl (Nat.le_of_ble_eq_true rfl) ?_
  show am_run none (am_ar g_mt (d + 2)) 8 (some .int) k_Wy_howMany 0 [(0, (2, 50)), (1, (2, v1)), (2, (0, v2))] [] μ (am_res 0 q)
  refine rn_sls 6 (pc' := 7) (ls' := [(4, (0, 0)), (3, (0, 1)), (0, (2, 50)), (1, (2, v1)), (2, (0, v2))]) (st' := [(0, v2), (2, v1)]) rfl ?_
  refine rn_gd h (fun ho1 h => ?_)
  refine rn_call 0 0 [(2, v1), (0, v2)] (r := []) rfl ⟨rfl, Or.inl ⟨_, rfl, by decide⟩⟩ (by decide) (fun _ => ⟨_, rfl, ho1⟩) rfl rfl (Nat.le_of_ble_eq_true rfl) h (fun w hw => t_Bi_lineBehind (d + 0) _ _ _ _ hw) (fun a2 μ3 h => ?_)
  refine rn_sls 0 (pc' := 10) (ls' := [(4, (0, 0)), (3, (0, 1)), (0, (2, 50)), (1, (2, v1)), (2, (0, v2))]) (st' := [(0, a2)]) rfl ?_
  refine rn_sls 2 (pc' := 13) (ls' := [(5, (0, a2)), (4, (0, 0)), (3, (0, 1)), (0, (2, 50)), (1, (2, v1)), (2, (0, v2))]) (st' := [(2, v1)]) rfl ?_
  refine rn_get ho1 rfl rfl rfl ?_
  refine rn_sls 0 (pc' := 16) (ls' := [(5, (0, a2)), (4, (0, 0)), (3, (0, 1)), (0, (2, 50)), (1, (2, v1)), (2, (0, v2))]) (st' := [(2, (v1 + 15))]) rfl ?_
  refine rn_sls 1 (pc' := 17) (ls' := [(5, (0, a2)), (4, (0, 0)), (3, (0, 1)), (0, (2, 50)), (1, (2, v1)), (2, (0, v2))]) (st' := [(0, v2), (2, (v1 + 15))]) rfl ?_
  refine rn_call 3 0 [(2, (v1 + 15)), (0, v2)] (r := []) rfl ⟨rfl, Or.inr ⟨_, rfl, by decide⟩⟩ (by decide) (fun z => absurd z (by decide)) rfl rfl (Nat.le_of_ble_eq_true rfl) h (fun w hw => t_X_at (d + 1) _ _ _ _ hw) (fun a4 μ5 h => ?_)
  refine rn_sls 0 (pc' := 20) (ls' := [(5, (0, a2)), (4, (0, 0)), (3, (0, 1)), (0, (2, 50)), (1, (2, v1)), (2, (0, v2))]) (st' := [(0, a4)]) rfl ?_
  refine rn_sls 1 (pc' := 22) (ls' := [(6, (0, a4)), (5, (0, a2)), (4, (0, 0)), (3, (0, 1)), (0, (2, 50)), (1, (2, v1)), (2, (0, v2))]) (st' := []) rfl ?_
  exact rn_sub [4, 5, 3, 2, 1, 0] rfl (t_Wy_howMany_L22 d  am_FU _ _ _ _ _ _ _ h)
set_option maxRecDepth 20000 in
theorem t_Wy_keep (d : Nat) : ∀ (v1 : Int) (v2 : Int) (v3 : Int) (μ : am_M) q, Wy_keep v1 v2 v3 μ = some q → am_ar g_mt (d + 2) 106 [(2, 50), (2, v1), (2, v2), (0, v3)] μ (am_res 2 q) := by
  intro v1 v2 v3 μ q h
  unfold Wy_keep at h
  refine am_ar_of (d := d + 1) i_Wy_keep rfl rfl (Nat.le_of_ble_eq_true rfl) ?_
  show am_run none (am_ar g_mt (d + 1)) 4 none k_Wy_keep 0 [(0, (2, 50)), (1, (2, v1)), (2, (2, v2)), (3, (0, v3))] [] μ (am_res 2 q)
  refine rn_sls 4 (pc' := 6) (ls' := [(0, (2, 50)), (1, (2, v1)), (2, (2, v2)), (3, (0, v3))]) (st' := [(0, (μ 50 11)), (0, v3), (2, v1)]) rfl ?_
  refine rn_call 3 2 [(2, v1), (0, v3), (0, (μ 50 11))] (r := []) rfl ⟨rfl, Or.inr ⟨_, rfl, by decide⟩⟩ (by decide) (fun z => absurd z (by decide)) rfl rfl (Nat.le_of_ble_eq_true rfl) h (fun w hw => t_X_put (d + 0) _ _ _ _ _ hw) (fun a1 μ2 h => ?_)
  refine rn_sls 0 (pc' := 9) (ls' := [(0, (2, 50)), (1, (2, v1)), (2, (2, v2)), (3, (0, v3))]) (st' := []) rfl ?_
  refine rn_sls 4 (pc' := 15) (ls' := [(0, (2, 50)), (1, (2, v1)), (2, (2, v2)), (3, (0, v3))]) (st' := [(0, (μ2 50 12)), (0, v3), (2, v2)]) rfl ?_
  refine rn_call 3 2 [(2, v2), (0, v3), (0, (μ2 50 12))] (r := []) rfl ⟨rfl, Or.inr ⟨_, rfl, by decide⟩⟩ (by decide) (fun z => absurd z (by decide)) rfl rfl (Nat.le_of_ble_eq_true rfl) h (fun w hw => t_X_put (d + 0) _ _ _ _ _ hw) (fun a3 μ4 h => ?_)
  refine rn_sls 0 (pc' := 18) (ls' := [(0, (2, 50)), (1, (2, v1)), (2, (2, v2)), (3, (0, v3))]) (st' := []) rfl ?_
  refine rn_sls 2 (pc' := 20) (ls' := [(0, (2, 50)), (1, (2, v1)), (2, (2, v2)), (3, (0, v3))]) (st' := [(0, 0), (2, 50)]) rfl ?_
  refine rn_put rfl rfl rfl rfl (Or.inl ⟨rfl, rfl⟩) rfl h (fun μ5 h => ?_)
  refine rn_sls 2 (pc' := 25) (ls' := [(0, (2, 50)), (1, (2, v1)), (2, (2, v2)), (3, (0, v3))]) (st' := [(0, 0), (2, 50)]) rfl ?_
  refine rn_put rfl rfl rfl rfl (Or.inl ⟨rfl, rfl⟩) rfl h (fun μ6 h => ?_)
  exact rn_ret (v := 0) rfl rfl rfl h rfl
set_option maxRecDepth 20000 in
theorem t_Wy_measure_B225 (d : Nat) (k30 : Int → Int → Int → Int → Int → am_M → am_O) (hk30 : ∀ (v1 : Int) (v3 : Int) (v4 : Int) (v5 : Int) (v6 : Int) (μ : am_M) q, k30 v1 v3 v4 v5 v6 μ = some q → am_run none (am_ar g_mt (d + 4)) 9 none k_Wy_measure 30 [(0, (2, 50)), (1, (2, v1)), (3, (0, v3)), (4, (0, v4)), (5, (0, v5)), (6, (0, v6))] [] μ (am_res 2 q)) : ∀ (v1 : Int) (v3 : Int) (v4 : Int) (v5 : Int) (v6 : Int) (μ : am_M) q, Wy_measure_B225 k30 v1 v3 v4 v5 v6 μ = some q → am_run none (am_ar g_mt (d + 4)) 9 none k_Wy_measure 225 [(0, (2, 50)), (1, (2, v1)), (3, (0, v3)), (4, (0, v4)), (5, (0, v5)), (6, (0, v6))] [] μ (am_res 2 q) := by
  intro v1 v3 v4 v5 v6 μ q h
  unfold Wy_measure_B225 at h
  refine rn_sls 1 (pc' := 228) (ls' := [(6, (0, (w32 (v6 + 1)))), (0, (2, 50)), (1, (2, v1)), (3, (0, v3)), (4, (0, v4)), (5, (0, v5))]) (st' := []) rfl ?_
  refine rn_goto (t := 30) rfl rfl rfl ?_
  exact rn_sub [1, 2, 3, 4, 5, 0] rfl (hk30 _ _ _ _ _ _ _ h)
set_option maxRecDepth 20000 in
theorem t_Wy_measure_B79 (d : Nat) (k30 : Int → Int → Int → Int → Int → am_M → am_O) (hk30 : ∀ (v1 : Int) (v3 : Int) (v4 : Int) (v5 : Int) (v6 : Int) (μ : am_M) q, k30 v1 v3 v4 v5 v6 μ = some q → am_run none (am_ar g_mt (d + 4)) 9 none k_Wy_measure 30 [(0, (2, 50)), (1, (2, v1)), (3, (0, v3)), (4, (0, v4)), (5, (0, v5)), (6, (0, v6))] [] μ (am_res 2 q)) : ∀ (v1 : Int) (v3 : Int) (v4 : Int) (v5 : Int) (v6 : Int) (v7 : Int) (s0 : Int) (μ : am_M) q, Wy_measure_B79 k30 v1 v3 v4 v5 v6 v7 s0 μ = some q → am_run none (am_ar g_mt (d + 4)) 9 none k_Wy_measure 79 [(0, (2, 50)), (1, (2, v1)), (3, (0, v3)), (4, (0, v4)), (5, (0, v5)), (6, (0, v6)), (7, (0, v7))] [(0, s0)] μ (am_res 2 q) := by
  intro v1 v3 v4 v5 v6 v7 s0 μ q h
  unfold Wy_measure_B79 at h
  refine rn_sls 6 (pc' := 89) (ls' := [(8, (0, s0)), (0, (2, 50)), (1, (2, v1)), (3, (0, v3)), (4, (0, v4)), (5, (0, v5)), (6, (0, v6)), (7, (0, v7))]) (st' := [(0, (w32 ((μ 50 11) + s0))), (2, 50)]) rfl ?_
  refine rn_put rfl rfl rfl rfl (Or.inl ⟨rfl, rfl⟩) rfl h (fun μ1 h => ?_)
  refine rn_sls 5 (pc' := 100) (ls' := [(8, (0, s0)), (0, (2, 50)), (1, (2, v1)), (3, (0, v3)), (4, (0, v4)), (5, (0, v5)), (6, (0, v6)), (7, (0, v7))]) (st' := [(0, (w32 ((μ1 50 12) + s0))), (2, 50)]) rfl ?_
  refine rn_put rfl rfl rfl rfl (Or.inl ⟨rfl, rfl⟩) rfl h (fun μ2 h => ?_)
  refine rn_sls 2 (pc' := 106) (ls' := [(8, (0, s0)), (0, (2, 50)), (1, (2, v1)), (3, (0, v3)), (4, (0, v4)), (5, (0, v5)), (6, (0, v6)), (7, (0, v7))]) (st' := [(0, 5), (0, v7)]) rfl ?_
  refine rn_icmpn (t := 129) rfl rfl rfl rfl h (fun h => ?_) (fun h => ?_)
  · refine rn_sls 6 (pc' := 120) (ls' := [(8, (0, s0)), (0, (2, 50)), (1, (2, v1)), (3, (0, v3)), (4, (0, v4)), (5, (0, v5)), (6, (0, v6)), (7, (0, v7))]) (st' := [(0, v4), (2, 52), (2, 51), (2, 50)]) rfl ?_
    refine rn_call 0 2 [(2, 50), (2, 51), (2, 52), (0, v4)] (r := []) rfl ⟨rfl, Or.inl ⟨_, rfl, by decide⟩⟩ (by decide) (fun _ => ⟨_, rfl, rfl⟩) rfl rfl (Nat.le_of_ble_eq_true rfl) h (fun w hw => t_Wy_keep (d + 2) _ _ _ _ _ hw) (fun a17 μ18 h => ?_)
    refine rn_sls 0 (pc' := 123) (ls' := [(8, (0, s0)), (0, (2, 50)), (1, (2, v1)), (3, (0, v3)), (4, (0, v4)), (5, (0, v5)), (6, (0, v6)), (7, (0, v7))]) (st' := []) rfl ?_
    refine rn_sls 1 (pc' := 126) (ls' := [(4, (0, (w32 (v4 + 1)))), (8, (0, s0)), (0, (2, 50)), (1, (2, v1)), (3, (0, v3)), (5, (0, v5)), (6, (0, v6)), (7, (0, v7))]) (st' := []) rfl ?_
    refine rn_goto (t := 225) rfl rfl rfl ?_
    exact rn_sub [2, 3, 4, 0, 5, 6] rfl (t_Wy_measure_B225 d k30 hk30 _ _ _ _ _ _ _ h)
  · refine rn_sls 2 (pc' := 133) (ls' := [(8, (0, s0)), (0, (2, 50)), (1, (2, v1)), (3, (0, v3)), (4, (0, v4)), (5, (0, v5)), (6, (0, v6)), (7, (0, v7))]) (st' := [(0, 6), (0, v7)]) rfl ?_
    refine rn_icmpn (t := 155) rfl rfl rfl rfl h (fun h => ?_) (fun h => ?_)
    · refine rn_sls 8 (pc' := 149) (ls' := [(8, (0, s0)), (0, (2, 50)), (1, (2, v1)), (3, (0, v3)), (4, (0, v4)), (5, (0, v5)), (6, (0, v6)), (7, (0, v7))]) (st' := [(0, (w32 (v4 - 1))), (2, 54), (2, 53), (2, 50)]) rfl ?_
      refine rn_call 0 2 [(2, 50), (2, 53), (2, 54), (0, (w32 (v4 - 1)))] (r := []) rfl ⟨rfl, Or.inl ⟨_, rfl, by decide⟩⟩ (by decide) (fun _ => ⟨_, rfl, rfl⟩) rfl rfl (Nat.le_of_ble_eq_true rfl) h (fun w hw => t_Wy_keep (d + 2) _ _ _ _ _ hw) (fun a15 μ16 h => ?_)
      refine rn_sls 0 (pc' := 152) (ls' := [(8, (0, s0)), (0, (2, 50)), (1, (2, v1)), (3, (0, v3)), (4, (0, v4)), (5, (0, v5)), (6, (0, v6)), (7, (0, v7))]) (st' := []) rfl ?_
      refine rn_goto (t := 225) rfl rfl rfl ?_
      exact rn_sub [1, 2, 3, 4, 5, 6] rfl (t_Wy_measure_B225 d k30 hk30 _ _ _ _ _ _ _ h)
    · refine rn_sls 2 (pc' := 159) (ls' := [(8, (0, s0)), (0, (2, 50)), (1, (2, v1)), (3, (0, v3)), (4, (0, v4)), (5, (0, v5)), (6, (0, v6)), (7, (0, v7))]) (st' := [(0, 7), (0, v7)]) rfl ?_
      refine rn_icmpn (t := 225) rfl rfl rfl rfl h (fun h => ?_) (fun h => ?_)
      · refine rn_sls 5 (pc' := 172) (ls' := [(4, (0, (w32 (v4 + (-1))))), (8, (0, s0)), (0, (2, 50)), (1, (2, v1)), (3, (0, v3)), (5, (0, v5)), (6, (0, v6)), (7, (0, v7))]) (st' := [(0, (w32 (v4 + (-1)))), (2, 51), (2, 50)]) rfl ?_
        refine rn_call 3 0 [(2, 51), (0, (w32 (v4 + (-1))))] (r := [(2, 50)]) rfl ⟨rfl, Or.inr ⟨_, rfl, by decide⟩⟩ (by decide) (fun z => absurd z (by decide)) rfl rfl (Nat.le_of_ble_eq_true rfl) h (fun w hw => t_X_at (d + 3) _ _ _ _ hw) (fun a3 μ4 h => ?_)
        refine rn_sls 0 (pc' := 175) (ls' := [(4, (0, (w32 (v4 + (-1))))), (8, (0, s0)), (0, (2, 50)), (1, (2, v1)), (3, (0, v3)), (5, (0, v5)), (6, (0, v6)), (7, (0, v7))]) (st' := [(0, a3), (2, 50)]) rfl ?_
        refine rn_sls 5 (pc' := 185) (ls' := [(4, (0, (w32 (v4 + (-1))))), (8, (0, s0)), (0, (2, 50)), (1, (2, v1)), (3, (0, v3)), (5, (0, v5)), (6, (0, v6)), (7, (0, v7))]) (st' := [(0, (w32 (v4 + (-1)))), (2, 53), (0, (μ4 50 11)), (0, a3), (2, 50)]) rfl ?_
        refine rn_call 3 0 [(2, 53), (0, (w32 (v4 + (-1))))] (r := [(0, (μ4 50 11)), (0, a3), (2, 50)]) rfl ⟨rfl, Or.inr ⟨_, rfl, by decide⟩⟩ (by decide) (fun z => absurd z (by decide)) rfl rfl (Nat.le_of_ble_eq_true rfl) h (fun w hw => t_X_at (d + 3) _ _ _ _ hw) (fun a5 μ6 h => ?_)
        refine rn_sls 0 (pc' := 188) (ls' := [(4, (0, (w32 (v4 + (-1))))), (8, (0, s0)), (0, (2, 50)), (1, (2, v1)), (3, (0, v3)), (5, (0, v5)), (6, (0, v6)), (7, (0, v7))]) (st' := [(0, a5), (0, (μ4 50 11)), (0, a3), (2, 50)]) rfl ?_
        refine rn_min rfl ⟨rfl, Or.inr ⟨_, rfl, by decide⟩⟩ rfl (Nat.le_of_ble_eq_true rfl) ?_
        refine rn_nm (ls := fun x => [(4, (0, (w32 (v4 + (-1))))), (8, (0, s0)), (0, (2, 50)), (1, (2, v1)), (3, (0, v3)), (5, (0, v5)), (6, (0, v6)), (7, (0, v7))]) (st := fun x => [(0, x), (0, a3), (2, 50)]) h (fun a7 h => ?_)
        refine rn_sls 1 (pc' := 192) (ls' := [(4, (0, (w32 (v4 + (-1))))), (8, (0, s0)), (0, (2, 50)), (1, (2, v1)), (3, (0, v3)), (5, (0, v5)), (6, (0, v6)), (7, (0, v7))]) (st' := [(0, (w32 (a3 + a7))), (2, 50)]) rfl ?_
        refine rn_put rfl rfl rfl rfl (Or.inl ⟨rfl, rfl⟩) rfl h (fun μ8 h => ?_)
        refine rn_sls 4 (pc' := 202) (ls' := [(4, (0, (w32 (v4 + (-1))))), (8, (0, s0)), (0, (2, 50)), (1, (2, v1)), (3, (0, v3)), (5, (0, v5)), (6, (0, v6)), (7, (0, v7))]) (st' := [(0, (w32 (v4 + (-1)))), (2, 52), (2, 50)]) rfl ?_
        refine rn_call 3 0 [(2, 52), (0, (w32 (v4 + (-1))))] (r := [(2, 50)]) rfl ⟨rfl, Or.inr ⟨_, rfl, by decide⟩⟩ (by decide) (fun z => absurd z (by decide)) rfl rfl (Nat.le_of_ble_eq_true rfl) h (fun w hw => t_X_at (d + 3) _ _ _ _ hw) (fun a9 μ10 h => ?_)
        refine rn_sls 0 (pc' := 205) (ls' := [(4, (0, (w32 (v4 + (-1))))), (8, (0, s0)), (0, (2, 50)), (1, (2, v1)), (3, (0, v3)), (5, (0, v5)), (6, (0, v6)), (7, (0, v7))]) (st' := [(0, a9), (2, 50)]) rfl ?_
        refine rn_sls 5 (pc' := 215) (ls' := [(4, (0, (w32 (v4 + (-1))))), (8, (0, s0)), (0, (2, 50)), (1, (2, v1)), (3, (0, v3)), (5, (0, v5)), (6, (0, v6)), (7, (0, v7))]) (st' := [(0, (w32 (v4 + (-1)))), (2, 54), (0, (μ10 50 12)), (0, a9), (2, 50)]) rfl ?_
        refine rn_call 3 0 [(2, 54), (0, (w32 (v4 + (-1))))] (r := [(0, (μ10 50 12)), (0, a9), (2, 50)]) rfl ⟨rfl, Or.inr ⟨_, rfl, by decide⟩⟩ (by decide) (fun z => absurd z (by decide)) rfl rfl (Nat.le_of_ble_eq_true rfl) h (fun w hw => t_X_at (d + 3) _ _ _ _ hw) (fun a11 μ12 h => ?_)
        refine rn_sls 0 (pc' := 218) (ls' := [(4, (0, (w32 (v4 + (-1))))), (8, (0, s0)), (0, (2, 50)), (1, (2, v1)), (3, (0, v3)), (5, (0, v5)), (6, (0, v6)), (7, (0, v7))]) (st' := [(0, a11), (0, (μ10 50 12)), (0, a9), (2, 50)]) rfl ?_
        refine rn_max rfl ⟨rfl, Or.inr ⟨_, rfl, by decide⟩⟩ rfl (Nat.le_of_ble_eq_true rfl) ?_
        refine rn_nm (ls := fun x => [(4, (0, (w32 (v4 + (-1))))), (8, (0, s0)), (0, (2, 50)), (1, (2, v1)), (3, (0, v3)), (5, (0, v5)), (6, (0, v6)), (7, (0, v7))]) (st := fun x => [(0, x), (0, a9), (2, 50)]) h (fun a13 h => ?_)
        refine rn_sls 1 (pc' := 222) (ls' := [(4, (0, (w32 (v4 + (-1))))), (8, (0, s0)), (0, (2, 50)), (1, (2, v1)), (3, (0, v3)), (5, (0, v5)), (6, (0, v6)), (7, (0, v7))]) (st' := [(0, (w32 (a9 + a13))), (2, 50)]) rfl ?_
        refine rn_put rfl rfl rfl rfl (Or.inl ⟨rfl, rfl⟩) rfl h (fun μ14 h => ?_)
        exact rn_sub [2, 3, 4, 0, 5, 6] rfl (t_Wy_measure_B225 d k30 hk30 _ _ _ _ _ _ _ h)
      · exact rn_sub [1, 2, 3, 4, 5, 6] rfl (t_Wy_measure_B225 d k30 hk30 _ _ _ _ _ _ _ h)
set_option maxRecDepth 20000 in
theorem t_Wy_measure_L30_b (d : Nat) (k30 : Int → Int → Int → Int → Int → am_M → am_O) (hk30 : ∀ (v1 : Int) (v3 : Int) (v4 : Int) (v5 : Int) (v6 : Int) (μ : am_M) q, k30 v1 v3 v4 v5 v6 μ = some q → am_run none (am_ar g_mt (d + 4)) 9 none k_Wy_measure 30 [(0, (2, 50)), (1, (2, v1)), (3, (0, v3)), (4, (0, v4)), (5, (0, v5)), (6, (0, v6))] [] μ (am_res 2 q)) : ∀ (v1 : Int) (v3 : Int) (v4 : Int) (v5 : Int) (v6 : Int) (μ : am_M) q, Wy_measure_L30_b k30 v1 v3 v4 v5 v6 μ = some q → am_run none (am_ar g_mt (d + 4)) 9 none k_Wy_measure 30 [(0, (2, 50)), (1, (2, v1)), (3, (0, v3)), (4, (0, v4)), (5, (0, v5)), (6, (0, v6))] [] μ (am_res 2 q) := by
  intro v1 v3 v4 v5 v6 μ q h
  unfold Wy_measure_L30_b at h
  refine rn_sls 2 (pc' := 34) (ls' := [(0, (2, 50)), (1, (2, v1)), (3, (0, v3)), (4, (0, v4)), (5, (0, v5)), (6, (0, v6))]) (st' := [(0, v5), (0, v6)]) rfl ?_
  refine rn_icmpn (t := 231) rfl rfl rfl rfl h (fun h => ?_) (fun h => ?_)
  · refine rn_sls 1 (pc' := 38) (ls' := [(0, (2, 50)), (1, (2, v1)), (3, (0, v3)), (4, (0, v4)), (5, (0, v5)), (6, (0, v6))]) (st' := [(2, v1)]) rfl ?_
    refine rn_gd h (fun ho1 h => ?_)
    refine rn_get ho1 rfl rfl rfl ?_
    refine rn_sls 0 (pc' := 41) (ls' := [(0, (2, 50)), (1, (2, v1)), (3, (0, v3)), (4, (0, v4)), (5, (0, v5)), (6, (0, v6))]) (st' := [(2, (v1 + 1))]) rfl ?_
    refine rn_gd h (fun ho2 h => ?_)
    refine rn_get ho2 rfl rfl rfl ?_
    refine rn_sls 0 (pc' := 44) (ls' := [(0, (2, 50)), (1, (2, v1)), (3, (0, v3)), (4, (0, v4)), (5, (0, v5)), (6, (0, v6))]) (st' := [(2, ((v1 + 1) + 1))]) rfl ?_
    refine rn_sls 1 (pc' := 46) (ls' := [(0, (2, 50)), (1, (2, v1)), (3, (0, v3)), (4, (0, v4)), (5, (0, v5)), (6, (0, v6))]) (st' := [(0, v6), (2, ((v1 + 1) + 1))]) rfl ?_
    refine rn_call 3 0 [(2, ((v1 + 1) + 1)), (0, v6)] (r := []) rfl ⟨rfl, Or.inr ⟨_, rfl, by decide⟩⟩ (by decide) (fun z => absurd z (by decide)) rfl rfl (Nat.le_of_ble_eq_true rfl) h (fun w hw => t_X_at (d + 3) _ _ _ _ hw) (fun a3 μ4 h => ?_)
    refine rn_sls 0 (pc' := 49) (ls' := [(0, (2, 50)), (1, (2, v1)), (3, (0, v3)), (4, (0, v4)), (5, (0, v5)), (6, (0, v6))]) (st' := [(0, a3)]) rfl ?_
    refine rn_sls 3 (pc' := 53) (ls' := [(7, (0, a3)), (0, (2, 50)), (1, (2, v1)), (3, (0, v3)), (4, (0, v4)), (5, (0, v5)), (6, (0, v6))]) (st' := [(0, (-1)), (0, v3)]) rfl ?_
    refine rn_icmp (t := 69) rfl rfl rfl rfl h (fun h => ?_) (fun h => ?_)
    · refine rn_sls 1 (pc' := 71) (ls' := [(7, (0, a3)), (0, (2, 50)), (1, (2, v1)), (3, (0, v3)), (4, (0, v4)), (5, (0, v5)), (6, (0, v6))]) (st' := [(0, a3)]) rfl ?_
      refine rn_ifn (t := 78) rfl rfl rfl rfl h (fun h => ?_) (fun h => ?_)
      · refine rn_sls 1 (pc' := 75) (ls' := [(7, (0, a3)), (0, (2, 50)), (1, (2, v1)), (3, (0, v3)), (4, (0, v4)), (5, (0, v5)), (6, (0, v6))]) (st' := [(0, 0)]) rfl ?_
        refine rn_goto (t := 79) rfl rfl rfl ?_
        exact rn_sub [1, 2, 3, 4, 5, 6, 0] rfl (t_Wy_measure_B79 d k30 hk30 _ _ _ _ _ _ _ _ _ h)
      · refine rn_sls 1 (pc' := 79) (ls' := [(7, (0, a3)), (0, (2, 50)), (1, (2, v1)), (3, (0, v3)), (4, (0, v4)), (5, (0, v5)), (6, (0, v6))]) (st' := [(0, 1)]) rfl ?_
        exact rn_sub [1, 2, 3, 4, 5, 6, 0] rfl (t_Wy_measure_B79 d k30 hk30 _ _ _ _ _ _ _ _ _ h)
    · refine rn_sls 1 (pc' := 57) (ls' := [(7, (0, a3)), (0, (2, 50)), (1, (2, v1)), (3, (0, v3)), (4, (0, v4)), (5, (0, v5)), (6, (0, v6))]) (st' := [(2, v1)]) rfl ?_
      refine rn_get ho1 rfl rfl rfl ?_
      refine rn_sls 0 (pc' := 60) (ls' := [(7, (0, a3)), (0, (2, 50)), (1, (2, v1)), (3, (0, v3)), (4, (0, v4)), (5, (0, v5)), (6, (0, v6))]) (st' := [(2, (v1 + 1))]) rfl ?_
      refine rn_sls 2 (pc' := 63) (ls' := [(7, (0, a3)), (0, (2, 50)), (1, (2, v1)), (3, (0, v3)), (4, (0, v4)), (5, (0, v5)), (6, (0, v6))]) (st' := [(0, v3), (0, v6), (2, (v1 + 1))]) rfl ?_
      refine rn_call 0 0 [(2, (v1 + 1)), (0, v6), (0, v3)] (r := []) rfl ⟨rfl, Or.inl ⟨_, rfl, by decide⟩⟩ (by decide) (fun _ => ⟨_, rfl, ho2⟩) rfl rfl (Nat.le_of_ble_eq_true rfl) h (fun w hw => t_Ln_timesRead_ (d + 0) _ _ _ _ _ hw) (fun a5 μ6 h => ?_)
      refine rn_sls 0 (pc' := 66) (ls' := [(7, (0, a3)), (0, (2, 50)), (1, (2, v1)), (3, (0, v3)), (4, (0, v4)), (5, (0, v5)), (6, (0, v6))]) (st' := [(0, a5)]) rfl ?_
      refine rn_goto (t := 79) rfl rfl rfl ?_
      exact rn_sub [1, 2, 3, 4, 5, 6, 0] rfl (t_Wy_measure_B79 d k30 hk30 _ _ _ _ _ _ _ _ _ h)
  · exact rn_ret (v := 0) rfl rfl rfl h rfl
set_option maxRecDepth 20000 in
theorem t_Wy_measure_L30 (d : Nat) : ∀ (n : Nat) (v1 : Int) (v3 : Int) (v4 : Int) (v5 : Int) (v6 : Int) (μ : am_M) q, Wy_measure_L30 n v1 v3 v4 v5 v6 μ = some q → am_run none (am_ar g_mt (d + 4)) 9 none k_Wy_measure 30 [(0, (2, 50)), (1, (2, v1)), (3, (0, v3)), (4, (0, v4)), (5, (0, v5)), (6, (0, v6))] [] μ (am_res 2 q) := by
  intro n
  induction n with
  | zero => intro v1 v3 v4 v5 v6 μ q h; cases h
  | succ n ih => intro v1 v3 v4 v5 v6 μ q h; exact t_Wy_measure_L30_b d (Wy_measure_L30 n) ih v1 v3 v4 v5 v6 μ q h
set_option maxRecDepth 20000 in
theorem t_Wy_measure (d : Nat) : ∀ (v1 : Int) (v2 : Int) (v3 : Int) (μ : am_M) q, Wy_measure v1 v2 v3 μ = some q → am_ar g_mt (d + 5) 105 [(2, 50), (2, v1), (0, v2), (0, v3)] μ (am_res 2 q) := by
  intro v1 v2 v3 μ q h
  unfold Wy_measure at h
  refine am_ar_of (d := d + 4) i_Wy_measure rfl rfl (Nat.le_of_ble_eq_true rfl) ?_
  show am_run none (am_ar g_mt (d + 4)) 9 none k_Wy_measure 0 [(0, (2, 50)), (1, (2, v1)), (2, (0, v2)), (3, (0, v3))] [] μ (am_res 2 q)
  refine rn_sls 2 (pc' := 2) (ls' := [(0, (2, 50)), (1, (2, v1)), (2, (0, v2)), (3, (0, v3))]) (st' := [(0, 0), (2, 50)]) rfl ?_
  refine rn_put rfl rfl rfl rfl (Or.inl ⟨rfl, rfl⟩) rfl h (fun μ1 h => ?_)
  refine rn_sls 2 (pc' := 7) (ls' := [(0, (2, 50)), (1, (2, v1)), (2, (0, v2)), (3, (0, v3))]) (st' := [(0, 0), (2, 50)]) rfl ?_
  refine rn_put rfl rfl rfl rfl (Or.inl ⟨rfl, rfl⟩) rfl h (fun μ2 h => ?_)
  refine rn_sls 4 (pc' := 15) (ls' := [(4, (0, 0)), (0, (2, 50)), (1, (2, v1)), (2, (0, v2)), (3, (0, v3))]) (st' := [(0, v2), (2, v1)]) rfl ?_
  refine rn_gd h (fun ho3 h => ?_)
  refine rn_call 0 0 [(2, v1), (0, v2)] (r := []) rfl ⟨rfl, Or.inl ⟨_, rfl, by decide⟩⟩ (by decide) (fun _ => ⟨_, rfl, ho3⟩) rfl rfl (Nat.le_of_ble_eq_true rfl) h (fun w hw => t_Bi_lineBehind (d + 2) _ _ _ _ hw) (fun a4 μ5 h => ?_)
  refine rn_sls 0 (pc' := 18) (ls' := [(4, (0, 0)), (0, (2, 50)), (1, (2, v1)), (2, (0, v2)), (3, (0, v3))]) (st' := [(0, a4)]) rfl ?_
  refine rn_sls 2 (pc' := 21) (ls' := [(5, (0, a4)), (4, (0, 0)), (0, (2, 50)), (1, (2, v1)), (2, (0, v2)), (3, (0, v3))]) (st' := [(2, v1)]) rfl ?_
  refine rn_get ho3 rfl rfl rfl ?_
  refine rn_sls 0 (pc' := 24) (ls' := [(5, (0, a4)), (4, (0, 0)), (0, (2, 50)), (1, (2, v1)), (2, (0, v2)), (3, (0, v3))]) (st' := [(2, (v1 + 15))]) rfl ?_
  refine rn_sls 1 (pc' := 25) (ls' := [(5, (0, a4)), (4, (0, 0)), (0, (2, 50)), (1, (2, v1)), (2, (0, v2)), (3, (0, v3))]) (st' := [(0, v2), (2, (v1 + 15))]) rfl ?_
  refine rn_call 3 0 [(2, (v1 + 15)), (0, v2)] (r := []) rfl ⟨rfl, Or.inr ⟨_, rfl, by decide⟩⟩ (by decide) (fun z => absurd z (by decide)) rfl rfl (Nat.le_of_ble_eq_true rfl) h (fun w hw => t_X_at (d + 3) _ _ _ _ hw) (fun a6 μ7 h => ?_)
  refine rn_sls 0 (pc' := 28) (ls' := [(5, (0, a4)), (4, (0, 0)), (0, (2, 50)), (1, (2, v1)), (2, (0, v2)), (3, (0, v3))]) (st' := [(0, a6)]) rfl ?_
  refine rn_sls 1 (pc' := 30) (ls' := [(6, (0, a6)), (5, (0, a4)), (4, (0, 0)), (0, (2, 50)), (1, (2, v1)), (2, (0, v2)), (3, (0, v3))]) (st' := []) rfl ?_
  exact rn_sub [3, 4, 6, 2, 1, 0] rfl (t_Wy_measure_L30 d  am_FU _ _ _ _ _ _ _ h)
set_option maxRecDepth 20000 in
theorem t_Wy_clearLacks_L2_b (d : Nat) (k2 : Int → am_M → am_O) (hk2 : ∀ (v1 : Int) (μ : am_M) q, k2 v1 μ = some q → am_run none (am_ar g_mt (d + 1)) 2 none k_Wy_clearLacks 2 [(0, (2, 50)), (1, (0, v1))] [] μ (am_res 2 q)) : ∀ (v1 : Int) (μ : am_M) q, Wy_clearLacks_L2_b k2 v1 μ = some q → am_run none (am_ar g_mt (d + 1)) 2 none k_Wy_clearLacks 2 [(0, (2, 50)), (1, (0, v1))] [] μ (am_res 2 q) := by
  intro v1 μ q h
  unfold Wy_clearLacks_L2_b at h
  refine rn_sls 4 (pc' := 8) (ls' := [(0, (2, 50)), (1, (0, v1))]) (st' := [(0, 10), (0, v1)]) rfl ?_
  refine rn_icmpn (t := 26) rfl rfl rfl rfl h (fun h => ?_) (fun h => ?_)
  · refine rn_sls 4 (pc' := 17) (ls' := [(0, (2, 50)), (1, (0, v1))]) (st' := [(0, 0), (0, v1), (2, 55)]) rfl ?_
    refine rn_call 3 2 [(2, 55), (0, v1), (0, 0)] (r := []) rfl ⟨rfl, Or.inr ⟨_, rfl, by decide⟩⟩ (by decide) (fun z => absurd z (by decide)) rfl rfl (Nat.le_of_ble_eq_true rfl) h (fun w hw => t_X_put (d + 0) _ _ _ _ _ hw) (fun a1 μ2 h => ?_)
    refine rn_sls 0 (pc' := 20) (ls' := [(0, (2, 50)), (1, (0, v1))]) (st' := []) rfl ?_
    refine rn_sls 1 (pc' := 23) (ls' := [(1, (0, (w32 (v1 + 1)))), (0, (2, 50))]) (st' := []) rfl ?_
    refine rn_goto (t := 2) rfl rfl rfl ?_
    exact rn_sub [1, 0] rfl (hk2 _ _ _ h)
  · exact rn_ret (v := 0) rfl rfl rfl h rfl
set_option maxRecDepth 20000 in
theorem t_Wy_clearLacks_L2 (d : Nat) : ∀ (n : Nat) (v1 : Int) (μ : am_M) q, Wy_clearLacks_L2 n v1 μ = some q → am_run none (am_ar g_mt (d + 1)) 2 none k_Wy_clearLacks 2 [(0, (2, 50)), (1, (0, v1))] [] μ (am_res 2 q) := by
  intro n
  induction n with
  | zero => intro v1 μ q h; cases h
  | succ n ih => intro v1 μ q h; exact t_Wy_clearLacks_L2_b d (Wy_clearLacks_L2 n) ih v1 μ q h
set_option maxRecDepth 20000 in
theorem t_Wy_clearLacks (d : Nat) : ∀  (μ : am_M) q, Wy_clearLacks  μ = some q → am_ar g_mt (d + 2) 109 [(2, 50)] μ (am_res 2 q) := by
  intro  μ q h
  unfold Wy_clearLacks at h
  refine am_ar_of (d := d + 1) i_Wy_clearLacks rfl rfl (Nat.le_of_ble_eq_true rfl) ?_
  show am_run none (am_ar g_mt (d + 1)) 2 none k_Wy_clearLacks 0 [(0, (2, 50))] [] μ (am_res 2 q)
  refine rn_sls 2 (pc' := 2) (ls' := [(1, (0, 0)), (0, (2, 50))]) (st' := []) rfl ?_
  exact rn_sub [1, 0] rfl (t_Wy_clearLacks_L2 d  am_FU _ _ _ h)
set_option maxRecDepth 20000 in
theorem t_Wy_addLack (d : Nat) : ∀ (v1 : Int) (v2 : Int) (μ : am_M) q, Wy_addLack v1 v2 μ = some q → am_ar g_mt (d + 2) 112 [(2, 50), (0, v1), (0, v2)] μ (am_res 2 q) := by
  intro v1 v2 μ q h
  unfold Wy_addLack at h
  refine am_ar_of (d := d + 1) i_Wy_addLack rfl rfl (Nat.le_of_ble_eq_true rfl) ?_
  show am_run none (am_ar g_mt (d + 1)) 3 none k_Wy_addLack 0 [(0, (2, 50)), (1, (0, v1)), (2, (0, v2))] [] μ (am_res 2 q)
  refine rn_sls 6 (pc' := 10) (ls' := [(0, (2, 50)), (1, (0, v1)), (2, (0, v2))]) (st' := [(0, v1), (2, 55), (0, v1), (2, 55)]) rfl ?_
  refine rn_call 3 0 [(2, 55), (0, v1)] (r := [(0, v1), (2, 55)]) rfl ⟨rfl, Or.inr ⟨_, rfl, by decide⟩⟩ (by decide) (fun z => absurd z (by decide)) rfl rfl (Nat.le_of_ble_eq_true rfl) h (fun w hw => t_X_at (d + 0) _ _ _ _ hw) (fun a1 μ2 h => ?_)
  refine rn_sls 0 (pc' := 13) (ls' := [(0, (2, 50)), (1, (0, v1)), (2, (0, v2))]) (st' := [(0, a1), (0, v1), (2, 55)]) rfl ?_
  refine rn_sls 2 (pc' := 15) (ls' := [(0, (2, 50)), (1, (0, v1)), (2, (0, v2))]) (st' := [(0, (w32 (a1 + v2))), (0, v1), (2, 55)]) rfl ?_
  refine rn_call 3 2 [(2, 55), (0, v1), (0, (w32 (a1 + v2)))] (r := []) rfl ⟨rfl, Or.inr ⟨_, rfl, by decide⟩⟩ (by decide) (fun z => absurd z (by decide)) rfl rfl (Nat.le_of_ble_eq_true rfl) h (fun w hw => t_X_put (d + 0) _ _ _ _ _ hw) (fun a3 μ4 h => ?_)
  refine rn_sls 0 (pc' := 18) (ls' := [(0, (2, 50)), (1, (0, v1)), (2, (0, v2))]) (st' := []) rfl ?_
  exact rn_ret (v := 0) rfl rfl rfl h rfl
set_option maxRecDepth 20000 in
theorem t_Wy_weigh_B48 (d : Nat) (k20 : Int → Int → Int → Int → Int → am_M → am_O) (hk20 : ∀ (v1 : Int) (v2 : Int) (v3 : Int) (v4 : Int) (v5 : Int) (μ : am_M) q, k20 v1 v2 v3 v4 v5 μ = some q → am_run none (am_ar g_mt (d + 2)) 6 none k_Wy_weigh 20 [(0, (2, 50)), (1, (2, v1)), (2, (0, v2)), (3, (0, v3)), (4, (0, v4)), (5, (0, v5))] [] μ (am_res 2 q)) : ∀ (v1 : Int) (v2 : Int) (v3 : Int) (v4 : Int) (v5 : Int) (μ : am_M) q, Wy_weigh_B48 k20 v1 v2 v3 v4 v5 μ = some q → am_run none (am_ar g_mt (d + 2)) 6 none k_Wy_weigh 48 [(0, (2, 50)), (1, (2, v1)), (2, (0, v2)), (3, (0, v3)), (4, (0, v4)), (5, (0, v5))] [] μ (am_res 2 q) := by
  intro v1 v2 v3 v4 v5 μ q h
  unfold Wy_weigh_B48 at h
  refine rn_sls 1 (pc' := 51) (ls' := [(5, (0, (w32 (v5 + 1)))), (0, (2, 50)), (1, (2, v1)), (2, (0, v2)), (3, (0, v3)), (4, (0, v4))]) (st' := []) rfl ?_
  refine rn_goto (t := 20) rfl rfl rfl ?_
  exact rn_sub [1, 2, 3, 4, 5, 0] rfl (hk20 _ _ _ _ _ _ _ h)
set_option maxRecDepth 20000 in
theorem t_Wy_weigh_L20_b (d : Nat) (k20 : Int → Int → Int → Int → Int → am_M → am_O) (hk20 : ∀ (v1 : Int) (v2 : Int) (v3 : Int) (v4 : Int) (v5 : Int) (μ : am_M) q, k20 v1 v2 v3 v4 v5 μ = some q → am_run none (am_ar g_mt (d + 2)) 6 none k_Wy_weigh 20 [(0, (2, 50)), (1, (2, v1)), (2, (0, v2)), (3, (0, v3)), (4, (0, v4)), (5, (0, v5))] [] μ (am_res 2 q)) : ∀ (v1 : Int) (v2 : Int) (v3 : Int) (v4 : Int) (v5 : Int) (μ : am_M) q, Wy_weigh_L20_b k20 v1 v2 v3 v4 v5 μ = some q → am_run none (am_ar g_mt (d + 2)) 6 none k_Wy_weigh 20 [(0, (2, 50)), (1, (2, v1)), (2, (0, v2)), (3, (0, v3)), (4, (0, v4)), (5, (0, v5))] [] μ (am_res 2 q) := by
  intro v1 v2 v3 v4 v5 μ q h
  unfold Wy_weigh_L20_b at h
  refine rn_sls 2 (pc' := 24) (ls' := [(0, (2, 50)), (1, (2, v1)), (2, (0, v2)), (3, (0, v3)), (4, (0, v4)), (5, (0, v5))]) (st' := [(0, v4), (0, v5)]) rfl ?_
  refine rn_icmpn (t := 54) rfl rfl rfl rfl h (fun h => ?_) (fun h => ?_)
  · refine rn_sls 2 (pc' := 30) (ls' := [(0, (2, 50)), (1, (2, v1)), (2, (0, v2)), (3, (0, v3)), (4, (0, v4)), (5, (0, v5))]) (st' := [(0, v5), (2, v1)]) rfl ?_
    refine rn_gd h (fun ho10 h => ?_)
    refine rn_call 0 0 [(2, v1), (0, v5)] (r := []) rfl ⟨rfl, Or.inl ⟨_, rfl, by decide⟩⟩ (by decide) (fun _ => ⟨_, rfl, ho10⟩) rfl rfl (Nat.le_of_ble_eq_true rfl) h (fun w hw => t_Ln_codeKind (d + 0) _ _ _ _ hw) (fun a11 μ12 h => ?_)
    refine rn_sls 0 (pc' := 33) (ls' := [(0, (2, 50)), (1, (2, v1)), (2, (0, v2)), (3, (0, v3)), (4, (0, v4)), (5, (0, v5))]) (st' := [(0, a11)]) rfl ?_
    refine rn_sls 1 (pc' := 34) (ls' := [(0, (2, 50)), (1, (2, v1)), (2, (0, v2)), (3, (0, v3)), (4, (0, v4)), (5, (0, v5))]) (st' := [(0, 2), (0, a11)]) rfl ?_
    refine rn_icmpn (t := 48) rfl rfl rfl rfl h (fun h => ?_) (fun h => ?_)
    · refine rn_sls 3 (pc' := 41) (ls' := [(0, (2, 50)), (1, (2, v1)), (2, (0, v2)), (3, (0, v3)), (4, (0, v4)), (5, (0, v5))]) (st' := [(0, v5), (2, v1), (2, 50)]) rfl ?_
      refine rn_call 0 0 [(2, v1), (0, v5)] (r := [(2, 50)]) rfl ⟨rfl, Or.inl ⟨_, rfl, by decide⟩⟩ (by decide) (fun _ => ⟨_, rfl, ho10⟩) rfl rfl (Nat.le_of_ble_eq_true rfl) h (fun w hw => t_Ln_codeNumber (d + 0) _ _ _ _ hw) (fun a13 μ14 h => ?_)
      refine rn_sls 0 (pc' := 44) (ls' := [(0, (2, 50)), (1, (2, v1)), (2, (0, v2)), (3, (0, v3)), (4, (0, v4)), (5, (0, v5))]) (st' := [(0, a13), (2, 50)]) rfl ?_
      refine rn_sls 1 (pc' := 45) (ls' := [(0, (2, 50)), (1, (2, v1)), (2, (0, v2)), (3, (0, v3)), (4, (0, v4)), (5, (0, v5))]) (st' := [(0, v3), (0, a13), (2, 50)]) rfl ?_
      refine rn_call 0 2 [(2, 50), (0, a13), (0, v3)] (r := []) rfl ⟨rfl, Or.inl ⟨_, rfl, by decide⟩⟩ (by decide) (fun _ => ⟨_, rfl, rfl⟩) rfl rfl (Nat.le_of_ble_eq_true rfl) h (fun w hw => t_Wy_addLack (d + 0) _ _ _ _ hw) (fun a15 μ16 h => ?_)
      refine rn_sls 0 (pc' := 48) (ls' := [(0, (2, 50)), (1, (2, v1)), (2, (0, v2)), (3, (0, v3)), (4, (0, v4)), (5, (0, v5))]) (st' := []) rfl ?_
      exact rn_sub [0, 1, 2, 3, 4, 5] rfl (t_Wy_weigh_B48 d k20 hk20 _ _ _ _ _ _ _ h)
    · exact rn_sub [0, 1, 2, 3, 4, 5] rfl (t_Wy_weigh_B48 d k20 hk20 _ _ _ _ _ _ _ h)
  · refine rn_sls 2 (pc' := 56) (ls' := [(0, (2, 50)), (1, (2, v1)), (2, (0, v2)), (3, (0, v3)), (4, (0, v4)), (5, (0, v5))]) (st' := [(2, v1), (2, 50)]) rfl ?_
    refine rn_gd h (fun ho1 h => ?_)
    refine rn_get ho1 rfl rfl rfl ?_
    refine rn_sls 0 (pc' := 59) (ls' := [(0, (2, 50)), (1, (2, v1)), (2, (0, v2)), (3, (0, v3)), (4, (0, v4)), (5, (0, v5))]) (st' := [(2, (v1 + 2)), (2, 50)]) rfl ?_
    refine rn_sls 1 (pc' := 60) (ls' := [(0, (2, 50)), (1, (2, v1)), (2, (0, v2)), (3, (0, v3)), (4, (0, v4)), (5, (0, v5))]) (st' := [(0, v2), (2, (v1 + 2)), (2, 50)]) rfl ?_
    refine rn_call 3 0 [(2, (v1 + 2)), (0, v2)] (r := [(2, 50)]) rfl ⟨rfl, Or.inr ⟨_, rfl, by decide⟩⟩ (by decide) (fun z => absurd z (by decide)) rfl rfl (Nat.le_of_ble_eq_true rfl) h (fun w hw => t_X_at (d + 1) _ _ _ _ hw) (fun a2 μ3 h => ?_)
    refine rn_sls 0 (pc' := 63) (ls' := [(0, (2, 50)), (1, (2, v1)), (2, (0, v2)), (3, (0, v3)), (4, (0, v4)), (5, (0, v5))]) (st' := [(0, a2), (2, 50)]) rfl ?_
    refine rn_sls 2 (pc' := 65) (ls' := [(0, (2, 50)), (1, (2, v1)), (2, (0, v2)), (3, (0, v3)), (4, (0, v4)), (5, (0, v5))]) (st' := [(0, (w32 (-v3))), (0, a2), (2, 50)]) rfl ?_
    refine rn_call 0 2 [(2, 50), (0, a2), (0, (w32 (-v3)))] (r := []) rfl ⟨rfl, Or.inl ⟨_, rfl, by decide⟩⟩ (by decide) (fun _ => ⟨_, rfl, rfl⟩) rfl rfl (Nat.le_of_ble_eq_true rfl) h (fun w hw => t_Wy_addLack (d + 0) _ _ _ _ hw) (fun a4 μ5 h => ?_)
    refine rn_sls 0 (pc' := 68) (ls' := [(0, (2, 50)), (1, (2, v1)), (2, (0, v2)), (3, (0, v3)), (4, (0, v4)), (5, (0, v5))]) (st' := []) rfl ?_
    refine rn_sls 2 (pc' := 70) (ls' := [(0, (2, 50)), (1, (2, v1)), (2, (0, v2)), (3, (0, v3)), (4, (0, v4)), (5, (0, v5))]) (st' := [(2, v1), (2, 50)]) rfl ?_
    refine rn_get ho1 rfl rfl rfl ?_
    refine rn_sls 0 (pc' := 73) (ls' := [(0, (2, 50)), (1, (2, v1)), (2, (0, v2)), (3, (0, v3)), (4, (0, v4)), (5, (0, v5))]) (st' := [(2, (v1 + 3)), (2, 50)]) rfl ?_
    refine rn_sls 1 (pc' := 74) (ls' := [(0, (2, 50)), (1, (2, v1)), (2, (0, v2)), (3, (0, v3)), (4, (0, v4)), (5, (0, v5))]) (st' := [(0, v2), (2, (v1 + 3)), (2, 50)]) rfl ?_
    refine rn_call 3 0 [(2, (v1 + 3)), (0, v2)] (r := [(2, 50)]) rfl ⟨rfl, Or.inr ⟨_, rfl, by decide⟩⟩ (by decide) (fun z => absurd z (by decide)) rfl rfl (Nat.le_of_ble_eq_true rfl) h (fun w hw => t_X_at (d + 1) _ _ _ _ hw) (fun a6 μ7 h => ?_)
    refine rn_sls 0 (pc' := 77) (ls' := [(0, (2, 50)), (1, (2, v1)), (2, (0, v2)), (3, (0, v3)), (4, (0, v4)), (5, (0, v5))]) (st' := [(0, a6), (2, 50)]) rfl ?_
    refine rn_sls 2 (pc' := 79) (ls' := [(0, (2, 50)), (1, (2, v1)), (2, (0, v2)), (3, (0, v3)), (4, (0, v4)), (5, (0, v5))]) (st' := [(0, (w32 (-v3))), (0, a6), (2, 50)]) rfl ?_
    refine rn_call 0 2 [(2, 50), (0, a6), (0, (w32 (-v3)))] (r := []) rfl ⟨rfl, Or.inl ⟨_, rfl, by decide⟩⟩ (by decide) (fun _ => ⟨_, rfl, rfl⟩) rfl rfl (Nat.le_of_ble_eq_true rfl) h (fun w hw => t_Wy_addLack (d + 0) _ _ _ _ hw) (fun a8 μ9 h => ?_)
    refine rn_sls 0 (pc' := 82) (ls' := [(0, (2, 50)), (1, (2, v1)), (2, (0, v2)), (3, (0, v3)), (4, (0, v4)), (5, (0, v5))]) (st' := []) rfl ?_
    exact rn_ret (v := 0) rfl rfl rfl h rfl
set_option maxRecDepth 20000 in
theorem t_Wy_weigh_L20 (d : Nat) : ∀ (n : Nat) (v1 : Int) (v2 : Int) (v3 : Int) (v4 : Int) (v5 : Int) (μ : am_M) q, Wy_weigh_L20 n v1 v2 v3 v4 v5 μ = some q → am_run none (am_ar g_mt (d + 2)) 6 none k_Wy_weigh 20 [(0, (2, 50)), (1, (2, v1)), (2, (0, v2)), (3, (0, v3)), (4, (0, v4)), (5, (0, v5))] [] μ (am_res 2 q) := by
  intro n
  induction n with
  | zero => intro v1 v2 v3 v4 v5 μ q h; cases h
  | succ n ih => intro v1 v2 v3 v4 v5 μ q h; exact t_Wy_weigh_L20_b d (Wy_weigh_L20 n) ih v1 v2 v3 v4 v5 μ q h
set_option maxRecDepth 20000 in
theorem t_Wy_weigh (d : Nat) : ∀ (v1 : Int) (v2 : Int) (v3 : Int) (μ : am_M) q, Wy_weigh v1 v2 v3 μ = some q → am_ar g_mt (d + 3) 111 [(2, 50), (2, v1), (0, v2), (0, v3)] μ (am_res 2 q) := by
  intro v1 v2 v3 μ q h
  unfold Wy_weigh at h
  refine am_ar_of (d := d + 2) i_Wy_weigh rfl rfl (Nat.le_of_ble_eq_true rfl) ?_
  show am_run none (am_ar g_mt (d + 2)) 6 none k_Wy_weigh 0 [(0, (2, 50)), (1, (2, v1)), (2, (0, v2)), (3, (0, v3))] [] μ (am_res 2 q)
  refine rn_sls 1 (pc' := 1) (ls' := [(0, (2, 50)), (1, (2, v1)), (2, (0, v2)), (3, (0, v3))]) (st' := [(2, v1)]) rfl ?_
  refine rn_gd h (fun ho1 h => ?_)
  refine rn_get ho1 rfl rfl rfl ?_
  refine rn_sls 0 (pc' := 4) (ls' := [(0, (2, 50)), (1, (2, v1)), (2, (0, v2)), (3, (0, v3))]) (st' := [(2, (v1 + 9))]) rfl ?_
  refine rn_sls 1 (pc' := 5) (ls' := [(0, (2, 50)), (1, (2, v1)), (2, (0, v2)), (3, (0, v3))]) (st' := [(0, v2), (2, (v1 + 9))]) rfl ?_
  refine rn_call 3 0 [(2, (v1 + 9)), (0, v2)] (r := []) rfl ⟨rfl, Or.inr ⟨_, rfl, by decide⟩⟩ (by decide) (fun z => absurd z (by decide)) rfl rfl (Nat.le_of_ble_eq_true rfl) h (fun w hw => t_X_at (d + 1) _ _ _ _ hw) (fun a2 μ3 h => ?_)
  refine rn_sls 0 (pc' := 8) (ls' := [(0, (2, 50)), (1, (2, v1)), (2, (0, v2)), (3, (0, v3))]) (st' := [(0, a2)]) rfl ?_
  refine rn_sls 2 (pc' := 11) (ls' := [(4, (0, a2)), (0, (2, 50)), (1, (2, v1)), (2, (0, v2)), (3, (0, v3))]) (st' := [(2, v1)]) rfl ?_
  refine rn_get ho1 rfl rfl rfl ?_
  refine rn_sls 0 (pc' := 14) (ls' := [(4, (0, a2)), (0, (2, 50)), (1, (2, v1)), (2, (0, v2)), (3, (0, v3))]) (st' := [(2, (v1 + 8))]) rfl ?_
  refine rn_sls 1 (pc' := 15) (ls' := [(4, (0, a2)), (0, (2, 50)), (1, (2, v1)), (2, (0, v2)), (3, (0, v3))]) (st' := [(0, v2), (2, (v1 + 8))]) rfl ?_
  refine rn_call 3 0 [(2, (v1 + 8)), (0, v2)] (r := []) rfl ⟨rfl, Or.inr ⟨_, rfl, by decide⟩⟩ (by decide) (fun z => absurd z (by decide)) rfl rfl (Nat.le_of_ble_eq_true rfl) h (fun w hw => t_X_at (d + 1) _ _ _ _ hw) (fun a4 μ5 h => ?_)
  refine rn_sls 0 (pc' := 18) (ls' := [(4, (0, a2)), (0, (2, 50)), (1, (2, v1)), (2, (0, v2)), (3, (0, v3))]) (st' := [(0, a4)]) rfl ?_
  refine rn_sls 1 (pc' := 20) (ls' := [(5, (0, a4)), (4, (0, a2)), (0, (2, 50)), (1, (2, v1)), (2, (0, v2)), (3, (0, v3))]) (st' := []) rfl ?_
  exact rn_sub [2, 3, 4, 5, 1, 0] rfl (t_Wy_weigh_L20 d  am_FU _ _ _ _ _ _ _ h)
set_option maxRecDepth 20000 in
theorem t_Wy_isAlike_B131 (d : Nat) (k34 : Int → Int → Int → Int → Int → Int → am_M → am_O) (hk34 : ∀ (v1 : Int) (v3 : Int) (v4 : Int) (v5 : Int) (v6 : Int) (v7 : Int) (μ : am_M) q, k34 v1 v3 v4 v5 v6 v7 μ = some q → am_run none (am_ar g_mt (d + 3)) 9 (some .boolean) k_Wy_isAlike 34 [(0, (2, 50)), (1, (2, v1)), (3, (0, v3)), (4, (0, v4)), (5, (0, v5)), (6, (0, v6)), (7, (0, v7))] [] μ (am_res 0 q)) : ∀ (v1 : Int) (v3 : Int) (v4 : Int) (v5 : Int) (v7 : Int) (s0 : Int) (μ : am_M) q, Wy_isAlike_B131 k34 v1 v3 v4 v5 v7 s0 μ = some q → am_run none (am_ar g_mt (d + 3)) 9 (some .boolean) k_Wy_isAlike 131 [(0, (2, 50)), (1, (2, v1)), (3, (0, v3)), (4, (0, v4)), (5, (0, v5)), (7, (0, v7))] [(0, s0)] μ (am_res 0 q) := by
  intro v1 v3 v4 v5 v7 s0 μ q h
  unfold Wy_isAlike_B131 at h
  refine rn_sls 2 (pc' := 136) (ls' := [(7, (0, (w32 (v7 + 1)))), (6, (0, s0)), (0, (2, 50)), (1, (2, v1)), (3, (0, v3)), (4, (0, v4)), (5, (0, v5))]) (st' := []) rfl ?_
  refine rn_goto (t := 34) rfl rfl rfl ?_
  exact rn_sub [2, 3, 4, 5, 6, 1, 0] rfl (hk34 _ _ _ _ _ _ _ _ h)
set_option maxRecDepth 20000 in
theorem t_Wy_isAlike_B127 (d : Nat) (k34 : Int → Int → Int → Int → Int → Int → am_M → am_O) (hk34 : ∀ (v1 : Int) (v3 : Int) (v4 : Int) (v5 : Int) (v6 : Int) (v7 : Int) (μ : am_M) q, k34 v1 v3 v4 v5 v6 v7 μ = some q → am_run none (am_ar g_mt (d + 3)) 9 (some .boolean) k_Wy_isAlike 34 [(0, (2, 50)), (1, (2, v1)), (3, (0, v3)), (4, (0, v4)), (5, (0, v5)), (6, (0, v6)), (7, (0, v7))] [] μ (am_res 0 q)) : ∀ (v1 : Int) (v3 : Int) (v4 : Int) (v5 : Int) (v6 : Int) (v7 : Int) (μ : am_M) q, Wy_isAlike_B127 k34 v1 v3 v4 v5 v6 v7 μ = some q → am_run none (am_ar g_mt (d + 3)) 9 (some .boolean) k_Wy_isAlike 127 [(0, (2, 50)), (1, (2, v1)), (3, (0, v3)), (4, (0, v4)), (5, (0, v5)), (6, (0, v6)), (7, (0, v7))] [] μ (am_res 0 q) := by
  intro v1 v3 v4 v5 v6 v7 μ q h
  unfold Wy_isAlike_B127 at h
  refine rn_sls 3 (pc' := 131) (ls' := [(0, (2, 50)), (1, (2, v1)), (3, (0, v3)), (4, (0, v4)), (5, (0, v5)), (6, (0, v6)), (7, (0, v7))]) (st' := [(0, (w32 (v6 + 1)))]) rfl ?_
  exact rn_sub [0, 1, 2, 3, 4, 6] rfl (t_Wy_isAlike_B131 d k34 hk34 _ _ _ _ _ _ _ _ h)
set_option maxRecDepth 20000 in
theorem t_Wy_isAlike_B100 (d : Nat) (k34 : Int → Int → Int → Int → Int → Int → am_M → am_O) (hk34 : ∀ (v1 : Int) (v3 : Int) (v4 : Int) (v5 : Int) (v6 : Int) (v7 : Int) (μ : am_M) q, k34 v1 v3 v4 v5 v6 v7 μ = some q → am_run none (am_ar g_mt (d + 3)) 9 (some .boolean) k_Wy_isAlike 34 [(0, (2, 50)), (1, (2, v1)), (3, (0, v3)), (4, (0, v4)), (5, (0, v5)), (6, (0, v6)), (7, (0, v7))] [] μ (am_res 0 q)) : ∀ (v1 : Int) (v3 : Int) (v4 : Int) (v6 : Int) (v7 : Int) (v8 : Int) (s0 : Int) (μ : am_M) q, Wy_isAlike_B100 k34 v1 v3 v4 v6 v7 v8 s0 μ = some q → am_run none (am_ar g_mt (d + 3)) 9 (some .boolean) k_Wy_isAlike 100 [(0, (2, 50)), (1, (2, v1)), (3, (0, v3)), (4, (0, v4)), (6, (0, v6)), (7, (0, v7)), (8, (0, v8))] [(0, s0)] μ (am_res 0 q) := by
  intro v1 v3 v4 v6 v7 v8 s0 μ q h
  unfold Wy_isAlike_B100 at h
  refine rn_sls 3 (pc' := 106) (ls' := [(5, (0, s0)), (0, (2, 50)), (1, (2, v1)), (3, (0, v3)), (4, (0, v4)), (6, (0, v6)), (7, (0, v7)), (8, (0, v8))]) (st' := [(0, 6), (0, v8)]) rfl ?_
  refine rn_icmpn (t := 127) rfl rfl rfl rfl h (fun h => ?_) (fun h => ?_)
  · refine rn_sls 2 (pc' := 112) (ls' := [(5, (0, s0)), (0, (2, 50)), (1, (2, v1)), (3, (0, v3)), (4, (0, v4)), (6, (0, v6)), (7, (0, v7)), (8, (0, v8))]) (st' := [(0, v3), (0, v6)]) rfl ?_
    refine rn_icmp (t := 127) rfl rfl rfl rfl h (fun h => ?_) (fun h => ?_)
    · exact rn_sub [1, 2, 3, 4, 0, 5, 6] rfl (t_Wy_isAlike_B127 d k34 hk34 _ _ _ _ _ _ _ _ h)
    · refine rn_sls 1 (pc' := 116) (ls' := [(5, (0, s0)), (0, (2, 50)), (1, (2, v1)), (3, (0, v3)), (4, (0, v4)), (6, (0, v6)), (7, (0, v7)), (8, (0, v8))]) (st' := [(2, v1)]) rfl ?_
      refine rn_gd h (fun ho1 h => ?_)
      refine rn_get ho1 rfl rfl rfl ?_
      refine rn_sls 0 (pc' := 119) (ls' := [(5, (0, s0)), (0, (2, 50)), (1, (2, v1)), (3, (0, v3)), (4, (0, v4)), (6, (0, v6)), (7, (0, v7)), (8, (0, v8))]) (st' := [(2, (v1 + 6))]) rfl ?_
      refine rn_sls 1 (pc' := 121) (ls' := [(5, (0, s0)), (0, (2, 50)), (1, (2, v1)), (3, (0, v3)), (4, (0, v4)), (6, (0, v6)), (7, (0, v7)), (8, (0, v8))]) (st' := [(0, v6), (2, (v1 + 6))]) rfl ?_
      refine rn_call 3 0 [(2, (v1 + 6)), (0, v6)] (r := []) rfl ⟨rfl, Or.inr ⟨_, rfl, by decide⟩⟩ (by decide) (fun z => absurd z (by decide)) rfl rfl (Nat.le_of_ble_eq_true rfl) h (fun w hw => t_X_at (d + 2) _ _ _ _ hw) (fun a2 μ3 h => ?_)
      refine rn_sls 0 (pc' := 124) (ls' := [(5, (0, s0)), (0, (2, 50)), (1, (2, v1)), (3, (0, v3)), (4, (0, v4)), (6, (0, v6)), (7, (0, v7)), (8, (0, v8))]) (st' := [(0, a2)]) rfl ?_
      refine rn_goto (t := 131) rfl rfl rfl ?_
      exact rn_sub [1, 2, 3, 4, 0, 6] rfl (t_Wy_isAlike_B131 d k34 hk34 _ _ _ _ _ _ _ _ h)
  · exact rn_sub [1, 2, 3, 4, 0, 5, 6] rfl (t_Wy_isAlike_B127 d k34 hk34 _ _ _ _ _ _ _ _ h)
set_option maxRecDepth 20000 in
theorem t_Wy_isAlike_B79 (d : Nat) (k34 : Int → Int → Int → Int → Int → Int → am_M → am_O) (hk34 : ∀ (v1 : Int) (v3 : Int) (v4 : Int) (v5 : Int) (v6 : Int) (v7 : Int) (μ : am_M) q, k34 v1 v3 v4 v5 v6 v7 μ = some q → am_run none (am_ar g_mt (d + 3)) 9 (some .boolean) k_Wy_isAlike 34 [(0, (2, 50)), (1, (2, v1)), (3, (0, v3)), (4, (0, v4)), (5, (0, v5)), (6, (0, v6)), (7, (0, v7))] [] μ (am_res 0 q)) : ∀ (v1 : Int) (v3 : Int) (v4 : Int) (v5 : Int) (v6 : Int) (v7 : Int) (v8 : Int) (μ : am_M) q, Wy_isAlike_B79 k34 v1 v3 v4 v5 v6 v7 v8 μ = some q → am_run none (am_ar g_mt (d + 3)) 9 (some .boolean) k_Wy_isAlike 79 [(0, (2, 50)), (1, (2, v1)), (3, (0, v3)), (4, (0, v4)), (5, (0, v5)), (6, (0, v6)), (7, (0, v7)), (8, (0, v8))] [] μ (am_res 0 q) := by
  intro v1 v3 v4 v5 v6 v7 v8 μ q h
  unfold Wy_isAlike_B79 at h
  refine rn_sls 4 (pc' := 85) (ls' := [(0, (2, 50)), (1, (2, v1)), (3, (0, v3)), (4, (0, v4)), (5, (0, v5)), (6, (0, v6)), (7, (0, v7)), (8, (0, v8))]) (st' := [(0, v5), (0, v6), (2, v1), (2, 50)]) rfl ?_
  refine rn_call 0 2 [(2, 50), (2, v1), (0, v6), (0, v5)] (r := []) rfl ⟨rfl, Or.inl ⟨_, rfl, by decide⟩⟩ (by decide) (fun _ => ⟨_, rfl, rfl⟩) rfl rfl (Nat.le_of_ble_eq_true rfl) h (fun w hw => t_Wy_weigh (d + 0) _ _ _ _ _ hw) (fun a1 μ2 h => ?_)
  refine rn_sls 0 (pc' := 88) (ls' := [(0, (2, 50)), (1, (2, v1)), (3, (0, v3)), (4, (0, v4)), (5, (0, v5)), (6, (0, v6)), (7, (0, v7)), (8, (0, v8))]) (st' := []) rfl ?_
  refine rn_sls 2 (pc' := 91) (ls' := [(0, (2, 50)), (1, (2, v1)), (3, (0, v3)), (4, (0, v4)), (5, (0, v5)), (6, (0, v6)), (7, (0, v7)), (8, (0, v8))]) (st' := [(0, v3), (0, v6)]) rfl ?_
  refine rn_icmpn (t := 98) rfl rfl rfl rfl h (fun h => ?_) (fun h => ?_)
  · refine rn_sls 1 (pc' := 95) (ls' := [(0, (2, 50)), (1, (2, v1)), (3, (0, v3)), (4, (0, v4)), (5, (0, v5)), (6, (0, v6)), (7, (0, v7)), (8, (0, v8))]) (st' := [(0, (-1))]) rfl ?_
    refine rn_goto (t := 100) rfl rfl rfl ?_
    exact rn_sub [0, 1, 2, 3, 5, 6, 7] rfl (t_Wy_isAlike_B100 d k34 hk34 _ _ _ _ _ _ _ _ _ h)
  · refine rn_sls 1 (pc' := 100) (ls' := [(0, (2, 50)), (1, (2, v1)), (3, (0, v3)), (4, (0, v4)), (5, (0, v5)), (6, (0, v6)), (7, (0, v7)), (8, (0, v8))]) (st' := [(0, v5)]) rfl ?_
    exact rn_sub [0, 1, 2, 3, 5, 6, 7] rfl (t_Wy_isAlike_B100 d k34 hk34 _ _ _ _ _ _ _ _ _ h)
set_option maxRecDepth 20000 in
theorem t_Wy_isAlike_L145_b (d : Nat) (k145 : Int → Int → am_M → am_O) (hk145 : ∀ (v7 : Int) (v8 : Int) (μ : am_M) q, k145 v7 v8 μ = some q → am_run none (am_ar g_mt (d + 3)) 9 (some .boolean) k_Wy_isAlike 145 [(0, (2, 50)), (7, (0, v7)), (8, (0, v8))] [] μ (am_res 0 q)) : ∀ (v7 : Int) (v8 : Int) (μ : am_M) q, Wy_isAlike_L145_b k145 v7 v8 μ = some q → am_run none (am_ar g_mt (d + 3)) 9 (some .boolean) k_Wy_isAlike 145 [(0, (2, 50)), (7, (0, v7)), (8, (0, v8))] [] μ (am_res 0 q) := by
  intro v7 v8 μ q h
  unfold Wy_isAlike_L145_b at h
  refine rn_sls 4 (pc' := 152) (ls' := [(0, (2, 50)), (7, (0, v7)), (8, (0, v8))]) (st' := [(0, 10), (0, v8)]) rfl ?_
  refine rn_icmpn (t := 175) rfl rfl rfl rfl h (fun h => ?_) (fun h => ?_)
  · refine rn_sls 4 (pc' := 163) (ls' := [(0, (2, 50)), (7, (0, v7)), (8, (0, v8))]) (st' := [(0, v8), (2, 55), (0, v7)]) rfl ?_
    refine rn_call 3 0 [(2, 55), (0, v8)] (r := [(0, v7)]) rfl ⟨rfl, Or.inr ⟨_, rfl, by decide⟩⟩ (by decide) (fun z => absurd z (by decide)) rfl rfl (Nat.le_of_ble_eq_true rfl) h (fun w hw => t_X_at (d + 2) _ _ _ _ hw) (fun a1 μ2 h => ?_)
    refine rn_sls 0 (pc' := 166) (ls' := [(0, (2, 50)), (7, (0, v7)), (8, (0, v8))]) (st' := [(0, a1), (0, v7)]) rfl ?_
    refine rn_sls 3 (pc' := 172) (ls' := [(8, (0, (w32 (v8 + 1)))), (7, (0, (aOr v7 a1))), (0, (2, 50))]) (st' := []) rfl ?_
    refine rn_goto (t := 145) rfl rfl rfl ?_
    exact rn_sub [2, 1, 0] rfl (hk145 _ _ _ _ h)
  · refine rn_sls 1 (pc' := 177) (ls' := [(0, (2, 50)), (7, (0, v7)), (8, (0, v8))]) (st' := [(0, v7)]) rfl ?_
    refine rn_ifn (t := 184) rfl rfl rfl rfl h (fun h => ?_) (fun h => ?_)
    · refine rn_sls 1 (pc' := 181) (ls' := [(0, (2, 50)), (7, (0, v7)), (8, (0, v8))]) (st' := [(0, 1)]) rfl ?_
      refine rn_goto (t := 185) rfl rfl rfl ?_
      exact rn_iretb rfl rfl rfl (Or.inr rfl) h rfl
    · refine rn_sls 1 (pc' := 185) (ls' := [(0, (2, 50)), (7, (0, v7)), (8, (0, v8))]) (st' := [(0, 0)]) rfl ?_
      exact rn_iretb rfl rfl rfl (Or.inl rfl) h rfl
set_option maxRecDepth 20000 in
theorem t_Wy_isAlike_L145 (d : Nat) : ∀ (n : Nat) (v7 : Int) (v8 : Int) (μ : am_M) q, Wy_isAlike_L145 n v7 v8 μ = some q → am_run none (am_ar g_mt (d + 3)) 9 (some .boolean) k_Wy_isAlike 145 [(0, (2, 50)), (7, (0, v7)), (8, (0, v8))] [] μ (am_res 0 q) := by
  intro n
  induction n with
  | zero => intro v7 v8 μ q h; cases h
  | succ n ih => intro v7 v8 μ q h; exact t_Wy_isAlike_L145_b d (Wy_isAlike_L145 n) ih v7 v8 μ q h
set_option maxRecDepth 20000 in
theorem t_Wy_isAlike_B139 (d : Nat) : ∀  (μ : am_M) q, Wy_isAlike_B139  μ = some q → am_run none (am_ar g_mt (d + 3)) 9 (some .boolean) k_Wy_isAlike 139 [(0, (2, 50))] [] μ (am_res 0 q) := by
  intro  μ q h
  unfold Wy_isAlike_B139 at h
  refine rn_sls 4 (pc' := 145) (ls' := [(8, (0, 0)), (7, (0, 0)), (0, (2, 50))]) (st' := []) rfl ?_
  exact rn_sub [2, 1, 0] rfl (t_Wy_isAlike_L145 d  am_FU _ _ _ _ h)
set_option maxRecDepth 20000 in
theorem t_Wy_isAlike_L34_b (d : Nat) (k34 : Int → Int → Int → Int → Int → Int → am_M → am_O) (hk34 : ∀ (v1 : Int) (v3 : Int) (v4 : Int) (v5 : Int) (v6 : Int) (v7 : Int) (μ : am_M) q, k34 v1 v3 v4 v5 v6 v7 μ = some q → am_run none (am_ar g_mt (d + 3)) 9 (some .boolean) k_Wy_isAlike 34 [(0, (2, 50)), (1, (2, v1)), (3, (0, v3)), (4, (0, v4)), (5, (0, v5)), (6, (0, v6)), (7, (0, v7))] [] μ (am_res 0 q)) : ∀ (v1 : Int) (v3 : Int) (v4 : Int) (v5 : Int) (v6 : Int) (v7 : Int) (μ : am_M) q, Wy_isAlike_L34_b k34 v1 v3 v4 v5 v6 v7 μ = some q → am_run none (am_ar g_mt (d + 3)) 9 (some .boolean) k_Wy_isAlike 34 [(0, (2, 50)), (1, (2, v1)), (3, (0, v3)), (4, (0, v4)), (5, (0, v5)), (6, (0, v6)), (7, (0, v7))] [] μ (am_res 0 q) := by
  intro v1 v3 v4 v5 v6 v7 μ q h
  unfold Wy_isAlike_L34_b at h
  refine rn_sls 2 (pc' := 38) (ls' := [(0, (2, 50)), (1, (2, v1)), (3, (0, v3)), (4, (0, v4)), (5, (0, v5)), (6, (0, v6)), (7, (0, v7))]) (st' := [(0, 60), (0, v7)]) rfl ?_
  refine rn_icmpn (t := 139) rfl rfl rfl rfl h (fun h => ?_) (fun h => ?_)
  · refine rn_sls 2 (pc' := 45) (ls' := [(0, (2, 50)), (1, (2, v1)), (3, (0, v3)), (4, (0, v4)), (5, (0, v5)), (6, (0, v6)), (7, (0, v7))]) (st' := [(0, v4), (0, v6)]) rfl ?_
    refine rn_icmpn (t := 139) rfl rfl rfl rfl h (fun h => ?_) (fun h => ?_)
    · refine rn_sls 1 (pc' := 49) (ls' := [(0, (2, 50)), (1, (2, v1)), (3, (0, v3)), (4, (0, v4)), (5, (0, v5)), (6, (0, v6)), (7, (0, v7))]) (st' := [(2, v1)]) rfl ?_
      refine rn_gd h (fun ho1 h => ?_)
      refine rn_get ho1 rfl rfl rfl ?_
      refine rn_sls 0 (pc' := 52) (ls' := [(0, (2, 50)), (1, (2, v1)), (3, (0, v3)), (4, (0, v4)), (5, (0, v5)), (6, (0, v6)), (7, (0, v7))]) (st' := [(2, (v1 + 1))]) rfl ?_
      refine rn_sls 1 (pc' := 54) (ls' := [(0, (2, 50)), (1, (2, v1)), (3, (0, v3)), (4, (0, v4)), (5, (0, v5)), (6, (0, v6)), (7, (0, v7))]) (st' := [(0, v6), (2, (v1 + 1))]) rfl ?_
      refine rn_call 3 0 [(2, (v1 + 1)), (0, v6)] (r := []) rfl ⟨rfl, Or.inr ⟨_, rfl, by decide⟩⟩ (by decide) (fun z => absurd z (by decide)) rfl rfl (Nat.le_of_ble_eq_true rfl) h (fun w hw => t_X_at (d + 2) _ _ _ _ hw) (fun a2 μ3 h => ?_)
      refine rn_sls 0 (pc' := 57) (ls' := [(0, (2, 50)), (1, (2, v1)), (3, (0, v3)), (4, (0, v4)), (5, (0, v5)), (6, (0, v6)), (7, (0, v7))]) (st' := [(0, a2)]) rfl ?_
      refine rn_sls 3 (pc' := 62) (ls' := [(8, (0, a2)), (0, (2, 50)), (1, (2, v1)), (3, (0, v3)), (4, (0, v4)), (5, (0, v5)), (6, (0, v6)), (7, (0, v7))]) (st' := [(0, 5), (0, a2)]) rfl ?_
      refine rn_icmpn (t := 79) rfl rfl rfl rfl h (fun h => ?_) (fun h => ?_)
      · refine rn_sls 3 (pc' := 71) (ls' := [(8, (0, a2)), (0, (2, 50)), (1, (2, v1)), (3, (0, v3)), (4, (0, v4)), (5, (0, v5)), (6, (0, v6)), (7, (0, v7))]) (st' := [(0, v6), (2, 57)]) rfl ?_
        refine rn_call 3 0 [(2, 57), (0, v6)] (r := []) rfl ⟨rfl, Or.inr ⟨_, rfl, by decide⟩⟩ (by decide) (fun z => absurd z (by decide)) rfl rfl (Nat.le_of_ble_eq_true rfl) h (fun w hw => t_X_at (d + 2) _ _ _ _ hw) (fun a4 μ5 h => ?_)
        refine rn_sls 0 (pc' := 74) (ls' := [(8, (0, a2)), (0, (2, 50)), (1, (2, v1)), (3, (0, v3)), (4, (0, v4)), (5, (0, v5)), (6, (0, v6)), (7, (0, v7))]) (st' := [(0, a4)]) rfl ?_
        refine rn_ifn (t := 79) rfl rfl rfl rfl h (fun h => ?_) (fun h => ?_)
        · refine rn_sls 1 (pc' := 78) (ls' := [(8, (0, a2)), (0, (2, 50)), (1, (2, v1)), (3, (0, v3)), (4, (0, v4)), (5, (0, v5)), (6, (0, v6)), (7, (0, v7))]) (st' := [(0, 0)]) rfl ?_
          exact rn_iretb rfl rfl rfl (Or.inl rfl) h rfl
        · exact rn_sub [1, 2, 3, 4, 5, 6, 7, 0] rfl (t_Wy_isAlike_B79 d k34 hk34 _ _ _ _ _ _ _ _ _ h)
      · exact rn_sub [1, 2, 3, 4, 5, 6, 7, 0] rfl (t_Wy_isAlike_B79 d k34 hk34 _ _ _ _ _ _ _ _ _ h)
    · exact rn_sub [0] rfl (t_Wy_isAlike_B139 d  _ _ h)
  · exact rn_sub [0] rfl (t_Wy_isAlike_B139 d  _ _ h)
set_option maxRecDepth 20000 in
theorem t_Wy_isAlike_L34 (d : Nat) : ∀ (n : Nat) (v1 : Int) (v3 : Int) (v4 : Int) (v5 : Int) (v6 : Int) (v7 : Int) (μ : am_M) q, Wy_isAlike_L34 n v1 v3 v4 v5 v6 v7 μ = some q → am_run none (am_ar g_mt (d + 3)) 9 (some .boolean) k_Wy_isAlike 34 [(0, (2, 50)), (1, (2, v1)), (3, (0, v3)), (4, (0, v4)), (5, (0, v5)), (6, (0, v6)), (7, (0, v7))] [] μ (am_res 0 q) := by
  intro n
  induction n with
  | zero => intro v1 v3 v4 v5 v6 v7 μ q h; cases h
  | succ n ih => intro v1 v3 v4 v5 v6 v7 μ q h; exact t_Wy_isAlike_L34_b d (Wy_isAlike_L34 n) ih v1 v3 v4 v5 v6 v7 μ q h
set_option maxRecDepth 20000 in
theorem t_Wy_isAlike (d : Nat) : ∀ (v1 : Int) (v2 : Int) (μ : am_M) q, Wy_isAlike v1 v2 μ = some q → am_ar g_mt (d + 4) 110 [(2, 50), (2, v1), (0, v2)] μ (am_res 0 q) := by
  intro v1 v2 μ q h
  unfold Wy_isAlike at h
  refine am_ar_of (d := d + 3) i_Wy_isAlike rfl rfl (Nat.le_of_ble_eq_true rfl) ?_
  show am_run none (am_ar g_mt (d + 3)) 9 (some .boolean) k_Wy_isAlike 0 [(0, (2, 50)), (1, (2, v1)), (2, (0, v2))] [] μ (am_res 0 q)
  refine rn_sls 1 (pc' := 1) (ls' := [(0, (2, 50)), (1, (2, v1)), (2, (0, v2))]) (st' := [(2, 50)]) rfl ?_
  refine rn_call 0 2 [(2, 50)] (r := []) rfl ⟨rfl, Or.inl ⟨_, rfl, by decide⟩⟩ (by decide) (fun _ => ⟨_, rfl, rfl⟩) rfl rfl (Nat.le_of_ble_eq_true rfl) h (fun w hw => t_Wy_clearLacks (d + 1)  _ _ hw) (fun a1 μ2 h => ?_)
  refine rn_sls 0 (pc' := 4) (ls' := [(0, (2, 50)), (1, (2, v1)), (2, (0, v2))]) (st' := []) rfl ?_
  refine rn_sls 1 (pc' := 5) (ls' := [(0, (2, 50)), (1, (2, v1)), (2, (0, v2))]) (st' := [(2, v1)]) rfl ?_
  refine rn_gd h (fun ho3 h => ?_)
  refine rn_get ho3 rfl rfl rfl ?_
  refine rn_sls 0 (pc' := 8) (ls' := [(0, (2, 50)), (1, (2, v1)), (2, (0, v2))]) (st' := [(2, (v1 + 6))]) rfl ?_
  refine rn_sls 1 (pc' := 9) (ls' := [(0, (2, 50)), (1, (2, v1)), (2, (0, v2))]) (st' := [(0, v2), (2, (v1 + 6))]) rfl ?_
  refine rn_call 3 0 [(2, (v1 + 6)), (0, v2)] (r := []) rfl ⟨rfl, Or.inr ⟨_, rfl, by decide⟩⟩ (by decide) (fun z => absurd z (by decide)) rfl rfl (Nat.le_of_ble_eq_true rfl) h (fun w hw => t_X_at (d + 2) _ _ _ _ hw) (fun a4 μ5 h => ?_)
  refine rn_sls 0 (pc' := 12) (ls' := [(0, (2, 50)), (1, (2, v1)), (2, (0, v2))]) (st' := [(0, a4)]) rfl ?_
  refine rn_sls 2 (pc' := 14) (ls' := [(3, (0, a4)), (0, (2, 50)), (1, (2, v1)), (2, (0, v2))]) (st' := [(2, v1)]) rfl ?_
  refine rn_get ho3 rfl rfl rfl ?_
  refine rn_sls 0 (pc' := 17) (ls' := [(3, (0, a4)), (0, (2, 50)), (1, (2, v1)), (2, (0, v2))]) (st' := [(2, (v1 + 6))]) rfl ?_
  refine rn_sls 1 (pc' := 18) (ls' := [(3, (0, a4)), (0, (2, 50)), (1, (2, v1)), (2, (0, v2))]) (st' := [(0, a4), (2, (v1 + 6))]) rfl ?_
  refine rn_call 3 0 [(2, (v1 + 6)), (0, a4)] (r := []) rfl ⟨rfl, Or.inr ⟨_, rfl, by decide⟩⟩ (by decide) (fun z => absurd z (by decide)) rfl rfl (Nat.le_of_ble_eq_true rfl) h (fun w hw => t_X_at (d + 2) _ _ _ _ hw) (fun a6 μ7 h => ?_)
  refine rn_sls 0 (pc' := 21) (ls' := [(3, (0, a4)), (0, (2, 50)), (1, (2, v1)), (2, (0, v2))]) (st' := [(0, a6)]) rfl ?_
  refine rn_sls 9 (pc' := 34) (ls' := [(7, (0, 0)), (6, (0, (w32 (v2 + 1)))), (5, (0, 1)), (4, (0, a6)), (3, (0, a4)), (0, (2, 50)), (1, (2, v1)), (2, (0, v2))]) (st' := []) rfl ?_
  exact rn_sub [5, 6, 4, 3, 2, 1, 0] rfl (t_Wy_isAlike_L34 d  am_FU _ _ _ _ _ _ _ _ h)
set_option maxRecDepth 20000 in
theorem t_Wy_prepare_B101 (d : Nat) (k29 : Int → Int → Int → am_M → am_O) (hk29 : ∀ (v3 : Int) (v4 : Int) (v5 : Int) (μ : am_M) q, k29 v3 v4 v5 μ = some q → am_run none (am_ar g_mt (d + 4)) 6 none k_Wy_prepare 29 [(0, (2, 50)), (3, (2, v3)), (4, (0, v4)), (5, (0, v5))] [] μ (am_res 2 q)) : ∀ (v3 : Int) (v4 : Int) (v5 : Int) (μ : am_M) q, Wy_prepare_B101 k29 v3 v4 v5 μ = some q → am_run none (am_ar g_mt (d + 4)) 6 none k_Wy_prepare 101 [(0, (2, 50)), (3, (2, v3)), (4, (0, v4)), (5, (0, v5))] [] μ (am_res 2 q) := by
  intro v3 v4 v5 μ q h
  unfold Wy_prepare_B101 at h
  refine rn_sls 1 (pc' := 104) (ls' := [(5, (0, (w32 (v5 + (-1))))), (0, (2, 50)), (3, (2, v3)), (4, (0, v4))]) (st' := []) rfl ?_
  refine rn_goto (t := 29) rfl rfl rfl ?_
  exact rn_sub [1, 2, 3, 0] rfl (hk29 _ _ _ _ _ h)
set_option maxRecDepth 20000 in
theorem t_Wy_prepare_B98 (d : Nat) (k29 : Int → Int → Int → am_M → am_O) (hk29 : ∀ (v3 : Int) (v4 : Int) (v5 : Int) (μ : am_M) q, k29 v3 v4 v5 μ = some q → am_run none (am_ar g_mt (d + 4)) 6 none k_Wy_prepare 29 [(0, (2, 50)), (3, (2, v3)), (4, (0, v4)), (5, (0, v5))] [] μ (am_res 2 q)) : ∀ (v3 : Int) (v4 : Int) (v5 : Int) (s1 : Int) (s2 : Int) (μ : am_M) q, Wy_prepare_B98 k29 v3 v4 v5 s1 s2 μ = some q → am_run none (am_ar g_mt (d + 4)) 6 none k_Wy_prepare 98 [(0, (2, 50)), (3, (2, v3)), (4, (0, v4)), (5, (0, v5))] [(0, s2), (0, s1), (2, 57)] μ (am_res 2 q) := by
  intro v3 v4 v5 s1 s2 μ q h
  unfold Wy_prepare_B98 at h
  refine rn_call 3 2 [(2, 57), (0, s1), (0, s2)] (r := []) rfl ⟨rfl, Or.inr ⟨_, rfl, by decide⟩⟩ (by decide) (fun z => absurd z (by decide)) rfl rfl (Nat.le_of_ble_eq_true rfl) h (fun w hw => t_X_put (d + 3) _ _ _ _ _ hw) (fun a1 μ2 h => ?_)
  refine rn_sls 0 (pc' := 101) (ls' := [(0, (2, 50)), (3, (2, v3)), (4, (0, v4)), (5, (0, v5))]) (st' := []) rfl ?_
  exact rn_sub [0, 1, 2, 3] rfl (t_Wy_prepare_B101 d k29 hk29 _ _ _ _ _ h)
set_option maxRecDepth 20000 in
theorem t_Wy_prepare_B64 (d : Nat) (k29 : Int → Int → Int → am_M → am_O) (hk29 : ∀ (v3 : Int) (v4 : Int) (v5 : Int) (μ : am_M) q, k29 v3 v4 v5 μ = some q → am_run none (am_ar g_mt (d + 4)) 6 none k_Wy_prepare 29 [(0, (2, 50)), (3, (2, v3)), (4, (0, v4)), (5, (0, v5))] [] μ (am_res 2 q)) : ∀ (v3 : Int) (v4 : Int) (v5 : Int) (μ : am_M) q, Wy_prepare_B64 k29 v3 v4 v5 μ = some q → am_run none (am_ar g_mt (d + 4)) 6 none k_Wy_prepare 64 [(0, (2, 50)), (3, (2, v3)), (4, (0, v4)), (5, (0, v5))] [] μ (am_res 2 q) := by
  intro v3 v4 v5 μ q h
  unfold Wy_prepare_B64 at h
  refine rn_sls 1 (pc' := 65) (ls' := [(0, (2, 50)), (3, (2, v3)), (4, (0, v4)), (5, (0, v5))]) (st' := [(2, v3)]) rfl ?_
  refine rn_gd h (fun ho1 h => ?_)
  refine rn_get ho1 rfl rfl rfl ?_
  refine rn_sls 0 (pc' := 68) (ls' := [(0, (2, 50)), (3, (2, v3)), (4, (0, v4)), (5, (0, v5))]) (st' := [(2, (v3 + 1))]) rfl ?_
  refine rn_sls 1 (pc' := 70) (ls' := [(0, (2, 50)), (3, (2, v3)), (4, (0, v4)), (5, (0, v5))]) (st' := [(0, v5), (2, (v3 + 1))]) rfl ?_
  refine rn_call 3 0 [(2, (v3 + 1)), (0, v5)] (r := []) rfl ⟨rfl, Or.inr ⟨_, rfl, by decide⟩⟩ (by decide) (fun z => absurd z (by decide)) rfl rfl (Nat.le_of_ble_eq_true rfl) h (fun w hw => t_X_at (d + 3) _ _ _ _ hw) (fun a2 μ3 h => ?_)
  refine rn_sls 0 (pc' := 73) (ls' := [(0, (2, 50)), (3, (2, v3)), (4, (0, v4)), (5, (0, v5))]) (st' := [(0, a2)]) rfl ?_
  refine rn_sls 1 (pc' := 74) (ls' := [(0, (2, 50)), (3, (2, v3)), (4, (0, v4)), (5, (0, v5))]) (st' := [(0, 5), (0, a2)]) rfl ?_
  refine rn_icmpn (t := 101) rfl rfl rfl rfl h (fun h => ?_) (fun h => ?_)
  · refine rn_sls 6 (pc' := 87) (ls' := [(0, (2, 50)), (3, (2, v3)), (4, (0, v4)), (5, (0, v5))]) (st' := [(0, v5), (2, v3), (2, 50), (0, v5), (2, 57)]) rfl ?_
    refine rn_call 0 0 [(2, 50), (2, v3), (0, v5)] (r := [(0, v5), (2, 57)]) rfl ⟨rfl, Or.inl ⟨_, rfl, by decide⟩⟩ (by decide) (fun _ => ⟨_, rfl, rfl⟩) rfl rfl (Nat.le_of_ble_eq_true rfl) h (fun w hw => t_Wy_isAlike (d + 0) _ _ _ _ hw) (fun a4 μ5 h => ?_)
    refine rn_sls 0 (pc' := 90) (ls' := [(0, (2, 50)), (3, (2, v3)), (4, (0, v4)), (5, (0, v5))]) (st' := [(0, a4), (0, v5), (2, 57)]) rfl ?_
    refine rn_if (t := 97) rfl rfl rfl rfl h (fun h => ?_) (fun h => ?_)
    · refine rn_sls 1 (pc' := 98) (ls' := [(0, (2, 50)), (3, (2, v3)), (4, (0, v4)), (5, (0, v5))]) (st' := [(0, 0), (0, v5), (2, 57)]) rfl ?_
      exact rn_sub [0, 1, 2, 3] rfl (t_Wy_prepare_B98 d k29 hk29 _ _ _ _ _ _ _ h)
    · refine rn_sls 1 (pc' := 94) (ls' := [(0, (2, 50)), (3, (2, v3)), (4, (0, v4)), (5, (0, v5))]) (st' := [(0, 1), (0, v5), (2, 57)]) rfl ?_
      refine rn_goto (t := 98) rfl rfl rfl ?_
      exact rn_sub [0, 1, 2, 3] rfl (t_Wy_prepare_B98 d k29 hk29 _ _ _ _ _ _ _ h)
  · exact rn_sub [0, 1, 2, 3] rfl (t_Wy_prepare_B101 d k29 hk29 _ _ _ _ _ h)
set_option maxRecDepth 20000 in
theorem t_Wy_prepare_L29_b (d : Nat) (k29 : Int → Int → Int → am_M → am_O) (hk29 : ∀ (v3 : Int) (v4 : Int) (v5 : Int) (μ : am_M) q, k29 v3 v4 v5 μ = some q → am_run none (am_ar g_mt (d + 4)) 6 none k_Wy_prepare 29 [(0, (2, 50)), (3, (2, v3)), (4, (0, v4)), (5, (0, v5))] [] μ (am_res 2 q)) : ∀ (v3 : Int) (v4 : Int) (v5 : Int) (μ : am_M) q, Wy_prepare_L29_b k29 v3 v4 v5 μ = some q → am_run none (am_ar g_mt (d + 4)) 6 none k_Wy_prepare 29 [(0, (2, 50)), (3, (2, v3)), (4, (0, v4)), (5, (0, v5))] [] μ (am_res 2 q) := by
  intro v3 v4 v5 μ q h
  unfold Wy_prepare_L29_b at h
  refine rn_sls 2 (pc' := 33) (ls' := [(0, (2, 50)), (3, (2, v3)), (4, (0, v4)), (5, (0, v5))]) (st' := [(0, v4), (0, v5)]) rfl ?_
  refine rn_icmp (t := 107) rfl rfl rfl rfl h (fun h => ?_) (fun h => ?_)
  · refine rn_sls 4 (pc' := 114) (ls' := [(0, (2, 50)), (3, (2, v3)), (4, (0, v4)), (5, (0, v5))]) (st' := [(0, 2147483647), (0, 0), (2, 58)]) rfl ?_
    refine rn_call 3 2 [(2, 58), (0, 0), (0, 2147483647)] (r := []) rfl ⟨rfl, Or.inr ⟨_, rfl, by decide⟩⟩ (by decide) (fun z => absurd z (by decide)) rfl rfl (Nat.le_of_ble_eq_true rfl) h (fun w hw => t_X_put (d + 3) _ _ _ _ _ hw) (fun a1 μ2 h => ?_)
    refine rn_sls 0 (pc' := 117) (ls' := [(0, (2, 50)), (3, (2, v3)), (4, (0, v4)), (5, (0, v5))]) (st' := []) rfl ?_
    refine rn_sls 4 (pc' := 123) (ls' := [(0, (2, 50)), (3, (2, v3)), (4, (0, v4)), (5, (0, v5))]) (st' := [(0, 0), (0, 1), (2, 58)]) rfl ?_
    refine rn_call 3 2 [(2, 58), (0, 1), (0, 0)] (r := []) rfl ⟨rfl, Or.inr ⟨_, rfl, by decide⟩⟩ (by decide) (fun z => absurd z (by decide)) rfl rfl (Nat.le_of_ble_eq_true rfl) h (fun w hw => t_X_put (d + 3) _ _ _ _ _ hw) (fun a3 μ4 h => ?_)
    refine rn_sls 0 (pc' := 126) (ls' := [(0, (2, 50)), (3, (2, v3)), (4, (0, v4)), (5, (0, v5))]) (st' := []) rfl ?_
    refine rn_sls 4 (pc' := 133) (ls' := [(0, (2, 50)), (3, (2, v3)), (4, (0, v4)), (5, (0, v5))]) (st' := [(0, 2147483647), (0, 2), (2, 58)]) rfl ?_
    refine rn_call 3 2 [(2, 58), (0, 2), (0, 2147483647)] (r := []) rfl ⟨rfl, Or.inr ⟨_, rfl, by decide⟩⟩ (by decide) (fun z => absurd z (by decide)) rfl rfl (Nat.le_of_ble_eq_true rfl) h (fun w hw => t_X_put (d + 3) _ _ _ _ _ hw) (fun a5 μ6 h => ?_)
    refine rn_sls 0 (pc' := 136) (ls' := [(0, (2, 50)), (3, (2, v3)), (4, (0, v4)), (5, (0, v5))]) (st' := []) rfl ?_
    refine rn_sls 4 (pc' := 142) (ls' := [(0, (2, 50)), (3, (2, v3)), (4, (0, v4)), (5, (0, v5))]) (st' := [(0, 0), (0, 3), (2, 58)]) rfl ?_
    refine rn_call 3 2 [(2, 58), (0, 3), (0, 0)] (r := []) rfl ⟨rfl, Or.inr ⟨_, rfl, by decide⟩⟩ (by decide) (fun z => absurd z (by decide)) rfl rfl (Nat.le_of_ble_eq_true rfl) h (fun w hw => t_X_put (d + 3) _ _ _ _ _ hw) (fun a7 μ8 h => ?_)
    refine rn_sls 0 (pc' := 145) (ls' := [(0, (2, 50)), (3, (2, v3)), (4, (0, v4)), (5, (0, v5))]) (st' := []) rfl ?_
    refine rn_sls 1 (pc' := 146) (ls' := [(0, (2, 50)), (3, (2, v3)), (4, (0, v4)), (5, (0, v5))]) (st' := [(2, 50)]) rfl ?_
    refine rn_call 0 2 [(2, 50)] (r := []) rfl ⟨rfl, Or.inl ⟨_, rfl, by decide⟩⟩ (by decide) (fun _ => ⟨_, rfl, rfl⟩) rfl rfl (Nat.le_of_ble_eq_true rfl) h (fun w hw => t_Wy_clearLacks (d + 2)  _ _ hw) (fun a9 μ10 h => ?_)
    refine rn_sls 0 (pc' := 149) (ls' := [(0, (2, 50)), (3, (2, v3)), (4, (0, v4)), (5, (0, v5))]) (st' := []) rfl ?_
    refine rn_sls 2 (pc' := 151) (ls' := [(0, (2, 50)), (3, (2, v3)), (4, (0, v4)), (5, (0, v5))]) (st' := [(0, 0), (2, 50)]) rfl ?_
    refine rn_put rfl rfl rfl rfl (Or.inl ⟨rfl, rfl⟩) rfl h (fun μ11 h => ?_)
    exact rn_ret (v := 0) rfl rfl rfl h rfl
  · refine rn_sls 1 (pc' := 37) (ls' := [(0, (2, 50)), (3, (2, v3)), (4, (0, v4)), (5, (0, v5))]) (st' := [(2, v3)]) rfl ?_
    refine rn_gd h (fun ho12 h => ?_)
    refine rn_get ho12 rfl rfl rfl ?_
    refine rn_sls 0 (pc' := 40) (ls' := [(0, (2, 50)), (3, (2, v3)), (4, (0, v4)), (5, (0, v5))]) (st' := [(2, (v3 + 4))]) rfl ?_
    refine rn_sls 1 (pc' := 42) (ls' := [(0, (2, 50)), (3, (2, v3)), (4, (0, v4)), (5, (0, v5))]) (st' := [(0, v5), (2, (v3 + 4))]) rfl ?_
    refine rn_call 3 0 [(2, (v3 + 4)), (0, v5)] (r := []) rfl ⟨rfl, Or.inr ⟨_, rfl, by decide⟩⟩ (by decide) (fun z => absurd z (by decide)) rfl rfl (Nat.le_of_ble_eq_true rfl) h (fun w hw => t_X_at (d + 3) _ _ _ _ hw) (fun a13 μ14 h => ?_)
    refine rn_sls 0 (pc' := 45) (ls' := [(0, (2, 50)), (3, (2, v3)), (4, (0, v4)), (5, (0, v5))]) (st' := [(0, a13)]) rfl ?_
    refine rn_sls 1 (pc' := 46) (ls' := [(0, (2, 50)), (3, (2, v3)), (4, (0, v4)), (5, (0, v5))]) (st' := [(0, 1), (0, a13)]) rfl ?_
    refine rn_icmpn (t := 64) rfl rfl rfl rfl h (fun h => ?_) (fun h => ?_)
    · refine rn_sls 5 (pc' := 57) (ls' := [(0, (2, 50)), (3, (2, v3)), (4, (0, v4)), (5, (0, v5))]) (st' := [(0, v5), (2, v3), (0, (μ14 50 9)), (2, 50)]) rfl ?_
      refine rn_call 0 0 [(2, v3), (0, v5)] (r := [(0, (μ14 50 9)), (2, 50)]) rfl ⟨rfl, Or.inl ⟨_, rfl, by decide⟩⟩ (by decide) (fun _ => ⟨_, rfl, ho12⟩) rfl rfl (Nat.le_of_ble_eq_true rfl) h (fun w hw => t_Ln_laidSet (d + 2) _ _ _ _ hw) (fun a15 μ16 h => ?_)
      refine rn_sls 0 (pc' := 60) (ls' := [(0, (2, 50)), (3, (2, v3)), (4, (0, v4)), (5, (0, v5))]) (st' := [(0, a15), (0, (μ14 50 9)), (2, 50)]) rfl ?_
      refine rn_sls 1 (pc' := 61) (ls' := [(0, (2, 50)), (3, (2, v3)), (4, (0, v4)), (5, (0, v5))]) (st' := [(0, (aOr (μ14 50 9) a15)), (2, 50)]) rfl ?_
      refine rn_put rfl rfl rfl rfl (Or.inl ⟨rfl, rfl⟩) rfl h (fun μ17 h => ?_)
      exact rn_sub [0, 1, 2, 3] rfl (t_Wy_prepare_B64 d k29 hk29 _ _ _ _ _ h)
    · exact rn_sub [0, 1, 2, 3] rfl (t_Wy_prepare_B64 d k29 hk29 _ _ _ _ _ h)
set_option maxRecDepth 20000 in
theorem t_Wy_prepare_L29 (d : Nat) : ∀ (n : Nat) (v3 : Int) (v4 : Int) (v5 : Int) (μ : am_M) q, Wy_prepare_L29 n v3 v4 v5 μ = some q → am_run none (am_ar g_mt (d + 4)) 6 none k_Wy_prepare 29 [(0, (2, 50)), (3, (2, v3)), (4, (0, v4)), (5, (0, v5))] [] μ (am_res 2 q) := by
  intro n
  induction n with
  | zero => intro v3 v4 v5 μ q h; cases h
  | succ n ih => intro v3 v4 v5 μ q h; exact t_Wy_prepare_L29_b d (Wy_prepare_L29 n) ih v3 v4 v5 μ q h
set_option maxRecDepth 20000 in
theorem t_Wy_prepare (d : Nat) : ∀ (v1 : Int) (v2 : Int) (μ : am_M) q, Wy_prepare v1 v2 μ = some q → am_ar g_mt (d + 5) 108 [(2, 50), (2, v1), (0, v2)] μ (am_res 2 q) := by
  intro v1 v2 μ q h
  unfold Wy_prepare at h
  refine am_ar_of (d := d + 4) i_Wy_prepare rfl rfl (Nat.le_of_ble_eq_true rfl) ?_
  show am_run none (am_ar g_mt (d + 4)) 6 none k_Wy_prepare 0 [(0, (2, 50)), (1, (2, v1)), (2, (0, v2))] [] μ (am_res 2 q)
  refine rn_sls 1 (pc' := 1) (ls' := [(0, (2, 50)), (1, (2, v1)), (2, (0, v2))]) (st' := [(2, v1)]) rfl ?_
  refine rn_gd h (fun ho1 h => ?_)
  refine rn_get ho1 rfl rfl rfl ?_
  refine rn_sls 0 (pc' := 4) (ls' := [(0, (2, 50)), (1, (2, v1)), (2, (0, v2))]) (st' := [(2, (v1 + 1))]) rfl ?_
  refine rn_sls 3 (pc' := 7) (ls' := [(3, (2, (v1 + 1))), (0, (2, 50)), (1, (2, v1)), (2, (0, v2))]) (st' := [(0, 0), (2, 50)]) rfl ?_
  refine rn_put rfl rfl rfl rfl (Or.inl ⟨rfl, rfl⟩) rfl h (fun μ2 h => ?_)
  refine rn_sls 1 (pc' := 11) (ls' := [(3, (2, (v1 + 1))), (0, (2, 50)), (1, (2, v1)), (2, (0, v2))]) (st' := [(2, v1)]) rfl ?_
  refine rn_get ho1 rfl rfl rfl ?_
  refine rn_sls 0 (pc' := 14) (ls' := [(3, (2, (v1 + 1))), (0, (2, 50)), (1, (2, v1)), (2, (0, v2))]) (st' := [(2, (v1 + 15))]) rfl ?_
  refine rn_sls 1 (pc' := 15) (ls' := [(3, (2, (v1 + 1))), (0, (2, 50)), (1, (2, v1)), (2, (0, v2))]) (st' := [(0, v2), (2, (v1 + 15))]) rfl ?_
  refine rn_call 3 0 [(2, (v1 + 15)), (0, v2)] (r := []) rfl ⟨rfl, Or.inr ⟨_, rfl, by decide⟩⟩ (by decide) (fun z => absurd z (by decide)) rfl rfl (Nat.le_of_ble_eq_true rfl) h (fun w hw => t_X_at (d + 3) _ _ _ _ hw) (fun a3 μ4 h => ?_)
  refine rn_sls 0 (pc' := 18) (ls' := [(3, (2, (v1 + 1))), (0, (2, 50)), (1, (2, v1)), (2, (0, v2))]) (st' := [(0, a3)]) rfl ?_
  refine rn_sls 3 (pc' := 22) (ls' := [(4, (0, a3)), (3, (2, (v1 + 1))), (0, (2, 50)), (1, (2, v1)), (2, (0, v2))]) (st' := [(0, v2), (2, v1)]) rfl ?_
  refine rn_call 0 0 [(2, v1), (0, v2)] (r := []) rfl ⟨rfl, Or.inl ⟨_, rfl, by decide⟩⟩ (by decide) (fun _ => ⟨_, rfl, ho1⟩) rfl rfl (Nat.le_of_ble_eq_true rfl) h (fun w hw => t_Bi_lineBehind (d + 2) _ _ _ _ hw) (fun a5 μ6 h => ?_)
  refine rn_sls 0 (pc' := 25) (ls' := [(4, (0, a3)), (3, (2, (v1 + 1))), (0, (2, 50)), (1, (2, v1)), (2, (0, v2))]) (st' := [(0, a5)]) rfl ?_
  refine rn_sls 3 (pc' := 29) (ls' := [(5, (0, (w32 (a5 - 1)))), (4, (0, a3)), (3, (2, (v1 + 1))), (0, (2, 50)), (1, (2, v1)), (2, (0, v2))]) (st' := []) rfl ?_
  exact rn_sub [3, 2, 1, 0] rfl (t_Wy_prepare_L29 d  am_FU _ _ _ _ _ h)
set_option maxRecDepth 20000 in
theorem t_Wy_record_B57 (d : Nat) (k6 : Int → Int → Int → am_M → am_O) (hk6 : ∀ (v1 : Int) (v2 : Int) (v3 : Int) (μ : am_M) q, k6 v1 v2 v3 μ = some q → am_run none (am_ar g_mt (d + 1)) 5 none k_Wy_record 6 [(0, (2, 50)), (1, (0, v1)), (2, (0, v2)), (3, (0, v3))] [] μ (am_res 2 q)) : ∀ (v1 : Int) (v3 : Int) (s0 : Int) (s1 : Int) (μ : am_M) q, Wy_record_B57 k6 v1 v3 s0 s1 μ = some q → am_run none (am_ar g_mt (d + 1)) 5 none k_Wy_record 57 [(0, (2, 50)), (1, (0, v1)), (3, (0, v3))] [(0, s1), (0, s0)] μ (am_res 2 q) := by
  intro v1 v3 s0 s1 μ q h
  unfold Wy_record_B57 at h
  refine rn_sls 3 (pc' := 62) (ls' := [(3, (0, (w32 (v3 + 1)))), (2, (0, (w32 (s0 + s1)))), (0, (2, 50)), (1, (0, v1))]) (st' := []) rfl ?_
  refine rn_goto (t := 6) rfl rfl rfl ?_
  exact rn_sub [2, 3, 1, 0] rfl (hk6 _ _ _ _ _ h)
set_option maxRecDepth 20000 in
theorem t_Wy_record_L6_b (d : Nat) (k6 : Int → Int → Int → am_M → am_O) (hk6 : ∀ (v1 : Int) (v2 : Int) (v3 : Int) (μ : am_M) q, k6 v1 v2 v3 μ = some q → am_run none (am_ar g_mt (d + 1)) 5 none k_Wy_record 6 [(0, (2, 50)), (1, (0, v1)), (2, (0, v2)), (3, (0, v3))] [] μ (am_res 2 q)) : ∀ (v1 : Int) (v2 : Int) (v3 : Int) (μ : am_M) q, Wy_record_L6_b k6 v1 v2 v3 μ = some q → am_run none (am_ar g_mt (d + 1)) 5 none k_Wy_record 6 [(0, (2, 50)), (1, (0, v1)), (2, (0, v2)), (3, (0, v3))] [] μ (am_res 2 q) := by
  intro v1 v2 v3 μ q h
  unfold Wy_record_L6_b at h
  refine rn_sls 4 (pc' := 12) (ls' := [(0, (2, 50)), (1, (0, v1)), (2, (0, v2)), (3, (0, v3))]) (st' := [(0, 10), (0, v3)]) rfl ?_
  refine rn_icmpn (t := 65) rfl rfl rfl rfl h (fun h => ?_) (fun h => ?_)
  · refine rn_sls 3 (pc' := 20) (ls' := [(0, (2, 50)), (1, (0, v1)), (2, (0, v2)), (3, (0, v3))]) (st' := [(0, v3), (2, 55)]) rfl ?_
    refine rn_call 3 0 [(2, 55), (0, v3)] (r := []) rfl ⟨rfl, Or.inr ⟨_, rfl, by decide⟩⟩ (by decide) (fun z => absurd z (by decide)) rfl rfl (Nat.le_of_ble_eq_true rfl) h (fun w hw => t_X_at (d + 0) _ _ _ _ hw) (fun a21 μ22 h => ?_)
    refine rn_sls 0 (pc' := 23) (ls' := [(0, (2, 50)), (1, (0, v1)), (2, (0, v2)), (3, (0, v3))]) (st' := [(0, a21)]) rfl ?_
    refine rn_sls 4 (pc' := 29) (ls' := [(4, (0, a21)), (0, (2, 50)), (1, (0, v1)), (2, (0, v2)), (3, (0, v3))]) (st' := [(0, a21), (0, 0), (0, v1)]) rfl ?_
    refine rn_max rfl ⟨rfl, Or.inr ⟨_, rfl, by decide⟩⟩ rfl (Nat.le_of_ble_eq_true rfl) ?_
    refine rn_nm (ls := fun x => [(4, (0, a21)), (0, (2, 50)), (1, (0, v1)), (2, (0, v2)), (3, (0, v3))]) (st := fun x => [(0, x), (0, v1)]) h (fun a23 h => ?_)
    refine rn_sls 9 (pc' := 43) (ls' := [(1, (0, (w32 (v1 + a23)))), (4, (0, a21)), (0, (2, 50)), (2, (0, v2)), (3, (0, v3))]) (st' := [(0, (aAnd (aShr (μ22 50 9) v3) 1)), (0, v2)]) rfl ?_
    refine rn_if (t := 56) rfl rfl rfl rfl h (fun h => ?_) (fun h => ?_)
    · refine rn_sls 1 (pc' := 57) (ls' := [(1, (0, (w32 (v1 + a23)))), (4, (0, a21)), (0, (2, 50)), (2, (0, v2)), (3, (0, v3))]) (st' := [(0, 0), (0, v2)]) rfl ?_
      exact rn_sub [2, 0, 4] rfl (t_Wy_record_B57 d k6 hk6 _ _ _ _ _ _ h)
    · refine rn_sls 3 (pc' := 50) (ls' := [(1, (0, (w32 (v1 + a23)))), (4, (0, a21)), (0, (2, 50)), (2, (0, v2)), (3, (0, v3))]) (st' := [(0, (w32 (-a21))), (0, 0), (0, v2)]) rfl ?_
      refine rn_max rfl ⟨rfl, Or.inr ⟨_, rfl, by decide⟩⟩ rfl (Nat.le_of_ble_eq_true rfl) ?_
      refine rn_nm (ls := fun x => [(1, (0, (w32 (v1 + a23)))), (4, (0, a21)), (0, (2, 50)), (2, (0, v2)), (3, (0, v3))]) (st := fun x => [(0, x), (0, v2)]) h (fun a24 h => ?_)
      refine rn_goto (t := 57) rfl rfl rfl ?_
      exact rn_sub [2, 0, 4] rfl (t_Wy_record_B57 d k6 hk6 _ _ _ _ _ _ h)
  · refine rn_sls 6 (pc' := 75) (ls' := [(0, (2, 50)), (1, (0, v1)), (2, (0, v2)), (3, (0, v3))]) (st' := [(0, 0), (2, 58), (0, 0), (2, 58)]) rfl ?_
    refine rn_call 3 0 [(2, 58), (0, 0)] (r := [(0, 0), (2, 58)]) rfl ⟨rfl, Or.inr ⟨_, rfl, by decide⟩⟩ (by decide) (fun z => absurd z (by decide)) rfl rfl (Nat.le_of_ble_eq_true rfl) h (fun w hw => t_X_at (d + 0) _ _ _ _ hw) (fun a1 μ2 h => ?_)
    refine rn_sls 0 (pc' := 78) (ls' := [(0, (2, 50)), (1, (0, v1)), (2, (0, v2)), (3, (0, v3))]) (st' := [(0, a1), (0, 0), (2, 58)]) rfl ?_
    refine rn_sls 1 (pc' := 79) (ls' := [(0, (2, 50)), (1, (0, v1)), (2, (0, v2)), (3, (0, v3))]) (st' := [(0, v1), (0, a1), (0, 0), (2, 58)]) rfl ?_
    refine rn_min rfl ⟨rfl, Or.inr ⟨_, rfl, by decide⟩⟩ rfl (Nat.le_of_ble_eq_true rfl) ?_
    refine rn_nm (ls := fun x => [(0, (2, 50)), (1, (0, v1)), (2, (0, v2)), (3, (0, v3))]) (st := fun x => [(0, x), (0, 0), (2, 58)]) h (fun a3 h => ?_)
    refine rn_call 3 2 [(2, 58), (0, 0), (0, a3)] (r := []) rfl ⟨rfl, Or.inr ⟨_, rfl, by decide⟩⟩ (by decide) (fun z => absurd z (by decide)) rfl rfl (Nat.le_of_ble_eq_true rfl) h (fun w hw => t_X_put (d + 0) _ _ _ _ _ hw) (fun a4 μ5 h => ?_)
    refine rn_sls 0 (pc' := 85) (ls' := [(0, (2, 50)), (1, (0, v1)), (2, (0, v2)), (3, (0, v3))]) (st' := []) rfl ?_
    refine rn_sls 6 (pc' := 95) (ls' := [(0, (2, 50)), (1, (0, v1)), (2, (0, v2)), (3, (0, v3))]) (st' := [(0, 1), (2, 58), (0, 1), (2, 58)]) rfl ?_
    refine rn_call 3 0 [(2, 58), (0, 1)] (r := [(0, 1), (2, 58)]) rfl ⟨rfl, Or.inr ⟨_, rfl, by decide⟩⟩ (by decide) (fun z => absurd z (by decide)) rfl rfl (Nat.le_of_ble_eq_true rfl) h (fun w hw => t_X_at (d + 0) _ _ _ _ hw) (fun a6 μ7 h => ?_)
    refine rn_sls 0 (pc' := 98) (ls' := [(0, (2, 50)), (1, (0, v1)), (2, (0, v2)), (3, (0, v3))]) (st' := [(0, a6), (0, 1), (2, 58)]) rfl ?_
    refine rn_sls 1 (pc' := 99) (ls' := [(0, (2, 50)), (1, (0, v1)), (2, (0, v2)), (3, (0, v3))]) (st' := [(0, v1), (0, a6), (0, 1), (2, 58)]) rfl ?_
    refine rn_max rfl ⟨rfl, Or.inr ⟨_, rfl, by decide⟩⟩ rfl (Nat.le_of_ble_eq_true rfl) ?_
    refine rn_nm (ls := fun x => [(0, (2, 50)), (1, (0, v1)), (2, (0, v2)), (3, (0, v3))]) (st := fun x => [(0, x), (0, 1), (2, 58)]) h (fun a8 h => ?_)
    refine rn_call 3 2 [(2, 58), (0, 1), (0, a8)] (r := []) rfl ⟨rfl, Or.inr ⟨_, rfl, by decide⟩⟩ (by decide) (fun z => absurd z (by decide)) rfl rfl (Nat.le_of_ble_eq_true rfl) h (fun w hw => t_X_put (d + 0) _ _ _ _ _ hw) (fun a9 μ10 h => ?_)
    refine rn_sls 0 (pc' := 105) (ls' := [(0, (2, 50)), (1, (0, v1)), (2, (0, v2)), (3, (0, v3))]) (st' := []) rfl ?_
    refine rn_sls 6 (pc' := 115) (ls' := [(0, (2, 50)), (1, (0, v1)), (2, (0, v2)), (3, (0, v3))]) (st' := [(0, 2), (2, 58), (0, 2), (2, 58)]) rfl ?_
    refine rn_call 3 0 [(2, 58), (0, 2)] (r := [(0, 2), (2, 58)]) rfl ⟨rfl, Or.inr ⟨_, rfl, by decide⟩⟩ (by decide) (fun z => absurd z (by decide)) rfl rfl (Nat.le_of_ble_eq_true rfl) h (fun w hw => t_X_at (d + 0) _ _ _ _ hw) (fun a11 μ12 h => ?_)
    refine rn_sls 0 (pc' := 118) (ls' := [(0, (2, 50)), (1, (0, v1)), (2, (0, v2)), (3, (0, v3))]) (st' := [(0, a11), (0, 2), (2, 58)]) rfl ?_
    refine rn_sls 1 (pc' := 119) (ls' := [(0, (2, 50)), (1, (0, v1)), (2, (0, v2)), (3, (0, v3))]) (st' := [(0, v2), (0, a11), (0, 2), (2, 58)]) rfl ?_
    refine rn_min rfl ⟨rfl, Or.inr ⟨_, rfl, by decide⟩⟩ rfl (Nat.le_of_ble_eq_true rfl) ?_
    refine rn_nm (ls := fun x => [(0, (2, 50)), (1, (0, v1)), (2, (0, v2)), (3, (0, v3))]) (st := fun x => [(0, x), (0, 2), (2, 58)]) h (fun a13 h => ?_)
    refine rn_call 3 2 [(2, 58), (0, 2), (0, a13)] (r := []) rfl ⟨rfl, Or.inr ⟨_, rfl, by decide⟩⟩ (by decide) (fun z => absurd z (by decide)) rfl rfl (Nat.le_of_ble_eq_true rfl) h (fun w hw => t_X_put (d + 0) _ _ _ _ _ hw) (fun a14 μ15 h => ?_)
    refine rn_sls 0 (pc' := 125) (ls' := [(0, (2, 50)), (1, (0, v1)), (2, (0, v2)), (3, (0, v3))]) (st' := []) rfl ?_
    refine rn_sls 6 (pc' := 135) (ls' := [(0, (2, 50)), (1, (0, v1)), (2, (0, v2)), (3, (0, v3))]) (st' := [(0, 3), (2, 58), (0, 3), (2, 58)]) rfl ?_
    refine rn_call 3 0 [(2, 58), (0, 3)] (r := [(0, 3), (2, 58)]) rfl ⟨rfl, Or.inr ⟨_, rfl, by decide⟩⟩ (by decide) (fun z => absurd z (by decide)) rfl rfl (Nat.le_of_ble_eq_true rfl) h (fun w hw => t_X_at (d + 0) _ _ _ _ hw) (fun a16 μ17 h => ?_)
    refine rn_sls 0 (pc' := 138) (ls' := [(0, (2, 50)), (1, (0, v1)), (2, (0, v2)), (3, (0, v3))]) (st' := [(0, a16), (0, 3), (2, 58)]) rfl ?_
    refine rn_sls 1 (pc' := 139) (ls' := [(0, (2, 50)), (1, (0, v1)), (2, (0, v2)), (3, (0, v3))]) (st' := [(0, v2), (0, a16), (0, 3), (2, 58)]) rfl ?_
    refine rn_max rfl ⟨rfl, Or.inr ⟨_, rfl, by decide⟩⟩ rfl (Nat.le_of_ble_eq_true rfl) ?_
    refine rn_nm (ls := fun x => [(0, (2, 50)), (1, (0, v1)), (2, (0, v2)), (3, (0, v3))]) (st := fun x => [(0, x), (0, 3), (2, 58)]) h (fun a18 h => ?_)
    refine rn_call 3 2 [(2, 58), (0, 3), (0, a18)] (r := []) rfl ⟨rfl, Or.inr ⟨_, rfl, by decide⟩⟩ (by decide) (fun z => absurd z (by decide)) rfl rfl (Nat.le_of_ble_eq_true rfl) h (fun w hw => t_X_put (d + 0) _ _ _ _ _ hw) (fun a19 μ20 h => ?_)
    refine rn_sls 0 (pc' := 145) (ls' := [(0, (2, 50)), (1, (0, v1)), (2, (0, v2)), (3, (0, v3))]) (st' := []) rfl ?_
    exact rn_ret (v := 0) rfl rfl rfl h rfl
set_option maxRecDepth 20000 in
theorem t_Wy_record_L6 (d : Nat) : ∀ (n : Nat) (v1 : Int) (v2 : Int) (v3 : Int) (μ : am_M) q, Wy_record_L6 n v1 v2 v3 μ = some q → am_run none (am_ar g_mt (d + 1)) 5 none k_Wy_record 6 [(0, (2, 50)), (1, (0, v1)), (2, (0, v2)), (3, (0, v3))] [] μ (am_res 2 q) := by
  intro n
  induction n with
  | zero => intro v1 v2 v3 μ q h; cases h
  | succ n ih => intro v1 v2 v3 μ q h; exact t_Wy_record_L6_b d (Wy_record_L6 n) ih v1 v2 v3 μ q h
set_option maxRecDepth 20000 in
theorem t_Wy_record (d : Nat) : ∀  (μ : am_M) q, Wy_record  μ = some q → am_ar g_mt (d + 2) 114 [(2, 50)] μ (am_res 2 q) := by
  intro  μ q h
  unfold Wy_record at h
  refine am_ar_of (d := d + 1) i_Wy_record rfl rfl (Nat.le_of_ble_eq_true rfl) ?_
  show am_run none (am_ar g_mt (d + 1)) 5 none k_Wy_record 0 [(0, (2, 50))] [] μ (am_res 2 q)
  refine rn_sls 6 (pc' := 6) (ls' := [(3, (0, 0)), (2, (0, 0)), (1, (0, 0)), (0, (2, 50))]) (st' := []) rfl ?_
  exact rn_sub [3, 2, 1, 0] rfl (t_Wy_record_L6 d  am_FU _ _ _ _ _ h)
set_option maxRecDepth 20000 in
theorem t_Wy_turnBack_B103 (d : Nat) (k0 : Int → am_M → am_O) (hk0 : ∀ (v1 : Int) (μ : am_M) q, k0 v1 μ = some q → am_run none (am_ar g_mt (d + 3)) 3 (some .int) k_Wy_turnBack 0 [(0, (2, 50)), (1, (2, v1))] [] μ (am_res 0 q)) : ∀ (v1 : Int) (v2 : Int) (μ : am_M) q, Wy_turnBack_B103 k0 v1 v2 μ = some q → am_run none (am_ar g_mt (d + 3)) 3 (some .int) k_Wy_turnBack 103 [(0, (2, 50)), (1, (2, v1)), (2, (0, v2))] [] μ (am_res 0 q) := by
  intro v1 v2 μ q h
  unfold Wy_turnBack_B103 at h
  refine rn_sls 4 (pc' := 107) (ls' := [(0, (2, 50)), (1, (2, v1)), (2, (0, v2))]) (st' := [(0, (-1)), (0, v2), (2, v1), (2, 50)]) rfl ?_
  refine rn_call 0 2 [(2, 50), (2, v1), (0, v2), (0, (-1))] (r := []) rfl ⟨rfl, Or.inl ⟨_, rfl, by decide⟩⟩ (by decide) (fun _ => ⟨_, rfl, rfl⟩) rfl rfl (Nat.le_of_ble_eq_true rfl) h (fun w hw => t_Wy_weigh (d + 0) _ _ _ _ _ hw) (fun a1 μ2 h => ?_)
  refine rn_sls 0 (pc' := 110) (ls' := [(0, (2, 50)), (1, (2, v1)), (2, (0, v2))]) (st' := []) rfl ?_
  refine rn_goto (t := 0) rfl rfl rfl ?_
  exact rn_sub [0, 1] rfl (hk0 _ _ _ h)
set_option maxRecDepth 20000 in
theorem t_Wy_turnBack_B82 (d : Nat) (k0 : Int → am_M → am_O) (hk0 : ∀ (v1 : Int) (μ : am_M) q, k0 v1 μ = some q → am_run none (am_ar g_mt (d + 3)) 3 (some .int) k_Wy_turnBack 0 [(0, (2, 50)), (1, (2, v1))] [] μ (am_res 0 q)) : ∀ (v1 : Int) (v2 : Int) (μ : am_M) q, Wy_turnBack_B82 k0 v1 v2 μ = some q → am_run none (am_ar g_mt (d + 3)) 3 (some .int) k_Wy_turnBack 82 [(0, (2, 50)), (1, (2, v1)), (2, (0, v2))] [] μ (am_res 0 q) := by
  intro v1 v2 μ q h
  unfold Wy_turnBack_B82 at h
  refine rn_sls 3 (pc' := 87) (ls' := [(0, (2, 50)), (1, (2, v1)), (2, (0, v2))]) (st' := [(0, v2), (2, 57)]) rfl ?_
  refine rn_call 3 0 [(2, 57), (0, v2)] (r := []) rfl ⟨rfl, Or.inr ⟨_, rfl, by decide⟩⟩ (by decide) (fun z => absurd z (by decide)) rfl rfl (Nat.le_of_ble_eq_true rfl) h (fun w hw => t_X_at (d + 2) _ _ _ _ hw) (fun a1 μ2 h => ?_)
  refine rn_sls 0 (pc' := 90) (ls' := [(0, (2, 50)), (1, (2, v1)), (2, (0, v2))]) (st' := [(0, a1)]) rfl ?_
  refine rn_sls 1 (pc' := 91) (ls' := [(0, (2, 50)), (1, (2, v1)), (2, (0, v2))]) (st' := [(0, 2), (0, a1)]) rfl ?_
  refine rn_icmpn (t := 103) rfl rfl rfl rfl h (fun h => ?_) (fun h => ?_)
  · refine rn_sls 4 (pc' := 100) (ls' := [(0, (2, 50)), (1, (2, v1)), (2, (0, v2))]) (st' := [(0, 0), (0, v2), (2, 57)]) rfl ?_
    refine rn_call 3 2 [(2, 57), (0, v2), (0, 0)] (r := []) rfl ⟨rfl, Or.inr ⟨_, rfl, by decide⟩⟩ (by decide) (fun z => absurd z (by decide)) rfl rfl (Nat.le_of_ble_eq_true rfl) h (fun w hw => t_X_put (d + 2) _ _ _ _ _ hw) (fun a3 μ4 h => ?_)
    refine rn_sls 0 (pc' := 103) (ls' := [(0, (2, 50)), (1, (2, v1)), (2, (0, v2))]) (st' := []) rfl ?_
    exact rn_sub [0, 1, 2] rfl (t_Wy_turnBack_B103 d k0 hk0 _ _ _ _ h)
  · exact rn_sub [0, 1, 2] rfl (t_Wy_turnBack_B103 d k0 hk0 _ _ _ _ h)
set_option maxRecDepth 20000 in
theorem t_Wy_turnBack_L0_b (d : Nat) (k0 : Int → am_M → am_O) (hk0 : ∀ (v1 : Int) (μ : am_M) q, k0 v1 μ = some q → am_run none (am_ar g_mt (d + 3)) 3 (some .int) k_Wy_turnBack 0 [(0, (2, 50)), (1, (2, v1))] [] μ (am_res 0 q)) : ∀ (v1 : Int) (μ : am_M) q, Wy_turnBack_L0_b k0 v1 μ = some q → am_run none (am_ar g_mt (d + 3)) 3 (some .int) k_Wy_turnBack 0 [(0, (2, 50)), (1, (2, v1))] [] μ (am_res 0 q) := by
  intro v1 μ q h
  unfold Wy_turnBack_L0_b at h
  refine rn_sls 2 (pc' := 4) (ls' := [(0, (2, 50)), (1, (2, v1))]) (st' := [(0, (μ 50 8))]) rfl ?_
  refine rn_if (t := 113) rfl rfl rfl rfl h (fun h => ?_) (fun h => ?_)
  · refine rn_sls 1 (pc' := 114) (ls' := [(0, (2, 50)), (1, (2, v1))]) (st' := [(0, (-1))]) rfl ?_
    exact rn_ireti rfl rfl rfl h rfl
  · refine rn_sls 5 (pc' := 14) (ls' := [(0, (2, 50)), (1, (2, v1))]) (st' := [(0, (w32 ((μ 50 8) - 1))), (2, 50)]) rfl ?_
    refine rn_put rfl rfl rfl rfl (Or.inl ⟨rfl, rfl⟩) rfl h (fun μ1 h => ?_)
    refine rn_sls 4 (pc' := 25) (ls' := [(0, (2, 50)), (1, (2, v1))]) (st' := [(0, (μ1 50 8)), (2, 56)]) rfl ?_
    refine rn_call 3 0 [(2, 56), (0, (μ1 50 8))] (r := []) rfl ⟨rfl, Or.inr ⟨_, rfl, by decide⟩⟩ (by decide) (fun z => absurd z (by decide)) rfl rfl (Nat.le_of_ble_eq_true rfl) h (fun w hw => t_X_at (d + 2) _ _ _ _ hw) (fun a2 μ3 h => ?_)
    refine rn_sls 0 (pc' := 28) (ls' := [(0, (2, 50)), (1, (2, v1))]) (st' := [(0, a2)]) rfl ?_
    refine rn_sls 2 (pc' := 30) (ls' := [(2, (0, a2)), (0, (2, 50)), (1, (2, v1))]) (st' := [(2, v1)]) rfl ?_
    refine rn_gd h (fun ho4 h => ?_)
    refine rn_get ho4 rfl rfl rfl ?_
    refine rn_sls 0 (pc' := 33) (ls' := [(2, (0, a2)), (0, (2, 50)), (1, (2, v1))]) (st' := [(2, (v1 + 1))]) rfl ?_
    refine rn_sls 1 (pc' := 34) (ls' := [(2, (0, a2)), (0, (2, 50)), (1, (2, v1))]) (st' := [(0, a2), (2, (v1 + 1))]) rfl ?_
    refine rn_call 3 0 [(2, (v1 + 1)), (0, a2)] (r := []) rfl ⟨rfl, Or.inr ⟨_, rfl, by decide⟩⟩ (by decide) (fun z => absurd z (by decide)) rfl rfl (Nat.le_of_ble_eq_true rfl) h (fun w hw => t_X_at (d + 2) _ _ _ _ hw) (fun a5 μ6 h => ?_)
    refine rn_sls 0 (pc' := 37) (ls' := [(2, (0, a2)), (0, (2, 50)), (1, (2, v1))]) (st' := [(0, a5)]) rfl ?_
    refine rn_sls 1 (pc' := 38) (ls' := [(2, (0, a2)), (0, (2, 50)), (1, (2, v1))]) (st' := [(0, 5), (0, a5)]) rfl ?_
    refine rn_icmpn (t := 82) rfl rfl rfl rfl h (fun h => ?_) (fun h => ?_)
    · refine rn_sls 3 (pc' := 46) (ls' := [(2, (0, a2)), (0, (2, 50)), (1, (2, v1))]) (st' := [(0, a2), (2, 57)]) rfl ?_
      refine rn_call 3 0 [(2, 57), (0, a2)] (r := []) rfl ⟨rfl, Or.inr ⟨_, rfl, by decide⟩⟩ (by decide) (fun z => absurd z (by decide)) rfl rfl (Nat.le_of_ble_eq_true rfl) h (fun w hw => t_X_at (d + 2) _ _ _ _ hw) (fun a7 μ8 h => ?_)
      refine rn_sls 0 (pc' := 49) (ls' := [(2, (0, a2)), (0, (2, 50)), (1, (2, v1))]) (st' := [(0, a7)]) rfl ?_
      refine rn_ifn (t := 82) rfl rfl rfl rfl h (fun h => ?_) (fun h => ?_)
      · refine rn_sls 4 (pc' := 58) (ls' := [(2, (0, a2)), (0, (2, 50)), (1, (2, v1))]) (st' := [(0, 2), (0, a2), (2, 57)]) rfl ?_
        refine rn_call 3 2 [(2, 57), (0, a2), (0, 2)] (r := []) rfl ⟨rfl, Or.inr ⟨_, rfl, by decide⟩⟩ (by decide) (fun z => absurd z (by decide)) rfl rfl (Nat.le_of_ble_eq_true rfl) h (fun w hw => t_X_put (d + 2) _ _ _ _ _ hw) (fun a9 μ10 h => ?_)
        refine rn_sls 0 (pc' := 61) (ls' := [(2, (0, a2)), (0, (2, 50)), (1, (2, v1))]) (st' := []) rfl ?_
        refine rn_sls 5 (pc' := 68) (ls' := [(2, (0, a2)), (0, (2, 50)), (1, (2, v1))]) (st' := [(0, (w32 ((μ10 50 8) + 1))), (2, 50)]) rfl ?_
        refine rn_put rfl rfl rfl rfl (Or.inl ⟨rfl, rfl⟩) rfl h (fun μ11 h => ?_)
        refine rn_sls 1 (pc' := 72) (ls' := [(2, (0, a2)), (0, (2, 50)), (1, (2, v1))]) (st' := [(2, v1)]) rfl ?_
        refine rn_get ho4 rfl rfl rfl ?_
        refine rn_sls 0 (pc' := 75) (ls' := [(2, (0, a2)), (0, (2, 50)), (1, (2, v1))]) (st' := [(2, (v1 + 6))]) rfl ?_
        refine rn_sls 1 (pc' := 76) (ls' := [(2, (0, a2)), (0, (2, 50)), (1, (2, v1))]) (st' := [(0, a2), (2, (v1 + 6))]) rfl ?_
        refine rn_call 3 0 [(2, (v1 + 6)), (0, a2)] (r := []) rfl ⟨rfl, Or.inr ⟨_, rfl, by decide⟩⟩ (by decide) (fun z => absurd z (by decide)) rfl rfl (Nat.le_of_ble_eq_true rfl) h (fun w hw => t_X_at (d + 2) _ _ _ _ hw) (fun a12 μ13 h => ?_)
        refine rn_sls 0 (pc' := 79) (ls' := [(2, (0, a2)), (0, (2, 50)), (1, (2, v1))]) (st' := [(0, a12)]) rfl ?_
        refine rn_sls 2 (pc' := 81) (ls' := [(2, (0, a2)), (0, (2, 50)), (1, (2, v1))]) (st' := [(0, (w32 (a12 + 1)))]) rfl ?_
        exact rn_ireti rfl rfl rfl h rfl
      · exact rn_sub [1, 2, 0] rfl (t_Wy_turnBack_B82 d k0 hk0 _ _ _ _ h)
    · exact rn_sub [1, 2, 0] rfl (t_Wy_turnBack_B82 d k0 hk0 _ _ _ _ h)
set_option maxRecDepth 20000 in
theorem t_Wy_turnBack_L0 (d : Nat) : ∀ (n : Nat) (v1 : Int) (μ : am_M) q, Wy_turnBack_L0 n v1 μ = some q → am_run none (am_ar g_mt (d + 3)) 3 (some .int) k_Wy_turnBack 0 [(0, (2, 50)), (1, (2, v1))] [] μ (am_res 0 q) := by
  intro n
  induction n with
  | zero => intro v1 μ q h; cases h
  | succ n ih => intro v1 μ q h; exact t_Wy_turnBack_L0_b d (Wy_turnBack_L0 n) ih v1 μ q h
set_option maxRecDepth 20000 in
theorem t_Wy_turnBack (d : Nat) : ∀ (v1 : Int) (μ : am_M) q, Wy_turnBack v1 μ = some q → am_ar g_mt (d + 4) 115 [(2, 50), (2, v1)] μ (am_res 0 q) := by
  intro v1 μ q h
  unfold Wy_turnBack at h
  refine am_ar_of (d := d + 3) i_Wy_turnBack rfl rfl (Nat.le_of_ble_eq_true rfl) ?_
  show am_run none (am_ar g_mt (d + 3)) 3 (some .int) k_Wy_turnBack 0 [(0, (2, 50)), (1, (2, v1))] [] μ (am_res 0 q)
  exact rn_sub [0, 1] rfl (t_Wy_turnBack_L0 d am_FU _ _ _ h)
