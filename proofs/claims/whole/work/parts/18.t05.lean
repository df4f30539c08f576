/-! The code does what the functions say. Printed by program. -/
set_option maxRecDepth 20000 in
theorem t_M_readsE_B231 (d : Nat) (k21 : Int → Int → Int → am_M → am_O) (hk21 : ∀ (v1 : Int) (v2 : Int) (v3 : Int) (μ : am_M) q, k21 v1 v2 v3 μ = some q → am_run none (am_ar g_mt (d + 2)) 9 (some .boolean) k_M_readsE 21 [(0, (2, 1000)), (1, (0, v1)), (2, (0, v2)), (3, (0, v3))] [] μ (am_res 0 q)) : ∀ (v1 : Int) (v2 : Int) (v3 : Int) (μ : am_M) q, M_readsE_B231 k21 v1 v2 v3 μ = some q → am_run none (am_ar g_mt (d + 2)) 9 (some .boolean) k_M_readsE 231 [(0, (2, 1000)), (1, (0, v1)), (2, (0, v2)), (3, (0, v3))] [] μ (am_res 0 q) := by
  intro v1 v2 v3 μ q h
  unfold M_readsE_B231 at h
  refine rn_sls 1 (pc' := 232) (ls' := [(0, (2, 1000)), (1, (0, v1)), (2, (0, v2)), (3, (0, v3))]) (st' := [(2, 1000)]) rfl ?_
  refine rn_call 0 2 [(2, 1000)] (r := []) rfl ⟨rfl, Or.inl ⟨_, rfl, by decide⟩⟩ (by decide) (fun _ => ⟨_, rfl, rfl⟩) rfl rfl (Nat.le_of_ble_eq_true rfl) h (fun w hw => t_M_nextToken (d + 0)  _ _ hw) (fun a1 μ2 h => ?_)
  refine rn_sls 0 (pc' := 235) (ls' := [(0, (2, 1000)), (1, (0, v1)), (2, (0, v2)), (3, (0, v3))]) (st' := []) rfl ?_
  refine rn_goto (t := 21) rfl rfl rfl ?_
  exact rn_sub [0, 1, 2, 3] rfl (hk21 _ _ _ _ _ h)
set_option maxRecDepth 20000 in
theorem t_M_readsE_B140 (d : Nat) (k21 : Int → Int → Int → am_M → am_O) (hk21 : ∀ (v1 : Int) (v2 : Int) (v3 : Int) (μ : am_M) q, k21 v1 v2 v3 μ = some q → am_run none (am_ar g_mt (d + 2)) 9 (some .boolean) k_M_readsE 21 [(0, (2, 1000)), (1, (0, v1)), (2, (0, v2)), (3, (0, v3))] [] μ (am_res 0 q)) : ∀ (v1 : Int) (v2 : Int) (v3 : Int) (s1 : Int) (s2 : Int) (μ : am_M) q, M_readsE_B140 k21 v1 v2 v3 s1 s2 μ = some q → am_run none (am_ar g_mt (d + 2)) 9 (some .boolean) k_M_readsE 140 [(0, (2, 1000)), (1, (0, v1)), (2, (0, v2)), (3, (0, v3))] [(0, s2), (0, s1), (2, 1022)] μ (am_res 0 q) := by
  intro v1 v2 v3 s1 s2 μ q h
  unfold M_readsE_B140 at h
  refine rn_iast (n := 7) rfl rfl rfl h (fun μ1 h => ?_)
  refine rn_sls 4 (pc' := 147) (ls' := [(0, (2, 1000)), (1, (0, v1)), (2, (0, v2)), (3, (0, v3))]) (st' := [(0, 0), (0, v2), (2, 1023)]) rfl ?_
  refine rn_bast (n := 7) rfl rfl rfl h (fun μ2 h => ?_)
  refine rn_goto (t := 231) rfl rfl rfl ?_
  exact rn_sub [0, 1, 2, 3] rfl (t_M_readsE_B231 d k21 hk21 _ _ _ _ _ h)
set_option maxRecDepth 20000 in
theorem t_M_readsE_B119 (d : Nat) (k21 : Int → Int → Int → am_M → am_O) (hk21 : ∀ (v1 : Int) (v2 : Int) (v3 : Int) (μ : am_M) q, k21 v1 v2 v3 μ = some q → am_run none (am_ar g_mt (d + 2)) 9 (some .boolean) k_M_readsE 21 [(0, (2, 1000)), (1, (0, v1)), (2, (0, v2)), (3, (0, v3))] [] μ (am_res 0 q)) : ∀ (v1 : Int) (v2 : Int) (v3 : Int) (v5 : Int) (s1 : Int) (μ : am_M) q, M_readsE_B119 k21 v1 v2 v3 v5 s1 μ = some q → am_run none (am_ar g_mt (d + 2)) 9 (some .boolean) k_M_readsE 119 [(0, (2, 1000)), (1, (0, v1)), (2, (0, v2)), (3, (0, v3)), (5, (0, v5))] [(0, s1), (2, 1000)] μ (am_res 0 q) := by
  intro v1 v2 v3 v5 s1 μ q h
  unfold M_readsE_B119 at h
  refine rn_call 0 2 [(2, 1000), (0, s1)] (r := []) rfl ⟨rfl, Or.inl ⟨_, rfl, by decide⟩⟩ (by decide) (fun _ => ⟨_, rfl, rfl⟩) rfl rfl (Nat.le_of_ble_eq_true rfl) h (fun w hw => t_M_puts (d + 1) _ _ _ hw) (fun a1 μ2 h => ?_)
  refine rn_sls 0 (pc' := 122) (ls' := [(0, (2, 1000)), (1, (0, v1)), (2, (0, v2)), (3, (0, v3)), (5, (0, v5))]) (st' := []) rfl ?_
  refine rn_sls 5 (pc' := 132) (ls' := [(2, (0, (w32 (v2 + 1)))), (0, (2, 1000)), (1, (0, v1)), (3, (0, v3)), (5, (0, v5))]) (st' := [(0, v5), (0, (w32 (v2 + 1))), (2, 1022)]) rfl ?_
  refine rn_if (t := 139) rfl rfl rfl rfl h (fun h => ?_) (fun h => ?_)
  · refine rn_sls 1 (pc' := 140) (ls' := [(2, (0, (w32 (v2 + 1)))), (0, (2, 1000)), (1, (0, v1)), (3, (0, v3)), (5, (0, v5))]) (st' := [(0, 2), (0, (w32 (v2 + 1))), (2, 1022)]) rfl ?_
    exact rn_sub [1, 2, 0, 3] rfl (t_M_readsE_B140 d k21 hk21 _ _ _ _ _ _ _ h)
  · refine rn_sls 1 (pc' := 136) (ls' := [(2, (0, (w32 (v2 + 1)))), (0, (2, 1000)), (1, (0, v1)), (3, (0, v3)), (5, (0, v5))]) (st' := [(0, 1), (0, (w32 (v2 + 1))), (2, 1022)]) rfl ?_
    refine rn_goto (t := 140) rfl rfl rfl ?_
    exact rn_sub [1, 2, 0, 3] rfl (t_M_readsE_B140 d k21 hk21 _ _ _ _ _ _ _ h)
set_option maxRecDepth 20000 in
theorem t_M_readsE_B106 (d : Nat) (k21 : Int → Int → Int → am_M → am_O) (hk21 : ∀ (v1 : Int) (v2 : Int) (v3 : Int) (μ : am_M) q, k21 v1 v2 v3 μ = some q → am_run none (am_ar g_mt (d + 2)) 9 (some .boolean) k_M_readsE 21 [(0, (2, 1000)), (1, (0, v1)), (2, (0, v2)), (3, (0, v3))] [] μ (am_res 0 q)) : ∀ (v1 : Int) (v2 : Int) (v3 : Int) (v5 : Int) (μ : am_M) q, M_readsE_B106 k21 v1 v2 v3 v5 μ = some q → am_run none (am_ar g_mt (d + 2)) 9 (some .boolean) k_M_readsE 106 [(0, (2, 1000)), (1, (0, v1)), (2, (0, v2)), (3, (0, v3)), (5, (0, v5))] [] μ (am_res 0 q) := by
  intro v1 v2 v3 v5 μ q h
  unfold M_readsE_B106 at h
  refine rn_sls 2 (pc' := 109) (ls' := [(0, (2, 1000)), (1, (0, v1)), (2, (0, v2)), (3, (0, v3)), (5, (0, v5))]) (st' := [(0, v5), (2, 1000)]) rfl ?_
  refine rn_if (t := 117) rfl rfl rfl rfl h (fun h => ?_) (fun h => ?_)
  · refine rn_sls 1 (pc' := 119) (ls' := [(0, (2, 1000)), (1, (0, v1)), (2, (0, v2)), (3, (0, v3)), (5, (0, v5))]) (st' := [(0, 28), (2, 1000)]) rfl ?_
    exact rn_sub [0, 1, 2, 3, 4] rfl (t_M_readsE_B119 d k21 hk21 _ _ _ _ _ _ _ h)
  · refine rn_sls 1 (pc' := 114) (ls' := [(0, (2, 1000)), (1, (0, v1)), (2, (0, v2)), (3, (0, v3)), (5, (0, v5))]) (st' := [(0, 30), (2, 1000)]) rfl ?_
    refine rn_goto (t := 119) rfl rfl rfl ?_
    exact rn_sub [0, 1, 2, 3, 4] rfl (t_M_readsE_B119 d k21 hk21 _ _ _ _ _ _ _ h)
set_option maxRecDepth 20000 in
theorem t_M_readsE_L211_b (d : Nat) (k21 : Int → Int → Int → am_M → am_O) (hk21 : ∀ (v1 : Int) (v2 : Int) (v3 : Int) (μ : am_M) q, k21 v1 v2 v3 μ = some q → am_run none (am_ar g_mt (d + 2)) 9 (some .boolean) k_M_readsE 21 [(0, (2, 1000)), (1, (0, v1)), (2, (0, v2)), (3, (0, v3))] [] μ (am_res 0 q)) (k211 : Int → Int → Int → am_M → am_O) (hk211 : ∀ (v1 : Int) (v2 : Int) (v3 : Int) (μ : am_M) q, k211 v1 v2 v3 μ = some q → am_run none (am_ar g_mt (d + 2)) 9 (some .boolean) k_M_readsE 211 [(0, (2, 1000)), (1, (0, v1)), (2, (0, v2)), (3, (0, v3))] [] μ (am_res 0 q)) : ∀ (v1 : Int) (v2 : Int) (v3 : Int) (μ : am_M) q, M_readsE_L211_b k21 k211 v1 v2 v3 μ = some q → am_run none (am_ar g_mt (d + 2)) 9 (some .boolean) k_M_readsE 211 [(0, (2, 1000)), (1, (0, v1)), (2, (0, v2)), (3, (0, v3))] [] μ (am_res 0 q) := by
  intro v1 v2 v3 μ q h
  unfold M_readsE_L211_b at h
  refine rn_sls 1 (pc' := 212) (ls' := [(0, (2, 1000)), (1, (0, v1)), (2, (0, v2)), (3, (0, v3))]) (st' := [(0, v2)]) rfl ?_
  refine rn_if (t := 231) rfl rfl rfl rfl h (fun h => ?_) (fun h => ?_)
  · exact rn_sub [0, 1, 2, 3] rfl (t_M_readsE_B231 d k21 hk21 _ _ _ _ _ h)
  · refine rn_sls 3 (pc' := 220) (ls' := [(0, (2, 1000)), (1, (0, v1)), (2, (0, v2)), (3, (0, v3))]) (st' := [(0, v2), (2, 1022)]) rfl ?_
    refine rn_iald (n := 7) rfl rfl rfl h (fun a1 h => ?_)
    refine rn_sls 1 (pc' := 222) (ls' := [(0, (2, 1000)), (1, (0, v1)), (2, (0, v2)), (3, (0, v3))]) (st' := [(0, 1), (0, a1)]) rfl ?_
    refine rn_icmpn (t := 231) rfl rfl rfl rfl h (fun h => ?_) (fun h => ?_)
    · refine rn_sls 1 (pc' := 228) (ls' := [(2, (0, (w32 (v2 + (-1))))), (0, (2, 1000)), (1, (0, v1)), (3, (0, v3))]) (st' := []) rfl ?_
      refine rn_goto (t := 211) rfl rfl rfl ?_
      exact rn_sub [1, 2, 0, 3] rfl (hk211 _ _ _ _ _ h)
    · exact rn_sub [0, 1, 2, 3] rfl (t_M_readsE_B231 d k21 hk21 _ _ _ _ _ h)
set_option maxRecDepth 20000 in
theorem t_M_readsE_L211 (d : Nat) (k21 : Int → Int → Int → am_M → am_O) (hk21 : ∀ (v1 : Int) (v2 : Int) (v3 : Int) (μ : am_M) q, k21 v1 v2 v3 μ = some q → am_run none (am_ar g_mt (d + 2)) 9 (some .boolean) k_M_readsE 21 [(0, (2, 1000)), (1, (0, v1)), (2, (0, v2)), (3, (0, v3))] [] μ (am_res 0 q)) : ∀ (n : Nat) (v1 : Int) (v2 : Int) (v3 : Int) (μ : am_M) q, M_readsE_L211 k21 n v1 v2 v3 μ = some q → am_run none (am_ar g_mt (d + 2)) 9 (some .boolean) k_M_readsE 211 [(0, (2, 1000)), (1, (0, v1)), (2, (0, v2)), (3, (0, v3))] [] μ (am_res 0 q) := by
  intro n
  induction n with
  | zero => intro v1 v2 v3 μ q h; cases h
  | succ n ih => intro v1 v2 v3 μ q h; exact t_M_readsE_L211_b d k21 hk21 (M_readsE_L211 k21 n) ih v1 v2 v3 μ q h
set_option maxRecDepth 20000 in
theorem t_M_readsE_B203 (d : Nat) (k21 : Int → Int → Int → am_M → am_O) (hk21 : ∀ (v1 : Int) (v2 : Int) (v3 : Int) (μ : am_M) q, k21 v1 v2 v3 μ = some q → am_run none (am_ar g_mt (d + 2)) 9 (some .boolean) k_M_readsE 21 [(0, (2, 1000)), (1, (0, v1)), (2, (0, v2)), (3, (0, v3))] [] μ (am_res 0 q)) : ∀ (v1 : Int) (v2 : Int) (v7 : Int) (μ : am_M) q, M_readsE_B203 k21 v1 v2 v7 μ = some q → am_run none (am_ar g_mt (d + 2)) 9 (some .boolean) k_M_readsE 203 [(0, (2, 1000)), (1, (0, v1)), (2, (0, v2)), (7, (0, v7))] [] μ (am_res 0 q) := by
  intro v1 v2 v7 μ q h
  unfold M_readsE_B203 at h
  refine rn_sls 2 (pc' := 206) (ls' := [(0, (2, 1000)), (1, (0, v1)), (2, (0, v2)), (7, (0, v7))]) (st' := [(0, v7), (2, 1000)]) rfl ?_
  refine rn_call 0 2 [(2, 1000), (0, v7)] (r := []) rfl ⟨rfl, Or.inl ⟨_, rfl, by decide⟩⟩ (by decide) (fun _ => ⟨_, rfl, rfl⟩) rfl rfl (Nat.le_of_ble_eq_true rfl) h (fun w hw => t_M_puts (d + 1) _ _ _ hw) (fun a1 μ2 h => ?_)
  refine rn_sls 0 (pc' := 209) (ls' := [(0, (2, 1000)), (1, (0, v1)), (2, (0, v2)), (7, (0, v7))]) (st' := []) rfl ?_
  refine rn_sls 2 (pc' := 211) (ls' := [(3, (0, 0)), (0, (2, 1000)), (1, (0, v1)), (2, (0, v2)), (7, (0, v7))]) (st' := []) rfl ?_
  exact rn_sub [1, 2, 3, 0] rfl (t_M_readsE_L211 d k21 hk21 am_FU _ _ _ _ _ h)
set_option maxRecDepth 20000 in
theorem t_M_readsE_B190 (d : Nat) (k21 : Int → Int → Int → am_M → am_O) (hk21 : ∀ (v1 : Int) (v2 : Int) (v3 : Int) (μ : am_M) q, k21 v1 v2 v3 μ = some q → am_run none (am_ar g_mt (d + 2)) 9 (some .boolean) k_M_readsE 21 [(0, (2, 1000)), (1, (0, v1)), (2, (0, v2)), (3, (0, v3))] [] μ (am_res 0 q)) : ∀ (v1 : Int) (v2 : Int) (s0 : Int) (μ : am_M) q, M_readsE_B190 k21 v1 v2 s0 μ = some q → am_run none (am_ar g_mt (d + 2)) 9 (some .boolean) k_M_readsE 190 [(0, (2, 1000)), (1, (0, v1)), (2, (0, v2))] [(0, s0)] μ (am_res 0 q) := by
  intro v1 v2 s0 μ q h
  unfold M_readsE_B190 at h
  refine rn_sls 2 (pc' := 194) (ls' := [(7, (0, s0)), (0, (2, 1000)), (1, (0, v1)), (2, (0, v2))]) (st' := [(0, s0)]) rfl ?_
  refine rn_ifn (t := 203) rfl rfl rfl rfl h (fun h => ?_) (fun h => ?_)
  · refine rn_sls 2 (pc' := 199) (ls' := [(7, (0, s0)), (0, (2, 1000)), (1, (0, v1)), (2, (0, v2))]) (st' := [(0, 5), (2, 1000)]) rfl ?_
    refine rn_call 0 0 [(2, 1000), (0, 5)] (r := []) rfl ⟨rfl, Or.inl ⟨_, rfl, by decide⟩⟩ (by decide) (fun _ => ⟨_, rfl, rfl⟩) rfl rfl (Nat.le_of_ble_eq_true rfl) h (fun w hw => t_M_fails (d + 1) _ _ _ hw) (fun a1 μ2 h => ?_)
    refine rn_sls 0 (pc' := 202) (ls' := [(7, (0, s0)), (0, (2, 1000)), (1, (0, v1)), (2, (0, v2))]) (st' := [(0, a1)]) rfl ?_
    exact rn_iretB rfl rfl rfl h rfl
  · exact rn_sub [1, 2, 3, 0] rfl (t_M_readsE_B203 d k21 hk21 _ _ _ _ _ h)
set_option maxRecDepth 20000 in
theorem t_M_readsE_B85 (d : Nat) (k21 : Int → Int → Int → am_M → am_O) (hk21 : ∀ (v1 : Int) (v2 : Int) (v3 : Int) (μ : am_M) q, k21 v1 v2 v3 μ = some q → am_run none (am_ar g_mt (d + 2)) 9 (some .boolean) k_M_readsE 21 [(0, (2, 1000)), (1, (0, v1)), (2, (0, v2)), (3, (0, v3))] [] μ (am_res 0 q)) : ∀ (v1 : Int) (v2 : Int) (v3 : Int) (v4 : Int) (v5 : Int) (v6 : Int) (μ : am_M) q, M_readsE_B85 k21 v1 v2 v3 v4 v5 v6 μ = some q → am_run none (am_ar g_mt (d + 2)) 9 (some .boolean) k_M_readsE 85 [(0, (2, 1000)), (1, (0, v1)), (2, (0, v2)), (3, (0, v3)), (4, (0, v4)), (5, (0, v5)), (6, (0, v6))] [] μ (am_res 0 q) := by
  intro v1 v2 v3 v4 v5 v6 μ q h
  unfold M_readsE_B85 at h
  refine rn_sls 2 (pc' := 87) (ls' := [(0, (2, 1000)), (1, (0, v1)), (2, (0, v2)), (3, (0, v3)), (4, (0, v4)), (5, (0, v5)), (6, (0, v6))]) (st' := [(0, 5), (0, v2)]) rfl ?_
  refine rn_icmpn (t := 96) rfl rfl rfl rfl h (fun h => ?_) (fun h => ?_)
  · refine rn_sls 2 (pc' := 92) (ls' := [(0, (2, 1000)), (1, (0, v1)), (2, (0, v2)), (3, (0, v3)), (4, (0, v4)), (5, (0, v5)), (6, (0, v6))]) (st' := [(0, 5), (2, 1000)]) rfl ?_
    refine rn_call 0 0 [(2, 1000), (0, 5)] (r := []) rfl ⟨rfl, Or.inl ⟨_, rfl, by decide⟩⟩ (by decide) (fun _ => ⟨_, rfl, rfl⟩) rfl rfl (Nat.le_of_ble_eq_true rfl) h (fun w hw => t_M_fails (d + 1) _ _ _ hw) (fun a5 μ6 h => ?_)
    refine rn_sls 0 (pc' := 95) (ls' := [(0, (2, 1000)), (1, (0, v1)), (2, (0, v2)), (3, (0, v3)), (4, (0, v4)), (5, (0, v5)), (6, (0, v6))]) (st' := [(0, a5)]) rfl ?_
    exact rn_iretB rfl rfl rfl h rfl
  · refine rn_sls 1 (pc' := 98) (ls' := [(0, (2, 1000)), (1, (0, v1)), (2, (0, v2)), (3, (0, v3)), (4, (0, v4)), (5, (0, v5)), (6, (0, v6))]) (st' := [(0, v5)]) rfl ?_
    refine rn_ifn (t := 106) rfl rfl rfl rfl h (fun h => ?_) (fun h => ?_)
    · refine rn_sls 1 (pc' := 103) (ls' := [(0, (2, 1000)), (1, (0, v1)), (2, (0, v2)), (3, (0, v3)), (4, (0, v4)), (5, (0, v5)), (6, (0, v6))]) (st' := [(0, v6)]) rfl ?_
      refine rn_if (t := 151) rfl rfl rfl rfl h (fun h => ?_) (fun h => ?_)
      · refine rn_sls 6 (pc' := 162) (ls' := [(7, (0, (w32 (100 + (μ 1000 8))))), (0, (2, 1000)), (1, (0, v1)), (2, (0, v2)), (3, (0, v3)), (4, (0, v4)), (5, (0, v5)), (6, (0, v6))]) (st' := [(0, v4)]) rfl ?_
        refine rn_if (t := 203) rfl rfl rfl rfl h (fun h => ?_) (fun h => ?_)
        · exact rn_sub [1, 2, 3, 0] rfl (t_M_readsE_B203 d k21 hk21 _ _ _ _ _ h)
        · refine rn_sls 1 (pc' := 166) (ls' := [(7, (0, (w32 (100 + (μ 1000 8))))), (0, (2, 1000)), (1, (0, v1)), (2, (0, v2)), (3, (0, v3)), (4, (0, v4)), (5, (0, v5)), (6, (0, v6))]) (st' := [(2, 1000)]) rfl ?_
          refine rn_call 0 0 [(2, 1000)] (r := []) rfl ⟨rfl, Or.inl ⟨_, rfl, by decide⟩⟩ (by decide) (fun _ => ⟨_, rfl, rfl⟩) rfl rfl (Nat.le_of_ble_eq_true rfl) h (fun w hw => t_M_wallOf (d + 1)  _ _ hw) (fun a1 μ2 h => ?_)
          refine rn_sls 0 (pc' := 169) (ls' := [(7, (0, (w32 (100 + (μ 1000 8))))), (0, (2, 1000)), (1, (0, v1)), (2, (0, v2)), (3, (0, v3)), (4, (0, v4)), (5, (0, v5)), (6, (0, v6))]) (st' := [(0, a1)]) rfl ?_
          refine rn_sls 2 (pc' := 173) (ls' := [(8, (0, a1)), (7, (0, (w32 (100 + (μ 1000 8))))), (0, (2, 1000)), (1, (0, v1)), (2, (0, v2)), (3, (0, v3)), (4, (0, v4)), (5, (0, v5)), (6, (0, v6))]) (st' := [(0, a1)]) rfl ?_
          refine rn_if (t := 184) rfl rfl rfl rfl h (fun h => ?_) (fun h => ?_)
          · refine rn_sls 2 (pc' := 186) (ls' := [(8, (0, a1)), (7, (0, (w32 (100 + (μ 1000 8))))), (0, (2, 1000)), (1, (0, v1)), (2, (0, v2)), (3, (0, v3)), (4, (0, v4)), (5, (0, v5)), (6, (0, v6))]) (st' := [(2, 1000), (0, 1)]) rfl ?_
            refine rn_call 0 0 [(2, 1000)] (r := [(0, 1)]) rfl ⟨rfl, Or.inl ⟨_, rfl, by decide⟩⟩ (by decide) (fun _ => ⟨_, rfl, rfl⟩) rfl rfl (Nat.le_of_ble_eq_true rfl) h (fun w hw => t_M_slipOf (d + 1)  _ _ hw) (fun a3 μ4 h => ?_)
            refine rn_sls 0 (pc' := 189) (ls' := [(8, (0, a1)), (7, (0, (w32 (100 + (μ 1000 8))))), (0, (2, 1000)), (1, (0, v1)), (2, (0, v2)), (3, (0, v3)), (4, (0, v4)), (5, (0, v5)), (6, (0, v6))]) (st' := [(0, a3), (0, 1)]) rfl ?_
            refine rn_sls 1 (pc' := 190) (ls' := [(8, (0, a1)), (7, (0, (w32 (100 + (μ 1000 8))))), (0, (2, 1000)), (1, (0, v1)), (2, (0, v2)), (3, (0, v3)), (4, (0, v4)), (5, (0, v5)), (6, (0, v6))]) (st' := [(0, (w32 (1 + a3)))]) rfl ?_
            exact rn_sub [2, 3, 4] rfl (t_M_readsE_B190 d k21 hk21 _ _ _ _ _ h)
          · refine rn_sls 3 (pc' := 181) (ls' := [(8, (0, a1)), (7, (0, (w32 (100 + (μ 1000 8))))), (0, (2, 1000)), (1, (0, v1)), (2, (0, v2)), (3, (0, v3)), (4, (0, v4)), (5, (0, v5)), (6, (0, v6))]) (st' := [(0, (w32 (11 + a1)))]) rfl ?_
            refine rn_goto (t := 190) rfl rfl rfl ?_
            exact rn_sub [2, 3, 4] rfl (t_M_readsE_B190 d k21 hk21 _ _ _ _ _ h)
      · exact rn_sub [0, 1, 2, 3, 5] rfl (t_M_readsE_B106 d k21 hk21 _ _ _ _ _ _ h)
    · exact rn_sub [0, 1, 2, 3, 5] rfl (t_M_readsE_B106 d k21 hk21 _ _ _ _ _ _ h)
set_option maxRecDepth 20000 in
theorem t_M_readsE_B37 (d : Nat) (k21 : Int → Int → Int → am_M → am_O) (hk21 : ∀ (v1 : Int) (v2 : Int) (v3 : Int) (μ : am_M) q, k21 v1 v2 v3 μ = some q → am_run none (am_ar g_mt (d + 2)) 9 (some .boolean) k_M_readsE 21 [(0, (2, 1000)), (1, (0, v1)), (2, (0, v2)), (3, (0, v3))] [] μ (am_res 0 q)) : ∀ (v1 : Int) (v2 : Int) (v3 : Int) (s0 : Int) (μ : am_M) q, M_readsE_B37 k21 v1 v2 v3 s0 μ = some q → am_run none (am_ar g_mt (d + 2)) 9 (some .boolean) k_M_readsE 37 [(0, (2, 1000)), (1, (0, v1)), (2, (0, v2)), (3, (0, v3))] [(0, s0)] μ (am_res 0 q) := by
  intro v1 v2 v3 s0 μ q h
  unfold M_readsE_B37 at h
  refine rn_sls 3 (pc' := 43) (ls' := [(4, (0, s0)), (0, (2, 1000)), (1, (0, v1)), (2, (0, v2)), (3, (0, v3))]) (st' := [(1, 10631), (2, 1000)]) rfl ?_
  refine rn_call 0 0 [(2, 1000), (1, 10631)] (r := []) rfl ⟨rfl, Or.inl ⟨_, rfl, by decide⟩⟩ (by decide) (fun _ => ⟨_, rfl, rfl⟩) rfl rfl (Nat.le_of_ble_eq_true rfl) h (fun w hw => t_M_isWord (d + 1) _ _ _ hw) (fun a1 μ2 h => ?_)
  refine rn_sls 0 (pc' := 46) (ls' := [(4, (0, s0)), (0, (2, 1000)), (1, (0, v1)), (2, (0, v2)), (3, (0, v3))]) (st' := [(0, a1)]) rfl ?_
  refine rn_sls 3 (pc' := 51) (ls' := [(5, (0, a1)), (4, (0, s0)), (0, (2, 1000)), (1, (0, v1)), (2, (0, v2)), (3, (0, v3))]) (st' := [(0, 40), (2, 1000)]) rfl ?_
  refine rn_call 0 0 [(2, 1000), (0, 40)] (r := []) rfl ⟨rfl, Or.inl ⟨_, rfl, by decide⟩⟩ (by decide) (fun _ => ⟨_, rfl, rfl⟩) rfl rfl (Nat.le_of_ble_eq_true rfl) h (fun w hw => t_M_isSign (d + 1) _ _ _ hw) (fun a3 μ4 h => ?_)
  refine rn_sls 0 (pc' := 54) (ls' := [(5, (0, a1)), (4, (0, s0)), (0, (2, 1000)), (1, (0, v1)), (2, (0, v2)), (3, (0, v3))]) (st' := [(0, a3)]) rfl ?_
  refine rn_sls 2 (pc' := 58) (ls' := [(6, (0, a3)), (5, (0, a1)), (4, (0, s0)), (0, (2, 1000)), (1, (0, v1)), (2, (0, v2)), (3, (0, v3))]) (st' := [(0, s0)]) rfl ?_
  refine rn_ifn (t := 85) rfl rfl rfl rfl h (fun h => ?_) (fun h => ?_)
  · refine rn_sls 1 (pc' := 63) (ls' := [(6, (0, a3)), (5, (0, a1)), (4, (0, s0)), (0, (2, 1000)), (1, (0, v1)), (2, (0, v2)), (3, (0, v3))]) (st' := [(0, a1)]) rfl ?_
    refine rn_ifn (t := 85) rfl rfl rfl rfl h (fun h => ?_) (fun h => ?_)
    · refine rn_sls 1 (pc' := 68) (ls' := [(6, (0, a3)), (5, (0, a1)), (4, (0, s0)), (0, (2, 1000)), (1, (0, v1)), (2, (0, v2)), (3, (0, v3))]) (st' := [(0, a3)]) rfl ?_
      refine rn_ifn (t := 85) rfl rfl rfl rfl h (fun h => ?_) (fun h => ?_)
      · refine rn_sls 3 (pc' := 76) (ls' := [(6, (0, a3)), (5, (0, a1)), (4, (0, s0)), (0, (2, 1000)), (1, (0, v1)), (2, (0, v2)), (3, (0, v3))]) (st' := [(0, 2), (0, (μ4 1000 6))]) rfl ?_
        refine rn_icmp (t := 85) rfl rfl rfl rfl h (fun h => ?_) (fun h => ?_)
        · exact rn_sub [3, 4, 5, 6, 2, 1, 0] rfl (t_M_readsE_B85 d k21 hk21 _ _ _ _ _ _ _ _ h)
        · refine rn_sls 2 (pc' := 81) (ls' := [(6, (0, a3)), (5, (0, a1)), (4, (0, s0)), (0, (2, 1000)), (1, (0, v1)), (2, (0, v2)), (3, (0, v3))]) (st' := [(0, 1), (2, 1000)]) rfl ?_
          refine rn_call 0 0 [(2, 1000), (0, 1)] (r := []) rfl ⟨rfl, Or.inl ⟨_, rfl, by decide⟩⟩ (by decide) (fun _ => ⟨_, rfl, rfl⟩) rfl rfl (Nat.le_of_ble_eq_true rfl) h (fun w hw => t_M_fails (d + 1) _ _ _ hw) (fun a5 μ6 h => ?_)
          refine rn_sls 0 (pc' := 84) (ls' := [(6, (0, a3)), (5, (0, a1)), (4, (0, s0)), (0, (2, 1000)), (1, (0, v1)), (2, (0, v2)), (3, (0, v3))]) (st' := [(0, a5)]) rfl ?_
          exact rn_iretB rfl rfl rfl h rfl
      · exact rn_sub [3, 4, 5, 6, 2, 1, 0] rfl (t_M_readsE_B85 d k21 hk21 _ _ _ _ _ _ _ _ h)
    · exact rn_sub [3, 4, 5, 6, 2, 1, 0] rfl (t_M_readsE_B85 d k21 hk21 _ _ _ _ _ _ _ _ h)
  · exact rn_sub [3, 4, 5, 6, 2, 1, 0] rfl (t_M_readsE_B85 d k21 hk21 _ _ _ _ _ _ _ _ h)
set_option maxRecDepth 20000 in
theorem t_M_readsE_B493 (d : Nat) (k21 : Int → Int → Int → am_M → am_O) (hk21 : ∀ (v1 : Int) (v2 : Int) (v3 : Int) (μ : am_M) q, k21 v1 v2 v3 μ = some q → am_run none (am_ar g_mt (d + 2)) 9 (some .boolean) k_M_readsE 21 [(0, (2, 1000)), (1, (0, v1)), (2, (0, v2)), (3, (0, v3))] [] μ (am_res 0 q)) : ∀ (v1 : Int) (v2 : Int) (v3 : Int) (μ : am_M) q, M_readsE_B493 k21 v1 v2 v3 μ = some q → am_run none (am_ar g_mt (d + 2)) 9 (some .boolean) k_M_readsE 493 [(0, (2, 1000)), (1, (0, v1)), (2, (0, v2)), (3, (0, v3))] [] μ (am_res 0 q) := by
  intro v1 v2 v3 μ q h
  unfold M_readsE_B493 at h
  refine rn_sls 1 (pc' := 494) (ls' := [(0, (2, 1000)), (1, (0, v1)), (2, (0, v2)), (3, (0, v3))]) (st' := [(2, 1000)]) rfl ?_
  refine rn_call 0 2 [(2, 1000)] (r := []) rfl ⟨rfl, Or.inl ⟨_, rfl, by decide⟩⟩ (by decide) (fun _ => ⟨_, rfl, rfl⟩) rfl rfl (Nat.le_of_ble_eq_true rfl) h (fun w hw => t_M_nextToken (d + 0)  _ _ hw) (fun a1 μ2 h => ?_)
  refine rn_sls 0 (pc' := 497) (ls' := [(0, (2, 1000)), (1, (0, v1)), (2, (0, v2)), (3, (0, v3))]) (st' := []) rfl ?_
  refine rn_goto (t := 21) rfl rfl rfl ?_
  exact rn_sub [0, 1, 2, 3] rfl (hk21 _ _ _ _ _ h)
set_option maxRecDepth 20000 in
theorem t_M_readsE_B296 (d : Nat) (k21 : Int → Int → Int → am_M → am_O) (hk21 : ∀ (v1 : Int) (v2 : Int) (v3 : Int) (μ : am_M) q, k21 v1 v2 v3 μ = some q → am_run none (am_ar g_mt (d + 2)) 9 (some .boolean) k_M_readsE 21 [(0, (2, 1000)), (1, (0, v1)), (2, (0, v2)), (3, (0, v3))] [] μ (am_res 0 q)) : ∀ (v1 : Int) (v2 : Int) (s1 : Int) (μ : am_M) q, M_readsE_B296 k21 v1 v2 s1 μ = some q → am_run none (am_ar g_mt (d + 2)) 9 (some .boolean) k_M_readsE 296 [(0, (2, 1000)), (1, (0, v1)), (2, (0, v2))] [(0, s1), (2, 1000)] μ (am_res 0 q) := by
  intro v1 v2 s1 μ q h
  unfold M_readsE_B296 at h
  refine rn_call 0 2 [(2, 1000), (0, s1)] (r := []) rfl ⟨rfl, Or.inl ⟨_, rfl, by decide⟩⟩ (by decide) (fun _ => ⟨_, rfl, rfl⟩) rfl rfl (Nat.le_of_ble_eq_true rfl) h (fun w hw => t_M_puts (d + 1) _ _ _ hw) (fun a1 μ2 h => ?_)
  refine rn_sls 0 (pc' := 299) (ls' := [(0, (2, 1000)), (1, (0, v1)), (2, (0, v2))]) (st' := []) rfl ?_
  refine rn_sls 2 (pc' := 301) (ls' := [(3, (0, 1)), (0, (2, 1000)), (1, (0, v1)), (2, (0, v2))]) (st' := []) rfl ?_
  refine rn_goto (t := 493) rfl rfl rfl ?_
  exact rn_sub [1, 2, 3, 0] rfl (t_M_readsE_B493 d k21 hk21 _ _ _ _ _ h)
set_option maxRecDepth 20000 in
theorem t_M_readsE_B265 (d : Nat) (k21 : Int → Int → Int → am_M → am_O) (hk21 : ∀ (v1 : Int) (v2 : Int) (v3 : Int) (μ : am_M) q, k21 v1 v2 v3 μ = some q → am_run none (am_ar g_mt (d + 2)) 9 (some .boolean) k_M_readsE 21 [(0, (2, 1000)), (1, (0, v1)), (2, (0, v2)), (3, (0, v3))] [] μ (am_res 0 q)) : ∀ (v1 : Int) (v2 : Int) (μ : am_M) q, M_readsE_B265 k21 v1 v2 μ = some q → am_run none (am_ar g_mt (d + 2)) 9 (some .boolean) k_M_readsE 265 [(0, (2, 1000)), (1, (0, v1)), (2, (0, v2))] [] μ (am_res 0 q) := by
  intro v1 v2 μ q h
  unfold M_readsE_B265 at h
  refine rn_sls 3 (pc' := 269) (ls' := [(0, (2, 1000)), (1, (0, v1)), (2, (0, v2))]) (st' := [(0, 43), (2, 1000), (2, 1000)]) rfl ?_
  refine rn_call 0 0 [(2, 1000), (0, 43)] (r := [(2, 1000)]) rfl ⟨rfl, Or.inl ⟨_, rfl, by decide⟩⟩ (by decide) (fun _ => ⟨_, rfl, rfl⟩) rfl rfl (Nat.le_of_ble_eq_true rfl) h (fun w hw => t_M_isSign (d + 1) _ _ _ hw) (fun a1 μ2 h => ?_)
  refine rn_sls 0 (pc' := 272) (ls' := [(0, (2, 1000)), (1, (0, v1)), (2, (0, v2))]) (st' := [(0, a1), (2, 1000)]) rfl ?_
  refine rn_if (t := 280) rfl rfl rfl rfl h (fun h => ?_) (fun h => ?_)
  · refine rn_sls 2 (pc' := 283) (ls' := [(0, (2, 1000)), (1, (0, v1)), (2, (0, v2))]) (st' := [(0, 45), (2, 1000), (2, 1000)]) rfl ?_
    refine rn_call 0 0 [(2, 1000), (0, 45)] (r := [(2, 1000)]) rfl ⟨rfl, Or.inl ⟨_, rfl, by decide⟩⟩ (by decide) (fun _ => ⟨_, rfl, rfl⟩) rfl rfl (Nat.le_of_ble_eq_true rfl) h (fun w hw => t_M_isSign (d + 1) _ _ _ hw) (fun a3 μ4 h => ?_)
    refine rn_sls 0 (pc' := 286) (ls' := [(0, (2, 1000)), (1, (0, v1)), (2, (0, v2))]) (st' := [(0, a3), (2, 1000)]) rfl ?_
    refine rn_if (t := 294) rfl rfl rfl rfl h (fun h => ?_) (fun h => ?_)
    · refine rn_sls 1 (pc' := 296) (ls' := [(0, (2, 1000)), (1, (0, v1)), (2, (0, v2))]) (st' := [(0, 22), (2, 1000)]) rfl ?_
      exact rn_sub [0, 1, 2] rfl (t_M_readsE_B296 d k21 hk21 _ _ _ _ _ h)
    · refine rn_sls 1 (pc' := 291) (ls' := [(0, (2, 1000)), (1, (0, v1)), (2, (0, v2))]) (st' := [(0, 21), (2, 1000)]) rfl ?_
      refine rn_goto (t := 296) rfl rfl rfl ?_
      exact rn_sub [0, 1, 2] rfl (t_M_readsE_B296 d k21 hk21 _ _ _ _ _ h)
  · refine rn_sls 1 (pc' := 277) (ls' := [(0, (2, 1000)), (1, (0, v1)), (2, (0, v2))]) (st' := [(0, 20), (2, 1000)]) rfl ?_
    refine rn_goto (t := 296) rfl rfl rfl ?_
    exact rn_sub [0, 1, 2] rfl (t_M_readsE_B296 d k21 hk21 _ _ _ _ _ h)
set_option maxRecDepth 20000 in
theorem t_M_readsE_B348 (d : Nat) (k21 : Int → Int → Int → am_M → am_O) (hk21 : ∀ (v1 : Int) (v2 : Int) (v3 : Int) (μ : am_M) q, k21 v1 v2 v3 μ = some q → am_run none (am_ar g_mt (d + 2)) 9 (some .boolean) k_M_readsE 21 [(0, (2, 1000)), (1, (0, v1)), (2, (0, v2)), (3, (0, v3))] [] μ (am_res 0 q)) : ∀ (v1 : Int) (v2 : Int) (s1 : Int) (μ : am_M) q, M_readsE_B348 k21 v1 v2 s1 μ = some q → am_run none (am_ar g_mt (d + 2)) 9 (some .boolean) k_M_readsE 348 [(0, (2, 1000)), (1, (0, v1)), (2, (0, v2))] [(0, s1), (2, 1000)] μ (am_res 0 q) := by
  intro v1 v2 s1 μ q h
  unfold M_readsE_B348 at h
  refine rn_call 0 2 [(2, 1000), (0, s1)] (r := []) rfl ⟨rfl, Or.inl ⟨_, rfl, by decide⟩⟩ (by decide) (fun _ => ⟨_, rfl, rfl⟩) rfl rfl (Nat.le_of_ble_eq_true rfl) h (fun w hw => t_M_puts (d + 1) _ _ _ hw) (fun a1 μ2 h => ?_)
  refine rn_sls 0 (pc' := 351) (ls' := [(0, (2, 1000)), (1, (0, v1)), (2, (0, v2))]) (st' := []) rfl ?_
  refine rn_sls 4 (pc' := 357) (ls' := [(0, (2, 1000)), (1, (0, v1)), (2, (0, v2))]) (st' := [(0, 1), (0, v2), (2, 1023)]) rfl ?_
  refine rn_bast (n := 7) rfl rfl rfl h (fun μ3 h => ?_)
  refine rn_sls 2 (pc' := 360) (ls' := [(3, (0, 1)), (0, (2, 1000)), (1, (0, v1)), (2, (0, v2))]) (st' := []) rfl ?_
  refine rn_goto (t := 493) rfl rfl rfl ?_
  exact rn_sub [1, 2, 3, 0] rfl (t_M_readsE_B493 d k21 hk21 _ _ _ _ _ h)
set_option maxRecDepth 20000 in
theorem t_M_readsE_B401 (d : Nat) (k21 : Int → Int → Int → am_M → am_O) (hk21 : ∀ (v1 : Int) (v2 : Int) (v3 : Int) (μ : am_M) q, k21 v1 v2 v3 μ = some q → am_run none (am_ar g_mt (d + 2)) 9 (some .boolean) k_M_readsE 21 [(0, (2, 1000)), (1, (0, v1)), (2, (0, v2)), (3, (0, v3))] [] μ (am_res 0 q)) : ∀ (v1 : Int) (v2 : Int) (s1 : Int) (μ : am_M) q, M_readsE_B401 k21 v1 v2 s1 μ = some q → am_run none (am_ar g_mt (d + 2)) 9 (some .boolean) k_M_readsE 401 [(0, (2, 1000)), (1, (0, v1)), (2, (0, v2))] [(0, s1), (2, 1000)] μ (am_res 0 q) := by
  intro v1 v2 s1 μ q h
  unfold M_readsE_B401 at h
  refine rn_call 0 2 [(2, 1000), (0, s1)] (r := []) rfl ⟨rfl, Or.inl ⟨_, rfl, by decide⟩⟩ (by decide) (fun _ => ⟨_, rfl, rfl⟩) rfl rfl (Nat.le_of_ble_eq_true rfl) h (fun w hw => t_M_puts (d + 1) _ _ _ hw) (fun a1 μ2 h => ?_)
  refine rn_sls 0 (pc' := 404) (ls' := [(0, (2, 1000)), (1, (0, v1)), (2, (0, v2))]) (st' := []) rfl ?_
  refine rn_sls 4 (pc' := 410) (ls' := [(0, (2, 1000)), (1, (0, v1)), (2, (0, v2))]) (st' := [(0, 0), (0, v2), (2, 1023)]) rfl ?_
  refine rn_bast (n := 7) rfl rfl rfl h (fun μ3 h => ?_)
  refine rn_sls 2 (pc' := 413) (ls' := [(3, (0, 1)), (0, (2, 1000)), (1, (0, v1)), (2, (0, v2))]) (st' := []) rfl ?_
  refine rn_goto (t := 493) rfl rfl rfl ?_
  exact rn_sub [1, 2, 3, 0] rfl (t_M_readsE_B493 d k21 hk21 _ _ _ _ _ h)
set_option maxRecDepth 20000 in
theorem t_M_readsE_B383 (d : Nat) (k21 : Int → Int → Int → am_M → am_O) (hk21 : ∀ (v1 : Int) (v2 : Int) (v3 : Int) (μ : am_M) q, k21 v1 v2 v3 μ = some q → am_run none (am_ar g_mt (d + 2)) 9 (some .boolean) k_M_readsE 21 [(0, (2, 1000)), (1, (0, v1)), (2, (0, v2)), (3, (0, v3))] [] μ (am_res 0 q)) : ∀ (v1 : Int) (v2 : Int) (μ : am_M) q, M_readsE_B383 k21 v1 v2 μ = some q → am_run none (am_ar g_mt (d + 2)) 9 (some .boolean) k_M_readsE 383 [(0, (2, 1000)), (1, (0, v1)), (2, (0, v2))] [] μ (am_res 0 q) := by
  intro v1 v2 μ q h
  unfold M_readsE_B383 at h
  refine rn_sls 3 (pc' := 388) (ls' := [(0, (2, 1000)), (1, (0, v1)), (2, (0, v2))]) (st' := [(1, 1111), (2, 1000), (2, 1000)]) rfl ?_
  refine rn_call 0 0 [(2, 1000), (1, 1111)] (r := [(2, 1000)]) rfl ⟨rfl, Or.inl ⟨_, rfl, by decide⟩⟩ (by decide) (fun _ => ⟨_, rfl, rfl⟩) rfl rfl (Nat.le_of_ble_eq_true rfl) h (fun w hw => t_M_isWord (d + 1) _ _ _ hw) (fun a1 μ2 h => ?_)
  refine rn_sls 0 (pc' := 391) (ls' := [(0, (2, 1000)), (1, (0, v1)), (2, (0, v2))]) (st' := [(0, a1), (2, 1000)]) rfl ?_
  refine rn_if (t := 399) rfl rfl rfl rfl h (fun h => ?_) (fun h => ?_)
  · refine rn_sls 1 (pc' := 401) (ls' := [(0, (2, 1000)), (1, (0, v1)), (2, (0, v2))]) (st' := [(0, 27), (2, 1000)]) rfl ?_
    exact rn_sub [0, 1, 2] rfl (t_M_readsE_B401 d k21 hk21 _ _ _ _ _ h)
  · refine rn_sls 1 (pc' := 396) (ls' := [(0, (2, 1000)), (1, (0, v1)), (2, (0, v2))]) (st' := [(0, 26), (2, 1000)]) rfl ?_
    refine rn_goto (t := 401) rfl rfl rfl ?_
    exact rn_sub [0, 1, 2] rfl (t_M_readsE_B401 d k21 hk21 _ _ _ _ _ h)
set_option maxRecDepth 20000 in
theorem t_M_readsE_L438_b (d : Nat) (k21 : Int → Int → Int → am_M → am_O) (hk21 : ∀ (v1 : Int) (v2 : Int) (v3 : Int) (μ : am_M) q, k21 v1 v2 v3 μ = some q → am_run none (am_ar g_mt (d + 2)) 9 (some .boolean) k_M_readsE 21 [(0, (2, 1000)), (1, (0, v1)), (2, (0, v2)), (3, (0, v3))] [] μ (am_res 0 q)) (k438 : Int → Int → Int → am_M → am_O) (hk438 : ∀ (v1 : Int) (v2 : Int) (v3 : Int) (μ : am_M) q, k438 v1 v2 v3 μ = some q → am_run none (am_ar g_mt (d + 2)) 9 (some .boolean) k_M_readsE 438 [(0, (2, 1000)), (1, (0, v1)), (2, (0, v2)), (3, (0, v3))] [] μ (am_res 0 q)) : ∀ (v1 : Int) (v2 : Int) (v3 : Int) (μ : am_M) q, M_readsE_L438_b k21 k438 v1 v2 v3 μ = some q → am_run none (am_ar g_mt (d + 2)) 9 (some .boolean) k_M_readsE 438 [(0, (2, 1000)), (1, (0, v1)), (2, (0, v2)), (3, (0, v3))] [] μ (am_res 0 q) := by
  intro v1 v2 v3 μ q h
  unfold M_readsE_L438_b at h
  refine rn_sls 1 (pc' := 439) (ls' := [(0, (2, 1000)), (1, (0, v1)), (2, (0, v2)), (3, (0, v3))]) (st' := [(0, v2)]) rfl ?_
  refine rn_if (t := 493) rfl rfl rfl rfl h (fun h => ?_) (fun h => ?_)
  · exact rn_sub [0, 1, 2, 3] rfl (t_M_readsE_B493 d k21 hk21 _ _ _ _ _ h)
  · refine rn_sls 3 (pc' := 447) (ls' := [(0, (2, 1000)), (1, (0, v1)), (2, (0, v2)), (3, (0, v3))]) (st' := [(0, v2), (2, 1022)]) rfl ?_
    refine rn_iald (n := 7) rfl rfl rfl h (fun a1 h => ?_)
    refine rn_sls 1 (pc' := 449) (ls' := [(0, (2, 1000)), (1, (0, v1)), (2, (0, v2)), (3, (0, v3))]) (st' := [(0, 1), (0, a1)]) rfl ?_
    refine rn_icmpn (t := 493) rfl rfl rfl rfl h (fun h => ?_) (fun h => ?_)
    · refine rn_sls 1 (pc' := 455) (ls' := [(2, (0, (w32 (v2 + (-1))))), (0, (2, 1000)), (1, (0, v1)), (3, (0, v3))]) (st' := []) rfl ?_
      refine rn_goto (t := 438) rfl rfl rfl ?_
      exact rn_sub [1, 2, 0, 3] rfl (hk438 _ _ _ _ _ h)
    · exact rn_sub [0, 1, 2, 3] rfl (t_M_readsE_B493 d k21 hk21 _ _ _ _ _ h)
set_option maxRecDepth 20000 in
theorem t_M_readsE_L438 (d : Nat) (k21 : Int → Int → Int → am_M → am_O) (hk21 : ∀ (v1 : Int) (v2 : Int) (v3 : Int) (μ : am_M) q, k21 v1 v2 v3 μ = some q → am_run none (am_ar g_mt (d + 2)) 9 (some .boolean) k_M_readsE 21 [(0, (2, 1000)), (1, (0, v1)), (2, (0, v2)), (3, (0, v3))] [] μ (am_res 0 q)) : ∀ (n : Nat) (v1 : Int) (v2 : Int) (v3 : Int) (μ : am_M) q, M_readsE_L438 k21 n v1 v2 v3 μ = some q → am_run none (am_ar g_mt (d + 2)) 9 (some .boolean) k_M_readsE 438 [(0, (2, 1000)), (1, (0, v1)), (2, (0, v2)), (3, (0, v3))] [] μ (am_res 0 q) := by
  intro n
  induction n with
  | zero => intro v1 v2 v3 μ q h; cases h
  | succ n ih => intro v1 v2 v3 μ q h; exact t_M_readsE_L438_b d k21 hk21 (M_readsE_L438 k21 n) ih v1 v2 v3 μ q h
set_option maxRecDepth 20000 in
theorem t_M_readsE_B487 (d : Nat) : ∀  (μ : am_M) q, M_readsE_B487  μ = some q → am_run none (am_ar g_mt (d + 2)) 9 (some .boolean) k_M_readsE 487 [(0, (2, 1000))] [] μ (am_res 0 q) := by
  intro  μ q h
  unfold M_readsE_B487 at h
  refine rn_sls 2 (pc' := 489) (ls' := [(0, (2, 1000))]) (st' := [(0, 1), (2, 1000)]) rfl ?_
  refine rn_call 0 0 [(2, 1000), (0, 1)] (r := []) rfl ⟨rfl, Or.inl ⟨_, rfl, by decide⟩⟩ (by decide) (fun _ => ⟨_, rfl, rfl⟩) rfl rfl (Nat.le_of_ble_eq_true rfl) h (fun w hw => t_M_fails (d + 1) _ _ _ hw) (fun a1 μ2 h => ?_)
  refine rn_sls 0 (pc' := 492) (ls' := [(0, (2, 1000))]) (st' := [(0, a1)]) rfl ?_
  exact rn_iretB rfl rfl rfl h rfl
set_option maxRecDepth 20000 in
theorem t_M_readsE_B458 (d : Nat) : ∀ (v1 : Int) (v2 : Int) (μ : am_M) q, M_readsE_B458 v1 v2 μ = some q → am_run none (am_ar g_mt (d + 2)) 9 (some .boolean) k_M_readsE 458 [(0, (2, 1000)), (1, (0, v1)), (2, (0, v2))] [] μ (am_res 0 q) := by
  intro v1 v2 μ q h
  unfold M_readsE_B458 at h
  refine rn_sls 1 (pc' := 459) (ls' := [(0, (2, 1000)), (1, (0, v1)), (2, (0, v2))]) (st' := [(0, v2)]) rfl ?_
  refine rn_ifn (t := 487) rfl rfl rfl rfl h (fun h => ?_) (fun h => ?_)
  · refine rn_sls 2 (pc' := 465) (ls' := [(0, (2, 1000)), (1, (0, v1)), (2, (0, v2))]) (st' := [(0, 59), (2, 1000)]) rfl ?_
    refine rn_call 0 0 [(2, 1000), (0, 59)] (r := []) rfl ⟨rfl, Or.inl ⟨_, rfl, by decide⟩⟩ (by decide) (fun _ => ⟨_, rfl, rfl⟩) rfl rfl (Nat.le_of_ble_eq_true rfl) h (fun w hw => t_M_isSign (d + 1) _ _ _ hw) (fun a1 μ2 h => ?_)
    refine rn_sls 0 (pc' := 468) (ls' := [(0, (2, 1000)), (1, (0, v1)), (2, (0, v2))]) (st' := [(0, a1)]) rfl ?_
    refine rn_if (t := 487) rfl rfl rfl rfl h (fun h => ?_) (fun h => ?_)
    · exact rn_sub [0] rfl (t_M_readsE_B487 d  _ _ h)
    · refine rn_sls 5 (pc' := 480) (ls' := [(0, (2, 1000)), (1, (0, v1)), (2, (0, v2))]) (st' := [(0, (μ2 1000 30)), (0, v1), (2, 1011)]) rfl ?_
      refine rn_iast (n := 120) rfl rfl rfl h (fun μ3 h => ?_)
      refine rn_sls 1 (pc' := 482) (ls' := [(0, (2, 1000)), (1, (0, v1)), (2, (0, v2))]) (st' := [(2, 1000)]) rfl ?_
      refine rn_call 0 2 [(2, 1000)] (r := []) rfl ⟨rfl, Or.inl ⟨_, rfl, by decide⟩⟩ (by decide) (fun _ => ⟨_, rfl, rfl⟩) rfl rfl (Nat.le_of_ble_eq_true rfl) h (fun w hw => t_M_nextToken (d + 0)  _ _ hw) (fun a4 μ5 h => ?_)
      refine rn_sls 0 (pc' := 485) (ls' := [(0, (2, 1000)), (1, (0, v1)), (2, (0, v2))]) (st' := []) rfl ?_
      refine rn_sls 1 (pc' := 486) (ls' := [(0, (2, 1000)), (1, (0, v1)), (2, (0, v2))]) (st' := [(0, 1)]) rfl ?_
      exact rn_iretb rfl rfl rfl (Or.inr rfl) h rfl
  · exact rn_sub [0] rfl (t_M_readsE_B487 d  _ _ h)
set_option maxRecDepth 20000 in
theorem t_M_readsE_B363 (d : Nat) (k21 : Int → Int → Int → am_M → am_O) (hk21 : ∀ (v1 : Int) (v2 : Int) (v3 : Int) (μ : am_M) q, k21 v1 v2 v3 μ = some q → am_run none (am_ar g_mt (d + 2)) 9 (some .boolean) k_M_readsE 21 [(0, (2, 1000)), (1, (0, v1)), (2, (0, v2)), (3, (0, v3))] [] μ (am_res 0 q)) : ∀ (v1 : Int) (v2 : Int) (v3 : Int) (μ : am_M) q, M_readsE_B363 k21 v1 v2 v3 μ = some q → am_run none (am_ar g_mt (d + 2)) 9 (some .boolean) k_M_readsE 363 [(0, (2, 1000)), (1, (0, v1)), (2, (0, v2)), (3, (0, v3))] [] μ (am_res 0 q) := by
  intro v1 v2 v3 μ q h
  unfold M_readsE_B363 at h
  refine rn_sls 2 (pc' := 367) (ls' := [(0, (2, 1000)), (1, (0, v1)), (2, (0, v2)), (3, (0, v3))]) (st' := [(1, 1111), (2, 1000)]) rfl ?_
  refine rn_call 0 0 [(2, 1000), (1, 1111)] (r := []) rfl ⟨rfl, Or.inl ⟨_, rfl, by decide⟩⟩ (by decide) (fun _ => ⟨_, rfl, rfl⟩) rfl rfl (Nat.le_of_ble_eq_true rfl) h (fun w hw => t_M_isWord (d + 1) _ _ _ hw) (fun a1 μ2 h => ?_)
  refine rn_sls 0 (pc' := 370) (ls' := [(0, (2, 1000)), (1, (0, v1)), (2, (0, v2)), (3, (0, v3))]) (st' := [(0, a1)]) rfl ?_
  refine rn_ifn (t := 383) rfl rfl rfl rfl h (fun h => ?_) (fun h => ?_)
  · refine rn_sls 2 (pc' := 377) (ls' := [(0, (2, 1000)), (1, (0, v1)), (2, (0, v2)), (3, (0, v3))]) (st' := [(1, 423), (2, 1000)]) rfl ?_
    refine rn_call 0 0 [(2, 1000), (1, 423)] (r := []) rfl ⟨rfl, Or.inl ⟨_, rfl, by decide⟩⟩ (by decide) (fun _ => ⟨_, rfl, rfl⟩) rfl rfl (Nat.le_of_ble_eq_true rfl) h (fun w hw => t_M_isWord (d + 1) _ _ _ hw) (fun a3 μ4 h => ?_)
    refine rn_sls 0 (pc' := 380) (ls' := [(0, (2, 1000)), (1, (0, v1)), (2, (0, v2)), (3, (0, v3))]) (st' := [(0, a3)]) rfl ?_
    refine rn_if (t := 416) rfl rfl rfl rfl h (fun h => ?_) (fun h => ?_)
    · refine rn_sls 2 (pc' := 419) (ls' := [(0, (2, 1000)), (1, (0, v1)), (2, (0, v2)), (3, (0, v3))]) (st' := [(0, 41), (2, 1000)]) rfl ?_
      refine rn_call 0 0 [(2, 1000), (0, 41)] (r := []) rfl ⟨rfl, Or.inl ⟨_, rfl, by decide⟩⟩ (by decide) (fun _ => ⟨_, rfl, rfl⟩) rfl rfl (Nat.le_of_ble_eq_true rfl) h (fun w hw => t_M_isSign (d + 1) _ _ _ hw) (fun a5 μ6 h => ?_)
      refine rn_sls 0 (pc' := 422) (ls' := [(0, (2, 1000)), (1, (0, v1)), (2, (0, v2)), (3, (0, v3))]) (st' := [(0, a5)]) rfl ?_
      refine rn_if (t := 458) rfl rfl rfl rfl h (fun h => ?_) (fun h => ?_)
      · exact rn_sub [0, 1, 2] rfl (t_M_readsE_B458 d  _ _ _ _ h)
      · refine rn_sls 1 (pc' := 426) (ls' := [(0, (2, 1000)), (1, (0, v1)), (2, (0, v2)), (3, (0, v3))]) (st' := [(0, v2)]) rfl ?_
        refine rn_if (t := 458) rfl rfl rfl rfl h (fun h => ?_) (fun h => ?_)
        · exact rn_sub [0, 1, 2] rfl (t_M_readsE_B458 d  _ _ _ _ h)
        · refine rn_sls 2 (pc' := 432) (ls' := [(0, (2, 1000)), (1, (0, v1)), (2, (0, v2)), (3, (0, v3))]) (st' := [(0, 29), (2, 1000)]) rfl ?_
          refine rn_call 0 2 [(2, 1000), (0, 29)] (r := []) rfl ⟨rfl, Or.inl ⟨_, rfl, by decide⟩⟩ (by decide) (fun _ => ⟨_, rfl, rfl⟩) rfl rfl (Nat.le_of_ble_eq_true rfl) h (fun w hw => t_M_puts (d + 1) _ _ _ hw) (fun a7 μ8 h => ?_)
          refine rn_sls 0 (pc' := 435) (ls' := [(0, (2, 1000)), (1, (0, v1)), (2, (0, v2)), (3, (0, v3))]) (st' := []) rfl ?_
          refine rn_sls 1 (pc' := 438) (ls' := [(2, (0, (w32 (v2 + (-1))))), (0, (2, 1000)), (1, (0, v1)), (3, (0, v3))]) (st' := []) rfl ?_
          exact rn_sub [1, 2, 0, 3] rfl (t_M_readsE_L438 d k21 hk21 am_FU _ _ _ _ _ h)
    · exact rn_sub [0, 1, 2] rfl (t_M_readsE_B383 d k21 hk21 _ _ _ _ h)
  · exact rn_sub [0, 1, 2] rfl (t_M_readsE_B383 d k21 hk21 _ _ _ _ h)
set_option maxRecDepth 20000 in
theorem t_M_readsE_B322 (d : Nat) (k21 : Int → Int → Int → am_M → am_O) (hk21 : ∀ (v1 : Int) (v2 : Int) (v3 : Int) (μ : am_M) q, k21 v1 v2 v3 μ = some q → am_run none (am_ar g_mt (d + 2)) 9 (some .boolean) k_M_readsE 21 [(0, (2, 1000)), (1, (0, v1)), (2, (0, v2)), (3, (0, v3))] [] μ (am_res 0 q)) : ∀ (v1 : Int) (v2 : Int) (v3 : Int) (μ : am_M) q, M_readsE_B322 k21 v1 v2 v3 μ = some q → am_run none (am_ar g_mt (d + 2)) 9 (some .boolean) k_M_readsE 322 [(0, (2, 1000)), (1, (0, v1)), (2, (0, v2)), (3, (0, v3))] [] μ (am_res 0 q) := by
  intro v1 v2 v3 μ q h
  unfold M_readsE_B322 at h
  refine rn_sls 3 (pc' := 327) (ls' := [(0, (2, 1000)), (1, (0, v1)), (2, (0, v2)), (3, (0, v3))]) (st' := [(0, v2), (2, 1023)]) rfl ?_
  refine rn_bald (n := 7) rfl rfl rfl h (fun a1 h => ?_)
  refine rn_ifn (t := 363) rfl rfl rfl rfl h (fun h => ?_) (fun h => ?_)
  · refine rn_sls 3 (pc' := 335) (ls' := [(0, (2, 1000)), (1, (0, v1)), (2, (0, v2)), (3, (0, v3))]) (st' := [(0, 60), (2, 1000), (2, 1000)]) rfl ?_
    refine rn_call 0 0 [(2, 1000), (0, 60)] (r := [(2, 1000)]) rfl ⟨rfl, Or.inl ⟨_, rfl, by decide⟩⟩ (by decide) (fun _ => ⟨_, rfl, rfl⟩) rfl rfl (Nat.le_of_ble_eq_true rfl) h (fun w hw => t_M_isSign (d + 1) _ _ _ hw) (fun a2 μ3 h => ?_)
    refine rn_sls 0 (pc' := 338) (ls' := [(0, (2, 1000)), (1, (0, v1)), (2, (0, v2)), (3, (0, v3))]) (st' := [(0, a2), (2, 1000)]) rfl ?_
    refine rn_if (t := 346) rfl rfl rfl rfl h (fun h => ?_) (fun h => ?_)
    · refine rn_sls 1 (pc' := 348) (ls' := [(0, (2, 1000)), (1, (0, v1)), (2, (0, v2)), (3, (0, v3))]) (st' := [(0, 25), (2, 1000)]) rfl ?_
      exact rn_sub [0, 1, 2] rfl (t_M_readsE_B348 d k21 hk21 _ _ _ _ _ h)
    · refine rn_sls 1 (pc' := 343) (ls' := [(0, (2, 1000)), (1, (0, v1)), (2, (0, v2)), (3, (0, v3))]) (st' := [(0, 24), (2, 1000)]) rfl ?_
      refine rn_goto (t := 348) rfl rfl rfl ?_
      exact rn_sub [0, 1, 2] rfl (t_M_readsE_B348 d k21 hk21 _ _ _ _ _ h)
  · exact rn_sub [0, 1, 2, 3] rfl (t_M_readsE_B363 d k21 hk21 _ _ _ _ _ h)
set_option maxRecDepth 20000 in
theorem t_M_readsE_L21_b (d : Nat) (k21 : Int → Int → Int → am_M → am_O) (hk21 : ∀ (v1 : Int) (v2 : Int) (v3 : Int) (μ : am_M) q, k21 v1 v2 v3 μ = some q → am_run none (am_ar g_mt (d + 2)) 9 (some .boolean) k_M_readsE 21 [(0, (2, 1000)), (1, (0, v1)), (2, (0, v2)), (3, (0, v3))] [] μ (am_res 0 q)) : ∀ (v1 : Int) (v2 : Int) (v3 : Int) (μ : am_M) q, M_readsE_L21_b k21 v1 v2 v3 μ = some q → am_run none (am_ar g_mt (d + 2)) 9 (some .boolean) k_M_readsE 21 [(0, (2, 1000)), (1, (0, v1)), (2, (0, v2)), (3, (0, v3))] [] μ (am_res 0 q) := by
  intro v1 v2 v3 μ q h
  unfold M_readsE_L21_b at h
  refine rn_sls 1 (pc' := 22) (ls' := [(0, (2, 1000)), (1, (0, v1)), (2, (0, v2)), (3, (0, v3))]) (st' := [(0, v3)]) rfl ?_
  refine rn_if (t := 238) rfl rfl rfl rfl h (fun h => ?_) (fun h => ?_)
  · refine rn_sls 2 (pc' := 241) (ls' := [(0, (2, 1000)), (1, (0, v1)), (2, (0, v2)), (3, (0, v3))]) (st' := [(0, 43), (2, 1000)]) rfl ?_
    refine rn_call 0 0 [(2, 1000), (0, 43)] (r := []) rfl ⟨rfl, Or.inl ⟨_, rfl, by decide⟩⟩ (by decide) (fun _ => ⟨_, rfl, rfl⟩) rfl rfl (Nat.le_of_ble_eq_true rfl) h (fun w hw => t_M_isSign (d + 1) _ _ _ hw) (fun a1 μ2 h => ?_)
    refine rn_sls 0 (pc' := 244) (ls' := [(0, (2, 1000)), (1, (0, v1)), (2, (0, v2)), (3, (0, v3))]) (st' := [(0, a1)]) rfl ?_
    refine rn_ifn (t := 265) rfl rfl rfl rfl h (fun h => ?_) (fun h => ?_)
    · refine rn_sls 2 (pc' := 250) (ls' := [(0, (2, 1000)), (1, (0, v1)), (2, (0, v2)), (3, (0, v3))]) (st' := [(0, 45), (2, 1000)]) rfl ?_
      refine rn_call 0 0 [(2, 1000), (0, 45)] (r := []) rfl ⟨rfl, Or.inl ⟨_, rfl, by decide⟩⟩ (by decide) (fun _ => ⟨_, rfl, rfl⟩) rfl rfl (Nat.le_of_ble_eq_true rfl) h (fun w hw => t_M_isSign (d + 1) _ _ _ hw) (fun a3 μ4 h => ?_)
      refine rn_sls 0 (pc' := 253) (ls' := [(0, (2, 1000)), (1, (0, v1)), (2, (0, v2)), (3, (0, v3))]) (st' := [(0, a3)]) rfl ?_
      refine rn_ifn (t := 265) rfl rfl rfl rfl h (fun h => ?_) (fun h => ?_)
      · refine rn_sls 2 (pc' := 259) (ls' := [(0, (2, 1000)), (1, (0, v1)), (2, (0, v2)), (3, (0, v3))]) (st' := [(0, 42), (2, 1000)]) rfl ?_
        refine rn_call 0 0 [(2, 1000), (0, 42)] (r := []) rfl ⟨rfl, Or.inl ⟨_, rfl, by decide⟩⟩ (by decide) (fun _ => ⟨_, rfl, rfl⟩) rfl rfl (Nat.le_of_ble_eq_true rfl) h (fun w hw => t_M_isSign (d + 1) _ _ _ hw) (fun a5 μ6 h => ?_)
        refine rn_sls 0 (pc' := 262) (ls' := [(0, (2, 1000)), (1, (0, v1)), (2, (0, v2)), (3, (0, v3))]) (st' := [(0, a5)]) rfl ?_
        refine rn_if (t := 304) rfl rfl rfl rfl h (fun h => ?_) (fun h => ?_)
        · refine rn_sls 2 (pc' := 307) (ls' := [(0, (2, 1000)), (1, (0, v1)), (2, (0, v2)), (3, (0, v3))]) (st' := [(0, 60), (2, 1000)]) rfl ?_
          refine rn_call 0 0 [(2, 1000), (0, 60)] (r := []) rfl ⟨rfl, Or.inl ⟨_, rfl, by decide⟩⟩ (by decide) (fun _ => ⟨_, rfl, rfl⟩) rfl rfl (Nat.le_of_ble_eq_true rfl) h (fun w hw => t_M_isSign (d + 1) _ _ _ hw) (fun a7 μ8 h => ?_)
          refine rn_sls 0 (pc' := 310) (ls' := [(0, (2, 1000)), (1, (0, v1)), (2, (0, v2)), (3, (0, v3))]) (st' := [(0, a7)]) rfl ?_
          refine rn_ifn (t := 322) rfl rfl rfl rfl h (fun h => ?_) (fun h => ?_)
          · refine rn_sls 2 (pc' := 316) (ls' := [(0, (2, 1000)), (1, (0, v1)), (2, (0, v2)), (3, (0, v3))]) (st' := [(0, 61), (2, 1000)]) rfl ?_
            refine rn_call 0 0 [(2, 1000), (0, 61)] (r := []) rfl ⟨rfl, Or.inl ⟨_, rfl, by decide⟩⟩ (by decide) (fun _ => ⟨_, rfl, rfl⟩) rfl rfl (Nat.le_of_ble_eq_true rfl) h (fun w hw => t_M_isSign (d + 1) _ _ _ hw) (fun a9 μ10 h => ?_)
            refine rn_sls 0 (pc' := 319) (ls' := [(0, (2, 1000)), (1, (0, v1)), (2, (0, v2)), (3, (0, v3))]) (st' := [(0, a9)]) rfl ?_
            refine rn_if (t := 363) rfl rfl rfl rfl h (fun h => ?_) (fun h => ?_)
            · exact rn_sub [0, 1, 2, 3] rfl (t_M_readsE_B363 d k21 hk21 _ _ _ _ _ h)
            · exact rn_sub [0, 1, 2, 3] rfl (t_M_readsE_B322 d k21 hk21 _ _ _ _ _ h)
          · exact rn_sub [0, 1, 2, 3] rfl (t_M_readsE_B322 d k21 hk21 _ _ _ _ _ h)
        · exact rn_sub [0, 1, 2] rfl (t_M_readsE_B265 d k21 hk21 _ _ _ _ h)
      · exact rn_sub [0, 1, 2] rfl (t_M_readsE_B265 d k21 hk21 _ _ _ _ h)
    · exact rn_sub [0, 1, 2] rfl (t_M_readsE_B265 d k21 hk21 _ _ _ _ h)
  · refine rn_sls 1 (pc' := 26) (ls' := [(0, (2, 1000)), (1, (0, v1)), (2, (0, v2)), (3, (0, v3))]) (st' := [(2, 1000)]) rfl ?_
    refine rn_call 0 0 [(2, 1000)] (r := []) rfl ⟨rfl, Or.inl ⟨_, rfl, by decide⟩⟩ (by decide) (fun _ => ⟨_, rfl, rfl⟩) rfl rfl (Nat.le_of_ble_eq_true rfl) h (fun w hw => t_M_isKept (d + 1)  _ _ hw) (fun a11 μ12 h => ?_)
    refine rn_sls 0 (pc' := 29) (ls' := [(0, (2, 1000)), (1, (0, v1)), (2, (0, v2)), (3, (0, v3))]) (st' := [(0, a11)]) rfl ?_
    refine rn_ifn (t := 36) rfl rfl rfl rfl h (fun h => ?_) (fun h => ?_)
    · refine rn_sls 1 (pc' := 33) (ls' := [(0, (2, 1000)), (1, (0, v1)), (2, (0, v2)), (3, (0, v3))]) (st' := [(0, 1)]) rfl ?_
      refine rn_goto (t := 37) rfl rfl rfl ?_
      exact rn_sub [0, 1, 2, 3] rfl (t_M_readsE_B37 d k21 hk21 _ _ _ _ _ _ h)
    · refine rn_sls 1 (pc' := 37) (ls' := [(0, (2, 1000)), (1, (0, v1)), (2, (0, v2)), (3, (0, v3))]) (st' := [(0, 0)]) rfl ?_
      exact rn_sub [0, 1, 2, 3] rfl (t_M_readsE_B37 d k21 hk21 _ _ _ _ _ _ h)
set_option maxRecDepth 20000 in
theorem t_M_readsE_L21 (d : Nat) : ∀ (n : Nat) (v1 : Int) (v2 : Int) (v3 : Int) (μ : am_M) q, M_readsE_L21 n v1 v2 v3 μ = some q → am_run none (am_ar g_mt (d + 2)) 9 (some .boolean) k_M_readsE 21 [(0, (2, 1000)), (1, (0, v1)), (2, (0, v2)), (3, (0, v3))] [] μ (am_res 0 q) := by
  intro n
  induction n with
  | zero => intro v1 v2 v3 μ q h; cases h
  | succ n ih => intro v1 v2 v3 μ q h; exact t_M_readsE_L21_b d (M_readsE_L21 n) ih v1 v2 v3 μ q h
set_option maxRecDepth 20000 in
theorem t_M_readsE (d : Nat) : ∀ (v1 : Int) (μ : am_M) q, M_readsE v1 μ = some q → am_ar g_mt (d + 3) 156 [(2, 1000), (0, v1)] μ (am_res 0 q) := by
  intro v1 μ q h
  unfold M_readsE at h
  refine am_ar_of (d := d + 2) i_M_readsE rfl rfl (Nat.le_of_ble_eq_true rfl) ?_
  show am_run none (am_ar g_mt (d + 2)) 9 (some .boolean) k_M_readsE 0 [(0, (2, 1000)), (1, (0, v1))] [] μ (am_res 0 q)
  refine rn_sls 8 (pc' := 10) (ls' := [(3, (0, 1)), (2, (0, 0)), (0, (2, 1000)), (1, (0, v1))]) (st' := [(0, 0), (0, 0), (2, 1023)]) rfl ?_
  refine rn_bast (n := 7) rfl rfl rfl h (fun μ1 h => ?_)
  refine rn_sls 5 (pc' := 20) (ls' := [(3, (0, 1)), (2, (0, 0)), (0, (2, 1000)), (1, (0, v1))]) (st' := [(0, (μ1 1000 30)), (0, v1), (2, 1010)]) rfl ?_
  refine rn_iast (n := 120) rfl rfl rfl h (fun μ2 h => ?_)
  exact rn_sub [2, 3, 1, 0] rfl (t_M_readsE_L21 d  am_FU _ _ _ _ _ h)
set_option maxRecDepth 20000 in
theorem t_M_opens (d : Nat) : ∀ (v1 : Int) (μ : am_M) q, M_opens v1 μ = some q → am_ar g_mt (d + 1) 157 [(2, 1000), (0, v1)] μ (am_res 2 q) := by
  intro v1 μ q h
  unfold M_opens at h
  refine am_ar_of (d := d + 0) i_M_opens rfl rfl (Nat.le_of_ble_eq_true rfl) ?_
  show am_run none (am_ar g_mt (d + 0)) 2 none k_M_opens 0 [(0, (2, 1000)), (1, (0, v1))] [] μ (am_res 2 q)
  refine rn_sls 4 (pc' := 6) (ls' := [(0, (2, 1000)), (1, (0, v1))]) (st' := [(0, 0), (0, v1), (2, 1025)]) rfl ?_
  refine rn_iast (n := 7) rfl rfl rfl h (fun μ1 h => ?_)
  refine rn_sls 4 (pc' := 13) (ls' := [(0, (2, 1000)), (1, (0, v1))]) (st' := [(0, 0), (0, v1), (2, 1027)]) rfl ?_
  refine rn_iast (n := 7) rfl rfl rfl h (fun μ2 h => ?_)
  refine rn_sls 4 (pc' := 20) (ls' := [(0, (2, 1000)), (1, (0, v1))]) (st' := [(0, 0), (0, v1), (2, 1028)]) rfl ?_
  refine rn_iast (n := 7) rfl rfl rfl h (fun μ3 h => ?_)
  refine rn_sls 4 (pc' := 28) (ls' := [(0, (2, 1000)), (1, (0, v1))]) (st' := [(0, 20), (0, v1), (2, 1029)]) rfl ?_
  refine rn_iast (n := 7) rfl rfl rfl h (fun μ4 h => ?_)
  refine rn_sls 4 (pc' := 35) (ls' := [(0, (2, 1000)), (1, (0, v1))]) (st' := [(0, 0), (0, v1), (2, 1031)]) rfl ?_
  refine rn_iast (n := 7) rfl rfl rfl h (fun μ5 h => ?_)
  exact rn_ret (v := 0) rfl rfl rfl h rfl
set_option maxRecDepth 20000 in
theorem t_M_sums_B45 (d : Nat) : ∀ (v1 : Int) (s1 : Int) (s2 : Int) (μ : am_M) q, M_sums_B45 v1 s1 s2 μ = some q → am_run none (am_ar g_mt (d + 0)) 2 none k_M_sums 45 [(0, (2, 1000)), (1, (0, v1))] [(0, s2), (0, s1), (2, 1028)] μ (am_res 2 q) := by
  intro v1 s1 s2 μ q h
  unfold M_sums_B45 at h
  refine rn_iast (n := 7) rfl rfl rfl h (fun μ1 h => ?_)
  refine rn_sls 4 (pc' := 52) (ls' := [(0, (2, 1000)), (1, (0, v1))]) (st' := [(0, 0), (0, v1), (2, 1031)]) rfl ?_
  refine rn_iast (n := 7) rfl rfl rfl h (fun μ2 h => ?_)
  exact rn_ret (v := 0) rfl rfl rfl h rfl
set_option maxRecDepth 20000 in
theorem t_M_sums (d : Nat) : ∀ (v1 : Int) (μ : am_M) q, M_sums v1 μ = some q → am_ar g_mt (d + 1) 158 [(2, 1000), (0, v1)] μ (am_res 2 q) := by
  intro v1 μ q h
  unfold M_sums at h
  refine am_ar_of (d := d + 0) i_M_sums rfl rfl (Nat.le_of_ble_eq_true rfl) ?_
  show am_run none (am_ar g_mt (d + 0)) 2 none k_M_sums 0 [(0, (2, 1000)), (1, (0, v1))] [] μ (am_res 2 q)
  refine rn_sls 6 (pc' := 10) (ls' := [(0, (2, 1000)), (1, (0, v1))]) (st' := [(0, v1), (2, 1029), (0, v1), (2, 1028)]) rfl ?_
  refine rn_iald (n := 7) rfl rfl rfl h (fun a1 h => ?_)
  refine rn_sls 1 (pc' := 13) (ls' := [(0, (2, 1000)), (1, (0, v1))]) (st' := [(0, 21), (0, a1), (0, v1), (2, 1028)]) rfl ?_
  refine rn_icmpn (t := 32) rfl rfl rfl rfl h (fun h => ?_) (fun h => ?_)
  · refine rn_sls 3 (pc' := 21) (ls' := [(0, (2, 1000)), (1, (0, v1))]) (st' := [(0, v1), (2, 1028), (0, v1), (2, 1028)]) rfl ?_
    refine rn_iald (n := 7) rfl rfl rfl h (fun a4 h => ?_)
    refine rn_sls 3 (pc' := 27) (ls' := [(0, (2, 1000)), (1, (0, v1))]) (st' := [(0, v1), (2, 1030), (0, a4), (0, v1), (2, 1028)]) rfl ?_
    refine rn_iald (n := 7) rfl rfl rfl h (fun a5 h => ?_)
    refine rn_sls 1 (pc' := 29) (ls' := [(0, (2, 1000)), (1, (0, v1))]) (st' := [(0, (w32 (a4 - a5))), (0, v1), (2, 1028)]) rfl ?_
    refine rn_goto (t := 45) rfl rfl rfl ?_
    exact rn_sub [0, 1] rfl (t_M_sums_B45 d  _ _ _ _ _ h)
  · refine rn_sls 3 (pc' := 37) (ls' := [(0, (2, 1000)), (1, (0, v1))]) (st' := [(0, v1), (2, 1028), (0, v1), (2, 1028)]) rfl ?_
    refine rn_iald (n := 7) rfl rfl rfl h (fun a2 h => ?_)
    refine rn_sls 3 (pc' := 43) (ls' := [(0, (2, 1000)), (1, (0, v1))]) (st' := [(0, v1), (2, 1030), (0, a2), (0, v1), (2, 1028)]) rfl ?_
    refine rn_iald (n := 7) rfl rfl rfl h (fun a3 h => ?_)
    refine rn_sls 1 (pc' := 45) (ls' := [(0, (2, 1000)), (1, (0, v1))]) (st' := [(0, (w32 (a2 + a3))), (0, v1), (2, 1028)]) rfl ?_
    exact rn_sub [0, 1] rfl (t_M_sums_B45 d  _ _ _ _ _ h)
set_option maxRecDepth 20000 in
theorem t_M_tests_B136 (d : Nat) : ∀ (v1 : Int) (v2 : Int) (μ : am_M) q, M_tests_B136 v1 v2 μ = some q → am_run none (am_ar g_mt (d + 1)) 3 none k_M_tests 136 [(0, (2, 1000)), (1, (0, v1)), (2, (0, v2))] [] μ (am_res 2 q) := by
  intro v1 v2 μ q h
  unfold M_tests_B136 at h
  refine rn_sls 4 (pc' := 142) (ls' := [(0, (2, 1000)), (1, (0, v1)), (2, (0, v2))]) (st' := [(0, v2), (0, v1), (2, 1024)]) rfl ?_
  refine rn_iast (n := 7) rfl rfl rfl h (fun μ1 h => ?_)
  refine rn_sls 4 (pc' := 149) (ls' := [(0, (2, 1000)), (1, (0, v1)), (2, (0, v2))]) (st' := [(0, 0), (0, v1), (2, 1027)]) rfl ?_
  refine rn_iast (n := 7) rfl rfl rfl h (fun μ2 h => ?_)
  refine rn_sls 4 (pc' := 156) (ls' := [(0, (2, 1000)), (1, (0, v1)), (2, (0, v2))]) (st' := [(0, 0), (0, v1), (2, 1028)]) rfl ?_
  refine rn_iast (n := 7) rfl rfl rfl h (fun μ3 h => ?_)
  refine rn_sls 4 (pc' := 164) (ls' := [(0, (2, 1000)), (1, (0, v1)), (2, (0, v2))]) (st' := [(0, 20), (0, v1), (2, 1029)]) rfl ?_
  refine rn_iast (n := 7) rfl rfl rfl h (fun μ4 h => ?_)
  exact rn_ret (v := 0) rfl rfl rfl h rfl
set_option maxRecDepth 20000 in
theorem t_M_tests_B135 (d : Nat) : ∀ (v1 : Int) (s0 : Int) (μ : am_M) q, M_tests_B135 v1 s0 μ = some q → am_run none (am_ar g_mt (d + 1)) 3 none k_M_tests 135 [(0, (2, 1000)), (1, (0, v1))] [(0, s0)] μ (am_res 2 q) := by
  intro v1 s0 μ q h
  unfold M_tests_B135 at h
  refine rn_sls 1 (pc' := 136) (ls' := [(2, (0, s0)), (0, (2, 1000)), (1, (0, v1))]) (st' := []) rfl ?_
  exact rn_sub [1, 2, 0] rfl (t_M_tests_B136 d  _ _ _ _ h)
set_option maxRecDepth 20000 in
theorem t_M_tests_B130 (d : Nat) : ∀ (v1 : Int) (μ : am_M) q, M_tests_B130 v1 μ = some q → am_run none (am_ar g_mt (d + 1)) 3 none k_M_tests 130 [(0, (2, 1000)), (1, (0, v1))] [] μ (am_res 2 q) := by
  intro v1 μ q h
  unfold M_tests_B130 at h
  refine rn_sls 1 (pc' := 131) (ls' := [(0, (2, 1000)), (1, (0, v1))]) (st' := [(0, 1)]) rfl ?_
  refine rn_goto (t := 135) rfl rfl rfl ?_
  exact rn_sub [0, 1] rfl (t_M_tests_B135 d  _ _ _ _ h)
set_option maxRecDepth 20000 in
theorem t_M_tests_B106 (d : Nat) : ∀ (v1 : Int) (v2 : Int) (μ : am_M) q, M_tests_B106 v1 v2 μ = some q → am_run none (am_ar g_mt (d + 1)) 3 none k_M_tests 106 [(0, (2, 1000)), (1, (0, v1)), (2, (0, v2))] [] μ (am_res 2 q) := by
  intro v1 v2 μ q h
  unfold M_tests_B106 at h
  refine rn_sls 3 (pc' := 111) (ls' := [(0, (2, 1000)), (1, (0, v1)), (2, (0, v2))]) (st' := [(0, v1), (2, 1025)]) rfl ?_
  refine rn_iald (n := 7) rfl rfl rfl h (fun a1 h => ?_)
  refine rn_sls 1 (pc' := 114) (ls' := [(0, (2, 1000)), (1, (0, v1)), (2, (0, v2))]) (st' := [(0, 27), (0, a1)]) rfl ?_
  refine rn_icmpn (t := 136) rfl rfl rfl rfl h (fun h => ?_) (fun h => ?_)
  · refine rn_sls 3 (pc' := 122) (ls' := [(0, (2, 1000)), (1, (0, v1)), (2, (0, v2))]) (st' := [(0, v1), (2, 1024)]) rfl ?_
    refine rn_iald (n := 7) rfl rfl rfl h (fun a2 h => ?_)
    refine rn_ifn (t := 130) rfl rfl rfl rfl h (fun h => ?_) (fun h => ?_)
    · refine rn_sls 1 (pc' := 127) (ls' := [(0, (2, 1000)), (1, (0, v1)), (2, (0, v2))]) (st' := [(0, v2)]) rfl ?_
      refine rn_if (t := 134) rfl rfl rfl rfl h (fun h => ?_) (fun h => ?_)
      · refine rn_sls 1 (pc' := 135) (ls' := [(0, (2, 1000)), (1, (0, v1)), (2, (0, v2))]) (st' := [(0, 0)]) rfl ?_
        exact rn_sub [0, 1] rfl (t_M_tests_B135 d  _ _ _ _ h)
      · exact rn_sub [0, 1] rfl (t_M_tests_B130 d  _ _ _ h)
    · exact rn_sub [0, 1] rfl (t_M_tests_B130 d  _ _ _ h)
  · exact rn_sub [0, 1, 2] rfl (t_M_tests_B136 d  _ _ _ _ h)
set_option maxRecDepth 20000 in
theorem t_M_tests_B105 (d : Nat) : ∀ (v1 : Int) (s0 : Int) (μ : am_M) q, M_tests_B105 v1 s0 μ = some q → am_run none (am_ar g_mt (d + 1)) 3 none k_M_tests 105 [(0, (2, 1000)), (1, (0, v1))] [(0, s0)] μ (am_res 2 q) := by
  intro v1 s0 μ q h
  unfold M_tests_B105 at h
  refine rn_sls 1 (pc' := 106) (ls' := [(2, (0, s0)), (0, (2, 1000)), (1, (0, v1))]) (st' := []) rfl ?_
  exact rn_sub [1, 2, 0] rfl (t_M_tests_B106 d  _ _ _ _ h)
set_option maxRecDepth 20000 in
theorem t_M_tests_B104 (d : Nat) : ∀ (v1 : Int) (μ : am_M) q, M_tests_B104 v1 μ = some q → am_run none (am_ar g_mt (d + 1)) 3 none k_M_tests 104 [(0, (2, 1000)), (1, (0, v1))] [] μ (am_res 2 q) := by
  intro v1 μ q h
  unfold M_tests_B104 at h
  refine rn_sls 1 (pc' := 105) (ls' := [(0, (2, 1000)), (1, (0, v1))]) (st' := [(0, 0)]) rfl ?_
  exact rn_sub [0, 1] rfl (t_M_tests_B105 d  _ _ _ _ h)
set_option maxRecDepth 20000 in
theorem t_M_tests_B76 (d : Nat) : ∀ (v1 : Int) (v2 : Int) (μ : am_M) q, M_tests_B76 v1 v2 μ = some q → am_run none (am_ar g_mt (d + 1)) 3 none k_M_tests 76 [(0, (2, 1000)), (1, (0, v1)), (2, (0, v2))] [] μ (am_res 2 q) := by
  intro v1 v2 μ q h
  unfold M_tests_B76 at h
  refine rn_sls 3 (pc' := 81) (ls' := [(0, (2, 1000)), (1, (0, v1)), (2, (0, v2))]) (st' := [(0, v1), (2, 1025)]) rfl ?_
  refine rn_iald (n := 7) rfl rfl rfl h (fun a1 h => ?_)
  refine rn_sls 1 (pc' := 84) (ls' := [(0, (2, 1000)), (1, (0, v1)), (2, (0, v2))]) (st' := [(0, 26), (0, a1)]) rfl ?_
  refine rn_icmpn (t := 106) rfl rfl rfl rfl h (fun h => ?_) (fun h => ?_)
  · refine rn_sls 3 (pc' := 92) (ls' := [(0, (2, 1000)), (1, (0, v1)), (2, (0, v2))]) (st' := [(0, v1), (2, 1024)]) rfl ?_
    refine rn_iald (n := 7) rfl rfl rfl h (fun a2 h => ?_)
    refine rn_if (t := 104) rfl rfl rfl rfl h (fun h => ?_) (fun h => ?_)
    · exact rn_sub [0, 1] rfl (t_M_tests_B104 d  _ _ _ h)
    · refine rn_sls 1 (pc' := 97) (ls' := [(0, (2, 1000)), (1, (0, v1)), (2, (0, v2))]) (st' := [(0, v2)]) rfl ?_
      refine rn_if (t := 104) rfl rfl rfl rfl h (fun h => ?_) (fun h => ?_)
      · exact rn_sub [0, 1] rfl (t_M_tests_B104 d  _ _ _ h)
      · refine rn_sls 1 (pc' := 101) (ls' := [(0, (2, 1000)), (1, (0, v1)), (2, (0, v2))]) (st' := [(0, 1)]) rfl ?_
        refine rn_goto (t := 105) rfl rfl rfl ?_
        exact rn_sub [0, 1] rfl (t_M_tests_B105 d  _ _ _ _ h)
  · exact rn_sub [0, 1, 2] rfl (t_M_tests_B106 d  _ _ _ _ h)
set_option maxRecDepth 20000 in
theorem t_M_tests_B75 (d : Nat) : ∀ (v1 : Int) (s0 : Int) (μ : am_M) q, M_tests_B75 v1 s0 μ = some q → am_run none (am_ar g_mt (d + 1)) 3 none k_M_tests 75 [(0, (2, 1000)), (1, (0, v1))] [(0, s0)] μ (am_res 2 q) := by
  intro v1 s0 μ q h
  unfold M_tests_B75 at h
  refine rn_sls 1 (pc' := 76) (ls' := [(2, (0, s0)), (0, (2, 1000)), (1, (0, v1))]) (st' := []) rfl ?_
  exact rn_sub [1, 2, 0] rfl (t_M_tests_B76 d  _ _ _ _ h)
set_option maxRecDepth 20000 in
theorem t_M_tests_B44 (d : Nat) : ∀ (v1 : Int) (v2 : Int) (μ : am_M) q, M_tests_B44 v1 v2 μ = some q → am_run none (am_ar g_mt (d + 1)) 3 none k_M_tests 44 [(0, (2, 1000)), (1, (0, v1)), (2, (0, v2))] [] μ (am_res 2 q) := by
  intro v1 v2 μ q h
  unfold M_tests_B44 at h
  refine rn_sls 3 (pc' := 49) (ls' := [(0, (2, 1000)), (1, (0, v1)), (2, (0, v2))]) (st' := [(0, v1), (2, 1027)]) rfl ?_
  refine rn_iald (n := 7) rfl rfl rfl h (fun a1 h => ?_)
  refine rn_sls 1 (pc' := 52) (ls' := [(0, (2, 1000)), (1, (0, v1)), (2, (0, v2))]) (st' := [(0, 25), (0, a1)]) rfl ?_
  refine rn_icmpn (t := 76) rfl rfl rfl rfl h (fun h => ?_) (fun h => ?_)
  · refine rn_sls 3 (pc' := 60) (ls' := [(0, (2, 1000)), (1, (0, v1)), (2, (0, v2))]) (st' := [(0, v1), (2, 1026)]) rfl ?_
    refine rn_iald (n := 7) rfl rfl rfl h (fun a2 h => ?_)
    refine rn_sls 3 (pc' := 66) (ls' := [(0, (2, 1000)), (1, (0, v1)), (2, (0, v2))]) (st' := [(0, v1), (2, 1028), (0, a2)]) rfl ?_
    refine rn_iald (n := 7) rfl rfl rfl h (fun a3 h => ?_)
    refine rn_icmpn (t := 74) rfl rfl rfl rfl h (fun h => ?_) (fun h => ?_)
    · refine rn_sls 1 (pc' := 71) (ls' := [(0, (2, 1000)), (1, (0, v1)), (2, (0, v2))]) (st' := [(0, 1)]) rfl ?_
      refine rn_goto (t := 75) rfl rfl rfl ?_
      exact rn_sub [0, 1] rfl (t_M_tests_B75 d  _ _ _ _ h)
    · refine rn_sls 1 (pc' := 75) (ls' := [(0, (2, 1000)), (1, (0, v1)), (2, (0, v2))]) (st' := [(0, 0)]) rfl ?_
      exact rn_sub [0, 1] rfl (t_M_tests_B75 d  _ _ _ _ h)
  · exact rn_sub [0, 1, 2] rfl (t_M_tests_B76 d  _ _ _ _ h)
set_option maxRecDepth 20000 in
theorem t_M_tests_B43 (d : Nat) : ∀ (v1 : Int) (s0 : Int) (μ : am_M) q, M_tests_B43 v1 s0 μ = some q → am_run none (am_ar g_mt (d + 1)) 3 none k_M_tests 43 [(0, (2, 1000)), (1, (0, v1))] [(0, s0)] μ (am_res 2 q) := by
  intro v1 s0 μ q h
  unfold M_tests_B43 at h
  refine rn_sls 1 (pc' := 44) (ls' := [(2, (0, s0)), (0, (2, 1000)), (1, (0, v1))]) (st' := []) rfl ?_
  exact rn_sub [1, 2, 0] rfl (t_M_tests_B44 d  _ _ _ _ h)
set_option maxRecDepth 20000 in
theorem t_M_tests (d : Nat) : ∀ (v1 : Int) (μ : am_M) q, M_tests v1 μ = some q → am_ar g_mt (d + 2) 159 [(2, 1000), (0, v1)] μ (am_res 2 q) := by
  intro v1 μ q h
  unfold M_tests at h
  refine am_ar_of (d := d + 1) i_M_tests rfl rfl (Nat.le_of_ble_eq_true rfl) ?_
  show am_run none (am_ar g_mt (d + 1)) 3 none k_M_tests 0 [(0, (2, 1000)), (1, (0, v1))] [] μ (am_res 2 q)
  refine rn_sls 2 (pc' := 2) (ls' := [(0, (2, 1000)), (1, (0, v1))]) (st' := [(0, v1), (2, 1000)]) rfl ?_
  refine rn_call 0 2 [(2, 1000), (0, v1)] (r := []) rfl ⟨rfl, Or.inl ⟨_, rfl, by decide⟩⟩ (by decide) (fun _ => ⟨_, rfl, rfl⟩) rfl rfl (Nat.le_of_ble_eq_true rfl) h (fun w hw => t_M_sums (d + 0) _ _ _ hw) (fun a1 μ2 h => ?_)
  refine rn_sls 0 (pc' := 5) (ls' := [(0, (2, 1000)), (1, (0, v1))]) (st' := []) rfl ?_
  refine rn_sls 3 (pc' := 10) (ls' := [(0, (2, 1000)), (1, (0, v1))]) (st' := [(0, v1), (2, 1028)]) rfl ?_
  refine rn_iald (n := 7) rfl rfl rfl h (fun a3 h => ?_)
  refine rn_sls 4 (pc' := 17) (ls' := [(2, (0, a3)), (0, (2, 1000)), (1, (0, v1))]) (st' := [(0, v1), (2, 1027)]) rfl ?_
  refine rn_iald (n := 7) rfl rfl rfl h (fun a4 h => ?_)
  refine rn_sls 1 (pc' := 20) (ls' := [(2, (0, a3)), (0, (2, 1000)), (1, (0, v1))]) (st' := [(0, 24), (0, a4)]) rfl ?_
  refine rn_icmpn (t := 44) rfl rfl rfl rfl h (fun h => ?_) (fun h => ?_)
  · refine rn_sls 3 (pc' := 28) (ls' := [(2, (0, a3)), (0, (2, 1000)), (1, (0, v1))]) (st' := [(0, v1), (2, 1026)]) rfl ?_
    refine rn_iald (n := 7) rfl rfl rfl h (fun a5 h => ?_)
    refine rn_sls 3 (pc' := 34) (ls' := [(2, (0, a3)), (0, (2, 1000)), (1, (0, v1))]) (st' := [(0, v1), (2, 1028), (0, a5)]) rfl ?_
    refine rn_iald (n := 7) rfl rfl rfl h (fun a6 h => ?_)
    refine rn_icmpn (t := 42) rfl rfl rfl rfl h (fun h => ?_) (fun h => ?_)
    · refine rn_sls 1 (pc' := 39) (ls' := [(2, (0, a3)), (0, (2, 1000)), (1, (0, v1))]) (st' := [(0, 1)]) rfl ?_
      refine rn_goto (t := 43) rfl rfl rfl ?_
      exact rn_sub [1, 2] rfl (t_M_tests_B43 d  _ _ _ _ h)
    · refine rn_sls 1 (pc' := 43) (ls' := [(2, (0, a3)), (0, (2, 1000)), (1, (0, v1))]) (st' := [(0, 0)]) rfl ?_
      exact rn_sub [1, 2] rfl (t_M_tests_B43 d  _ _ _ _ h)
  · exact rn_sub [1, 2, 0] rfl (t_M_tests_B44 d  _ _ _ _ h)
set_option maxRecDepth 20000 in
theorem t_M_worked_B329 (d : Nat) (k14 : Int → Int → Int → am_M → am_O) (hk14 : ∀ (v1 : Int) (v2 : Int) (v3 : Int) (μ : am_M) q, k14 v1 v2 v3 μ = some q → am_run none (am_ar g_mt (d + 2)) 6 (some .int) k_M_worked 14 [(0, (2, 1000)), (1, (0, v1)), (2, (0, v2)), (3, (0, v3))] [] μ (am_res 0 q)) : ∀ (v1 : Int) (v2 : Int) (v3 : Int) (μ : am_M) q, M_worked_B329 k14 v1 v2 v3 μ = some q → am_run none (am_ar g_mt (d + 2)) 6 (some .int) k_M_worked 329 [(0, (2, 1000)), (1, (0, v1)), (2, (0, v2)), (3, (0, v3))] [] μ (am_res 0 q) := by
  intro v1 v2 v3 μ q h
  unfold M_worked_B329 at h
  refine rn_sls 1 (pc' := 332) (ls' := [(3, (0, (w32 (v3 + 1)))), (0, (2, 1000)), (1, (0, v1)), (2, (0, v2))]) (st' := []) rfl ?_
  refine rn_goto (t := 14) rfl rfl rfl ?_
  exact rn_sub [1, 2, 3, 0] rfl (hk14 _ _ _ _ _ h)
set_option maxRecDepth 20000 in
theorem t_M_worked_B66 (d : Nat) (k14 : Int → Int → Int → am_M → am_O) (hk14 : ∀ (v1 : Int) (v2 : Int) (v3 : Int) (μ : am_M) q, k14 v1 v2 v3 μ = some q → am_run none (am_ar g_mt (d + 2)) 6 (some .int) k_M_worked 14 [(0, (2, 1000)), (1, (0, v1)), (2, (0, v2)), (3, (0, v3))] [] μ (am_res 0 q)) : ∀ (v1 : Int) (v2 : Int) (v3 : Int) (s1 : Int) (s2 : Int) (μ : am_M) q, M_worked_B66 k14 v1 v2 v3 s1 s2 μ = some q → am_run none (am_ar g_mt (d + 2)) 6 (some .int) k_M_worked 66 [(0, (2, 1000)), (1, (0, v1)), (2, (0, v2)), (3, (0, v3))] [(0, s2), (0, s1), (2, 1032)] μ (am_res 0 q) := by
  intro v1 v2 v3 s1 s2 μ q h
  unfold M_worked_B66 at h
  refine rn_iast (n := 7) rfl rfl rfl h (fun μ1 h => ?_)
  refine rn_sls 2 (pc' := 69) (ls' := [(0, (2, 1000)), (1, (0, v1)), (2, (0, v2)), (3, (0, v3))]) (st' := [(0, v2), (2, 1000)]) rfl ?_
  refine rn_call 0 2 [(2, 1000), (0, v2)] (r := []) rfl ⟨rfl, Or.inl ⟨_, rfl, by decide⟩⟩ (by decide) (fun _ => ⟨_, rfl, rfl⟩) rfl rfl (Nat.le_of_ble_eq_true rfl) h (fun w hw => t_M_opens (d + 1) _ _ _ hw) (fun a2 μ3 h => ?_)
  refine rn_sls 0 (pc' := 72) (ls' := [(0, (2, 1000)), (1, (0, v1)), (2, (0, v2)), (3, (0, v3))]) (st' := []) rfl ?_
  refine rn_goto (t := 329) rfl rfl rfl ?_
  exact rn_sub [0, 1, 2, 3] rfl (t_M_worked_B329 d k14 hk14 _ _ _ _ _ h)
set_option maxRecDepth 20000 in
theorem t_M_worked_B46 (d : Nat) (k14 : Int → Int → Int → am_M → am_O) (hk14 : ∀ (v1 : Int) (v2 : Int) (v3 : Int) (μ : am_M) q, k14 v1 v2 v3 μ = some q → am_run none (am_ar g_mt (d + 2)) 6 (some .int) k_M_worked 14 [(0, (2, 1000)), (1, (0, v1)), (2, (0, v2)), (3, (0, v3))] [] μ (am_res 0 q)) : ∀ (v1 : Int) (v2 : Int) (v3 : Int) (v4 : Int) (μ : am_M) q, M_worked_B46 k14 v1 v2 v3 v4 μ = some q → am_run none (am_ar g_mt (d + 2)) 6 (some .int) k_M_worked 46 [(0, (2, 1000)), (1, (0, v1)), (2, (0, v2)), (3, (0, v3)), (4, (0, v4))] [] μ (am_res 0 q) := by
  intro v1 v2 v3 v4 μ q h
  unfold M_worked_B46 at h
  refine rn_sls 6 (pc' := 58) (ls' := [(2, (0, (w32 (v2 + 1)))), (0, (2, 1000)), (1, (0, v1)), (3, (0, v3)), (4, (0, v4))]) (st' := [(0, 30), (0, v4), (0, (w32 (v2 + 1))), (2, 1032)]) rfl ?_
  refine rn_icmpn (t := 65) rfl rfl rfl rfl h (fun h => ?_) (fun h => ?_)
  · refine rn_sls 1 (pc' := 62) (ls' := [(2, (0, (w32 (v2 + 1)))), (0, (2, 1000)), (1, (0, v1)), (3, (0, v3)), (4, (0, v4))]) (st' := [(0, 1), (0, (w32 (v2 + 1))), (2, 1032)]) rfl ?_
    refine rn_goto (t := 66) rfl rfl rfl ?_
    exact rn_sub [1, 2, 0, 3] rfl (t_M_worked_B66 d k14 hk14 _ _ _ _ _ _ _ h)
  · refine rn_sls 1 (pc' := 66) (ls' := [(2, (0, (w32 (v2 + 1)))), (0, (2, 1000)), (1, (0, v1)), (3, (0, v3)), (4, (0, v4))]) (st' := [(0, 0), (0, (w32 (v2 + 1))), (2, 1032)]) rfl ?_
    exact rn_sub [1, 2, 0, 3] rfl (t_M_worked_B66 d k14 hk14 _ _ _ _ _ _ _ h)
set_option maxRecDepth 20000 in
theorem t_M_worked_B89 (d : Nat) (k14 : Int → Int → Int → am_M → am_O) (hk14 : ∀ (v1 : Int) (v2 : Int) (v3 : Int) (μ : am_M) q, k14 v1 v2 v3 μ = some q → am_run none (am_ar g_mt (d + 2)) 6 (some .int) k_M_worked 14 [(0, (2, 1000)), (1, (0, v1)), (2, (0, v2)), (3, (0, v3))] [] μ (am_res 0 q)) : ∀ (v1 : Int) (v2 : Int) (v3 : Int) (v4 : Int) (μ : am_M) q, M_worked_B89 k14 v1 v2 v3 v4 μ = some q → am_run none (am_ar g_mt (d + 2)) 6 (some .int) k_M_worked 89 [(0, (2, 1000)), (1, (0, v1)), (2, (0, v2)), (3, (0, v3)), (4, (0, v4))] [] μ (am_res 0 q) := by
  intro v1 v2 v3 v4 μ q h
  unfold M_worked_B89 at h
  refine rn_sls 2 (pc' := 91) (ls' := [(0, (2, 1000)), (1, (0, v1)), (2, (0, v2)), (3, (0, v3)), (4, (0, v4))]) (st' := [(0, v2), (2, 1000)]) rfl ?_
  refine rn_call 0 2 [(2, 1000), (0, v2)] (r := []) rfl ⟨rfl, Or.inl ⟨_, rfl, by decide⟩⟩ (by decide) (fun _ => ⟨_, rfl, rfl⟩) rfl rfl (Nat.le_of_ble_eq_true rfl) h (fun w hw => t_M_sums (d + 1) _ _ _ hw) (fun a1 μ2 h => ?_)
  refine rn_sls 0 (pc' := 94) (ls' := [(0, (2, 1000)), (1, (0, v1)), (2, (0, v2)), (3, (0, v3)), (4, (0, v4))]) (st' := []) rfl ?_
  refine rn_sls 4 (pc' := 101) (ls' := [(0, (2, 1000)), (1, (0, v1)), (2, (0, v2)), (3, (0, v3)), (4, (0, v4))]) (st' := [(0, v4), (0, v2), (2, 1029)]) rfl ?_
  refine rn_iast (n := 7) rfl rfl rfl h (fun μ3 h => ?_)
  refine rn_goto (t := 329) rfl rfl rfl ?_
  exact rn_sub [0, 1, 2, 3] rfl (t_M_worked_B329 d k14 hk14 _ _ _ _ _ h)
set_option maxRecDepth 20000 in
theorem t_M_worked_B137 (d : Nat) (k14 : Int → Int → Int → am_M → am_O) (hk14 : ∀ (v1 : Int) (v2 : Int) (v3 : Int) (μ : am_M) q, k14 v1 v2 v3 μ = some q → am_run none (am_ar g_mt (d + 2)) 6 (some .int) k_M_worked 14 [(0, (2, 1000)), (1, (0, v1)), (2, (0, v2)), (3, (0, v3))] [] μ (am_res 0 q)) : ∀ (v1 : Int) (v2 : Int) (v3 : Int) (v4 : Int) (μ : am_M) q, M_worked_B137 k14 v1 v2 v3 v4 μ = some q → am_run none (am_ar g_mt (d + 2)) 6 (some .int) k_M_worked 137 [(0, (2, 1000)), (1, (0, v1)), (2, (0, v2)), (3, (0, v3)), (4, (0, v4))] [] μ (am_res 0 q) := by
  intro v1 v2 v3 v4 μ q h
  unfold M_worked_B137 at h
  refine rn_sls 2 (pc' := 139) (ls' := [(0, (2, 1000)), (1, (0, v1)), (2, (0, v2)), (3, (0, v3)), (4, (0, v4))]) (st' := [(0, v2), (2, 1000)]) rfl ?_
  refine rn_call 0 2 [(2, 1000), (0, v2)] (r := []) rfl ⟨rfl, Or.inl ⟨_, rfl, by decide⟩⟩ (by decide) (fun _ => ⟨_, rfl, rfl⟩) rfl rfl (Nat.le_of_ble_eq_true rfl) h (fun w hw => t_M_sums (d + 1) _ _ _ hw) (fun a1 μ2 h => ?_)
  refine rn_sls 0 (pc' := 142) (ls' := [(0, (2, 1000)), (1, (0, v1)), (2, (0, v2)), (3, (0, v3)), (4, (0, v4))]) (st' := []) rfl ?_
  refine rn_sls 6 (pc' := 152) (ls' := [(0, (2, 1000)), (1, (0, v1)), (2, (0, v2)), (3, (0, v3)), (4, (0, v4))]) (st' := [(0, v2), (2, 1028), (0, v2), (2, 1026)]) rfl ?_
  refine rn_iald (n := 7) rfl rfl rfl h (fun a3 h => ?_)
  refine rn_iast (n := 7) rfl rfl rfl h (fun μ4 h => ?_)
  refine rn_sls 4 (pc' := 161) (ls' := [(0, (2, 1000)), (1, (0, v1)), (2, (0, v2)), (3, (0, v3)), (4, (0, v4))]) (st' := [(0, v4), (0, v2), (2, 1027)]) rfl ?_
  refine rn_iast (n := 7) rfl rfl rfl h (fun μ5 h => ?_)
  refine rn_sls 4 (pc' := 168) (ls' := [(0, (2, 1000)), (1, (0, v1)), (2, (0, v2)), (3, (0, v3)), (4, (0, v4))]) (st' := [(0, 0), (0, v2), (2, 1028)]) rfl ?_
  refine rn_iast (n := 7) rfl rfl rfl h (fun μ6 h => ?_)
  refine rn_sls 4 (pc' := 176) (ls' := [(0, (2, 1000)), (1, (0, v1)), (2, (0, v2)), (3, (0, v3)), (4, (0, v4))]) (st' := [(0, 20), (0, v2), (2, 1029)]) rfl ?_
  refine rn_iast (n := 7) rfl rfl rfl h (fun μ7 h => ?_)
  refine rn_goto (t := 329) rfl rfl rfl ?_
  exact rn_sub [0, 1, 2, 3] rfl (t_M_worked_B329 d k14 hk14 _ _ _ _ _ h)
set_option maxRecDepth 20000 in
theorem t_M_worked_B194 (d : Nat) (k14 : Int → Int → Int → am_M → am_O) (hk14 : ∀ (v1 : Int) (v2 : Int) (v3 : Int) (μ : am_M) q, k14 v1 v2 v3 μ = some q → am_run none (am_ar g_mt (d + 2)) 6 (some .int) k_M_worked 14 [(0, (2, 1000)), (1, (0, v1)), (2, (0, v2)), (3, (0, v3))] [] μ (am_res 0 q)) : ∀ (v1 : Int) (v2 : Int) (v3 : Int) (v4 : Int) (μ : am_M) q, M_worked_B194 k14 v1 v2 v3 v4 μ = some q → am_run none (am_ar g_mt (d + 2)) 6 (some .int) k_M_worked 194 [(0, (2, 1000)), (1, (0, v1)), (2, (0, v2)), (3, (0, v3)), (4, (0, v4))] [] μ (am_res 0 q) := by
  intro v1 v2 v3 v4 μ q h
  unfold M_worked_B194 at h
  refine rn_sls 2 (pc' := 196) (ls' := [(0, (2, 1000)), (1, (0, v1)), (2, (0, v2)), (3, (0, v3)), (4, (0, v4))]) (st' := [(0, v2), (2, 1000)]) rfl ?_
  refine rn_call 0 2 [(2, 1000), (0, v2)] (r := []) rfl ⟨rfl, Or.inl ⟨_, rfl, by decide⟩⟩ (by decide) (fun _ => ⟨_, rfl, rfl⟩) rfl rfl (Nat.le_of_ble_eq_true rfl) h (fun w hw => t_M_tests (d + 0) _ _ _ hw) (fun a1 μ2 h => ?_)
  refine rn_sls 0 (pc' := 199) (ls' := [(0, (2, 1000)), (1, (0, v1)), (2, (0, v2)), (3, (0, v3)), (4, (0, v4))]) (st' := []) rfl ?_
  refine rn_sls 4 (pc' := 206) (ls' := [(0, (2, 1000)), (1, (0, v1)), (2, (0, v2)), (3, (0, v3)), (4, (0, v4))]) (st' := [(0, v4), (0, v2), (2, 1025)]) rfl ?_
  refine rn_iast (n := 7) rfl rfl rfl h (fun μ3 h => ?_)
  refine rn_goto (t := 329) rfl rfl rfl ?_
  exact rn_sub [0, 1, 2, 3] rfl (t_M_worked_B329 d k14 hk14 _ _ _ _ _ h)
set_option maxRecDepth 20000 in
theorem t_M_worked_B292 (d : Nat) (k14 : Int → Int → Int → am_M → am_O) (hk14 : ∀ (v1 : Int) (v2 : Int) (v3 : Int) (μ : am_M) q, k14 v1 v2 v3 μ = some q → am_run none (am_ar g_mt (d + 2)) 6 (some .int) k_M_worked 14 [(0, (2, 1000)), (1, (0, v1)), (2, (0, v2)), (3, (0, v3))] [] μ (am_res 0 q)) (k268 : Int → Int → Int → Int → am_M → am_O) (hk268 : ∀ (v1 : Int) (v2 : Int) (v3 : Int) (v5 : Int) (μ : am_M) q, k268 v1 v2 v3 v5 μ = some q → am_run none (am_ar g_mt (d + 2)) 6 (some .int) k_M_worked 268 [(0, (2, 1000)), (1, (0, v1)), (2, (0, v2)), (3, (0, v3)), (5, (0, v5))] [] μ (am_res 0 q)) : ∀ (v1 : Int) (v2 : Int) (v3 : Int) (s0 : Int) (μ : am_M) q, M_worked_B292 k14 k268 v1 v2 v3 s0 μ = some q → am_run none (am_ar g_mt (d + 2)) 6 (some .int) k_M_worked 292 [(0, (2, 1000)), (1, (0, v1)), (2, (0, v2)), (3, (0, v3))] [(0, s0)] μ (am_res 0 q) := by
  intro v1 v2 v3 s0 μ q h
  unfold M_worked_B292 at h
  refine rn_sls 2 (pc' := 297) (ls' := [(2, (0, (w32 (v2 + (-1))))), (5, (0, s0)), (0, (2, 1000)), (1, (0, v1)), (3, (0, v3))]) (st' := []) rfl ?_
  refine rn_goto (t := 268) rfl rfl rfl ?_
  exact rn_sub [2, 3, 0, 4, 1] rfl (hk268 _ _ _ _ _ _ h)
set_option maxRecDepth 20000 in
theorem t_M_worked_B328 (d : Nat) (k14 : Int → Int → Int → am_M → am_O) (hk14 : ∀ (v1 : Int) (v2 : Int) (v3 : Int) (μ : am_M) q, k14 v1 v2 v3 μ = some q → am_run none (am_ar g_mt (d + 2)) 6 (some .int) k_M_worked 14 [(0, (2, 1000)), (1, (0, v1)), (2, (0, v2)), (3, (0, v3))] [] μ (am_res 0 q)) : ∀ (v1 : Int) (v2 : Int) (v3 : Int) (s1 : Int) (s2 : Int) (μ : am_M) q, M_worked_B328 k14 v1 v2 v3 s1 s2 μ = some q → am_run none (am_ar g_mt (d + 2)) 6 (some .int) k_M_worked 328 [(0, (2, 1000)), (1, (0, v1)), (2, (0, v2)), (3, (0, v3))] [(0, s2), (0, s1), (2, 1030)] μ (am_res 0 q) := by
  intro v1 v2 v3 s1 s2 μ q h
  unfold M_worked_B328 at h
  refine rn_iast (n := 7) rfl rfl rfl h (fun μ1 h => ?_)
  exact rn_sub [0, 1, 2, 3] rfl (t_M_worked_B329 d k14 hk14 _ _ _ _ _ h)
set_option maxRecDepth 20000 in
theorem t_M_worked_B300 (d : Nat) (k14 : Int → Int → Int → am_M → am_O) (hk14 : ∀ (v1 : Int) (v2 : Int) (v3 : Int) (μ : am_M) q, k14 v1 v2 v3 μ = some q → am_run none (am_ar g_mt (d + 2)) 6 (some .int) k_M_worked 14 [(0, (2, 1000)), (1, (0, v1)), (2, (0, v2)), (3, (0, v3))] [] μ (am_res 0 q)) : ∀ (v1 : Int) (v2 : Int) (v3 : Int) (v5 : Int) (μ : am_M) q, M_worked_B300 k14 v1 v2 v3 v5 μ = some q → am_run none (am_ar g_mt (d + 2)) 6 (some .int) k_M_worked 300 [(0, (2, 1000)), (1, (0, v1)), (2, (0, v2)), (3, (0, v3)), (5, (0, v5))] [] μ (am_res 0 q) := by
  intro v1 v2 v3 v5 μ q h
  unfold M_worked_B300 at h
  refine rn_sls 6 (pc' := 310) (ls' := [(0, (2, 1000)), (1, (0, v1)), (2, (0, v2)), (3, (0, v3)), (5, (0, v5))]) (st' := [(0, v2), (2, 1031), (0, v2), (2, 1030)]) rfl ?_
  refine rn_iald (n := 7) rfl rfl rfl h (fun a1 h => ?_)
  refine rn_ifn (t := 319) rfl rfl rfl rfl h (fun h => ?_) (fun h => ?_)
  · refine rn_sls 1 (pc' := 316) (ls' := [(0, (2, 1000)), (1, (0, v1)), (2, (0, v2)), (3, (0, v3)), (5, (0, v5))]) (st' := [(0, v5), (0, v2), (2, 1030)]) rfl ?_
    refine rn_goto (t := 328) rfl rfl rfl ?_
    exact rn_sub [0, 1, 2, 3] rfl (t_M_worked_B328 d k14 hk14 _ _ _ _ _ _ _ h)
  · refine rn_sls 3 (pc' := 324) (ls' := [(0, (2, 1000)), (1, (0, v1)), (2, (0, v2)), (3, (0, v3)), (5, (0, v5))]) (st' := [(0, v2), (2, 1030), (0, v2), (2, 1030)]) rfl ?_
    refine rn_iald (n := 7) rfl rfl rfl h (fun a2 h => ?_)
    refine rn_sls 2 (pc' := 328) (ls' := [(0, (2, 1000)), (1, (0, v1)), (2, (0, v2)), (3, (0, v3)), (5, (0, v5))]) (st' := [(0, (w32 (a2 * v5))), (0, v2), (2, 1030)]) rfl ?_
    exact rn_sub [0, 1, 2, 3] rfl (t_M_worked_B328 d k14 hk14 _ _ _ _ _ _ _ h)
set_option maxRecDepth 20000 in
theorem t_M_worked_L268_b (d : Nat) (k14 : Int → Int → Int → am_M → am_O) (hk14 : ∀ (v1 : Int) (v2 : Int) (v3 : Int) (μ : am_M) q, k14 v1 v2 v3 μ = some q → am_run none (am_ar g_mt (d + 2)) 6 (some .int) k_M_worked 14 [(0, (2, 1000)), (1, (0, v1)), (2, (0, v2)), (3, (0, v3))] [] μ (am_res 0 q)) (k268 : Int → Int → Int → Int → am_M → am_O) (hk268 : ∀ (v1 : Int) (v2 : Int) (v3 : Int) (v5 : Int) (μ : am_M) q, k268 v1 v2 v3 v5 μ = some q → am_run none (am_ar g_mt (d + 2)) 6 (some .int) k_M_worked 268 [(0, (2, 1000)), (1, (0, v1)), (2, (0, v2)), (3, (0, v3)), (5, (0, v5))] [] μ (am_res 0 q)) : ∀ (v1 : Int) (v2 : Int) (v3 : Int) (v5 : Int) (μ : am_M) q, M_worked_L268_b k14 k268 v1 v2 v3 v5 μ = some q → am_run none (am_ar g_mt (d + 2)) 6 (some .int) k_M_worked 268 [(0, (2, 1000)), (1, (0, v1)), (2, (0, v2)), (3, (0, v3)), (5, (0, v5))] [] μ (am_res 0 q) := by
  intro v1 v2 v3 v5 μ q h
  unfold M_worked_L268_b at h
  refine rn_sls 1 (pc' := 269) (ls' := [(0, (2, 1000)), (1, (0, v1)), (2, (0, v2)), (3, (0, v3)), (5, (0, v5))]) (st' := [(0, v2)]) rfl ?_
  refine rn_if (t := 300) rfl rfl rfl rfl h (fun h => ?_) (fun h => ?_)
  · exact rn_sub [0, 1, 2, 3, 4] rfl (t_M_worked_B300 d k14 hk14 _ _ _ _ _ _ h)
  · refine rn_sls 3 (pc' := 277) (ls' := [(0, (2, 1000)), (1, (0, v1)), (2, (0, v2)), (3, (0, v3)), (5, (0, v5))]) (st' := [(0, v2), (2, 1032)]) rfl ?_
    refine rn_iald (n := 7) rfl rfl rfl h (fun a1 h => ?_)
    refine rn_sls 1 (pc' := 279) (ls' := [(0, (2, 1000)), (1, (0, v1)), (2, (0, v2)), (3, (0, v3)), (5, (0, v5))]) (st' := [(0, 1), (0, a1)]) rfl ?_
    refine rn_icmpn (t := 300) rfl rfl rfl rfl h (fun h => ?_) (fun h => ?_)
    · refine rn_sls 1 (pc' := 284) (ls' := [(0, (2, 1000)), (1, (0, v1)), (2, (0, v2)), (3, (0, v3)), (5, (0, v5))]) (st' := [(0, v5)]) rfl ?_
      refine rn_ifn (t := 291) rfl rfl rfl rfl h (fun h => ?_) (fun h => ?_)
      · refine rn_sls 1 (pc' := 288) (ls' := [(0, (2, 1000)), (1, (0, v1)), (2, (0, v2)), (3, (0, v3)), (5, (0, v5))]) (st' := [(0, 1)]) rfl ?_
        refine rn_goto (t := 292) rfl rfl rfl ?_
        exact rn_sub [0, 1, 2, 3] rfl (t_M_worked_B292 d k14 hk14 k268 hk268 _ _ _ _ _ _ h)
      · refine rn_sls 1 (pc' := 292) (ls' := [(0, (2, 1000)), (1, (0, v1)), (2, (0, v2)), (3, (0, v3)), (5, (0, v5))]) (st' := [(0, 0)]) rfl ?_
        exact rn_sub [0, 1, 2, 3] rfl (t_M_worked_B292 d k14 hk14 k268 hk268 _ _ _ _ _ _ h)
    · exact rn_sub [0, 1, 2, 3, 4] rfl (t_M_worked_B300 d k14 hk14 _ _ _ _ _ _ h)
set_option maxRecDepth 20000 in
theorem t_M_worked_L268 (d : Nat) (k14 : Int → Int → Int → am_M → am_O) (hk14 : ∀ (v1 : Int) (v2 : Int) (v3 : Int) (μ : am_M) q, k14 v1 v2 v3 μ = some q → am_run none (am_ar g_mt (d + 2)) 6 (some .int) k_M_worked 14 [(0, (2, 1000)), (1, (0, v1)), (2, (0, v2)), (3, (0, v3))] [] μ (am_res 0 q)) : ∀ (n : Nat) (v1 : Int) (v2 : Int) (v3 : Int) (v5 : Int) (μ : am_M) q, M_worked_L268 k14 n v1 v2 v3 v5 μ = some q → am_run none (am_ar g_mt (d + 2)) 6 (some .int) k_M_worked 268 [(0, (2, 1000)), (1, (0, v1)), (2, (0, v2)), (3, (0, v3)), (5, (0, v5))] [] μ (am_res 0 q) := by
  intro n
  induction n with
  | zero => intro v1 v2 v3 v5 μ q h; cases h
  | succ n ih => intro v1 v2 v3 v5 μ q h; exact t_M_worked_L268_b d k14 hk14 (M_worked_L268 k14 n) ih v1 v2 v3 v5 μ q h
set_option maxRecDepth 20000 in
theorem t_M_worked_B243 (d : Nat) (k14 : Int → Int → Int → am_M → am_O) (hk14 : ∀ (v1 : Int) (v2 : Int) (v3 : Int) (μ : am_M) q, k14 v1 v2 v3 μ = some q → am_run none (am_ar g_mt (d + 2)) 6 (some .int) k_M_worked 14 [(0, (2, 1000)), (1, (0, v1)), (2, (0, v2)), (3, (0, v3))] [] μ (am_res 0 q)) : ∀ (v1 : Int) (v2 : Int) (v3 : Int) (v4 : Int) (s0 : Int) (μ : am_M) q, M_worked_B243 k14 v1 v2 v3 v4 s0 μ = some q → am_run none (am_ar g_mt (d + 2)) 6 (some .int) k_M_worked 243 [(0, (2, 1000)), (1, (0, v1)), (2, (0, v2)), (3, (0, v3)), (4, (0, v4))] [(0, s0)] μ (am_res 0 q) := by
  intro v1 v2 v3 v4 s0 μ q h
  unfold M_worked_B243 at h
  refine rn_sls 3 (pc' := 249) (ls' := [(5, (0, s0)), (0, (2, 1000)), (1, (0, v1)), (2, (0, v2)), (3, (0, v3)), (4, (0, v4))]) (st' := [(0, 29), (0, v4)]) rfl ?_
  refine rn_icmpn (t := 268) rfl rfl rfl rfl h (fun h => ?_) (fun h => ?_)
  · refine rn_sls 2 (pc' := 254) (ls' := [(5, (0, s0)), (0, (2, 1000)), (1, (0, v1)), (2, (0, v2)), (3, (0, v3)), (4, (0, v4))]) (st' := [(0, v2), (2, 1000)]) rfl ?_
    refine rn_call 0 2 [(2, 1000), (0, v2)] (r := []) rfl ⟨rfl, Or.inl ⟨_, rfl, by decide⟩⟩ (by decide) (fun _ => ⟨_, rfl, rfl⟩) rfl rfl (Nat.le_of_ble_eq_true rfl) h (fun w hw => t_M_tests (d + 0) _ _ _ hw) (fun a1 μ2 h => ?_)
    refine rn_sls 0 (pc' := 257) (ls' := [(5, (0, s0)), (0, (2, 1000)), (1, (0, v1)), (2, (0, v2)), (3, (0, v3)), (4, (0, v4))]) (st' := []) rfl ?_
    refine rn_sls 3 (pc' := 262) (ls' := [(5, (0, s0)), (0, (2, 1000)), (1, (0, v1)), (2, (0, v2)), (3, (0, v3)), (4, (0, v4))]) (st' := [(0, v2), (2, 1024)]) rfl ?_
    refine rn_iald (n := 7) rfl rfl rfl h (fun a3 h => ?_)
    refine rn_sls 2 (pc' := 268) (ls' := [(2, (0, (w32 (v2 + (-1))))), (5, (0, a3)), (0, (2, 1000)), (1, (0, v1)), (3, (0, v3)), (4, (0, v4))]) (st' := []) rfl ?_
    exact rn_sub [2, 3, 0, 4, 1] rfl (t_M_worked_L268 d k14 hk14 am_FU _ _ _ _ _ _ h)
  · exact rn_sub [1, 2, 3, 4, 0] rfl (t_M_worked_L268 d k14 hk14 am_FU _ _ _ _ _ _ h)
set_option maxRecDepth 20000 in
theorem t_M_worked_L14_b (d : Nat) (k14 : Int → Int → Int → am_M → am_O) (hk14 : ∀ (v1 : Int) (v2 : Int) (v3 : Int) (μ : am_M) q, k14 v1 v2 v3 μ = some q → am_run none (am_ar g_mt (d + 2)) 6 (some .int) k_M_worked 14 [(0, (2, 1000)), (1, (0, v1)), (2, (0, v2)), (3, (0, v3))] [] μ (am_res 0 q)) : ∀ (v1 : Int) (v2 : Int) (v3 : Int) (μ : am_M) q, M_worked_L14_b k14 v1 v2 v3 μ = some q → am_run none (am_ar g_mt (d + 2)) 6 (some .int) k_M_worked 14 [(0, (2, 1000)), (1, (0, v1)), (2, (0, v2)), (3, (0, v3))] [] μ (am_res 0 q) := by
  intro v1 v2 v3 μ q h
  unfold M_worked_L14_b at h
  refine rn_sls 4 (pc' := 20) (ls' := [(0, (2, 1000)), (1, (0, v1)), (2, (0, v2)), (3, (0, v3))]) (st' := [(0, v1), (2, 1011), (0, v3)]) rfl ?_
  refine rn_iald (n := 120) rfl rfl rfl h (fun a1 h => ?_)
  refine rn_icmpn (t := 335) rfl rfl rfl rfl h (fun h => ?_) (fun h => ?_)
  · refine rn_sls 3 (pc' := 29) (ls' := [(0, (2, 1000)), (1, (0, v1)), (2, (0, v2)), (3, (0, v3))]) (st' := [(0, v3), (2, 1012)]) rfl ?_
    refine rn_iald (n := 2000) rfl rfl rfl h (fun a5 h => ?_)
    refine rn_sls 3 (pc' := 36) (ls' := [(4, (0, a5)), (0, (2, 1000)), (1, (0, v1)), (2, (0, v2)), (3, (0, v3))]) (st' := [(0, 28), (0, a5)]) rfl ?_
    refine rn_icmp (t := 46) rfl rfl rfl rfl h (fun h => ?_) (fun h => ?_)
    · exact rn_sub [1, 2, 3, 4, 0] rfl (t_M_worked_B46 d k14 hk14 _ _ _ _ _ _ h)
    · refine rn_sls 2 (pc' := 43) (ls' := [(4, (0, a5)), (0, (2, 1000)), (1, (0, v1)), (2, (0, v2)), (3, (0, v3))]) (st' := [(0, 30), (0, a5)]) rfl ?_
      refine rn_icmpn (t := 75) rfl rfl rfl rfl h (fun h => ?_) (fun h => ?_)
      · exact rn_sub [1, 2, 3, 4, 0] rfl (t_M_worked_B46 d k14 hk14 _ _ _ _ _ _ h)
      · refine rn_sls 2 (pc' := 79) (ls' := [(4, (0, a5)), (0, (2, 1000)), (1, (0, v1)), (2, (0, v2)), (3, (0, v3))]) (st' := [(0, 20), (0, a5)]) rfl ?_
        refine rn_icmp (t := 89) rfl rfl rfl rfl h (fun h => ?_) (fun h => ?_)
        · exact rn_sub [1, 2, 3, 4, 0] rfl (t_M_worked_B89 d k14 hk14 _ _ _ _ _ _ h)
        · refine rn_sls 2 (pc' := 86) (ls' := [(4, (0, a5)), (0, (2, 1000)), (1, (0, v1)), (2, (0, v2)), (3, (0, v3))]) (st' := [(0, 21), (0, a5)]) rfl ?_
          refine rn_icmpn (t := 105) rfl rfl rfl rfl h (fun h => ?_) (fun h => ?_)
          · exact rn_sub [1, 2, 3, 4, 0] rfl (t_M_worked_B89 d k14 hk14 _ _ _ _ _ _ h)
          · refine rn_sls 2 (pc' := 109) (ls' := [(4, (0, a5)), (0, (2, 1000)), (1, (0, v1)), (2, (0, v2)), (3, (0, v3))]) (st' := [(0, 22), (0, a5)]) rfl ?_
            refine rn_icmpn (t := 123) rfl rfl rfl rfl h (fun h => ?_) (fun h => ?_)
            · refine rn_sls 4 (pc' := 119) (ls' := [(4, (0, a5)), (0, (2, 1000)), (1, (0, v1)), (2, (0, v2)), (3, (0, v3))]) (st' := [(0, a5), (0, v2), (2, 1031)]) rfl ?_
              refine rn_iast (n := 7) rfl rfl rfl h (fun μ7 h => ?_)
              refine rn_goto (t := 329) rfl rfl rfl ?_
              exact rn_sub [1, 2, 3, 4] rfl (t_M_worked_B329 d k14 hk14 _ _ _ _ _ h)
            · refine rn_sls 2 (pc' := 127) (ls' := [(4, (0, a5)), (0, (2, 1000)), (1, (0, v1)), (2, (0, v2)), (3, (0, v3))]) (st' := [(0, 24), (0, a5)]) rfl ?_
              refine rn_icmp (t := 137) rfl rfl rfl rfl h (fun h => ?_) (fun h => ?_)
              · exact rn_sub [1, 2, 3, 4, 0] rfl (t_M_worked_B137 d k14 hk14 _ _ _ _ _ _ h)
              · refine rn_sls 2 (pc' := 134) (ls' := [(4, (0, a5)), (0, (2, 1000)), (1, (0, v1)), (2, (0, v2)), (3, (0, v3))]) (st' := [(0, 25), (0, a5)]) rfl ?_
                refine rn_icmpn (t := 180) rfl rfl rfl rfl h (fun h => ?_) (fun h => ?_)
                · exact rn_sub [1, 2, 3, 4, 0] rfl (t_M_worked_B137 d k14 hk14 _ _ _ _ _ _ h)
                · refine rn_sls 2 (pc' := 184) (ls' := [(4, (0, a5)), (0, (2, 1000)), (1, (0, v1)), (2, (0, v2)), (3, (0, v3))]) (st' := [(0, 26), (0, a5)]) rfl ?_
                  refine rn_icmp (t := 194) rfl rfl rfl rfl h (fun h => ?_) (fun h => ?_)
                  · exact rn_sub [1, 2, 3, 4, 0] rfl (t_M_worked_B194 d k14 hk14 _ _ _ _ _ _ h)
                  · refine rn_sls 2 (pc' := 191) (ls' := [(4, (0, a5)), (0, (2, 1000)), (1, (0, v1)), (2, (0, v2)), (3, (0, v3))]) (st' := [(0, 27), (0, a5)]) rfl ?_
                    refine rn_icmpn (t := 210) rfl rfl rfl rfl h (fun h => ?_) (fun h => ?_)
                    · exact rn_sub [1, 2, 3, 4, 0] rfl (t_M_worked_B194 d k14 hk14 _ _ _ _ _ _ h)
                    · refine rn_sls 2 (pc' := 214) (ls' := [(4, (0, a5)), (0, (2, 1000)), (1, (0, v1)), (2, (0, v2)), (3, (0, v3))]) (st' := [(0, 100), (0, a5)]) rfl ?_
                      refine rn_icmp (t := 225) rfl rfl rfl rfl h (fun h => ?_) (fun h => ?_)
                      · refine rn_sls 2 (pc' := 229) (ls' := [(4, (0, a5)), (0, (2, 1000)), (1, (0, v1)), (2, (0, v2)), (3, (0, v3))]) (st' := [(0, 20), (0, a5)]) rfl ?_
                        refine rn_icmpn (t := 242) rfl rfl rfl rfl h (fun h => ?_) (fun h => ?_)
                        · refine rn_sls 3 (pc' := 238) (ls' := [(4, (0, a5)), (0, (2, 1000)), (1, (0, v1)), (2, (0, v2)), (3, (0, v3))]) (st' := [(0, a5), (2, 1033)]) rfl ?_
                          refine rn_iald (n := 20) rfl rfl rfl h (fun a6 h => ?_)
                          refine rn_goto (t := 243) rfl rfl rfl ?_
                          exact rn_sub [1, 2, 3, 4, 0] rfl (t_M_worked_B243 d k14 hk14 _ _ _ _ _ _ _ h)
                        · refine rn_sls 1 (pc' := 243) (ls' := [(4, (0, a5)), (0, (2, 1000)), (1, (0, v1)), (2, (0, v2)), (3, (0, v3))]) (st' := [(0, 0)]) rfl ?_
                          exact rn_sub [1, 2, 3, 4, 0] rfl (t_M_worked_B243 d k14 hk14 _ _ _ _ _ _ _ h)
                      · refine rn_sls 3 (pc' := 222) (ls' := [(4, (0, a5)), (0, (2, 1000)), (1, (0, v1)), (2, (0, v2)), (3, (0, v3))]) (st' := [(0, (w32 (a5 - 100)))]) rfl ?_
                        refine rn_goto (t := 243) rfl rfl rfl ?_
                        exact rn_sub [1, 2, 3, 4, 0] rfl (t_M_worked_B243 d k14 hk14 _ _ _ _ _ _ _ h)
  · refine rn_sls 2 (pc' := 337) (ls' := [(0, (2, 1000)), (1, (0, v1)), (2, (0, v2)), (3, (0, v3))]) (st' := [(0, 0), (2, 1000)]) rfl ?_
    refine rn_call 0 2 [(2, 1000), (0, 0)] (r := []) rfl ⟨rfl, Or.inl ⟨_, rfl, by decide⟩⟩ (by decide) (fun _ => ⟨_, rfl, rfl⟩) rfl rfl (Nat.le_of_ble_eq_true rfl) h (fun w hw => t_M_tests (d + 0) _ _ _ hw) (fun a2 μ3 h => ?_)
    refine rn_sls 0 (pc' := 340) (ls' := [(0, (2, 1000)), (1, (0, v1)), (2, (0, v2)), (3, (0, v3))]) (st' := []) rfl ?_
    refine rn_sls 3 (pc' := 345) (ls' := [(0, (2, 1000)), (1, (0, v1)), (2, (0, v2)), (3, (0, v3))]) (st' := [(0, 0), (2, 1024)]) rfl ?_
    refine rn_iald (n := 7) rfl rfl rfl h (fun a4 h => ?_)
    exact rn_ireti rfl rfl rfl h rfl
set_option maxRecDepth 20000 in
theorem t_M_worked_L14 (d : Nat) : ∀ (n : Nat) (v1 : Int) (v2 : Int) (v3 : Int) (μ : am_M) q, M_worked_L14 n v1 v2 v3 μ = some q → am_run none (am_ar g_mt (d + 2)) 6 (some .int) k_M_worked 14 [(0, (2, 1000)), (1, (0, v1)), (2, (0, v2)), (3, (0, v3))] [] μ (am_res 0 q) := by
  intro n
  induction n with
  | zero => intro v1 v2 v3 μ q h; cases h
  | succ n ih => intro v1 v2 v3 μ q h; exact t_M_worked_L14_b d (M_worked_L14 n) ih v1 v2 v3 μ q h
set_option maxRecDepth 20000 in
theorem t_M_worked (d : Nat) : ∀ (v1 : Int) (μ : am_M) q, M_worked v1 μ = some q → am_ar g_mt (d + 3) 160 [(2, 1000), (0, v1)] μ (am_res 0 q) := by
  intro v1 μ q h
  unfold M_worked at h
  refine am_ar_of (d := d + 2) i_M_worked rfl rfl (Nat.le_of_ble_eq_true rfl) ?_
  show am_run none (am_ar g_mt (d + 2)) 6 (some .int) k_M_worked 0 [(0, (2, 1000)), (1, (0, v1))] [] μ (am_res 0 q)
  refine rn_sls 4 (pc' := 4) (ls' := [(2, (0, 0)), (0, (2, 1000)), (1, (0, v1))]) (st' := [(0, 0), (2, 1000)]) rfl ?_
  refine rn_call 0 2 [(2, 1000), (0, 0)] (r := []) rfl ⟨rfl, Or.inl ⟨_, rfl, by decide⟩⟩ (by decide) (fun _ => ⟨_, rfl, rfl⟩) rfl rfl (Nat.le_of_ble_eq_true rfl) h (fun w hw => t_M_opens (d + 1) _ _ _ hw) (fun a1 μ2 h => ?_)
  refine rn_sls 0 (pc' := 7) (ls' := [(2, (0, 0)), (0, (2, 1000)), (1, (0, v1))]) (st' := []) rfl ?_
  refine rn_sls 3 (pc' := 12) (ls' := [(2, (0, 0)), (0, (2, 1000)), (1, (0, v1))]) (st' := [(0, v1), (2, 1010)]) rfl ?_
  refine rn_iald (n := 120) rfl rfl rfl h (fun a3 h => ?_)
  refine rn_sls 1 (pc' := 14) (ls' := [(3, (0, a3)), (2, (0, 0)), (0, (2, 1000)), (1, (0, v1))]) (st' := []) rfl ?_
  exact rn_sub [2, 3, 1, 0] rfl (t_M_worked_L14 d  am_FU _ _ _ _ _ h)
set_option maxRecDepth 20000 in
theorem t_M_ends (d : Nat) : ∀  (μ : am_M) q, M_ends  μ = some q → am_ar g_mt (d + 3) 161 [(2, 1000)] μ (am_res 0 q) := by
  intro  μ q h
  unfold M_ends at h
  refine am_ar_of (d := d + 2) i_M_ends rfl rfl (Nat.le_of_ble_eq_true rfl) ?_
  show am_run none (am_ar g_mt (d + 2)) 1 (some .boolean) k_M_ends 0 [(0, (2, 1000))] [] μ (am_res 0 q)
  refine rn_sls 2 (pc' := 3) (ls' := [(0, (2, 1000))]) (st' := [(0, 59), (2, 1000)]) rfl ?_
  refine rn_call 0 0 [(2, 1000), (0, 59)] (r := []) rfl ⟨rfl, Or.inl ⟨_, rfl, by decide⟩⟩ (by decide) (fun _ => ⟨_, rfl, rfl⟩) rfl rfl (Nat.le_of_ble_eq_true rfl) h (fun w hw => t_M_isSign (d + 1) _ _ _ hw) (fun a1 μ2 h => ?_)
  refine rn_sls 0 (pc' := 6) (ls' := [(0, (2, 1000))]) (st' := [(0, a1)]) rfl ?_
  refine rn_ifn (t := 15) rfl rfl rfl rfl h (fun h => ?_) (fun h => ?_)
  · refine rn_sls 2 (pc' := 11) (ls' := [(0, (2, 1000))]) (st' := [(0, 1), (2, 1000)]) rfl ?_
    refine rn_call 0 0 [(2, 1000), (0, 1)] (r := []) rfl ⟨rfl, Or.inl ⟨_, rfl, by decide⟩⟩ (by decide) (fun _ => ⟨_, rfl, rfl⟩) rfl rfl (Nat.le_of_ble_eq_true rfl) h (fun w hw => t_M_fails (d + 1) _ _ _ hw) (fun a5 μ6 h => ?_)
    refine rn_sls 0 (pc' := 14) (ls' := [(0, (2, 1000))]) (st' := [(0, a5)]) rfl ?_
    exact rn_iretB rfl rfl rfl h rfl
  · refine rn_sls 1 (pc' := 16) (ls' := [(0, (2, 1000))]) (st' := [(2, 1000)]) rfl ?_
    refine rn_call 0 2 [(2, 1000)] (r := []) rfl ⟨rfl, Or.inl ⟨_, rfl, by decide⟩⟩ (by decide) (fun _ => ⟨_, rfl, rfl⟩) rfl rfl (Nat.le_of_ble_eq_true rfl) h (fun w hw => t_M_nextToken (d + 0)  _ _ hw) (fun a3 μ4 h => ?_)
    refine rn_sls 0 (pc' := 19) (ls' := [(0, (2, 1000))]) (st' := []) rfl ?_
    refine rn_sls 1 (pc' := 20) (ls' := [(0, (2, 1000))]) (st' := [(0, 1)]) rfl ?_
    exact rn_iretb rfl rfl rfl (Or.inr rfl) h rfl
set_option maxRecDepth 20000 in
theorem t_M_needsWord (d : Nat) : ∀ (v1 : Int) (μ : am_M) q, M_needsWord v1 μ = some q → am_ar g_mt (d + 3) 162 [(2, 1000), (1, v1)] μ (am_res 0 q) := by
  intro v1 μ q h
  unfold M_needsWord at h
  refine am_ar_of (d := d + 2) i_M_needsWord rfl rfl (Nat.le_of_ble_eq_true rfl) ?_
  show am_run none (am_ar g_mt (d + 2)) 3 (some .boolean) k_M_needsWord 0 [(0, (2, 1000)), (1, (1, v1))] [] μ (am_res 0 q)
  refine rn_sls 2 (pc' := 2) (ls' := [(0, (2, 1000)), (1, (1, v1))]) (st' := [(1, v1), (2, 1000)]) rfl ?_
  refine rn_call 0 0 [(2, 1000), (1, v1)] (r := []) rfl ⟨rfl, Or.inl ⟨_, rfl, by decide⟩⟩ (by decide) (fun _ => ⟨_, rfl, rfl⟩) rfl rfl (Nat.le_of_ble_eq_true rfl) h (fun w hw => t_M_isWord (d + 1) _ _ _ hw) (fun a1 μ2 h => ?_)
  refine rn_sls 0 (pc' := 5) (ls' := [(0, (2, 1000)), (1, (1, v1))]) (st' := [(0, a1)]) rfl ?_
  refine rn_ifn (t := 14) rfl rfl rfl rfl h (fun h => ?_) (fun h => ?_)
  · refine rn_sls 2 (pc' := 10) (ls' := [(0, (2, 1000)), (1, (1, v1))]) (st' := [(0, 1), (2, 1000)]) rfl ?_
    refine rn_call 0 0 [(2, 1000), (0, 1)] (r := []) rfl ⟨rfl, Or.inl ⟨_, rfl, by decide⟩⟩ (by decide) (fun _ => ⟨_, rfl, rfl⟩) rfl rfl (Nat.le_of_ble_eq_true rfl) h (fun w hw => t_M_fails (d + 1) _ _ _ hw) (fun a5 μ6 h => ?_)
    refine rn_sls 0 (pc' := 13) (ls' := [(0, (2, 1000)), (1, (1, v1))]) (st' := [(0, a5)]) rfl ?_
    exact rn_iretB rfl rfl rfl h rfl
  · refine rn_sls 1 (pc' := 15) (ls' := [(0, (2, 1000)), (1, (1, v1))]) (st' := [(2, 1000)]) rfl ?_
    refine rn_call 0 2 [(2, 1000)] (r := []) rfl ⟨rfl, Or.inl ⟨_, rfl, by decide⟩⟩ (by decide) (fun _ => ⟨_, rfl, rfl⟩) rfl rfl (Nat.le_of_ble_eq_true rfl) h (fun w hw => t_M_nextToken (d + 0)  _ _ hw) (fun a3 μ4 h => ?_)
    refine rn_sls 0 (pc' := 18) (ls' := [(0, (2, 1000)), (1, (1, v1))]) (st' := []) rfl ?_
    refine rn_sls 1 (pc' := 19) (ls' := [(0, (2, 1000)), (1, (1, v1))]) (st' := [(0, 1)]) rfl ?_
    exact rn_iretb rfl rfl rfl (Or.inr rfl) h rfl
set_option maxRecDepth 20000 in
theorem t_M_needsSlip (d : Nat) : ∀  (μ : am_M) q, M_needsSlip  μ = some q → am_ar g_mt (d + 3) 163 [(2, 1000)] μ (am_res 0 q) := by
  intro  μ q h
  unfold M_needsSlip at h
  refine am_ar_of (d := d + 2) i_M_needsSlip rfl rfl (Nat.le_of_ble_eq_true rfl) ?_
  show am_run none (am_ar g_mt (d + 2)) 2 (some .int) k_M_needsSlip 0 [(0, (2, 1000))] [] μ (am_res 0 q)
  refine rn_sls 1 (pc' := 1) (ls' := [(0, (2, 1000))]) (st' := [(2, 1000)]) rfl ?_
  refine rn_call 0 0 [(2, 1000)] (r := []) rfl ⟨rfl, Or.inl ⟨_, rfl, by decide⟩⟩ (by decide) (fun _ => ⟨_, rfl, rfl⟩) rfl rfl (Nat.le_of_ble_eq_true rfl) h (fun w hw => t_M_isKept (d + 1)  _ _ hw) (fun a1 μ2 h => ?_)
  refine rn_sls 0 (pc' := 4) (ls' := [(0, (2, 1000))]) (st' := [(0, a1)]) rfl ?_
  refine rn_if (t := 21) rfl rfl rfl rfl h (fun h => ?_) (fun h => ?_)
  · refine rn_sls 1 (pc' := 22) (ls' := [(0, (2, 1000))]) (st' := [(2, 1000)]) rfl ?_
    refine rn_call 0 0 [(2, 1000)] (r := []) rfl ⟨rfl, Or.inl ⟨_, rfl, by decide⟩⟩ (by decide) (fun _ => ⟨_, rfl, rfl⟩) rfl rfl (Nat.le_of_ble_eq_true rfl) h (fun w hw => t_M_wallOf (d + 1)  _ _ hw) (fun a3 μ4 h => ?_)
    refine rn_sls 0 (pc' := 25) (ls' := [(0, (2, 1000))]) (st' := [(0, a3)]) rfl ?_
    refine rn_if (t := 42) rfl rfl rfl rfl h (fun h => ?_) (fun h => ?_)
    · refine rn_sls 1 (pc' := 43) (ls' := [(0, (2, 1000))]) (st' := [(2, 1000)]) rfl ?_
      refine rn_call 0 0 [(2, 1000)] (r := []) rfl ⟨rfl, Or.inl ⟨_, rfl, by decide⟩⟩ (by decide) (fun _ => ⟨_, rfl, rfl⟩) rfl rfl (Nat.le_of_ble_eq_true rfl) h (fun w hw => t_M_slipOf (d + 1)  _ _ hw) (fun a5 μ6 h => ?_)
      refine rn_sls 0 (pc' := 46) (ls' := [(0, (2, 1000))]) (st' := [(0, a5)]) rfl ?_
      refine rn_sls 2 (pc' := 48) (ls' := [(1, (0, a5)), (0, (2, 1000))]) (st' := [(0, a5)]) rfl ?_
      refine rn_ifn (t := 65) rfl rfl rfl rfl h (fun h => ?_) (fun h => ?_)
      · refine rn_sls 2 (pc' := 53) (ls' := [(1, (0, a5)), (0, (2, 1000))]) (st' := [(0, 5), (2, 1000)]) rfl ?_
        refine rn_call 0 0 [(2, 1000), (0, 5)] (r := []) rfl ⟨rfl, Or.inl ⟨_, rfl, by decide⟩⟩ (by decide) (fun _ => ⟨_, rfl, rfl⟩) rfl rfl (Nat.le_of_ble_eq_true rfl) h (fun w hw => t_M_fails (d + 1) _ _ _ hw) (fun a9 μ10 h => ?_)
        refine rn_sls 0 (pc' := 56) (ls' := [(1, (0, a5)), (0, (2, 1000))]) (st' := [(0, a9)]) rfl ?_
        refine rn_if (t := 63) rfl rfl rfl rfl h (fun h => ?_) (fun h => ?_)
        · refine rn_sls 1 (pc' := 64) (ls' := [(1, (0, a5)), (0, (2, 1000))]) (st' := [(0, (-1))]) rfl ?_
          exact rn_ireti rfl rfl rfl h rfl
        · refine rn_sls 1 (pc' := 60) (ls' := [(1, (0, a5)), (0, (2, 1000))]) (st' := [(0, 0)]) rfl ?_
          refine rn_goto (t := 64) rfl rfl rfl ?_
          exact rn_ireti rfl rfl rfl h rfl
      · refine rn_sls 1 (pc' := 66) (ls' := [(1, (0, a5)), (0, (2, 1000))]) (st' := [(2, 1000)]) rfl ?_
        refine rn_call 0 2 [(2, 1000)] (r := []) rfl ⟨rfl, Or.inl ⟨_, rfl, by decide⟩⟩ (by decide) (fun _ => ⟨_, rfl, rfl⟩) rfl rfl (Nat.le_of_ble_eq_true rfl) h (fun w hw => t_M_nextToken (d + 0)  _ _ hw) (fun a7 μ8 h => ?_)
        refine rn_sls 0 (pc' := 69) (ls' := [(1, (0, a5)), (0, (2, 1000))]) (st' := []) rfl ?_
        refine rn_sls 1 (pc' := 70) (ls' := [(1, (0, a5)), (0, (2, 1000))]) (st' := [(0, a5)]) rfl ?_
        exact rn_ireti rfl rfl rfl h rfl
    · refine rn_sls 2 (pc' := 30) (ls' := [(0, (2, 1000))]) (st' := [(0, 3), (2, 1000)]) rfl ?_
      refine rn_call 0 0 [(2, 1000), (0, 3)] (r := []) rfl ⟨rfl, Or.inl ⟨_, rfl, by decide⟩⟩ (by decide) (fun _ => ⟨_, rfl, rfl⟩) rfl rfl (Nat.le_of_ble_eq_true rfl) h (fun w hw => t_M_fails (d + 1) _ _ _ hw) (fun a11 μ12 h => ?_)
      refine rn_sls 0 (pc' := 33) (ls' := [(0, (2, 1000))]) (st' := [(0, a11)]) rfl ?_
      refine rn_if (t := 40) rfl rfl rfl rfl h (fun h => ?_) (fun h => ?_)
      · refine rn_sls 1 (pc' := 41) (ls' := [(0, (2, 1000))]) (st' := [(0, (-1))]) rfl ?_
        exact rn_ireti rfl rfl rfl h rfl
      · refine rn_sls 1 (pc' := 37) (ls' := [(0, (2, 1000))]) (st' := [(0, 0)]) rfl ?_
        refine rn_goto (t := 41) rfl rfl rfl ?_
        exact rn_ireti rfl rfl rfl h rfl
  · refine rn_sls 2 (pc' := 9) (ls' := [(0, (2, 1000))]) (st' := [(0, 1), (2, 1000)]) rfl ?_
    refine rn_call 0 0 [(2, 1000), (0, 1)] (r := []) rfl ⟨rfl, Or.inl ⟨_, rfl, by decide⟩⟩ (by decide) (fun _ => ⟨_, rfl, rfl⟩) rfl rfl (Nat.le_of_ble_eq_true rfl) h (fun w hw => t_M_fails (d + 1) _ _ _ hw) (fun a13 μ14 h => ?_)
    refine rn_sls 0 (pc' := 12) (ls' := [(0, (2, 1000))]) (st' := [(0, a13)]) rfl ?_
    refine rn_if (t := 19) rfl rfl rfl rfl h (fun h => ?_) (fun h => ?_)
    · refine rn_sls 1 (pc' := 20) (ls' := [(0, (2, 1000))]) (st' := [(0, (-1))]) rfl ?_
      exact rn_ireti rfl rfl rfl h rfl
    · refine rn_sls 1 (pc' := 16) (ls' := [(0, (2, 1000))]) (st' := [(0, 0)]) rfl ?_
      refine rn_goto (t := 20) rfl rfl rfl ?_
      exact rn_ireti rfl rfl rfl h rfl
set_option maxRecDepth 20000 in
theorem t_M_readsWall (d : Nat) : ∀  (μ : am_M) q, M_readsWall  μ = some q → am_ar g_mt (d + 4) 164 [(2, 1000)] μ (am_res 0 q) := by
  intro  μ q h
  unfold M_readsWall at h
  refine am_ar_of (d := d + 3) i_M_readsWall rfl rfl (Nat.le_of_ble_eq_true rfl) ?_
  show am_run none (am_ar g_mt (d + 3)) 1 (some .boolean) k_M_readsWall 0 [(0, (2, 1000))] [] μ (am_res 0 q)
  refine rn_sls 3 (pc' := 5) (ls' := [(0, (2, 1000))]) (st' := [(0, 4), (2, 1013)]) rfl ?_
  refine rn_iald (n := 6) rfl rfl rfl h (fun a1 h => ?_)
  refine rn_if (t := 15) rfl rfl rfl rfl h (fun h => ?_) (fun h => ?_)
  · refine rn_sls 3 (pc' := 20) (ls' := [(0, (2, 1000))]) (st' := [(0, 3), (2, 1013)]) rfl ?_
    refine rn_iald (n := 6) rfl rfl rfl h (fun a2 h => ?_)
    refine rn_sls 1 (pc' := 22) (ls' := [(0, (2, 1000))]) (st' := [(0, 4), (0, a2)]) rfl ?_
    refine rn_icmpn (t := 31) rfl rfl rfl rfl h (fun h => ?_) (fun h => ?_)
    · refine rn_sls 2 (pc' := 27) (ls' := [(0, (2, 1000))]) (st' := [(0, 5), (2, 1000)]) rfl ?_
      refine rn_call 0 0 [(2, 1000), (0, 5)] (r := []) rfl ⟨rfl, Or.inl ⟨_, rfl, by decide⟩⟩ (by decide) (fun _ => ⟨_, rfl, rfl⟩) rfl rfl (Nat.le_of_ble_eq_true rfl) h (fun w hw => t_M_fails (d + 2) _ _ _ hw) (fun a27 μ28 h => ?_)
      refine rn_sls 0 (pc' := 30) (ls' := [(0, (2, 1000))]) (st' := [(0, a27)]) rfl ?_
      exact rn_iretB rfl rfl rfl h rfl
    · refine rn_sls 1 (pc' := 32) (ls' := [(0, (2, 1000))]) (st' := [(2, 1000)]) rfl ?_
      refine rn_call 0 2 [(2, 1000)] (r := []) rfl ⟨rfl, Or.inl ⟨_, rfl, by decide⟩⟩ (by decide) (fun _ => ⟨_, rfl, rfl⟩) rfl rfl (Nat.le_of_ble_eq_true rfl) h (fun w hw => t_M_nextToken (d + 1)  _ _ hw) (fun a3 μ4 h => ?_)
      refine rn_sls 0 (pc' := 35) (ls' := [(0, (2, 1000))]) (st' := []) rfl ?_
      refine rn_sls 1 (pc' := 36) (ls' := [(0, (2, 1000))]) (st' := [(2, 1000)]) rfl ?_
      refine rn_call 0 0 [(2, 1000)] (r := []) rfl ⟨rfl, Or.inl ⟨_, rfl, by decide⟩⟩ (by decide) (fun _ => ⟨_, rfl, rfl⟩) rfl rfl (Nat.le_of_ble_eq_true rfl) h (fun w hw => t_M_isKept (d + 2)  _ _ hw) (fun a5 μ6 h => ?_)
      refine rn_sls 0 (pc' := 39) (ls' := [(0, (2, 1000))]) (st' := [(0, a5)]) rfl ?_
      refine rn_if (t := 48) rfl rfl rfl rfl h (fun h => ?_) (fun h => ?_)
      · refine rn_sls 1 (pc' := 49) (ls' := [(0, (2, 1000))]) (st' := [(2, 1000)]) rfl ?_
        refine rn_call 0 0 [(2, 1000)] (r := []) rfl ⟨rfl, Or.inl ⟨_, rfl, by decide⟩⟩ (by decide) (fun _ => ⟨_, rfl, rfl⟩) rfl rfl (Nat.le_of_ble_eq_true rfl) h (fun w hw => t_M_wallOf (d + 2)  _ _ hw) (fun a7 μ8 h => ?_)
        refine rn_sls 0 (pc' := 52) (ls' := [(0, (2, 1000))]) (st' := [(0, a7)]) rfl ?_
        refine rn_if (t := 61) rfl rfl rfl rfl h (fun h => ?_) (fun h => ?_)
        · refine rn_sls 5 (pc' := 70) (ls' := [(0, (2, 1000))]) (st' := [(0, 3), (2, 1013), (2, 1014)]) rfl ?_
          refine rn_iald (n := 6) rfl rfl rfl h (fun a9 h => ?_)
          refine rn_sls 2 (pc' := 75) (ls' := [(0, (2, 1000))]) (st' := [(1, (μ8 1000 7)), (0, a9), (2, 1014)]) rfl ?_
          refine rn_last (n := 4) rfl rfl rfl h (fun μ10 h => ?_)
          refine rn_sls 1 (pc' := 77) (ls' := [(0, (2, 1000))]) (st' := [(2, 1000)]) rfl ?_
          refine rn_call 0 2 [(2, 1000)] (r := []) rfl ⟨rfl, Or.inl ⟨_, rfl, by decide⟩⟩ (by decide) (fun _ => ⟨_, rfl, rfl⟩) rfl rfl (Nat.le_of_ble_eq_true rfl) h (fun w hw => t_M_nextToken (d + 1)  _ _ hw) (fun a11 μ12 h => ?_)
          refine rn_sls 0 (pc' := 80) (ls' := [(0, (2, 1000))]) (st' := []) rfl ?_
          refine rn_sls 3 (pc' := 85) (ls' := [(0, (2, 1000))]) (st' := [(0, 2), (0, (μ12 1000 6))]) rfl ?_
          refine rn_icmp (t := 94) rfl rfl rfl rfl h (fun h => ?_) (fun h => ?_)
          · refine rn_sls 6 (pc' := 104) (ls' := [(0, (2, 1000))]) (st' := [(0, 3), (2, 1013), (0, 4), (2, 1015)]) rfl ?_
            refine rn_iald (n := 6) rfl rfl rfl h (fun a13 h => ?_)
            refine rn_sls 3 (pc' := 110) (ls' := [(0, (2, 1000))]) (st' := [(0, (μ12 1000 8)), (0, (w32 (4 + a13))), (2, 1015)]) rfl ?_
            refine rn_iast (n := 8) rfl rfl rfl h (fun μ14 h => ?_)
            refine rn_sls 4 (pc' := 117) (ls' := [(0, (2, 1000))]) (st' := [(0, 3), (2, 1013), (0, 3), (2, 1013)]) rfl ?_
            refine rn_iald (n := 6) rfl rfl rfl h (fun a15 h => ?_)
            refine rn_sls 2 (pc' := 120) (ls' := [(0, (2, 1000))]) (st' := [(0, (w32 (a15 + 1))), (0, 3), (2, 1013)]) rfl ?_
            refine rn_iast (n := 6) rfl rfl rfl h (fun μ16 h => ?_)
            refine rn_sls 1 (pc' := 122) (ls' := [(0, (2, 1000))]) (st' := [(2, 1000)]) rfl ?_
            refine rn_call 0 2 [(2, 1000)] (r := []) rfl ⟨rfl, Or.inl ⟨_, rfl, by decide⟩⟩ (by decide) (fun _ => ⟨_, rfl, rfl⟩) rfl rfl (Nat.le_of_ble_eq_true rfl) h (fun w hw => t_M_nextToken (d + 1)  _ _ hw) (fun a17 μ18 h => ?_)
            refine rn_sls 0 (pc' := 125) (ls' := [(0, (2, 1000))]) (st' := []) rfl ?_
            refine rn_sls 1 (pc' := 126) (ls' := [(0, (2, 1000))]) (st' := [(2, 1000)]) rfl ?_
            refine rn_call 0 0 [(2, 1000)] (r := []) rfl ⟨rfl, Or.inl ⟨_, rfl, by decide⟩⟩ (by decide) (fun _ => ⟨_, rfl, rfl⟩) rfl rfl (Nat.le_of_ble_eq_true rfl) h (fun w hw => t_M_ends (d + 0)  _ _ hw) (fun a19 μ20 h => ?_)
            refine rn_sls 0 (pc' := 129) (ls' := [(0, (2, 1000))]) (st' := [(0, a19)]) rfl ?_
            exact rn_iretB rfl rfl rfl h rfl
          · refine rn_sls 2 (pc' := 90) (ls' := [(0, (2, 1000))]) (st' := [(0, 1), (2, 1000)]) rfl ?_
            refine rn_call 0 0 [(2, 1000), (0, 1)] (r := []) rfl ⟨rfl, Or.inl ⟨_, rfl, by decide⟩⟩ (by decide) (fun _ => ⟨_, rfl, rfl⟩) rfl rfl (Nat.le_of_ble_eq_true rfl) h (fun w hw => t_M_fails (d + 2) _ _ _ hw) (fun a21 μ22 h => ?_)
            refine rn_sls 0 (pc' := 93) (ls' := [(0, (2, 1000))]) (st' := [(0, a21)]) rfl ?_
            exact rn_iretB rfl rfl rfl h rfl
        · refine rn_sls 2 (pc' := 57) (ls' := [(0, (2, 1000))]) (st' := [(0, 3), (2, 1000)]) rfl ?_
          refine rn_call 0 0 [(2, 1000), (0, 3)] (r := []) rfl ⟨rfl, Or.inl ⟨_, rfl, by decide⟩⟩ (by decide) (fun _ => ⟨_, rfl, rfl⟩) rfl rfl (Nat.le_of_ble_eq_true rfl) h (fun w hw => t_M_fails (d + 2) _ _ _ hw) (fun a23 μ24 h => ?_)
          refine rn_sls 0 (pc' := 60) (ls' := [(0, (2, 1000))]) (st' := [(0, a23)]) rfl ?_
          exact rn_iretB rfl rfl rfl h rfl
      · refine rn_sls 2 (pc' := 44) (ls' := [(0, (2, 1000))]) (st' := [(0, 1), (2, 1000)]) rfl ?_
        refine rn_call 0 0 [(2, 1000), (0, 1)] (r := []) rfl ⟨rfl, Or.inl ⟨_, rfl, by decide⟩⟩ (by decide) (fun _ => ⟨_, rfl, rfl⟩) rfl rfl (Nat.le_of_ble_eq_true rfl) h (fun w hw => t_M_fails (d + 2) _ _ _ hw) (fun a25 μ26 h => ?_)
        refine rn_sls 0 (pc' := 47) (ls' := [(0, (2, 1000))]) (st' := [(0, a25)]) rfl ?_
        exact rn_iretB rfl rfl rfl h rfl
  · refine rn_sls 2 (pc' := 11) (ls' := [(0, (2, 1000))]) (st' := [(0, 1), (2, 1000)]) rfl ?_
    refine rn_call 0 0 [(2, 1000), (0, 1)] (r := []) rfl ⟨rfl, Or.inl ⟨_, rfl, by decide⟩⟩ (by decide) (fun _ => ⟨_, rfl, rfl⟩) rfl rfl (Nat.le_of_ble_eq_true rfl) h (fun w hw => t_M_fails (d + 2) _ _ _ hw) (fun a29 μ30 h => ?_)
    refine rn_sls 0 (pc' := 14) (ls' := [(0, (2, 1000))]) (st' := [(0, a29)]) rfl ?_
    exact rn_iretB rfl rfl rfl h rfl
set_option maxRecDepth 20000 in
theorem t_M_readsBill_B60 (d : Nat) : ∀  (μ : am_M) q, M_readsBill_B60  μ = some q → am_run none (am_ar g_mt (d + 3)) 2 (some .boolean) k_M_readsBill 60 [(0, (2, 1000))] [] μ (am_res 0 q) := by
  intro  μ q h
  unfold M_readsBill_B60 at h
  refine rn_sls 2 (pc' := 62) (ls' := [(0, (2, 1000))]) (st' := [(0, 3), (2, 1000)]) rfl ?_
  refine rn_call 0 0 [(2, 1000), (0, 3)] (r := []) rfl ⟨rfl, Or.inl ⟨_, rfl, by decide⟩⟩ (by decide) (fun _ => ⟨_, rfl, rfl⟩) rfl rfl (Nat.le_of_ble_eq_true rfl) h (fun w hw => t_M_fails (d + 2) _ _ _ hw) (fun a1 μ2 h => ?_)
  refine rn_sls 0 (pc' := 65) (ls' := [(0, (2, 1000))]) (st' := [(0, a1)]) rfl ?_
  exact rn_iretB rfl rfl rfl h rfl
set_option maxRecDepth 20000 in
theorem t_M_readsBill (d : Nat) : ∀  (μ : am_M) q, M_readsBill  μ = some q → am_ar g_mt (d + 4) 165 [(2, 1000)] μ (am_res 0 q) := by
  intro  μ q h
  unfold M_readsBill at h
  refine am_ar_of (d := d + 3) i_M_readsBill rfl rfl (Nat.le_of_ble_eq_true rfl) ?_
  show am_run none (am_ar g_mt (d + 3)) 2 (some .boolean) k_M_readsBill 0 [(0, (2, 1000))] [] μ (am_res 0 q)
  refine rn_sls 2 (pc' := 4) (ls' := [(0, (2, 1000))]) (st' := [(0, (μ 1000 43))]) rfl ?_
  refine rn_if (t := 13) rfl rfl rfl rfl h (fun h => ?_) (fun h => ?_)
  · refine rn_sls 3 (pc' := 18) (ls' := [(0, (2, 1000))]) (st' := [(0, 4), (2, 1013)]) rfl ?_
    refine rn_iald (n := 6) rfl rfl rfl h (fun a1 h => ?_)
    refine rn_sls 1 (pc' := 20) (ls' := [(0, (2, 1000))]) (st' := [(0, 4), (0, a1)]) rfl ?_
    refine rn_icmpn (t := 29) rfl rfl rfl rfl h (fun h => ?_) (fun h => ?_)
    · refine rn_sls 2 (pc' := 25) (ls' := [(0, (2, 1000))]) (st' := [(0, 5), (2, 1000)]) rfl ?_
      refine rn_call 0 0 [(2, 1000), (0, 5)] (r := []) rfl ⟨rfl, Or.inl ⟨_, rfl, by decide⟩⟩ (by decide) (fun _ => ⟨_, rfl, rfl⟩) rfl rfl (Nat.le_of_ble_eq_true rfl) h (fun w hw => t_M_fails (d + 2) _ _ _ hw) (fun a29 μ30 h => ?_)
      refine rn_sls 0 (pc' := 28) (ls' := [(0, (2, 1000))]) (st' := [(0, a29)]) rfl ?_
      exact rn_iretB rfl rfl rfl h rfl
    · refine rn_sls 1 (pc' := 30) (ls' := [(0, (2, 1000))]) (st' := [(2, 1000)]) rfl ?_
      refine rn_call 0 2 [(2, 1000)] (r := []) rfl ⟨rfl, Or.inl ⟨_, rfl, by decide⟩⟩ (by decide) (fun _ => ⟨_, rfl, rfl⟩) rfl rfl (Nat.le_of_ble_eq_true rfl) h (fun w hw => t_M_nextToken (d + 1)  _ _ hw) (fun a2 μ3 h => ?_)
      refine rn_sls 0 (pc' := 33) (ls' := [(0, (2, 1000))]) (st' := []) rfl ?_
      refine rn_sls 1 (pc' := 34) (ls' := [(0, (2, 1000))]) (st' := [(2, 1000)]) rfl ?_
      refine rn_call 0 0 [(2, 1000)] (r := []) rfl ⟨rfl, Or.inl ⟨_, rfl, by decide⟩⟩ (by decide) (fun _ => ⟨_, rfl, rfl⟩) rfl rfl (Nat.le_of_ble_eq_true rfl) h (fun w hw => t_M_isKept (d + 2)  _ _ hw) (fun a4 μ5 h => ?_)
      refine rn_sls 0 (pc' := 37) (ls' := [(0, (2, 1000))]) (st' := [(0, a4)]) rfl ?_
      refine rn_if (t := 46) rfl rfl rfl rfl h (fun h => ?_) (fun h => ?_)
      · refine rn_sls 1 (pc' := 47) (ls' := [(0, (2, 1000))]) (st' := [(2, 1000)]) rfl ?_
        refine rn_call 0 0 [(2, 1000)] (r := []) rfl ⟨rfl, Or.inl ⟨_, rfl, by decide⟩⟩ (by decide) (fun _ => ⟨_, rfl, rfl⟩) rfl rfl (Nat.le_of_ble_eq_true rfl) h (fun w hw => t_M_wallOf (d + 2)  _ _ hw) (fun a6 μ7 h => ?_)
        refine rn_sls 0 (pc' := 50) (ls' := [(0, (2, 1000))]) (st' := [(0, a6)]) rfl ?_
        refine rn_ifn (t := 60) rfl rfl rfl rfl h (fun h => ?_) (fun h => ?_)
        · refine rn_sls 1 (pc' := 54) (ls' := [(0, (2, 1000))]) (st' := [(2, 1000)]) rfl ?_
          refine rn_call 0 0 [(2, 1000)] (r := []) rfl ⟨rfl, Or.inl ⟨_, rfl, by decide⟩⟩ (by decide) (fun _ => ⟨_, rfl, rfl⟩) rfl rfl (Nat.le_of_ble_eq_true rfl) h (fun w hw => t_M_billOf (d + 2)  _ _ hw) (fun a8 μ9 h => ?_)
          refine rn_sls 0 (pc' := 57) (ls' := [(0, (2, 1000))]) (st' := [(0, a8)]) rfl ?_
          refine rn_if (t := 66) rfl rfl rfl rfl h (fun h => ?_) (fun h => ?_)
          · refine rn_sls 5 (pc' := 75) (ls' := [(0, (2, 1000))]) (st' := [(0, 4), (2, 1013), (2, 1016)]) rfl ?_
            refine rn_iald (n := 6) rfl rfl rfl h (fun a10 h => ?_)
            refine rn_sls 2 (pc' := 80) (ls' := [(0, (2, 1000))]) (st' := [(1, (μ9 1000 7)), (0, a10), (2, 1016)]) rfl ?_
            refine rn_last (n := 4) rfl rfl rfl h (fun μ11 h => ?_)
            refine rn_sls 4 (pc' := 87) (ls' := [(0, (2, 1000))]) (st' := [(0, 4), (2, 1013), (0, 4)]) rfl ?_
            refine rn_iald (n := 6) rfl rfl rfl h (fun a12 h => ?_)
            refine rn_sls 8 (pc' := 100) (ls' := [(1, (0, (w32 (4 + a12)))), (0, (2, 1000))]) (st' := [(0, 5), (2, 1013), (0, (w32 (4 + a12))), (2, 1017)]) rfl ?_
            refine rn_iald (n := 6) rfl rfl rfl h (fun a13 h => ?_)
            refine rn_iast (n := 8) rfl rfl rfl h (fun μ14 h => ?_)
            refine rn_sls 4 (pc' := 108) (ls' := [(1, (0, (w32 (4 + a12)))), (0, (2, 1000))]) (st' := [(0, 0), (0, (w32 (4 + a12))), (2, 1018)]) rfl ?_
            refine rn_iast (n := 8) rfl rfl rfl h (fun μ15 h => ?_)
            refine rn_sls 4 (pc' := 115) (ls' := [(1, (0, (w32 (4 + a12)))), (0, (2, 1000))]) (st' := [(0, 0), (0, (w32 (4 + a12))), (2, 1019)]) rfl ?_
            refine rn_iast (n := 8) rfl rfl rfl h (fun μ16 h => ?_)
            refine rn_sls 4 (pc' := 122) (ls' := [(1, (0, (w32 (4 + a12)))), (0, (2, 1000))]) (st' := [(0, 0), (0, (w32 (4 + a12))), (2, 1020)]) rfl ?_
            refine rn_iast (n := 8) rfl rfl rfl h (fun μ17 h => ?_)
            refine rn_sls 4 (pc' := 129) (ls' := [(1, (0, (w32 (4 + a12)))), (0, (2, 1000))]) (st' := [(0, 4), (2, 1013), (0, 4), (2, 1013)]) rfl ?_
            refine rn_iald (n := 6) rfl rfl rfl h (fun a18 h => ?_)
            refine rn_sls 2 (pc' := 132) (ls' := [(1, (0, (w32 (4 + a12)))), (0, (2, 1000))]) (st' := [(0, (w32 (a18 + 1))), (0, 4), (2, 1013)]) rfl ?_
            refine rn_iast (n := 6) rfl rfl rfl h (fun μ19 h => ?_)
            refine rn_sls 2 (pc' := 135) (ls' := [(1, (0, (w32 (4 + a12)))), (0, (2, 1000))]) (st' := [(0, 1), (2, 1000)]) rfl ?_
            refine rn_putb rfl rfl rfl rfl rfl rfl h (fun μ20 h => ?_)
            refine rn_sls 2 (pc' := 140) (ls' := [(1, (0, (w32 (4 + a12)))), (0, (2, 1000))]) (st' := [(0, 0), (2, 1000)]) rfl ?_
            refine rn_putb rfl rfl rfl rfl rfl rfl h (fun μ21 h => ?_)
            refine rn_sls 2 (pc' := 145) (ls' := [(1, (0, (w32 (4 + a12)))), (0, (2, 1000))]) (st' := [(0, 0), (2, 1000)]) rfl ?_
            refine rn_put rfl rfl rfl rfl (Or.inl ⟨rfl, rfl⟩) rfl h (fun μ22 h => ?_)
            refine rn_sls 1 (pc' := 149) (ls' := [(1, (0, (w32 (4 + a12)))), (0, (2, 1000))]) (st' := [(2, 1000)]) rfl ?_
            refine rn_call 0 2 [(2, 1000)] (r := []) rfl ⟨rfl, Or.inl ⟨_, rfl, by decide⟩⟩ (by decide) (fun _ => ⟨_, rfl, rfl⟩) rfl rfl (Nat.le_of_ble_eq_true rfl) h (fun w hw => t_M_nextToken (d + 1)  _ _ hw) (fun a23 μ24 h => ?_)
            refine rn_sls 0 (pc' := 152) (ls' := [(1, (0, (w32 (4 + a12)))), (0, (2, 1000))]) (st' := []) rfl ?_
            refine rn_sls 1 (pc' := 153) (ls' := [(1, (0, (w32 (4 + a12)))), (0, (2, 1000))]) (st' := [(2, 1000)]) rfl ?_
            refine rn_call 0 0 [(2, 1000)] (r := []) rfl ⟨rfl, Or.inl ⟨_, rfl, by decide⟩⟩ (by decide) (fun _ => ⟨_, rfl, rfl⟩) rfl rfl (Nat.le_of_ble_eq_true rfl) h (fun w hw => t_M_ends (d + 0)  _ _ hw) (fun a25 μ26 h => ?_)
            refine rn_sls 0 (pc' := 156) (ls' := [(1, (0, (w32 (4 + a12)))), (0, (2, 1000))]) (st' := [(0, a25)]) rfl ?_
            exact rn_iretB rfl rfl rfl h rfl
          · exact rn_sub [0] rfl (t_M_readsBill_B60 d  _ _ h)
        · exact rn_sub [0] rfl (t_M_readsBill_B60 d  _ _ h)
      · refine rn_sls 2 (pc' := 42) (ls' := [(0, (2, 1000))]) (st' := [(0, 1), (2, 1000)]) rfl ?_
        refine rn_call 0 0 [(2, 1000), (0, 1)] (r := []) rfl ⟨rfl, Or.inl ⟨_, rfl, by decide⟩⟩ (by decide) (fun _ => ⟨_, rfl, rfl⟩) rfl rfl (Nat.le_of_ble_eq_true rfl) h (fun w hw => t_M_fails (d + 2) _ _ _ hw) (fun a27 μ28 h => ?_)
        refine rn_sls 0 (pc' := 45) (ls' := [(0, (2, 1000))]) (st' := [(0, a27)]) rfl ?_
        exact rn_iretB rfl rfl rfl h rfl
  · refine rn_sls 2 (pc' := 9) (ls' := [(0, (2, 1000))]) (st' := [(0, 1), (2, 1000)]) rfl ?_
    refine rn_call 0 0 [(2, 1000), (0, 1)] (r := []) rfl ⟨rfl, Or.inl ⟨_, rfl, by decide⟩⟩ (by decide) (fun _ => ⟨_, rfl, rfl⟩) rfl rfl (Nat.le_of_ble_eq_true rfl) h (fun w hw => t_M_fails (d + 2) _ _ _ hw) (fun a31 μ32 h => ?_)
    refine rn_sls 0 (pc' := 12) (ls' := [(0, (2, 1000))]) (st' := [(0, a31)]) rfl ?_
    exact rn_iretB rfl rfl rfl h rfl
set_option maxRecDepth 20000 in
theorem t_M_kindAt (d : Nat) : ∀  (μ : am_M) q, M_kindAt  μ = some q → am_ar g_mt (d + 2) 166 [(2, 1000)] μ (am_res 0 q) := by
  intro  μ q h
  unfold M_kindAt at h
  refine am_ar_of (d := d + 1) i_M_kindAt rfl rfl (Nat.le_of_ble_eq_true rfl) ?_
  show am_run none (am_ar g_mt (d + 1)) 1 (some .int) k_M_kindAt 0 [(0, (2, 1000))] [] μ (am_res 0 q)
  refine rn_sls 2 (pc' := 4) (ls' := [(0, (2, 1000))]) (st' := [(1, 305537), (2, 1000)]) rfl ?_
  refine rn_call 0 0 [(2, 1000), (1, 305537)] (r := []) rfl ⟨rfl, Or.inl ⟨_, rfl, by decide⟩⟩ (by decide) (fun _ => ⟨_, rfl, rfl⟩) rfl rfl (Nat.le_of_ble_eq_true rfl) h (fun w hw => t_M_isWord (d + 0) _ _ _ hw) (fun a1 μ2 h => ?_)
  refine rn_sls 0 (pc' := 7) (ls' := [(0, (2, 1000))]) (st' := [(0, a1)]) rfl ?_
  refine rn_if (t := 14) rfl rfl rfl rfl h (fun h => ?_) (fun h => ?_)
  · refine rn_sls 2 (pc' := 18) (ls' := [(0, (2, 1000))]) (st' := [(1, 267347), (2, 1000)]) rfl ?_
    refine rn_call 0 0 [(2, 1000), (1, 267347)] (r := []) rfl ⟨rfl, Or.inl ⟨_, rfl, by decide⟩⟩ (by decide) (fun _ => ⟨_, rfl, rfl⟩) rfl rfl (Nat.le_of_ble_eq_true rfl) h (fun w hw => t_M_isWord (d + 0) _ _ _ hw) (fun a3 μ4 h => ?_)
    refine rn_sls 0 (pc' := 21) (ls' := [(0, (2, 1000))]) (st' := [(0, a3)]) rfl ?_
    refine rn_if (t := 28) rfl rfl rfl rfl h (fun h => ?_) (fun h => ?_)
    · refine rn_sls 1 (pc' := 29) (ls' := [(0, (2, 1000))]) (st' := [(0, 0)]) rfl ?_
      exact rn_ireti rfl rfl rfl h rfl
    · refine rn_sls 1 (pc' := 25) (ls' := [(0, (2, 1000))]) (st' := [(0, 2)]) rfl ?_
      refine rn_goto (t := 29) rfl rfl rfl ?_
      exact rn_ireti rfl rfl rfl h rfl
  · refine rn_sls 1 (pc' := 11) (ls' := [(0, (2, 1000))]) (st' := [(0, 1)]) rfl ?_
    refine rn_goto (t := 29) rfl rfl rfl ?_
    exact rn_ireti rfl rfl rfl h rfl
set_option maxRecDepth 20000 in
theorem t_M_readsTake_B34 (d : Nat) : ∀  (μ : am_M) q, M_readsTake_B34  μ = some q → am_run none (am_ar g_mt (d + 3)) 4 (some .boolean) k_M_readsTake 34 [(0, (2, 1000))] [] μ (am_res 0 q) := by
  intro  μ q h
  unfold M_readsTake_B34 at h
  refine rn_sls 2 (pc' := 36) (ls' := [(0, (2, 1000))]) (st' := [(0, 5), (2, 1000)]) rfl ?_
  refine rn_call 0 0 [(2, 1000), (0, 5)] (r := []) rfl ⟨rfl, Or.inl ⟨_, rfl, by decide⟩⟩ (by decide) (fun _ => ⟨_, rfl, rfl⟩) rfl rfl (Nat.le_of_ble_eq_true rfl) h (fun w hw => t_M_fails (d + 2) _ _ _ hw) (fun a1 μ2 h => ?_)
  refine rn_sls 0 (pc' := 39) (ls' := [(0, (2, 1000))]) (st' := [(0, a1)]) rfl ?_
  exact rn_iretB rfl rfl rfl h rfl
set_option maxRecDepth 20000 in
theorem t_M_readsTake_L72_b (d : Nat) (k72 : Int → Int → Int → am_M → am_O) (hk72 : ∀ (v1 : Int) (v2 : Int) (v3 : Int) (μ : am_M) q, k72 v1 v2 v3 μ = some q → am_run none (am_ar g_mt (d + 3)) 4 (some .boolean) k_M_readsTake 72 [(0, (2, 1000)), (1, (0, v1)), (2, (0, v2)), (3, (0, v3))] [] μ (am_res 0 q)) : ∀ (v1 : Int) (v2 : Int) (v3 : Int) (μ : am_M) q, M_readsTake_L72_b k72 v1 v2 v3 μ = some q → am_run none (am_ar g_mt (d + 3)) 4 (some .boolean) k_M_readsTake 72 [(0, (2, 1000)), (1, (0, v1)), (2, (0, v2)), (3, (0, v3))] [] μ (am_res 0 q) := by
  intro v1 v2 v3 μ q h
  unfold M_readsTake_L72_b at h
  refine rn_sls 4 (pc' := 78) (ls' := [(0, (2, 1000)), (1, (0, v1)), (2, (0, v2)), (3, (0, v3))]) (st' := [(0, v1), (2, 1020), (0, v3)]) rfl ?_
  refine rn_iald (n := 8) rfl rfl rfl h (fun a1 h => ?_)
  refine rn_icmpn (t := 108) rfl rfl rfl rfl h (fun h => ?_) (fun h => ?_)
  · refine rn_sls 3 (pc' := 87) (ls' := [(0, (2, 1000)), (1, (0, v1)), (2, (0, v2)), (3, (0, v3))]) (st' := [(0, v3), (2, 1021)]) rfl ?_
    refine rn_lald (n := 10) rfl rfl rfl h (fun a17 h => ?_)
    refine rn_sls 3 (pc' := 93) (ls' := [(0, (2, 1000)), (1, (0, v1)), (2, (0, v2)), (3, (0, v3))]) (st' := [(0, (lCmp a17 (μ 1000 7)))]) rfl ?_
    refine rn_ifn (t := 102) rfl rfl rfl rfl h (fun h => ?_) (fun h => ?_)
    · refine rn_sls 2 (pc' := 98) (ls' := [(0, (2, 1000)), (1, (0, v1)), (2, (0, v2)), (3, (0, v3))]) (st' := [(0, 3), (2, 1000)]) rfl ?_
      refine rn_call 0 0 [(2, 1000), (0, 3)] (r := []) rfl ⟨rfl, Or.inl ⟨_, rfl, by decide⟩⟩ (by decide) (fun _ => ⟨_, rfl, rfl⟩) rfl rfl (Nat.le_of_ble_eq_true rfl) h (fun w hw => t_M_fails (d + 2) _ _ _ hw) (fun a18 μ19 h => ?_)
      refine rn_sls 0 (pc' := 101) (ls' := [(0, (2, 1000)), (1, (0, v1)), (2, (0, v2)), (3, (0, v3))]) (st' := [(0, a18)]) rfl ?_
      exact rn_iretB rfl rfl rfl h rfl
    · refine rn_sls 1 (pc' := 105) (ls' := [(3, (0, (w32 (v3 + 1)))), (0, (2, 1000)), (1, (0, v1)), (2, (0, v2))]) (st' := []) rfl ?_
      refine rn_goto (t := 72) rfl rfl rfl ?_
      exact rn_sub [1, 2, 3, 0] rfl (hk72 _ _ _ _ _ h)
  · refine rn_sls 4 (pc' := 114) (ls' := [(0, (2, 1000)), (1, (0, v1)), (2, (0, v2)), (3, (0, v3))]) (st' := [(2, 1000), (0, v2), (2, 1003)]) rfl ?_
    refine rn_call 0 0 [(2, 1000)] (r := [(0, v2), (2, 1003)]) rfl ⟨rfl, Or.inl ⟨_, rfl, by decide⟩⟩ (by decide) (fun _ => ⟨_, rfl, rfl⟩) rfl rfl (Nat.le_of_ble_eq_true rfl) h (fun w hw => t_M_needsSlip (d + 0)  _ _ hw) (fun a2 μ3 h => ?_)
    refine rn_sls 0 (pc' := 117) (ls' := [(0, (2, 1000)), (1, (0, v1)), (2, (0, v2)), (3, (0, v3))]) (st' := [(0, a2), (0, v2), (2, 1003)]) rfl ?_
    refine rn_iast (n := 120) rfl rfl rfl h (fun μ4 h => ?_)
    refine rn_sls 4 (pc' := 124) (ls' := [(0, (2, 1000)), (1, (0, v1)), (2, (0, v2)), (3, (0, v3))]) (st' := [(2, 1000), (0, v2), (2, 1005)]) rfl ?_
    refine rn_call 0 0 [(2, 1000)] (r := [(0, v2), (2, 1005)]) rfl ⟨rfl, Or.inl ⟨_, rfl, by decide⟩⟩ (by decide) (fun _ => ⟨_, rfl, rfl⟩) rfl rfl (Nat.le_of_ble_eq_true rfl) h (fun w hw => t_M_kindAt (d + 1)  _ _ hw) (fun a5 μ6 h => ?_)
    refine rn_sls 0 (pc' := 127) (ls' := [(0, (2, 1000)), (1, (0, v1)), (2, (0, v2)), (3, (0, v3))]) (st' := [(0, a5), (0, v2), (2, 1005)]) rfl ?_
    refine rn_iast (n := 120) rfl rfl rfl h (fun μ7 h => ?_)
    refine rn_sls 3 (pc' := 133) (ls' := [(0, (2, 1000)), (1, (0, v1)), (2, (0, v2)), (3, (0, v3))]) (st' := [(0, v2), (2, 1005)]) rfl ?_
    refine rn_iald (n := 120) rfl rfl rfl h (fun a8 h => ?_)
    refine rn_ifn (t := 143) rfl rfl rfl rfl h (fun h => ?_) (fun h => ?_)
    · refine rn_sls 2 (pc' := 139) (ls' := [(0, (2, 1000)), (1, (0, v1)), (2, (0, v2)), (3, (0, v3))]) (st' := [(0, 1), (2, 1000)]) rfl ?_
      refine rn_call 0 0 [(2, 1000), (0, 1)] (r := []) rfl ⟨rfl, Or.inl ⟨_, rfl, by decide⟩⟩ (by decide) (fun _ => ⟨_, rfl, rfl⟩) rfl rfl (Nat.le_of_ble_eq_true rfl) h (fun w hw => t_M_fails (d + 2) _ _ _ hw) (fun a15 μ16 h => ?_)
      refine rn_sls 0 (pc' := 142) (ls' := [(0, (2, 1000)), (1, (0, v1)), (2, (0, v2)), (3, (0, v3))]) (st' := [(0, a15)]) rfl ?_
      exact rn_iretB rfl rfl rfl h rfl
    · refine rn_sls 4 (pc' := 149) (ls' := [(0, (2, 1000)), (1, (0, v1)), (2, (0, v2)), (3, (0, v3))]) (st' := [(0, v1), (2, 1019), (0, v1), (2, 1019)]) rfl ?_
      refine rn_iald (n := 8) rfl rfl rfl h (fun a9 h => ?_)
      refine rn_sls 2 (pc' := 152) (ls' := [(0, (2, 1000)), (1, (0, v1)), (2, (0, v2)), (3, (0, v3))]) (st' := [(0, (w32 (a9 + 1))), (0, v1), (2, 1019)]) rfl ?_
      refine rn_iast (n := 8) rfl rfl rfl h (fun μ10 h => ?_)
      refine rn_sls 1 (pc' := 154) (ls' := [(0, (2, 1000)), (1, (0, v1)), (2, (0, v2)), (3, (0, v3))]) (st' := [(2, 1000)]) rfl ?_
      refine rn_call 0 2 [(2, 1000)] (r := []) rfl ⟨rfl, Or.inl ⟨_, rfl, by decide⟩⟩ (by decide) (fun _ => ⟨_, rfl, rfl⟩) rfl rfl (Nat.le_of_ble_eq_true rfl) h (fun w hw => t_M_nextToken (d + 1)  _ _ hw) (fun a11 μ12 h => ?_)
      refine rn_sls 0 (pc' := 157) (ls' := [(0, (2, 1000)), (1, (0, v1)), (2, (0, v2)), (3, (0, v3))]) (st' := []) rfl ?_
      refine rn_sls 1 (pc' := 158) (ls' := [(0, (2, 1000)), (1, (0, v1)), (2, (0, v2)), (3, (0, v3))]) (st' := [(2, 1000)]) rfl ?_
      refine rn_call 0 0 [(2, 1000)] (r := []) rfl ⟨rfl, Or.inl ⟨_, rfl, by decide⟩⟩ (by decide) (fun _ => ⟨_, rfl, rfl⟩) rfl rfl (Nat.le_of_ble_eq_true rfl) h (fun w hw => t_M_ends (d + 0)  _ _ hw) (fun a13 μ14 h => ?_)
      refine rn_sls 0 (pc' := 161) (ls' := [(0, (2, 1000)), (1, (0, v1)), (2, (0, v2)), (3, (0, v3))]) (st' := [(0, a13)]) rfl ?_
      exact rn_iretB rfl rfl rfl h rfl
set_option maxRecDepth 20000 in
theorem t_M_readsTake_L72 (d : Nat) : ∀ (n : Nat) (v1 : Int) (v2 : Int) (v3 : Int) (μ : am_M) q, M_readsTake_L72 n v1 v2 v3 μ = some q → am_run none (am_ar g_mt (d + 3)) 4 (some .boolean) k_M_readsTake 72 [(0, (2, 1000)), (1, (0, v1)), (2, (0, v2)), (3, (0, v3))] [] μ (am_res 0 q) := by
  intro n
  induction n with
  | zero => intro v1 v2 v3 μ q h; cases h
  | succ n ih => intro v1 v2 v3 μ q h; exact t_M_readsTake_L72_b d (M_readsTake_L72 n) ih v1 v2 v3 μ q h
set_option maxRecDepth 20000 in
theorem t_M_readsTake (d : Nat) : ∀ (v1 : Int) (v2 : Int) (μ : am_M) q, M_readsTake v1 v2 μ = some q → am_ar g_mt (d + 4) 167 [(2, 1000), (0, v1), (0, v2)] μ (am_res 0 q) := by
  intro v1 v2 μ q h
  unfold M_readsTake at h
  refine am_ar_of (d := d + 3) i_M_readsTake rfl rfl (Nat.le_of_ble_eq_true rfl) ?_
  show am_run none (am_ar g_mt (d + 3)) 4 (some .boolean) k_M_readsTake 0 [(0, (2, 1000)), (1, (0, v1)), (2, (0, v2))] [] μ (am_res 0 q)
  refine rn_sls 2 (pc' := 4) (ls' := [(0, (2, 1000)), (1, (0, v1)), (2, (0, v2))]) (st' := [(0, (μ 1000 44))]) rfl ?_
  refine rn_if (t := 13) rfl rfl rfl rfl h (fun h => ?_) (fun h => ?_)
  · refine rn_sls 3 (pc' := 18) (ls' := [(0, (2, 1000)), (1, (0, v1)), (2, (0, v2))]) (st' := [(0, v1), (2, 1019)]) rfl ?_
    refine rn_iald (n := 8) rfl rfl rfl h (fun a1 h => ?_)
    refine rn_sls 1 (pc' := 20) (ls' := [(0, (2, 1000)), (1, (0, v1)), (2, (0, v2))]) (st' := [(0, 4), (0, a1)]) rfl ?_
    refine rn_icmp (t := 34) rfl rfl rfl rfl h (fun h => ?_) (fun h => ?_)
    · exact rn_sub [0] rfl (t_M_readsTake_B34 d  _ _ h)
    · refine rn_sls 3 (pc' := 28) (ls' := [(0, (2, 1000)), (1, (0, v1)), (2, (0, v2))]) (st' := [(0, 5), (2, 1013)]) rfl ?_
      refine rn_iald (n := 6) rfl rfl rfl h (fun a2 h => ?_)
      refine rn_sls 1 (pc' := 31) (ls' := [(0, (2, 1000)), (1, (0, v1)), (2, (0, v2))]) (st' := [(0, 60), (0, a2)]) rfl ?_
      refine rn_icmpn (t := 40) rfl rfl rfl rfl h (fun h => ?_) (fun h => ?_)
      · exact rn_sub [0] rfl (t_M_readsTake_B34 d  _ _ h)
      · refine rn_sls 1 (pc' := 41) (ls' := [(0, (2, 1000)), (1, (0, v1)), (2, (0, v2))]) (st' := [(2, 1000)]) rfl ?_
        refine rn_call 0 2 [(2, 1000)] (r := []) rfl ⟨rfl, Or.inl ⟨_, rfl, by decide⟩⟩ (by decide) (fun _ => ⟨_, rfl, rfl⟩) rfl rfl (Nat.le_of_ble_eq_true rfl) h (fun w hw => t_M_nextToken (d + 1)  _ _ hw) (fun a3 μ4 h => ?_)
        refine rn_sls 0 (pc' := 44) (ls' := [(0, (2, 1000)), (1, (0, v1)), (2, (0, v2))]) (st' := []) rfl ?_
        refine rn_sls 1 (pc' := 45) (ls' := [(0, (2, 1000)), (1, (0, v1)), (2, (0, v2))]) (st' := [(2, 1000)]) rfl ?_
        refine rn_call 0 0 [(2, 1000)] (r := []) rfl ⟨rfl, Or.inl ⟨_, rfl, by decide⟩⟩ (by decide) (fun _ => ⟨_, rfl, rfl⟩) rfl rfl (Nat.le_of_ble_eq_true rfl) h (fun w hw => t_M_isKept (d + 2)  _ _ hw) (fun a5 μ6 h => ?_)
        refine rn_sls 0 (pc' := 48) (ls' := [(0, (2, 1000)), (1, (0, v1)), (2, (0, v2))]) (st' := [(0, a5)]) rfl ?_
        refine rn_if (t := 57) rfl rfl rfl rfl h (fun h => ?_) (fun h => ?_)
        · refine rn_sls 1 (pc' := 58) (ls' := [(0, (2, 1000)), (1, (0, v1)), (2, (0, v2))]) (st' := [(2, 1000)]) rfl ?_
          refine rn_call 0 0 [(2, 1000)] (r := []) rfl ⟨rfl, Or.inl ⟨_, rfl, by decide⟩⟩ (by decide) (fun _ => ⟨_, rfl, rfl⟩) rfl rfl (Nat.le_of_ble_eq_true rfl) h (fun w hw => t_M_wallOf (d + 2)  _ _ hw) (fun a7 μ8 h => ?_)
          refine rn_sls 0 (pc' := 61) (ls' := [(0, (2, 1000)), (1, (0, v1)), (2, (0, v2))]) (st' := [(0, a7)]) rfl ?_
          refine rn_if (t := 70) rfl rfl rfl rfl h (fun h => ?_) (fun h => ?_)
          · refine rn_sls 2 (pc' := 72) (ls' := [(3, (0, 0)), (0, (2, 1000)), (1, (0, v1)), (2, (0, v2))]) (st' := []) rfl ?_
            exact rn_sub [1, 2, 3, 0] rfl (t_M_readsTake_L72 d  am_FU _ _ _ _ _ h)
          · refine rn_sls 2 (pc' := 66) (ls' := [(0, (2, 1000)), (1, (0, v1)), (2, (0, v2))]) (st' := [(0, 3), (2, 1000)]) rfl ?_
            refine rn_call 0 0 [(2, 1000), (0, 3)] (r := []) rfl ⟨rfl, Or.inl ⟨_, rfl, by decide⟩⟩ (by decide) (fun _ => ⟨_, rfl, rfl⟩) rfl rfl (Nat.le_of_ble_eq_true rfl) h (fun w hw => t_M_fails (d + 2) _ _ _ hw) (fun a9 μ10 h => ?_)
            refine rn_sls 0 (pc' := 69) (ls' := [(0, (2, 1000)), (1, (0, v1)), (2, (0, v2))]) (st' := [(0, a9)]) rfl ?_
            exact rn_iretB rfl rfl rfl h rfl
        · refine rn_sls 2 (pc' := 53) (ls' := [(0, (2, 1000)), (1, (0, v1)), (2, (0, v2))]) (st' := [(0, 1), (2, 1000)]) rfl ?_
          refine rn_call 0 0 [(2, 1000), (0, 1)] (r := []) rfl ⟨rfl, Or.inl ⟨_, rfl, by decide⟩⟩ (by decide) (fun _ => ⟨_, rfl, rfl⟩) rfl rfl (Nat.le_of_ble_eq_true rfl) h (fun w hw => t_M_fails (d + 2) _ _ _ hw) (fun a11 μ12 h => ?_)
          refine rn_sls 0 (pc' := 56) (ls' := [(0, (2, 1000)), (1, (0, v1)), (2, (0, v2))]) (st' := [(0, a11)]) rfl ?_
          exact rn_iretB rfl rfl rfl h rfl
  · refine rn_sls 2 (pc' := 9) (ls' := [(0, (2, 1000)), (1, (0, v1)), (2, (0, v2))]) (st' := [(0, 1), (2, 1000)]) rfl ?_
    refine rn_call 0 0 [(2, 1000), (0, 1)] (r := []) rfl ⟨rfl, Or.inl ⟨_, rfl, by decide⟩⟩ (by decide) (fun _ => ⟨_, rfl, rfl⟩) rfl rfl (Nat.le_of_ble_eq_true rfl) h (fun w hw => t_M_fails (d + 2) _ _ _ hw) (fun a13 μ14 h => ?_)
    refine rn_sls 0 (pc' := 12) (ls' := [(0, (2, 1000)), (1, (0, v1)), (2, (0, v2))]) (st' := [(0, a13)]) rfl ?_
    exact rn_iretB rfl rfl rfl h rfl
set_option maxRecDepth 20000 in
theorem t_M_readsTwin (d : Nat) : ∀ (v1 : Int) (μ : am_M) q, M_readsTwin v1 μ = some q → am_ar g_mt (d + 4) 168 [(2, 1000), (0, v1)] μ (am_res 0 q) := by
  intro v1 μ q h
  unfold M_readsTwin at h
  refine am_ar_of (d := d + 3) i_M_readsTwin rfl rfl (Nat.le_of_ble_eq_true rfl) ?_
  show am_run none (am_ar g_mt (d + 3)) 2 (some .boolean) k_M_readsTwin 0 [(0, (2, 1000)), (1, (0, v1))] [] μ (am_res 0 q)
  refine rn_sls 6 (pc' := 8) (ls' := [(0, (2, 1000)), (1, (0, v1))]) (st' := [(2, 1000), (0, (w32 (4 * v1))), (2, 1007)]) rfl ?_
  refine rn_call 0 0 [(2, 1000)] (r := [(0, (w32 (4 * v1))), (2, 1007)]) rfl ⟨rfl, Or.inl ⟨_, rfl, by decide⟩⟩ (by decide) (fun _ => ⟨_, rfl, rfl⟩) rfl rfl (Nat.le_of_ble_eq_true rfl) h (fun w hw => t_M_needsSlip (d + 0)  _ _ hw) (fun a1 μ2 h => ?_)
  refine rn_sls 0 (pc' := 11) (ls' := [(0, (2, 1000)), (1, (0, v1))]) (st' := [(0, a1), (0, (w32 (4 * v1))), (2, 1007)]) rfl ?_
  refine rn_iast (n := 480) rfl rfl rfl h (fun μ3 h => ?_)
  refine rn_sls 5 (pc' := 19) (ls' := [(0, (2, 1000)), (1, (0, v1))]) (st' := [(0, (w32 (4 * v1))), (2, 1007)]) rfl ?_
  refine rn_iald (n := 480) rfl rfl rfl h (fun a4 h => ?_)
  refine rn_if (t := 33) rfl rfl rfl rfl h (fun h => ?_) (fun h => ?_)
  · refine rn_sls 1 (pc' := 34) (ls' := [(0, (2, 1000)), (1, (0, v1))]) (st' := [(0, 0)]) rfl ?_
    exact rn_iretb rfl rfl rfl (Or.inl rfl) h rfl
  · refine rn_sls 2 (pc' := 27) (ls' := [(0, (2, 1000)), (1, (0, v1))]) (st' := [(1, 46), (2, 1000)]) rfl ?_
    refine rn_call 0 0 [(2, 1000), (1, 46)] (r := []) rfl ⟨rfl, Or.inl ⟨_, rfl, by decide⟩⟩ (by decide) (fun _ => ⟨_, rfl, rfl⟩) rfl rfl (Nat.le_of_ble_eq_true rfl) h (fun w hw => t_M_needsWord (d + 0) _ _ _ hw) (fun a5 μ6 h => ?_)
    refine rn_sls 0 (pc' := 30) (ls' := [(0, (2, 1000)), (1, (0, v1))]) (st' := [(0, a5)]) rfl ?_
    refine rn_ifn (t := 35) rfl rfl rfl rfl h (fun h => ?_) (fun h => ?_)
    · refine rn_sls 1 (pc' := 34) (ls' := [(0, (2, 1000)), (1, (0, v1))]) (st' := [(0, 0)]) rfl ?_
      exact rn_iretb rfl rfl rfl (Or.inl rfl) h rfl
    · refine rn_sls 4 (pc' := 41) (ls' := [(0, (2, 1000)), (1, (0, v1))]) (st' := [(2, 1000), (0, v1), (2, 1003)]) rfl ?_
      refine rn_call 0 0 [(2, 1000)] (r := [(0, v1), (2, 1003)]) rfl ⟨rfl, Or.inl ⟨_, rfl, by decide⟩⟩ (by decide) (fun _ => ⟨_, rfl, rfl⟩) rfl rfl (Nat.le_of_ble_eq_true rfl) h (fun w hw => t_M_needsSlip (d + 0)  _ _ hw) (fun a7 μ8 h => ?_)
      refine rn_sls 0 (pc' := 44) (ls' := [(0, (2, 1000)), (1, (0, v1))]) (st' := [(0, a7), (0, v1), (2, 1003)]) rfl ?_
      refine rn_iast (n := 120) rfl rfl rfl h (fun μ9 h => ?_)
      refine rn_sls 3 (pc' := 50) (ls' := [(0, (2, 1000)), (1, (0, v1))]) (st' := [(0, v1), (2, 1003)]) rfl ?_
      refine rn_iald (n := 120) rfl rfl rfl h (fun a10 h => ?_)
      refine rn_ifn (t := 56) rfl rfl rfl rfl h (fun h => ?_) (fun h => ?_)
      · refine rn_sls 1 (pc' := 55) (ls' := [(0, (2, 1000)), (1, (0, v1))]) (st' := [(0, 0)]) rfl ?_
        exact rn_iretb rfl rfl rfl (Or.inl rfl) h rfl
      · refine rn_sls 4 (pc' := 62) (ls' := [(0, (2, 1000)), (1, (0, v1))]) (st' := [(2, 1000), (0, v1), (2, 1004)]) rfl ?_
        refine rn_call 0 0 [(2, 1000)] (r := [(0, v1), (2, 1004)]) rfl ⟨rfl, Or.inl ⟨_, rfl, by decide⟩⟩ (by decide) (fun _ => ⟨_, rfl, rfl⟩) rfl rfl (Nat.le_of_ble_eq_true rfl) h (fun w hw => t_M_needsSlip (d + 0)  _ _ hw) (fun a11 μ12 h => ?_)
        refine rn_sls 0 (pc' := 65) (ls' := [(0, (2, 1000)), (1, (0, v1))]) (st' := [(0, a11), (0, v1), (2, 1004)]) rfl ?_
        refine rn_iast (n := 120) rfl rfl rfl h (fun μ13 h => ?_)
        refine rn_sls 3 (pc' := 71) (ls' := [(0, (2, 1000)), (1, (0, v1))]) (st' := [(0, v1), (2, 1004)]) rfl ?_
        refine rn_iald (n := 120) rfl rfl rfl h (fun a14 h => ?_)
        refine rn_if (t := 86) rfl rfl rfl rfl h (fun h => ?_) (fun h => ?_)
        · refine rn_sls 1 (pc' := 87) (ls' := [(0, (2, 1000)), (1, (0, v1))]) (st' := [(0, 0)]) rfl ?_
          exact rn_iretb rfl rfl rfl (Or.inl rfl) h rfl
        · refine rn_sls 1 (pc' := 76) (ls' := [(0, (2, 1000)), (1, (0, v1))]) (st' := [(2, 1000)]) rfl ?_
          refine rn_call 0 0 [(2, 1000)] (r := []) rfl ⟨rfl, Or.inl ⟨_, rfl, by decide⟩⟩ (by decide) (fun _ => ⟨_, rfl, rfl⟩) rfl rfl (Nat.le_of_ble_eq_true rfl) h (fun w hw => t_M_ends (d + 0)  _ _ hw) (fun a15 μ16 h => ?_)
          refine rn_sls 0 (pc' := 79) (ls' := [(0, (2, 1000)), (1, (0, v1))]) (st' := [(0, a15)]) rfl ?_
          refine rn_if (t := 86) rfl rfl rfl rfl h (fun h => ?_) (fun h => ?_)
          · refine rn_sls 1 (pc' := 87) (ls' := [(0, (2, 1000)), (1, (0, v1))]) (st' := [(0, 0)]) rfl ?_
            exact rn_iretb rfl rfl rfl (Or.inl rfl) h rfl
          · refine rn_sls 1 (pc' := 83) (ls' := [(0, (2, 1000)), (1, (0, v1))]) (st' := [(0, 1)]) rfl ?_
            refine rn_goto (t := 87) rfl rfl rfl ?_
            exact rn_iretb rfl rfl rfl (Or.inr rfl) h rfl
set_option maxRecDepth 20000 in
theorem t_M_readsCall_B108 (d : Nat) : ∀ (s1 : Int) (μ : am_M) q, M_readsCall_B108 s1 μ = some q → am_run none (am_ar g_mt (d + 3)) 4 (some .boolean) k_M_readsCall 108 [] [(0, s1), (2, 1000)] μ (am_res 0 q) := by
  intro s1 μ q h
  unfold M_readsCall_B108 at h
  refine rn_call 0 0 [(2, 1000), (0, s1)] (r := []) rfl ⟨rfl, Or.inl ⟨_, rfl, by decide⟩⟩ (by decide) (fun _ => ⟨_, rfl, rfl⟩) rfl rfl (Nat.le_of_ble_eq_true rfl) h (fun w hw => t_M_fails (d + 2) _ _ _ hw) (fun a1 μ2 h => ?_)
  refine rn_sls 0 (pc' := 111) (ls' := []) (st' := [(0, a1)]) rfl ?_
  exact rn_iretB rfl rfl rfl h rfl
set_option maxRecDepth 20000 in
theorem t_M_readsCall_L41_b (d : Nat) (k41 : Int → Int → Int → am_M → am_O) (hk41 : ∀ (v1 : Int) (v2 : Int) (v3 : Int) (μ : am_M) q, k41 v1 v2 v3 μ = some q → am_run none (am_ar g_mt (d + 3)) 4 (some .boolean) k_M_readsCall 41 [(0, (2, 1000)), (1, (0, v1)), (2, (0, v2)), (3, (0, v3))] [] μ (am_res 0 q)) : ∀ (v1 : Int) (v2 : Int) (v3 : Int) (μ : am_M) q, M_readsCall_L41_b k41 v1 v2 v3 μ = some q → am_run none (am_ar g_mt (d + 3)) 4 (some .boolean) k_M_readsCall 41 [(0, (2, 1000)), (1, (0, v1)), (2, (0, v2)), (3, (0, v3))] [] μ (am_res 0 q) := by
  intro v1 v2 v3 μ q h
  unfold M_readsCall_L41_b at h
  refine rn_sls 6 (pc' := 49) (ls' := [(0, (2, 1000)), (1, (0, v1)), (2, (0, v2)), (3, (0, v3))]) (st' := [(0, (w32 (4 + v2))), (2, 1019), (0, v3)]) rfl ?_
  refine rn_iald (n := 8) rfl rfl rfl h (fun a1 h => ?_)
  refine rn_icmpn (t := 88) rfl rfl rfl rfl h (fun h => ?_) (fun h => ?_)
  · refine rn_sls 8 (pc' := 63) (ls' := [(0, (2, 1000)), (1, (0, v1)), (2, (0, v2)), (3, (0, v3))]) (st' := [(2, 1000), (0, (w32 ((w32 (4 * v1)) + v3))), (2, 1007)]) rfl ?_
    refine rn_call 0 0 [(2, 1000)] (r := [(0, (w32 ((w32 (4 * v1)) + v3))), (2, 1007)]) rfl ⟨rfl, Or.inl ⟨_, rfl, by decide⟩⟩ (by decide) (fun _ => ⟨_, rfl, rfl⟩) rfl rfl (Nat.le_of_ble_eq_true rfl) h (fun w hw => t_M_needsSlip (d + 0)  _ _ hw) (fun a14 μ15 h => ?_)
    refine rn_sls 0 (pc' := 66) (ls' := [(0, (2, 1000)), (1, (0, v1)), (2, (0, v2)), (3, (0, v3))]) (st' := [(0, a14), (0, (w32 ((w32 (4 * v1)) + v3))), (2, 1007)]) rfl ?_
    refine rn_iast (n := 480) rfl rfl rfl h (fun μ16 h => ?_)
    refine rn_sls 7 (pc' := 76) (ls' := [(0, (2, 1000)), (1, (0, v1)), (2, (0, v2)), (3, (0, v3))]) (st' := [(0, (w32 ((w32 (4 * v1)) + v3))), (2, 1007)]) rfl ?_
    refine rn_iald (n := 480) rfl rfl rfl h (fun a17 h => ?_)
    refine rn_ifn (t := 82) rfl rfl rfl rfl h (fun h => ?_) (fun h => ?_)
    · refine rn_sls 1 (pc' := 81) (ls' := [(0, (2, 1000)), (1, (0, v1)), (2, (0, v2)), (3, (0, v3))]) (st' := [(0, 0)]) rfl ?_
      exact rn_iretb rfl rfl rfl (Or.inl rfl) h rfl
    · refine rn_sls 1 (pc' := 85) (ls' := [(3, (0, (w32 (v3 + 1)))), (0, (2, 1000)), (1, (0, v1)), (2, (0, v2))]) (st' := []) rfl ?_
      refine rn_goto (t := 41) rfl rfl rfl ?_
      exact rn_sub [1, 2, 3, 0] rfl (hk41 _ _ _ _ _ h)
  · refine rn_sls 1 (pc' := 89) (ls' := [(0, (2, 1000)), (1, (0, v1)), (2, (0, v2)), (3, (0, v3))]) (st' := [(2, 1000)]) rfl ?_
    refine rn_call 0 0 [(2, 1000)] (r := []) rfl ⟨rfl, Or.inl ⟨_, rfl, by decide⟩⟩ (by decide) (fun _ => ⟨_, rfl, rfl⟩) rfl rfl (Nat.le_of_ble_eq_true rfl) h (fun w hw => t_M_isKept (d + 2)  _ _ hw) (fun a2 μ3 h => ?_)
    refine rn_sls 0 (pc' := 92) (ls' := [(0, (2, 1000)), (1, (0, v1)), (2, (0, v2)), (3, (0, v3))]) (st' := [(0, a2)]) rfl ?_
    refine rn_ifn (t := 112) rfl rfl rfl rfl h (fun h => ?_) (fun h => ?_)
    · refine rn_sls 2 (pc' := 97) (ls' := [(0, (2, 1000)), (1, (0, v1)), (2, (0, v2)), (3, (0, v3))]) (st' := [(2, 1000), (2, 1000)]) rfl ?_
      refine rn_call 0 0 [(2, 1000)] (r := [(2, 1000)]) rfl ⟨rfl, Or.inl ⟨_, rfl, by decide⟩⟩ (by decide) (fun _ => ⟨_, rfl, rfl⟩) rfl rfl (Nat.le_of_ble_eq_true rfl) h (fun w hw => t_M_wallOf (d + 2)  _ _ hw) (fun a12 μ13 h => ?_)
      refine rn_sls 0 (pc' := 100) (ls' := [(0, (2, 1000)), (1, (0, v1)), (2, (0, v2)), (3, (0, v3))]) (st' := [(0, a12), (2, 1000)]) rfl ?_
      refine rn_if (t := 107) rfl rfl rfl rfl h (fun h => ?_) (fun h => ?_)
      · refine rn_sls 1 (pc' := 108) (ls' := [(0, (2, 1000)), (1, (0, v1)), (2, (0, v2)), (3, (0, v3))]) (st' := [(0, 5), (2, 1000)]) rfl ?_
        exact rn_sub [] rfl (t_M_readsCall_B108 d  _ _ _ h)
      · refine rn_sls 1 (pc' := 104) (ls' := [(0, (2, 1000)), (1, (0, v1)), (2, (0, v2)), (3, (0, v3))]) (st' := [(0, 3), (2, 1000)]) rfl ?_
        refine rn_goto (t := 108) rfl rfl rfl ?_
        exact rn_sub [] rfl (t_M_readsCall_B108 d  _ _ _ h)
    · refine rn_sls 2 (pc' := 116) (ls' := [(0, (2, 1000)), (1, (0, v1)), (2, (0, v2)), (3, (0, v3))]) (st' := [(1, 46), (2, 1000)]) rfl ?_
      refine rn_call 0 0 [(2, 1000), (1, 46)] (r := []) rfl ⟨rfl, Or.inl ⟨_, rfl, by decide⟩⟩ (by decide) (fun _ => ⟨_, rfl, rfl⟩) rfl rfl (Nat.le_of_ble_eq_true rfl) h (fun w hw => t_M_needsWord (d + 0) _ _ _ hw) (fun a4 μ5 h => ?_)
      refine rn_sls 0 (pc' := 119) (ls' := [(0, (2, 1000)), (1, (0, v1)), (2, (0, v2)), (3, (0, v3))]) (st' := [(0, a4)]) rfl ?_
      refine rn_ifn (t := 124) rfl rfl rfl rfl h (fun h => ?_) (fun h => ?_)
      · refine rn_sls 1 (pc' := 123) (ls' := [(0, (2, 1000)), (1, (0, v1)), (2, (0, v2)), (3, (0, v3))]) (st' := [(0, 0)]) rfl ?_
        exact rn_iretb rfl rfl rfl (Or.inl rfl) h rfl
      · refine rn_sls 4 (pc' := 130) (ls' := [(0, (2, 1000)), (1, (0, v1)), (2, (0, v2)), (3, (0, v3))]) (st' := [(2, 1000), (0, v1), (2, 1003)]) rfl ?_
        refine rn_call 0 0 [(2, 1000)] (r := [(0, v1), (2, 1003)]) rfl ⟨rfl, Or.inl ⟨_, rfl, by decide⟩⟩ (by decide) (fun _ => ⟨_, rfl, rfl⟩) rfl rfl (Nat.le_of_ble_eq_true rfl) h (fun w hw => t_M_needsSlip (d + 0)  _ _ hw) (fun a6 μ7 h => ?_)
        refine rn_sls 0 (pc' := 133) (ls' := [(0, (2, 1000)), (1, (0, v1)), (2, (0, v2)), (3, (0, v3))]) (st' := [(0, a6), (0, v1), (2, 1003)]) rfl ?_
        refine rn_iast (n := 120) rfl rfl rfl h (fun μ8 h => ?_)
        refine rn_sls 3 (pc' := 139) (ls' := [(0, (2, 1000)), (1, (0, v1)), (2, (0, v2)), (3, (0, v3))]) (st' := [(0, v1), (2, 1003)]) rfl ?_
        refine rn_iald (n := 120) rfl rfl rfl h (fun a9 h => ?_)
        refine rn_if (t := 154) rfl rfl rfl rfl h (fun h => ?_) (fun h => ?_)
        · refine rn_sls 1 (pc' := 155) (ls' := [(0, (2, 1000)), (1, (0, v1)), (2, (0, v2)), (3, (0, v3))]) (st' := [(0, 0)]) rfl ?_
          exact rn_iretb rfl rfl rfl (Or.inl rfl) h rfl
        · refine rn_sls 1 (pc' := 144) (ls' := [(0, (2, 1000)), (1, (0, v1)), (2, (0, v2)), (3, (0, v3))]) (st' := [(2, 1000)]) rfl ?_
          refine rn_call 0 0 [(2, 1000)] (r := []) rfl ⟨rfl, Or.inl ⟨_, rfl, by decide⟩⟩ (by decide) (fun _ => ⟨_, rfl, rfl⟩) rfl rfl (Nat.le_of_ble_eq_true rfl) h (fun w hw => t_M_ends (d + 0)  _ _ hw) (fun a10 μ11 h => ?_)
          refine rn_sls 0 (pc' := 147) (ls' := [(0, (2, 1000)), (1, (0, v1)), (2, (0, v2)), (3, (0, v3))]) (st' := [(0, a10)]) rfl ?_
          refine rn_if (t := 154) rfl rfl rfl rfl h (fun h => ?_) (fun h => ?_)
          · refine rn_sls 1 (pc' := 155) (ls' := [(0, (2, 1000)), (1, (0, v1)), (2, (0, v2)), (3, (0, v3))]) (st' := [(0, 0)]) rfl ?_
            exact rn_iretb rfl rfl rfl (Or.inl rfl) h rfl
          · refine rn_sls 1 (pc' := 151) (ls' := [(0, (2, 1000)), (1, (0, v1)), (2, (0, v2)), (3, (0, v3))]) (st' := [(0, 1)]) rfl ?_
            refine rn_goto (t := 155) rfl rfl rfl ?_
            exact rn_iretb rfl rfl rfl (Or.inr rfl) h rfl
set_option maxRecDepth 20000 in
theorem t_M_readsCall_L41 (d : Nat) : ∀ (n : Nat) (v1 : Int) (v2 : Int) (v3 : Int) (μ : am_M) q, M_readsCall_L41 n v1 v2 v3 μ = some q → am_run none (am_ar g_mt (d + 3)) 4 (some .boolean) k_M_readsCall 41 [(0, (2, 1000)), (1, (0, v1)), (2, (0, v2)), (3, (0, v3))] [] μ (am_res 0 q) := by
  intro n
  induction n with
  | zero => intro v1 v2 v3 μ q h; cases h
  | succ n ih => intro v1 v2 v3 μ q h; exact t_M_readsCall_L41_b d (M_readsCall_L41 n) ih v1 v2 v3 μ q h
set_option maxRecDepth 20000 in
theorem t_M_readsCall (d : Nat) : ∀ (v1 : Int) (μ : am_M) q, M_readsCall v1 μ = some q → am_ar g_mt (d + 4) 169 [(2, 1000), (0, v1)] μ (am_res 0 q) := by
  intro v1 μ q h
  unfold M_readsCall at h
  refine am_ar_of (d := d + 3) i_M_readsCall rfl rfl (Nat.le_of_ble_eq_true rfl) ?_
  show am_run none (am_ar g_mt (d + 3)) 4 (some .boolean) k_M_readsCall 0 [(0, (2, 1000)), (1, (0, v1))] [] μ (am_res 0 q)
  refine rn_sls 1 (pc' := 1) (ls' := [(0, (2, 1000)), (1, (0, v1))]) (st' := [(2, 1000)]) rfl ?_
  refine rn_call 0 0 [(2, 1000)] (r := []) rfl ⟨rfl, Or.inl ⟨_, rfl, by decide⟩⟩ (by decide) (fun _ => ⟨_, rfl, rfl⟩) rfl rfl (Nat.le_of_ble_eq_true rfl) h (fun w hw => t_M_isKept (d + 2)  _ _ hw) (fun a1 μ2 h => ?_)
  refine rn_sls 0 (pc' := 4) (ls' := [(0, (2, 1000)), (1, (0, v1))]) (st' := [(0, a1)]) rfl ?_
  refine rn_if (t := 13) rfl rfl rfl rfl h (fun h => ?_) (fun h => ?_)
  · refine rn_sls 1 (pc' := 14) (ls' := [(0, (2, 1000)), (1, (0, v1))]) (st' := [(2, 1000)]) rfl ?_
    refine rn_call 0 0 [(2, 1000)] (r := []) rfl ⟨rfl, Or.inl ⟨_, rfl, by decide⟩⟩ (by decide) (fun _ => ⟨_, rfl, rfl⟩) rfl rfl (Nat.le_of_ble_eq_true rfl) h (fun w hw => t_M_billOf (d + 2)  _ _ hw) (fun a3 μ4 h => ?_)
    refine rn_sls 0 (pc' := 17) (ls' := [(0, (2, 1000)), (1, (0, v1))]) (st' := [(0, a3)]) rfl ?_
    refine rn_sls 2 (pc' := 19) (ls' := [(2, (0, a3)), (0, (2, 1000)), (1, (0, v1))]) (st' := [(0, a3)]) rfl ?_
    refine rn_ifn (t := 28) rfl rfl rfl rfl h (fun h => ?_) (fun h => ?_)
    · refine rn_sls 2 (pc' := 24) (ls' := [(2, (0, a3)), (0, (2, 1000)), (1, (0, v1))]) (st' := [(0, 2), (2, 1000)]) rfl ?_
      refine rn_call 0 0 [(2, 1000), (0, 2)] (r := []) rfl ⟨rfl, Or.inl ⟨_, rfl, by decide⟩⟩ (by decide) (fun _ => ⟨_, rfl, rfl⟩) rfl rfl (Nat.le_of_ble_eq_true rfl) h (fun w hw => t_M_fails (d + 2) _ _ _ hw) (fun a8 μ9 h => ?_)
      refine rn_sls 0 (pc' := 27) (ls' := [(2, (0, a3)), (0, (2, 1000)), (1, (0, v1))]) (st' := [(0, a8)]) rfl ?_
      exact rn_iretB rfl rfl rfl h rfl
    · refine rn_sls 4 (pc' := 34) (ls' := [(2, (0, a3)), (0, (2, 1000)), (1, (0, v1))]) (st' := [(0, a3), (0, v1), (2, 1006)]) rfl ?_
      refine rn_iast (n := 120) rfl rfl rfl h (fun μ5 h => ?_)
      refine rn_sls 1 (pc' := 36) (ls' := [(2, (0, a3)), (0, (2, 1000)), (1, (0, v1))]) (st' := [(2, 1000)]) rfl ?_
      refine rn_call 0 2 [(2, 1000)] (r := []) rfl ⟨rfl, Or.inl ⟨_, rfl, by decide⟩⟩ (by decide) (fun _ => ⟨_, rfl, rfl⟩) rfl rfl (Nat.le_of_ble_eq_true rfl) h (fun w hw => t_M_nextToken (d + 1)  _ _ hw) (fun a6 μ7 h => ?_)
      refine rn_sls 0 (pc' := 39) (ls' := [(2, (0, a3)), (0, (2, 1000)), (1, (0, v1))]) (st' := []) rfl ?_
      refine rn_sls 2 (pc' := 41) (ls' := [(3, (0, 0)), (2, (0, a3)), (0, (2, 1000)), (1, (0, v1))]) (st' := []) rfl ?_
      exact rn_sub [2, 3, 1, 0] rfl (t_M_readsCall_L41 d  am_FU _ _ _ _ _ h)
  · refine rn_sls 2 (pc' := 9) (ls' := [(0, (2, 1000)), (1, (0, v1))]) (st' := [(0, 1), (2, 1000)]) rfl ?_
    refine rn_call 0 0 [(2, 1000), (0, 1)] (r := []) rfl ⟨rfl, Or.inl ⟨_, rfl, by decide⟩⟩ (by decide) (fun _ => ⟨_, rfl, rfl⟩) rfl rfl (Nat.le_of_ble_eq_true rfl) h (fun w hw => t_M_fails (d + 2) _ _ _ hw) (fun a10 μ11 h => ?_)
    refine rn_sls 0 (pc' := 12) (ls' := [(0, (2, 1000)), (1, (0, v1))]) (st' := [(0, a10)]) rfl ?_
    exact rn_iretB rfl rfl rfl h rfl
set_option maxRecDepth 20000 in
theorem t_M_readsIf (d : Nat) : ∀ (v1 : Int) (μ : am_M) q, M_readsIf v1 μ = some q → am_ar g_mt (d + 4) 170 [(2, 1000), (0, v1)] μ (am_res 0 q) := by
  intro v1 μ q h
  unfold M_readsIf at h
  refine am_ar_of (d := d + 3) i_M_readsIf rfl rfl (Nat.le_of_ble_eq_true rfl) ?_
  show am_run none (am_ar g_mt (d + 3)) 2 (some .boolean) k_M_readsIf 0 [(0, (2, 1000)), (1, (0, v1))] [] μ (am_res 0 q)
  refine rn_sls 1 (pc' := 1) (ls' := [(0, (2, 1000)), (1, (0, v1))]) (st' := [(2, 1000)]) rfl ?_
  refine rn_call 0 2 [(2, 1000)] (r := []) rfl ⟨rfl, Or.inl ⟨_, rfl, by decide⟩⟩ (by decide) (fun _ => ⟨_, rfl, rfl⟩) rfl rfl (Nat.le_of_ble_eq_true rfl) h (fun w hw => t_M_nextToken (d + 1)  _ _ hw) (fun a1 μ2 h => ?_)
  refine rn_sls 0 (pc' := 4) (ls' := [(0, (2, 1000)), (1, (0, v1))]) (st' := []) rfl ?_
  refine rn_sls 2 (pc' := 6) (ls' := [(0, (2, 1000)), (1, (0, v1))]) (st' := [(0, v1), (2, 1000)]) rfl ?_
  refine rn_call 0 0 [(2, 1000), (0, v1)] (r := []) rfl ⟨rfl, Or.inl ⟨_, rfl, by decide⟩⟩ (by decide) (fun _ => ⟨_, rfl, rfl⟩) rfl rfl (Nat.le_of_ble_eq_true rfl) h (fun w hw => t_M_readsE (d + 0) _ _ _ hw) (fun a3 μ4 h => ?_)
  refine rn_sls 0 (pc' := 9) (ls' := [(0, (2, 1000)), (1, (0, v1))]) (st' := [(0, a3)]) rfl ?_
  refine rn_ifn (t := 14) rfl rfl rfl rfl h (fun h => ?_) (fun h => ?_)
  · refine rn_sls 1 (pc' := 13) (ls' := [(0, (2, 1000)), (1, (0, v1))]) (st' := [(0, 0)]) rfl ?_
    exact rn_iretb rfl rfl rfl (Or.inl rfl) h rfl
  · refine rn_sls 5 (pc' := 23) (ls' := [(0, (2, 1000)), (1, (0, v1))]) (st' := [(0, v1), (0, (μ4 1000 45)), (2, 1034)]) rfl ?_
    refine rn_iast (n := 3) rfl rfl rfl h (fun μ5 h => ?_)
    refine rn_sls 5 (pc' := 33) (ls' := [(0, (2, 1000)), (1, (0, v1))]) (st' := [(0, 0), (0, (μ5 1000 45)), (2, 1035)]) rfl ?_
    refine rn_bast (n := 3) rfl rfl rfl h (fun μ6 h => ?_)
    refine rn_sls 5 (pc' := 41) (ls' := [(0, (2, 1000)), (1, (0, v1))]) (st' := [(0, (w32 ((μ6 1000 45) + 1))), (2, 1000)]) rfl ?_
    refine rn_put rfl rfl rfl rfl (Or.inl ⟨rfl, rfl⟩) rfl h (fun μ7 h => ?_)
    refine rn_sls 1 (pc' := 45) (ls' := [(0, (2, 1000)), (1, (0, v1))]) (st' := [(0, 1)]) rfl ?_
    exact rn_iretb rfl rfl rfl (Or.inr rfl) h rfl
set_option maxRecDepth 20000 in
theorem t_M_readsElse (d : Nat) : ∀ (v1 : Int) (μ : am_M) q, M_readsElse v1 μ = some q → am_ar g_mt (d + 4) 171 [(2, 1000), (0, v1)] μ (am_res 0 q) := by
  intro v1 μ q h
  unfold M_readsElse at h
  refine am_ar_of (d := d + 3) i_M_readsElse rfl rfl (Nat.le_of_ble_eq_true rfl) ?_
  show am_run none (am_ar g_mt (d + 3)) 2 (some .boolean) k_M_readsElse 0 [(0, (2, 1000)), (1, (0, v1))] [] μ (am_res 0 q)
  refine rn_sls 1 (pc' := 1) (ls' := [(0, (2, 1000)), (1, (0, v1))]) (st' := [(2, 1000)]) rfl ?_
  refine rn_call 0 2 [(2, 1000)] (r := []) rfl ⟨rfl, Or.inl ⟨_, rfl, by decide⟩⟩ (by decide) (fun _ => ⟨_, rfl, rfl⟩) rfl rfl (Nat.le_of_ble_eq_true rfl) h (fun w hw => t_M_nextToken (d + 1)  _ _ hw) (fun a1 μ2 h => ?_)
  refine rn_sls 0 (pc' := 4) (ls' := [(0, (2, 1000)), (1, (0, v1))]) (st' := []) rfl ?_
  refine rn_sls 7 (pc' := 15) (ls' := [(0, (2, 1000)), (1, (0, v1))]) (st' := [(0, 1), (0, (w32 ((μ2 1000 45) - 1))), (2, 1035)]) rfl ?_
  refine rn_bast (n := 3) rfl rfl rfl h (fun μ3 h => ?_)
  refine rn_sls 8 (pc' := 30) (ls' := [(0, (2, 1000)), (1, (0, v1))]) (st' := [(0, (w32 ((μ3 1000 45) - 1))), (2, 1034), (2, 1008)]) rfl ?_
  refine rn_iald (n := 3) rfl rfl rfl h (fun a4 h => ?_)
  refine rn_sls 1 (pc' := 32) (ls' := [(0, (2, 1000)), (1, (0, v1))]) (st' := [(0, v1), (0, a4), (2, 1008)]) rfl ?_
  refine rn_iast (n := 120) rfl rfl rfl h (fun μ5 h => ?_)
  refine rn_sls 1 (pc' := 34) (ls' := [(0, (2, 1000)), (1, (0, v1))]) (st' := [(2, 1000)]) rfl ?_
  refine rn_call 0 0 [(2, 1000)] (r := []) rfl ⟨rfl, Or.inl ⟨_, rfl, by decide⟩⟩ (by decide) (fun _ => ⟨_, rfl, rfl⟩) rfl rfl (Nat.le_of_ble_eq_true rfl) h (fun w hw => t_M_ends (d + 0)  _ _ hw) (fun a6 μ7 h => ?_)
  refine rn_sls 0 (pc' := 37) (ls' := [(0, (2, 1000)), (1, (0, v1))]) (st' := [(0, a6)]) rfl ?_
  exact rn_iretB rfl rfl rfl h rfl
set_option maxRecDepth 20000 in
theorem t_M_readsEnd (d : Nat) : ∀ (v1 : Int) (μ : am_M) q, M_readsEnd v1 μ = some q → am_ar g_mt (d + 4) 172 [(2, 1000), (0, v1)] μ (am_res 0 q) := by
  intro v1 μ q h
  unfold M_readsEnd at h
  refine am_ar_of (d := d + 3) i_M_readsEnd rfl rfl (Nat.le_of_ble_eq_true rfl) ?_
  show am_run none (am_ar g_mt (d + 3)) 2 (some .boolean) k_M_readsEnd 0 [(0, (2, 1000)), (1, (0, v1))] [] μ (am_res 0 q)
  refine rn_sls 1 (pc' := 1) (ls' := [(0, (2, 1000)), (1, (0, v1))]) (st' := [(2, 1000)]) rfl ?_
  refine rn_call 0 2 [(2, 1000)] (r := []) rfl ⟨rfl, Or.inl ⟨_, rfl, by decide⟩⟩ (by decide) (fun _ => ⟨_, rfl, rfl⟩) rfl rfl (Nat.le_of_ble_eq_true rfl) h (fun w hw => t_M_nextToken (d + 1)  _ _ hw) (fun a1 μ2 h => ?_)
  refine rn_sls 0 (pc' := 4) (ls' := [(0, (2, 1000)), (1, (0, v1))]) (st' := []) rfl ?_
  refine rn_sls 5 (pc' := 11) (ls' := [(0, (2, 1000)), (1, (0, v1))]) (st' := [(0, (w32 ((μ2 1000 45) - 1))), (2, 1000)]) rfl ?_
  refine rn_put rfl rfl rfl rfl (Or.inl ⟨rfl, rfl⟩) rfl h (fun μ3 h => ?_)
  refine rn_sls 6 (pc' := 26) (ls' := [(0, (2, 1000)), (1, (0, v1))]) (st' := [(0, (μ3 1000 45)), (2, 1034), (2, 1009)]) rfl ?_
  refine rn_iald (n := 3) rfl rfl rfl h (fun a4 h => ?_)
  refine rn_sls 1 (pc' := 28) (ls' := [(0, (2, 1000)), (1, (0, v1))]) (st' := [(0, v1), (0, a4), (2, 1009)]) rfl ?_
  refine rn_iast (n := 120) rfl rfl rfl h (fun μ5 h => ?_)
  refine rn_sls 8 (pc' := 45) (ls' := [(0, (2, 1000)), (1, (0, v1))]) (st' := [(0, (μ5 1000 45)), (2, 1034), (2, 1008), (2, 1009)]) rfl ?_
  refine rn_iald (n := 3) rfl rfl rfl h (fun a6 h => ?_)
  refine rn_iald (n := 120) rfl rfl rfl h (fun a7 h => ?_)
  refine rn_sls 1 (pc' := 48) (ls' := [(0, (2, 1000)), (1, (0, v1))]) (st' := [(0, v1), (0, a7), (2, 1009)]) rfl ?_
  refine rn_iast (n := 120) rfl rfl rfl h (fun μ8 h => ?_)
  refine rn_sls 1 (pc' := 50) (ls' := [(0, (2, 1000)), (1, (0, v1))]) (st' := [(2, 1000)]) rfl ?_
  refine rn_call 0 0 [(2, 1000)] (r := []) rfl ⟨rfl, Or.inl ⟨_, rfl, by decide⟩⟩ (by decide) (fun _ => ⟨_, rfl, rfl⟩) rfl rfl (Nat.le_of_ble_eq_true rfl) h (fun w hw => t_M_ends (d + 0)  _ _ hw) (fun a9 μ10 h => ?_)
  refine rn_sls 0 (pc' := 53) (ls' := [(0, (2, 1000)), (1, (0, v1))]) (st' := [(0, a9)]) rfl ?_
  exact rn_iretB rfl rfl rfl h rfl
set_option maxRecDepth 20000 in
theorem t_M_readsLet (d : Nat) : ∀ (v1 : Int) (μ : am_M) q, M_readsLet v1 μ = some q → am_ar g_mt (d + 4) 173 [(2, 1000), (0, v1)] μ (am_res 0 q) := by
  intro v1 μ q h
  unfold M_readsLet at h
  refine am_ar_of (d := d + 3) i_M_readsLet rfl rfl (Nat.le_of_ble_eq_true rfl) ?_
  show am_run none (am_ar g_mt (d + 3)) 2 (some .boolean) k_M_readsLet 0 [(0, (2, 1000)), (1, (0, v1))] [] μ (am_res 0 q)
  refine rn_sls 1 (pc' := 1) (ls' := [(0, (2, 1000)), (1, (0, v1))]) (st' := [(2, 1000)]) rfl ?_
  refine rn_call 0 2 [(2, 1000)] (r := []) rfl ⟨rfl, Or.inl ⟨_, rfl, by decide⟩⟩ (by decide) (fun _ => ⟨_, rfl, rfl⟩) rfl rfl (Nat.le_of_ble_eq_true rfl) h (fun w hw => t_M_nextToken (d + 1)  _ _ hw) (fun a1 μ2 h => ?_)
  refine rn_sls 0 (pc' := 4) (ls' := [(0, (2, 1000)), (1, (0, v1))]) (st' := []) rfl ?_
  refine rn_sls 4 (pc' := 10) (ls' := [(0, (2, 1000)), (1, (0, v1))]) (st' := [(2, 1000), (0, v1), (2, 1003)]) rfl ?_
  refine rn_call 0 0 [(2, 1000)] (r := [(0, v1), (2, 1003)]) rfl ⟨rfl, Or.inl ⟨_, rfl, by decide⟩⟩ (by decide) (fun _ => ⟨_, rfl, rfl⟩) rfl rfl (Nat.le_of_ble_eq_true rfl) h (fun w hw => t_M_needsSlip (d + 0)  _ _ hw) (fun a3 μ4 h => ?_)
  refine rn_sls 0 (pc' := 13) (ls' := [(0, (2, 1000)), (1, (0, v1))]) (st' := [(0, a3), (0, v1), (2, 1003)]) rfl ?_
  refine rn_iast (n := 120) rfl rfl rfl h (fun μ5 h => ?_)
  refine rn_sls 3 (pc' := 19) (ls' := [(0, (2, 1000)), (1, (0, v1))]) (st' := [(0, v1), (2, 1003)]) rfl ?_
  refine rn_iald (n := 120) rfl rfl rfl h (fun a6 h => ?_)
  refine rn_ifn (t := 25) rfl rfl rfl rfl h (fun h => ?_) (fun h => ?_)
  · refine rn_sls 1 (pc' := 24) (ls' := [(0, (2, 1000)), (1, (0, v1))]) (st' := [(0, 0)]) rfl ?_
    exact rn_iretb rfl rfl rfl (Or.inl rfl) h rfl
  · refine rn_sls 4 (pc' := 31) (ls' := [(0, (2, 1000)), (1, (0, v1))]) (st' := [(2, 1000), (0, v1), (2, 1005)]) rfl ?_
    refine rn_call 0 0 [(2, 1000)] (r := [(0, v1), (2, 1005)]) rfl ⟨rfl, Or.inl ⟨_, rfl, by decide⟩⟩ (by decide) (fun _ => ⟨_, rfl, rfl⟩) rfl rfl (Nat.le_of_ble_eq_true rfl) h (fun w hw => t_M_kindAt (d + 1)  _ _ hw) (fun a7 μ8 h => ?_)
    refine rn_sls 0 (pc' := 34) (ls' := [(0, (2, 1000)), (1, (0, v1))]) (st' := [(0, a7), (0, v1), (2, 1005)]) rfl ?_
    refine rn_iast (n := 120) rfl rfl rfl h (fun μ9 h => ?_)
    refine rn_sls 3 (pc' := 40) (ls' := [(0, (2, 1000)), (1, (0, v1))]) (st' := [(0, v1), (2, 1005)]) rfl ?_
    refine rn_iald (n := 120) rfl rfl rfl h (fun a10 h => ?_)
    refine rn_ifn (t := 50) rfl rfl rfl rfl h (fun h => ?_) (fun h => ?_)
    · refine rn_sls 2 (pc' := 46) (ls' := [(0, (2, 1000)), (1, (0, v1))]) (st' := [(0, 1), (2, 1000)]) rfl ?_
      refine rn_call 0 0 [(2, 1000), (0, 1)] (r := []) rfl ⟨rfl, Or.inl ⟨_, rfl, by decide⟩⟩ (by decide) (fun _ => ⟨_, rfl, rfl⟩) rfl rfl (Nat.le_of_ble_eq_true rfl) h (fun w hw => t_M_fails (d + 2) _ _ _ hw) (fun a15 μ16 h => ?_)
      refine rn_sls 0 (pc' := 49) (ls' := [(0, (2, 1000)), (1, (0, v1))]) (st' := [(0, a15)]) rfl ?_
      exact rn_iretB rfl rfl rfl h rfl
    · refine rn_sls 1 (pc' := 51) (ls' := [(0, (2, 1000)), (1, (0, v1))]) (st' := [(2, 1000)]) rfl ?_
      refine rn_call 0 2 [(2, 1000)] (r := []) rfl ⟨rfl, Or.inl ⟨_, rfl, by decide⟩⟩ (by decide) (fun _ => ⟨_, rfl, rfl⟩) rfl rfl (Nat.le_of_ble_eq_true rfl) h (fun w hw => t_M_nextToken (d + 1)  _ _ hw) (fun a11 μ12 h => ?_)
      refine rn_sls 0 (pc' := 54) (ls' := [(0, (2, 1000)), (1, (0, v1))]) (st' := []) rfl ?_
      refine rn_sls 2 (pc' := 56) (ls' := [(0, (2, 1000)), (1, (0, v1))]) (st' := [(0, v1), (2, 1000)]) rfl ?_
      refine rn_call 0 0 [(2, 1000), (0, v1)] (r := []) rfl ⟨rfl, Or.inl ⟨_, rfl, by decide⟩⟩ (by decide) (fun _ => ⟨_, rfl, rfl⟩) rfl rfl (Nat.le_of_ble_eq_true rfl) h (fun w hw => t_M_readsE (d + 0) _ _ _ hw) (fun a13 μ14 h => ?_)
      refine rn_sls 0 (pc' := 59) (ls' := [(0, (2, 1000)), (1, (0, v1))]) (st' := [(0, a13)]) rfl ?_
      exact rn_iretB rfl rfl rfl h rfl
