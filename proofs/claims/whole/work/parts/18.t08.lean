/-! The code does what the functions say. Printed by program. -/
set_option maxRecDepth 20000 in
theorem t_M_reads_B54 (d : Nat) : ∀ (s1 : Int) (s2 : Int) (s3 : Int) (s4 : Int) (μ : am_M) q, M_reads_B54 s1 s2 s3 s4 μ = some q → am_run none (am_ar g_mt (d + 66)) 4 (some .int) k_M_reads 54 [] [(0, s4), (0, s3), (0, s2), (0, s1), (2, 1000)] μ (am_res 0 q) := by
  intro s1 s2 s3 s4 μ q h
  unfold M_reads_B54 at h
  refine rn_call 0 0 [(2, 1000), (0, s1), (0, s2), (0, s3), (0, s4)] (r := []) rfl ⟨rfl, Or.inl ⟨_, rfl, by decide⟩⟩ (by decide) (fun _ => ⟨_, rfl, rfl⟩) rfl rfl (Nat.le_of_ble_eq_true rfl) h (fun w hw => am_ar_mono (by omega) (t_M_haveIn 0 64 _ _ _ _ _ _ hw)) (fun a1 μ2 h => ?_)
  refine rn_sls 0 (pc' := 57) (ls' := []) (st' := [(0, a1)]) rfl ?_
  refine rn_goto (t := 61) rfl rfl rfl ?_
  exact rn_ireti rfl rfl rfl h rfl
set_option maxRecDepth 20000 in
theorem t_M_reads (d : Nat) : ∀ (v1 : Int) (v2 : Int) (v3 : Int) (μ : am_M) q, M_reads v1 v2 v3 μ = some q → am_ar g_mt (d + 67) 223 [(2, 1000), (0, v1), (0, v2), (0, v3)] μ (am_res 0 q) := by
  intro v1 v2 v3 μ q h
  unfold M_reads at h
  refine am_ar_of (d := d + 66) i_M_reads rfl rfl (Nat.le_of_ble_eq_true rfl) ?_
  show am_run none (am_ar g_mt (d + 66)) 4 (some .int) k_M_reads 0 [(0, (2, 1000)), (1, (0, v1)), (2, (0, v2)), (3, (0, v3))] [] μ (am_res 0 q)
  refine rn_sls 2 (pc' := 2) (ls' := [(0, (2, 1000)), (1, (0, v1)), (2, (0, v2)), (3, (0, v3))]) (st' := [(0, 0), (2, 1000)]) rfl ?_
  refine rn_put rfl rfl rfl rfl (Or.inl ⟨rfl, rfl⟩) rfl h (fun μ1 h => ?_)
  refine rn_sls 2 (pc' := 7) (ls' := [(0, (2, 1000)), (1, (0, v1)), (2, (0, v2)), (3, (0, v3))]) (st' := [(0, v1), (2, 1000)]) rfl ?_
  refine rn_call 0 0 [(2, 1000), (0, v1)] (r := []) rfl ⟨rfl, Or.inl ⟨_, rfl, by decide⟩⟩ (by decide) (fun _ => ⟨_, rfl, rfl⟩) rfl rfl (Nat.le_of_ble_eq_true rfl) h (fun w hw => t_M_isBill (d + 65) _ _ _ hw) (fun a2 μ3 h => ?_)
  refine rn_sls 0 (pc' := 10) (ls' := [(0, (2, 1000)), (1, (0, v1)), (2, (0, v2)), (3, (0, v3))]) (st' := [(0, a2)]) rfl ?_
  refine rn_if (t := 60) rfl rfl rfl rfl h (fun h => ?_) (fun h => ?_)
  · refine rn_sls 1 (pc' := 61) (ls' := [(0, (2, 1000)), (1, (0, v1)), (2, (0, v2)), (3, (0, v3))]) (st' := [(0, (-1))]) rfl ?_
    exact rn_ireti rfl rfl rfl h rfl
  · refine rn_sls 3 (pc' := 16) (ls' := [(0, (2, 1000)), (1, (0, v1)), (2, (0, v2)), (3, (0, v3))]) (st' := [(0, v2), (0, v1), (2, 1000)]) rfl ?_
    refine rn_call 0 0 [(2, 1000), (0, v1), (0, v2)] (r := []) rfl ⟨rfl, Or.inl ⟨_, rfl, by decide⟩⟩ (by decide) (fun _ => ⟨_, rfl, rfl⟩) rfl rfl (Nat.le_of_ble_eq_true rfl) h (fun w hw => t_M_isSlip (d + 65) _ _ _ _ hw) (fun a4 μ5 h => ?_)
    refine rn_sls 0 (pc' := 19) (ls' := [(0, (2, 1000)), (1, (0, v1)), (2, (0, v2)), (3, (0, v3))]) (st' := [(0, a4)]) rfl ?_
    refine rn_if (t := 60) rfl rfl rfl rfl h (fun h => ?_) (fun h => ?_)
    · refine rn_sls 1 (pc' := 61) (ls' := [(0, (2, 1000)), (1, (0, v1)), (2, (0, v2)), (3, (0, v3))]) (st' := [(0, (-1))]) rfl ?_
      exact rn_ireti rfl rfl rfl h rfl
    · refine rn_sls 3 (pc' := 25) (ls' := [(0, (2, 1000)), (1, (0, v1)), (2, (0, v2)), (3, (0, v3))]) (st' := [(0, 1), (0, 0), (0, v3)]) rfl ?_
      refine rn_call 2 0 [(0, v3), (0, 0), (0, 1)] (r := []) rfl ⟨rfl, Or.inr ⟨_, rfl, by decide⟩⟩ (by decide) (fun z => absurd z (by decide)) rfl rfl (Nat.le_of_ble_eq_true rfl) h (fun w hw => t_M_within (d + 65) _ _ _ _ _ hw) (fun a6 μ7 h => ?_)
      refine rn_sls 0 (pc' := 28) (ls' := [(0, (2, 1000)), (1, (0, v1)), (2, (0, v2)), (3, (0, v3))]) (st' := [(0, a6)]) rfl ?_
      refine rn_if (t := 60) rfl rfl rfl rfl h (fun h => ?_) (fun h => ?_)
      · refine rn_sls 1 (pc' := 61) (ls' := [(0, (2, 1000)), (1, (0, v1)), (2, (0, v2)), (3, (0, v3))]) (st' := [(0, (-1))]) rfl ?_
        exact rn_ireti rfl rfl rfl h rfl
      · refine rn_sls 4 (pc' := 37) (ls' := [(0, (2, 1000)), (1, (0, v1)), (2, (0, v2)), (3, (0, v3))]) (st' := [(0, v1), (2, 1017), (2, 1000)]) rfl ?_
        refine rn_iald (n := 8) rfl rfl rfl h (fun a8 h => ?_)
        refine rn_sls 2 (pc' := 40) (ls' := [(0, (2, 1000)), (1, (0, v1)), (2, (0, v2)), (3, (0, v3))]) (st' := [(0, v1), (2, 1000), (0, a8), (2, 1000)]) rfl ?_
        refine rn_call 0 0 [(2, 1000), (0, v1)] (r := [(0, a8), (2, 1000)]) rfl ⟨rfl, Or.inl ⟨_, rfl, by decide⟩⟩ (by decide) (fun _ => ⟨_, rfl, rfl⟩) rfl rfl (Nat.le_of_ble_eq_true rfl) h (fun w hw => t_M_lastLine (d + 65) _ _ _ hw) (fun a9 μ10 h => ?_)
        refine rn_sls 0 (pc' := 43) (ls' := [(0, (2, 1000)), (1, (0, v1)), (2, (0, v2)), (3, (0, v3))]) (st' := [(0, a9), (0, a8), (2, 1000)]) rfl ?_
        refine rn_sls 3 (pc' := 46) (ls' := [(0, (2, 1000)), (1, (0, v1)), (2, (0, v2)), (3, (0, v3))]) (st' := [(0, 1), (0, v3), (0, v2), (0, a9), (0, a8), (2, 1000)]) rfl ?_
        refine rn_icmpn (t := 53) rfl rfl rfl rfl h (fun h => ?_) (fun h => ?_)
        · refine rn_sls 1 (pc' := 50) (ls' := [(0, (2, 1000)), (1, (0, v1)), (2, (0, v2)), (3, (0, v3))]) (st' := [(0, 1), (0, v2), (0, a9), (0, a8), (2, 1000)]) rfl ?_
          refine rn_goto (t := 54) rfl rfl rfl ?_
          exact rn_sub [] rfl (t_M_reads_B54 d  _ _ _ _ _ _ h)
        · refine rn_sls 1 (pc' := 54) (ls' := [(0, (2, 1000)), (1, (0, v1)), (2, (0, v2)), (3, (0, v3))]) (st' := [(0, 0), (0, v2), (0, a9), (0, a8), (2, 1000)]) rfl ?_
          exact rn_sub [] rfl (t_M_reads_B54 d  _ _ _ _ _ _ h)
set_option maxRecDepth 20000 in
theorem t_M_counts_L2_b (d : Nat) (k2 : Int → Int → Int → am_M → am_O) (hk2 : ∀ (v1 : Int) (v2 : Int) (v3 : Int) (μ : am_M) q, k2 v1 v2 v3 μ = some q → am_run none (am_ar g_mt (d + 2)) 4 none k_M_counts 2 [(0, (2, 1000)), (1, (0, v1)), (2, (0, v2)), (3, (0, v3))] [] μ (am_res 2 q)) : ∀ (v1 : Int) (v2 : Int) (v3 : Int) (μ : am_M) q, M_counts_L2_b k2 v1 v2 v3 μ = some q → am_run none (am_ar g_mt (d + 2)) 4 none k_M_counts 2 [(0, (2, 1000)), (1, (0, v1)), (2, (0, v2)), (3, (0, v3))] [] μ (am_res 2 q) := by
  intro v1 v2 v3 μ q h
  unfold M_counts_L2_b at h
  refine rn_sls 2 (pc' := 5) (ls' := [(0, (2, 1000)), (1, (0, v1)), (2, (0, v2)), (3, (0, v3))]) (st' := [(0, 10), (0, v3)]) rfl ?_
  refine rn_icmpn (t := 38) rfl rfl rfl rfl h (fun h => ?_) (fun h => ?_)
  · refine rn_sls 4 (pc' := 14) (ls' := [(0, (2, 1000)), (1, (0, v1)), (2, (0, v2)), (3, (0, v3))]) (st' := [(0, v3), (2, 1052), (0, v3), (2, 1052)]) rfl ?_
    refine rn_iald (n := 10) rfl rfl rfl h (fun a1 h => ?_)
    refine rn_sls 4 (pc' := 19) (ls' := [(0, (2, 1000)), (1, (0, v1)), (2, (0, v2)), (3, (0, v3))]) (st' := [(0, v3), (0, v1), (2, 1000), (0, v2), (0, a1), (0, v3), (2, 1052)]) rfl ?_
    refine rn_call 0 0 [(2, 1000), (0, v1), (0, v3)] (r := [(0, v2), (0, a1), (0, v3), (2, 1052)]) rfl ⟨rfl, Or.inl ⟨_, rfl, by decide⟩⟩ (by decide) (fun _ => ⟨_, rfl, rfl⟩) rfl rfl (Nat.le_of_ble_eq_true rfl) h (fun w hw => t_M_readsOf (d + 0) _ _ _ _ hw) (fun a2 μ3 h => ?_)
    refine rn_sls 0 (pc' := 22) (ls' := [(0, (2, 1000)), (1, (0, v1)), (2, (0, v2)), (3, (0, v3))]) (st' := [(0, a2), (0, v2), (0, a1), (0, v3), (2, 1052)]) rfl ?_
    refine rn_sls 3 (pc' := 25) (ls' := [(0, (2, 1000)), (1, (0, v1)), (2, (0, v2)), (3, (0, v3))]) (st' := [(0, v3), (0, v1), (2, 1000), (0, a2), (0, v2), (0, a1), (0, v3), (2, 1052)]) rfl ?_
    refine rn_call 0 0 [(2, 1000), (0, v1), (0, v3)] (r := [(0, a2), (0, v2), (0, a1), (0, v3), (2, 1052)]) rfl ⟨rfl, Or.inl ⟨_, rfl, by decide⟩⟩ (by decide) (fun _ => ⟨_, rfl, rfl⟩) rfl rfl (Nat.le_of_ble_eq_true rfl) h (fun w hw => t_M_laysOf (d + 1) _ _ _ _ hw) (fun a4 μ5 h => ?_)
    refine rn_sls 0 (pc' := 28) (ls' := [(0, (2, 1000)), (1, (0, v1)), (2, (0, v2)), (3, (0, v3))]) (st' := [(0, a4), (0, a2), (0, v2), (0, a1), (0, v3), (2, 1052)]) rfl ?_
    refine rn_sls 3 (pc' := 31) (ls' := [(0, (2, 1000)), (1, (0, v1)), (2, (0, v2)), (3, (0, v3))]) (st' := [(0, (w32 (a1 + (w32 (v2 * (w32 (a2 - a4))))))), (0, v3), (2, 1052)]) rfl ?_
    refine rn_iast (n := 10) rfl rfl rfl h (fun μ6 h => ?_)
    refine rn_sls 1 (pc' := 35) (ls' := [(3, (0, (w32 (v3 + 1)))), (0, (2, 1000)), (1, (0, v1)), (2, (0, v2))]) (st' := []) rfl ?_
    refine rn_goto (t := 2) rfl rfl rfl ?_
    exact rn_sub [1, 2, 3, 0] rfl (hk2 _ _ _ _ _ h)
  · exact rn_ret (v := 0) rfl rfl rfl h rfl
set_option maxRecDepth 20000 in
theorem t_M_counts_L2 (d : Nat) : ∀ (n : Nat) (v1 : Int) (v2 : Int) (v3 : Int) (μ : am_M) q, M_counts_L2 n v1 v2 v3 μ = some q → am_run none (am_ar g_mt (d + 2)) 4 none k_M_counts 2 [(0, (2, 1000)), (1, (0, v1)), (2, (0, v2)), (3, (0, v3))] [] μ (am_res 2 q) := by
  intro n
  induction n with
  | zero => intro v1 v2 v3 μ q h; cases h
  | succ n ih => intro v1 v2 v3 μ q h; exact t_M_counts_L2_b d (M_counts_L2 n) ih v1 v2 v3 μ q h
set_option maxRecDepth 20000 in
theorem t_M_counts (d : Nat) : ∀ (v1 : Int) (v2 : Int) (μ : am_M) q, M_counts v1 v2 μ = some q → am_ar g_mt (d + 3) 224 [(2, 1000), (0, v1), (0, v2)] μ (am_res 2 q) := by
  intro v1 v2 μ q h
  unfold M_counts at h
  refine am_ar_of (d := d + 2) i_M_counts rfl rfl (Nat.le_of_ble_eq_true rfl) ?_
  show am_run none (am_ar g_mt (d + 2)) 4 none k_M_counts 0 [(0, (2, 1000)), (1, (0, v1)), (2, (0, v2))] [] μ (am_res 2 q)
  refine rn_sls 2 (pc' := 2) (ls' := [(3, (0, 0)), (0, (2, 1000)), (1, (0, v1)), (2, (0, v2))]) (st' := []) rfl ?_
  exact rn_sub [1, 2, 3, 0] rfl (t_M_counts_L2 d  am_FU _ _ _ _ _ h)
set_option maxRecDepth 20000 in
theorem t_M_walks_B57 (d : Nat) (rec : Int → Int → am_M → am_O) (hrec : ∀ (v1 : Int) (v2 : Int) (μ : am_M) q, rec v1 v2 μ = some q → am_ar g_mt (d + 3) 225 [(2, 1000), (0, v1), (0, v2)] μ (am_res 2 q)) (k5 : Int → Int → Int → am_M → am_O) (hk5 : ∀ (v2 : Int) (v3 : Int) (v4 : Int) (μ : am_M) q, k5 v2 v3 v4 μ = some q → am_run none (am_ar g_mt (d + 3)) 7 none k_M_walks 5 [(0, (2, 1000)), (2, (0, v2)), (3, (0, v3)), (4, (0, v4))] [] μ (am_res 2 q)) : ∀ (v2 : Int) (v4 : Int) (s0 : Int) (μ : am_M) q, M_walks_B57 rec k5 v2 v4 s0 μ = some q → am_run none (am_ar g_mt (d + 3)) 7 none k_M_walks 57 [(0, (2, 1000)), (2, (0, v2)), (4, (0, v4))] [(0, s0)] μ (am_res 2 q) := by
  intro v2 v4 s0 μ q h
  unfold M_walks_B57 at h
  refine rn_sls 1 (pc' := 58) (ls' := [(3, (0, s0)), (0, (2, 1000)), (2, (0, v2)), (4, (0, v4))]) (st' := []) rfl ?_
  refine rn_goto (t := 5) rfl rfl rfl ?_
  exact rn_sub [1, 2, 0, 3] rfl (hk5 _ _ _ _ _ h)
set_option maxRecDepth 20000 in
theorem t_M_walks_B160 (d : Nat) (rec : Int → Int → am_M → am_O) (hrec : ∀ (v1 : Int) (v2 : Int) (μ : am_M) q, rec v1 v2 μ = some q → am_ar g_mt (d + 3) 225 [(2, 1000), (0, v1), (0, v2)] μ (am_res 2 q)) (k107 : Int → Int → Int → Int → Int → am_M → am_O) (hk107 : ∀ (v2 : Int) (v3 : Int) (v4 : Int) (v5 : Int) (v6 : Int) (μ : am_M) q, k107 v2 v3 v4 v5 v6 μ = some q → am_run none (am_ar g_mt (d + 3)) 7 none k_M_walks 107 [(0, (2, 1000)), (2, (0, v2)), (3, (0, v3)), (4, (0, v4)), (5, (0, v5)), (6, (0, v6))] [] μ (am_res 2 q)) : ∀ (v2 : Int) (v3 : Int) (v4 : Int) (v6 : Int) (s0 : Int) (s1 : Int) (μ : am_M) q, M_walks_B160 rec k107 v2 v3 v4 v6 s0 s1 μ = some q → am_run none (am_ar g_mt (d + 3)) 7 none k_M_walks 160 [(0, (2, 1000)), (2, (0, v2)), (3, (0, v3)), (4, (0, v4)), (6, (0, v6))] [(0, s1), (0, s0)] μ (am_res 2 q) := by
  intro v2 v3 v4 v6 s0 s1 μ q h
  unfold M_walks_B160 at h
  refine rn_sls 3 (pc' := 166) (ls' := [(6, (0, (w32 (v6 + 1)))), (5, (0, (w32 (s0 + s1)))), (0, (2, 1000)), (2, (0, v2)), (3, (0, v3)), (4, (0, v4))]) (st' := []) rfl ?_
  refine rn_goto (t := 107) rfl rfl rfl ?_
  exact rn_sub [2, 3, 4, 5, 1, 0] rfl (hk107 _ _ _ _ _ _ _ h)
set_option maxRecDepth 20000 in
theorem t_M_walks_B246 (d : Nat) (rec : Int → Int → am_M → am_O) (hrec : ∀ (v1 : Int) (v2 : Int) (μ : am_M) q, rec v1 v2 μ = some q → am_ar g_mt (d + 3) 225 [(2, 1000), (0, v1), (0, v2)] μ (am_res 2 q)) (k205 : Int → Int → am_M → am_O) (hk205 : ∀ (v3 : Int) (v5 : Int) (μ : am_M) q, k205 v3 v5 μ = some q → am_run none (am_ar g_mt (d + 3)) 7 none k_M_walks 205 [(0, (2, 1000)), (3, (0, v3)), (5, (0, v5))] [] μ (am_res 2 q)) : ∀ (v3 : Int) (s0 : Int) (μ : am_M) q, M_walks_B246 rec k205 v3 s0 μ = some q → am_run none (am_ar g_mt (d + 3)) 7 none k_M_walks 246 [(0, (2, 1000)), (3, (0, v3))] [(0, s0)] μ (am_res 2 q) := by
  intro v3 s0 μ q h
  unfold M_walks_B246 at h
  refine rn_sls 1 (pc' := 248) (ls' := [(5, (0, s0)), (0, (2, 1000)), (3, (0, v3))]) (st' := []) rfl ?_
  refine rn_goto (t := 205) rfl rfl rfl ?_
  exact rn_sub [1, 2, 0] rfl (hk205 _ _ _ _ h)
set_option maxRecDepth 20000 in
theorem t_M_walks_L205_b (d : Nat) (rec : Int → Int → am_M → am_O) (hrec : ∀ (v1 : Int) (v2 : Int) (μ : am_M) q, rec v1 v2 μ = some q → am_ar g_mt (d + 3) 225 [(2, 1000), (0, v1), (0, v2)] μ (am_res 2 q)) (k205 : Int → Int → am_M → am_O) (hk205 : ∀ (v3 : Int) (v5 : Int) (μ : am_M) q, k205 v3 v5 μ = some q → am_run none (am_ar g_mt (d + 3)) 7 none k_M_walks 205 [(0, (2, 1000)), (3, (0, v3)), (5, (0, v5))] [] μ (am_res 2 q)) : ∀ (v3 : Int) (v5 : Int) (μ : am_M) q, M_walks_L205_b rec k205 v3 v5 μ = some q → am_run none (am_ar g_mt (d + 3)) 7 none k_M_walks 205 [(0, (2, 1000)), (3, (0, v3)), (5, (0, v5))] [] μ (am_res 2 q) := by
  intro v3 v5 μ q h
  unfold M_walks_L205_b at h
  refine rn_sls 2 (pc' := 208) (ls' := [(0, (2, 1000)), (3, (0, v3)), (5, (0, v5))]) (st' := [(0, v3), (0, v5)]) rfl ?_
  refine rn_icmp (t := 251) rfl rfl rfl rfl h (fun h => ?_) (fun h => ?_)
  · exact rn_ret (v := 0) rfl rfl rfl h rfl
  · refine rn_sls 3 (pc' := 215) (ls' := [(0, (2, 1000)), (3, (0, v3)), (5, (0, v5))]) (st' := [(0, (-1)), (0, v5), (2, 1000)]) rfl ?_
    refine rn_call 0 2 [(2, 1000), (0, v5), (0, (-1))] (r := []) rfl ⟨rfl, Or.inl ⟨_, rfl, by decide⟩⟩ (by decide) (fun _ => ⟨_, rfl, rfl⟩) rfl rfl (Nat.le_of_ble_eq_true rfl) h (fun w hw => t_M_counts (d + 0) _ _ _ _ hw) (fun a1 μ2 h => ?_)
    refine rn_sls 0 (pc' := 218) (ls' := [(0, (2, 1000)), (3, (0, v3)), (5, (0, v5))]) (st' := []) rfl ?_
    refine rn_sls 3 (pc' := 224) (ls' := [(0, (2, 1000)), (3, (0, v3)), (5, (0, v5))]) (st' := [(0, v5), (2, 1002)]) rfl ?_
    refine rn_iald (n := 120) rfl rfl rfl h (fun a3 h => ?_)
    refine rn_sls 1 (pc' := 227) (ls' := [(0, (2, 1000)), (3, (0, v3)), (5, (0, v5))]) (st' := [(0, 6), (0, a3)]) rfl ?_
    refine rn_icmpn (t := 242) rfl rfl rfl rfl h (fun h => ?_) (fun h => ?_)
    · refine rn_sls 3 (pc' := 236) (ls' := [(0, (2, 1000)), (3, (0, v3)), (5, (0, v5))]) (st' := [(0, v5), (2, 1009)]) rfl ?_
      refine rn_iald (n := 120) rfl rfl rfl h (fun a4 h => ?_)
      refine rn_sls 2 (pc' := 239) (ls' := [(0, (2, 1000)), (3, (0, v3)), (5, (0, v5))]) (st' := [(0, (w32 (a4 + 1)))]) rfl ?_
      refine rn_goto (t := 246) rfl rfl rfl ?_
      exact rn_sub [0, 1] rfl (t_M_walks_B246 d rec hrec k205 hk205 _ _ _ _ h)
    · refine rn_sls 3 (pc' := 246) (ls' := [(0, (2, 1000)), (3, (0, v3)), (5, (0, v5))]) (st' := [(0, (w32 (v5 + 1)))]) rfl ?_
      exact rn_sub [0, 1] rfl (t_M_walks_B246 d rec hrec k205 hk205 _ _ _ _ h)
set_option maxRecDepth 20000 in
theorem t_M_walks_L205 (d : Nat) (rec : Int → Int → am_M → am_O) (hrec : ∀ (v1 : Int) (v2 : Int) (μ : am_M) q, rec v1 v2 μ = some q → am_ar g_mt (d + 3) 225 [(2, 1000), (0, v1), (0, v2)] μ (am_res 2 q)) : ∀ (n : Nat) (v3 : Int) (v5 : Int) (μ : am_M) q, M_walks_L205 rec n v3 v5 μ = some q → am_run none (am_ar g_mt (d + 3)) 7 none k_M_walks 205 [(0, (2, 1000)), (3, (0, v3)), (5, (0, v5))] [] μ (am_res 2 q) := by
  intro n
  induction n with
  | zero => intro v3 v5 μ q h; cases h
  | succ n ih => intro v3 v5 μ q h; exact t_M_walks_L205_b d rec hrec (M_walks_L205 rec n) ih v3 v5 μ q h
set_option maxRecDepth 20000 in
theorem t_M_walks_B195 (d : Nat) (rec : Int → Int → am_M → am_O) (hrec : ∀ (v1 : Int) (v2 : Int) (μ : am_M) q, rec v1 v2 μ = some q → am_ar g_mt (d + 3) 225 [(2, 1000), (0, v1), (0, v2)] μ (am_res 2 q)) : ∀ (v3 : Int) (v4 : Int) (μ : am_M) q, M_walks_B195 rec v3 v4 μ = some q → am_run none (am_ar g_mt (d + 3)) 7 none k_M_walks 195 [(0, (2, 1000)), (3, (0, v3)), (4, (0, v4))] [] μ (am_res 2 q) := by
  intro v3 v4 μ q h
  unfold M_walks_B195 at h
  refine rn_sls 3 (pc' := 198) (ls' := [(0, (2, 1000)), (3, (0, v3)), (4, (0, v4))]) (st' := [(0, (-1)), (0, v3), (2, 1000)]) rfl ?_
  refine rn_call 0 2 [(2, 1000), (0, v3), (0, (-1))] (r := []) rfl ⟨rfl, Or.inl ⟨_, rfl, by decide⟩⟩ (by decide) (fun _ => ⟨_, rfl, rfl⟩) rfl rfl (Nat.le_of_ble_eq_true rfl) h (fun w hw => t_M_counts (d + 0) _ _ _ _ hw) (fun a1 μ2 h => ?_)
  refine rn_sls 0 (pc' := 201) (ls' := [(0, (2, 1000)), (3, (0, v3)), (4, (0, v4))]) (st' := []) rfl ?_
  refine rn_sls 2 (pc' := 205) (ls' := [(5, (0, v4)), (0, (2, 1000)), (3, (0, v3)), (4, (0, v4))]) (st' := []) rfl ?_
  exact rn_sub [1, 2, 0] rfl (t_M_walks_L205 d rec hrec  am_FU _ _ _ _ h)
set_option maxRecDepth 20000 in
theorem t_M_walks_L107_b (d : Nat) (rec : Int → Int → am_M → am_O) (hrec : ∀ (v1 : Int) (v2 : Int) (μ : am_M) q, rec v1 v2 μ = some q → am_ar g_mt (d + 3) 225 [(2, 1000), (0, v1), (0, v2)] μ (am_res 2 q)) (k107 : Int → Int → Int → Int → Int → am_M → am_O) (hk107 : ∀ (v2 : Int) (v3 : Int) (v4 : Int) (v5 : Int) (v6 : Int) (μ : am_M) q, k107 v2 v3 v4 v5 v6 μ = some q → am_run none (am_ar g_mt (d + 3)) 7 none k_M_walks 107 [(0, (2, 1000)), (2, (0, v2)), (3, (0, v3)), (4, (0, v4)), (5, (0, v5)), (6, (0, v6))] [] μ (am_res 2 q)) : ∀ (v2 : Int) (v3 : Int) (v4 : Int) (v5 : Int) (v6 : Int) (μ : am_M) q, M_walks_L107_b rec k107 v2 v3 v4 v5 v6 μ = some q → am_run none (am_ar g_mt (d + 3)) 7 none k_M_walks 107 [(0, (2, 1000)), (2, (0, v2)), (3, (0, v3)), (4, (0, v4)), (5, (0, v5)), (6, (0, v6))] [] μ (am_res 2 q) := by
  intro v2 v3 v4 v5 v6 μ q h
  unfold M_walks_L107_b at h
  refine rn_sls 2 (pc' := 111) (ls' := [(0, (2, 1000)), (2, (0, v2)), (3, (0, v3)), (4, (0, v4)), (5, (0, v5)), (6, (0, v6))]) (st' := [(0, 10), (0, v6)]) rfl ?_
  refine rn_icmpn (t := 169) rfl rfl rfl rfl h (fun h => ?_) (fun h => ?_)
  · refine rn_sls 2 (pc' := 117) (ls' := [(0, (2, 1000)), (2, (0, v2)), (3, (0, v3)), (4, (0, v4)), (5, (0, v5)), (6, (0, v6))]) (st' := [(0, v2), (0, v5)]) rfl ?_
    refine rn_if (t := 134) rfl rfl rfl rfl h (fun h => ?_) (fun h => ?_)
    · refine rn_sls 3 (pc' := 140) (ls' := [(0, (2, 1000)), (2, (0, v2)), (3, (0, v3)), (4, (0, v4)), (5, (0, v5)), (6, (0, v6))]) (st' := [(0, v6), (2, 1053), (0, v5)]) rfl ?_
      refine rn_bald (n := 10) rfl rfl rfl h (fun a5 h => ?_)
      refine rn_if (t := 159) rfl rfl rfl rfl h (fun h => ?_) (fun h => ?_)
      · refine rn_sls 1 (pc' := 160) (ls' := [(0, (2, 1000)), (2, (0, v2)), (3, (0, v3)), (4, (0, v4)), (5, (0, v5)), (6, (0, v6))]) (st' := [(0, 0), (0, v5)]) rfl ?_
        exact rn_sub [0, 1, 2, 3, 5] rfl (t_M_walks_B160 d rec hrec k107 hk107 _ _ _ _ _ _ _ _ h)
      · refine rn_sls 4 (pc' := 151) (ls' := [(0, (2, 1000)), (2, (0, v2)), (3, (0, v3)), (4, (0, v4)), (5, (0, v5)), (6, (0, v6))]) (st' := [(0, v6), (2, 1052), (0, 0), (0, v5)]) rfl ?_
        refine rn_iald (n := 10) rfl rfl rfl h (fun a6 h => ?_)
        refine rn_sls 1 (pc' := 153) (ls' := [(0, (2, 1000)), (2, (0, v2)), (3, (0, v3)), (4, (0, v4)), (5, (0, v5)), (6, (0, v6))]) (st' := [(0, (w32 (-a6))), (0, 0), (0, v5)]) rfl ?_
        refine rn_max rfl ⟨rfl, Or.inr ⟨_, rfl, by decide⟩⟩ rfl (Nat.le_of_ble_eq_true rfl) ?_
        refine rn_nm (ls := fun x => [(0, (2, 1000)), (2, (0, v2)), (3, (0, v3)), (4, (0, v4)), (5, (0, v5)), (6, (0, v6))]) (st := fun x => [(0, x), (0, v5)]) h (fun a7 h => ?_)
        refine rn_goto (t := 160) rfl rfl rfl ?_
        exact rn_sub [0, 1, 2, 3, 5] rfl (t_M_walks_B160 d rec hrec k107 hk107 _ _ _ _ _ _ _ _ h)
    · refine rn_sls 4 (pc' := 127) (ls' := [(0, (2, 1000)), (2, (0, v2)), (3, (0, v3)), (4, (0, v4)), (5, (0, v5)), (6, (0, v6))]) (st' := [(0, v6), (2, 1052), (0, 0), (0, v5)]) rfl ?_
      refine rn_iald (n := 10) rfl rfl rfl h (fun a8 h => ?_)
      refine rn_max rfl ⟨rfl, Or.inr ⟨_, rfl, by decide⟩⟩ rfl (Nat.le_of_ble_eq_true rfl) ?_
      refine rn_nm (ls := fun x => [(0, (2, 1000)), (2, (0, v2)), (3, (0, v3)), (4, (0, v4)), (5, (0, v5)), (6, (0, v6))]) (st := fun x => [(0, x), (0, v5)]) h (fun a9 h => ?_)
      refine rn_goto (t := 160) rfl rfl rfl ?_
      exact rn_sub [0, 1, 2, 3, 5] rfl (t_M_walks_B160 d rec hrec k107 hk107 _ _ _ _ _ _ _ _ h)
  · refine rn_sls 4 (pc' := 176) (ls' := [(0, (2, 1000)), (2, (0, v2)), (3, (0, v3)), (4, (0, v4)), (5, (0, v5)), (6, (0, v6))]) (st' := [(0, v5), (0, (μ 1000 77)), (2, 1000)]) rfl ?_
    refine rn_min rfl ⟨rfl, Or.inr ⟨_, rfl, by decide⟩⟩ rfl (Nat.le_of_ble_eq_true rfl) ?_
    refine rn_nm (ls := fun x => [(0, (2, 1000)), (2, (0, v2)), (3, (0, v3)), (4, (0, v4)), (5, (0, v5)), (6, (0, v6))]) (st := fun x => [(0, x), (2, 1000)]) h (fun a1 h => ?_)
    refine rn_put rfl rfl rfl rfl (Or.inl ⟨rfl, rfl⟩) rfl h (fun μ2 h => ?_)
    refine rn_sls 4 (pc' := 189) (ls' := [(0, (2, 1000)), (2, (0, v2)), (3, (0, v3)), (4, (0, v4)), (5, (0, v5)), (6, (0, v6))]) (st' := [(0, v5), (0, (μ2 1000 78)), (2, 1000)]) rfl ?_
    refine rn_max rfl ⟨rfl, Or.inr ⟨_, rfl, by decide⟩⟩ rfl (Nat.le_of_ble_eq_true rfl) ?_
    refine rn_nm (ls := fun x => [(0, (2, 1000)), (2, (0, v2)), (3, (0, v3)), (4, (0, v4)), (5, (0, v5)), (6, (0, v6))]) (st := fun x => [(0, x), (2, 1000)]) h (fun a3 h => ?_)
    refine rn_put rfl rfl rfl rfl (Or.inl ⟨rfl, rfl⟩) rfl h (fun μ4 h => ?_)
    exact rn_sub [0, 2, 3] rfl (t_M_walks_B195 d rec hrec  _ _ _ _ h)
set_option maxRecDepth 20000 in
theorem t_M_walks_L107 (d : Nat) (rec : Int → Int → am_M → am_O) (hrec : ∀ (v1 : Int) (v2 : Int) (μ : am_M) q, rec v1 v2 μ = some q → am_ar g_mt (d + 3) 225 [(2, 1000), (0, v1), (0, v2)] μ (am_res 2 q)) : ∀ (n : Nat) (v2 : Int) (v3 : Int) (v4 : Int) (v5 : Int) (v6 : Int) (μ : am_M) q, M_walks_L107 rec n v2 v3 v4 v5 v6 μ = some q → am_run none (am_ar g_mt (d + 3)) 7 none k_M_walks 107 [(0, (2, 1000)), (2, (0, v2)), (3, (0, v3)), (4, (0, v4)), (5, (0, v5)), (6, (0, v6))] [] μ (am_res 2 q) := by
  intro n
  induction n with
  | zero => intro v2 v3 v4 v5 v6 μ q h; cases h
  | succ n ih => intro v2 v3 v4 v5 v6 μ q h; exact t_M_walks_L107_b d rec hrec (M_walks_L107 rec n) ih v2 v3 v4 v5 v6 μ q h
set_option maxRecDepth 20000 in
theorem t_M_walks_B61 (d : Nat) (rec : Int → Int → am_M → am_O) (hrec : ∀ (v1 : Int) (v2 : Int) (μ : am_M) q, rec v1 v2 μ = some q → am_ar g_mt (d + 3) 225 [(2, 1000), (0, v1), (0, v2)] μ (am_res 2 q)) : ∀ (v2 : Int) (v3 : Int) (v4 : Int) (μ : am_M) q, M_walks_B61 rec v2 v3 v4 μ = some q → am_run none (am_ar g_mt (d + 3)) 7 none k_M_walks 61 [(0, (2, 1000)), (2, (0, v2)), (3, (0, v3)), (4, (0, v4))] [] μ (am_res 2 q) := by
  intro v2 v3 v4 μ q h
  unfold M_walks_B61 at h
  refine rn_sls 3 (pc' := 64) (ls' := [(0, (2, 1000)), (2, (0, v2)), (3, (0, v3)), (4, (0, v4))]) (st' := [(0, 1), (0, v3), (2, 1000)]) rfl ?_
  refine rn_call 0 2 [(2, 1000), (0, v3), (0, 1)] (r := []) rfl ⟨rfl, Or.inl ⟨_, rfl, by decide⟩⟩ (by decide) (fun _ => ⟨_, rfl, rfl⟩) rfl rfl (Nat.le_of_ble_eq_true rfl) h (fun w hw => t_M_counts (d + 0) _ _ _ _ hw) (fun a1 μ2 h => ?_)
  refine rn_sls 0 (pc' := 67) (ls' := [(0, (2, 1000)), (2, (0, v2)), (3, (0, v3)), (4, (0, v4))]) (st' := []) rfl ?_
  refine rn_sls 3 (pc' := 72) (ls' := [(0, (2, 1000)), (2, (0, v2)), (3, (0, v3)), (4, (0, v4))]) (st' := [(0, v3), (2, 1002)]) rfl ?_
  refine rn_iald (n := 120) rfl rfl rfl h (fun a3 h => ?_)
  refine rn_sls 1 (pc' := 74) (ls' := [(0, (2, 1000)), (2, (0, v2)), (3, (0, v3)), (4, (0, v4))]) (st' := [(0, 5), (0, a3)]) rfl ?_
  refine rn_icmpn (t := 101) rfl rfl rfl rfl h (fun h => ?_) (fun h => ?_)
  · refine rn_sls 5 (pc' := 82) (ls' := [(0, (2, 1000)), (2, (0, v2)), (3, (0, v3)), (4, (0, v4))]) (st' := [(0, v2), (0, (w32 (v3 + 1))), (2, 1000)]) rfl ?_
    refine rn_call 0 2 [(2, 1000), (0, (w32 (v3 + 1))), (0, v2)] (r := []) rfl ⟨rfl, Or.inl ⟨_, rfl, by decide⟩⟩ (by decide) (fun _ => ⟨_, rfl, rfl⟩) rfl rfl (Nat.le_of_ble_eq_true rfl) h (fun w hw => hrec _ _ _ _ hw) (fun a4 μ5 h => ?_)
    refine rn_sls 0 (pc' := 85) (ls' := [(0, (2, 1000)), (2, (0, v2)), (3, (0, v3)), (4, (0, v4))]) (st' := []) rfl ?_
    refine rn_sls 4 (pc' := 91) (ls' := [(0, (2, 1000)), (2, (0, v2)), (3, (0, v3)), (4, (0, v4))]) (st' := [(0, v3), (2, 1008), (2, 1000)]) rfl ?_
    refine rn_iald (n := 120) rfl rfl rfl h (fun a6 h => ?_)
    refine rn_sls 3 (pc' := 95) (ls' := [(0, (2, 1000)), (2, (0, v2)), (3, (0, v3)), (4, (0, v4))]) (st' := [(0, v2), (0, (w32 (a6 + 1))), (2, 1000)]) rfl ?_
    refine rn_call 0 2 [(2, 1000), (0, (w32 (a6 + 1))), (0, v2)] (r := []) rfl ⟨rfl, Or.inl ⟨_, rfl, by decide⟩⟩ (by decide) (fun _ => ⟨_, rfl, rfl⟩) rfl rfl (Nat.le_of_ble_eq_true rfl) h (fun w hw => hrec _ _ _ _ hw) (fun a7 μ8 h => ?_)
    refine rn_sls 0 (pc' := 98) (ls' := [(0, (2, 1000)), (2, (0, v2)), (3, (0, v3)), (4, (0, v4))]) (st' := []) rfl ?_
    refine rn_goto (t := 195) rfl rfl rfl ?_
    exact rn_sub [0, 2, 3] rfl (t_M_walks_B195 d rec hrec  _ _ _ _ h)
  · refine rn_sls 4 (pc' := 107) (ls' := [(6, (0, 0)), (5, (0, 0)), (0, (2, 1000)), (2, (0, v2)), (3, (0, v3)), (4, (0, v4))]) (st' := []) rfl ?_
    exact rn_sub [2, 3, 4, 5, 1, 0] rfl (t_M_walks_L107 d rec hrec  am_FU _ _ _ _ _ _ _ h)
set_option maxRecDepth 20000 in
theorem t_M_walks_L5_b (d : Nat) (rec : Int → Int → am_M → am_O) (hrec : ∀ (v1 : Int) (v2 : Int) (μ : am_M) q, rec v1 v2 μ = some q → am_ar g_mt (d + 3) 225 [(2, 1000), (0, v1), (0, v2)] μ (am_res 2 q)) (k5 : Int → Int → Int → am_M → am_O) (hk5 : ∀ (v2 : Int) (v3 : Int) (v4 : Int) (μ : am_M) q, k5 v2 v3 v4 μ = some q → am_run none (am_ar g_mt (d + 3)) 7 none k_M_walks 5 [(0, (2, 1000)), (2, (0, v2)), (3, (0, v3)), (4, (0, v4))] [] μ (am_res 2 q)) : ∀ (v2 : Int) (v3 : Int) (v4 : Int) (μ : am_M) q, M_walks_L5_b rec k5 v2 v3 v4 μ = some q → am_run none (am_ar g_mt (d + 3)) 7 none k_M_walks 5 [(0, (2, 1000)), (2, (0, v2)), (3, (0, v3)), (4, (0, v4))] [] μ (am_res 2 q) := by
  intro v2 v3 v4 μ q h
  unfold M_walks_L5_b at h
  refine rn_sls 3 (pc' := 10) (ls' := [(0, (2, 1000)), (2, (0, v2)), (3, (0, v3)), (4, (0, v4))]) (st' := [(0, v3), (2, 1002)]) rfl ?_
  refine rn_iald (n := 120) rfl rfl rfl h (fun a1 h => ?_)
  refine rn_sls 1 (pc' := 13) (ls' := [(0, (2, 1000)), (2, (0, v2)), (3, (0, v3)), (4, (0, v4))]) (st' := [(0, 8), (0, a1)]) rfl ?_
  refine rn_icmp (t := 61) rfl rfl rfl rfl h (fun h => ?_) (fun h => ?_)
  · exact rn_sub [0, 1, 2, 3] rfl (t_M_walks_B61 d rec hrec  _ _ _ _ _ h)
  · refine rn_sls 3 (pc' := 21) (ls' := [(0, (2, 1000)), (2, (0, v2)), (3, (0, v3)), (4, (0, v4))]) (st' := [(0, v3), (2, 1002)]) rfl ?_
    refine rn_iald (n := 120) rfl rfl rfl h (fun a2 h => ?_)
    refine rn_sls 1 (pc' := 23) (ls' := [(0, (2, 1000)), (2, (0, v2)), (3, (0, v3)), (4, (0, v4))]) (st' := [(0, 5), (0, a2)]) rfl ?_
    refine rn_icmp (t := 61) rfl rfl rfl rfl h (fun h => ?_) (fun h => ?_)
    · exact rn_sub [0, 1, 2, 3] rfl (t_M_walks_B61 d rec hrec  _ _ _ _ _ h)
    · refine rn_sls 3 (pc' := 29) (ls' := [(0, (2, 1000)), (2, (0, v2)), (3, (0, v3)), (4, (0, v4))]) (st' := [(0, 1), (0, v3), (2, 1000)]) rfl ?_
      refine rn_call 0 2 [(2, 1000), (0, v3), (0, 1)] (r := []) rfl ⟨rfl, Or.inl ⟨_, rfl, by decide⟩⟩ (by decide) (fun _ => ⟨_, rfl, rfl⟩) rfl rfl (Nat.le_of_ble_eq_true rfl) h (fun w hw => t_M_counts (d + 0) _ _ _ _ hw) (fun a3 μ4 h => ?_)
      refine rn_sls 0 (pc' := 32) (ls' := [(0, (2, 1000)), (2, (0, v2)), (3, (0, v3)), (4, (0, v4))]) (st' := []) rfl ?_
      refine rn_sls 3 (pc' := 37) (ls' := [(0, (2, 1000)), (2, (0, v2)), (3, (0, v3)), (4, (0, v4))]) (st' := [(0, v3), (2, 1002)]) rfl ?_
      refine rn_iald (n := 120) rfl rfl rfl h (fun a5 h => ?_)
      refine rn_sls 1 (pc' := 40) (ls' := [(0, (2, 1000)), (2, (0, v2)), (3, (0, v3)), (4, (0, v4))]) (st' := [(0, 6), (0, a5)]) rfl ?_
      refine rn_icmpn (t := 54) rfl rfl rfl rfl h (fun h => ?_) (fun h => ?_)
      · refine rn_sls 3 (pc' := 48) (ls' := [(0, (2, 1000)), (2, (0, v2)), (3, (0, v3)), (4, (0, v4))]) (st' := [(0, v3), (2, 1009)]) rfl ?_
        refine rn_iald (n := 120) rfl rfl rfl h (fun a6 h => ?_)
        refine rn_sls 2 (pc' := 51) (ls' := [(0, (2, 1000)), (2, (0, v2)), (3, (0, v3)), (4, (0, v4))]) (st' := [(0, (w32 (a6 + 1)))]) rfl ?_
        refine rn_goto (t := 57) rfl rfl rfl ?_
        exact rn_sub [0, 1, 3] rfl (t_M_walks_B57 d rec hrec k5 hk5 _ _ _ _ _ h)
      · refine rn_sls 3 (pc' := 57) (ls' := [(0, (2, 1000)), (2, (0, v2)), (3, (0, v3)), (4, (0, v4))]) (st' := [(0, (w32 (v3 + 1)))]) rfl ?_
        exact rn_sub [0, 1, 3] rfl (t_M_walks_B57 d rec hrec k5 hk5 _ _ _ _ _ h)
set_option maxRecDepth 20000 in
theorem t_M_walks_L5 (d : Nat) (rec : Int → Int → am_M → am_O) (hrec : ∀ (v1 : Int) (v2 : Int) (μ : am_M) q, rec v1 v2 μ = some q → am_ar g_mt (d + 3) 225 [(2, 1000), (0, v1), (0, v2)] μ (am_res 2 q)) : ∀ (n : Nat) (v2 : Int) (v3 : Int) (v4 : Int) (μ : am_M) q, M_walks_L5 rec n v2 v3 v4 μ = some q → am_run none (am_ar g_mt (d + 3)) 7 none k_M_walks 5 [(0, (2, 1000)), (2, (0, v2)), (3, (0, v3)), (4, (0, v4))] [] μ (am_res 2 q) := by
  intro n
  induction n with
  | zero => intro v2 v3 v4 μ q h; cases h
  | succ n ih => intro v2 v3 v4 μ q h; exact t_M_walks_L5_b d rec hrec (M_walks_L5 rec n) ih v2 v3 v4 μ q h
set_option maxRecDepth 20000 in
theorem t_M_walks_e (d : Nat) (rec : Int → Int → am_M → am_O) (hrec : ∀ (v1 : Int) (v2 : Int) (μ : am_M) q, rec v1 v2 μ = some q → am_ar g_mt (d + 3) 225 [(2, 1000), (0, v1), (0, v2)] μ (am_res 2 q)) : ∀ (v1 : Int) (v2 : Int) (μ : am_M) q, M_walks_e rec v1 v2 μ = some q → am_run none (am_ar g_mt (d + 3)) 7 none k_M_walks 0 [(0, (2, 1000)), (1, (0, v1)), (2, (0, v2))] [] μ (am_res 2 q) := by
  intro v1 v2 μ q h
  unfold M_walks_e at h
  refine rn_sls 4 (pc' := 5) (ls' := [(4, (0, v1)), (3, (0, v1)), (0, (2, 1000)), (1, (0, v1)), (2, (0, v2))]) (st' := []) rfl ?_
  exact rn_sub [2, 4, 1, 0] rfl (t_M_walks_L5 d rec hrec  am_FU _ _ _ _ _ h)
set_option maxRecDepth 20000 in
theorem t_M_walks (d : Nat) : ∀ (n : Nat) (v1 : Int) (v2 : Int) (μ : am_M) q, M_walks n v1 v2 μ = some q → am_ar g_mt (d + 3 + n) 225 [(2, 1000), (0, v1), (0, v2)] μ (am_res 2 q) := by
  intro n
  induction n with
  | zero => intro v1 v2 μ q h; cases h
  | succ n ih =>
    intro v1 v2 μ q h
    exact am_ar_of (d := d + 3 + n) i_M_walks rfl rfl (Nat.le_of_ble_eq_true rfl) (am_run_mono (d := d + n + 3) (d' := d + 3 + n) (by omega) (t_M_walks_e (d + n) (M_walks n) (fun v1 v2 μ q h => am_ar_mono (d := d + 3 + n) (d' := d + n + 3) (by omega) (ih v1 v2 μ q h)) v1 v2 μ q h))
set_option maxRecDepth 20000 in
theorem t_M_needs_B120 (d : Nat) (k59 : Int → Int → Int → am_M → am_O) (hk59 : ∀ (v1 : Int) (v2 : Int) (v3 : Int) (μ : am_M) q, k59 v1 v2 v3 μ = some q → am_run none (am_ar g_mt (d + 67)) 4 (some .int) k_M_needs 59 [(0, (2, 1000)), (1, (0, v1)), (2, (0, v2)), (3, (0, v3))] [] μ (am_res 0 q)) : ∀ (v1 : Int) (v2 : Int) (v3 : Int) (μ : am_M) q, M_needs_B120 k59 v1 v2 v3 μ = some q → am_run none (am_ar g_mt (d + 67)) 4 (some .int) k_M_needs 120 [(0, (2, 1000)), (1, (0, v1)), (2, (0, v2)), (3, (0, v3))] [] μ (am_res 0 q) := by
  intro v1 v2 v3 μ q h
  unfold M_needs_B120 at h
  refine rn_sls 1 (pc' := 123) (ls' := [(3, (0, (w32 (v3 + 1)))), (0, (2, 1000)), (1, (0, v1)), (2, (0, v2))]) (st' := []) rfl ?_
  refine rn_goto (t := 59) rfl rfl rfl ?_
  exact rn_sub [1, 2, 3, 0] rfl (hk59 _ _ _ _ _ h)
set_option maxRecDepth 20000 in
theorem t_M_needs_B99 (d : Nat) (k59 : Int → Int → Int → am_M → am_O) (hk59 : ∀ (v1 : Int) (v2 : Int) (v3 : Int) (μ : am_M) q, k59 v1 v2 v3 μ = some q → am_run none (am_ar g_mt (d + 67)) 4 (some .int) k_M_needs 59 [(0, (2, 1000)), (1, (0, v1)), (2, (0, v2)), (3, (0, v3))] [] μ (am_res 0 q)) : ∀ (v1 : Int) (v2 : Int) (v3 : Int) (μ : am_M) q, M_needs_B99 k59 v1 v2 v3 μ = some q → am_run none (am_ar g_mt (d + 67)) 4 (some .int) k_M_needs 99 [(0, (2, 1000)), (1, (0, v1)), (2, (0, v2)), (3, (0, v3))] [] μ (am_res 0 q) := by
  intro v1 v2 v3 μ q h
  unfold M_needs_B99 at h
  refine rn_sls 3 (pc' := 104) (ls' := [(0, (2, 1000)), (1, (0, v1)), (2, (0, v2)), (3, (0, v3))]) (st' := [(0, v3), (2, 1004)]) rfl ?_
  refine rn_iald (n := 120) rfl rfl rfl h (fun a1 h => ?_)
  refine rn_if (t := 120) rfl rfl rfl rfl h (fun h => ?_) (fun h => ?_)
  · exact rn_sub [0, 1, 2, 3] rfl (t_M_needs_B120 d k59 hk59 _ _ _ _ _ h)
  · refine rn_sls 5 (pc' := 117) (ls' := [(0, (2, 1000)), (1, (0, v1)), (2, (0, v2)), (3, (0, v3))]) (st' := [(0, v3), (2, 1004), (2, 1053)]) rfl ?_
    refine rn_iald (n := 120) rfl rfl rfl h (fun a2 h => ?_)
    refine rn_sls 1 (pc' := 119) (ls' := [(0, (2, 1000)), (1, (0, v1)), (2, (0, v2)), (3, (0, v3))]) (st' := [(0, 1), (0, a2), (2, 1053)]) rfl ?_
    refine rn_bast (n := 10) rfl rfl rfl h (fun μ3 h => ?_)
    exact rn_sub [0, 1, 2, 3] rfl (t_M_needs_B120 d k59 hk59 _ _ _ _ _ h)
set_option maxRecDepth 20000 in
theorem t_M_needs_B155 (d : Nat) : ∀ (v2 : Int) (s1 : Int) (s2 : Int) (μ : am_M) q, M_needs_B155 v2 s1 s2 μ = some q → am_run none (am_ar g_mt (d + 67)) 4 (some .int) k_M_needs 155 [(0, (2, 1000)), (2, (0, v2))] [(0, s2), (0, s1), (2, 1000)] μ (am_res 0 q) := by
  intro v2 s1 s2 μ q h
  unfold M_needs_B155 at h
  refine rn_call 0 2 [(2, 1000), (0, s1), (0, s2)] (r := []) rfl ⟨rfl, Or.inl ⟨_, rfl, by decide⟩⟩ (by decide) (fun _ => ⟨_, rfl, rfl⟩) rfl rfl (Nat.le_of_ble_eq_true rfl) h (fun w hw => am_ar_mono (by omega) (t_M_walks 0 64 _ _ _ _ hw)) (fun a1 μ2 h => ?_)
  refine rn_sls 0 (pc' := 158) (ls' := [(0, (2, 1000)), (2, (0, v2))]) (st' := []) rfl ?_
  refine rn_sls 3 (pc' := 161) (ls' := [(0, (2, 1000)), (2, (0, v2))]) (st' := [(0, (aRem v2 2))]) rfl ?_
  refine rn_ifn (t := 171) rfl rfl rfl rfl h (fun h => ?_) (fun h => ?_)
  · refine rn_sls 2 (pc' := 168) (ls' := [(0, (2, 1000)), (2, (0, v2))]) (st' := [(0, (μ2 1000 77))]) rfl ?_
    refine rn_goto (t := 175) rfl rfl rfl ?_
    exact rn_ireti rfl rfl rfl h rfl
  · refine rn_sls 2 (pc' := 175) (ls' := [(0, (2, 1000)), (2, (0, v2))]) (st' := [(0, (μ2 1000 78))]) rfl ?_
    exact rn_ireti rfl rfl rfl h rfl
set_option maxRecDepth 20000 in
theorem t_M_needs_L59_b (d : Nat) (k59 : Int → Int → Int → am_M → am_O) (hk59 : ∀ (v1 : Int) (v2 : Int) (v3 : Int) (μ : am_M) q, k59 v1 v2 v3 μ = some q → am_run none (am_ar g_mt (d + 67)) 4 (some .int) k_M_needs 59 [(0, (2, 1000)), (1, (0, v1)), (2, (0, v2)), (3, (0, v3))] [] μ (am_res 0 q)) : ∀ (v1 : Int) (v2 : Int) (v3 : Int) (μ : am_M) q, M_needs_L59_b k59 v1 v2 v3 μ = some q → am_run none (am_ar g_mt (d + 67)) 4 (some .int) k_M_needs 59 [(0, (2, 1000)), (1, (0, v1)), (2, (0, v2)), (3, (0, v3))] [] μ (am_res 0 q) := by
  intro v1 v2 v3 μ q h
  unfold M_needs_L59_b at h
  refine rn_sls 3 (pc' := 62) (ls' := [(0, (2, 1000)), (1, (0, v1)), (2, (0, v2)), (3, (0, v3))]) (st' := [(0, v1), (2, 1000), (0, v3)]) rfl ?_
  refine rn_call 0 0 [(2, 1000), (0, v1)] (r := [(0, v3)]) rfl ⟨rfl, Or.inl ⟨_, rfl, by decide⟩⟩ (by decide) (fun _ => ⟨_, rfl, rfl⟩) rfl rfl (Nat.le_of_ble_eq_true rfl) h (fun w hw => t_M_lastLine (d + 66) _ _ _ hw) (fun a1 μ2 h => ?_)
  refine rn_sls 0 (pc' := 65) (ls' := [(0, (2, 1000)), (1, (0, v1)), (2, (0, v2)), (3, (0, v3))]) (st' := [(0, a1), (0, v3)]) rfl ?_
  refine rn_icmpn (t := 126) rfl rfl rfl rfl h (fun h => ?_) (fun h => ?_)
  · refine rn_sls 3 (pc' := 73) (ls' := [(0, (2, 1000)), (1, (0, v1)), (2, (0, v2)), (3, (0, v3))]) (st' := [(0, v3), (2, 1003)]) rfl ?_
    refine rn_iald (n := 120) rfl rfl rfl h (fun a6 h => ?_)
    refine rn_if (t := 99) rfl rfl rfl rfl h (fun h => ?_) (fun h => ?_)
    · exact rn_sub [0, 1, 2, 3] rfl (t_M_needs_B99 d k59 hk59 _ _ _ _ _ h)
    · refine rn_sls 3 (pc' := 82) (ls' := [(0, (2, 1000)), (1, (0, v1)), (2, (0, v2)), (3, (0, v3))]) (st' := [(0, v3), (2, 1005)]) rfl ?_
      refine rn_iald (n := 120) rfl rfl rfl h (fun a7 h => ?_)
      refine rn_sls 1 (pc' := 84) (ls' := [(0, (2, 1000)), (1, (0, v1)), (2, (0, v2)), (3, (0, v3))]) (st' := [(0, 1), (0, a7)]) rfl ?_
      refine rn_icmpn (t := 99) rfl rfl rfl rfl h (fun h => ?_) (fun h => ?_)
      · refine rn_sls 5 (pc' := 96) (ls' := [(0, (2, 1000)), (1, (0, v1)), (2, (0, v2)), (3, (0, v3))]) (st' := [(0, v3), (2, 1003), (2, 1053)]) rfl ?_
        refine rn_iald (n := 120) rfl rfl rfl h (fun a8 h => ?_)
        refine rn_sls 1 (pc' := 98) (ls' := [(0, (2, 1000)), (1, (0, v1)), (2, (0, v2)), (3, (0, v3))]) (st' := [(0, 1), (0, a8), (2, 1053)]) rfl ?_
        refine rn_bast (n := 10) rfl rfl rfl h (fun μ9 h => ?_)
        exact rn_sub [0, 1, 2, 3] rfl (t_M_needs_B99 d k59 hk59 _ _ _ _ _ h)
      · exact rn_sub [0, 1, 2, 3] rfl (t_M_needs_B99 d k59 hk59 _ _ _ _ _ h)
  · refine rn_sls 2 (pc' := 130) (ls' := [(0, (2, 1000)), (1, (0, v1)), (2, (0, v2)), (3, (0, v3))]) (st' := [(0, 1000000), (2, 1000)]) rfl ?_
    refine rn_put rfl rfl rfl rfl (Or.inl ⟨rfl, rfl⟩) rfl h (fun μ3 h => ?_)
    refine rn_sls 2 (pc' := 135) (ls' := [(0, (2, 1000)), (1, (0, v1)), (2, (0, v2)), (3, (0, v3))]) (st' := [(0, 0), (2, 1000)]) rfl ?_
    refine rn_put rfl rfl rfl rfl (Or.inl ⟨rfl, rfl⟩) rfl h (fun μ4 h => ?_)
    refine rn_sls 4 (pc' := 144) (ls' := [(0, (2, 1000)), (1, (0, v1)), (2, (0, v2)), (3, (0, v3))]) (st' := [(0, v1), (2, 1017), (2, 1000)]) rfl ?_
    refine rn_iald (n := 8) rfl rfl rfl h (fun a5 h => ?_)
    refine rn_sls 2 (pc' := 147) (ls' := [(0, (2, 1000)), (1, (0, v1)), (2, (0, v2)), (3, (0, v3))]) (st' := [(0, 2), (0, v2), (0, a5), (2, 1000)]) rfl ?_
    refine rn_icmpn (t := 154) rfl rfl rfl rfl h (fun h => ?_) (fun h => ?_)
    · refine rn_sls 1 (pc' := 151) (ls' := [(0, (2, 1000)), (1, (0, v1)), (2, (0, v2)), (3, (0, v3))]) (st' := [(0, 1), (0, a5), (2, 1000)]) rfl ?_
      refine rn_goto (t := 155) rfl rfl rfl ?_
      exact rn_sub [0, 2] rfl (t_M_needs_B155 d  _ _ _ _ _ h)
    · refine rn_sls 1 (pc' := 155) (ls' := [(0, (2, 1000)), (1, (0, v1)), (2, (0, v2)), (3, (0, v3))]) (st' := [(0, 0), (0, a5), (2, 1000)]) rfl ?_
      exact rn_sub [0, 2] rfl (t_M_needs_B155 d  _ _ _ _ _ h)
set_option maxRecDepth 20000 in
theorem t_M_needs_L59 (d : Nat) : ∀ (n : Nat) (v1 : Int) (v2 : Int) (v3 : Int) (μ : am_M) q, M_needs_L59 n v1 v2 v3 μ = some q → am_run none (am_ar g_mt (d + 67)) 4 (some .int) k_M_needs 59 [(0, (2, 1000)), (1, (0, v1)), (2, (0, v2)), (3, (0, v3))] [] μ (am_res 0 q) := by
  intro n
  induction n with
  | zero => intro v1 v2 v3 μ q h; cases h
  | succ n ih => intro v1 v2 v3 μ q h; exact t_M_needs_L59_b d (M_needs_L59 n) ih v1 v2 v3 μ q h
set_option maxRecDepth 20000 in
theorem t_M_needs_L26_b (d : Nat) (k26 : Int → Int → Int → am_M → am_O) (hk26 : ∀ (v1 : Int) (v2 : Int) (v3 : Int) (μ : am_M) q, k26 v1 v2 v3 μ = some q → am_run none (am_ar g_mt (d + 67)) 4 (some .int) k_M_needs 26 [(0, (2, 1000)), (1, (0, v1)), (2, (0, v2)), (3, (0, v3))] [] μ (am_res 0 q)) : ∀ (v1 : Int) (v2 : Int) (v3 : Int) (μ : am_M) q, M_needs_L26_b k26 v1 v2 v3 μ = some q → am_run none (am_ar g_mt (d + 67)) 4 (some .int) k_M_needs 26 [(0, (2, 1000)), (1, (0, v1)), (2, (0, v2)), (3, (0, v3))] [] μ (am_res 0 q) := by
  intro v1 v2 v3 μ q h
  unfold M_needs_L26_b at h
  refine rn_sls 2 (pc' := 29) (ls' := [(0, (2, 1000)), (1, (0, v1)), (2, (0, v2)), (3, (0, v3))]) (st' := [(0, 10), (0, v3)]) rfl ?_
  refine rn_icmpn (t := 52) rfl rfl rfl rfl h (fun h => ?_) (fun h => ?_)
  · refine rn_sls 4 (pc' := 38) (ls' := [(0, (2, 1000)), (1, (0, v1)), (2, (0, v2)), (3, (0, v3))]) (st' := [(0, 0), (0, v3), (2, 1052)]) rfl ?_
    refine rn_iast (n := 10) rfl rfl rfl h (fun μ2 h => ?_)
    refine rn_sls 4 (pc' := 45) (ls' := [(0, (2, 1000)), (1, (0, v1)), (2, (0, v2)), (3, (0, v3))]) (st' := [(0, 0), (0, v3), (2, 1053)]) rfl ?_
    refine rn_bast (n := 10) rfl rfl rfl h (fun μ3 h => ?_)
    refine rn_sls 1 (pc' := 49) (ls' := [(3, (0, (w32 (v3 + 1)))), (0, (2, 1000)), (1, (0, v1)), (2, (0, v2))]) (st' := []) rfl ?_
    refine rn_goto (t := 26) rfl rfl rfl ?_
    exact rn_sub [1, 2, 3, 0] rfl (hk26 _ _ _ _ _ h)
  · refine rn_sls 3 (pc' := 57) (ls' := [(0, (2, 1000)), (1, (0, v1)), (2, (0, v2)), (3, (0, v3))]) (st' := [(0, v1), (2, 1017)]) rfl ?_
    refine rn_iald (n := 8) rfl rfl rfl h (fun a1 h => ?_)
    refine rn_sls 1 (pc' := 59) (ls' := [(3, (0, a1)), (0, (2, 1000)), (1, (0, v1)), (2, (0, v2))]) (st' := []) rfl ?_
    exact rn_sub [1, 2, 3, 0] rfl (t_M_needs_L59 d  am_FU _ _ _ _ _ h)
set_option maxRecDepth 20000 in
theorem t_M_needs_L26 (d : Nat) : ∀ (n : Nat) (v1 : Int) (v2 : Int) (v3 : Int) (μ : am_M) q, M_needs_L26 n v1 v2 v3 μ = some q → am_run none (am_ar g_mt (d + 67)) 4 (some .int) k_M_needs 26 [(0, (2, 1000)), (1, (0, v1)), (2, (0, v2)), (3, (0, v3))] [] μ (am_res 0 q) := by
  intro n
  induction n with
  | zero => intro v1 v2 v3 μ q h; cases h
  | succ n ih => intro v1 v2 v3 μ q h; exact t_M_needs_L26_b d (M_needs_L26 n) ih v1 v2 v3 μ q h
set_option maxRecDepth 20000 in
theorem t_M_needs (d : Nat) : ∀ (v1 : Int) (v2 : Int) (μ : am_M) q, M_needs v1 v2 μ = some q → am_ar g_mt (d + 68) 226 [(2, 1000), (0, v1), (0, v2)] μ (am_res 0 q) := by
  intro v1 v2 μ q h
  unfold M_needs at h
  refine am_ar_of (d := d + 67) i_M_needs rfl rfl (Nat.le_of_ble_eq_true rfl) ?_
  show am_run none (am_ar g_mt (d + 67)) 4 (some .int) k_M_needs 0 [(0, (2, 1000)), (1, (0, v1)), (2, (0, v2))] [] μ (am_res 0 q)
  refine rn_sls 2 (pc' := 2) (ls' := [(0, (2, 1000)), (1, (0, v1)), (2, (0, v2))]) (st' := [(0, 0), (2, 1000)]) rfl ?_
  refine rn_put rfl rfl rfl rfl (Or.inl ⟨rfl, rfl⟩) rfl h (fun μ1 h => ?_)
  refine rn_sls 2 (pc' := 7) (ls' := [(0, (2, 1000)), (1, (0, v1)), (2, (0, v2))]) (st' := [(0, v1), (2, 1000)]) rfl ?_
  refine rn_call 0 0 [(2, 1000), (0, v1)] (r := []) rfl ⟨rfl, Or.inl ⟨_, rfl, by decide⟩⟩ (by decide) (fun _ => ⟨_, rfl, rfl⟩) rfl rfl (Nat.le_of_ble_eq_true rfl) h (fun w hw => t_M_isBill (d + 66) _ _ _ hw) (fun a2 μ3 h => ?_)
  refine rn_sls 0 (pc' := 10) (ls' := [(0, (2, 1000)), (1, (0, v1)), (2, (0, v2))]) (st' := [(0, a2)]) rfl ?_
  refine rn_if (t := 22) rfl rfl rfl rfl h (fun h => ?_) (fun h => ?_)
  · refine rn_sls 1 (pc' := 23) (ls' := [(0, (2, 1000)), (1, (0, v1)), (2, (0, v2))]) (st' := [(0, (-1))]) rfl ?_
    exact rn_ireti rfl rfl rfl h rfl
  · refine rn_sls 3 (pc' := 16) (ls' := [(0, (2, 1000)), (1, (0, v1)), (2, (0, v2))]) (st' := [(0, 3), (0, 0), (0, v2)]) rfl ?_
    refine rn_call 2 0 [(0, v2), (0, 0), (0, 3)] (r := []) rfl ⟨rfl, Or.inr ⟨_, rfl, by decide⟩⟩ (by decide) (fun z => absurd z (by decide)) rfl rfl (Nat.le_of_ble_eq_true rfl) h (fun w hw => t_M_within (d + 66) _ _ _ _ _ hw) (fun a4 μ5 h => ?_)
    refine rn_sls 0 (pc' := 19) (ls' := [(0, (2, 1000)), (1, (0, v1)), (2, (0, v2))]) (st' := [(0, a4)]) rfl ?_
    refine rn_ifn (t := 24) rfl rfl rfl rfl h (fun h => ?_) (fun h => ?_)
    · refine rn_sls 1 (pc' := 23) (ls' := [(0, (2, 1000)), (1, (0, v1)), (2, (0, v2))]) (st' := [(0, (-1))]) rfl ?_
      exact rn_ireti rfl rfl rfl h rfl
    · refine rn_sls 2 (pc' := 26) (ls' := [(3, (0, 0)), (0, (2, 1000)), (1, (0, v1)), (2, (0, v2))]) (st' := []) rfl ?_
      exact rn_sub [1, 2, 3, 0] rfl (t_M_needs_L26 d  am_FU _ _ _ _ _ h)
set_option maxRecDepth 20000 in
theorem t_M_isPlain_B81 (d : Nat) (k9 : Int → Int → Int → am_M → am_O) (hk9 : ∀ (v1 : Int) (v2 : Int) (v3 : Int) (μ : am_M) q, k9 v1 v2 v3 μ = some q → am_run none (am_ar g_mt (d + 2)) 5 (some .boolean) k_M_isPlain 9 [(0, (2, 1000)), (1, (0, v1)), (2, (0, v2)), (3, (0, v3))] [] μ (am_res 0 q)) (k53 : Int → Int → Int → Int → am_M → am_O) (hk53 : ∀ (v1 : Int) (v2 : Int) (v3 : Int) (v4 : Int) (μ : am_M) q, k53 v1 v2 v3 v4 μ = some q → am_run none (am_ar g_mt (d + 2)) 5 (some .boolean) k_M_isPlain 53 [(0, (2, 1000)), (1, (0, v1)), (2, (0, v2)), (3, (0, v3)), (4, (0, v4))] [] μ (am_res 0 q)) : ∀ (v1 : Int) (v2 : Int) (v3 : Int) (v4 : Int) (μ : am_M) q, M_isPlain_B81 k9 k53 v1 v2 v3 v4 μ = some q → am_run none (am_ar g_mt (d + 2)) 5 (some .boolean) k_M_isPlain 81 [(0, (2, 1000)), (1, (0, v1)), (2, (0, v2)), (3, (0, v3)), (4, (0, v4))] [] μ (am_res 0 q) := by
  intro v1 v2 v3 v4 μ q h
  unfold M_isPlain_B81 at h
  refine rn_sls 1 (pc' := 84) (ls' := [(4, (0, (w32 (v4 + 1)))), (0, (2, 1000)), (1, (0, v1)), (2, (0, v2)), (3, (0, v3))]) (st' := []) rfl ?_
  refine rn_goto (t := 53) rfl rfl rfl ?_
  exact rn_sub [1, 2, 3, 4, 0] rfl (hk53 _ _ _ _ _ _ h)
set_option maxRecDepth 20000 in
theorem t_M_isPlain_B134 (d : Nat) (k9 : Int → Int → Int → am_M → am_O) (hk9 : ∀ (v1 : Int) (v2 : Int) (v3 : Int) (μ : am_M) q, k9 v1 v2 v3 μ = some q → am_run none (am_ar g_mt (d + 2)) 5 (some .boolean) k_M_isPlain 9 [(0, (2, 1000)), (1, (0, v1)), (2, (0, v2)), (3, (0, v3))] [] μ (am_res 0 q)) : ∀ (v1 : Int) (v3 : Int) (s0 : Int) (s1 : Int) (μ : am_M) q, M_isPlain_B134 k9 v1 v3 s0 s1 μ = some q → am_run none (am_ar g_mt (d + 2)) 5 (some .boolean) k_M_isPlain 134 [(0, (2, 1000)), (1, (0, v1)), (3, (0, v3))] [(0, s1), (0, s0)] μ (am_res 0 q) := by
  intro v1 v3 s0 s1 μ q h
  unfold M_isPlain_B134 at h
  refine rn_sls 3 (pc' := 139) (ls' := [(3, (0, (w32 (v3 + 1)))), (2, (0, (aOr s0 s1))), (0, (2, 1000)), (1, (0, v1))]) (st' := []) rfl ?_
  refine rn_goto (t := 9) rfl rfl rfl ?_
  exact rn_sub [2, 3, 1, 0] rfl (hk9 _ _ _ _ _ h)
set_option maxRecDepth 20000 in
theorem t_M_isPlain_B112 (d : Nat) (k9 : Int → Int → Int → am_M → am_O) (hk9 : ∀ (v1 : Int) (v2 : Int) (v3 : Int) (μ : am_M) q, k9 v1 v2 v3 μ = some q → am_run none (am_ar g_mt (d + 2)) 5 (some .boolean) k_M_isPlain 9 [(0, (2, 1000)), (1, (0, v1)), (2, (0, v2)), (3, (0, v3))] [] μ (am_res 0 q)) : ∀ (v1 : Int) (v2 : Int) (v3 : Int) (μ : am_M) q, M_isPlain_B112 k9 v1 v2 v3 μ = some q → am_run none (am_ar g_mt (d + 2)) 5 (some .boolean) k_M_isPlain 112 [(0, (2, 1000)), (1, (0, v1)), (2, (0, v2)), (3, (0, v3))] [] μ (am_res 0 q) := by
  intro v1 v2 v3 μ q h
  unfold M_isPlain_B112 at h
  refine rn_sls 4 (pc' := 118) (ls' := [(0, (2, 1000)), (1, (0, v1)), (2, (0, v2)), (3, (0, v3))]) (st' := [(0, v3), (2, 1003), (0, v2)]) rfl ?_
  refine rn_iald (n := 120) rfl rfl rfl h (fun a1 h => ?_)
  refine rn_if (t := 133) rfl rfl rfl rfl h (fun h => ?_) (fun h => ?_)
  · refine rn_sls 1 (pc' := 134) (ls' := [(0, (2, 1000)), (1, (0, v1)), (2, (0, v2)), (3, (0, v3))]) (st' := [(0, 0), (0, v2)]) rfl ?_
    exact rn_sub [0, 1, 3] rfl (t_M_isPlain_B134 d k9 hk9 _ _ _ _ _ _ h)
  · refine rn_sls 4 (pc' := 128) (ls' := [(0, (2, 1000)), (1, (0, v1)), (2, (0, v2)), (3, (0, v3))]) (st' := [(0, v3), (2, 1003), (0, 1), (0, v2)]) rfl ?_
    refine rn_iald (n := 120) rfl rfl rfl h (fun a2 h => ?_)
    refine rn_sls 1 (pc' := 130) (ls' := [(0, (2, 1000)), (1, (0, v1)), (2, (0, v2)), (3, (0, v3))]) (st' := [(0, (aShl 1 a2)), (0, v2)]) rfl ?_
    refine rn_goto (t := 134) rfl rfl rfl ?_
    exact rn_sub [0, 1, 3] rfl (t_M_isPlain_B134 d k9 hk9 _ _ _ _ _ _ h)
set_option maxRecDepth 20000 in
theorem t_M_isPlain_L53_b (d : Nat) (k9 : Int → Int → Int → am_M → am_O) (hk9 : ∀ (v1 : Int) (v2 : Int) (v3 : Int) (μ : am_M) q, k9 v1 v2 v3 μ = some q → am_run none (am_ar g_mt (d + 2)) 5 (some .boolean) k_M_isPlain 9 [(0, (2, 1000)), (1, (0, v1)), (2, (0, v2)), (3, (0, v3))] [] μ (am_res 0 q)) (k53 : Int → Int → Int → Int → am_M → am_O) (hk53 : ∀ (v1 : Int) (v2 : Int) (v3 : Int) (v4 : Int) (μ : am_M) q, k53 v1 v2 v3 v4 μ = some q → am_run none (am_ar g_mt (d + 2)) 5 (some .boolean) k_M_isPlain 53 [(0, (2, 1000)), (1, (0, v1)), (2, (0, v2)), (3, (0, v3)), (4, (0, v4))] [] μ (am_res 0 q)) : ∀ (v1 : Int) (v2 : Int) (v3 : Int) (v4 : Int) (μ : am_M) q, M_isPlain_L53_b k9 k53 v1 v2 v3 v4 μ = some q → am_run none (am_ar g_mt (d + 2)) 5 (some .boolean) k_M_isPlain 53 [(0, (2, 1000)), (1, (0, v1)), (2, (0, v2)), (3, (0, v3)), (4, (0, v4))] [] μ (am_res 0 q) := by
  intro v1 v2 v3 v4 μ q h
  unfold M_isPlain_L53_b at h
  refine rn_sls 2 (pc' := 57) (ls' := [(0, (2, 1000)), (1, (0, v1)), (2, (0, v2)), (3, (0, v3)), (4, (0, v4))]) (st' := [(0, 10), (0, v4)]) rfl ?_
  refine rn_icmpn (t := 87) rfl rfl rfl rfl h (fun h => ?_) (fun h => ?_)
  · refine rn_sls 3 (pc' := 64) (ls' := [(0, (2, 1000)), (1, (0, v1)), (2, (0, v2)), (3, (0, v3)), (4, (0, v4))]) (st' := [(0, v4), (0, v3), (2, 1000)]) rfl ?_
    refine rn_call 0 0 [(2, 1000), (0, v3), (0, v4)] (r := []) rfl ⟨rfl, Or.inl ⟨_, rfl, by decide⟩⟩ (by decide) (fun _ => ⟨_, rfl, rfl⟩) rfl rfl (Nat.le_of_ble_eq_true rfl) h (fun w hw => t_M_readsOf (d + 0) _ _ _ _ hw) (fun a3 μ4 h => ?_)
    refine rn_sls 0 (pc' := 67) (ls' := [(0, (2, 1000)), (1, (0, v1)), (2, (0, v2)), (3, (0, v3)), (4, (0, v4))]) (st' := [(0, a3)]) rfl ?_
    refine rn_if (t := 81) rfl rfl rfl rfl h (fun h => ?_) (fun h => ?_)
    · exact rn_sub [0, 1, 2, 3, 4] rfl (t_M_isPlain_B81 d k9 hk9 k53 hk53 _ _ _ _ _ _ h)
    · refine rn_sls 5 (pc' := 76) (ls' := [(0, (2, 1000)), (1, (0, v1)), (2, (0, v2)), (3, (0, v3)), (4, (0, v4))]) (st' := [(0, (aAnd (aShr v2 v4) 1))]) rfl ?_
      refine rn_ifn (t := 81) rfl rfl rfl rfl h (fun h => ?_) (fun h => ?_)
      · refine rn_sls 1 (pc' := 80) (ls' := [(0, (2, 1000)), (1, (0, v1)), (2, (0, v2)), (3, (0, v3)), (4, (0, v4))]) (st' := [(0, 0)]) rfl ?_
        exact rn_iretb rfl rfl rfl (Or.inl rfl) h rfl
      · exact rn_sub [0, 1, 2, 3, 4] rfl (t_M_isPlain_B81 d k9 hk9 k53 hk53 _ _ _ _ _ _ h)
  · refine rn_sls 3 (pc' := 92) (ls' := [(0, (2, 1000)), (1, (0, v1)), (2, (0, v2)), (3, (0, v3)), (4, (0, v4))]) (st' := [(0, v3), (2, 1003)]) rfl ?_
    refine rn_iald (n := 120) rfl rfl rfl h (fun a1 h => ?_)
    refine rn_if (t := 112) rfl rfl rfl rfl h (fun h => ?_) (fun h => ?_)
    · exact rn_sub [0, 1, 2, 3] rfl (t_M_isPlain_B112 d k9 hk9 _ _ _ _ _ h)
    · refine rn_sls 4 (pc' := 102) (ls' := [(0, (2, 1000)), (1, (0, v1)), (2, (0, v2)), (3, (0, v3)), (4, (0, v4))]) (st' := [(0, v3), (2, 1003), (0, v2)]) rfl ?_
      refine rn_iald (n := 120) rfl rfl rfl h (fun a2 h => ?_)
      refine rn_sls 4 (pc' := 107) (ls' := [(0, (2, 1000)), (1, (0, v1)), (2, (0, v2)), (3, (0, v3)), (4, (0, v4))]) (st' := [(0, 1), (0, (aAnd (aShr v2 a2) 1))]) rfl ?_
      refine rn_icmpn (t := 112) rfl rfl rfl rfl h (fun h => ?_) (fun h => ?_)
      · refine rn_sls 1 (pc' := 111) (ls' := [(0, (2, 1000)), (1, (0, v1)), (2, (0, v2)), (3, (0, v3)), (4, (0, v4))]) (st' := [(0, 0)]) rfl ?_
        exact rn_iretb rfl rfl rfl (Or.inl rfl) h rfl
      · exact rn_sub [0, 1, 2, 3] rfl (t_M_isPlain_B112 d k9 hk9 _ _ _ _ _ h)
set_option maxRecDepth 20000 in
theorem t_M_isPlain_L53 (d : Nat) (k9 : Int → Int → Int → am_M → am_O) (hk9 : ∀ (v1 : Int) (v2 : Int) (v3 : Int) (μ : am_M) q, k9 v1 v2 v3 μ = some q → am_run none (am_ar g_mt (d + 2)) 5 (some .boolean) k_M_isPlain 9 [(0, (2, 1000)), (1, (0, v1)), (2, (0, v2)), (3, (0, v3))] [] μ (am_res 0 q)) : ∀ (n : Nat) (v1 : Int) (v2 : Int) (v3 : Int) (v4 : Int) (μ : am_M) q, M_isPlain_L53 k9 n v1 v2 v3 v4 μ = some q → am_run none (am_ar g_mt (d + 2)) 5 (some .boolean) k_M_isPlain 53 [(0, (2, 1000)), (1, (0, v1)), (2, (0, v2)), (3, (0, v3)), (4, (0, v4))] [] μ (am_res 0 q) := by
  intro n
  induction n with
  | zero => intro v1 v2 v3 v4 μ q h; cases h
  | succ n ih => intro v1 v2 v3 v4 μ q h; exact t_M_isPlain_L53_b d k9 hk9 (M_isPlain_L53 k9 n) ih v1 v2 v3 v4 μ q h
set_option maxRecDepth 20000 in
theorem t_M_isPlain_B50 (d : Nat) (k9 : Int → Int → Int → am_M → am_O) (hk9 : ∀ (v1 : Int) (v2 : Int) (v3 : Int) (μ : am_M) q, k9 v1 v2 v3 μ = some q → am_run none (am_ar g_mt (d + 2)) 5 (some .boolean) k_M_isPlain 9 [(0, (2, 1000)), (1, (0, v1)), (2, (0, v2)), (3, (0, v3))] [] μ (am_res 0 q)) : ∀ (v1 : Int) (v2 : Int) (v3 : Int) (μ : am_M) q, M_isPlain_B50 k9 v1 v2 v3 μ = some q → am_run none (am_ar g_mt (d + 2)) 5 (some .boolean) k_M_isPlain 50 [(0, (2, 1000)), (1, (0, v1)), (2, (0, v2)), (3, (0, v3))] [] μ (am_res 0 q) := by
  intro v1 v2 v3 μ q h
  unfold M_isPlain_B50 at h
  refine rn_sls 2 (pc' := 53) (ls' := [(4, (0, 0)), (0, (2, 1000)), (1, (0, v1)), (2, (0, v2)), (3, (0, v3))]) (st' := []) rfl ?_
  exact rn_sub [1, 2, 3, 4, 0] rfl (t_M_isPlain_L53 d k9 hk9 am_FU _ _ _ _ _ _ h)
set_option maxRecDepth 20000 in
theorem t_M_isPlain_L9_b (d : Nat) (k9 : Int → Int → Int → am_M → am_O) (hk9 : ∀ (v1 : Int) (v2 : Int) (v3 : Int) (μ : am_M) q, k9 v1 v2 v3 μ = some q → am_run none (am_ar g_mt (d + 2)) 5 (some .boolean) k_M_isPlain 9 [(0, (2, 1000)), (1, (0, v1)), (2, (0, v2)), (3, (0, v3))] [] μ (am_res 0 q)) : ∀ (v1 : Int) (v2 : Int) (v3 : Int) (μ : am_M) q, M_isPlain_L9_b k9 v1 v2 v3 μ = some q → am_run none (am_ar g_mt (d + 2)) 5 (some .boolean) k_M_isPlain 9 [(0, (2, 1000)), (1, (0, v1)), (2, (0, v2)), (3, (0, v3))] [] μ (am_res 0 q) := by
  intro v1 v2 v3 μ q h
  unfold M_isPlain_L9_b at h
  refine rn_sls 3 (pc' := 12) (ls' := [(0, (2, 1000)), (1, (0, v1)), (2, (0, v2)), (3, (0, v3))]) (st' := [(0, v1), (2, 1000), (0, v3)]) rfl ?_
  refine rn_call 0 0 [(2, 1000), (0, v1)] (r := [(0, v3)]) rfl ⟨rfl, Or.inl ⟨_, rfl, by decide⟩⟩ (by decide) (fun _ => ⟨_, rfl, rfl⟩) rfl rfl (Nat.le_of_ble_eq_true rfl) h (fun w hw => t_M_lastLine (d + 1) _ _ _ hw) (fun a1 μ2 h => ?_)
  refine rn_sls 0 (pc' := 15) (ls' := [(0, (2, 1000)), (1, (0, v1)), (2, (0, v2)), (3, (0, v3))]) (st' := [(0, a1), (0, v3)]) rfl ?_
  refine rn_icmpn (t := 142) rfl rfl rfl rfl h (fun h => ?_) (fun h => ?_)
  · refine rn_sls 3 (pc' := 23) (ls' := [(0, (2, 1000)), (1, (0, v1)), (2, (0, v2)), (3, (0, v3))]) (st' := [(0, v3), (2, 1002)]) rfl ?_
    refine rn_iald (n := 120) rfl rfl rfl h (fun a3 h => ?_)
    refine rn_if (t := 50) rfl rfl rfl rfl h (fun h => ?_) (fun h => ?_)
    · exact rn_sub [0, 1, 2, 3] rfl (t_M_isPlain_B50 d k9 hk9 _ _ _ _ _ h)
    · refine rn_sls 3 (pc' := 32) (ls' := [(0, (2, 1000)), (1, (0, v1)), (2, (0, v2)), (3, (0, v3))]) (st' := [(0, v3), (2, 1002)]) rfl ?_
      refine rn_iald (n := 120) rfl rfl rfl h (fun a4 h => ?_)
      refine rn_sls 1 (pc' := 34) (ls' := [(0, (2, 1000)), (1, (0, v1)), (2, (0, v2)), (3, (0, v3))]) (st' := [(0, 1), (0, a4)]) rfl ?_
      refine rn_icmp (t := 50) rfl rfl rfl rfl h (fun h => ?_) (fun h => ?_)
      · exact rn_sub [0, 1, 2, 3] rfl (t_M_isPlain_B50 d k9 hk9 _ _ _ _ _ h)
      · refine rn_sls 3 (pc' := 42) (ls' := [(0, (2, 1000)), (1, (0, v1)), (2, (0, v2)), (3, (0, v3))]) (st' := [(0, v3), (2, 1002)]) rfl ?_
        refine rn_iald (n := 120) rfl rfl rfl h (fun a5 h => ?_)
        refine rn_sls 1 (pc' := 45) (ls' := [(0, (2, 1000)), (1, (0, v1)), (2, (0, v2)), (3, (0, v3))]) (st' := [(0, 8), (0, a5)]) rfl ?_
        refine rn_icmp (t := 50) rfl rfl rfl rfl h (fun h => ?_) (fun h => ?_)
        · exact rn_sub [0, 1, 2, 3] rfl (t_M_isPlain_B50 d k9 hk9 _ _ _ _ _ h)
        · refine rn_sls 1 (pc' := 49) (ls' := [(0, (2, 1000)), (1, (0, v1)), (2, (0, v2)), (3, (0, v3))]) (st' := [(0, 0)]) rfl ?_
          exact rn_iretb rfl rfl rfl (Or.inl rfl) h rfl
  · refine rn_sls 1 (pc' := 143) (ls' := [(0, (2, 1000)), (1, (0, v1)), (2, (0, v2)), (3, (0, v3))]) (st' := [(0, 1)]) rfl ?_
    exact rn_iretb rfl rfl rfl (Or.inr rfl) h rfl
set_option maxRecDepth 20000 in
theorem t_M_isPlain_L9 (d : Nat) : ∀ (n : Nat) (v1 : Int) (v2 : Int) (v3 : Int) (μ : am_M) q, M_isPlain_L9 n v1 v2 v3 μ = some q → am_run none (am_ar g_mt (d + 2)) 5 (some .boolean) k_M_isPlain 9 [(0, (2, 1000)), (1, (0, v1)), (2, (0, v2)), (3, (0, v3))] [] μ (am_res 0 q) := by
  intro n
  induction n with
  | zero => intro v1 v2 v3 μ q h; cases h
  | succ n ih => intro v1 v2 v3 μ q h; exact t_M_isPlain_L9_b d (M_isPlain_L9 n) ih v1 v2 v3 μ q h
set_option maxRecDepth 20000 in
theorem t_M_isPlain (d : Nat) : ∀ (v1 : Int) (μ : am_M) q, M_isPlain v1 μ = some q → am_ar g_mt (d + 3) 227 [(2, 1000), (0, v1)] μ (am_res 0 q) := by
  intro v1 μ q h
  unfold M_isPlain at h
  refine am_ar_of (d := d + 2) i_M_isPlain rfl rfl (Nat.le_of_ble_eq_true rfl) ?_
  show am_run none (am_ar g_mt (d + 2)) 5 (some .boolean) k_M_isPlain 0 [(0, (2, 1000)), (1, (0, v1))] [] μ (am_res 0 q)
  refine rn_sls 5 (pc' := 7) (ls' := [(2, (0, 0)), (0, (2, 1000)), (1, (0, v1))]) (st' := [(0, v1), (2, 1017)]) rfl ?_
  refine rn_iald (n := 8) rfl rfl rfl h (fun a1 h => ?_)
  refine rn_sls 1 (pc' := 9) (ls' := [(3, (0, a1)), (2, (0, 0)), (0, (2, 1000)), (1, (0, v1))]) (st' := []) rfl ?_
  exact rn_sub [2, 3, 1, 0] rfl (t_M_isPlain_L9 d  am_FU _ _ _ _ _ h)
set_option maxRecDepth 20000 in
theorem t_M_plain (d : Nat) : ∀ (v1 : Int) (μ : am_M) q, M_plain v1 μ = some q → am_ar g_mt (d + 4) 228 [(2, 1000), (0, v1)] μ (am_res 0 q) := by
  intro v1 μ q h
  unfold M_plain at h
  refine am_ar_of (d := d + 3) i_M_plain rfl rfl (Nat.le_of_ble_eq_true rfl) ?_
  show am_run none (am_ar g_mt (d + 3)) 2 (some .int) k_M_plain 0 [(0, (2, 1000)), (1, (0, v1))] [] μ (am_res 0 q)
  refine rn_sls 2 (pc' := 2) (ls' := [(0, (2, 1000)), (1, (0, v1))]) (st' := [(0, 0), (2, 1000)]) rfl ?_
  refine rn_put rfl rfl rfl rfl (Or.inl ⟨rfl, rfl⟩) rfl h (fun μ1 h => ?_)
  refine rn_sls 2 (pc' := 7) (ls' := [(0, (2, 1000)), (1, (0, v1))]) (st' := [(0, v1), (2, 1000)]) rfl ?_
  refine rn_call 0 0 [(2, 1000), (0, v1)] (r := []) rfl ⟨rfl, Or.inl ⟨_, rfl, by decide⟩⟩ (by decide) (fun _ => ⟨_, rfl, rfl⟩) rfl rfl (Nat.le_of_ble_eq_true rfl) h (fun w hw => t_M_isBill (d + 2) _ _ _ hw) (fun a2 μ3 h => ?_)
  refine rn_sls 0 (pc' := 10) (ls' := [(0, (2, 1000)), (1, (0, v1))]) (st' := [(0, a2)]) rfl ?_
  refine rn_if (t := 29) rfl rfl rfl rfl h (fun h => ?_) (fun h => ?_)
  · refine rn_sls 1 (pc' := 30) (ls' := [(0, (2, 1000)), (1, (0, v1))]) (st' := [(0, (-1))]) rfl ?_
    exact rn_ireti rfl rfl rfl h rfl
  · refine rn_sls 2 (pc' := 15) (ls' := [(0, (2, 1000)), (1, (0, v1))]) (st' := [(0, v1), (2, 1000)]) rfl ?_
    refine rn_call 0 0 [(2, 1000), (0, v1)] (r := []) rfl ⟨rfl, Or.inl ⟨_, rfl, by decide⟩⟩ (by decide) (fun _ => ⟨_, rfl, rfl⟩) rfl rfl (Nat.le_of_ble_eq_true rfl) h (fun w hw => t_M_isPlain (d + 0) _ _ _ hw) (fun a4 μ5 h => ?_)
    refine rn_sls 0 (pc' := 18) (ls' := [(0, (2, 1000)), (1, (0, v1))]) (st' := [(0, a4)]) rfl ?_
    refine rn_if (t := 25) rfl rfl rfl rfl h (fun h => ?_) (fun h => ?_)
    · refine rn_sls 1 (pc' := 26) (ls' := [(0, (2, 1000)), (1, (0, v1))]) (st' := [(0, 0)]) rfl ?_
      refine rn_goto (t := 30) rfl rfl rfl ?_
      exact rn_ireti rfl rfl rfl h rfl
    · refine rn_sls 1 (pc' := 22) (ls' := [(0, (2, 1000)), (1, (0, v1))]) (st' := [(0, 1)]) rfl ?_
      refine rn_goto (t := 30) rfl rfl rfl ?_
      exact rn_ireti rfl rfl rfl h rfl
set_option maxRecDepth 20000 in
theorem t_M_isLaidOut_B61 (d : Nat) (k25 : Int → Int → Int → am_M → am_O) (hk25 : ∀ (v1 : Int) (v2 : Int) (v3 : Int) (μ : am_M) q, k25 v1 v2 v3 μ = some q → am_run none (am_ar g_mt (d + 3)) 5 (some .boolean) k_M_isLaidOut 25 [(0, (2, 1000)), (1, (0, v1)), (2, (0, v2)), (3, (0, v3))] [] μ (am_res 0 q)) : ∀ (v1 : Int) (v2 : Int) (v3 : Int) (s1 : Int) (s2 : Int) (μ : am_M) q, M_isLaidOut_B61 k25 v1 v2 v3 s1 s2 μ = some q → am_run none (am_ar g_mt (d + 3)) 5 (some .boolean) k_M_isLaidOut 61 [(0, (2, 1000)), (1, (0, v1)), (2, (0, v2)), (3, (0, v3))] [(0, s2), (0, s1), (2, 1057)] μ (am_res 0 q) := by
  intro v1 v2 v3 s1 s2 μ q h
  unfold M_isLaidOut_B61 at h
  refine rn_bast (n := 10) rfl rfl rfl h (fun μ1 h => ?_)
  refine rn_sls 4 (pc' := 68) (ls' := [(0, (2, 1000)), (1, (0, v1)), (2, (0, v2)), (3, (0, v3))]) (st' := [(0, (-1)), (0, v3), (2, 1058)]) rfl ?_
  refine rn_iast (n := 10) rfl rfl rfl h (fun μ2 h => ?_)
  refine rn_sls 1 (pc' := 72) (ls' := [(3, (0, (w32 (v3 + 1)))), (0, (2, 1000)), (1, (0, v1)), (2, (0, v2))]) (st' := []) rfl ?_
  refine rn_goto (t := 25) rfl rfl rfl ?_
  exact rn_sub [1, 2, 3, 0] rfl (hk25 _ _ _ _ _ h)
set_option maxRecDepth 20000 in
theorem t_M_isLaidOut_B139 (d : Nat) (k82 : Int → Int → Int → am_M → am_O) (hk82 : ∀ (v1 : Int) (v2 : Int) (v3 : Int) (μ : am_M) q, k82 v1 v2 v3 μ = some q → am_run none (am_ar g_mt (d + 3)) 5 (some .boolean) k_M_isLaidOut 82 [(0, (2, 1000)), (1, (0, v1)), (2, (0, v2)), (3, (0, v3))] [] μ (am_res 0 q)) : ∀ (v1 : Int) (v2 : Int) (v3 : Int) (μ : am_M) q, M_isLaidOut_B139 k82 v1 v2 v3 μ = some q → am_run none (am_ar g_mt (d + 3)) 5 (some .boolean) k_M_isLaidOut 139 [(0, (2, 1000)), (1, (0, v1)), (2, (0, v2)), (3, (0, v3))] [] μ (am_res 0 q) := by
  intro v1 v2 v3 μ q h
  unfold M_isLaidOut_B139 at h
  refine rn_sls 1 (pc' := 142) (ls' := [(3, (0, (w32 (v3 + 1)))), (0, (2, 1000)), (1, (0, v1)), (2, (0, v2))]) (st' := []) rfl ?_
  refine rn_goto (t := 82) rfl rfl rfl ?_
  exact rn_sub [1, 2, 3, 0] rfl (hk82 _ _ _ _ _ h)
set_option maxRecDepth 20000 in
theorem t_M_isLaidOut_B253 (d : Nat) (k157 : Int → am_M → am_O) (hk157 : ∀ (v3 : Int) (μ : am_M) q, k157 v3 μ = some q → am_run none (am_ar g_mt (d + 3)) 5 (some .boolean) k_M_isLaidOut 157 [(0, (2, 1000)), (3, (0, v3))] [] μ (am_res 0 q)) (k181 : Int → Int → am_M → am_O) (hk181 : ∀ (v3 : Int) (v4 : Int) (μ : am_M) q, k181 v3 v4 μ = some q → am_run none (am_ar g_mt (d + 3)) 5 (some .boolean) k_M_isLaidOut 181 [(0, (2, 1000)), (3, (0, v3)), (4, (0, v4))] [] μ (am_res 0 q)) : ∀ (v3 : Int) (v4 : Int) (μ : am_M) q, M_isLaidOut_B253 k157 k181 v3 v4 μ = some q → am_run none (am_ar g_mt (d + 3)) 5 (some .boolean) k_M_isLaidOut 253 [(0, (2, 1000)), (3, (0, v3)), (4, (0, v4))] [] μ (am_res 0 q) := by
  intro v3 v4 μ q h
  unfold M_isLaidOut_B253 at h
  refine rn_sls 1 (pc' := 256) (ls' := [(4, (0, (w32 (v4 + 1)))), (0, (2, 1000)), (3, (0, v3))]) (st' := []) rfl ?_
  refine rn_goto (t := 181) rfl rfl rfl ?_
  exact rn_sub [1, 2, 0] rfl (hk181 _ _ _ _ h)
set_option maxRecDepth 20000 in
theorem t_M_isLaidOut_L181_b (d : Nat) (k157 : Int → am_M → am_O) (hk157 : ∀ (v3 : Int) (μ : am_M) q, k157 v3 μ = some q → am_run none (am_ar g_mt (d + 3)) 5 (some .boolean) k_M_isLaidOut 157 [(0, (2, 1000)), (3, (0, v3))] [] μ (am_res 0 q)) (k181 : Int → Int → am_M → am_O) (hk181 : ∀ (v3 : Int) (v4 : Int) (μ : am_M) q, k181 v3 v4 μ = some q → am_run none (am_ar g_mt (d + 3)) 5 (some .boolean) k_M_isLaidOut 181 [(0, (2, 1000)), (3, (0, v3)), (4, (0, v4))] [] μ (am_res 0 q)) : ∀ (v3 : Int) (v4 : Int) (μ : am_M) q, M_isLaidOut_L181_b k157 k181 v3 v4 μ = some q → am_run none (am_ar g_mt (d + 3)) 5 (some .boolean) k_M_isLaidOut 181 [(0, (2, 1000)), (3, (0, v3)), (4, (0, v4))] [] μ (am_res 0 q) := by
  intro v3 v4 μ q h
  unfold M_isLaidOut_L181_b at h
  refine rn_sls 2 (pc' := 185) (ls' := [(0, (2, 1000)), (3, (0, v3)), (4, (0, v4))]) (st' := [(0, 10), (0, v4)]) rfl ?_
  refine rn_icmpn (t := 259) rfl rfl rfl rfl h (fun h => ?_) (fun h => ?_)
  · refine rn_sls 4 (pc' := 194) (ls' := [(0, (2, 1000)), (3, (0, v3)), (4, (0, v4))]) (st' := [(0, v3), (2, 1054), (2, 1000)]) rfl ?_
    refine rn_iald (n := 60) rfl rfl rfl h (fun a1 h => ?_)
    refine rn_sls 1 (pc' := 197) (ls' := [(0, (2, 1000)), (3, (0, v3)), (4, (0, v4))]) (st' := [(0, v4), (0, a1), (2, 1000)]) rfl ?_
    refine rn_call 0 0 [(2, 1000), (0, a1), (0, v4)] (r := []) rfl ⟨rfl, Or.inl ⟨_, rfl, by decide⟩⟩ (by decide) (fun _ => ⟨_, rfl, rfl⟩) rfl rfl (Nat.le_of_ble_eq_true rfl) h (fun w hw => t_M_readsOf (d + 1) _ _ _ _ hw) (fun a2 μ3 h => ?_)
    refine rn_sls 0 (pc' := 200) (ls' := [(0, (2, 1000)), (3, (0, v3)), (4, (0, v4))]) (st' := [(0, a2)]) rfl ?_
    refine rn_ifn (t := 206) rfl rfl rfl rfl h (fun h => ?_) (fun h => ?_)
    · refine rn_goto (t := 253) rfl rfl rfl ?_
      exact rn_sub [0, 1, 2] rfl (t_M_isLaidOut_B253 d k157 hk157 k181 hk181 _ _ _ _ h)
    · refine rn_sls 4 (pc' := 213) (ls' := [(0, (2, 1000)), (3, (0, v3)), (4, (0, v4))]) (st' := [(0, v4), (2, 1056), (0, v4), (2, 1056)]) rfl ?_
      refine rn_iald (n := 10) rfl rfl rfl h (fun a4 h => ?_)
      refine rn_sls 4 (pc' := 218) (ls' := [(0, (2, 1000)), (3, (0, v3)), (4, (0, v4))]) (st' := [(0, (aOr a4 (aShl 1 v3))), (0, v4), (2, 1056)]) rfl ?_
      refine rn_iast (n := 10) rfl rfl rfl h (fun μ5 h => ?_)
      refine rn_sls 3 (pc' := 225) (ls' := [(0, (2, 1000)), (3, (0, v3)), (4, (0, v4))]) (st' := [(0, v4), (2, 1058)]) rfl ?_
      refine rn_iald (n := 10) rfl rfl rfl h (fun a6 h => ?_)
      refine rn_if (t := 253) rfl rfl rfl rfl h (fun h => ?_) (fun h => ?_)
      · exact rn_sub [0, 1, 2] rfl (t_M_isLaidOut_B253 d k157 hk157 k181 hk181 _ _ _ _ h)
      · refine rn_sls 2 (pc' := 232) (ls' := [(0, (2, 1000)), (3, (0, v3)), (4, (0, v4))]) (st' := [(0, 12), (0, v3)]) rfl ?_
        refine rn_icmpn (t := 253) rfl rfl rfl rfl h (fun h => ?_) (fun h => ?_)
        · refine rn_sls 4 (pc' := 241) (ls' := [(0, (2, 1000)), (3, (0, v3)), (4, (0, v4))]) (st' := [(0, v3), (2, 1055), (0, v3), (2, 1055)]) rfl ?_
          refine rn_iald (n := 12) rfl rfl rfl h (fun a7 h => ?_)
          refine rn_sls 4 (pc' := 249) (ls' := [(0, (2, 1000)), (3, (0, v3)), (4, (0, v4))]) (st' := [(0, v4), (2, 1058), (0, 1), (0, a7), (0, v3), (2, 1055)]) rfl ?_
          refine rn_iald (n := 10) rfl rfl rfl h (fun a8 h => ?_)
          refine rn_sls 2 (pc' := 252) (ls' := [(0, (2, 1000)), (3, (0, v3)), (4, (0, v4))]) (st' := [(0, (aOr a7 (aShl 1 a8))), (0, v3), (2, 1055)]) rfl ?_
          refine rn_iast (n := 12) rfl rfl rfl h (fun μ9 h => ?_)
          exact rn_sub [0, 1, 2] rfl (t_M_isLaidOut_B253 d k157 hk157 k181 hk181 _ _ _ _ h)
        · exact rn_sub [0, 1, 2] rfl (t_M_isLaidOut_B253 d k157 hk157 k181 hk181 _ _ _ _ h)
  · refine rn_sls 1 (pc' := 262) (ls' := [(3, (0, (w32 (v3 + 1)))), (0, (2, 1000)), (4, (0, v4))]) (st' := []) rfl ?_
    refine rn_goto (t := 157) rfl rfl rfl ?_
    exact rn_sub [1, 0] rfl (hk157 _ _ _ h)
set_option maxRecDepth 20000 in
theorem t_M_isLaidOut_L181 (d : Nat) (k157 : Int → am_M → am_O) (hk157 : ∀ (v3 : Int) (μ : am_M) q, k157 v3 μ = some q → am_run none (am_ar g_mt (d + 3)) 5 (some .boolean) k_M_isLaidOut 157 [(0, (2, 1000)), (3, (0, v3))] [] μ (am_res 0 q)) : ∀ (n : Nat) (v3 : Int) (v4 : Int) (μ : am_M) q, M_isLaidOut_L181 k157 n v3 v4 μ = some q → am_run none (am_ar g_mt (d + 3)) 5 (some .boolean) k_M_isLaidOut 181 [(0, (2, 1000)), (3, (0, v3)), (4, (0, v4))] [] μ (am_res 0 q) := by
  intro n
  induction n with
  | zero => intro v3 v4 μ q h; cases h
  | succ n ih => intro v3 v4 μ q h; exact t_M_isLaidOut_L181_b d k157 hk157 (M_isLaidOut_L181 k157 n) ih v3 v4 μ q h
set_option maxRecDepth 20000 in
theorem t_M_isLaidOut_B178 (d : Nat) (k157 : Int → am_M → am_O) (hk157 : ∀ (v3 : Int) (μ : am_M) q, k157 v3 μ = some q → am_run none (am_ar g_mt (d + 3)) 5 (some .boolean) k_M_isLaidOut 157 [(0, (2, 1000)), (3, (0, v3))] [] μ (am_res 0 q)) : ∀ (v3 : Int) (μ : am_M) q, M_isLaidOut_B178 k157 v3 μ = some q → am_run none (am_ar g_mt (d + 3)) 5 (some .boolean) k_M_isLaidOut 178 [(0, (2, 1000)), (3, (0, v3))] [] μ (am_res 0 q) := by
  intro v3 μ q h
  unfold M_isLaidOut_B178 at h
  refine rn_sls 2 (pc' := 181) (ls' := [(4, (0, 0)), (0, (2, 1000)), (3, (0, v3))]) (st' := []) rfl ?_
  exact rn_sub [1, 2, 0] rfl (t_M_isLaidOut_L181 d k157 hk157 am_FU _ _ _ _ h)
set_option maxRecDepth 20000 in
theorem t_M_isLaidOut_L157_b (d : Nat) (k157 : Int → am_M → am_O) (hk157 : ∀ (v3 : Int) (μ : am_M) q, k157 v3 μ = some q → am_run none (am_ar g_mt (d + 3)) 5 (some .boolean) k_M_isLaidOut 157 [(0, (2, 1000)), (3, (0, v3))] [] μ (am_res 0 q)) : ∀ (v3 : Int) (μ : am_M) q, M_isLaidOut_L157_b k157 v3 μ = some q → am_run none (am_ar g_mt (d + 3)) 5 (some .boolean) k_M_isLaidOut 157 [(0, (2, 1000)), (3, (0, v3))] [] μ (am_res 0 q) := by
  intro v3 μ q h
  unfold M_isLaidOut_L157_b at h
  refine rn_sls 3 (pc' := 162) (ls' := [(0, (2, 1000)), (3, (0, v3))]) (st' := [(0, (μ 1000 79)), (0, v3)]) rfl ?_
  refine rn_icmpn (t := 265) rfl rfl rfl rfl h (fun h => ?_) (fun h => ?_)
  · refine rn_sls 2 (pc' := 168) (ls' := [(0, (2, 1000)), (3, (0, v3))]) (st' := [(0, 12), (0, v3)]) rfl ?_
    refine rn_icmpn (t := 178) rfl rfl rfl rfl h (fun h => ?_) (fun h => ?_)
    · refine rn_sls 4 (pc' := 177) (ls' := [(0, (2, 1000)), (3, (0, v3))]) (st' := [(0, 0), (0, v3), (2, 1055)]) rfl ?_
      refine rn_iast (n := 12) rfl rfl rfl h (fun μ1 h => ?_)
      exact rn_sub [0, 1] rfl (t_M_isLaidOut_B178 d k157 hk157 _ _ _ h)
    · exact rn_sub [0, 1] rfl (t_M_isLaidOut_B178 d k157 hk157 _ _ _ h)
  · refine rn_sls 1 (pc' := 266) (ls' := [(0, (2, 1000)), (3, (0, v3))]) (st' := [(0, 1)]) rfl ?_
    exact rn_iretb rfl rfl rfl (Or.inr rfl) h rfl
set_option maxRecDepth 20000 in
theorem t_M_isLaidOut_L157 (d : Nat) : ∀ (n : Nat) (v3 : Int) (μ : am_M) q, M_isLaidOut_L157 n v3 μ = some q → am_run none (am_ar g_mt (d + 3)) 5 (some .boolean) k_M_isLaidOut 157 [(0, (2, 1000)), (3, (0, v3))] [] μ (am_res 0 q) := by
  intro n
  induction n with
  | zero => intro v3 μ q h; cases h
  | succ n ih => intro v3 μ q h; exact t_M_isLaidOut_L157_b d (M_isLaidOut_L157 n) ih v3 μ q h
set_option maxRecDepth 20000 in
theorem t_M_isLaidOut_L82_b (d : Nat) (k82 : Int → Int → Int → am_M → am_O) (hk82 : ∀ (v1 : Int) (v2 : Int) (v3 : Int) (μ : am_M) q, k82 v1 v2 v3 μ = some q → am_run none (am_ar g_mt (d + 3)) 5 (some .boolean) k_M_isLaidOut 82 [(0, (2, 1000)), (1, (0, v1)), (2, (0, v2)), (3, (0, v3))] [] μ (am_res 0 q)) : ∀ (v1 : Int) (v2 : Int) (v3 : Int) (μ : am_M) q, M_isLaidOut_L82_b k82 v1 v2 v3 μ = some q → am_run none (am_ar g_mt (d + 3)) 5 (some .boolean) k_M_isLaidOut 82 [(0, (2, 1000)), (1, (0, v1)), (2, (0, v2)), (3, (0, v3))] [] μ (am_res 0 q) := by
  intro v1 v2 v3 μ q h
  unfold M_isLaidOut_L82_b at h
  refine rn_sls 3 (pc' := 85) (ls' := [(0, (2, 1000)), (1, (0, v1)), (2, (0, v2)), (3, (0, v3))]) (st' := [(0, v1), (2, 1000), (0, v3)]) rfl ?_
  refine rn_call 0 0 [(2, 1000), (0, v1)] (r := [(0, v3)]) rfl ⟨rfl, Or.inl ⟨_, rfl, by decide⟩⟩ (by decide) (fun _ => ⟨_, rfl, rfl⟩) rfl rfl (Nat.le_of_ble_eq_true rfl) h (fun w hw => t_M_lastLine (d + 2) _ _ _ hw) (fun a1 μ2 h => ?_)
  refine rn_sls 0 (pc' := 88) (ls' := [(0, (2, 1000)), (1, (0, v1)), (2, (0, v2)), (3, (0, v3))]) (st' := [(0, a1), (0, v3)]) rfl ?_
  refine rn_icmpn (t := 145) rfl rfl rfl rfl h (fun h => ?_) (fun h => ?_)
  · refine rn_sls 3 (pc' := 96) (ls' := [(0, (2, 1000)), (1, (0, v1)), (2, (0, v2)), (3, (0, v3))]) (st' := [(0, v3), (2, 1002)]) rfl ?_
    refine rn_iald (n := 120) rfl rfl rfl h (fun a3 h => ?_)
    refine rn_sls 1 (pc' := 98) (ls' := [(0, (2, 1000)), (1, (0, v1)), (2, (0, v2)), (3, (0, v3))]) (st' := [(0, 1), (0, a3)]) rfl ?_
    refine rn_icmp (t := 104) rfl rfl rfl rfl h (fun h => ?_) (fun h => ?_)
    · refine rn_sls 5 (pc' := 113) (ls' := [(0, (2, 1000)), (1, (0, v1)), (2, (0, v2)), (3, (0, v3))]) (st' := [(0, v3), (0, (μ2 1000 79)), (2, 1054)]) rfl ?_
      refine rn_iast (n := 60) rfl rfl rfl h (fun μ4 h => ?_)
      refine rn_sls 5 (pc' := 123) (ls' := [(0, (2, 1000)), (1, (0, v1)), (2, (0, v2)), (3, (0, v3))]) (st' := [(0, v3), (2, 1003), (2, 1058)]) rfl ?_
      refine rn_iald (n := 120) rfl rfl rfl h (fun a5 h => ?_)
      refine rn_sls 2 (pc' := 128) (ls' := [(0, (2, 1000)), (1, (0, v1)), (2, (0, v2)), (3, (0, v3))]) (st' := [(0, (μ4 1000 79)), (0, a5), (2, 1058)]) rfl ?_
      refine rn_iast (n := 10) rfl rfl rfl h (fun μ6 h => ?_)
      refine rn_sls 5 (pc' := 136) (ls' := [(0, (2, 1000)), (1, (0, v1)), (2, (0, v2)), (3, (0, v3))]) (st' := [(0, (w32 ((μ6 1000 79) + 1))), (2, 1000)]) rfl ?_
      refine rn_put rfl rfl rfl rfl (Or.inl ⟨rfl, rfl⟩) rfl h (fun μ7 h => ?_)
      exact rn_sub [0, 1, 2, 3] rfl (t_M_isLaidOut_B139 d k82 hk82 _ _ _ _ _ h)
    · refine rn_goto (t := 139) rfl rfl rfl ?_
      exact rn_sub [0, 1, 2, 3] rfl (t_M_isLaidOut_B139 d k82 hk82 _ _ _ _ _ h)
  · refine rn_sls 3 (pc' := 150) (ls' := [(0, (2, 1000)), (1, (0, v1)), (2, (0, v2)), (3, (0, v3))]) (st' := [(0, v2), (0, (μ2 1000 79))]) rfl ?_
    refine rn_icmp (t := 155) rfl rfl rfl rfl h (fun h => ?_) (fun h => ?_)
    · refine rn_sls 2 (pc' := 157) (ls' := [(3, (0, 0)), (0, (2, 1000)), (1, (0, v1)), (2, (0, v2))]) (st' := []) rfl ?_
      exact rn_sub [1, 0] rfl (t_M_isLaidOut_L157 d  am_FU _ _ _ h)
    · refine rn_sls 1 (pc' := 154) (ls' := [(0, (2, 1000)), (1, (0, v1)), (2, (0, v2)), (3, (0, v3))]) (st' := [(0, 0)]) rfl ?_
      exact rn_iretb rfl rfl rfl (Or.inl rfl) h rfl
set_option maxRecDepth 20000 in
theorem t_M_isLaidOut_L82 (d : Nat) : ∀ (n : Nat) (v1 : Int) (v2 : Int) (v3 : Int) (μ : am_M) q, M_isLaidOut_L82 n v1 v2 v3 μ = some q → am_run none (am_ar g_mt (d + 3)) 5 (some .boolean) k_M_isLaidOut 82 [(0, (2, 1000)), (1, (0, v1)), (2, (0, v2)), (3, (0, v3))] [] μ (am_res 0 q) := by
  intro n
  induction n with
  | zero => intro v1 v2 v3 μ q h; cases h
  | succ n ih => intro v1 v2 v3 μ q h; exact t_M_isLaidOut_L82_b d (M_isLaidOut_L82 n) ih v1 v2 v3 μ q h
set_option maxRecDepth 20000 in
theorem t_M_isLaidOut_L25_b (d : Nat) (k25 : Int → Int → Int → am_M → am_O) (hk25 : ∀ (v1 : Int) (v2 : Int) (v3 : Int) (μ : am_M) q, k25 v1 v2 v3 μ = some q → am_run none (am_ar g_mt (d + 3)) 5 (some .boolean) k_M_isLaidOut 25 [(0, (2, 1000)), (1, (0, v1)), (2, (0, v2)), (3, (0, v3))] [] μ (am_res 0 q)) : ∀ (v1 : Int) (v2 : Int) (v3 : Int) (μ : am_M) q, M_isLaidOut_L25_b k25 v1 v2 v3 μ = some q → am_run none (am_ar g_mt (d + 3)) 5 (some .boolean) k_M_isLaidOut 25 [(0, (2, 1000)), (1, (0, v1)), (2, (0, v2)), (3, (0, v3))] [] μ (am_res 0 q) := by
  intro v1 v2 v3 μ q h
  unfold M_isLaidOut_L25_b at h
  refine rn_sls 2 (pc' := 28) (ls' := [(0, (2, 1000)), (1, (0, v1)), (2, (0, v2)), (3, (0, v3))]) (st' := [(0, 10), (0, v3)]) rfl ?_
  refine rn_icmpn (t := 75) rfl rfl rfl rfl h (fun h => ?_) (fun h => ?_)
  · refine rn_sls 4 (pc' := 37) (ls' := [(0, (2, 1000)), (1, (0, v1)), (2, (0, v2)), (3, (0, v3))]) (st' := [(0, 0), (0, v3), (2, 1056)]) rfl ?_
    refine rn_iast (n := 10) rfl rfl rfl h (fun μ2 h => ?_)
    refine rn_sls 6 (pc' := 46) (ls' := [(0, (2, 1000)), (1, (0, v1)), (2, (0, v2)), (3, (0, v3))]) (st' := [(0, v1), (2, 1000), (2, 1000), (0, v3), (2, 1057)]) rfl ?_
    refine rn_call 0 0 [(2, 1000), (0, v1)] (r := [(2, 1000), (0, v3), (2, 1057)]) rfl ⟨rfl, Or.inl ⟨_, rfl, by decide⟩⟩ (by decide) (fun _ => ⟨_, rfl, rfl⟩) rfl rfl (Nat.le_of_ble_eq_true rfl) h (fun w hw => t_M_lastLine (d + 2) _ _ _ hw) (fun a3 μ4 h => ?_)
    refine rn_sls 0 (pc' := 49) (ls' := [(0, (2, 1000)), (1, (0, v1)), (2, (0, v2)), (3, (0, v3))]) (st' := [(0, a3), (2, 1000), (0, v3), (2, 1057)]) rfl ?_
    refine rn_sls 1 (pc' := 50) (ls' := [(0, (2, 1000)), (1, (0, v1)), (2, (0, v2)), (3, (0, v3))]) (st' := [(0, v3), (0, a3), (2, 1000), (0, v3), (2, 1057)]) rfl ?_
    refine rn_call 0 0 [(2, 1000), (0, a3), (0, v3)] (r := [(0, v3), (2, 1057)]) rfl ⟨rfl, Or.inl ⟨_, rfl, by decide⟩⟩ (by decide) (fun _ => ⟨_, rfl, rfl⟩) rfl rfl (Nat.le_of_ble_eq_true rfl) h (fun w hw => t_M_readsOf (d + 1) _ _ _ _ hw) (fun a5 μ6 h => ?_)
    refine rn_sls 0 (pc' := 53) (ls' := [(0, (2, 1000)), (1, (0, v1)), (2, (0, v2)), (3, (0, v3))]) (st' := [(0, a5), (0, v3), (2, 1057)]) rfl ?_
    refine rn_if (t := 60) rfl rfl rfl rfl h (fun h => ?_) (fun h => ?_)
    · refine rn_sls 1 (pc' := 61) (ls' := [(0, (2, 1000)), (1, (0, v1)), (2, (0, v2)), (3, (0, v3))]) (st' := [(0, 0), (0, v3), (2, 1057)]) rfl ?_
      exact rn_sub [0, 1, 2, 3] rfl (t_M_isLaidOut_B61 d k25 hk25 _ _ _ _ _ _ _ h)
    · refine rn_sls 1 (pc' := 57) (ls' := [(0, (2, 1000)), (1, (0, v1)), (2, (0, v2)), (3, (0, v3))]) (st' := [(0, 1), (0, v3), (2, 1057)]) rfl ?_
      refine rn_goto (t := 61) rfl rfl rfl ?_
      exact rn_sub [0, 1, 2, 3] rfl (t_M_isLaidOut_B61 d k25 hk25 _ _ _ _ _ _ _ h)
  · refine rn_sls 3 (pc' := 80) (ls' := [(0, (2, 1000)), (1, (0, v1)), (2, (0, v2)), (3, (0, v3))]) (st' := [(0, v1), (2, 1017)]) rfl ?_
    refine rn_iald (n := 8) rfl rfl rfl h (fun a1 h => ?_)
    refine rn_sls 1 (pc' := 82) (ls' := [(3, (0, a1)), (0, (2, 1000)), (1, (0, v1)), (2, (0, v2))]) (st' := []) rfl ?_
    exact rn_sub [1, 2, 3, 0] rfl (t_M_isLaidOut_L82 d  am_FU _ _ _ _ _ h)
set_option maxRecDepth 20000 in
theorem t_M_isLaidOut_L25 (d : Nat) : ∀ (n : Nat) (v1 : Int) (v2 : Int) (v3 : Int) (μ : am_M) q, M_isLaidOut_L25 n v1 v2 v3 μ = some q → am_run none (am_ar g_mt (d + 3)) 5 (some .boolean) k_M_isLaidOut 25 [(0, (2, 1000)), (1, (0, v1)), (2, (0, v2)), (3, (0, v3))] [] μ (am_res 0 q) := by
  intro n
  induction n with
  | zero => intro v1 v2 v3 μ q h; cases h
  | succ n ih => intro v1 v2 v3 μ q h; exact t_M_isLaidOut_L25_b d (M_isLaidOut_L25 n) ih v1 v2 v3 μ q h
set_option maxRecDepth 20000 in
theorem t_M_isLaidOut (d : Nat) : ∀ (v1 : Int) (v2 : Int) (μ : am_M) q, M_isLaidOut v1 v2 μ = some q → am_ar g_mt (d + 4) 229 [(2, 1000), (0, v1), (0, v2)] μ (am_res 0 q) := by
  intro v1 v2 μ q h
  unfold M_isLaidOut at h
  refine am_ar_of (d := d + 3) i_M_isLaidOut rfl rfl (Nat.le_of_ble_eq_true rfl) ?_
  show am_run none (am_ar g_mt (d + 3)) 5 (some .boolean) k_M_isLaidOut 0 [(0, (2, 1000)), (1, (0, v1)), (2, (0, v2))] [] μ (am_res 0 q)
  refine rn_sls 2 (pc' := 2) (ls' := [(0, (2, 1000)), (1, (0, v1)), (2, (0, v2))]) (st' := [(0, 0), (2, 1000)]) rfl ?_
  refine rn_put rfl rfl rfl rfl (Or.inl ⟨rfl, rfl⟩) rfl h (fun μ1 h => ?_)
  refine rn_sls 2 (pc' := 7) (ls' := [(0, (2, 1000)), (1, (0, v1)), (2, (0, v2))]) (st' := [(0, v1), (2, 1000)]) rfl ?_
  refine rn_call 0 0 [(2, 1000), (0, v1)] (r := []) rfl ⟨rfl, Or.inl ⟨_, rfl, by decide⟩⟩ (by decide) (fun _ => ⟨_, rfl, rfl⟩) rfl rfl (Nat.le_of_ble_eq_true rfl) h (fun w hw => t_M_isBill (d + 2) _ _ _ hw) (fun a2 μ3 h => ?_)
  refine rn_sls 0 (pc' := 10) (ls' := [(0, (2, 1000)), (1, (0, v1)), (2, (0, v2))]) (st' := [(0, a2)]) rfl ?_
  refine rn_if (t := 21) rfl rfl rfl rfl h (fun h => ?_) (fun h => ?_)
  · refine rn_sls 1 (pc' := 22) (ls' := [(0, (2, 1000)), (1, (0, v1)), (2, (0, v2))]) (st' := [(0, 0)]) rfl ?_
    exact rn_iretb rfl rfl rfl (Or.inl rfl) h rfl
  · refine rn_sls 2 (pc' := 15) (ls' := [(0, (2, 1000)), (1, (0, v1)), (2, (0, v2))]) (st' := [(0, v1), (2, 1000)]) rfl ?_
    refine rn_call 0 0 [(2, 1000), (0, v1)] (r := []) rfl ⟨rfl, Or.inl ⟨_, rfl, by decide⟩⟩ (by decide) (fun _ => ⟨_, rfl, rfl⟩) rfl rfl (Nat.le_of_ble_eq_true rfl) h (fun w hw => t_M_isPlain (d + 0) _ _ _ hw) (fun a4 μ5 h => ?_)
    refine rn_sls 0 (pc' := 18) (ls' := [(0, (2, 1000)), (1, (0, v1)), (2, (0, v2))]) (st' := [(0, a4)]) rfl ?_
    refine rn_ifn (t := 23) rfl rfl rfl rfl h (fun h => ?_) (fun h => ?_)
    · refine rn_sls 1 (pc' := 22) (ls' := [(0, (2, 1000)), (1, (0, v1)), (2, (0, v2))]) (st' := [(0, 0)]) rfl ?_
      exact rn_iretb rfl rfl rfl (Or.inl rfl) h rfl
    · refine rn_sls 2 (pc' := 25) (ls' := [(3, (0, 0)), (0, (2, 1000)), (1, (0, v1)), (2, (0, v2))]) (st' := []) rfl ?_
      exact rn_sub [1, 2, 3, 0] rfl (t_M_isLaidOut_L25 d  am_FU _ _ _ _ _ h)
set_option maxRecDepth 20000 in
theorem t_M_live_B83 (d : Nat) (k5 : Int → Int → Int → Int → am_M → am_O) (hk5 : ∀ (v1 : Int) (v2 : Int) (v3 : Int) (v4 : Int) (μ : am_M) q, k5 v1 v2 v3 v4 μ = some q → am_run none (am_ar g_mt (d + 0)) 6 (some .int) k_M_live 5 [(0, (2, 1000)), (1, (0, v1)), (2, (0, v2)), (3, (0, v3)), (4, (0, v4))] [] μ (am_res 0 q)) : ∀ (v1 : Int) (v2 : Int) (v4 : Int) (s0 : Int) (s1 : Int) (μ : am_M) q, M_live_B83 k5 v1 v2 v4 s0 s1 μ = some q → am_run none (am_ar g_mt (d + 0)) 6 (some .int) k_M_live 83 [(0, (2, 1000)), (1, (0, v1)), (2, (0, v2)), (4, (0, v4))] [(0, s1), (0, s0)] μ (am_res 0 q) := by
  intro v1 v2 v4 s0 s1 μ q h
  unfold M_live_B83 at h
  refine rn_sls 3 (pc' := 88) (ls' := [(4, (0, (w32 (v4 + 1)))), (3, (0, (w32 (s0 + s1)))), (0, (2, 1000)), (1, (0, v1)), (2, (0, v2))]) (st' := []) rfl ?_
  refine rn_goto (t := 5) rfl rfl rfl ?_
  exact rn_sub [2, 3, 4, 1, 0] rfl (hk5 _ _ _ _ _ _ h)
set_option maxRecDepth 20000 in
theorem t_M_live_B78 (d : Nat) (k5 : Int → Int → Int → Int → am_M → am_O) (hk5 : ∀ (v1 : Int) (v2 : Int) (v3 : Int) (v4 : Int) (μ : am_M) q, k5 v1 v2 v3 v4 μ = some q → am_run none (am_ar g_mt (d + 0)) 6 (some .int) k_M_live 5 [(0, (2, 1000)), (1, (0, v1)), (2, (0, v2)), (3, (0, v3)), (4, (0, v4))] [] μ (am_res 0 q)) : ∀ (v1 : Int) (v2 : Int) (v4 : Int) (s0 : Int) (μ : am_M) q, M_live_B78 k5 v1 v2 v4 s0 μ = some q → am_run none (am_ar g_mt (d + 0)) 6 (some .int) k_M_live 78 [(0, (2, 1000)), (1, (0, v1)), (2, (0, v2)), (4, (0, v4))] [(0, s0)] μ (am_res 0 q) := by
  intro v1 v2 v4 s0 μ q h
  unfold M_live_B78 at h
  refine rn_sls 1 (pc' := 79) (ls' := [(0, (2, 1000)), (1, (0, v1)), (2, (0, v2)), (4, (0, v4))]) (st' := [(0, 1), (0, s0)]) rfl ?_
  refine rn_goto (t := 83) rfl rfl rfl ?_
  exact rn_sub [0, 1, 2, 3] rfl (t_M_live_B83 d k5 hk5 _ _ _ _ _ _ _ h)
set_option maxRecDepth 20000 in
theorem t_M_live_B82 (d : Nat) (k5 : Int → Int → Int → Int → am_M → am_O) (hk5 : ∀ (v1 : Int) (v2 : Int) (v3 : Int) (v4 : Int) (μ : am_M) q, k5 v1 v2 v3 v4 μ = some q → am_run none (am_ar g_mt (d + 0)) 6 (some .int) k_M_live 5 [(0, (2, 1000)), (1, (0, v1)), (2, (0, v2)), (3, (0, v3)), (4, (0, v4))] [] μ (am_res 0 q)) : ∀ (v1 : Int) (v2 : Int) (v4 : Int) (s0 : Int) (μ : am_M) q, M_live_B82 k5 v1 v2 v4 s0 μ = some q → am_run none (am_ar g_mt (d + 0)) 6 (some .int) k_M_live 82 [(0, (2, 1000)), (1, (0, v1)), (2, (0, v2)), (4, (0, v4))] [(0, s0)] μ (am_res 0 q) := by
  intro v1 v2 v4 s0 μ q h
  unfold M_live_B82 at h
  refine rn_sls 1 (pc' := 83) (ls' := [(0, (2, 1000)), (1, (0, v1)), (2, (0, v2)), (4, (0, v4))]) (st' := [(0, 0), (0, s0)]) rfl ?_
  exact rn_sub [0, 1, 2, 3] rfl (t_M_live_B83 d k5 hk5 _ _ _ _ _ _ _ h)
set_option maxRecDepth 20000 in
theorem t_M_live_B46 (d : Nat) (k5 : Int → Int → Int → Int → am_M → am_O) (hk5 : ∀ (v1 : Int) (v2 : Int) (v3 : Int) (v4 : Int) (μ : am_M) q, k5 v1 v2 v3 v4 μ = some q → am_run none (am_ar g_mt (d + 0)) 6 (some .int) k_M_live 5 [(0, (2, 1000)), (1, (0, v1)), (2, (0, v2)), (3, (0, v3)), (4, (0, v4))] [] μ (am_res 0 q)) : ∀ (v1 : Int) (v2 : Int) (v3 : Int) (v4 : Int) (s0 : Int) (μ : am_M) q, M_live_B46 k5 v1 v2 v3 v4 s0 μ = some q → am_run none (am_ar g_mt (d + 0)) 6 (some .int) k_M_live 46 [(0, (2, 1000)), (1, (0, v1)), (2, (0, v2)), (3, (0, v3)), (4, (0, v4))] [(0, s0)] μ (am_res 0 q) := by
  intro v1 v2 v3 v4 s0 μ q h
  unfold M_live_B46 at h
  refine rn_sls 3 (pc' := 51) (ls' := [(5, (0, s0)), (0, (2, 1000)), (1, (0, v1)), (2, (0, v2)), (3, (0, v3)), (4, (0, v4))]) (st' := [(0, s0), (0, v3)]) rfl ?_
  refine rn_if (t := 82) rfl rfl rfl rfl h (fun h => ?_) (fun h => ?_)
  · exact rn_sub [1, 2, 3, 5] rfl (t_M_live_B82 d k5 hk5 _ _ _ _ _ _ h)
  · refine rn_sls 3 (pc' := 60) (ls' := [(5, (0, s0)), (0, (2, 1000)), (1, (0, v1)), (2, (0, v2)), (3, (0, v3)), (4, (0, v4))]) (st' := [(0, v4), (2, 1057), (0, v3)]) rfl ?_
    refine rn_bald (n := 10) rfl rfl rfl h (fun a1 h => ?_)
    refine rn_ifn (t := 78) rfl rfl rfl rfl h (fun h => ?_) (fun h => ?_)
    · refine rn_sls 3 (pc' := 70) (ls' := [(5, (0, s0)), (0, (2, 1000)), (1, (0, v1)), (2, (0, v2)), (3, (0, v3)), (4, (0, v4))]) (st' := [(0, v4), (2, 1056), (0, v3)]) rfl ?_
      refine rn_iald (n := 10) rfl rfl rfl h (fun a2 h => ?_)
      refine rn_sls 4 (pc' := 75) (ls' := [(5, (0, s0)), (0, (2, 1000)), (1, (0, v1)), (2, (0, v2)), (3, (0, v3)), (4, (0, v4))]) (st' := [(0, (aAnd a2 (aXor v2 (-1)))), (0, v3)]) rfl ?_
      refine rn_if (t := 82) rfl rfl rfl rfl h (fun h => ?_) (fun h => ?_)
      · exact rn_sub [1, 2, 3, 5] rfl (t_M_live_B82 d k5 hk5 _ _ _ _ _ _ h)
      · exact rn_sub [1, 2, 3, 5] rfl (t_M_live_B78 d k5 hk5 _ _ _ _ _ _ h)
    · exact rn_sub [1, 2, 3, 5] rfl (t_M_live_B78 d k5 hk5 _ _ _ _ _ _ h)
set_option maxRecDepth 20000 in
theorem t_M_live_B41 (d : Nat) (k5 : Int → Int → Int → Int → am_M → am_O) (hk5 : ∀ (v1 : Int) (v2 : Int) (v3 : Int) (v4 : Int) (μ : am_M) q, k5 v1 v2 v3 v4 μ = some q → am_run none (am_ar g_mt (d + 0)) 6 (some .int) k_M_live 5 [(0, (2, 1000)), (1, (0, v1)), (2, (0, v2)), (3, (0, v3)), (4, (0, v4))] [] μ (am_res 0 q)) : ∀ (v1 : Int) (v2 : Int) (v3 : Int) (v4 : Int) (μ : am_M) q, M_live_B41 k5 v1 v2 v3 v4 μ = some q → am_run none (am_ar g_mt (d + 0)) 6 (some .int) k_M_live 41 [(0, (2, 1000)), (1, (0, v1)), (2, (0, v2)), (3, (0, v3)), (4, (0, v4))] [] μ (am_res 0 q) := by
  intro v1 v2 v3 v4 μ q h
  unfold M_live_B41 at h
  refine rn_sls 1 (pc' := 42) (ls' := [(0, (2, 1000)), (1, (0, v1)), (2, (0, v2)), (3, (0, v3)), (4, (0, v4))]) (st' := [(0, 1)]) rfl ?_
  refine rn_goto (t := 46) rfl rfl rfl ?_
  exact rn_sub [0, 1, 2, 3, 4] rfl (t_M_live_B46 d k5 hk5 _ _ _ _ _ _ _ h)
set_option maxRecDepth 20000 in
theorem t_M_live_L5_b (d : Nat) (k5 : Int → Int → Int → Int → am_M → am_O) (hk5 : ∀ (v1 : Int) (v2 : Int) (v3 : Int) (v4 : Int) (μ : am_M) q, k5 v1 v2 v3 v4 μ = some q → am_run none (am_ar g_mt (d + 0)) 6 (some .int) k_M_live 5 [(0, (2, 1000)), (1, (0, v1)), (2, (0, v2)), (3, (0, v3)), (4, (0, v4))] [] μ (am_res 0 q)) : ∀ (v1 : Int) (v2 : Int) (v3 : Int) (v4 : Int) (μ : am_M) q, M_live_L5_b k5 v1 v2 v3 v4 μ = some q → am_run none (am_ar g_mt (d + 0)) 6 (some .int) k_M_live 5 [(0, (2, 1000)), (1, (0, v1)), (2, (0, v2)), (3, (0, v3)), (4, (0, v4))] [] μ (am_res 0 q) := by
  intro v1 v2 v3 v4 μ q h
  unfold M_live_L5_b at h
  refine rn_sls 4 (pc' := 12) (ls' := [(0, (2, 1000)), (1, (0, v1)), (2, (0, v2)), (3, (0, v3)), (4, (0, v4))]) (st' := [(0, v1), (2, 1020), (0, v4)]) rfl ?_
  refine rn_iald (n := 8) rfl rfl rfl h (fun a1 h => ?_)
  refine rn_icmpn (t := 91) rfl rfl rfl rfl h (fun h => ?_) (fun h => ?_)
  · refine rn_sls 3 (pc' := 22) (ls' := [(0, (2, 1000)), (1, (0, v1)), (2, (0, v2)), (3, (0, v3)), (4, (0, v4))]) (st' := [(0, v4), (2, 1058)]) rfl ?_
    refine rn_iald (n := 10) rfl rfl rfl h (fun a2 h => ?_)
    refine rn_if (t := 41) rfl rfl rfl rfl h (fun h => ?_) (fun h => ?_)
    · exact rn_sub [0, 1, 2, 3, 4] rfl (t_M_live_B41 d k5 hk5 _ _ _ _ _ _ h)
    · refine rn_sls 4 (pc' := 33) (ls' := [(0, (2, 1000)), (1, (0, v1)), (2, (0, v2)), (3, (0, v3)), (4, (0, v4))]) (st' := [(0, v4), (2, 1058), (0, v2)]) rfl ?_
      refine rn_iald (n := 10) rfl rfl rfl h (fun a3 h => ?_)
      refine rn_sls 4 (pc' := 38) (ls' := [(0, (2, 1000)), (1, (0, v1)), (2, (0, v2)), (3, (0, v3)), (4, (0, v4))]) (st' := [(0, 1), (0, (aAnd (aShr v2 a3) 1))]) rfl ?_
      refine rn_icmpn (t := 45) rfl rfl rfl rfl h (fun h => ?_) (fun h => ?_)
      · exact rn_sub [0, 1, 2, 3, 4] rfl (t_M_live_B41 d k5 hk5 _ _ _ _ _ _ h)
      · refine rn_sls 1 (pc' := 46) (ls' := [(0, (2, 1000)), (1, (0, v1)), (2, (0, v2)), (3, (0, v3)), (4, (0, v4))]) (st' := [(0, 0)]) rfl ?_
        exact rn_sub [0, 1, 2, 3, 4] rfl (t_M_live_B46 d k5 hk5 _ _ _ _ _ _ _ h)
  · refine rn_sls 1 (pc' := 92) (ls' := [(0, (2, 1000)), (1, (0, v1)), (2, (0, v2)), (3, (0, v3)), (4, (0, v4))]) (st' := [(0, v3)]) rfl ?_
    exact rn_ireti rfl rfl rfl h rfl
set_option maxRecDepth 20000 in
theorem t_M_live_L5 (d : Nat) : ∀ (n : Nat) (v1 : Int) (v2 : Int) (v3 : Int) (v4 : Int) (μ : am_M) q, M_live_L5 n v1 v2 v3 v4 μ = some q → am_run none (am_ar g_mt (d + 0)) 6 (some .int) k_M_live 5 [(0, (2, 1000)), (1, (0, v1)), (2, (0, v2)), (3, (0, v3)), (4, (0, v4))] [] μ (am_res 0 q) := by
  intro n
  induction n with
  | zero => intro v1 v2 v3 v4 μ q h; cases h
  | succ n ih => intro v1 v2 v3 v4 μ q h; exact t_M_live_L5_b d (M_live_L5 n) ih v1 v2 v3 v4 μ q h
set_option maxRecDepth 20000 in
theorem t_M_live (d : Nat) : ∀ (v1 : Int) (v2 : Int) (μ : am_M) q, M_live v1 v2 μ = some q → am_ar g_mt (d + 1) 230 [(2, 1000), (0, v1), (0, v2)] μ (am_res 0 q) := by
  intro v1 v2 μ q h
  unfold M_live at h
  refine am_ar_of (d := d + 0) i_M_live rfl rfl (Nat.le_of_ble_eq_true rfl) ?_
  show am_run none (am_ar g_mt (d + 0)) 6 (some .int) k_M_live 0 [(0, (2, 1000)), (1, (0, v1)), (2, (0, v2))] [] μ (am_res 0 q)
  refine rn_sls 4 (pc' := 5) (ls' := [(4, (0, 0)), (3, (0, 0)), (0, (2, 1000)), (1, (0, v1)), (2, (0, v2))]) (st' := []) rfl ?_
  exact rn_sub [2, 3, 4, 1, 0] rfl (t_M_live_L5 d  am_FU _ _ _ _ _ _ h)
set_option maxRecDepth 20000 in
theorem t_M_isNext (d : Nat) : ∀ (v1 : Int) (v2 : Int) (μ : am_M) q, M_isNext v1 v2 μ = some q → am_ar g_mt (d + 1) 231 [(2, 1000), (0, v1), (0, v2)] μ (am_res 0 q) := by
  intro v1 v2 μ q h
  unfold M_isNext at h
  refine am_ar_of (d := d + 0) i_M_isNext rfl rfl (Nat.le_of_ble_eq_true rfl) ?_
  show am_run none (am_ar g_mt (d + 0)) 3 (some .boolean) k_M_isNext 0 [(0, (2, 1000)), (1, (0, v1)), (2, (0, v2))] [] μ (am_res 0 q)
  refine rn_sls 5 (pc' := 5) (ls' := [(0, (2, 1000)), (1, (0, v1)), (2, (0, v2))]) (st' := [(0, (aAnd (aShr v1 v2) 1))]) rfl ?_
  refine rn_ifn (t := 25) rfl rfl rfl rfl h (fun h => ?_) (fun h => ?_)
  · refine rn_sls 3 (pc' := 13) (ls' := [(0, (2, 1000)), (1, (0, v1)), (2, (0, v2))]) (st' := [(0, v2), (2, 1055)]) rfl ?_
    refine rn_iald (n := 12) rfl rfl rfl h (fun a1 h => ?_)
    refine rn_sls 4 (pc' := 18) (ls' := [(0, (2, 1000)), (1, (0, v1)), (2, (0, v2))]) (st' := [(0, (aAnd a1 (aXor v1 (-1))))]) rfl ?_
    refine rn_ifn (t := 25) rfl rfl rfl rfl h (fun h => ?_) (fun h => ?_)
    · refine rn_sls 1 (pc' := 22) (ls' := [(0, (2, 1000)), (1, (0, v1)), (2, (0, v2))]) (st' := [(0, 1)]) rfl ?_
      refine rn_goto (t := 26) rfl rfl rfl ?_
      exact rn_iretb rfl rfl rfl (Or.inr rfl) h rfl
    · refine rn_sls 1 (pc' := 26) (ls' := [(0, (2, 1000)), (1, (0, v1)), (2, (0, v2))]) (st' := [(0, 0)]) rfl ?_
      exact rn_iretb rfl rfl rfl (Or.inl rfl) h rfl
  · refine rn_sls 1 (pc' := 26) (ls' := [(0, (2, 1000)), (1, (0, v1)), (2, (0, v2))]) (st' := [(0, 0)]) rfl ?_
    exact rn_iretb rfl rfl rfl (Or.inl rfl) h rfl
set_option maxRecDepth 20000 in
theorem t_M_leasts_B69 (d : Nat) (k11 : Int → Int → Int → am_M → am_O) (hk11 : ∀ (v1 : Int) (v2 : Int) (v3 : Int) (μ : am_M) q, k11 v1 v2 v3 μ = some q → am_run none (am_ar g_mt (d + 1)) 6 none k_M_leasts 11 [(0, (2, 1000)), (1, (0, v1)), (2, (0, v2)), (3, (0, v3))] [] μ (am_res 2 q)) (k32 : Int → Int → Int → Int → Int → am_M → am_O) (hk32 : ∀ (v1 : Int) (v2 : Int) (v3 : Int) (v4 : Int) (v5 : Int) (μ : am_M) q, k32 v1 v2 v3 v4 v5 μ = some q → am_run none (am_ar g_mt (d + 1)) 6 none k_M_leasts 32 [(0, (2, 1000)), (1, (0, v1)), (2, (0, v2)), (3, (0, v3)), (4, (0, v4)), (5, (0, v5))] [] μ (am_res 2 q)) : ∀ (v1 : Int) (v2 : Int) (v3 : Int) (v4 : Int) (v5 : Int) (μ : am_M) q, M_leasts_B69 k11 k32 v1 v2 v3 v4 v5 μ = some q → am_run none (am_ar g_mt (d + 1)) 6 none k_M_leasts 69 [(0, (2, 1000)), (1, (0, v1)), (2, (0, v2)), (3, (0, v3)), (4, (0, v4)), (5, (0, v5))] [] μ (am_res 2 q) := by
  intro v1 v2 v3 v4 v5 μ q h
  unfold M_leasts_B69 at h
  refine rn_sls 1 (pc' := 72) (ls' := [(5, (0, (w32 (v5 + 1)))), (0, (2, 1000)), (1, (0, v1)), (2, (0, v2)), (3, (0, v3)), (4, (0, v4))]) (st' := []) rfl ?_
  refine rn_goto (t := 32) rfl rfl rfl ?_
  exact rn_sub [1, 2, 3, 4, 5, 0] rfl (hk32 _ _ _ _ _ _ _ h)
set_option maxRecDepth 20000 in
theorem t_M_leasts_L32_b (d : Nat) (k11 : Int → Int → Int → am_M → am_O) (hk11 : ∀ (v1 : Int) (v2 : Int) (v3 : Int) (μ : am_M) q, k11 v1 v2 v3 μ = some q → am_run none (am_ar g_mt (d + 1)) 6 none k_M_leasts 11 [(0, (2, 1000)), (1, (0, v1)), (2, (0, v2)), (3, (0, v3))] [] μ (am_res 2 q)) (k32 : Int → Int → Int → Int → Int → am_M → am_O) (hk32 : ∀ (v1 : Int) (v2 : Int) (v3 : Int) (v4 : Int) (v5 : Int) (μ : am_M) q, k32 v1 v2 v3 v4 v5 μ = some q → am_run none (am_ar g_mt (d + 1)) 6 none k_M_leasts 32 [(0, (2, 1000)), (1, (0, v1)), (2, (0, v2)), (3, (0, v3)), (4, (0, v4)), (5, (0, v5))] [] μ (am_res 2 q)) : ∀ (v1 : Int) (v2 : Int) (v3 : Int) (v4 : Int) (v5 : Int) (μ : am_M) q, M_leasts_L32_b k11 k32 v1 v2 v3 v4 v5 μ = some q → am_run none (am_ar g_mt (d + 1)) 6 none k_M_leasts 32 [(0, (2, 1000)), (1, (0, v1)), (2, (0, v2)), (3, (0, v3)), (4, (0, v4)), (5, (0, v5))] [] μ (am_res 2 q) := by
  intro v1 v2 v3 v4 v5 μ q h
  unfold M_leasts_L32_b at h
  refine rn_sls 3 (pc' := 38) (ls' := [(0, (2, 1000)), (1, (0, v1)), (2, (0, v2)), (3, (0, v3)), (4, (0, v4)), (5, (0, v5))]) (st' := [(0, (μ 1000 79)), (0, v5)]) rfl ?_
  refine rn_icmpn (t := 75) rfl rfl rfl rfl h (fun h => ?_) (fun h => ?_)
  · refine rn_sls 3 (pc' := 45) (ls' := [(0, (2, 1000)), (1, (0, v1)), (2, (0, v2)), (3, (0, v3)), (4, (0, v4)), (5, (0, v5))]) (st' := [(0, v5), (0, v3), (2, 1000)]) rfl ?_
    refine rn_call 0 0 [(2, 1000), (0, v3), (0, v5)] (r := []) rfl ⟨rfl, Or.inl ⟨_, rfl, by decide⟩⟩ (by decide) (fun _ => ⟨_, rfl, rfl⟩) rfl rfl (Nat.le_of_ble_eq_true rfl) h (fun w hw => t_M_isNext (d + 0) _ _ _ _ hw) (fun a5 μ6 h => ?_)
    refine rn_sls 0 (pc' := 48) (ls' := [(0, (2, 1000)), (1, (0, v1)), (2, (0, v2)), (3, (0, v3)), (4, (0, v4)), (5, (0, v5))]) (st' := [(0, a5)]) rfl ?_
    refine rn_if (t := 69) rfl rfl rfl rfl h (fun h => ?_) (fun h => ?_)
    · exact rn_sub [0, 1, 2, 3, 4, 5] rfl (t_M_leasts_B69 d k11 hk11 k32 hk32 _ _ _ _ _ _ _ h)
    · refine rn_sls 8 (pc' := 63) (ls' := [(0, (2, 1000)), (1, (0, v1)), (2, (0, v2)), (3, (0, v3)), (4, (0, v4)), (5, (0, v5))]) (st' := [(0, (aOr v3 (aShl 1 v5))), (2, 1059), (0, v4)]) rfl ?_
      refine rn_iald (n := 4096) rfl rfl rfl h (fun a7 h => ?_)
      refine rn_min rfl ⟨rfl, Or.inr ⟨_, rfl, by decide⟩⟩ rfl (Nat.le_of_ble_eq_true rfl) ?_
      refine rn_nm (ls := fun x => [(0, (2, 1000)), (1, (0, v1)), (2, (0, v2)), (3, (0, v3)), (4, (0, v4)), (5, (0, v5))]) (st := fun x => [(0, x)]) h (fun a8 h => ?_)
      refine rn_sls 1 (pc' := 69) (ls' := [(4, (0, a8)), (0, (2, 1000)), (1, (0, v1)), (2, (0, v2)), (3, (0, v3)), (5, (0, v5))]) (st' := []) rfl ?_
      exact rn_sub [1, 2, 3, 4, 0, 5] rfl (t_M_leasts_B69 d k11 hk11 k32 hk32 _ _ _ _ _ _ _ h)
  · refine rn_sls 7 (pc' := 85) (ls' := [(0, (2, 1000)), (1, (0, v1)), (2, (0, v2)), (3, (0, v3)), (4, (0, v4)), (5, (0, v5))]) (st' := [(0, v3), (0, v1), (2, 1000), (0, v4), (0, v3), (2, 1059)]) rfl ?_
    refine rn_call 0 0 [(2, 1000), (0, v1), (0, v3)] (r := [(0, v4), (0, v3), (2, 1059)]) rfl ⟨rfl, Or.inl ⟨_, rfl, by decide⟩⟩ (by decide) (fun _ => ⟨_, rfl, rfl⟩) rfl rfl (Nat.le_of_ble_eq_true rfl) h (fun w hw => t_M_live (d + 0) _ _ _ _ hw) (fun a1 μ2 h => ?_)
    refine rn_sls 0 (pc' := 88) (ls' := [(0, (2, 1000)), (1, (0, v1)), (2, (0, v2)), (3, (0, v3)), (4, (0, v4)), (5, (0, v5))]) (st' := [(0, a1), (0, v4), (0, v3), (2, 1059)]) rfl ?_
    refine rn_max rfl ⟨rfl, Or.inr ⟨_, rfl, by decide⟩⟩ rfl (Nat.le_of_ble_eq_true rfl) ?_
    refine rn_nm (ls := fun x => [(0, (2, 1000)), (1, (0, v1)), (2, (0, v2)), (3, (0, v3)), (4, (0, v4)), (5, (0, v5))]) (st := fun x => [(0, x), (0, v3), (2, 1059)]) h (fun a3 h => ?_)
    refine rn_iast (n := 4096) rfl rfl rfl h (fun μ4 h => ?_)
    refine rn_sls 1 (pc' := 95) (ls' := [(3, (0, (w32 (v3 + (-1))))), (0, (2, 1000)), (1, (0, v1)), (2, (0, v2)), (4, (0, v4)), (5, (0, v5))]) (st' := []) rfl ?_
    refine rn_goto (t := 11) rfl rfl rfl ?_
    exact rn_sub [1, 2, 3, 0] rfl (hk11 _ _ _ _ _ h)
set_option maxRecDepth 20000 in
theorem t_M_leasts_L32 (d : Nat) (k11 : Int → Int → Int → am_M → am_O) (hk11 : ∀ (v1 : Int) (v2 : Int) (v3 : Int) (μ : am_M) q, k11 v1 v2 v3 μ = some q → am_run none (am_ar g_mt (d + 1)) 6 none k_M_leasts 11 [(0, (2, 1000)), (1, (0, v1)), (2, (0, v2)), (3, (0, v3))] [] μ (am_res 2 q)) : ∀ (n : Nat) (v1 : Int) (v2 : Int) (v3 : Int) (v4 : Int) (v5 : Int) (μ : am_M) q, M_leasts_L32 k11 n v1 v2 v3 v4 v5 μ = some q → am_run none (am_ar g_mt (d + 1)) 6 none k_M_leasts 32 [(0, (2, 1000)), (1, (0, v1)), (2, (0, v2)), (3, (0, v3)), (4, (0, v4)), (5, (0, v5))] [] μ (am_res 2 q) := by
  intro n
  induction n with
  | zero => intro v1 v2 v3 v4 v5 μ q h; cases h
  | succ n ih => intro v1 v2 v3 v4 v5 μ q h; exact t_M_leasts_L32_b d k11 hk11 (M_leasts_L32 k11 n) ih v1 v2 v3 v4 v5 μ q h
set_option maxRecDepth 20000 in
theorem t_M_leasts_B27 (d : Nat) (k11 : Int → Int → Int → am_M → am_O) (hk11 : ∀ (v1 : Int) (v2 : Int) (v3 : Int) (μ : am_M) q, k11 v1 v2 v3 μ = some q → am_run none (am_ar g_mt (d + 1)) 6 none k_M_leasts 11 [(0, (2, 1000)), (1, (0, v1)), (2, (0, v2)), (3, (0, v3))] [] μ (am_res 2 q)) : ∀ (v1 : Int) (v2 : Int) (v3 : Int) (s0 : Int) (μ : am_M) q, M_leasts_B27 k11 v1 v2 v3 s0 μ = some q → am_run none (am_ar g_mt (d + 1)) 6 none k_M_leasts 27 [(0, (2, 1000)), (1, (0, v1)), (2, (0, v2)), (3, (0, v3))] [(0, s0)] μ (am_res 2 q) := by
  intro v1 v2 v3 s0 μ q h
  unfold M_leasts_B27 at h
  refine rn_sls 3 (pc' := 32) (ls' := [(5, (0, 0)), (4, (0, s0)), (0, (2, 1000)), (1, (0, v1)), (2, (0, v2)), (3, (0, v3))]) (st' := []) rfl ?_
  exact rn_sub [2, 3, 4, 5, 1, 0] rfl (t_M_leasts_L32 d k11 hk11 am_FU _ _ _ _ _ _ _ h)
set_option maxRecDepth 20000 in
theorem t_M_leasts_L11_b (d : Nat) (k11 : Int → Int → Int → am_M → am_O) (hk11 : ∀ (v1 : Int) (v2 : Int) (v3 : Int) (μ : am_M) q, k11 v1 v2 v3 μ = some q → am_run none (am_ar g_mt (d + 1)) 6 none k_M_leasts 11 [(0, (2, 1000)), (1, (0, v1)), (2, (0, v2)), (3, (0, v3))] [] μ (am_res 2 q)) : ∀ (v1 : Int) (v2 : Int) (v3 : Int) (μ : am_M) q, M_leasts_L11_b k11 v1 v2 v3 μ = some q → am_run none (am_ar g_mt (d + 1)) 6 none k_M_leasts 11 [(0, (2, 1000)), (1, (0, v1)), (2, (0, v2)), (3, (0, v3))] [] μ (am_res 2 q) := by
  intro v1 v2 v3 μ q h
  unfold M_leasts_L11_b at h
  refine rn_sls 1 (pc' := 12) (ls' := [(0, (2, 1000)), (1, (0, v1)), (2, (0, v2)), (3, (0, v3))]) (st' := [(0, v3)]) rfl ?_
  refine rn_if (t := 98) rfl rfl rfl rfl h (fun h => ?_) (fun h => ?_)
  · exact rn_ret (v := 0) rfl rfl rfl h rfl
  · refine rn_sls 2 (pc' := 17) (ls' := [(0, (2, 1000)), (1, (0, v1)), (2, (0, v2)), (3, (0, v3))]) (st' := [(0, v2), (0, v3)]) rfl ?_
    refine rn_icmpn (t := 24) rfl rfl rfl rfl h (fun h => ?_) (fun h => ?_)
    · refine rn_sls 1 (pc' := 21) (ls' := [(0, (2, 1000)), (1, (0, v1)), (2, (0, v2)), (3, (0, v3))]) (st' := [(0, 0)]) rfl ?_
      refine rn_goto (t := 27) rfl rfl rfl ?_
      exact rn_sub [0, 1, 2, 3] rfl (t_M_leasts_B27 d k11 hk11 _ _ _ _ _ _ h)
    · refine rn_sls 1 (pc' := 27) (ls' := [(0, (2, 1000)), (1, (0, v1)), (2, (0, v2)), (3, (0, v3))]) (st' := [(0, 1000)]) rfl ?_
      exact rn_sub [0, 1, 2, 3] rfl (t_M_leasts_B27 d k11 hk11 _ _ _ _ _ _ h)
set_option maxRecDepth 20000 in
theorem t_M_leasts_L11 (d : Nat) : ∀ (n : Nat) (v1 : Int) (v2 : Int) (v3 : Int) (μ : am_M) q, M_leasts_L11 n v1 v2 v3 μ = some q → am_run none (am_ar g_mt (d + 1)) 6 none k_M_leasts 11 [(0, (2, 1000)), (1, (0, v1)), (2, (0, v2)), (3, (0, v3))] [] μ (am_res 2 q) := by
  intro n
  induction n with
  | zero => intro v1 v2 v3 μ q h; cases h
  | succ n ih => intro v1 v2 v3 μ q h; exact t_M_leasts_L11_b d (M_leasts_L11 n) ih v1 v2 v3 μ q h
set_option maxRecDepth 20000 in
theorem t_M_leasts (d : Nat) : ∀ (v1 : Int) (μ : am_M) q, M_leasts v1 μ = some q → am_ar g_mt (d + 2) 232 [(2, 1000), (0, v1)] μ (am_res 2 q) := by
  intro v1 μ q h
  unfold M_leasts at h
  refine am_ar_of (d := d + 1) i_M_leasts rfl rfl (Nat.le_of_ble_eq_true rfl) ?_
  show am_run none (am_ar g_mt (d + 1)) 6 none k_M_leasts 0 [(0, (2, 1000)), (1, (0, v1))] [] μ (am_res 2 q)
  refine rn_sls 9 (pc' := 11) (ls' := [(3, (0, (w32 ((aShl 1 (μ 1000 79)) - 1)))), (2, (0, (w32 ((aShl 1 (μ 1000 79)) - 1)))), (0, (2, 1000)), (1, (0, v1))]) (st' := []) rfl ?_
  exact rn_sub [2, 3, 1, 0] rfl (t_M_leasts_L11 d  am_FU _ _ _ _ _ h)
set_option maxRecDepth 20000 in
theorem t_M_fewest (d : Nat) : ∀ (v1 : Int) (μ : am_M) q, M_fewest v1 μ = some q → am_ar g_mt (d + 5) 233 [(2, 1000), (0, v1)] μ (am_res 0 q) := by
  intro v1 μ q h
  unfold M_fewest at h
  refine am_ar_of (d := d + 4) i_M_fewest rfl rfl (Nat.le_of_ble_eq_true rfl) ?_
  show am_run none (am_ar g_mt (d + 4)) 2 (some .int) k_M_fewest 0 [(0, (2, 1000)), (1, (0, v1))] [] μ (am_res 0 q)
  refine rn_sls 2 (pc' := 2) (ls' := [(0, (2, 1000)), (1, (0, v1))]) (st' := [(0, 0), (2, 1000)]) rfl ?_
  refine rn_put rfl rfl rfl rfl (Or.inl ⟨rfl, rfl⟩) rfl h (fun μ1 h => ?_)
  refine rn_sls 3 (pc' := 9) (ls' := [(0, (2, 1000)), (1, (0, v1))]) (st' := [(0, 12), (0, v1), (2, 1000)]) rfl ?_
  refine rn_call 0 0 [(2, 1000), (0, v1), (0, 12)] (r := []) rfl ⟨rfl, Or.inl ⟨_, rfl, by decide⟩⟩ (by decide) (fun _ => ⟨_, rfl, rfl⟩) rfl rfl (Nat.le_of_ble_eq_true rfl) h (fun w hw => t_M_isLaidOut (d + 0) _ _ _ _ hw) (fun a2 μ3 h => ?_)
  refine rn_sls 0 (pc' := 12) (ls' := [(0, (2, 1000)), (1, (0, v1))]) (st' := [(0, a2)]) rfl ?_
  refine rn_ifn (t := 17) rfl rfl rfl rfl h (fun h => ?_) (fun h => ?_)
  · refine rn_sls 1 (pc' := 16) (ls' := [(0, (2, 1000)), (1, (0, v1))]) (st' := [(0, (-1))]) rfl ?_
    exact rn_ireti rfl rfl rfl h rfl
  · refine rn_sls 2 (pc' := 19) (ls' := [(0, (2, 1000)), (1, (0, v1))]) (st' := [(0, v1), (2, 1000)]) rfl ?_
    refine rn_call 0 2 [(2, 1000), (0, v1)] (r := []) rfl ⟨rfl, Or.inl ⟨_, rfl, by decide⟩⟩ (by decide) (fun _ => ⟨_, rfl, rfl⟩) rfl rfl (Nat.le_of_ble_eq_true rfl) h (fun w hw => t_M_leasts (d + 2) _ _ _ hw) (fun a4 μ5 h => ?_)
    refine rn_sls 0 (pc' := 22) (ls' := [(0, (2, 1000)), (1, (0, v1))]) (st' := []) rfl ?_
    refine rn_sls 3 (pc' := 27) (ls' := [(0, (2, 1000)), (1, (0, v1))]) (st' := [(0, 0), (2, 1059)]) rfl ?_
    refine rn_iald (n := 4096) rfl rfl rfl h (fun a6 h => ?_)
    exact rn_ireti rfl rfl rfl h rfl
set_option maxRecDepth 20000 in
theorem t_M_order_B81 (d : Nat) (k42 : Int → Int → Int → Int → am_M → am_O) (hk42 : ∀ (v2 : Int) (v3 : Int) (v4 : Int) (v5 : Int) (μ : am_M) q, k42 v2 v3 v4 v5 μ = some q → am_run none (am_ar g_mt (d + 4)) 6 (some .int) k_M_order 42 [(0, (2, 1000)), (2, (0, v2)), (3, (0, v3)), (4, (0, v4)), (5, (0, v5))] [] μ (am_res 0 q)) (k51 : Int → Int → Int → Int → am_M → am_O) (hk51 : ∀ (v2 : Int) (v3 : Int) (v4 : Int) (v5 : Int) (μ : am_M) q, k51 v2 v3 v4 v5 μ = some q → am_run none (am_ar g_mt (d + 4)) 6 (some .int) k_M_order 51 [(0, (2, 1000)), (2, (0, v2)), (3, (0, v3)), (4, (0, v4)), (5, (0, v5))] [] μ (am_res 0 q)) : ∀ (v2 : Int) (v3 : Int) (v4 : Int) (v5 : Int) (μ : am_M) q, M_order_B81 k42 k51 v2 v3 v4 v5 μ = some q → am_run none (am_ar g_mt (d + 4)) 6 (some .int) k_M_order 81 [(0, (2, 1000)), (2, (0, v2)), (3, (0, v3)), (4, (0, v4)), (5, (0, v5))] [] μ (am_res 0 q) := by
  intro v2 v3 v4 v5 μ q h
  unfold M_order_B81 at h
  refine rn_sls 1 (pc' := 84) (ls' := [(4, (0, (w32 (v4 + 1)))), (0, (2, 1000)), (2, (0, v2)), (3, (0, v3)), (5, (0, v5))]) (st' := []) rfl ?_
  refine rn_goto (t := 51) rfl rfl rfl ?_
  exact rn_sub [1, 2, 3, 0, 4] rfl (hk51 _ _ _ _ _ _ h)
set_option maxRecDepth 20000 in
theorem t_M_order_L51_b (d : Nat) (k42 : Int → Int → Int → Int → am_M → am_O) (hk42 : ∀ (v2 : Int) (v3 : Int) (v4 : Int) (v5 : Int) (μ : am_M) q, k42 v2 v3 v4 v5 μ = some q → am_run none (am_ar g_mt (d + 4)) 6 (some .int) k_M_order 42 [(0, (2, 1000)), (2, (0, v2)), (3, (0, v3)), (4, (0, v4)), (5, (0, v5))] [] μ (am_res 0 q)) (k51 : Int → Int → Int → Int → am_M → am_O) (hk51 : ∀ (v2 : Int) (v3 : Int) (v4 : Int) (v5 : Int) (μ : am_M) q, k51 v2 v3 v4 v5 μ = some q → am_run none (am_ar g_mt (d + 4)) 6 (some .int) k_M_order 51 [(0, (2, 1000)), (2, (0, v2)), (3, (0, v3)), (4, (0, v4)), (5, (0, v5))] [] μ (am_res 0 q)) : ∀ (v2 : Int) (v3 : Int) (v4 : Int) (v5 : Int) (μ : am_M) q, M_order_L51_b k42 k51 v2 v3 v4 v5 μ = some q → am_run none (am_ar g_mt (d + 4)) 6 (some .int) k_M_order 51 [(0, (2, 1000)), (2, (0, v2)), (3, (0, v3)), (4, (0, v4)), (5, (0, v5))] [] μ (am_res 0 q) := by
  intro v2 v3 v4 v5 μ q h
  unfold M_order_L51_b at h
  refine rn_sls 3 (pc' := 55) (ls' := [(0, (2, 1000)), (2, (0, v2)), (3, (0, v3)), (4, (0, v4)), (5, (0, v5))]) (st' := [(0, v4), (0, v3), (2, 1000)]) rfl ?_
  refine rn_call 0 0 [(2, 1000), (0, v3), (0, v4)] (r := []) rfl ⟨rfl, Or.inl ⟨_, rfl, by decide⟩⟩ (by decide) (fun _ => ⟨_, rfl, rfl⟩) rfl rfl (Nat.le_of_ble_eq_true rfl) h (fun w hw => t_M_isNext (d + 3) _ _ _ _ hw) (fun a1 μ2 h => ?_)
  refine rn_sls 0 (pc' := 58) (ls' := [(0, (2, 1000)), (2, (0, v2)), (3, (0, v3)), (4, (0, v4)), (5, (0, v5))]) (st' := [(0, a1)]) rfl ?_
  refine rn_if (t := 81) rfl rfl rfl rfl h (fun h => ?_) (fun h => ?_)
  · exact rn_sub [0, 1, 2, 3, 4] rfl (t_M_order_B81 d k42 hk42 k51 hk51 _ _ _ _ _ _ h)
  · refine rn_sls 7 (pc' := 71) (ls' := [(0, (2, 1000)), (2, (0, v2)), (3, (0, v3)), (4, (0, v4)), (5, (0, v5))]) (st' := [(0, (aOr v3 (aShl 1 v4))), (2, 1059)]) rfl ?_
    refine rn_iald (n := 4096) rfl rfl rfl h (fun a3 h => ?_)
    refine rn_sls 3 (pc' := 77) (ls' := [(0, (2, 1000)), (2, (0, v2)), (3, (0, v3)), (4, (0, v4)), (5, (0, v5))]) (st' := [(0, 0), (2, 1059), (0, a3)]) rfl ?_
    refine rn_iald (n := 4096) rfl rfl rfl h (fun a4 h => ?_)
    refine rn_icmp (t := 87) rfl rfl rfl rfl h (fun h => ?_) (fun h => ?_)
    · refine rn_sls 7 (pc' := 97) (ls' := [(5, (0, (w32 (v5 + 1)))), (3, (0, (aOr v3 (aShl 1 v4)))), (0, (2, 1000)), (2, (0, v2)), (4, (0, v4))]) (st' := []) rfl ?_
      refine rn_goto (t := 42) rfl rfl rfl ?_
      exact rn_sub [2, 3, 1, 4, 0] rfl (hk42 _ _ _ _ _ _ h)
    · exact rn_sub [0, 1, 2, 3, 4] rfl (t_M_order_B81 d k42 hk42 k51 hk51 _ _ _ _ _ _ h)
set_option maxRecDepth 20000 in
theorem t_M_order_L51 (d : Nat) (k42 : Int → Int → Int → Int → am_M → am_O) (hk42 : ∀ (v2 : Int) (v3 : Int) (v4 : Int) (v5 : Int) (μ : am_M) q, k42 v2 v3 v4 v5 μ = some q → am_run none (am_ar g_mt (d + 4)) 6 (some .int) k_M_order 42 [(0, (2, 1000)), (2, (0, v2)), (3, (0, v3)), (4, (0, v4)), (5, (0, v5))] [] μ (am_res 0 q)) : ∀ (n : Nat) (v2 : Int) (v3 : Int) (v4 : Int) (v5 : Int) (μ : am_M) q, M_order_L51 k42 n v2 v3 v4 v5 μ = some q → am_run none (am_ar g_mt (d + 4)) 6 (some .int) k_M_order 51 [(0, (2, 1000)), (2, (0, v2)), (3, (0, v3)), (4, (0, v4)), (5, (0, v5))] [] μ (am_res 0 q) := by
  intro n
  induction n with
  | zero => intro v2 v3 v4 v5 μ q h; cases h
  | succ n ih => intro v2 v3 v4 v5 μ q h; exact t_M_order_L51_b d k42 hk42 (M_order_L51 k42 n) ih v2 v3 v4 v5 μ q h
set_option maxRecDepth 20000 in
theorem t_M_order_L42_b (d : Nat) (k42 : Int → Int → Int → Int → am_M → am_O) (hk42 : ∀ (v2 : Int) (v3 : Int) (v4 : Int) (v5 : Int) (μ : am_M) q, k42 v2 v3 v4 v5 μ = some q → am_run none (am_ar g_mt (d + 4)) 6 (some .int) k_M_order 42 [(0, (2, 1000)), (2, (0, v2)), (3, (0, v3)), (4, (0, v4)), (5, (0, v5))] [] μ (am_res 0 q)) : ∀ (v2 : Int) (v3 : Int) (v4 : Int) (v5 : Int) (μ : am_M) q, M_order_L42_b k42 v2 v3 v4 v5 μ = some q → am_run none (am_ar g_mt (d + 4)) 6 (some .int) k_M_order 42 [(0, (2, 1000)), (2, (0, v2)), (3, (0, v3)), (4, (0, v4)), (5, (0, v5))] [] μ (am_res 0 q) := by
  intro v2 v3 v4 v5 μ q h
  unfold M_order_L42_b at h
  refine rn_sls 2 (pc' := 45) (ls' := [(0, (2, 1000)), (2, (0, v2)), (3, (0, v3)), (4, (0, v4)), (5, (0, v5))]) (st' := [(0, v2), (0, v5)]) rfl ?_
  refine rn_icmpn (t := 100) rfl rfl rfl rfl h (fun h => ?_) (fun h => ?_)
  · refine rn_sls 2 (pc' := 51) (ls' := [(4, (0, 0)), (0, (2, 1000)), (2, (0, v2)), (3, (0, v3)), (5, (0, v5))]) (st' := []) rfl ?_
    exact rn_sub [1, 2, 3, 0, 4] rfl (t_M_order_L51 d k42 hk42 am_FU _ _ _ _ _ _ h)
  · refine rn_sls 1 (pc' := 102) (ls' := [(0, (2, 1000)), (2, (0, v2)), (3, (0, v3)), (4, (0, v4)), (5, (0, v5))]) (st' := [(0, v4)]) rfl ?_
    exact rn_ireti rfl rfl rfl h rfl
set_option maxRecDepth 20000 in
theorem t_M_order_L42 (d : Nat) : ∀ (n : Nat) (v2 : Int) (v3 : Int) (v4 : Int) (v5 : Int) (μ : am_M) q, M_order_L42 n v2 v3 v4 v5 μ = some q → am_run none (am_ar g_mt (d + 4)) 6 (some .int) k_M_order 42 [(0, (2, 1000)), (2, (0, v2)), (3, (0, v3)), (4, (0, v4)), (5, (0, v5))] [] μ (am_res 0 q) := by
  intro n
  induction n with
  | zero => intro v2 v3 v4 v5 μ q h; cases h
  | succ n ih => intro v2 v3 v4 v5 μ q h; exact t_M_order_L42_b d (M_order_L42 n) ih v2 v3 v4 v5 μ q h
set_option maxRecDepth 20000 in
theorem t_M_order (d : Nat) : ∀ (v1 : Int) (v2 : Int) (μ : am_M) q, M_order v1 v2 μ = some q → am_ar g_mt (d + 5) 234 [(2, 1000), (0, v1), (0, v2)] μ (am_res 0 q) := by
  intro v1 v2 μ q h
  unfold M_order at h
  refine am_ar_of (d := d + 4) i_M_order rfl rfl (Nat.le_of_ble_eq_true rfl) ?_
  show am_run none (am_ar g_mt (d + 4)) 6 (some .int) k_M_order 0 [(0, (2, 1000)), (1, (0, v1)), (2, (0, v2))] [] μ (am_res 0 q)
  refine rn_sls 2 (pc' := 2) (ls' := [(0, (2, 1000)), (1, (0, v1)), (2, (0, v2))]) (st' := [(0, 0), (2, 1000)]) rfl ?_
  refine rn_put rfl rfl rfl rfl (Or.inl ⟨rfl, rfl⟩) rfl h (fun μ1 h => ?_)
  refine rn_sls 3 (pc' := 9) (ls' := [(0, (2, 1000)), (1, (0, v1)), (2, (0, v2))]) (st' := [(0, 12), (0, v1), (2, 1000)]) rfl ?_
  refine rn_call 0 0 [(2, 1000), (0, v1), (0, 12)] (r := []) rfl ⟨rfl, Or.inl ⟨_, rfl, by decide⟩⟩ (by decide) (fun _ => ⟨_, rfl, rfl⟩) rfl rfl (Nat.le_of_ble_eq_true rfl) h (fun w hw => t_M_isLaidOut (d + 0) _ _ _ _ hw) (fun a2 μ3 h => ?_)
  refine rn_sls 0 (pc' := 12) (ls' := [(0, (2, 1000)), (1, (0, v1)), (2, (0, v2))]) (st' := [(0, a2)]) rfl ?_
  refine rn_if (t := 27) rfl rfl rfl rfl h (fun h => ?_) (fun h => ?_)
  · refine rn_sls 1 (pc' := 28) (ls' := [(0, (2, 1000)), (1, (0, v1)), (2, (0, v2))]) (st' := [(0, (-1))]) rfl ?_
    exact rn_ireti rfl rfl rfl h rfl
  · refine rn_sls 1 (pc' := 16) (ls' := [(0, (2, 1000)), (1, (0, v1)), (2, (0, v2))]) (st' := [(0, v2)]) rfl ?_
    refine rn_if (t := 27) rfl rfl rfl rfl h (fun h => ?_) (fun h => ?_)
    · refine rn_sls 1 (pc' := 28) (ls' := [(0, (2, 1000)), (1, (0, v1)), (2, (0, v2))]) (st' := [(0, (-1))]) rfl ?_
      exact rn_ireti rfl rfl rfl h rfl
    · refine rn_sls 3 (pc' := 24) (ls' := [(0, (2, 1000)), (1, (0, v1)), (2, (0, v2))]) (st' := [(0, (μ3 1000 79)), (0, v2)]) rfl ?_
      refine rn_icmp (t := 29) rfl rfl rfl rfl h (fun h => ?_) (fun h => ?_)
      · refine rn_sls 2 (pc' := 31) (ls' := [(0, (2, 1000)), (1, (0, v1)), (2, (0, v2))]) (st' := [(0, v1), (2, 1000)]) rfl ?_
        refine rn_call 0 2 [(2, 1000), (0, v1)] (r := []) rfl ⟨rfl, Or.inl ⟨_, rfl, by decide⟩⟩ (by decide) (fun _ => ⟨_, rfl, rfl⟩) rfl rfl (Nat.le_of_ble_eq_true rfl) h (fun w hw => t_M_leasts (d + 2) _ _ _ hw) (fun a4 μ5 h => ?_)
        refine rn_sls 0 (pc' := 34) (ls' := [(0, (2, 1000)), (1, (0, v1)), (2, (0, v2))]) (st' := []) rfl ?_
        refine rn_sls 6 (pc' := 42) (ls' := [(5, (0, 0)), (4, (0, (-1))), (3, (0, 0)), (0, (2, 1000)), (1, (0, v1)), (2, (0, v2))]) (st' := []) rfl ?_
        exact rn_sub [3, 5, 2, 1, 0] rfl (t_M_order_L42 d  am_FU _ _ _ _ _ _ h)
      · refine rn_sls 1 (pc' := 28) (ls' := [(0, (2, 1000)), (1, (0, v1)), (2, (0, v2))]) (st' := [(0, (-1))]) rfl ?_
        exact rn_ireti rfl rfl rfl h rfl
set_option maxRecDepth 20000 in
theorem t_M_asTold_L21_b (d : Nat) (k21 : Int → Int → Int → am_M → am_O) (hk21 : ∀ (v1 : Int) (v2 : Int) (v3 : Int) (μ : am_M) q, k21 v1 v2 v3 μ = some q → am_run none (am_ar g_mt (d + 4)) 4 (some .int) k_M_asTold 21 [(0, (2, 1000)), (1, (0, v1)), (2, (0, v2)), (3, (0, v3))] [] μ (am_res 0 q)) : ∀ (v1 : Int) (v2 : Int) (v3 : Int) (μ : am_M) q, M_asTold_L21_b k21 v1 v2 v3 μ = some q → am_run none (am_ar g_mt (d + 4)) 4 (some .int) k_M_asTold 21 [(0, (2, 1000)), (1, (0, v1)), (2, (0, v2)), (3, (0, v3))] [] μ (am_res 0 q) := by
  intro v1 v2 v3 μ q h
  unfold M_asTold_L21_b at h
  refine rn_sls 3 (pc' := 26) (ls' := [(0, (2, 1000)), (1, (0, v1)), (2, (0, v2)), (3, (0, v3))]) (st' := [(0, (μ 1000 79)), (0, v3)]) rfl ?_
  refine rn_icmpn (t := 50) rfl rfl rfl rfl h (fun h => ?_) (fun h => ?_)
  · refine rn_sls 8 (pc' := 37) (ls' := [(0, (2, 1000)), (1, (0, v1)), (2, (0, v2)), (3, (0, v3))]) (st' := [(0, (w32 ((aShl 1 v3) - 1))), (0, v1), (2, 1000), (0, v2)]) rfl ?_
    refine rn_call 0 0 [(2, 1000), (0, v1), (0, (w32 ((aShl 1 v3) - 1)))] (r := [(0, v2)]) rfl ⟨rfl, Or.inl ⟨_, rfl, by decide⟩⟩ (by decide) (fun _ => ⟨_, rfl, rfl⟩) rfl rfl (Nat.le_of_ble_eq_true rfl) h (fun w hw => t_M_live (d + 3) _ _ _ _ hw) (fun a1 μ2 h => ?_)
    refine rn_sls 0 (pc' := 40) (ls' := [(0, (2, 1000)), (1, (0, v1)), (2, (0, v2)), (3, (0, v3))]) (st' := [(0, a1), (0, v2)]) rfl ?_
    refine rn_max rfl ⟨rfl, Or.inr ⟨_, rfl, by decide⟩⟩ rfl (Nat.le_of_ble_eq_true rfl) ?_
    refine rn_nm (ls := fun x => [(0, (2, 1000)), (1, (0, v1)), (2, (0, v2)), (3, (0, v3))]) (st := fun x => [(0, x)]) h (fun a3 h => ?_)
    refine rn_sls 2 (pc' := 47) (ls' := [(3, (0, (w32 (v3 + 1)))), (2, (0, a3)), (0, (2, 1000)), (1, (0, v1))]) (st' := []) rfl ?_
    refine rn_goto (t := 21) rfl rfl rfl ?_
    exact rn_sub [2, 3, 1, 0] rfl (hk21 _ _ _ _ _ h)
  · refine rn_sls 1 (pc' := 51) (ls' := [(0, (2, 1000)), (1, (0, v1)), (2, (0, v2)), (3, (0, v3))]) (st' := [(0, v2)]) rfl ?_
    exact rn_ireti rfl rfl rfl h rfl
set_option maxRecDepth 20000 in
theorem t_M_asTold_L21 (d : Nat) : ∀ (n : Nat) (v1 : Int) (v2 : Int) (v3 : Int) (μ : am_M) q, M_asTold_L21 n v1 v2 v3 μ = some q → am_run none (am_ar g_mt (d + 4)) 4 (some .int) k_M_asTold 21 [(0, (2, 1000)), (1, (0, v1)), (2, (0, v2)), (3, (0, v3))] [] μ (am_res 0 q) := by
  intro n
  induction n with
  | zero => intro v1 v2 v3 μ q h; cases h
  | succ n ih => intro v1 v2 v3 μ q h; exact t_M_asTold_L21_b d (M_asTold_L21 n) ih v1 v2 v3 μ q h
set_option maxRecDepth 20000 in
theorem t_M_asTold (d : Nat) : ∀ (v1 : Int) (μ : am_M) q, M_asTold v1 μ = some q → am_ar g_mt (d + 5) 235 [(2, 1000), (0, v1)] μ (am_res 0 q) := by
  intro v1 μ q h
  unfold M_asTold at h
  refine am_ar_of (d := d + 4) i_M_asTold rfl rfl (Nat.le_of_ble_eq_true rfl) ?_
  show am_run none (am_ar g_mt (d + 4)) 4 (some .int) k_M_asTold 0 [(0, (2, 1000)), (1, (0, v1))] [] μ (am_res 0 q)
  refine rn_sls 2 (pc' := 2) (ls' := [(0, (2, 1000)), (1, (0, v1))]) (st' := [(0, 0), (2, 1000)]) rfl ?_
  refine rn_put rfl rfl rfl rfl (Or.inl ⟨rfl, rfl⟩) rfl h (fun μ1 h => ?_)
  refine rn_sls 3 (pc' := 9) (ls' := [(0, (2, 1000)), (1, (0, v1))]) (st' := [(0, 12), (0, v1), (2, 1000)]) rfl ?_
  refine rn_call 0 0 [(2, 1000), (0, v1), (0, 12)] (r := []) rfl ⟨rfl, Or.inl ⟨_, rfl, by decide⟩⟩ (by decide) (fun _ => ⟨_, rfl, rfl⟩) rfl rfl (Nat.le_of_ble_eq_true rfl) h (fun w hw => t_M_isLaidOut (d + 0) _ _ _ _ hw) (fun a2 μ3 h => ?_)
  refine rn_sls 0 (pc' := 12) (ls' := [(0, (2, 1000)), (1, (0, v1))]) (st' := [(0, a2)]) rfl ?_
  refine rn_ifn (t := 17) rfl rfl rfl rfl h (fun h => ?_) (fun h => ?_)
  · refine rn_sls 1 (pc' := 16) (ls' := [(0, (2, 1000)), (1, (0, v1))]) (st' := [(0, (-1))]) rfl ?_
    exact rn_ireti rfl rfl rfl h rfl
  · refine rn_sls 4 (pc' := 21) (ls' := [(3, (0, 0)), (2, (0, 0)), (0, (2, 1000)), (1, (0, v1))]) (st' := []) rfl ?_
    exact rn_sub [2, 3, 1, 0] rfl (t_M_asTold_L21 d  am_FU _ _ _ _ _ h)
set_option maxRecDepth 20000 in
theorem t_M_orders_B99 (d : Nat) (k41 : Int → Int → Int → Int → am_M → am_O) (hk41 : ∀ (v1 : Int) (v2 : Int) (v3 : Int) (v4 : Int) (μ : am_M) q, k41 v1 v2 v3 v4 μ = some q → am_run none (am_ar g_mt (d + 4)) 8 (some .long) k_M_orders 41 [(0, (2, 1000)), (1, (0, v1)), (2, (0, v2)), (3, (0, v3)), (4, (0, v4))] [] μ (am_res 1 q)) (k62 : Int → Int → Int → Int → Int → Int → am_M → am_O) (hk62 : ∀ (v1 : Int) (v2 : Int) (v3 : Int) (v4 : Int) (v5 : Int) (v7 : Int) (μ : am_M) q, k62 v1 v2 v3 v4 v5 v7 μ = some q → am_run none (am_ar g_mt (d + 4)) 8 (some .long) k_M_orders 62 [(0, (2, 1000)), (1, (0, v1)), (2, (0, v2)), (3, (0, v3)), (4, (0, v4)), (5, (1, v5)), (7, (0, v7))] [] μ (am_res 1 q)) : ∀ (v1 : Int) (v2 : Int) (v3 : Int) (v4 : Int) (v5 : Int) (v7 : Int) (μ : am_M) q, M_orders_B99 k41 k62 v1 v2 v3 v4 v5 v7 μ = some q → am_run none (am_ar g_mt (d + 4)) 8 (some .long) k_M_orders 99 [(0, (2, 1000)), (1, (0, v1)), (2, (0, v2)), (3, (0, v3)), (4, (0, v4)), (5, (1, v5)), (7, (0, v7))] [] μ (am_res 1 q) := by
  intro v1 v2 v3 v4 v5 v7 μ q h
  unfold M_orders_B99 at h
  refine rn_sls 1 (pc' := 102) (ls' := [(7, (0, (w32 (v7 + 1)))), (0, (2, 1000)), (1, (0, v1)), (2, (0, v2)), (3, (0, v3)), (4, (0, v4)), (5, (1, v5))]) (st' := []) rfl ?_
  refine rn_goto (t := 62) rfl rfl rfl ?_
  exact rn_sub [1, 2, 3, 4, 5, 6, 0] rfl (hk62 _ _ _ _ _ _ _ _ h)
set_option maxRecDepth 20000 in
theorem t_M_orders_B128 (d : Nat) (k41 : Int → Int → Int → Int → am_M → am_O) (hk41 : ∀ (v1 : Int) (v2 : Int) (v3 : Int) (v4 : Int) (μ : am_M) q, k41 v1 v2 v3 v4 μ = some q → am_run none (am_ar g_mt (d + 4)) 8 (some .long) k_M_orders 41 [(0, (2, 1000)), (1, (0, v1)), (2, (0, v2)), (3, (0, v3)), (4, (0, v4))] [] μ (am_res 1 q)) : ∀ (v1 : Int) (v2 : Int) (v3 : Int) (v4 : Int) (s1 : Int) (s2 : Int) (μ : am_M) q, M_orders_B128 k41 v1 v2 v3 v4 s1 s2 μ = some q → am_run none (am_ar g_mt (d + 4)) 8 (some .long) k_M_orders 128 [(0, (2, 1000)), (1, (0, v1)), (2, (0, v2)), (3, (0, v3)), (4, (0, v4))] [(1, s2), (0, s1), (2, 1060)] μ (am_res 1 q) := by
  intro v1 v2 v3 v4 s1 s2 μ q h
  unfold M_orders_B128 at h
  refine rn_last (n := 4096) rfl rfl rfl h (fun μ1 h => ?_)
  refine rn_sls 1 (pc' := 132) (ls' := [(4, (0, (w32 (v4 + (-1))))), (0, (2, 1000)), (1, (0, v1)), (2, (0, v2)), (3, (0, v3))]) (st' := []) rfl ?_
  refine rn_goto (t := 41) rfl rfl rfl ?_
  exact rn_sub [1, 2, 3, 4, 0] rfl (hk41 _ _ _ _ _ _ h)
set_option maxRecDepth 20000 in
theorem t_M_orders_L62_b (d : Nat) (k41 : Int → Int → Int → Int → am_M → am_O) (hk41 : ∀ (v1 : Int) (v2 : Int) (v3 : Int) (v4 : Int) (μ : am_M) q, k41 v1 v2 v3 v4 μ = some q → am_run none (am_ar g_mt (d + 4)) 8 (some .long) k_M_orders 41 [(0, (2, 1000)), (1, (0, v1)), (2, (0, v2)), (3, (0, v3)), (4, (0, v4))] [] μ (am_res 1 q)) (k62 : Int → Int → Int → Int → Int → Int → am_M → am_O) (hk62 : ∀ (v1 : Int) (v2 : Int) (v3 : Int) (v4 : Int) (v5 : Int) (v7 : Int) (μ : am_M) q, k62 v1 v2 v3 v4 v5 v7 μ = some q → am_run none (am_ar g_mt (d + 4)) 8 (some .long) k_M_orders 62 [(0, (2, 1000)), (1, (0, v1)), (2, (0, v2)), (3, (0, v3)), (4, (0, v4)), (5, (1, v5)), (7, (0, v7))] [] μ (am_res 1 q)) : ∀ (v1 : Int) (v2 : Int) (v3 : Int) (v4 : Int) (v5 : Int) (v7 : Int) (μ : am_M) q, M_orders_L62_b k41 k62 v1 v2 v3 v4 v5 v7 μ = some q → am_run none (am_ar g_mt (d + 4)) 8 (some .long) k_M_orders 62 [(0, (2, 1000)), (1, (0, v1)), (2, (0, v2)), (3, (0, v3)), (4, (0, v4)), (5, (1, v5)), (7, (0, v7))] [] μ (am_res 1 q) := by
  intro v1 v2 v3 v4 v5 v7 μ q h
  unfold M_orders_L62_b at h
  refine rn_sls 3 (pc' := 68) (ls' := [(0, (2, 1000)), (1, (0, v1)), (2, (0, v2)), (3, (0, v3)), (4, (0, v4)), (5, (1, v5)), (7, (0, v7))]) (st' := [(0, (μ 1000 79)), (0, v7)]) rfl ?_
  refine rn_icmpn (t := 105) rfl rfl rfl rfl h (fun h => ?_) (fun h => ?_)
  · refine rn_sls 3 (pc' := 76) (ls' := [(0, (2, 1000)), (1, (0, v1)), (2, (0, v2)), (3, (0, v3)), (4, (0, v4)), (5, (1, v5)), (7, (0, v7))]) (st' := [(0, v7), (0, v4), (2, 1000)]) rfl ?_
    refine rn_call 0 0 [(2, 1000), (0, v4), (0, v7)] (r := []) rfl ⟨rfl, Or.inl ⟨_, rfl, by decide⟩⟩ (by decide) (fun _ => ⟨_, rfl, rfl⟩) rfl rfl (Nat.le_of_ble_eq_true rfl) h (fun w hw => t_M_isNext (d + 3) _ _ _ _ hw) (fun a3 μ4 h => ?_)
    refine rn_sls 0 (pc' := 79) (ls' := [(0, (2, 1000)), (1, (0, v1)), (2, (0, v2)), (3, (0, v3)), (4, (0, v4)), (5, (1, v5)), (7, (0, v7))]) (st' := [(0, a3)]) rfl ?_
    refine rn_if (t := 99) rfl rfl rfl rfl h (fun h => ?_) (fun h => ?_)
    · exact rn_sub [0, 1, 2, 3, 4, 5, 6] rfl (t_M_orders_B99 d k41 hk41 k62 hk62 _ _ _ _ _ _ _ _ h)
    · refine rn_sls 8 (pc' := 95) (ls' := [(0, (2, 1000)), (1, (0, v1)), (2, (0, v2)), (3, (0, v3)), (4, (0, v4)), (5, (1, v5)), (7, (0, v7))]) (st' := [(0, (aOr v4 (aShl 1 v7))), (2, 1060), (1, v5)]) rfl ?_
      refine rn_lald (n := 4096) rfl rfl rfl h (fun a5 h => ?_)
      refine rn_sls 2 (pc' := 99) (ls' := [(5, (1, (w64 (v5 + a5)))), (0, (2, 1000)), (1, (0, v1)), (2, (0, v2)), (3, (0, v3)), (4, (0, v4)), (7, (0, v7))]) (st' := []) rfl ?_
      exact rn_sub [1, 2, 3, 4, 5, 0, 6] rfl (t_M_orders_B99 d k41 hk41 k62 hk62 _ _ _ _ _ _ _ _ h)
  · refine rn_sls 6 (pc' := 115) (ls' := [(0, (2, 1000)), (1, (0, v1)), (2, (0, v2)), (3, (0, v3)), (4, (0, v4)), (5, (1, v5)), (7, (0, v7))]) (st' := [(0, v4), (0, v1), (2, 1000), (0, v4), (2, 1060)]) rfl ?_
    refine rn_call 0 0 [(2, 1000), (0, v1), (0, v4)] (r := [(0, v4), (2, 1060)]) rfl ⟨rfl, Or.inl ⟨_, rfl, by decide⟩⟩ (by decide) (fun _ => ⟨_, rfl, rfl⟩) rfl rfl (Nat.le_of_ble_eq_true rfl) h (fun w hw => t_M_live (d + 3) _ _ _ _ hw) (fun a1 μ2 h => ?_)
    refine rn_sls 0 (pc' := 118) (ls' := [(0, (2, 1000)), (1, (0, v1)), (2, (0, v2)), (3, (0, v3)), (4, (0, v4)), (5, (1, v5)), (7, (0, v7))]) (st' := [(0, a1), (0, v4), (2, 1060)]) rfl ?_
    refine rn_sls 1 (pc' := 119) (ls' := [(0, (2, 1000)), (1, (0, v1)), (2, (0, v2)), (3, (0, v3)), (4, (0, v4)), (5, (1, v5)), (7, (0, v7))]) (st' := [(0, v2), (0, a1), (0, v4), (2, 1060)]) rfl ?_
    refine rn_icmp (t := 126) rfl rfl rfl rfl h (fun h => ?_) (fun h => ?_)
    · refine rn_sls 1 (pc' := 128) (ls' := [(0, (2, 1000)), (1, (0, v1)), (2, (0, v2)), (3, (0, v3)), (4, (0, v4)), (5, (1, v5)), (7, (0, v7))]) (st' := [(1, v5), (0, v4), (2, 1060)]) rfl ?_
      exact rn_sub [0, 1, 2, 3, 4] rfl (t_M_orders_B128 d k41 hk41 _ _ _ _ _ _ _ _ h)
    · refine rn_sls 1 (pc' := 123) (ls' := [(0, (2, 1000)), (1, (0, v1)), (2, (0, v2)), (3, (0, v3)), (4, (0, v4)), (5, (1, v5)), (7, (0, v7))]) (st' := [(1, 0), (0, v4), (2, 1060)]) rfl ?_
      refine rn_goto (t := 128) rfl rfl rfl ?_
      exact rn_sub [0, 1, 2, 3, 4] rfl (t_M_orders_B128 d k41 hk41 _ _ _ _ _ _ _ _ h)
set_option maxRecDepth 20000 in
theorem t_M_orders_L62 (d : Nat) (k41 : Int → Int → Int → Int → am_M → am_O) (hk41 : ∀ (v1 : Int) (v2 : Int) (v3 : Int) (v4 : Int) (μ : am_M) q, k41 v1 v2 v3 v4 μ = some q → am_run none (am_ar g_mt (d + 4)) 8 (some .long) k_M_orders 41 [(0, (2, 1000)), (1, (0, v1)), (2, (0, v2)), (3, (0, v3)), (4, (0, v4))] [] μ (am_res 1 q)) : ∀ (n : Nat) (v1 : Int) (v2 : Int) (v3 : Int) (v4 : Int) (v5 : Int) (v7 : Int) (μ : am_M) q, M_orders_L62 k41 n v1 v2 v3 v4 v5 v7 μ = some q → am_run none (am_ar g_mt (d + 4)) 8 (some .long) k_M_orders 62 [(0, (2, 1000)), (1, (0, v1)), (2, (0, v2)), (3, (0, v3)), (4, (0, v4)), (5, (1, v5)), (7, (0, v7))] [] μ (am_res 1 q) := by
  intro n
  induction n with
  | zero => intro v1 v2 v3 v4 v5 v7 μ q h; cases h
  | succ n ih => intro v1 v2 v3 v4 v5 v7 μ q h; exact t_M_orders_L62_b d k41 hk41 (M_orders_L62 k41 n) ih v1 v2 v3 v4 v5 v7 μ q h
set_option maxRecDepth 20000 in
theorem t_M_orders_B57 (d : Nat) (k41 : Int → Int → Int → Int → am_M → am_O) (hk41 : ∀ (v1 : Int) (v2 : Int) (v3 : Int) (v4 : Int) (μ : am_M) q, k41 v1 v2 v3 v4 μ = some q → am_run none (am_ar g_mt (d + 4)) 8 (some .long) k_M_orders 41 [(0, (2, 1000)), (1, (0, v1)), (2, (0, v2)), (3, (0, v3)), (4, (0, v4))] [] μ (am_res 1 q)) : ∀ (v1 : Int) (v2 : Int) (v3 : Int) (v4 : Int) (s0 : Int) (μ : am_M) q, M_orders_B57 k41 v1 v2 v3 v4 s0 μ = some q → am_run none (am_ar g_mt (d + 4)) 8 (some .long) k_M_orders 57 [(0, (2, 1000)), (1, (0, v1)), (2, (0, v2)), (3, (0, v3)), (4, (0, v4))] [(1, s0)] μ (am_res 1 q) := by
  intro v1 v2 v3 v4 s0 μ q h
  unfold M_orders_B57 at h
  refine rn_sls 3 (pc' := 62) (ls' := [(7, (0, 0)), (5, (1, s0)), (0, (2, 1000)), (1, (0, v1)), (2, (0, v2)), (3, (0, v3)), (4, (0, v4))]) (st' := []) rfl ?_
  exact rn_sub [2, 3, 4, 5, 6, 1, 0] rfl (t_M_orders_L62 d k41 hk41 am_FU _ _ _ _ _ _ _ _ h)
set_option maxRecDepth 20000 in
theorem t_M_orders_L41_b (d : Nat) (k41 : Int → Int → Int → Int → am_M → am_O) (hk41 : ∀ (v1 : Int) (v2 : Int) (v3 : Int) (v4 : Int) (μ : am_M) q, k41 v1 v2 v3 v4 μ = some q → am_run none (am_ar g_mt (d + 4)) 8 (some .long) k_M_orders 41 [(0, (2, 1000)), (1, (0, v1)), (2, (0, v2)), (3, (0, v3)), (4, (0, v4))] [] μ (am_res 1 q)) : ∀ (v1 : Int) (v2 : Int) (v3 : Int) (v4 : Int) (μ : am_M) q, M_orders_L41_b k41 v1 v2 v3 v4 μ = some q → am_run none (am_ar g_mt (d + 4)) 8 (some .long) k_M_orders 41 [(0, (2, 1000)), (1, (0, v1)), (2, (0, v2)), (3, (0, v3)), (4, (0, v4))] [] μ (am_res 1 q) := by
  intro v1 v2 v3 v4 μ q h
  unfold M_orders_L41_b at h
  refine rn_sls 1 (pc' := 43) (ls' := [(0, (2, 1000)), (1, (0, v1)), (2, (0, v2)), (3, (0, v3)), (4, (0, v4))]) (st' := [(0, v4)]) rfl ?_
  refine rn_if (t := 135) rfl rfl rfl rfl h (fun h => ?_) (fun h => ?_)
  · refine rn_sls 3 (pc' := 140) (ls' := [(0, (2, 1000)), (1, (0, v1)), (2, (0, v2)), (3, (0, v3)), (4, (0, v4))]) (st' := [(0, 0), (2, 1060)]) rfl ?_
    refine rn_lald (n := 4096) rfl rfl rfl h (fun a1 h => ?_)
    exact rn_lret rfl rfl rfl h rfl
  · refine rn_sls 2 (pc' := 49) (ls' := [(0, (2, 1000)), (1, (0, v1)), (2, (0, v2)), (3, (0, v3)), (4, (0, v4))]) (st' := [(0, v3), (0, v4)]) rfl ?_
    refine rn_icmpn (t := 56) rfl rfl rfl rfl h (fun h => ?_) (fun h => ?_)
    · refine rn_sls 1 (pc' := 53) (ls' := [(0, (2, 1000)), (1, (0, v1)), (2, (0, v2)), (3, (0, v3)), (4, (0, v4))]) (st' := [(1, 1)]) rfl ?_
      refine rn_goto (t := 57) rfl rfl rfl ?_
      exact rn_sub [0, 1, 2, 3, 4] rfl (t_M_orders_B57 d k41 hk41 _ _ _ _ _ _ _ h)
    · refine rn_sls 1 (pc' := 57) (ls' := [(0, (2, 1000)), (1, (0, v1)), (2, (0, v2)), (3, (0, v3)), (4, (0, v4))]) (st' := [(1, 0)]) rfl ?_
      exact rn_sub [0, 1, 2, 3, 4] rfl (t_M_orders_B57 d k41 hk41 _ _ _ _ _ _ _ h)
set_option maxRecDepth 20000 in
theorem t_M_orders_L41 (d : Nat) : ∀ (n : Nat) (v1 : Int) (v2 : Int) (v3 : Int) (v4 : Int) (μ : am_M) q, M_orders_L41 n v1 v2 v3 v4 μ = some q → am_run none (am_ar g_mt (d + 4)) 8 (some .long) k_M_orders 41 [(0, (2, 1000)), (1, (0, v1)), (2, (0, v2)), (3, (0, v3)), (4, (0, v4))] [] μ (am_res 1 q) := by
  intro n
  induction n with
  | zero => intro v1 v2 v3 v4 μ q h; cases h
  | succ n ih => intro v1 v2 v3 v4 μ q h; exact t_M_orders_L41_b d (M_orders_L41 n) ih v1 v2 v3 v4 μ q h
set_option maxRecDepth 20000 in
theorem t_M_orders (d : Nat) : ∀ (v1 : Int) (v2 : Int) (μ : am_M) q, M_orders v1 v2 μ = some q → am_ar g_mt (d + 5) 236 [(2, 1000), (0, v1), (0, v2)] μ (am_res 1 q) := by
  intro v1 v2 μ q h
  unfold M_orders at h
  refine am_ar_of (d := d + 4) i_M_orders rfl rfl (Nat.le_of_ble_eq_true rfl) ?_
  show am_run none (am_ar g_mt (d + 4)) 8 (some .long) k_M_orders 0 [(0, (2, 1000)), (1, (0, v1)), (2, (0, v2))] [] μ (am_res 1 q)
  refine rn_sls 2 (pc' := 2) (ls' := [(0, (2, 1000)), (1, (0, v1)), (2, (0, v2))]) (st' := [(0, 0), (2, 1000)]) rfl ?_
  refine rn_put rfl rfl rfl rfl (Or.inl ⟨rfl, rfl⟩) rfl h (fun μ1 h => ?_)
  refine rn_sls 3 (pc' := 9) (ls' := [(0, (2, 1000)), (1, (0, v1)), (2, (0, v2))]) (st' := [(0, 20), (0, 0), (0, v2)]) rfl ?_
  refine rn_call 2 0 [(0, v2), (0, 0), (0, 20)] (r := []) rfl ⟨rfl, Or.inr ⟨_, rfl, by decide⟩⟩ (by decide) (fun z => absurd z (by decide)) rfl rfl (Nat.le_of_ble_eq_true rfl) h (fun w hw => t_M_within (d + 3) _ _ _ _ _ hw) (fun a2 μ3 h => ?_)
  refine rn_sls 0 (pc' := 12) (ls' := [(0, (2, 1000)), (1, (0, v1)), (2, (0, v2))]) (st' := [(0, a2)]) rfl ?_
  refine rn_if (t := 25) rfl rfl rfl rfl h (fun h => ?_) (fun h => ?_)
  · refine rn_sls 1 (pc' := 28) (ls' := [(0, (2, 1000)), (1, (0, v1)), (2, (0, v2))]) (st' := [(1, (-1))]) rfl ?_
    exact rn_lret rfl rfl rfl h rfl
  · refine rn_sls 3 (pc' := 19) (ls' := [(0, (2, 1000)), (1, (0, v1)), (2, (0, v2))]) (st' := [(0, 12), (0, v1), (2, 1000)]) rfl ?_
    refine rn_call 0 0 [(2, 1000), (0, v1), (0, 12)] (r := []) rfl ⟨rfl, Or.inl ⟨_, rfl, by decide⟩⟩ (by decide) (fun _ => ⟨_, rfl, rfl⟩) rfl rfl (Nat.le_of_ble_eq_true rfl) h (fun w hw => t_M_isLaidOut (d + 0) _ _ _ _ hw) (fun a4 μ5 h => ?_)
    refine rn_sls 0 (pc' := 22) (ls' := [(0, (2, 1000)), (1, (0, v1)), (2, (0, v2))]) (st' := [(0, a4)]) rfl ?_
    refine rn_ifn (t := 29) rfl rfl rfl rfl h (fun h => ?_) (fun h => ?_)
    · refine rn_sls 1 (pc' := 28) (ls' := [(0, (2, 1000)), (1, (0, v1)), (2, (0, v2))]) (st' := [(1, (-1))]) rfl ?_
      exact rn_lret rfl rfl rfl h rfl
    · refine rn_sls 9 (pc' := 41) (ls' := [(4, (0, (w32 ((aShl 1 (μ5 1000 79)) - 1)))), (3, (0, (w32 ((aShl 1 (μ5 1000 79)) - 1)))), (0, (2, 1000)), (1, (0, v1)), (2, (0, v2))]) (st' := []) rfl ?_
      exact rn_sub [2, 3, 4, 1, 0] rfl (t_M_orders_L41 d  am_FU _ _ _ _ _ _ h)
set_option maxRecDepth 20000 in
theorem t_M_cheapest_B173 (d : Nat) (k81 : Int → Int → Int → Int → Int → am_M → am_O) (hk81 : ∀ (v1 : Int) (v2 : Int) (v3 : Int) (v4 : Int) (v6 : Int) (μ : am_M) q, k81 v1 v2 v3 v4 v6 μ = some q → am_run none (am_ar g_mt (d + 3)) 10 (some .long) k_M_cheapest 81 [(0, (2, 1000)), (1, (0, v1)), (2, (0, v2)), (3, (0, v3)), (4, (1, v4)), (6, (0, v6))] [] μ (am_res 1 q)) : ∀ (v1 : Int) (v2 : Int) (v3 : Int) (v4 : Int) (v6 : Int) (μ : am_M) q, M_cheapest_B173 k81 v1 v2 v3 v4 v6 μ = some q → am_run none (am_ar g_mt (d + 3)) 10 (some .long) k_M_cheapest 173 [(0, (2, 1000)), (1, (0, v1)), (2, (0, v2)), (3, (0, v3)), (4, (1, v4)), (6, (0, v6))] [] μ (am_res 1 q) := by
  intro v1 v2 v3 v4 v6 μ q h
  unfold M_cheapest_B173 at h
  refine rn_sls 1 (pc' := 176) (ls' := [(6, (0, (w32 (v6 + 1)))), (0, (2, 1000)), (1, (0, v1)), (2, (0, v2)), (3, (0, v3)), (4, (1, v4))]) (st' := []) rfl ?_
  refine rn_goto (t := 81) rfl rfl rfl ?_
  exact rn_sub [1, 2, 3, 4, 5, 0] rfl (hk81 _ _ _ _ _ _ _ h)
set_option maxRecDepth 20000 in
theorem t_M_cheapest_L112_b (d : Nat) (k81 : Int → Int → Int → Int → Int → am_M → am_O) (hk81 : ∀ (v1 : Int) (v2 : Int) (v3 : Int) (v4 : Int) (v6 : Int) (μ : am_M) q, k81 v1 v2 v3 v4 v6 μ = some q → am_run none (am_ar g_mt (d + 3)) 10 (some .long) k_M_cheapest 81 [(0, (2, 1000)), (1, (0, v1)), (2, (0, v2)), (3, (0, v3)), (4, (1, v4)), (6, (0, v6))] [] μ (am_res 1 q)) (k112 : Int → Int → Int → Int → Int → Int → Int → am_M → am_O) (hk112 : ∀ (v1 : Int) (v2 : Int) (v3 : Int) (v4 : Int) (v6 : Int) (v7 : Int) (v9 : Int) (μ : am_M) q, k112 v1 v2 v3 v4 v6 v7 v9 μ = some q → am_run none (am_ar g_mt (d + 3)) 10 (some .long) k_M_cheapest 112 [(0, (2, 1000)), (1, (0, v1)), (2, (0, v2)), (3, (0, v3)), (4, (1, v4)), (6, (0, v6)), (7, (1, v7)), (9, (0, v9))] [] μ (am_res 1 q)) : ∀ (v1 : Int) (v2 : Int) (v3 : Int) (v4 : Int) (v6 : Int) (v7 : Int) (v9 : Int) (μ : am_M) q, M_cheapest_L112_b k81 k112 v1 v2 v3 v4 v6 v7 v9 μ = some q → am_run none (am_ar g_mt (d + 3)) 10 (some .long) k_M_cheapest 112 [(0, (2, 1000)), (1, (0, v1)), (2, (0, v2)), (3, (0, v3)), (4, (1, v4)), (6, (0, v6)), (7, (1, v7)), (9, (0, v9))] [] μ (am_res 1 q) := by
  intro v1 v2 v3 v4 v6 v7 v9 μ q h
  unfold M_cheapest_L112_b at h
  refine rn_sls 2 (pc' := 116) (ls' := [(0, (2, 1000)), (1, (0, v1)), (2, (0, v2)), (3, (0, v3)), (4, (1, v4)), (6, (0, v6)), (7, (1, v7)), (9, (0, v9))]) (st' := [(0, 10), (0, v9)]) rfl ?_
  refine rn_icmpn (t := 147) rfl rfl rfl rfl h (fun h => ?_) (fun h => ?_)
  · refine rn_sls 4 (pc' := 126) (ls' := [(0, (2, 1000)), (1, (0, v1)), (2, (0, v2)), (3, (0, v3)), (4, (1, v4)), (6, (0, v6)), (7, (1, v7)), (9, (0, v9))]) (st' := [(0, v9), (0, v6), (2, 1000), (1, v7)]) rfl ?_
    refine rn_call 0 0 [(2, 1000), (0, v6), (0, v9)] (r := [(1, v7)]) rfl ⟨rfl, Or.inl ⟨_, rfl, by decide⟩⟩ (by decide) (fun _ => ⟨_, rfl, rfl⟩) rfl rfl (Nat.le_of_ble_eq_true rfl) h (fun w hw => t_M_readsOf (d + 1) _ _ _ _ hw) (fun a4 μ5 h => ?_)
    refine rn_sls 0 (pc' := 129) (ls' := [(0, (2, 1000)), (1, (0, v1)), (2, (0, v2)), (3, (0, v3)), (4, (1, v4)), (6, (0, v6)), (7, (1, v7)), (9, (0, v9))]) (st' := [(0, a4), (1, v7)]) rfl ?_
    refine rn_sls 4 (pc' := 136) (ls' := [(0, (2, 1000)), (1, (0, v1)), (2, (0, v2)), (3, (0, v3)), (4, (1, v4)), (6, (0, v6)), (7, (1, v7)), (9, (0, v9))]) (st' := [(0, v9), (2, 1061), (1, a4), (1, v7)]) rfl ?_
    refine rn_lald (n := 10) rfl rfl rfl h (fun a6 h => ?_)
    refine rn_sls 4 (pc' := 144) (ls' := [(9, (0, (w32 (v9 + 1)))), (7, (1, (w64 (v7 + (w64 (a4 * a6)))))), (0, (2, 1000)), (1, (0, v1)), (2, (0, v2)), (3, (0, v3)), (4, (1, v4)), (6, (0, v6))]) (st' := []) rfl ?_
    refine rn_goto (t := 112) rfl rfl rfl ?_
    exact rn_sub [2, 3, 4, 5, 6, 7, 1, 0] rfl (hk112 _ _ _ _ _ _ _ _ _ h)
  · refine rn_sls 5 (pc' := 157) (ls' := [(0, (2, 1000)), (1, (0, v1)), (2, (0, v2)), (3, (0, v3)), (4, (1, v4)), (6, (0, v6)), (7, (1, v7)), (9, (0, v9))]) (st' := [(0, v6), (2, 1003), (2, 1061)]) rfl ?_
    refine rn_iald (n := 120) rfl rfl rfl h (fun a1 h => ?_)
    refine rn_sls 3 (pc' := 162) (ls' := [(0, (2, 1000)), (1, (0, v1)), (2, (0, v2)), (3, (0, v3)), (4, (1, v4)), (6, (0, v6)), (7, (1, v7)), (9, (0, v9))]) (st' := [(1, v7), (1, v2), (0, a1), (2, 1061)]) rfl ?_
    refine rn_minL rfl ⟨rfl, Or.inr ⟨_, rfl, by decide⟩⟩ rfl (Nat.le_of_ble_eq_true rfl) ?_
    refine rn_nm (ls := fun x => [(0, (2, 1000)), (1, (0, v1)), (2, (0, v2)), (3, (0, v3)), (4, (1, v4)), (6, (0, v6)), (7, (1, v7)), (9, (0, v9))]) (st := fun x => [(1, x), (0, a1), (2, 1061)]) h (fun a2 h => ?_)
    refine rn_last (n := 10) rfl rfl rfl h (fun μ3 h => ?_)
    refine rn_sls 5 (pc' := 173) (ls' := [(4, (1, (w64 (v4 + v3)))), (0, (2, 1000)), (1, (0, v1)), (2, (0, v2)), (3, (0, v3)), (6, (0, v6)), (7, (1, v7)), (9, (0, v9))]) (st' := []) rfl ?_
    exact rn_sub [1, 2, 3, 4, 0, 5] rfl (t_M_cheapest_B173 d k81 hk81 _ _ _ _ _ _ _ h)
set_option maxRecDepth 20000 in
theorem t_M_cheapest_L112 (d : Nat) (k81 : Int → Int → Int → Int → Int → am_M → am_O) (hk81 : ∀ (v1 : Int) (v2 : Int) (v3 : Int) (v4 : Int) (v6 : Int) (μ : am_M) q, k81 v1 v2 v3 v4 v6 μ = some q → am_run none (am_ar g_mt (d + 3)) 10 (some .long) k_M_cheapest 81 [(0, (2, 1000)), (1, (0, v1)), (2, (0, v2)), (3, (0, v3)), (4, (1, v4)), (6, (0, v6))] [] μ (am_res 1 q)) : ∀ (n : Nat) (v1 : Int) (v2 : Int) (v3 : Int) (v4 : Int) (v6 : Int) (v7 : Int) (v9 : Int) (μ : am_M) q, M_cheapest_L112 k81 n v1 v2 v3 v4 v6 v7 v9 μ = some q → am_run none (am_ar g_mt (d + 3)) 10 (some .long) k_M_cheapest 112 [(0, (2, 1000)), (1, (0, v1)), (2, (0, v2)), (3, (0, v3)), (4, (1, v4)), (6, (0, v6)), (7, (1, v7)), (9, (0, v9))] [] μ (am_res 1 q) := by
  intro n
  induction n with
  | zero => intro v1 v2 v3 v4 v6 v7 v9 μ q h; cases h
  | succ n ih => intro v1 v2 v3 v4 v6 v7 v9 μ q h; exact t_M_cheapest_L112_b d k81 hk81 (M_cheapest_L112 k81 n) ih v1 v2 v3 v4 v6 v7 v9 μ q h
set_option maxRecDepth 20000 in
theorem t_M_cheapest_L204_b (d : Nat) (k182 : Int → Int → Int → am_M → am_O) (hk182 : ∀ (v1 : Int) (v4 : Int) (v6 : Int) (μ : am_M) q, k182 v1 v4 v6 μ = some q → am_run none (am_ar g_mt (d + 3)) 10 (some .long) k_M_cheapest 182 [(0, (2, 1000)), (1, (0, v1)), (4, (1, v4)), (6, (0, v6))] [] μ (am_res 1 q)) (k204 : Int → Int → Int → Int → Int → am_M → am_O) (hk204 : ∀ (v1 : Int) (v4 : Int) (v6 : Int) (v7 : Int) (v8 : Int) (μ : am_M) q, k204 v1 v4 v6 v7 v8 μ = some q → am_run none (am_ar g_mt (d + 3)) 10 (some .long) k_M_cheapest 204 [(0, (2, 1000)), (1, (0, v1)), (4, (1, v4)), (6, (0, v6)), (7, (0, v7)), (8, (0, v8))] [] μ (am_res 1 q)) : ∀ (v1 : Int) (v4 : Int) (v6 : Int) (v7 : Int) (v8 : Int) (μ : am_M) q, M_cheapest_L204_b k182 k204 v1 v4 v6 v7 v8 μ = some q → am_run none (am_ar g_mt (d + 3)) 10 (some .long) k_M_cheapest 204 [(0, (2, 1000)), (1, (0, v1)), (4, (1, v4)), (6, (0, v6)), (7, (0, v7)), (8, (0, v8))] [] μ (am_res 1 q) := by
  intro v1 v4 v6 v7 v8 μ q h
  unfold M_cheapest_L204_b at h
  refine rn_sls 3 (pc' := 208) (ls' := [(0, (2, 1000)), (1, (0, v1)), (4, (1, v4)), (6, (0, v6)), (7, (0, v7)), (8, (0, v8))]) (st' := [(0, v1), (2, 1000), (0, v8)]) rfl ?_
  refine rn_call 0 0 [(2, 1000), (0, v1)] (r := [(0, v8)]) rfl ⟨rfl, Or.inl ⟨_, rfl, by decide⟩⟩ (by decide) (fun _ => ⟨_, rfl, rfl⟩) rfl rfl (Nat.le_of_ble_eq_true rfl) h (fun w hw => t_M_lastLine (d + 2) _ _ _ hw) (fun a1 μ2 h => ?_)
  refine rn_sls 0 (pc' := 211) (ls' := [(0, (2, 1000)), (1, (0, v1)), (4, (1, v4)), (6, (0, v6)), (7, (0, v7)), (8, (0, v8))]) (st' := [(0, a1), (0, v8)]) rfl ?_
  refine rn_icmpn (t := 233) rfl rfl rfl rfl h (fun h => ?_) (fun h => ?_)
  · refine rn_sls 4 (pc' := 221) (ls' := [(0, (2, 1000)), (1, (0, v1)), (4, (1, v4)), (6, (0, v6)), (7, (0, v7)), (8, (0, v8))]) (st' := [(0, v6), (0, v8), (2, 1000), (0, v7)]) rfl ?_
    refine rn_call 0 0 [(2, 1000), (0, v8), (0, v6)] (r := [(0, v7)]) rfl ⟨rfl, Or.inl ⟨_, rfl, by decide⟩⟩ (by decide) (fun _ => ⟨_, rfl, rfl⟩) rfl rfl (Nat.le_of_ble_eq_true rfl) h (fun w hw => t_M_readsOf (d + 1) _ _ _ _ hw) (fun a5 μ6 h => ?_)
    refine rn_sls 0 (pc' := 224) (ls' := [(0, (2, 1000)), (1, (0, v1)), (4, (1, v4)), (6, (0, v6)), (7, (0, v7)), (8, (0, v8))]) (st' := [(0, a5), (0, v7)]) rfl ?_
    refine rn_sls 3 (pc' := 230) (ls' := [(8, (0, (w32 (v8 + 1)))), (7, (0, (w32 (v7 + a5)))), (0, (2, 1000)), (1, (0, v1)), (4, (1, v4)), (6, (0, v6))]) (st' := []) rfl ?_
    refine rn_goto (t := 204) rfl rfl rfl ?_
    exact rn_sub [2, 3, 4, 5, 1, 0] rfl (hk204 _ _ _ _ _ _ _ h)
  · refine rn_sls 5 (pc' := 240) (ls' := [(0, (2, 1000)), (1, (0, v1)), (4, (1, v4)), (6, (0, v6)), (7, (0, v7)), (8, (0, v8))]) (st' := [(0, (w32 (v7 - 1))), (0, 0), (1, v4)]) rfl ?_
    refine rn_max rfl ⟨rfl, Or.inr ⟨_, rfl, by decide⟩⟩ rfl (Nat.le_of_ble_eq_true rfl) ?_
    refine rn_nm (ls := fun x => [(0, (2, 1000)), (1, (0, v1)), (4, (1, v4)), (6, (0, v6)), (7, (0, v7)), (8, (0, v8))]) (st := fun x => [(0, x), (1, v4)]) h (fun a3 h => ?_)
    refine rn_sls 4 (pc' := 250) (ls' := [(0, (2, 1000)), (1, (0, v1)), (4, (1, v4)), (6, (0, v6)), (7, (0, v7)), (8, (0, v8))]) (st' := [(0, v6), (2, 1061), (1, a3), (1, v4)]) rfl ?_
    refine rn_lald (n := 10) rfl rfl rfl h (fun a4 h => ?_)
    refine rn_sls 4 (pc' := 258) (ls' := [(6, (0, (w32 (v6 + 1)))), (4, (1, (w64 (v4 + (w64 (a3 * a4)))))), (0, (2, 1000)), (1, (0, v1)), (7, (0, v7)), (8, (0, v8))]) (st' := []) rfl ?_
    refine rn_goto (t := 182) rfl rfl rfl ?_
    exact rn_sub [2, 3, 1, 0] rfl (hk182 _ _ _ _ _ h)
set_option maxRecDepth 20000 in
theorem t_M_cheapest_L204 (d : Nat) (k182 : Int → Int → Int → am_M → am_O) (hk182 : ∀ (v1 : Int) (v4 : Int) (v6 : Int) (μ : am_M) q, k182 v1 v4 v6 μ = some q → am_run none (am_ar g_mt (d + 3)) 10 (some .long) k_M_cheapest 182 [(0, (2, 1000)), (1, (0, v1)), (4, (1, v4)), (6, (0, v6))] [] μ (am_res 1 q)) : ∀ (n : Nat) (v1 : Int) (v4 : Int) (v6 : Int) (v7 : Int) (v8 : Int) (μ : am_M) q, M_cheapest_L204 k182 n v1 v4 v6 v7 v8 μ = some q → am_run none (am_ar g_mt (d + 3)) 10 (some .long) k_M_cheapest 204 [(0, (2, 1000)), (1, (0, v1)), (4, (1, v4)), (6, (0, v6)), (7, (0, v7)), (8, (0, v8))] [] μ (am_res 1 q) := by
  intro n
  induction n with
  | zero => intro v1 v4 v6 v7 v8 μ q h; cases h
  | succ n ih => intro v1 v4 v6 v7 v8 μ q h; exact t_M_cheapest_L204_b d k182 hk182 (M_cheapest_L204 k182 n) ih v1 v4 v6 v7 v8 μ q h
set_option maxRecDepth 20000 in
theorem t_M_cheapest_L182_b (d : Nat) (k182 : Int → Int → Int → am_M → am_O) (hk182 : ∀ (v1 : Int) (v4 : Int) (v6 : Int) (μ : am_M) q, k182 v1 v4 v6 μ = some q → am_run none (am_ar g_mt (d + 3)) 10 (some .long) k_M_cheapest 182 [(0, (2, 1000)), (1, (0, v1)), (4, (1, v4)), (6, (0, v6))] [] μ (am_res 1 q)) : ∀ (v1 : Int) (v4 : Int) (v6 : Int) (μ : am_M) q, M_cheapest_L182_b k182 v1 v4 v6 μ = some q → am_run none (am_ar g_mt (d + 3)) 10 (some .long) k_M_cheapest 182 [(0, (2, 1000)), (1, (0, v1)), (4, (1, v4)), (6, (0, v6))] [] μ (am_res 1 q) := by
  intro v1 v4 v6 μ q h
  unfold M_cheapest_L182_b at h
  refine rn_sls 4 (pc' := 189) (ls' := [(0, (2, 1000)), (1, (0, v1)), (4, (1, v4)), (6, (0, v6))]) (st' := [(0, v1), (2, 1020), (0, v6)]) rfl ?_
  refine rn_iald (n := 8) rfl rfl rfl h (fun a1 h => ?_)
  refine rn_icmpn (t := 261) rfl rfl rfl rfl h (fun h => ?_) (fun h => ?_)
  · refine rn_sls 5 (pc' := 201) (ls' := [(7, (0, 0)), (0, (2, 1000)), (1, (0, v1)), (4, (1, v4)), (6, (0, v6))]) (st' := [(0, v1), (2, 1017)]) rfl ?_
    refine rn_iald (n := 8) rfl rfl rfl h (fun a2 h => ?_)
    refine rn_sls 1 (pc' := 204) (ls' := [(8, (0, a2)), (7, (0, 0)), (0, (2, 1000)), (1, (0, v1)), (4, (1, v4)), (6, (0, v6))]) (st' := []) rfl ?_
    exact rn_sub [2, 3, 4, 5, 1, 0] rfl (t_M_cheapest_L204 d k182 hk182 am_FU _ _ _ _ _ _ _ h)
  · refine rn_sls 1 (pc' := 263) (ls' := [(0, (2, 1000)), (1, (0, v1)), (4, (1, v4)), (6, (0, v6))]) (st' := [(1, v4)]) rfl ?_
    exact rn_lret rfl rfl rfl h rfl
set_option maxRecDepth 20000 in
theorem t_M_cheapest_L182 (d : Nat) : ∀ (n : Nat) (v1 : Int) (v4 : Int) (v6 : Int) (μ : am_M) q, M_cheapest_L182 n v1 v4 v6 μ = some q → am_run none (am_ar g_mt (d + 3)) 10 (some .long) k_M_cheapest 182 [(0, (2, 1000)), (1, (0, v1)), (4, (1, v4)), (6, (0, v6))] [] μ (am_res 1 q) := by
  intro n
  induction n with
  | zero => intro v1 v4 v6 μ q h; cases h
  | succ n ih => intro v1 v4 v6 μ q h; exact t_M_cheapest_L182_b d (M_cheapest_L182 n) ih v1 v4 v6 μ q h
set_option maxRecDepth 20000 in
theorem t_M_cheapest_L81_b (d : Nat) (k81 : Int → Int → Int → Int → Int → am_M → am_O) (hk81 : ∀ (v1 : Int) (v2 : Int) (v3 : Int) (v4 : Int) (v6 : Int) (μ : am_M) q, k81 v1 v2 v3 v4 v6 μ = some q → am_run none (am_ar g_mt (d + 3)) 10 (some .long) k_M_cheapest 81 [(0, (2, 1000)), (1, (0, v1)), (2, (0, v2)), (3, (0, v3)), (4, (1, v4)), (6, (0, v6))] [] μ (am_res 1 q)) : ∀ (v1 : Int) (v2 : Int) (v3 : Int) (v4 : Int) (v6 : Int) (μ : am_M) q, M_cheapest_L81_b k81 v1 v2 v3 v4 v6 μ = some q → am_run none (am_ar g_mt (d + 3)) 10 (some .long) k_M_cheapest 81 [(0, (2, 1000)), (1, (0, v1)), (2, (0, v2)), (3, (0, v3)), (4, (1, v4)), (6, (0, v6))] [] μ (am_res 1 q) := by
  intro v1 v2 v3 v4 v6 μ q h
  unfold M_cheapest_L81_b at h
  refine rn_sls 3 (pc' := 85) (ls' := [(0, (2, 1000)), (1, (0, v1)), (2, (0, v2)), (3, (0, v3)), (4, (1, v4)), (6, (0, v6))]) (st' := [(0, v1), (2, 1000), (0, v6)]) rfl ?_
  refine rn_call 0 0 [(2, 1000), (0, v1)] (r := [(0, v6)]) rfl ⟨rfl, Or.inl ⟨_, rfl, by decide⟩⟩ (by decide) (fun _ => ⟨_, rfl, rfl⟩) rfl rfl (Nat.le_of_ble_eq_true rfl) h (fun w hw => t_M_lastLine (d + 2) _ _ _ hw) (fun a1 μ2 h => ?_)
  refine rn_sls 0 (pc' := 88) (ls' := [(0, (2, 1000)), (1, (0, v1)), (2, (0, v2)), (3, (0, v3)), (4, (1, v4)), (6, (0, v6))]) (st' := [(0, a1), (0, v6)]) rfl ?_
  refine rn_icmpn (t := 179) rfl rfl rfl rfl h (fun h => ?_) (fun h => ?_)
  · refine rn_sls 3 (pc' := 97) (ls' := [(0, (2, 1000)), (1, (0, v1)), (2, (0, v2)), (3, (0, v3)), (4, (1, v4)), (6, (0, v6))]) (st' := [(0, v6), (2, 1002)]) rfl ?_
    refine rn_iald (n := 120) rfl rfl rfl h (fun a3 h => ?_)
    refine rn_sls 1 (pc' := 99) (ls' := [(0, (2, 1000)), (1, (0, v1)), (2, (0, v2)), (3, (0, v3)), (4, (1, v4)), (6, (0, v6))]) (st' := [(0, 1), (0, a3)]) rfl ?_
    refine rn_icmp (t := 105) rfl rfl rfl rfl h (fun h => ?_) (fun h => ?_)
    · refine rn_sls 5 (pc' := 112) (ls' := [(9, (0, 0)), (7, (1, v3)), (0, (2, 1000)), (1, (0, v1)), (2, (0, v2)), (3, (0, v3)), (4, (1, v4)), (6, (0, v6))]) (st' := []) rfl ?_
      exact rn_sub [2, 3, 4, 5, 6, 7, 1, 0] rfl (t_M_cheapest_L112 d k81 hk81 am_FU _ _ _ _ _ _ _ _ _ h)
    · refine rn_goto (t := 173) rfl rfl rfl ?_
      exact rn_sub [0, 1, 2, 3, 4, 5] rfl (t_M_cheapest_B173 d k81 hk81 _ _ _ _ _ _ _ h)
  · refine rn_sls 2 (pc' := 182) (ls' := [(6, (0, 0)), (0, (2, 1000)), (1, (0, v1)), (2, (0, v2)), (3, (0, v3)), (4, (1, v4))]) (st' := []) rfl ?_
    exact rn_sub [1, 2, 5, 0] rfl (t_M_cheapest_L182 d  am_FU _ _ _ _ _ h)
set_option maxRecDepth 20000 in
theorem t_M_cheapest_L81 (d : Nat) : ∀ (n : Nat) (v1 : Int) (v2 : Int) (v3 : Int) (v4 : Int) (v6 : Int) (μ : am_M) q, M_cheapest_L81 n v1 v2 v3 v4 v6 μ = some q → am_run none (am_ar g_mt (d + 3)) 10 (some .long) k_M_cheapest 81 [(0, (2, 1000)), (1, (0, v1)), (2, (0, v2)), (3, (0, v3)), (4, (1, v4)), (6, (0, v6))] [] μ (am_res 1 q) := by
  intro n
  induction n with
  | zero => intro v1 v2 v3 v4 v6 μ q h; cases h
  | succ n ih => intro v1 v2 v3 v4 v6 μ q h; exact t_M_cheapest_L81_b d (M_cheapest_L81 n) ih v1 v2 v3 v4 v6 μ q h
set_option maxRecDepth 20000 in
theorem t_M_cheapest_L51_b (d : Nat) (k51 : Int → Int → Int → Int → Int → am_M → am_O) (hk51 : ∀ (v1 : Int) (v2 : Int) (v3 : Int) (v4 : Int) (v6 : Int) (μ : am_M) q, k51 v1 v2 v3 v4 v6 μ = some q → am_run none (am_ar g_mt (d + 3)) 10 (some .long) k_M_cheapest 51 [(0, (2, 1000)), (1, (0, v1)), (2, (0, v2)), (3, (0, v3)), (4, (1, v4)), (6, (0, v6))] [] μ (am_res 1 q)) : ∀ (v1 : Int) (v2 : Int) (v3 : Int) (v4 : Int) (v6 : Int) (μ : am_M) q, M_cheapest_L51_b k51 v1 v2 v3 v4 v6 μ = some q → am_run none (am_ar g_mt (d + 3)) 10 (some .long) k_M_cheapest 51 [(0, (2, 1000)), (1, (0, v1)), (2, (0, v2)), (3, (0, v3)), (4, (1, v4)), (6, (0, v6))] [] μ (am_res 1 q) := by
  intro v1 v2 v3 v4 v6 μ q h
  unfold M_cheapest_L51_b at h
  refine rn_sls 2 (pc' := 55) (ls' := [(0, (2, 1000)), (1, (0, v1)), (2, (0, v2)), (3, (0, v3)), (4, (1, v4)), (6, (0, v6))]) (st' := [(0, 10), (0, v6)]) rfl ?_
  refine rn_icmpn (t := 73) rfl rfl rfl rfl h (fun h => ?_) (fun h => ?_)
  · refine rn_sls 5 (pc' := 66) (ls' := [(0, (2, 1000)), (1, (0, v1)), (2, (0, v2)), (3, (0, v3)), (4, (1, v4)), (6, (0, v6))]) (st' := [(1, v2), (0, v6), (2, 1061)]) rfl ?_
    refine rn_last (n := 10) rfl rfl rfl h (fun μ2 h => ?_)
    refine rn_sls 1 (pc' := 70) (ls' := [(6, (0, (w32 (v6 + 1)))), (0, (2, 1000)), (1, (0, v1)), (2, (0, v2)), (3, (0, v3)), (4, (1, v4))]) (st' := []) rfl ?_
    refine rn_goto (t := 51) rfl rfl rfl ?_
    exact rn_sub [1, 2, 3, 4, 5, 0] rfl (hk51 _ _ _ _ _ _ _ h)
  · refine rn_sls 3 (pc' := 78) (ls' := [(0, (2, 1000)), (1, (0, v1)), (2, (0, v2)), (3, (0, v3)), (4, (1, v4)), (6, (0, v6))]) (st' := [(0, v1), (2, 1017)]) rfl ?_
    refine rn_iald (n := 8) rfl rfl rfl h (fun a1 h => ?_)
    refine rn_sls 1 (pc' := 81) (ls' := [(6, (0, a1)), (0, (2, 1000)), (1, (0, v1)), (2, (0, v2)), (3, (0, v3)), (4, (1, v4))]) (st' := []) rfl ?_
    exact rn_sub [1, 2, 3, 4, 5, 0] rfl (t_M_cheapest_L81 d  am_FU _ _ _ _ _ _ _ h)
set_option maxRecDepth 20000 in
theorem t_M_cheapest_L51 (d : Nat) : ∀ (n : Nat) (v1 : Int) (v2 : Int) (v3 : Int) (v4 : Int) (v6 : Int) (μ : am_M) q, M_cheapest_L51 n v1 v2 v3 v4 v6 μ = some q → am_run none (am_ar g_mt (d + 3)) 10 (some .long) k_M_cheapest 51 [(0, (2, 1000)), (1, (0, v1)), (2, (0, v2)), (3, (0, v3)), (4, (1, v4)), (6, (0, v6))] [] μ (am_res 1 q) := by
  intro n
  induction n with
  | zero => intro v1 v2 v3 v4 v6 μ q h; cases h
  | succ n ih => intro v1 v2 v3 v4 v6 μ q h; exact t_M_cheapest_L51_b d (M_cheapest_L51 n) ih v1 v2 v3 v4 v6 μ q h
set_option maxRecDepth 20000 in
theorem t_M_cheapest (d : Nat) : ∀ (v1 : Int) (v2 : Int) (v3 : Int) (μ : am_M) q, M_cheapest v1 v2 v3 μ = some q → am_ar g_mt (d + 4) 237 [(2, 1000), (0, v1), (0, v2), (0, v3)] μ (am_res 1 q) := by
  intro v1 v2 v3 μ q h
  unfold M_cheapest at h
  refine am_ar_of (d := d + 3) i_M_cheapest rfl rfl (Nat.le_of_ble_eq_true rfl) ?_
  show am_run none (am_ar g_mt (d + 3)) 10 (some .long) k_M_cheapest 0 [(0, (2, 1000)), (1, (0, v1)), (2, (0, v2)), (3, (0, v3))] [] μ (am_res 1 q)
  refine rn_sls 2 (pc' := 2) (ls' := [(0, (2, 1000)), (1, (0, v1)), (2, (0, v2)), (3, (0, v3))]) (st' := [(0, 0), (2, 1000)]) rfl ?_
  refine rn_put rfl rfl rfl rfl (Or.inl ⟨rfl, rfl⟩) rfl h (fun μ1 h => ?_)
  refine rn_sls 3 (pc' := 9) (ls' := [(0, (2, 1000)), (1, (0, v1)), (2, (0, v2)), (3, (0, v3))]) (st' := [(0, 99), (0, 0), (0, v2)]) rfl ?_
  refine rn_call 2 0 [(0, v2), (0, 0), (0, 99)] (r := []) rfl ⟨rfl, Or.inr ⟨_, rfl, by decide⟩⟩ (by decide) (fun z => absurd z (by decide)) rfl rfl (Nat.le_of_ble_eq_true rfl) h (fun w hw => t_M_within (d + 2) _ _ _ _ _ hw) (fun a2 μ3 h => ?_)
  refine rn_sls 0 (pc' := 12) (ls' := [(0, (2, 1000)), (1, (0, v1)), (2, (0, v2)), (3, (0, v3))]) (st' := [(0, a2)]) rfl ?_
  refine rn_if (t := 41) rfl rfl rfl rfl h (fun h => ?_) (fun h => ?_)
  · refine rn_sls 1 (pc' := 44) (ls' := [(0, (2, 1000)), (1, (0, v1)), (2, (0, v2)), (3, (0, v3))]) (st' := [(1, (-1))]) rfl ?_
    exact rn_lret rfl rfl rfl h rfl
  · refine rn_sls 3 (pc' := 19) (ls' := [(0, (2, 1000)), (1, (0, v1)), (2, (0, v2)), (3, (0, v3))]) (st' := [(0, 99), (0, 0), (0, v3)]) rfl ?_
    refine rn_call 2 0 [(0, v3), (0, 0), (0, 99)] (r := []) rfl ⟨rfl, Or.inr ⟨_, rfl, by decide⟩⟩ (by decide) (fun z => absurd z (by decide)) rfl rfl (Nat.le_of_ble_eq_true rfl) h (fun w hw => t_M_within (d + 2) _ _ _ _ _ hw) (fun a4 μ5 h => ?_)
    refine rn_sls 0 (pc' := 22) (ls' := [(0, (2, 1000)), (1, (0, v1)), (2, (0, v2)), (3, (0, v3))]) (st' := [(0, a4)]) rfl ?_
    refine rn_if (t := 41) rfl rfl rfl rfl h (fun h => ?_) (fun h => ?_)
    · refine rn_sls 1 (pc' := 44) (ls' := [(0, (2, 1000)), (1, (0, v1)), (2, (0, v2)), (3, (0, v3))]) (st' := [(1, (-1))]) rfl ?_
      exact rn_lret rfl rfl rfl h rfl
    · refine rn_sls 2 (pc' := 27) (ls' := [(0, (2, 1000)), (1, (0, v1)), (2, (0, v2)), (3, (0, v3))]) (st' := [(0, v1), (2, 1000)]) rfl ?_
      refine rn_call 0 0 [(2, 1000), (0, v1)] (r := []) rfl ⟨rfl, Or.inl ⟨_, rfl, by decide⟩⟩ (by decide) (fun _ => ⟨_, rfl, rfl⟩) rfl rfl (Nat.le_of_ble_eq_true rfl) h (fun w hw => t_M_isBill (d + 2) _ _ _ hw) (fun a6 μ7 h => ?_)
      refine rn_sls 0 (pc' := 30) (ls' := [(0, (2, 1000)), (1, (0, v1)), (2, (0, v2)), (3, (0, v3))]) (st' := [(0, a6)]) rfl ?_
      refine rn_if (t := 41) rfl rfl rfl rfl h (fun h => ?_) (fun h => ?_)
      · refine rn_sls 1 (pc' := 44) (ls' := [(0, (2, 1000)), (1, (0, v1)), (2, (0, v2)), (3, (0, v3))]) (st' := [(1, (-1))]) rfl ?_
        exact rn_lret rfl rfl rfl h rfl
      · refine rn_sls 2 (pc' := 35) (ls' := [(0, (2, 1000)), (1, (0, v1)), (2, (0, v2)), (3, (0, v3))]) (st' := [(0, v1), (2, 1000)]) rfl ?_
        refine rn_call 0 0 [(2, 1000), (0, v1)] (r := []) rfl ⟨rfl, Or.inl ⟨_, rfl, by decide⟩⟩ (by decide) (fun _ => ⟨_, rfl, rfl⟩) rfl rfl (Nat.le_of_ble_eq_true rfl) h (fun w hw => t_M_isPlain (d + 0) _ _ _ hw) (fun a8 μ9 h => ?_)
        refine rn_sls 0 (pc' := 38) (ls' := [(0, (2, 1000)), (1, (0, v1)), (2, (0, v2)), (3, (0, v3))]) (st' := [(0, a8)]) rfl ?_
        refine rn_ifn (t := 45) rfl rfl rfl rfl h (fun h => ?_) (fun h => ?_)
        · refine rn_sls 1 (pc' := 44) (ls' := [(0, (2, 1000)), (1, (0, v1)), (2, (0, v2)), (3, (0, v3))]) (st' := [(1, (-1))]) rfl ?_
          exact rn_lret rfl rfl rfl h rfl
        · refine rn_sls 4 (pc' := 51) (ls' := [(6, (0, 0)), (4, (1, 0)), (0, (2, 1000)), (1, (0, v1)), (2, (0, v2)), (3, (0, v3))]) (st' := []) rfl ?_
          exact rn_sub [2, 3, 4, 5, 1, 0] rfl (t_M_cheapest_L51 d  am_FU _ _ _ _ _ _ _ h)
set_option maxRecDepth 20000 in
theorem t_M_keeps (d : Nat) : ∀ (v1 : Int) (v2 : Int) (μ : am_M) q, M_keeps v1 v2 μ = some q → am_ar g_mt (d + 1) 238 [(2, 1000), (0, v1), (0, v2)] μ (am_res 0 q) := by
  intro v1 v2 μ q h
  unfold M_keeps at h
  refine am_ar_of (d := d + 0) i_M_keeps rfl rfl (Nat.le_of_ble_eq_true rfl) ?_
  show am_run none (am_ar g_mt (d + 0)) 4 (some .int) k_M_keeps 0 [(0, (2, 1000)), (1, (0, v1)), (2, (0, v2))] [] μ (am_res 0 q)
  refine rn_sls 8 (pc' := 12) (ls' := [(3, (0, (μ 1000 90))), (0, (2, 1000)), (1, (0, v1)), (2, (0, v2))]) (st' := [(0, (w32 ((μ 1000 90) + 1))), (2, 1000)]) rfl ?_
  refine rn_put rfl rfl rfl rfl (Or.inl ⟨rfl, rfl⟩) rfl h (fun μ1 h => ?_)
  refine rn_sls 1 (pc' := 16) (ls' := [(3, (0, (μ 1000 90))), (0, (2, 1000)), (1, (0, v1)), (2, (0, v2))]) (st' := [(0, v2)]) rfl ?_
  refine rn_if (t := 26) rfl rfl rfl rfl h (fun h => ?_) (fun h => ?_)
  · refine rn_sls 4 (pc' := 32) (ls' := [(3, (0, (μ 1000 90))), (0, (2, 1000)), (1, (0, v1)), (2, (0, v2))]) (st' := [(0, v1), (0, (μ 1000 90)), (2, 1063)]) rfl ?_
    refine rn_iast (n := 960) rfl rfl rfl h (fun μ2 h => ?_)
    refine rn_sls 1 (pc' := 34) (ls' := [(3, (0, (μ 1000 90))), (0, (2, 1000)), (1, (0, v1)), (2, (0, v2))]) (st' := [(0, v1)]) rfl ?_
    exact rn_ireti rfl rfl rfl h rfl
  · refine rn_sls 3 (pc' := 24) (ls' := [(3, (0, (μ 1000 90))), (0, (2, 1000)), (1, (0, v1)), (2, (0, v2))]) (st' := [(0, (μ 1000 90)), (2, 1063)]) rfl ?_
    refine rn_iald (n := 960) rfl rfl rfl h (fun a3 h => ?_)
    exact rn_ireti rfl rfl rfl h rfl
