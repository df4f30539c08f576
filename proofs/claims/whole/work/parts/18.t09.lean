/-! The code does what the functions say. Printed by program. -/
set_option maxRecDepth 20000 in
theorem t_M_mark_L229_b (d : Nat) (k229 : Int → Int → am_M → am_O) (hk229 : ∀ (v2 : Int) (v3 : Int) (μ : am_M) q, k229 v2 v3 μ = some q → am_run none (am_ar g_mt (d + 1)) 4 (some .boolean) k_M_mark 229 [(0, (2, 1000)), (2, (0, v2)), (3, (0, v3))] [] μ (am_res 0 q)) : ∀ (v2 : Int) (v3 : Int) (μ : am_M) q, M_mark_L229_b k229 v2 v3 μ = some q → am_run none (am_ar g_mt (d + 1)) 4 (some .boolean) k_M_mark 229 [(0, (2, 1000)), (2, (0, v2)), (3, (0, v3))] [] μ (am_res 0 q) := by
  intro v2 v3 μ q h
  unfold M_mark_L229_b at h
  refine rn_sls 2 (pc' := 233) (ls' := [(0, (2, 1000)), (2, (0, v2)), (3, (0, v3))]) (st' := [(0, 160), (0, v3)]) rfl ?_
  refine rn_icmpn (t := 259) rfl rfl rfl rfl h (fun h => ?_) (fun h => ?_)
  · refine rn_sls 7 (pc' := 247) (ls' := [(0, (2, 1000)), (2, (0, v2)), (3, (0, v3))]) (st' := [(0, v3), (2, 1046), (2, 1000), (0, v3), (2, 1046)]) rfl ?_
    refine rn_iald (n := 160) rfl rfl rfl h (fun a1 h => ?_)
    refine rn_sls 1 (pc' := 249) (ls' := [(0, (2, 1000)), (2, (0, v2)), (3, (0, v3))]) (st' := [(0, v2), (0, a1), (2, 1000), (0, v3), (2, 1046)]) rfl ?_
    refine rn_call 0 0 [(2, 1000), (0, a1), (0, v2)] (r := [(0, v3), (2, 1046)]) rfl ⟨rfl, Or.inl ⟨_, rfl, by decide⟩⟩ (by decide) (fun _ => ⟨_, rfl, rfl⟩) rfl rfl (Nat.le_of_ble_eq_true rfl) h (fun w hw => t_M_keeps (d + 0) _ _ _ _ hw) (fun a2 μ3 h => ?_)
    refine rn_sls 0 (pc' := 252) (ls' := [(0, (2, 1000)), (2, (0, v2)), (3, (0, v3))]) (st' := [(0, a2), (0, v3), (2, 1046)]) rfl ?_
    refine rn_iast (n := 160) rfl rfl rfl h (fun μ4 h => ?_)
    refine rn_sls 1 (pc' := 256) (ls' := [(3, (0, (w32 (v3 + 1)))), (0, (2, 1000)), (2, (0, v2))]) (st' := []) rfl ?_
    refine rn_goto (t := 229) rfl rfl rfl ?_
    exact rn_sub [1, 2, 0] rfl (hk229 _ _ _ _ h)
  · refine rn_sls 1 (pc' := 260) (ls' := [(0, (2, 1000)), (2, (0, v2)), (3, (0, v3))]) (st' := [(0, 1)]) rfl ?_
    exact rn_iretb rfl rfl rfl (Or.inr rfl) h rfl
set_option maxRecDepth 20000 in
theorem t_M_mark_L229 (d : Nat) : ∀ (n : Nat) (v2 : Int) (v3 : Int) (μ : am_M) q, M_mark_L229 n v2 v3 μ = some q → am_run none (am_ar g_mt (d + 1)) 4 (some .boolean) k_M_mark 229 [(0, (2, 1000)), (2, (0, v2)), (3, (0, v3))] [] μ (am_res 0 q) := by
  intro n
  induction n with
  | zero => intro v2 v3 μ q h; cases h
  | succ n ih => intro v2 v3 μ q h; exact t_M_mark_L229_b d (M_mark_L229 n) ih v2 v3 μ q h
set_option maxRecDepth 20000 in
theorem t_M_mark_L164_b (d : Nat) (k164 : Int → Int → am_M → am_O) (hk164 : ∀ (v2 : Int) (v3 : Int) (μ : am_M) q, k164 v2 v3 μ = some q → am_run none (am_ar g_mt (d + 1)) 4 (some .boolean) k_M_mark 164 [(0, (2, 1000)), (2, (0, v2)), (3, (0, v3))] [] μ (am_res 0 q)) : ∀ (v2 : Int) (v3 : Int) (μ : am_M) q, M_mark_L164_b k164 v2 v3 μ = some q → am_run none (am_ar g_mt (d + 1)) 4 (some .boolean) k_M_mark 164 [(0, (2, 1000)), (2, (0, v2)), (3, (0, v3))] [] μ (am_res 0 q) := by
  intro v2 v3 μ q h
  unfold M_mark_L164_b at h
  refine rn_sls 2 (pc' := 167) (ls' := [(0, (2, 1000)), (2, (0, v2)), (3, (0, v3))]) (st' := [(0, 16), (0, v3)]) rfl ?_
  refine rn_icmpn (t := 227) rfl rfl rfl rfl h (fun h => ?_) (fun h => ?_)
  · refine rn_sls 7 (pc' := 181) (ls' := [(0, (2, 1000)), (2, (0, v2)), (3, (0, v3))]) (st' := [(0, v3), (2, 1043), (2, 1000), (0, v3), (2, 1043)]) rfl ?_
    refine rn_iald (n := 16) rfl rfl rfl h (fun a1 h => ?_)
    refine rn_sls 1 (pc' := 183) (ls' := [(0, (2, 1000)), (2, (0, v2)), (3, (0, v3))]) (st' := [(0, v2), (0, a1), (2, 1000), (0, v3), (2, 1043)]) rfl ?_
    refine rn_call 0 0 [(2, 1000), (0, a1), (0, v2)] (r := [(0, v3), (2, 1043)]) rfl ⟨rfl, Or.inl ⟨_, rfl, by decide⟩⟩ (by decide) (fun _ => ⟨_, rfl, rfl⟩) rfl rfl (Nat.le_of_ble_eq_true rfl) h (fun w hw => t_M_keeps (d + 0) _ _ _ _ hw) (fun a2 μ3 h => ?_)
    refine rn_sls 0 (pc' := 186) (ls' := [(0, (2, 1000)), (2, (0, v2)), (3, (0, v3))]) (st' := [(0, a2), (0, v3), (2, 1043)]) rfl ?_
    refine rn_iast (n := 16) rfl rfl rfl h (fun μ4 h => ?_)
    refine rn_sls 7 (pc' := 198) (ls' := [(0, (2, 1000)), (2, (0, v2)), (3, (0, v3))]) (st' := [(0, v3), (2, 1044), (2, 1000), (0, v3), (2, 1044)]) rfl ?_
    refine rn_iald (n := 16) rfl rfl rfl h (fun a5 h => ?_)
    refine rn_sls 1 (pc' := 200) (ls' := [(0, (2, 1000)), (2, (0, v2)), (3, (0, v3))]) (st' := [(0, v2), (0, a5), (2, 1000), (0, v3), (2, 1044)]) rfl ?_
    refine rn_call 0 0 [(2, 1000), (0, a5), (0, v2)] (r := [(0, v3), (2, 1044)]) rfl ⟨rfl, Or.inl ⟨_, rfl, by decide⟩⟩ (by decide) (fun _ => ⟨_, rfl, rfl⟩) rfl rfl (Nat.le_of_ble_eq_true rfl) h (fun w hw => t_M_keeps (d + 0) _ _ _ _ hw) (fun a6 μ7 h => ?_)
    refine rn_sls 0 (pc' := 203) (ls' := [(0, (2, 1000)), (2, (0, v2)), (3, (0, v3))]) (st' := [(0, a6), (0, v3), (2, 1044)]) rfl ?_
    refine rn_iast (n := 16) rfl rfl rfl h (fun μ8 h => ?_)
    refine rn_sls 7 (pc' := 215) (ls' := [(0, (2, 1000)), (2, (0, v2)), (3, (0, v3))]) (st' := [(0, v3), (2, 1045), (2, 1000), (0, v3), (2, 1045)]) rfl ?_
    refine rn_iald (n := 16) rfl rfl rfl h (fun a9 h => ?_)
    refine rn_sls 1 (pc' := 217) (ls' := [(0, (2, 1000)), (2, (0, v2)), (3, (0, v3))]) (st' := [(0, v2), (0, a9), (2, 1000), (0, v3), (2, 1045)]) rfl ?_
    refine rn_call 0 0 [(2, 1000), (0, a9), (0, v2)] (r := [(0, v3), (2, 1045)]) rfl ⟨rfl, Or.inl ⟨_, rfl, by decide⟩⟩ (by decide) (fun _ => ⟨_, rfl, rfl⟩) rfl rfl (Nat.le_of_ble_eq_true rfl) h (fun w hw => t_M_keeps (d + 0) _ _ _ _ hw) (fun a10 μ11 h => ?_)
    refine rn_sls 0 (pc' := 220) (ls' := [(0, (2, 1000)), (2, (0, v2)), (3, (0, v3))]) (st' := [(0, a10), (0, v3), (2, 1045)]) rfl ?_
    refine rn_iast (n := 16) rfl rfl rfl h (fun μ12 h => ?_)
    refine rn_sls 1 (pc' := 224) (ls' := [(3, (0, (w32 (v3 + 1)))), (0, (2, 1000)), (2, (0, v2))]) (st' := []) rfl ?_
    refine rn_goto (t := 164) rfl rfl rfl ?_
    exact rn_sub [1, 2, 0] rfl (hk164 _ _ _ _ h)
  · refine rn_sls 2 (pc' := 229) (ls' := [(3, (0, 0)), (0, (2, 1000)), (2, (0, v2))]) (st' := []) rfl ?_
    exact rn_sub [1, 2, 0] rfl (t_M_mark_L229 d  am_FU _ _ _ _ h)
set_option maxRecDepth 20000 in
theorem t_M_mark_L164 (d : Nat) : ∀ (n : Nat) (v2 : Int) (v3 : Int) (μ : am_M) q, M_mark_L164 n v2 v3 μ = some q → am_run none (am_ar g_mt (d + 1)) 4 (some .boolean) k_M_mark 164 [(0, (2, 1000)), (2, (0, v2)), (3, (0, v3))] [] μ (am_res 0 q) := by
  intro n
  induction n with
  | zero => intro v2 v3 μ q h; cases h
  | succ n ih => intro v2 v3 μ q h; exact t_M_mark_L164_b d (M_mark_L164 n) ih v2 v3 μ q h
set_option maxRecDepth 20000 in
theorem t_M_mark_B29 (d : Nat) : ∀ (v1 : Int) (v2 : Int) (μ : am_M) q, M_mark_B29 v1 v2 μ = some q → am_run none (am_ar g_mt (d + 1)) 4 (some .boolean) k_M_mark 29 [(0, (2, 1000)), (1, (0, v1)), (2, (0, v2))] [] μ (am_res 0 q) := by
  intro v1 v2 μ q h
  unfold M_mark_B29 at h
  refine rn_sls 4 (pc' := 35) (ls' := [(0, (2, 1000)), (1, (0, v1)), (2, (0, v2))]) (st' := [(0, 1), (0, v1), (2, 1062)]) rfl ?_
  refine rn_bast (n := 4) rfl rfl rfl h (fun μ1 h => ?_)
  refine rn_sls 4 (pc' := 42) (ls' := [(0, (2, 1000)), (1, (0, v1)), (2, (0, v2))]) (st' := [(0, (w32 (240 * v1))), (2, 1000)]) rfl ?_
  refine rn_put rfl rfl rfl rfl (Or.inl ⟨rfl, rfl⟩) rfl h (fun μ2 h => ?_)
  refine rn_sls 5 (pc' := 52) (ls' := [(0, (2, 1000)), (1, (0, v1)), (2, (0, v2))]) (st' := [(0, v2), (0, (μ2 1000 55)), (2, 1000), (2, 1000)]) rfl ?_
  refine rn_call 0 0 [(2, 1000), (0, (μ2 1000 55)), (0, v2)] (r := [(2, 1000)]) rfl ⟨rfl, Or.inl ⟨_, rfl, by decide⟩⟩ (by decide) (fun _ => ⟨_, rfl, rfl⟩) rfl rfl (Nat.le_of_ble_eq_true rfl) h (fun w hw => t_M_keeps (d + 0) _ _ _ _ hw) (fun a3 μ4 h => ?_)
  refine rn_sls 0 (pc' := 55) (ls' := [(0, (2, 1000)), (1, (0, v1)), (2, (0, v2))]) (st' := [(0, a3), (2, 1000)]) rfl ?_
  refine rn_put rfl rfl rfl rfl (Or.inl ⟨rfl, rfl⟩) rfl h (fun μ5 h => ?_)
  refine rn_sls 5 (pc' := 65) (ls' := [(0, (2, 1000)), (1, (0, v1)), (2, (0, v2))]) (st' := [(0, v2), (0, (μ5 1000 56)), (2, 1000), (2, 1000)]) rfl ?_
  refine rn_call 0 0 [(2, 1000), (0, (μ5 1000 56)), (0, v2)] (r := [(2, 1000)]) rfl ⟨rfl, Or.inl ⟨_, rfl, by decide⟩⟩ (by decide) (fun _ => ⟨_, rfl, rfl⟩) rfl rfl (Nat.le_of_ble_eq_true rfl) h (fun w hw => t_M_keeps (d + 0) _ _ _ _ hw) (fun a6 μ7 h => ?_)
  refine rn_sls 0 (pc' := 68) (ls' := [(0, (2, 1000)), (1, (0, v1)), (2, (0, v2))]) (st' := [(0, a6), (2, 1000)]) rfl ?_
  refine rn_put rfl rfl rfl rfl (Or.inl ⟨rfl, rfl⟩) rfl h (fun μ8 h => ?_)
  refine rn_sls 5 (pc' := 78) (ls' := [(0, (2, 1000)), (1, (0, v1)), (2, (0, v2))]) (st' := [(0, v2), (0, (μ8 1000 57)), (2, 1000), (2, 1000)]) rfl ?_
  refine rn_call 0 0 [(2, 1000), (0, (μ8 1000 57)), (0, v2)] (r := [(2, 1000)]) rfl ⟨rfl, Or.inl ⟨_, rfl, by decide⟩⟩ (by decide) (fun _ => ⟨_, rfl, rfl⟩) rfl rfl (Nat.le_of_ble_eq_true rfl) h (fun w hw => t_M_keeps (d + 0) _ _ _ _ hw) (fun a9 μ10 h => ?_)
  refine rn_sls 0 (pc' := 81) (ls' := [(0, (2, 1000)), (1, (0, v1)), (2, (0, v2))]) (st' := [(0, a9), (2, 1000)]) rfl ?_
  refine rn_put rfl rfl rfl rfl (Or.inl ⟨rfl, rfl⟩) rfl h (fun μ11 h => ?_)
  refine rn_sls 5 (pc' := 91) (ls' := [(0, (2, 1000)), (1, (0, v1)), (2, (0, v2))]) (st' := [(0, v2), (0, (μ11 1000 58)), (2, 1000), (2, 1000)]) rfl ?_
  refine rn_call 0 0 [(2, 1000), (0, (μ11 1000 58)), (0, v2)] (r := [(2, 1000)]) rfl ⟨rfl, Or.inl ⟨_, rfl, by decide⟩⟩ (by decide) (fun _ => ⟨_, rfl, rfl⟩) rfl rfl (Nat.le_of_ble_eq_true rfl) h (fun w hw => t_M_keeps (d + 0) _ _ _ _ hw) (fun a12 μ13 h => ?_)
  refine rn_sls 0 (pc' := 94) (ls' := [(0, (2, 1000)), (1, (0, v1)), (2, (0, v2))]) (st' := [(0, a12), (2, 1000)]) rfl ?_
  refine rn_put rfl rfl rfl rfl (Or.inl ⟨rfl, rfl⟩) rfl h (fun μ14 h => ?_)
  refine rn_sls 5 (pc' := 104) (ls' := [(0, (2, 1000)), (1, (0, v1)), (2, (0, v2))]) (st' := [(0, v2), (0, (μ14 1000 63)), (2, 1000), (2, 1000)]) rfl ?_
  refine rn_call 0 0 [(2, 1000), (0, (μ14 1000 63)), (0, v2)] (r := [(2, 1000)]) rfl ⟨rfl, Or.inl ⟨_, rfl, by decide⟩⟩ (by decide) (fun _ => ⟨_, rfl, rfl⟩) rfl rfl (Nat.le_of_ble_eq_true rfl) h (fun w hw => t_M_keeps (d + 0) _ _ _ _ hw) (fun a15 μ16 h => ?_)
  refine rn_sls 0 (pc' := 107) (ls' := [(0, (2, 1000)), (1, (0, v1)), (2, (0, v2))]) (st' := [(0, a15), (2, 1000)]) rfl ?_
  refine rn_put rfl rfl rfl rfl (Or.inl ⟨rfl, rfl⟩) rfl h (fun μ17 h => ?_)
  refine rn_sls 5 (pc' := 117) (ls' := [(0, (2, 1000)), (1, (0, v1)), (2, (0, v2))]) (st' := [(0, v2), (0, (μ17 1000 64)), (2, 1000), (2, 1000)]) rfl ?_
  refine rn_call 0 0 [(2, 1000), (0, (μ17 1000 64)), (0, v2)] (r := [(2, 1000)]) rfl ⟨rfl, Or.inl ⟨_, rfl, by decide⟩⟩ (by decide) (fun _ => ⟨_, rfl, rfl⟩) rfl rfl (Nat.le_of_ble_eq_true rfl) h (fun w hw => t_M_keeps (d + 0) _ _ _ _ hw) (fun a18 μ19 h => ?_)
  refine rn_sls 0 (pc' := 120) (ls' := [(0, (2, 1000)), (1, (0, v1)), (2, (0, v2))]) (st' := [(0, a18), (2, 1000)]) rfl ?_
  refine rn_put rfl rfl rfl rfl (Or.inl ⟨rfl, rfl⟩) rfl h (fun μ20 h => ?_)
  refine rn_sls 5 (pc' := 130) (ls' := [(0, (2, 1000)), (1, (0, v1)), (2, (0, v2))]) (st' := [(0, v2), (0, (μ20 1000 65)), (2, 1000), (2, 1000)]) rfl ?_
  refine rn_call 0 0 [(2, 1000), (0, (μ20 1000 65)), (0, v2)] (r := [(2, 1000)]) rfl ⟨rfl, Or.inl ⟨_, rfl, by decide⟩⟩ (by decide) (fun _ => ⟨_, rfl, rfl⟩) rfl rfl (Nat.le_of_ble_eq_true rfl) h (fun w hw => t_M_keeps (d + 0) _ _ _ _ hw) (fun a21 μ22 h => ?_)
  refine rn_sls 0 (pc' := 133) (ls' := [(0, (2, 1000)), (1, (0, v1)), (2, (0, v2))]) (st' := [(0, a21), (2, 1000)]) rfl ?_
  refine rn_put rfl rfl rfl rfl (Or.inl ⟨rfl, rfl⟩) rfl h (fun μ23 h => ?_)
  refine rn_sls 5 (pc' := 143) (ls' := [(0, (2, 1000)), (1, (0, v1)), (2, (0, v2))]) (st' := [(0, v2), (0, (μ23 1000 66)), (2, 1000), (2, 1000)]) rfl ?_
  refine rn_call 0 0 [(2, 1000), (0, (μ23 1000 66)), (0, v2)] (r := [(2, 1000)]) rfl ⟨rfl, Or.inl ⟨_, rfl, by decide⟩⟩ (by decide) (fun _ => ⟨_, rfl, rfl⟩) rfl rfl (Nat.le_of_ble_eq_true rfl) h (fun w hw => t_M_keeps (d + 0) _ _ _ _ hw) (fun a24 μ25 h => ?_)
  refine rn_sls 0 (pc' := 146) (ls' := [(0, (2, 1000)), (1, (0, v1)), (2, (0, v2))]) (st' := [(0, a24), (2, 1000)]) rfl ?_
  refine rn_put rfl rfl rfl rfl (Or.inl ⟨rfl, rfl⟩) rfl h (fun μ26 h => ?_)
  refine rn_sls 5 (pc' := 156) (ls' := [(0, (2, 1000)), (1, (0, v1)), (2, (0, v2))]) (st' := [(0, v2), (0, (μ26 1000 67)), (2, 1000), (2, 1000)]) rfl ?_
  refine rn_call 0 0 [(2, 1000), (0, (μ26 1000 67)), (0, v2)] (r := [(2, 1000)]) rfl ⟨rfl, Or.inl ⟨_, rfl, by decide⟩⟩ (by decide) (fun _ => ⟨_, rfl, rfl⟩) rfl rfl (Nat.le_of_ble_eq_true rfl) h (fun w hw => t_M_keeps (d + 0) _ _ _ _ hw) (fun a27 μ28 h => ?_)
  refine rn_sls 0 (pc' := 159) (ls' := [(0, (2, 1000)), (1, (0, v1)), (2, (0, v2))]) (st' := [(0, a27), (2, 1000)]) rfl ?_
  refine rn_put rfl rfl rfl rfl (Or.inl ⟨rfl, rfl⟩) rfl h (fun μ29 h => ?_)
  refine rn_sls 2 (pc' := 164) (ls' := [(3, (0, 0)), (0, (2, 1000)), (1, (0, v1)), (2, (0, v2))]) (st' := []) rfl ?_
  exact rn_sub [1, 3, 0] rfl (t_M_mark_L164 d  am_FU _ _ _ _ h)
set_option maxRecDepth 20000 in
theorem t_M_mark (d : Nat) : ∀ (v1 : Int) (v2 : Int) (μ : am_M) q, M_mark v1 v2 μ = some q → am_ar g_mt (d + 2) 239 [(2, 1000), (0, v1), (0, v2)] μ (am_res 0 q) := by
  intro v1 v2 μ q h
  unfold M_mark at h
  refine am_ar_of (d := d + 1) i_M_mark rfl rfl (Nat.le_of_ble_eq_true rfl) ?_
  show am_run none (am_ar g_mt (d + 1)) 4 (some .boolean) k_M_mark 0 [(0, (2, 1000)), (1, (0, v1)), (2, (0, v2))] [] μ (am_res 0 q)
  refine rn_sls 2 (pc' := 2) (ls' := [(0, (2, 1000)), (1, (0, v1)), (2, (0, v2))]) (st' := [(0, 0), (2, 1000)]) rfl ?_
  refine rn_put rfl rfl rfl rfl (Or.inl ⟨rfl, rfl⟩) rfl h (fun μ1 h => ?_)
  refine rn_sls 3 (pc' := 8) (ls' := [(0, (2, 1000)), (1, (0, v1)), (2, (0, v2))]) (st' := [(0, 3), (0, 0), (0, v1)]) rfl ?_
  refine rn_call 2 0 [(0, v1), (0, 0), (0, 3)] (r := []) rfl ⟨rfl, Or.inr ⟨_, rfl, by decide⟩⟩ (by decide) (fun z => absurd z (by decide)) rfl rfl (Nat.le_of_ble_eq_true rfl) h (fun w hw => t_M_within (d + 0) _ _ _ _ _ hw) (fun a2 μ3 h => ?_)
  refine rn_sls 0 (pc' := 11) (ls' := [(0, (2, 1000)), (1, (0, v1)), (2, (0, v2))]) (st' := [(0, a2)]) rfl ?_
  refine rn_if (t := 27) rfl rfl rfl rfl h (fun h => ?_) (fun h => ?_)
  · refine rn_sls 1 (pc' := 28) (ls' := [(0, (2, 1000)), (1, (0, v1)), (2, (0, v2))]) (st' := [(0, 0)]) rfl ?_
    exact rn_iretb rfl rfl rfl (Or.inl rfl) h rfl
  · refine rn_sls 1 (pc' := 15) (ls' := [(0, (2, 1000)), (1, (0, v1)), (2, (0, v2))]) (st' := [(0, v2)]) rfl ?_
    refine rn_if (t := 29) rfl rfl rfl rfl h (fun h => ?_) (fun h => ?_)
    · exact rn_sub [0, 1, 2] rfl (t_M_mark_B29 d  _ _ _ _ h)
    · refine rn_sls 3 (pc' := 23) (ls' := [(0, (2, 1000)), (1, (0, v1)), (2, (0, v2))]) (st' := [(0, v1), (2, 1062)]) rfl ?_
      refine rn_bald (n := 4) rfl rfl rfl h (fun a4 h => ?_)
      refine rn_ifn (t := 29) rfl rfl rfl rfl h (fun h => ?_) (fun h => ?_)
      · refine rn_sls 1 (pc' := 28) (ls' := [(0, (2, 1000)), (1, (0, v1)), (2, (0, v2))]) (st' := [(0, 0)]) rfl ?_
        exact rn_iretb rfl rfl rfl (Or.inl rfl) h rfl
      · exact rn_sub [0, 1, 2] rfl (t_M_mark_B29 d  _ _ _ _ h)
set_option maxRecDepth 20000 in
theorem t_M_count (d : Nat) : ∀ (v1 : Int) (μ : am_M) q, M_count v1 μ = some q → am_ar g_mt (d + 2) 240 [(2, 1000), (0, v1)] μ (am_res 0 q) := by
  intro v1 μ q h
  unfold M_count at h
  refine am_ar_of (d := d + 1) i_M_count rfl rfl (Nat.le_of_ble_eq_true rfl) ?_
  show am_run none (am_ar g_mt (d + 1)) 2 (some .int) k_M_count 0 [(0, (2, 1000)), (1, (0, v1))] [] μ (am_res 0 q)
  refine rn_sls 2 (pc' := 2) (ls' := [(0, (2, 1000)), (1, (0, v1))]) (st' := [(0, 0), (2, 1000)]) rfl ?_
  refine rn_put rfl rfl rfl rfl (Or.inl ⟨rfl, rfl⟩) rfl h (fun μ1 h => ?_)
  refine rn_sls 3 (pc' := 8) (ls' := [(0, (2, 1000)), (1, (0, v1))]) (st' := [(0, 5), (0, 0), (0, v1)]) rfl ?_
  refine rn_call 2 0 [(0, v1), (0, 0), (0, 5)] (r := []) rfl ⟨rfl, Or.inr ⟨_, rfl, by decide⟩⟩ (by decide) (fun z => absurd z (by decide)) rfl rfl (Nat.le_of_ble_eq_true rfl) h (fun w hw => t_M_within (d + 0) _ _ _ _ _ hw) (fun a2 μ3 h => ?_)
  refine rn_sls 0 (pc' := 11) (ls' := [(0, (2, 1000)), (1, (0, v1))]) (st' := [(0, a2)]) rfl ?_
  refine rn_ifn (t := 18) rfl rfl rfl rfl h (fun h => ?_) (fun h => ?_)
  · refine rn_sls 1 (pc' := 15) (ls' := [(0, (2, 1000)), (1, (0, v1))]) (st' := [(0, (-1))]) rfl ?_
    refine rn_goto (t := 60) rfl rfl rfl ?_
    exact rn_ireti rfl rfl rfl h rfl
  · refine rn_sls 2 (pc' := 20) (ls' := [(0, (2, 1000)), (1, (0, v1))]) (st' := [(0, 3), (0, v1)]) rfl ?_
    refine rn_icmpn (t := 32) rfl rfl rfl rfl h (fun h => ?_) (fun h => ?_)
    · refine rn_sls 3 (pc' := 28) (ls' := [(0, (2, 1000)), (1, (0, v1))]) (st' := [(0, v1), (2, 1013)]) rfl ?_
      refine rn_iald (n := 6) rfl rfl rfl h (fun a4 h => ?_)
      refine rn_goto (t := 60) rfl rfl rfl ?_
      exact rn_ireti rfl rfl rfl h rfl
    · refine rn_sls 2 (pc' := 34) (ls' := [(0, (2, 1000)), (1, (0, v1))]) (st' := [(0, 3), (0, v1)]) rfl ?_
      refine rn_icmpn (t := 44) rfl rfl rfl rfl h (fun h => ?_) (fun h => ?_)
      · refine rn_sls 2 (pc' := 41) (ls' := [(0, (2, 1000)), (1, (0, v1))]) (st' := [(0, (μ3 1000 55))]) rfl ?_
        refine rn_goto (t := 60) rfl rfl rfl ?_
        exact rn_ireti rfl rfl rfl h rfl
      · refine rn_sls 2 (pc' := 46) (ls' := [(0, (2, 1000)), (1, (0, v1))]) (st' := [(0, 4), (0, v1)]) rfl ?_
        refine rn_icmpn (t := 56) rfl rfl rfl rfl h (fun h => ?_) (fun h => ?_)
        · refine rn_sls 2 (pc' := 53) (ls' := [(0, (2, 1000)), (1, (0, v1))]) (st' := [(0, (μ3 1000 56))]) rfl ?_
          refine rn_goto (t := 60) rfl rfl rfl ?_
          exact rn_ireti rfl rfl rfl h rfl
        · refine rn_sls 2 (pc' := 60) (ls' := [(0, (2, 1000)), (1, (0, v1))]) (st' := [(0, (μ3 1000 1))]) rfl ?_
          exact rn_ireti rfl rfl rfl h rfl
