/-! The code does what the functions say. Printed by program. -/
set_option maxRecDepth 20000 in
theorem t_M_kindOfLine (d : Nat) : ∀  (μ : am_M) q, M_kindOfLine  μ = some q → am_ar g_mt (d + 2) 174 [(2, 1000)] μ (am_res 0 q) := by
  intro  μ q h
  unfold M_kindOfLine at h
  refine am_ar_of (d := d + 1) i_M_kindOfLine rfl rfl (Nat.le_of_ble_eq_true rfl) ?_
  show am_run none (am_ar g_mt (d + 1)) 1 (some .int) k_M_kindOfLine 0 [(0, (2, 1000))] [] μ (am_res 0 q)
  refine rn_sls 2 (pc' := 4) (ls' := [(0, (2, 1000))]) (st' := [(1, 394691), (2, 1000)]) rfl ?_
  refine rn_call 0 0 [(2, 1000), (1, 394691)] (r := []) rfl ⟨rfl, Or.inl ⟨_, rfl, by decide⟩⟩ (by decide) (fun _ => ⟨_, rfl, rfl⟩) rfl rfl (Nat.le_of_ble_eq_true rfl) h (fun w hw => t_M_isWord (d + 0) _ _ _ hw) (fun a1 μ2 h => ?_)
  refine rn_sls 0 (pc' := 7) (ls' := [(0, (2, 1000))]) (st' := [(0, a1)]) rfl ?_
  refine rn_if (t := 14) rfl rfl rfl rfl h (fun h => ?_) (fun h => ?_)
  · refine rn_sls 2 (pc' := 18) (ls' := [(0, (2, 1000))]) (st' := [(1, 8903), (2, 1000)]) rfl ?_
    refine rn_call 0 0 [(2, 1000), (1, 8903)] (r := []) rfl ⟨rfl, Or.inl ⟨_, rfl, by decide⟩⟩ (by decide) (fun _ => ⟨_, rfl, rfl⟩) rfl rfl (Nat.le_of_ble_eq_true rfl) h (fun w hw => t_M_isWord (d + 0) _ _ _ hw) (fun a3 μ4 h => ?_)
    refine rn_sls 0 (pc' := 21) (ls' := [(0, (2, 1000))]) (st' := [(0, a3)]) rfl ?_
    refine rn_if (t := 28) rfl rfl rfl rfl h (fun h => ?_) (fun h => ?_)
    · refine rn_sls 2 (pc' := 32) (ls' := [(0, (2, 1000))]) (st' := [(1, 410684), (2, 1000)]) rfl ?_
      refine rn_call 0 0 [(2, 1000), (1, 410684)] (r := []) rfl ⟨rfl, Or.inl ⟨_, rfl, by decide⟩⟩ (by decide) (fun _ => ⟨_, rfl, rfl⟩) rfl rfl (Nat.le_of_ble_eq_true rfl) h (fun w hw => t_M_isWord (d + 0) _ _ _ hw) (fun a5 μ6 h => ?_)
      refine rn_sls 0 (pc' := 35) (ls' := [(0, (2, 1000))]) (st' := [(0, a5)]) rfl ?_
      refine rn_if (t := 42) rfl rfl rfl rfl h (fun h => ?_) (fun h => ?_)
      · refine rn_sls 2 (pc' := 46) (ls' := [(0, (2, 1000))]) (st' := [(1, 55175), (2, 1000)]) rfl ?_
        refine rn_call 0 0 [(2, 1000), (1, 55175)] (r := []) rfl ⟨rfl, Or.inl ⟨_, rfl, by decide⟩⟩ (by decide) (fun _ => ⟨_, rfl, rfl⟩) rfl rfl (Nat.le_of_ble_eq_true rfl) h (fun w hw => t_M_isWord (d + 0) _ _ _ hw) (fun a7 μ8 h => ?_)
        refine rn_sls 0 (pc' := 49) (ls' := [(0, (2, 1000))]) (st' := [(0, a7)]) rfl ?_
        refine rn_if (t := 56) rfl rfl rfl rfl h (fun h => ?_) (fun h => ?_)
        · refine rn_sls 2 (pc' := 60) (ls' := [(0, (2, 1000))]) (st' := [(1, 60114), (2, 1000)]) rfl ?_
          refine rn_call 0 0 [(2, 1000), (1, 60114)] (r := []) rfl ⟨rfl, Or.inl ⟨_, rfl, by decide⟩⟩ (by decide) (fun _ => ⟨_, rfl, rfl⟩) rfl rfl (Nat.le_of_ble_eq_true rfl) h (fun w hw => t_M_isWord (d + 0) _ _ _ hw) (fun a9 μ10 h => ?_)
          refine rn_sls 0 (pc' := 63) (ls' := [(0, (2, 1000))]) (st' := [(0, a9)]) rfl ?_
          refine rn_if (t := 70) rfl rfl rfl rfl h (fun h => ?_) (fun h => ?_)
          · refine rn_sls 2 (pc' := 74) (ls' := [(0, (2, 1000))]) (st' := [(1, 249), (2, 1000)]) rfl ?_
            refine rn_call 0 0 [(2, 1000), (1, 249)] (r := []) rfl ⟨rfl, Or.inl ⟨_, rfl, by decide⟩⟩ (by decide) (fun _ => ⟨_, rfl, rfl⟩) rfl rfl (Nat.le_of_ble_eq_true rfl) h (fun w hw => t_M_isWord (d + 0) _ _ _ hw) (fun a11 μ12 h => ?_)
            refine rn_sls 0 (pc' := 77) (ls' := [(0, (2, 1000))]) (st' := [(0, a11)]) rfl ?_
            refine rn_if (t := 84) rfl rfl rfl rfl h (fun h => ?_) (fun h => ?_)
            · refine rn_sls 2 (pc' := 88) (ls' := [(0, (2, 1000))]) (st' := [(1, 107681), (2, 1000)]) rfl ?_
              refine rn_call 0 0 [(2, 1000), (1, 107681)] (r := []) rfl ⟨rfl, Or.inl ⟨_, rfl, by decide⟩⟩ (by decide) (fun _ => ⟨_, rfl, rfl⟩) rfl rfl (Nat.le_of_ble_eq_true rfl) h (fun w hw => t_M_isWord (d + 0) _ _ _ hw) (fun a13 μ14 h => ?_)
              refine rn_sls 0 (pc' := 91) (ls' := [(0, (2, 1000))]) (st' := [(0, a13)]) rfl ?_
              refine rn_if (t := 99) rfl rfl rfl rfl h (fun h => ?_) (fun h => ?_)
              · refine rn_sls 2 (pc' := 103) (ls' := [(0, (2, 1000))]) (st' := [(1, 4027), (2, 1000)]) rfl ?_
                refine rn_call 0 0 [(2, 1000), (1, 4027)] (r := []) rfl ⟨rfl, Or.inl ⟨_, rfl, by decide⟩⟩ (by decide) (fun _ => ⟨_, rfl, rfl⟩) rfl rfl (Nat.le_of_ble_eq_true rfl) h (fun w hw => t_M_isWord (d + 0) _ _ _ hw) (fun a15 μ16 h => ?_)
                refine rn_sls 0 (pc' := 106) (ls' := [(0, (2, 1000))]) (st' := [(0, a15)]) rfl ?_
                refine rn_if (t := 114) rfl rfl rfl rfl h (fun h => ?_) (fun h => ?_)
                · refine rn_sls 2 (pc' := 118) (ls' := [(0, (2, 1000))]) (st' := [(1, 144941), (2, 1000)]) rfl ?_
                  refine rn_call 0 0 [(2, 1000), (1, 144941)] (r := []) rfl ⟨rfl, Or.inl ⟨_, rfl, by decide⟩⟩ (by decide) (fun _ => ⟨_, rfl, rfl⟩) rfl rfl (Nat.le_of_ble_eq_true rfl) h (fun w hw => t_M_isWord (d + 0) _ _ _ hw) (fun a17 μ18 h => ?_)
                  refine rn_sls 0 (pc' := 121) (ls' := [(0, (2, 1000))]) (st' := [(0, a17)]) rfl ?_
                  refine rn_if (t := 129) rfl rfl rfl rfl h (fun h => ?_) (fun h => ?_)
                  · refine rn_sls 1 (pc' := 130) (ls' := [(0, (2, 1000))]) (st' := [(0, (-1))]) rfl ?_
                    exact rn_ireti rfl rfl rfl h rfl
                  · refine rn_sls 1 (pc' := 126) (ls' := [(0, (2, 1000))]) (st' := [(0, 8)]) rfl ?_
                    refine rn_goto (t := 130) rfl rfl rfl ?_
                    exact rn_ireti rfl rfl rfl h rfl
                · refine rn_sls 1 (pc' := 111) (ls' := [(0, (2, 1000))]) (st' := [(0, 7)]) rfl ?_
                  refine rn_goto (t := 130) rfl rfl rfl ?_
                  exact rn_ireti rfl rfl rfl h rfl
              · refine rn_sls 1 (pc' := 96) (ls' := [(0, (2, 1000))]) (st' := [(0, 6)]) rfl ?_
                refine rn_goto (t := 130) rfl rfl rfl ?_
                exact rn_ireti rfl rfl rfl h rfl
            · refine rn_sls 1 (pc' := 81) (ls' := [(0, (2, 1000))]) (st' := [(0, 5)]) rfl ?_
              refine rn_goto (t := 130) rfl rfl rfl ?_
              exact rn_ireti rfl rfl rfl h rfl
          · refine rn_sls 1 (pc' := 67) (ls' := [(0, (2, 1000))]) (st' := [(0, 4)]) rfl ?_
            refine rn_goto (t := 130) rfl rfl rfl ?_
            exact rn_ireti rfl rfl rfl h rfl
        · refine rn_sls 1 (pc' := 53) (ls' := [(0, (2, 1000))]) (st' := [(0, 3)]) rfl ?_
          refine rn_goto (t := 130) rfl rfl rfl ?_
          exact rn_ireti rfl rfl rfl h rfl
      · refine rn_sls 1 (pc' := 39) (ls' := [(0, (2, 1000))]) (st' := [(0, 2)]) rfl ?_
        refine rn_goto (t := 130) rfl rfl rfl ?_
        exact rn_ireti rfl rfl rfl h rfl
    · refine rn_sls 1 (pc' := 25) (ls' := [(0, (2, 1000))]) (st' := [(0, 1)]) rfl ?_
      refine rn_goto (t := 130) rfl rfl rfl ?_
      exact rn_ireti rfl rfl rfl h rfl
  · refine rn_sls 1 (pc' := 11) (ls' := [(0, (2, 1000))]) (st' := [(0, 0)]) rfl ?_
    refine rn_goto (t := 130) rfl rfl rfl ?_
    exact rn_ireti rfl rfl rfl h rfl
set_option maxRecDepth 20000 in
theorem t_M_readsOther (d : Nat) : ∀ (v1 : Int) (v2 : Int) (μ : am_M) q, M_readsOther v1 v2 μ = some q → am_ar g_mt (d + 5) 176 [(2, 1000), (0, v1), (0, v2)] μ (am_res 0 q) := by
  intro v1 v2 μ q h
  unfold M_readsOther at h
  refine am_ar_of (d := d + 4) i_M_readsOther rfl rfl (Nat.le_of_ble_eq_true rfl) ?_
  show am_run none (am_ar g_mt (d + 4)) 3 (some .boolean) k_M_readsOther 0 [(0, (2, 1000)), (1, (0, v1)), (2, (0, v2))] [] μ (am_res 0 q)
  refine rn_sls 2 (pc' := 2) (ls' := [(0, (2, 1000)), (1, (0, v1)), (2, (0, v2))]) (st' := [(0, 1), (0, v1)]) rfl ?_
  refine rn_icmpn (t := 11) rfl rfl rfl rfl h (fun h => ?_) (fun h => ?_)
  · refine rn_sls 2 (pc' := 7) (ls' := [(0, (2, 1000)), (1, (0, v1)), (2, (0, v2))]) (st' := [(0, v2), (2, 1000)]) rfl ?_
    refine rn_call 0 0 [(2, 1000), (0, v2)] (r := []) rfl ⟨rfl, Or.inl ⟨_, rfl, by decide⟩⟩ (by decide) (fun _ => ⟨_, rfl, rfl⟩) rfl rfl (Nat.le_of_ble_eq_true rfl) h (fun w hw => t_M_readsLet (d + 0) _ _ _ hw) (fun a21 μ22 h => ?_)
    refine rn_sls 0 (pc' := 10) (ls' := [(0, (2, 1000)), (1, (0, v1)), (2, (0, v2))]) (st' := [(0, a21)]) rfl ?_
    exact rn_iretB rfl rfl rfl h rfl
  · refine rn_sls 2 (pc' := 13) (ls' := [(0, (2, 1000)), (1, (0, v1)), (2, (0, v2))]) (st' := [(0, 5), (0, v1)]) rfl ?_
    refine rn_icmpn (t := 22) rfl rfl rfl rfl h (fun h => ?_) (fun h => ?_)
    · refine rn_sls 2 (pc' := 18) (ls' := [(0, (2, 1000)), (1, (0, v1)), (2, (0, v2))]) (st' := [(0, v2), (2, 1000)]) rfl ?_
      refine rn_call 0 0 [(2, 1000), (0, v2)] (r := []) rfl ⟨rfl, Or.inl ⟨_, rfl, by decide⟩⟩ (by decide) (fun _ => ⟨_, rfl, rfl⟩) rfl rfl (Nat.le_of_ble_eq_true rfl) h (fun w hw => t_M_readsIf (d + 0) _ _ _ hw) (fun a19 μ20 h => ?_)
      refine rn_sls 0 (pc' := 21) (ls' := [(0, (2, 1000)), (1, (0, v1)), (2, (0, v2))]) (st' := [(0, a19)]) rfl ?_
      exact rn_iretB rfl rfl rfl h rfl
    · refine rn_sls 2 (pc' := 25) (ls' := [(0, (2, 1000)), (1, (0, v1)), (2, (0, v2))]) (st' := [(0, 6), (0, v1)]) rfl ?_
      refine rn_icmpn (t := 34) rfl rfl rfl rfl h (fun h => ?_) (fun h => ?_)
      · refine rn_sls 2 (pc' := 30) (ls' := [(0, (2, 1000)), (1, (0, v1)), (2, (0, v2))]) (st' := [(0, v2), (2, 1000)]) rfl ?_
        refine rn_call 0 0 [(2, 1000), (0, v2)] (r := []) rfl ⟨rfl, Or.inl ⟨_, rfl, by decide⟩⟩ (by decide) (fun _ => ⟨_, rfl, rfl⟩) rfl rfl (Nat.le_of_ble_eq_true rfl) h (fun w hw => t_M_readsElse (d + 0) _ _ _ hw) (fun a17 μ18 h => ?_)
        refine rn_sls 0 (pc' := 33) (ls' := [(0, (2, 1000)), (1, (0, v1)), (2, (0, v2))]) (st' := [(0, a17)]) rfl ?_
        exact rn_iretB rfl rfl rfl h rfl
      · refine rn_sls 2 (pc' := 37) (ls' := [(0, (2, 1000)), (1, (0, v1)), (2, (0, v2))]) (st' := [(0, 7), (0, v1)]) rfl ?_
        refine rn_icmpn (t := 46) rfl rfl rfl rfl h (fun h => ?_) (fun h => ?_)
        · refine rn_sls 2 (pc' := 42) (ls' := [(0, (2, 1000)), (1, (0, v1)), (2, (0, v2))]) (st' := [(0, v2), (2, 1000)]) rfl ?_
          refine rn_call 0 0 [(2, 1000), (0, v2)] (r := []) rfl ⟨rfl, Or.inl ⟨_, rfl, by decide⟩⟩ (by decide) (fun _ => ⟨_, rfl, rfl⟩) rfl rfl (Nat.le_of_ble_eq_true rfl) h (fun w hw => t_M_readsEnd (d + 0) _ _ _ hw) (fun a15 μ16 h => ?_)
          refine rn_sls 0 (pc' := 45) (ls' := [(0, (2, 1000)), (1, (0, v1)), (2, (0, v2))]) (st' := [(0, a15)]) rfl ?_
          exact rn_iretB rfl rfl rfl h rfl
        · refine rn_sls 1 (pc' := 47) (ls' := [(0, (2, 1000)), (1, (0, v1)), (2, (0, v2))]) (st' := [(2, 1000)]) rfl ?_
          refine rn_call 0 2 [(2, 1000)] (r := []) rfl ⟨rfl, Or.inl ⟨_, rfl, by decide⟩⟩ (by decide) (fun _ => ⟨_, rfl, rfl⟩) rfl rfl (Nat.le_of_ble_eq_true rfl) h (fun w hw => t_M_nextToken (d + 2)  _ _ hw) (fun a1 μ2 h => ?_)
          refine rn_sls 0 (pc' := 50) (ls' := [(0, (2, 1000)), (1, (0, v1)), (2, (0, v2))]) (st' := []) rfl ?_
          refine rn_sls 2 (pc' := 52) (ls' := [(0, (2, 1000)), (1, (0, v1)), (2, (0, v2))]) (st' := [(0, 2), (0, v1)]) rfl ?_
          refine rn_icmpn (t := 61) rfl rfl rfl rfl h (fun h => ?_) (fun h => ?_)
          · refine rn_sls 2 (pc' := 57) (ls' := [(0, (2, 1000)), (1, (0, v1)), (2, (0, v2))]) (st' := [(0, v2), (2, 1000)]) rfl ?_
            refine rn_call 0 0 [(2, 1000), (0, v2)] (r := []) rfl ⟨rfl, Or.inl ⟨_, rfl, by decide⟩⟩ (by decide) (fun _ => ⟨_, rfl, rfl⟩) rfl rfl (Nat.le_of_ble_eq_true rfl) h (fun w hw => t_M_readsTwin (d + 0) _ _ _ hw) (fun a13 μ14 h => ?_)
            refine rn_sls 0 (pc' := 60) (ls' := [(0, (2, 1000)), (1, (0, v1)), (2, (0, v2))]) (st' := [(0, a13)]) rfl ?_
            exact rn_iretB rfl rfl rfl h rfl
          · refine rn_sls 2 (pc' := 63) (ls' := [(0, (2, 1000)), (1, (0, v1)), (2, (0, v2))]) (st' := [(0, 4), (0, v1)]) rfl ?_
            refine rn_icmpn (t := 72) rfl rfl rfl rfl h (fun h => ?_) (fun h => ?_)
            · refine rn_sls 2 (pc' := 68) (ls' := [(0, (2, 1000)), (1, (0, v1)), (2, (0, v2))]) (st' := [(0, v2), (2, 1000)]) rfl ?_
              refine rn_call 0 0 [(2, 1000), (0, v2)] (r := []) rfl ⟨rfl, Or.inl ⟨_, rfl, by decide⟩⟩ (by decide) (fun _ => ⟨_, rfl, rfl⟩) rfl rfl (Nat.le_of_ble_eq_true rfl) h (fun w hw => t_M_readsCall (d + 0) _ _ _ hw) (fun a11 μ12 h => ?_)
              refine rn_sls 0 (pc' := 71) (ls' := [(0, (2, 1000)), (1, (0, v1)), (2, (0, v2))]) (st' := [(0, a11)]) rfl ?_
              exact rn_iretB rfl rfl rfl h rfl
            · refine rn_sls 2 (pc' := 75) (ls' := [(0, (2, 1000)), (1, (0, v1)), (2, (0, v2))]) (st' := [(0, 8), (0, v1)]) rfl ?_
              refine rn_icmpn (t := 84) rfl rfl rfl rfl h (fun h => ?_) (fun h => ?_)
              · refine rn_sls 2 (pc' := 80) (ls' := [(0, (2, 1000)), (1, (0, v1)), (2, (0, v2))]) (st' := [(0, v2), (2, 1000)]) rfl ?_
                refine rn_call 0 0 [(2, 1000), (0, v2)] (r := []) rfl ⟨rfl, Or.inl ⟨_, rfl, by decide⟩⟩ (by decide) (fun _ => ⟨_, rfl, rfl⟩) rfl rfl (Nat.le_of_ble_eq_true rfl) h (fun w hw => t_M_readsE (d + 1) _ _ _ hw) (fun a9 μ10 h => ?_)
                refine rn_sls 0 (pc' := 83) (ls' := [(0, (2, 1000)), (1, (0, v1)), (2, (0, v2))]) (st' := [(0, a9)]) rfl ?_
                exact rn_iretB rfl rfl rfl h rfl
              · refine rn_sls 6 (pc' := 92) (ls' := [(0, (2, 1000)), (1, (0, v1)), (2, (0, v2))]) (st' := [(2, 1000), (0, (w32 (4 * v2))), (2, 1007)]) rfl ?_
                refine rn_call 0 0 [(2, 1000)] (r := [(0, (w32 (4 * v2))), (2, 1007)]) rfl ⟨rfl, Or.inl ⟨_, rfl, by decide⟩⟩ (by decide) (fun _ => ⟨_, rfl, rfl⟩) rfl rfl (Nat.le_of_ble_eq_true rfl) h (fun w hw => t_M_needsSlip (d + 1)  _ _ hw) (fun a3 μ4 h => ?_)
                refine rn_sls 0 (pc' := 95) (ls' := [(0, (2, 1000)), (1, (0, v1)), (2, (0, v2))]) (st' := [(0, a3), (0, (w32 (4 * v2))), (2, 1007)]) rfl ?_
                refine rn_iast (n := 480) rfl rfl rfl h (fun μ5 h => ?_)
                refine rn_sls 5 (pc' := 103) (ls' := [(0, (2, 1000)), (1, (0, v1)), (2, (0, v2))]) (st' := [(0, (w32 (4 * v2))), (2, 1007)]) rfl ?_
                refine rn_iald (n := 480) rfl rfl rfl h (fun a6 h => ?_)
                refine rn_if (t := 118) rfl rfl rfl rfl h (fun h => ?_) (fun h => ?_)
                · refine rn_sls 1 (pc' := 119) (ls' := [(0, (2, 1000)), (1, (0, v1)), (2, (0, v2))]) (st' := [(0, 0)]) rfl ?_
                  exact rn_iretb rfl rfl rfl (Or.inl rfl) h rfl
                · refine rn_sls 1 (pc' := 108) (ls' := [(0, (2, 1000)), (1, (0, v1)), (2, (0, v2))]) (st' := [(2, 1000)]) rfl ?_
                  refine rn_call 0 0 [(2, 1000)] (r := []) rfl ⟨rfl, Or.inl ⟨_, rfl, by decide⟩⟩ (by decide) (fun _ => ⟨_, rfl, rfl⟩) rfl rfl (Nat.le_of_ble_eq_true rfl) h (fun w hw => t_M_ends (d + 1)  _ _ hw) (fun a7 μ8 h => ?_)
                  refine rn_sls 0 (pc' := 111) (ls' := [(0, (2, 1000)), (1, (0, v1)), (2, (0, v2))]) (st' := [(0, a7)]) rfl ?_
                  refine rn_if (t := 118) rfl rfl rfl rfl h (fun h => ?_) (fun h => ?_)
                  · refine rn_sls 1 (pc' := 119) (ls' := [(0, (2, 1000)), (1, (0, v1)), (2, (0, v2))]) (st' := [(0, 0)]) rfl ?_
                    exact rn_iretb rfl rfl rfl (Or.inl rfl) h rfl
                  · refine rn_sls 1 (pc' := 115) (ls' := [(0, (2, 1000)), (1, (0, v1)), (2, (0, v2))]) (st' := [(0, 1)]) rfl ?_
                    refine rn_goto (t := 119) rfl rfl rfl ?_
                    exact rn_iretb rfl rfl rfl (Or.inr rfl) h rfl
set_option maxRecDepth 20000 in
theorem t_M_readsLine_B16 (d : Nat) : ∀  (μ : am_M) q, M_readsLine_B16  μ = some q → am_run none (am_ar g_mt (d + 5)) 6 (some .boolean) k_M_readsLine 16 [(0, (2, 1000))] [] μ (am_res 0 q) := by
  intro  μ q h
  unfold M_readsLine_B16 at h
  refine rn_sls 2 (pc' := 18) (ls' := [(0, (2, 1000))]) (st' := [(0, 1), (2, 1000)]) rfl ?_
  refine rn_call 0 0 [(2, 1000), (0, 1)] (r := []) rfl ⟨rfl, Or.inl ⟨_, rfl, by decide⟩⟩ (by decide) (fun _ => ⟨_, rfl, rfl⟩) rfl rfl (Nat.le_of_ble_eq_true rfl) h (fun w hw => t_M_fails (d + 4) _ _ _ hw) (fun a1 μ2 h => ?_)
  refine rn_sls 0 (pc' := 21) (ls' := [(0, (2, 1000))]) (st' := [(0, a1)]) rfl ?_
  exact rn_iretB rfl rfl rfl h rfl
set_option maxRecDepth 20000 in
theorem t_M_readsLine_B152 (d : Nat) : ∀  (μ : am_M) q, M_readsLine_B152  μ = some q → am_run none (am_ar g_mt (d + 5)) 6 (some .boolean) k_M_readsLine 152 [(0, (2, 1000))] [] μ (am_res 0 q) := by
  intro  μ q h
  unfold M_readsLine_B152 at h
  refine rn_sls 2 (pc' := 154) (ls' := [(0, (2, 1000))]) (st' := [(0, 1), (2, 1000)]) rfl ?_
  refine rn_call 0 0 [(2, 1000), (0, 1)] (r := []) rfl ⟨rfl, Or.inl ⟨_, rfl, by decide⟩⟩ (by decide) (fun _ => ⟨_, rfl, rfl⟩) rfl rfl (Nat.le_of_ble_eq_true rfl) h (fun w hw => t_M_fails (d + 4) _ _ _ hw) (fun a1 μ2 h => ?_)
  refine rn_sls 0 (pc' := 157) (ls' := [(0, (2, 1000))]) (st' := [(0, a1)]) rfl ?_
  exact rn_iretB rfl rfl rfl h rfl
set_option maxRecDepth 20000 in
theorem t_M_readsLine_B182 (d : Nat) : ∀  (μ : am_M) q, M_readsLine_B182  μ = some q → am_run none (am_ar g_mt (d + 5)) 6 (some .boolean) k_M_readsLine 182 [(0, (2, 1000))] [] μ (am_res 0 q) := by
  intro  μ q h
  unfold M_readsLine_B182 at h
  refine rn_sls 2 (pc' := 184) (ls' := [(0, (2, 1000))]) (st' := [(0, 5), (2, 1000)]) rfl ?_
  refine rn_call 0 0 [(2, 1000), (0, 5)] (r := []) rfl ⟨rfl, Or.inl ⟨_, rfl, by decide⟩⟩ (by decide) (fun _ => ⟨_, rfl, rfl⟩) rfl rfl (Nat.le_of_ble_eq_true rfl) h (fun w hw => t_M_fails (d + 4) _ _ _ hw) (fun a1 μ2 h => ?_)
  refine rn_sls 0 (pc' := 187) (ls' := [(0, (2, 1000))]) (st' := [(0, a1)]) rfl ?_
  exact rn_iretB rfl rfl rfl h rfl
set_option maxRecDepth 20000 in
theorem t_M_readsLine_B337 (d : Nat) : ∀ (s1 : Int) (μ : am_M) q, M_readsLine_B337 s1 μ = some q → am_run none (am_ar g_mt (d + 5)) 6 (some .boolean) k_M_readsLine 337 [] [(0, s1), (2, 1000)] μ (am_res 0 q) := by
  intro s1 μ q h
  unfold M_readsLine_B337 at h
  refine rn_putb rfl rfl rfl rfl rfl rfl h (fun μ1 h => ?_)
  refine rn_sls 1 (pc' := 341) (ls' := []) (st' := [(0, 1)]) rfl ?_
  exact rn_iretb rfl rfl rfl (Or.inr rfl) h rfl
set_option maxRecDepth 20000 in
theorem t_M_readsLine_B298 (d : Nat) : ∀ (v1 : Int) (v2 : Int) (v5 : Int) (μ : am_M) q, M_readsLine_B298 v1 v2 v5 μ = some q → am_run none (am_ar g_mt (d + 5)) 6 (some .boolean) k_M_readsLine 298 [(0, (2, 1000)), (1, (0, v1)), (2, (0, v2)), (5, (0, v5))] [] μ (am_res 0 q) := by
  intro v1 v2 v5 μ q h
  unfold M_readsLine_B298 at h
  refine rn_sls 1 (pc' := 300) (ls' := [(0, (2, 1000)), (1, (0, v1)), (2, (0, v2)), (5, (0, v5))]) (st' := [(0, v5)]) rfl ?_
  refine rn_ifn (t := 305) rfl rfl rfl rfl h (fun h => ?_) (fun h => ?_)
  · refine rn_sls 1 (pc' := 304) (ls' := [(0, (2, 1000)), (1, (0, v1)), (2, (0, v2)), (5, (0, v5))]) (st' := [(0, 0)]) rfl ?_
    exact rn_iretb rfl rfl rfl (Or.inl rfl) h rfl
  · refine rn_sls 4 (pc' := 311) (ls' := [(0, (2, 1000)), (1, (0, v1)), (2, (0, v2)), (5, (0, v5))]) (st' := [(0, 5), (2, 1013), (0, 5), (2, 1013)]) rfl ?_
    refine rn_iald (n := 6) rfl rfl rfl h (fun a1 h => ?_)
    refine rn_sls 2 (pc' := 314) (ls' := [(0, (2, 1000)), (1, (0, v1)), (2, (0, v2)), (5, (0, v5))]) (st' := [(0, (w32 (a1 + 1))), (0, 5), (2, 1013)]) rfl ?_
    refine rn_iast (n := 6) rfl rfl rfl h (fun μ2 h => ?_)
    refine rn_sls 4 (pc' := 321) (ls' := [(0, (2, 1000)), (1, (0, v1)), (2, (0, v2)), (5, (0, v5))]) (st' := [(0, v2), (2, 1018), (0, v2), (2, 1018)]) rfl ?_
    refine rn_iald (n := 8) rfl rfl rfl h (fun a3 h => ?_)
    refine rn_sls 2 (pc' := 324) (ls' := [(0, (2, 1000)), (1, (0, v1)), (2, (0, v2)), (5, (0, v5))]) (st' := [(0, (w32 (a3 + 1))), (0, v2), (2, 1018)]) rfl ?_
    refine rn_iast (n := 8) rfl rfl rfl h (fun μ4 h => ?_)
    refine rn_sls 3 (pc' := 329) (ls' := [(0, (2, 1000)), (1, (0, v1)), (2, (0, v2)), (5, (0, v5))]) (st' := [(0, 8), (0, v1), (2, 1000)]) rfl ?_
    refine rn_icmp (t := 336) rfl rfl rfl rfl h (fun h => ?_) (fun h => ?_)
    · refine rn_sls 1 (pc' := 337) (ls' := [(0, (2, 1000)), (1, (0, v1)), (2, (0, v2)), (5, (0, v5))]) (st' := [(0, 0), (2, 1000)]) rfl ?_
      exact rn_sub [] rfl (t_M_readsLine_B337 d  _ _ _ h)
    · refine rn_sls 1 (pc' := 333) (ls' := [(0, (2, 1000)), (1, (0, v1)), (2, (0, v2)), (5, (0, v5))]) (st' := [(0, 1), (2, 1000)]) rfl ?_
      refine rn_goto (t := 337) rfl rfl rfl ?_
      exact rn_sub [] rfl (t_M_readsLine_B337 d  _ _ _ h)
set_option maxRecDepth 20000 in
theorem t_M_readsLine_L246_b (d : Nat) (k246 : Int → Int → Int → Int → am_M → am_O) (hk246 : ∀ (v1 : Int) (v2 : Int) (v3 : Int) (v5 : Int) (μ : am_M) q, k246 v1 v2 v3 v5 μ = some q → am_run none (am_ar g_mt (d + 5)) 6 (some .boolean) k_M_readsLine 246 [(0, (2, 1000)), (1, (0, v1)), (2, (0, v2)), (3, (0, v3)), (5, (0, v5))] [] μ (am_res 0 q)) : ∀ (v1 : Int) (v2 : Int) (v3 : Int) (v5 : Int) (μ : am_M) q, M_readsLine_L246_b k246 v1 v2 v3 v5 μ = some q → am_run none (am_ar g_mt (d + 5)) 6 (some .boolean) k_M_readsLine 246 [(0, (2, 1000)), (1, (0, v1)), (2, (0, v2)), (3, (0, v3)), (5, (0, v5))] [] μ (am_res 0 q) := by
  intro v1 v2 v3 v5 μ q h
  unfold M_readsLine_L246_b at h
  refine rn_sls 2 (pc' := 249) (ls' := [(0, (2, 1000)), (1, (0, v1)), (2, (0, v2)), (3, (0, v3)), (5, (0, v5))]) (st' := [(0, 4), (0, v5)]) rfl ?_
  refine rn_icmpn (t := 270) rfl rfl rfl rfl h (fun h => ?_) (fun h => ?_)
  · refine rn_sls 8 (pc' := 263) (ls' := [(0, (2, 1000)), (1, (0, v1)), (2, (0, v2)), (3, (0, v3)), (5, (0, v5))]) (st' := [(0, (-1)), (0, (w32 ((w32 (4 * v3)) + v5))), (2, 1007)]) rfl ?_
    refine rn_iast (n := 480) rfl rfl rfl h (fun μ6 h => ?_)
    refine rn_sls 1 (pc' := 267) (ls' := [(5, (0, (w32 (v5 + 1)))), (0, (2, 1000)), (1, (0, v1)), (2, (0, v2)), (3, (0, v3))]) (st' := []) rfl ?_
    refine rn_goto (t := 246) rfl rfl rfl ?_
    exact rn_sub [1, 2, 3, 4, 0] rfl (hk246 _ _ _ _ _ _ h)
  · refine rn_sls 1 (pc' := 271) (ls' := [(0, (2, 1000)), (1, (0, v1)), (2, (0, v2)), (3, (0, v3)), (5, (0, v5))]) (st' := [(0, v1)]) rfl ?_
    refine rn_ifn (t := 285) rfl rfl rfl rfl h (fun h => ?_) (fun h => ?_)
    · refine rn_sls 3 (pc' := 277) (ls' := [(0, (2, 1000)), (1, (0, v1)), (2, (0, v2)), (3, (0, v3)), (5, (0, v5))]) (st' := [(0, v3), (0, v2), (2, 1000)]) rfl ?_
      refine rn_call 0 0 [(2, 1000), (0, v2), (0, v3)] (r := []) rfl ⟨rfl, Or.inl ⟨_, rfl, by decide⟩⟩ (by decide) (fun _ => ⟨_, rfl, rfl⟩) rfl rfl (Nat.le_of_ble_eq_true rfl) h (fun w hw => t_M_readsTake (d + 1) _ _ _ _ hw) (fun a4 μ5 h => ?_)
      refine rn_sls 0 (pc' := 280) (ls' := [(0, (2, 1000)), (1, (0, v1)), (2, (0, v2)), (3, (0, v3)), (5, (0, v5))]) (st' := [(0, a4)]) rfl ?_
      refine rn_sls 1 (pc' := 282) (ls' := [(5, (0, a4)), (0, (2, 1000)), (1, (0, v1)), (2, (0, v2)), (3, (0, v3))]) (st' := []) rfl ?_
      refine rn_goto (t := 298) rfl rfl rfl ?_
      exact rn_sub [1, 2, 3, 0] rfl (t_M_readsLine_B298 d  _ _ _ _ _ h)
    · refine rn_sls 2 (pc' := 287) (ls' := [(0, (2, 1000)), (1, (0, v1)), (2, (0, v2)), (3, (0, v3)), (5, (0, v5))]) (st' := [(0, 1), (2, 1000)]) rfl ?_
      refine rn_putb rfl rfl rfl rfl rfl rfl h (fun μ1 h => ?_)
      refine rn_sls 3 (pc' := 293) (ls' := [(0, (2, 1000)), (1, (0, v1)), (2, (0, v2)), (3, (0, v3)), (5, (0, v5))]) (st' := [(0, v3), (0, v1), (2, 1000)]) rfl ?_
      refine rn_call 0 0 [(2, 1000), (0, v1), (0, v3)] (r := []) rfl ⟨rfl, Or.inl ⟨_, rfl, by decide⟩⟩ (by decide) (fun _ => ⟨_, rfl, rfl⟩) rfl rfl (Nat.le_of_ble_eq_true rfl) h (fun w hw => t_M_readsOther (d + 0) _ _ _ _ hw) (fun a2 μ3 h => ?_)
      refine rn_sls 0 (pc' := 296) (ls' := [(0, (2, 1000)), (1, (0, v1)), (2, (0, v2)), (3, (0, v3)), (5, (0, v5))]) (st' := [(0, a2)]) rfl ?_
      refine rn_sls 1 (pc' := 298) (ls' := [(5, (0, a2)), (0, (2, 1000)), (1, (0, v1)), (2, (0, v2)), (3, (0, v3))]) (st' := []) rfl ?_
      exact rn_sub [1, 2, 3, 0] rfl (t_M_readsLine_B298 d  _ _ _ _ _ h)
set_option maxRecDepth 20000 in
theorem t_M_readsLine_L246 (d : Nat) : ∀ (n : Nat) (v1 : Int) (v2 : Int) (v3 : Int) (v5 : Int) (μ : am_M) q, M_readsLine_L246 n v1 v2 v3 v5 μ = some q → am_run none (am_ar g_mt (d + 5)) 6 (some .boolean) k_M_readsLine 246 [(0, (2, 1000)), (1, (0, v1)), (2, (0, v2)), (3, (0, v3)), (5, (0, v5))] [] μ (am_res 0 q) := by
  intro n
  induction n with
  | zero => intro v1 v2 v3 v5 μ q h; cases h
  | succ n ih => intro v1 v2 v3 v5 μ q h; exact t_M_readsLine_L246_b d (M_readsLine_L246 n) ih v1 v2 v3 v5 μ q h
set_option maxRecDepth 20000 in
theorem t_M_readsLine_B188 (d : Nat) : ∀ (v1 : Int) (v2 : Int) (v3 : Int) (μ : am_M) q, M_readsLine_B188 v1 v2 v3 μ = some q → am_run none (am_ar g_mt (d + 5)) 6 (some .boolean) k_M_readsLine 188 [(0, (2, 1000)), (1, (0, v1)), (2, (0, v2)), (3, (0, v3))] [] μ (am_res 0 q) := by
  intro v1 v2 v3 μ q h
  unfold M_readsLine_B188 at h
  refine rn_sls 4 (pc' := 194) (ls' := [(0, (2, 1000)), (1, (0, v1)), (2, (0, v2)), (3, (0, v3))]) (st' := [(0, v1), (0, v3), (2, 1002)]) rfl ?_
  refine rn_iast (n := 120) rfl rfl rfl h (fun μ1 h => ?_)
  refine rn_sls 4 (pc' := 201) (ls' := [(0, (2, 1000)), (1, (0, v1)), (2, (0, v2)), (3, (0, v3))]) (st' := [(0, (-1)), (0, v3), (2, 1003)]) rfl ?_
  refine rn_iast (n := 120) rfl rfl rfl h (fun μ2 h => ?_)
  refine rn_sls 4 (pc' := 208) (ls' := [(0, (2, 1000)), (1, (0, v1)), (2, (0, v2)), (3, (0, v3))]) (st' := [(0, (-1)), (0, v3), (2, 1004)]) rfl ?_
  refine rn_iast (n := 120) rfl rfl rfl h (fun μ3 h => ?_)
  refine rn_sls 4 (pc' := 215) (ls' := [(0, (2, 1000)), (1, (0, v1)), (2, (0, v2)), (3, (0, v3))]) (st' := [(0, 1), (0, v3), (2, 1005)]) rfl ?_
  refine rn_iast (n := 120) rfl rfl rfl h (fun μ4 h => ?_)
  refine rn_sls 4 (pc' := 222) (ls' := [(0, (2, 1000)), (1, (0, v1)), (2, (0, v2)), (3, (0, v3))]) (st' := [(0, (-1)), (0, v3), (2, 1006)]) rfl ?_
  refine rn_iast (n := 120) rfl rfl rfl h (fun μ5 h => ?_)
  refine rn_sls 5 (pc' := 232) (ls' := [(0, (2, 1000)), (1, (0, v1)), (2, (0, v2)), (3, (0, v3))]) (st' := [(0, (μ5 1000 30)), (0, v3), (2, 1010)]) rfl ?_
  refine rn_iast (n := 120) rfl rfl rfl h (fun μ6 h => ?_)
  refine rn_sls 5 (pc' := 242) (ls' := [(0, (2, 1000)), (1, (0, v1)), (2, (0, v2)), (3, (0, v3))]) (st' := [(0, (μ6 1000 30)), (0, v3), (2, 1011)]) rfl ?_
  refine rn_iast (n := 120) rfl rfl rfl h (fun μ7 h => ?_)
  refine rn_sls 2 (pc' := 246) (ls' := [(5, (0, 0)), (0, (2, 1000)), (1, (0, v1)), (2, (0, v2)), (3, (0, v3))]) (st' := []) rfl ?_
  exact rn_sub [1, 2, 3, 4, 0] rfl (t_M_readsLine_L246 d  am_FU _ _ _ _ _ _ h)
set_option maxRecDepth 20000 in
theorem t_M_readsLine_B158 (d : Nat) : ∀ (v1 : Int) (v2 : Int) (v3 : Int) (μ : am_M) q, M_readsLine_B158 v1 v2 v3 μ = some q → am_run none (am_ar g_mt (d + 5)) 6 (some .boolean) k_M_readsLine 158 [(0, (2, 1000)), (1, (0, v1)), (2, (0, v2)), (3, (0, v3))] [] μ (am_res 0 q) := by
  intro v1 v2 v3 μ q h
  unfold M_readsLine_B158 at h
  refine rn_sls 3 (pc' := 163) (ls' := [(0, (2, 1000)), (1, (0, v1)), (2, (0, v2)), (3, (0, v3))]) (st' := [(0, 5), (2, 1013)]) rfl ?_
  refine rn_iald (n := 6) rfl rfl rfl h (fun a1 h => ?_)
  refine rn_sls 1 (pc' := 166) (ls' := [(0, (2, 1000)), (1, (0, v1)), (2, (0, v2)), (3, (0, v3))]) (st' := [(0, 60), (0, a1)]) rfl ?_
  refine rn_icmp (t := 182) rfl rfl rfl rfl h (fun h => ?_) (fun h => ?_)
  · exact rn_sub [0] rfl (t_M_readsLine_B182 d  _ _ h)
  · refine rn_sls 2 (pc' := 171) (ls' := [(0, (2, 1000)), (1, (0, v1)), (2, (0, v2)), (3, (0, v3))]) (st' := [(0, 5), (0, v1)]) rfl ?_
    refine rn_icmpn (t := 188) rfl rfl rfl rfl h (fun h => ?_) (fun h => ?_)
    · refine rn_sls 3 (pc' := 179) (ls' := [(0, (2, 1000)), (1, (0, v1)), (2, (0, v2)), (3, (0, v3))]) (st' := [(0, 3), (0, (μ 1000 45))]) rfl ?_
      refine rn_icmpn (t := 188) rfl rfl rfl rfl h (fun h => ?_) (fun h => ?_)
      · exact rn_sub [0] rfl (t_M_readsLine_B182 d  _ _ h)
      · exact rn_sub [0, 1, 2, 3] rfl (t_M_readsLine_B188 d  _ _ _ _ _ h)
    · exact rn_sub [0, 1, 2, 3] rfl (t_M_readsLine_B188 d  _ _ _ _ _ h)
set_option maxRecDepth 20000 in
theorem t_M_readsLine_B134 (d : Nat) : ∀ (v1 : Int) (v2 : Int) (v3 : Int) (s0 : Int) (μ : am_M) q, M_readsLine_B134 v1 v2 v3 s0 μ = some q → am_run none (am_ar g_mt (d + 5)) 6 (some .boolean) k_M_readsLine 134 [(0, (2, 1000)), (1, (0, v1)), (2, (0, v2)), (3, (0, v3))] [(0, s0)] μ (am_res 0 q) := by
  intro v1 v2 v3 s0 μ q h
  unfold M_readsLine_B134 at h
  refine rn_sls 2 (pc' := 138) (ls' := [(4, (0, s0)), (0, (2, 1000)), (1, (0, v1)), (2, (0, v2)), (3, (0, v3))]) (st' := [(0, s0)]) rfl ?_
  refine rn_if (t := 152) rfl rfl rfl rfl h (fun h => ?_) (fun h => ?_)
  · exact rn_sub [1] rfl (t_M_readsLine_B152 d  _ _ h)
  · refine rn_sls 1 (pc' := 142) (ls' := [(4, (0, s0)), (0, (2, 1000)), (1, (0, v1)), (2, (0, v2)), (3, (0, v3))]) (st' := [(0, v1)]) rfl ?_
    refine rn_ifn (t := 158) rfl rfl rfl rfl h (fun h => ?_) (fun h => ?_)
    · refine rn_sls 2 (pc' := 149) (ls' := [(4, (0, s0)), (0, (2, 1000)), (1, (0, v1)), (2, (0, v2)), (3, (0, v3))]) (st' := [(0, (μ 1000 44))]) rfl ?_
      refine rn_if (t := 158) rfl rfl rfl rfl h (fun h => ?_) (fun h => ?_)
      · exact rn_sub [1, 2, 3, 4] rfl (t_M_readsLine_B158 d  _ _ _ _ _ h)
      · exact rn_sub [1] rfl (t_M_readsLine_B152 d  _ _ h)
    · exact rn_sub [1, 2, 3, 4] rfl (t_M_readsLine_B158 d  _ _ _ _ _ h)
set_option maxRecDepth 20000 in
theorem t_M_readsLine_B77 (d : Nat) : ∀ (v1 : Int) (v2 : Int) (v3 : Int) (μ : am_M) q, M_readsLine_B77 v1 v2 v3 μ = some q → am_run none (am_ar g_mt (d + 5)) 6 (some .boolean) k_M_readsLine 77 [(0, (2, 1000)), (1, (0, v1)), (2, (0, v2)), (3, (0, v3))] [] μ (am_res 0 q) := by
  intro v1 v2 v3 μ q h
  unfold M_readsLine_B77 at h
  refine rn_sls 1 (pc' := 78) (ls' := [(0, (2, 1000)), (1, (0, v1)), (2, (0, v2)), (3, (0, v3))]) (st' := [(0, 0)]) rfl ?_
  refine rn_goto (t := 134) rfl rfl rfl ?_
  exact rn_sub [0, 1, 2, 3] rfl (t_M_readsLine_B134 d  _ _ _ _ _ _ h)
set_option maxRecDepth 20000 in
theorem t_M_readsLine_B112 (d : Nat) : ∀ (v1 : Int) (v2 : Int) (v3 : Int) (μ : am_M) q, M_readsLine_B112 v1 v2 v3 μ = some q → am_run none (am_ar g_mt (d + 5)) 6 (some .boolean) k_M_readsLine 112 [(0, (2, 1000)), (1, (0, v1)), (2, (0, v2)), (3, (0, v3))] [] μ (am_res 0 q) := by
  intro v1 v2 v3 μ q h
  unfold M_readsLine_B112 at h
  refine rn_sls 1 (pc' := 113) (ls' := [(0, (2, 1000)), (1, (0, v1)), (2, (0, v2)), (3, (0, v3))]) (st' := [(0, 0)]) rfl ?_
  refine rn_goto (t := 134) rfl rfl rfl ?_
  exact rn_sub [0, 1, 2, 3] rfl (t_M_readsLine_B134 d  _ _ _ _ _ _ h)
set_option maxRecDepth 20000 in
theorem t_M_readsLine_B129 (d : Nat) : ∀ (v1 : Int) (v2 : Int) (v3 : Int) (μ : am_M) q, M_readsLine_B129 v1 v2 v3 μ = some q → am_run none (am_ar g_mt (d + 5)) 6 (some .boolean) k_M_readsLine 129 [(0, (2, 1000)), (1, (0, v1)), (2, (0, v2)), (3, (0, v3))] [] μ (am_res 0 q) := by
  intro v1 v2 v3 μ q h
  unfold M_readsLine_B129 at h
  refine rn_sls 1 (pc' := 130) (ls' := [(0, (2, 1000)), (1, (0, v1)), (2, (0, v2)), (3, (0, v3))]) (st' := [(0, 1)]) rfl ?_
  refine rn_goto (t := 134) rfl rfl rfl ?_
  exact rn_sub [0, 1, 2, 3] rfl (t_M_readsLine_B134 d  _ _ _ _ _ _ h)
set_option maxRecDepth 20000 in
theorem t_M_readsLine (d : Nat) : ∀  (μ : am_M) q, M_readsLine  μ = some q → am_ar g_mt (d + 6) 175 [(2, 1000)] μ (am_res 0 q) := by
  intro  μ q h
  unfold M_readsLine at h
  refine am_ar_of (d := d + 5) i_M_readsLine rfl rfl (Nat.le_of_ble_eq_true rfl) ?_
  show am_run none (am_ar g_mt (d + 5)) 6 (some .boolean) k_M_readsLine 0 [(0, (2, 1000))] [] μ (am_res 0 q)
  refine rn_sls 1 (pc' := 1) (ls' := [(0, (2, 1000))]) (st' := [(2, 1000)]) rfl ?_
  refine rn_call 0 0 [(2, 1000)] (r := []) rfl ⟨rfl, Or.inl ⟨_, rfl, by decide⟩⟩ (by decide) (fun _ => ⟨_, rfl, rfl⟩) rfl rfl (Nat.le_of_ble_eq_true rfl) h (fun w hw => t_M_kindOfLine (d + 3)  _ _ hw) (fun a1 μ2 h => ?_)
  refine rn_sls 0 (pc' := 4) (ls' := [(0, (2, 1000))]) (st' := [(0, a1)]) rfl ?_
  refine rn_sls 2 (pc' := 6) (ls' := [(1, (0, a1)), (0, (2, 1000))]) (st' := [(0, a1)]) rfl ?_
  refine rn_if (t := 16) rfl rfl rfl rfl h (fun h => ?_) (fun h => ?_)
  · exact rn_sub [1] rfl (t_M_readsLine_B16 d  _ _ h)
  · refine rn_sls 2 (pc' := 13) (ls' := [(1, (0, a1)), (0, (2, 1000))]) (st' := [(0, (μ2 1000 43))]) rfl ?_
    refine rn_ifn (t := 22) rfl rfl rfl rfl h (fun h => ?_) (fun h => ?_)
    · exact rn_sub [1] rfl (t_M_readsLine_B16 d  _ _ h)
    · refine rn_sls 4 (pc' := 28) (ls' := [(1, (0, a1)), (0, (2, 1000))]) (st' := [(0, 4), (2, 1013), (0, 3)]) rfl ?_
      refine rn_iald (n := 6) rfl rfl rfl h (fun a3 h => ?_)
      refine rn_sls 7 (pc' := 40) (ls' := [(2, (0, (w32 (3 + a3)))), (1, (0, a1)), (0, (2, 1000))]) (st' := [(0, 5), (2, 1013), (0, 60), (0, 119)]) rfl ?_
      refine rn_iald (n := 6) rfl rfl rfl h (fun a4 h => ?_)
      refine rn_sls 1 (pc' := 42) (ls' := [(2, (0, (w32 (3 + a3)))), (1, (0, a1)), (0, (2, 1000))]) (st' := [(0, (w32 (60 + a4))), (0, 119)]) rfl ?_
      refine rn_min rfl ⟨rfl, Or.inr ⟨_, rfl, by decide⟩⟩ rfl (Nat.le_of_ble_eq_true rfl) ?_
      refine rn_nm (ls := fun x => [(2, (0, (w32 (3 + a3)))), (1, (0, a1)), (0, (2, 1000))]) (st := fun x => [(0, x)]) h (fun a5 h => ?_)
      refine rn_sls 3 (pc' := 49) (ls' := [(3, (0, a5)), (2, (0, (w32 (3 + a3)))), (1, (0, a1)), (0, (2, 1000))]) (st' := [(0, 6), (0, a1)]) rfl ?_
      refine rn_icmpn (t := 81) rfl rfl rfl rfl h (fun h => ?_) (fun h => ?_)
      · refine rn_sls 2 (pc' := 56) (ls' := [(3, (0, a5)), (2, (0, (w32 (3 + a3)))), (1, (0, a1)), (0, (2, 1000))]) (st' := [(0, (μ2 1000 45))]) rfl ?_
        refine rn_if (t := 77) rfl rfl rfl rfl h (fun h => ?_) (fun h => ?_)
        · exact rn_sub [3, 2, 1, 0] rfl (t_M_readsLine_B77 d  _ _ _ _ _ h)
        · refine rn_sls 6 (pc' := 69) (ls' := [(3, (0, a5)), (2, (0, (w32 (3 + a3)))), (1, (0, a1)), (0, (2, 1000))]) (st' := [(0, (w32 ((μ2 1000 45) - 1))), (2, 1035)]) rfl ?_
          refine rn_bald (n := 3) rfl rfl rfl h (fun a7 h => ?_)
          refine rn_ifn (t := 77) rfl rfl rfl rfl h (fun h => ?_) (fun h => ?_)
          · refine rn_sls 1 (pc' := 74) (ls' := [(3, (0, a5)), (2, (0, (w32 (3 + a3)))), (1, (0, a1)), (0, (2, 1000))]) (st' := [(0, 1)]) rfl ?_
            refine rn_goto (t := 134) rfl rfl rfl ?_
            exact rn_sub [3, 2, 1, 0] rfl (t_M_readsLine_B134 d  _ _ _ _ _ _ h)
          · exact rn_sub [3, 2, 1, 0] rfl (t_M_readsLine_B77 d  _ _ _ _ _ h)
      · refine rn_sls 2 (pc' := 84) (ls' := [(3, (0, a5)), (2, (0, (w32 (3 + a3)))), (1, (0, a1)), (0, (2, 1000))]) (st' := [(0, 7), (0, a1)]) rfl ?_
        refine rn_icmpn (t := 116) rfl rfl rfl rfl h (fun h => ?_) (fun h => ?_)
        · refine rn_sls 2 (pc' := 91) (ls' := [(3, (0, a5)), (2, (0, (w32 (3 + a3)))), (1, (0, a1)), (0, (2, 1000))]) (st' := [(0, (μ2 1000 45))]) rfl ?_
          refine rn_if (t := 112) rfl rfl rfl rfl h (fun h => ?_) (fun h => ?_)
          · exact rn_sub [3, 2, 1, 0] rfl (t_M_readsLine_B112 d  _ _ _ _ _ h)
          · refine rn_sls 6 (pc' := 104) (ls' := [(3, (0, a5)), (2, (0, (w32 (3 + a3)))), (1, (0, a1)), (0, (2, 1000))]) (st' := [(0, (w32 ((μ2 1000 45) - 1))), (2, 1035)]) rfl ?_
            refine rn_bald (n := 3) rfl rfl rfl h (fun a6 h => ?_)
            refine rn_if (t := 112) rfl rfl rfl rfl h (fun h => ?_) (fun h => ?_)
            · exact rn_sub [3, 2, 1, 0] rfl (t_M_readsLine_B112 d  _ _ _ _ _ h)
            · refine rn_sls 1 (pc' := 109) (ls' := [(3, (0, a5)), (2, (0, (w32 (3 + a3)))), (1, (0, a1)), (0, (2, 1000))]) (st' := [(0, 1)]) rfl ?_
              refine rn_goto (t := 134) rfl rfl rfl ?_
              exact rn_sub [3, 2, 1, 0] rfl (t_M_readsLine_B134 d  _ _ _ _ _ _ h)
        · refine rn_sls 2 (pc' := 119) (ls' := [(3, (0, a5)), (2, (0, (w32 (3 + a3)))), (1, (0, a1)), (0, (2, 1000))]) (st' := [(0, 8), (0, a1)]) rfl ?_
          refine rn_icmpn (t := 129) rfl rfl rfl rfl h (fun h => ?_) (fun h => ?_)
          · refine rn_sls 2 (pc' := 126) (ls' := [(3, (0, a5)), (2, (0, (w32 (3 + a3)))), (1, (0, a1)), (0, (2, 1000))]) (st' := [(0, (μ2 1000 45))]) rfl ?_
            refine rn_ifn (t := 133) rfl rfl rfl rfl h (fun h => ?_) (fun h => ?_)
            · exact rn_sub [3, 2, 1, 0] rfl (t_M_readsLine_B129 d  _ _ _ _ _ h)
            · refine rn_sls 1 (pc' := 134) (ls' := [(3, (0, a5)), (2, (0, (w32 (3 + a3)))), (1, (0, a1)), (0, (2, 1000))]) (st' := [(0, 0)]) rfl ?_
              exact rn_sub [3, 2, 1, 0] rfl (t_M_readsLine_B134 d  _ _ _ _ _ _ h)
          · exact rn_sub [3, 2, 1, 0] rfl (t_M_readsLine_B129 d  _ _ _ _ _ h)
set_option maxRecDepth 20000 in
theorem t_M_readsAll_L55_b (d : Nat) (k55 : am_M → am_O) (hk55 : ∀  (μ : am_M) q, k55  μ = some q → am_run none (am_ar g_mt (d + 6)) 2 (some .boolean) k_M_readsAll 55 [(0, (2, 1000))] [] μ (am_res 0 q)) : ∀  (μ : am_M) q, M_readsAll_L55_b k55  μ = some q → am_run none (am_ar g_mt (d + 6)) 2 (some .boolean) k_M_readsAll 55 [(0, (2, 1000))] [] μ (am_res 0 q) := by
  intro  μ q h
  unfold M_readsAll_L55_b at h
  refine rn_sls 2 (pc' := 59) (ls' := [(0, (2, 1000))]) (st' := [(0, (μ 1000 6))]) rfl ?_
  refine rn_if (t := 111) rfl rfl rfl rfl h (fun h => ?_) (fun h => ?_)
  · refine rn_sls 2 (pc' := 115) (ls' := [(0, (2, 1000))]) (st' := [(0, (μ 1000 43))]) rfl ?_
    refine rn_if (t := 126) rfl rfl rfl rfl h (fun h => ?_) (fun h => ?_)
    · refine rn_sls 1 (pc' := 127) (ls' := [(0, (2, 1000))]) (st' := [(0, 1)]) rfl ?_
      refine rn_goto (t := 131) rfl rfl rfl ?_
      exact rn_iretb rfl rfl rfl (Or.inr rfl) h rfl
    · refine rn_sls 2 (pc' := 120) (ls' := [(0, (2, 1000))]) (st' := [(0, 1), (2, 1000)]) rfl ?_
      refine rn_call 0 0 [(2, 1000), (0, 1)] (r := []) rfl ⟨rfl, Or.inl ⟨_, rfl, by decide⟩⟩ (by decide) (fun _ => ⟨_, rfl, rfl⟩) rfl rfl (Nat.le_of_ble_eq_true rfl) h (fun w hw => t_M_fails (d + 5) _ _ _ hw) (fun a1 μ2 h => ?_)
      refine rn_sls 0 (pc' := 123) (ls' := [(0, (2, 1000))]) (st' := [(0, a1)]) rfl ?_
      refine rn_if (t := 130) rfl rfl rfl rfl h (fun h => ?_) (fun h => ?_)
      · refine rn_sls 1 (pc' := 131) (ls' := [(0, (2, 1000))]) (st' := [(0, 0)]) rfl ?_
        exact rn_iretb rfl rfl rfl (Or.inl rfl) h rfl
      · refine rn_sls 1 (pc' := 127) (ls' := [(0, (2, 1000))]) (st' := [(0, 1)]) rfl ?_
        refine rn_goto (t := 131) rfl rfl rfl ?_
        exact rn_iretb rfl rfl rfl (Or.inr rfl) h rfl
  · refine rn_sls 2 (pc' := 66) (ls' := [(0, (2, 1000))]) (st' := [(1, 453774), (2, 1000)]) rfl ?_
    refine rn_call 0 0 [(2, 1000), (1, 453774)] (r := []) rfl ⟨rfl, Or.inl ⟨_, rfl, by decide⟩⟩ (by decide) (fun _ => ⟨_, rfl, rfl⟩) rfl rfl (Nat.le_of_ble_eq_true rfl) h (fun w hw => t_M_isWord (d + 5) _ _ _ hw) (fun a3 μ4 h => ?_)
    refine rn_sls 0 (pc' := 69) (ls' := [(0, (2, 1000))]) (st' := [(0, a3)]) rfl ?_
    refine rn_if (t := 82) rfl rfl rfl rfl h (fun h => ?_) (fun h => ?_)
    · refine rn_sls 2 (pc' := 86) (ls' := [(0, (2, 1000))]) (st' := [(1, 46263), (2, 1000)]) rfl ?_
      refine rn_call 0 0 [(2, 1000), (1, 46263)] (r := []) rfl ⟨rfl, Or.inl ⟨_, rfl, by decide⟩⟩ (by decide) (fun _ => ⟨_, rfl, rfl⟩) rfl rfl (Nat.le_of_ble_eq_true rfl) h (fun w hw => t_M_isWord (d + 5) _ _ _ hw) (fun a5 μ6 h => ?_)
      refine rn_sls 0 (pc' := 89) (ls' := [(0, (2, 1000))]) (st' := [(0, a5)]) rfl ?_
      refine rn_if (t := 102) rfl rfl rfl rfl h (fun h => ?_) (fun h => ?_)
      · refine rn_sls 1 (pc' := 103) (ls' := [(0, (2, 1000))]) (st' := [(2, 1000)]) rfl ?_
        refine rn_call 0 0 [(2, 1000)] (r := []) rfl ⟨rfl, Or.inl ⟨_, rfl, by decide⟩⟩ (by decide) (fun _ => ⟨_, rfl, rfl⟩) rfl rfl (Nat.le_of_ble_eq_true rfl) h (fun w hw => t_M_readsLine (d + 0)  _ _ hw) (fun a7 μ8 h => ?_)
        refine rn_sls 0 (pc' := 106) (ls' := [(0, (2, 1000))]) (st' := [(0, a7)]) rfl ?_
        refine rn_ifn (t := 55) rfl rfl rfl rfl h (fun h => ?_) (fun h => ?_)
        · refine rn_sls 1 (pc' := 110) (ls' := [(0, (2, 1000))]) (st' := [(0, 0)]) rfl ?_
          exact rn_iretb rfl rfl rfl (Or.inl rfl) h rfl
        · exact rn_sub [0] rfl (hk55 _ _ h)
      · refine rn_sls 1 (pc' := 93) (ls' := [(0, (2, 1000))]) (st' := [(2, 1000)]) rfl ?_
        refine rn_call 0 0 [(2, 1000)] (r := []) rfl ⟨rfl, Or.inl ⟨_, rfl, by decide⟩⟩ (by decide) (fun _ => ⟨_, rfl, rfl⟩) rfl rfl (Nat.le_of_ble_eq_true rfl) h (fun w hw => t_M_readsBill (d + 2)  _ _ hw) (fun a9 μ10 h => ?_)
        refine rn_sls 0 (pc' := 96) (ls' := [(0, (2, 1000))]) (st' := [(0, a9)]) rfl ?_
        refine rn_if (t := 109) rfl rfl rfl rfl h (fun h => ?_) (fun h => ?_)
        · refine rn_sls 1 (pc' := 110) (ls' := [(0, (2, 1000))]) (st' := [(0, 0)]) rfl ?_
          exact rn_iretb rfl rfl rfl (Or.inl rfl) h rfl
        · refine rn_goto (t := 55) rfl rfl rfl ?_
          exact rn_sub [0] rfl (hk55 _ _ h)
    · refine rn_sls 1 (pc' := 73) (ls' := [(0, (2, 1000))]) (st' := [(2, 1000)]) rfl ?_
      refine rn_call 0 0 [(2, 1000)] (r := []) rfl ⟨rfl, Or.inl ⟨_, rfl, by decide⟩⟩ (by decide) (fun _ => ⟨_, rfl, rfl⟩) rfl rfl (Nat.le_of_ble_eq_true rfl) h (fun w hw => t_M_readsWall (d + 2)  _ _ hw) (fun a11 μ12 h => ?_)
      refine rn_sls 0 (pc' := 76) (ls' := [(0, (2, 1000))]) (st' := [(0, a11)]) rfl ?_
      refine rn_if (t := 109) rfl rfl rfl rfl h (fun h => ?_) (fun h => ?_)
      · refine rn_sls 1 (pc' := 110) (ls' := [(0, (2, 1000))]) (st' := [(0, 0)]) rfl ?_
        exact rn_iretb rfl rfl rfl (Or.inl rfl) h rfl
      · refine rn_goto (t := 55) rfl rfl rfl ?_
        exact rn_sub [0] rfl (hk55 _ _ h)
set_option maxRecDepth 20000 in
theorem t_M_readsAll_L55 (d : Nat) : ∀ (n : Nat)  (μ : am_M) q, M_readsAll_L55 n  μ = some q → am_run none (am_ar g_mt (d + 6)) 2 (some .boolean) k_M_readsAll 55 [(0, (2, 1000))] [] μ (am_res 0 q) := by
  intro n
  induction n with
  | zero => intro  μ q h; cases h
  | succ n ih => intro  μ q h; exact t_M_readsAll_L55_b d (M_readsAll_L55 n) ih  μ q h
set_option maxRecDepth 20000 in
theorem t_M_readsAll_L2_b (d : Nat) (k2 : Int → am_M → am_O) (hk2 : ∀ (v1 : Int) (μ : am_M) q, k2 v1 μ = some q → am_run none (am_ar g_mt (d + 6)) 2 (some .boolean) k_M_readsAll 2 [(0, (2, 1000)), (1, (0, v1))] [] μ (am_res 0 q)) : ∀ (v1 : Int) (μ : am_M) q, M_readsAll_L2_b k2 v1 μ = some q → am_run none (am_ar g_mt (d + 6)) 2 (some .boolean) k_M_readsAll 2 [(0, (2, 1000)), (1, (0, v1))] [] μ (am_res 0 q) := by
  intro v1 μ q h
  unfold M_readsAll_L2_b at h
  refine rn_sls 2 (pc' := 5) (ls' := [(0, (2, 1000)), (1, (0, v1))]) (st' := [(0, 6), (0, v1)]) rfl ?_
  refine rn_icmpn (t := 21) rfl rfl rfl rfl h (fun h => ?_) (fun h => ?_)
  · refine rn_sls 4 (pc' := 14) (ls' := [(0, (2, 1000)), (1, (0, v1))]) (st' := [(0, 0), (0, v1), (2, 1013)]) rfl ?_
    refine rn_iast (n := 6) rfl rfl rfl h (fun μ8 h => ?_)
    refine rn_sls 1 (pc' := 18) (ls' := [(1, (0, (w32 (v1 + 1)))), (0, (2, 1000))]) (st' := []) rfl ?_
    refine rn_goto (t := 2) rfl rfl rfl ?_
    exact rn_sub [1, 0] rfl (hk2 _ _ _ h)
  · refine rn_sls 2 (pc' := 23) (ls' := [(0, (2, 1000)), (1, (0, v1))]) (st' := [(0, 0), (2, 1000)]) rfl ?_
    refine rn_putb rfl rfl rfl rfl rfl rfl h (fun μ1 h => ?_)
    refine rn_sls 2 (pc' := 30) (ls' := [(0, (2, 1000)), (1, (0, v1))]) (st' := [(0, 1000), (2, 1000)]) rfl ?_
    refine rn_put rfl rfl rfl rfl (Or.inl ⟨rfl, rfl⟩) rfl h (fun μ2 h => ?_)
    refine rn_sls 3 (pc' := 38) (ls' := [(0, (2, 1000)), (1, (0, v1))]) (st' := [(0, (μ2 1000 1)), (2, 1000)]) rfl ?_
    refine rn_put rfl rfl rfl rfl (Or.inl ⟨rfl, rfl⟩) rfl h (fun μ3 h => ?_)
    refine rn_sls 2 (pc' := 43) (ls' := [(0, (2, 1000)), (1, (0, v1))]) (st' := [(0, 0), (2, 1000)]) rfl ?_
    refine rn_put rfl rfl rfl rfl (Or.inl ⟨rfl, rfl⟩) rfl h (fun μ4 h => ?_)
    refine rn_sls 2 (pc' := 48) (ls' := [(0, (2, 1000)), (1, (0, v1))]) (st' := [(0, 0), (2, 1000)]) rfl ?_
    refine rn_put rfl rfl rfl rfl (Or.inl ⟨rfl, rfl⟩) rfl h (fun μ5 h => ?_)
    refine rn_sls 1 (pc' := 52) (ls' := [(0, (2, 1000)), (1, (0, v1))]) (st' := [(2, 1000)]) rfl ?_
    refine rn_call 0 2 [(2, 1000)] (r := []) rfl ⟨rfl, Or.inl ⟨_, rfl, by decide⟩⟩ (by decide) (fun _ => ⟨_, rfl, rfl⟩) rfl rfl (Nat.le_of_ble_eq_true rfl) h (fun w hw => t_M_nextToken (d + 4)  _ _ hw) (fun a6 μ7 h => ?_)
    refine rn_sls 0 (pc' := 55) (ls' := [(0, (2, 1000)), (1, (0, v1))]) (st' := []) rfl ?_
    exact rn_sub [0] rfl (t_M_readsAll_L55 d  am_FU _ _ h)
set_option maxRecDepth 20000 in
theorem t_M_readsAll_L2 (d : Nat) : ∀ (n : Nat) (v1 : Int) (μ : am_M) q, M_readsAll_L2 n v1 μ = some q → am_run none (am_ar g_mt (d + 6)) 2 (some .boolean) k_M_readsAll 2 [(0, (2, 1000)), (1, (0, v1))] [] μ (am_res 0 q) := by
  intro n
  induction n with
  | zero => intro v1 μ q h; cases h
  | succ n ih => intro v1 μ q h; exact t_M_readsAll_L2_b d (M_readsAll_L2 n) ih v1 μ q h
set_option maxRecDepth 20000 in
theorem t_M_readsAll (d : Nat) : ∀  (μ : am_M) q, M_readsAll  μ = some q → am_ar g_mt (d + 7) 177 [(2, 1000)] μ (am_res 0 q) := by
  intro  μ q h
  unfold M_readsAll at h
  refine am_ar_of (d := d + 6) i_M_readsAll rfl rfl (Nat.le_of_ble_eq_true rfl) ?_
  show am_run none (am_ar g_mt (d + 6)) 2 (some .boolean) k_M_readsAll 0 [(0, (2, 1000))] [] μ (am_res 0 q)
  refine rn_sls 2 (pc' := 2) (ls' := [(1, (0, 3)), (0, (2, 1000))]) (st' := []) rfl ?_
  exact rn_sub [1, 0] rfl (t_M_readsAll_L2 d  am_FU _ _ _ h)
set_option maxRecDepth 20000 in
theorem t_M_lastLine (d : Nat) : ∀ (v1 : Int) (μ : am_M) q, M_lastLine v1 μ = some q → am_ar g_mt (d + 1) 181 [(2, 1000), (0, v1)] μ (am_res 0 q) := by
  intro v1 μ q h
  unfold M_lastLine at h
  refine am_ar_of (d := d + 0) i_M_lastLine rfl rfl (Nat.le_of_ble_eq_true rfl) ?_
  show am_run none (am_ar g_mt (d + 0)) 2 (some .int) k_M_lastLine 0 [(0, (2, 1000)), (1, (0, v1))] [] μ (am_res 0 q)
  refine rn_sls 3 (pc' := 5) (ls' := [(0, (2, 1000)), (1, (0, v1))]) (st' := [(0, v1), (2, 1017)]) rfl ?_
  refine rn_iald (n := 8) rfl rfl rfl h (fun a1 h => ?_)
  refine rn_sls 3 (pc' := 11) (ls' := [(0, (2, 1000)), (1, (0, v1))]) (st' := [(0, v1), (2, 1018), (0, a1)]) rfl ?_
  refine rn_iald (n := 8) rfl rfl rfl h (fun a2 h => ?_)
  refine rn_sls 3 (pc' := 15) (ls' := [(0, (2, 1000)), (1, (0, v1))]) (st' := [(0, (w32 ((w32 (a1 + a2)) - 1)))]) rfl ?_
  exact rn_ireti rfl rfl rfl h rfl
set_option maxRecDepth 20000 in
theorem t_M_finds (d : Nat) : ∀ (v1 : Int) (v2 : Int) (v3 : Int) (v4 : Int) (μ : am_M) q, M_finds v1 v2 v3 v4 μ = some q → am_ar g_mt (d + 1) 187 [(2, 1000), (0, v1), (0, v2), (0, v3), (0, v4)] μ (am_res 0 q) := by
  intro v1 v2 v3 v4 μ q h
  unfold M_finds at h
  refine am_ar_of (d := d + 0) i_M_finds rfl rfl (Nat.le_of_ble_eq_true rfl) ?_
  show am_run none (am_ar g_mt (d + 0)) 5 (some .boolean) k_M_finds 0 [(0, (2, 1000)), (1, (0, v1)), (2, (0, v2)), (3, (0, v3)), (4, (0, v4))] [] μ (am_res 0 q)
  refine rn_sls 4 (pc' := 6) (ls' := [(0, (2, 1000)), (1, (0, v1)), (2, (0, v2)), (3, (0, v3)), (4, (0, v4))]) (st' := [(0, v2), (0, v1), (2, 1039)]) rfl ?_
  refine rn_iast (n := 4) rfl rfl rfl h (fun μ1 h => ?_)
  refine rn_sls 4 (pc' := 13) (ls' := [(0, (2, 1000)), (1, (0, v1)), (2, (0, v2)), (3, (0, v3)), (4, (0, v4))]) (st' := [(0, v3), (0, v1), (2, 1040)]) rfl ?_
  refine rn_iast (n := 4) rfl rfl rfl h (fun μ2 h => ?_)
  refine rn_sls 4 (pc' := 21) (ls' := [(0, (2, 1000)), (1, (0, v1)), (2, (0, v2)), (3, (0, v3)), (4, (0, v4))]) (st' := [(0, v4), (0, v1), (2, 1041)]) rfl ?_
  refine rn_iast (n := 4) rfl rfl rfl h (fun μ3 h => ?_)
  refine rn_sls 1 (pc' := 23) (ls' := [(0, (2, 1000)), (1, (0, v1)), (2, (0, v2)), (3, (0, v3)), (4, (0, v4))]) (st' := [(0, 0)]) rfl ?_
  exact rn_iretb rfl rfl rfl (Or.inl rfl) h rfl
set_option maxRecDepth 20000 in
theorem t_M_putsDown (d : Nat) : ∀ (v1 : Int) (v2 : Int) (v3 : Int) (μ : am_M) q, M_putsDown v1 v2 v3 μ = some q → am_ar g_mt (d + 2) 189 [(2, 1000), (0, v1), (0, v2), (0, v3)] μ (am_res 0 q) := by
  intro v1 v2 v3 μ q h
  unfold M_putsDown at h
  refine am_ar_of (d := d + 1) i_M_putsDown rfl rfl (Nat.le_of_ble_eq_true rfl) ?_
  show am_run none (am_ar g_mt (d + 1)) 4 (some .boolean) k_M_putsDown 0 [(0, (2, 1000)), (1, (0, v1)), (2, (0, v2)), (3, (0, v3))] [] μ (am_res 0 q)
  refine rn_sls 1 (pc' := 1) (ls' := [(0, (2, 1000)), (1, (0, v1)), (2, (0, v2)), (3, (0, v3))]) (st' := [(0, v3)]) rfl ?_
  refine rn_ifn (t := 6) rfl rfl rfl rfl h (fun h => ?_) (fun h => ?_)
  · refine rn_sls 1 (pc' := 5) (ls' := [(0, (2, 1000)), (1, (0, v1)), (2, (0, v2)), (3, (0, v3))]) (st' := [(0, 1)]) rfl ?_
    exact rn_iretb rfl rfl rfl (Or.inr rfl) h rfl
  · refine rn_sls 3 (pc' := 11) (ls' := [(0, (2, 1000)), (1, (0, v1)), (2, (0, v2)), (3, (0, v3))]) (st' := [(0, v3), (2, 1036)]) rfl ?_
    refine rn_iald (n := 10) rfl rfl rfl h (fun a1 h => ?_)
    refine rn_if (t := 24) rfl rfl rfl rfl h (fun h => ?_) (fun h => ?_)
    · refine rn_sls 6 (pc' := 34) (ls' := [(0, (2, 1000)), (1, (0, v1)), (2, (0, v2)), (3, (0, v3))]) (st' := [(0, v2), (2, 1005), (0, v3), (2, 1036)]) rfl ?_
      refine rn_iald (n := 120) rfl rfl rfl h (fun a2 h => ?_)
      refine rn_iast (n := 10) rfl rfl rfl h (fun μ3 h => ?_)
      refine rn_sls 1 (pc' := 37) (ls' := [(0, (2, 1000)), (1, (0, v1)), (2, (0, v2)), (3, (0, v3))]) (st' := [(0, 1)]) rfl ?_
      exact rn_iretb rfl rfl rfl (Or.inr rfl) h rfl
    · refine rn_sls 5 (pc' := 20) (ls' := [(0, (2, 1000)), (1, (0, v1)), (2, (0, v2)), (3, (0, v3))]) (st' := [(0, v3), (0, v2), (0, 2), (0, v1), (2, 1000)]) rfl ?_
      refine rn_call 0 0 [(2, 1000), (0, v1), (0, 2), (0, v2), (0, v3)] (r := []) rfl ⟨rfl, Or.inl ⟨_, rfl, by decide⟩⟩ (by decide) (fun _ => ⟨_, rfl, rfl⟩) rfl rfl (Nat.le_of_ble_eq_true rfl) h (fun w hw => t_M_finds (d + 0) _ _ _ _ _ _ hw) (fun a4 μ5 h => ?_)
      refine rn_sls 0 (pc' := 23) (ls' := [(0, (2, 1000)), (1, (0, v1)), (2, (0, v2)), (3, (0, v3))]) (st' := [(0, a4)]) rfl ?_
      exact rn_iretB rfl rfl rfl h rfl
set_option maxRecDepth 20000 in
theorem t_M_hasE (d : Nat) : ∀ (v1 : Int) (μ : am_M) q, M_hasE v1 μ = some q → am_ar g_mt (d + 1) 182 [(2, 1000), (0, v1)] μ (am_res 0 q) := by
  intro v1 μ q h
  unfold M_hasE at h
  refine am_ar_of (d := d + 0) i_M_hasE rfl rfl (Nat.le_of_ble_eq_true rfl) ?_
  show am_run none (am_ar g_mt (d + 0)) 2 (some .boolean) k_M_hasE 0 [(0, (2, 1000)), (1, (0, v1))] [] μ (am_res 0 q)
  refine rn_sls 3 (pc' := 5) (ls' := [(0, (2, 1000)), (1, (0, v1))]) (st' := [(0, v1), (2, 1002)]) rfl ?_
  refine rn_iald (n := 120) rfl rfl rfl h (fun a1 h => ?_)
  refine rn_sls 1 (pc' := 7) (ls' := [(0, (2, 1000)), (1, (0, v1))]) (st' := [(0, 1), (0, a1)]) rfl ?_
  refine rn_icmp (t := 31) rfl rfl rfl rfl h (fun h => ?_) (fun h => ?_)
  · refine rn_sls 1 (pc' := 32) (ls' := [(0, (2, 1000)), (1, (0, v1))]) (st' := [(0, 1)]) rfl ?_
    refine rn_goto (t := 36) rfl rfl rfl ?_
    exact rn_iretb rfl rfl rfl (Or.inr rfl) h rfl
  · refine rn_sls 3 (pc' := 15) (ls' := [(0, (2, 1000)), (1, (0, v1))]) (st' := [(0, v1), (2, 1002)]) rfl ?_
    refine rn_iald (n := 120) rfl rfl rfl h (fun a2 h => ?_)
    refine rn_sls 1 (pc' := 17) (ls' := [(0, (2, 1000)), (1, (0, v1))]) (st' := [(0, 5), (0, a2)]) rfl ?_
    refine rn_icmp (t := 31) rfl rfl rfl rfl h (fun h => ?_) (fun h => ?_)
    · refine rn_sls 1 (pc' := 32) (ls' := [(0, (2, 1000)), (1, (0, v1))]) (st' := [(0, 1)]) rfl ?_
      refine rn_goto (t := 36) rfl rfl rfl ?_
      exact rn_iretb rfl rfl rfl (Or.inr rfl) h rfl
    · refine rn_sls 3 (pc' := 25) (ls' := [(0, (2, 1000)), (1, (0, v1))]) (st' := [(0, v1), (2, 1002)]) rfl ?_
      refine rn_iald (n := 120) rfl rfl rfl h (fun a3 h => ?_)
      refine rn_sls 1 (pc' := 28) (ls' := [(0, (2, 1000)), (1, (0, v1))]) (st' := [(0, 8), (0, a3)]) rfl ?_
      refine rn_icmpn (t := 35) rfl rfl rfl rfl h (fun h => ?_) (fun h => ?_)
      · refine rn_sls 1 (pc' := 32) (ls' := [(0, (2, 1000)), (1, (0, v1))]) (st' := [(0, 1)]) rfl ?_
        refine rn_goto (t := 36) rfl rfl rfl ?_
        exact rn_iretb rfl rfl rfl (Or.inr rfl) h rfl
      · refine rn_sls 1 (pc' := 36) (ls' := [(0, (2, 1000)), (1, (0, v1))]) (st' := [(0, 0)]) rfl ?_
        exact rn_iretb rfl rfl rfl (Or.inl rfl) h rfl
set_option maxRecDepth 20000 in
theorem t_M_burns (d : Nat) : ∀ (v1 : Int) (v2 : Int) (v3 : Int) (μ : am_M) q, M_burns v1 v2 v3 μ = some q → am_ar g_mt (d + 2) 188 [(2, 1000), (0, v1), (0, v2), (0, v3)] μ (am_res 0 q) := by
  intro v1 v2 v3 μ q h
  unfold M_burns at h
  refine am_ar_of (d := d + 1) i_M_burns rfl rfl (Nat.le_of_ble_eq_true rfl) ?_
  show am_run none (am_ar g_mt (d + 1)) 4 (some .boolean) k_M_burns 0 [(0, (2, 1000)), (1, (0, v1)), (2, (0, v2)), (3, (0, v3))] [] μ (am_res 0 q)
  refine rn_sls 3 (pc' := 5) (ls' := [(0, (2, 1000)), (1, (0, v1)), (2, (0, v2)), (3, (0, v3))]) (st' := [(0, v3), (2, 1036)]) rfl ?_
  refine rn_iald (n := 10) rfl rfl rfl h (fun a1 h => ?_)
  refine rn_ifn (t := 18) rfl rfl rfl rfl h (fun h => ?_) (fun h => ?_)
  · refine rn_sls 5 (pc' := 14) (ls' := [(0, (2, 1000)), (1, (0, v1)), (2, (0, v2)), (3, (0, v3))]) (st' := [(0, v3), (0, v2), (0, 1), (0, v1), (2, 1000)]) rfl ?_
    refine rn_call 0 0 [(2, 1000), (0, v1), (0, 1), (0, v2), (0, v3)] (r := []) rfl ⟨rfl, Or.inl ⟨_, rfl, by decide⟩⟩ (by decide) (fun _ => ⟨_, rfl, rfl⟩) rfl rfl (Nat.le_of_ble_eq_true rfl) h (fun w hw => t_M_finds (d + 0) _ _ _ _ _ _ hw) (fun a3 μ4 h => ?_)
    refine rn_sls 0 (pc' := 17) (ls' := [(0, (2, 1000)), (1, (0, v1)), (2, (0, v2)), (3, (0, v3))]) (st' := [(0, a3)]) rfl ?_
    exact rn_iretB rfl rfl rfl h rfl
  · refine rn_sls 4 (pc' := 24) (ls' := [(0, (2, 1000)), (1, (0, v1)), (2, (0, v2)), (3, (0, v3))]) (st' := [(0, 0), (0, v3), (2, 1036)]) rfl ?_
    refine rn_iast (n := 10) rfl rfl rfl h (fun μ2 h => ?_)
    refine rn_sls 1 (pc' := 26) (ls' := [(0, (2, 1000)), (1, (0, v1)), (2, (0, v2)), (3, (0, v3))]) (st' := [(0, 1)]) rfl ?_
    exact rn_iretb rfl rfl rfl (Or.inr rfl) h rfl
set_option maxRecDepth 20000 in
theorem t_M_burnsAll_B59 (d : Nat) (k7 : Int → Int → Int → am_M → am_O) (hk7 : ∀ (v1 : Int) (v2 : Int) (v3 : Int) (μ : am_M) q, k7 v1 v2 v3 μ = some q → am_run none (am_ar g_mt (d + 2)) 4 (some .boolean) k_M_burnsAll 7 [(0, (2, 1000)), (1, (0, v1)), (2, (0, v2)), (3, (0, v3))] [] μ (am_res 0 q)) : ∀ (v1 : Int) (v2 : Int) (v3 : Int) (μ : am_M) q, M_burnsAll_B59 k7 v1 v2 v3 μ = some q → am_run none (am_ar g_mt (d + 2)) 4 (some .boolean) k_M_burnsAll 59 [(0, (2, 1000)), (1, (0, v1)), (2, (0, v2)), (3, (0, v3))] [] μ (am_res 0 q) := by
  intro v1 v2 v3 μ q h
  unfold M_burnsAll_B59 at h
  refine rn_sls 1 (pc' := 62) (ls' := [(3, (0, (w32 (v3 + 1)))), (0, (2, 1000)), (1, (0, v1)), (2, (0, v2))]) (st' := []) rfl ?_
  refine rn_goto (t := 7) rfl rfl rfl ?_
  exact rn_sub [1, 2, 3, 0] rfl (hk7 _ _ _ _ _ h)
set_option maxRecDepth 20000 in
theorem t_M_burnsAll_B106 (d : Nat) (k67 : Int → Int → Int → am_M → am_O) (hk67 : ∀ (v1 : Int) (v2 : Int) (v3 : Int) (μ : am_M) q, k67 v1 v2 v3 μ = some q → am_run none (am_ar g_mt (d + 2)) 4 (some .boolean) k_M_burnsAll 67 [(0, (2, 1000)), (1, (0, v1)), (2, (0, v2)), (3, (0, v3))] [] μ (am_res 0 q)) : ∀ (v1 : Int) (v2 : Int) (v3 : Int) (μ : am_M) q, M_burnsAll_B106 k67 v1 v2 v3 μ = some q → am_run none (am_ar g_mt (d + 2)) 4 (some .boolean) k_M_burnsAll 106 [(0, (2, 1000)), (1, (0, v1)), (2, (0, v2)), (3, (0, v3))] [] μ (am_res 0 q) := by
  intro v1 v2 v3 μ q h
  unfold M_burnsAll_B106 at h
  refine rn_sls 1 (pc' := 109) (ls' := [(3, (0, (w32 (v3 + 1)))), (0, (2, 1000)), (1, (0, v1)), (2, (0, v2))]) (st' := []) rfl ?_
  refine rn_goto (t := 67) rfl rfl rfl ?_
  exact rn_sub [1, 2, 3, 0] rfl (hk67 _ _ _ _ _ h)
set_option maxRecDepth 20000 in
theorem t_M_burnsAll_L67_b (d : Nat) (k67 : Int → Int → Int → am_M → am_O) (hk67 : ∀ (v1 : Int) (v2 : Int) (v3 : Int) (μ : am_M) q, k67 v1 v2 v3 μ = some q → am_run none (am_ar g_mt (d + 2)) 4 (some .boolean) k_M_burnsAll 67 [(0, (2, 1000)), (1, (0, v1)), (2, (0, v2)), (3, (0, v3))] [] μ (am_res 0 q)) : ∀ (v1 : Int) (v2 : Int) (v3 : Int) (μ : am_M) q, M_burnsAll_L67_b k67 v1 v2 v3 μ = some q → am_run none (am_ar g_mt (d + 2)) 4 (some .boolean) k_M_burnsAll 67 [(0, (2, 1000)), (1, (0, v1)), (2, (0, v2)), (3, (0, v3))] [] μ (am_res 0 q) := by
  intro v1 v2 v3 μ q h
  unfold M_burnsAll_L67_b at h
  refine rn_sls 2 (pc' := 69) (ls' := [(0, (2, 1000)), (1, (0, v1)), (2, (0, v2)), (3, (0, v3))]) (st' := [(0, 4), (0, v3)]) rfl ?_
  refine rn_icmpn (t := 112) rfl rfl rfl rfl h (fun h => ?_) (fun h => ?_)
  · refine rn_sls 7 (pc' := 81) (ls' := [(0, (2, 1000)), (1, (0, v1)), (2, (0, v2)), (3, (0, v3))]) (st' := [(0, (w32 ((w32 (4 * v2)) + v3))), (2, 1007)]) rfl ?_
    refine rn_iald (n := 480) rfl rfl rfl h (fun a1 h => ?_)
    refine rn_if (t := 106) rfl rfl rfl rfl h (fun h => ?_) (fun h => ?_)
    · exact rn_sub [0, 1, 2, 3] rfl (t_M_burnsAll_B106 d k67 hk67 _ _ _ _ _ h)
    · refine rn_sls 10 (pc' := 97) (ls' := [(0, (2, 1000)), (1, (0, v1)), (2, (0, v2)), (3, (0, v3))]) (st' := [(0, (w32 ((w32 (4 * v2)) + v3))), (2, 1007), (0, v2), (0, v1), (2, 1000)]) rfl ?_
      refine rn_iald (n := 480) rfl rfl rfl h (fun a2 h => ?_)
      refine rn_call 0 0 [(2, 1000), (0, v1), (0, v2), (0, a2)] (r := []) rfl ⟨rfl, Or.inl ⟨_, rfl, by decide⟩⟩ (by decide) (fun _ => ⟨_, rfl, rfl⟩) rfl rfl (Nat.le_of_ble_eq_true rfl) h (fun w hw => t_M_burns (d + 0) _ _ _ _ _ hw) (fun a3 μ4 h => ?_)
      refine rn_sls 0 (pc' := 101) (ls' := [(0, (2, 1000)), (1, (0, v1)), (2, (0, v2)), (3, (0, v3))]) (st' := [(0, a3)]) rfl ?_
      refine rn_ifn (t := 106) rfl rfl rfl rfl h (fun h => ?_) (fun h => ?_)
      · refine rn_sls 1 (pc' := 105) (ls' := [(0, (2, 1000)), (1, (0, v1)), (2, (0, v2)), (3, (0, v3))]) (st' := [(0, 0)]) rfl ?_
        exact rn_iretb rfl rfl rfl (Or.inl rfl) h rfl
      · exact rn_sub [0, 1, 2, 3] rfl (t_M_burnsAll_B106 d k67 hk67 _ _ _ _ _ h)
  · refine rn_sls 1 (pc' := 113) (ls' := [(0, (2, 1000)), (1, (0, v1)), (2, (0, v2)), (3, (0, v3))]) (st' := [(0, 1)]) rfl ?_
    exact rn_iretb rfl rfl rfl (Or.inr rfl) h rfl
set_option maxRecDepth 20000 in
theorem t_M_burnsAll_L67 (d : Nat) : ∀ (n : Nat) (v1 : Int) (v2 : Int) (v3 : Int) (μ : am_M) q, M_burnsAll_L67 n v1 v2 v3 μ = some q → am_run none (am_ar g_mt (d + 2)) 4 (some .boolean) k_M_burnsAll 67 [(0, (2, 1000)), (1, (0, v1)), (2, (0, v2)), (3, (0, v3))] [] μ (am_res 0 q) := by
  intro n
  induction n with
  | zero => intro v1 v2 v3 μ q h; cases h
  | succ n ih => intro v1 v2 v3 μ q h; exact t_M_burnsAll_L67_b d (M_burnsAll_L67 n) ih v1 v2 v3 μ q h
set_option maxRecDepth 20000 in
theorem t_M_burnsAll_B65 (d : Nat) : ∀ (v1 : Int) (v2 : Int) (μ : am_M) q, M_burnsAll_B65 v1 v2 μ = some q → am_run none (am_ar g_mt (d + 2)) 4 (some .boolean) k_M_burnsAll 65 [(0, (2, 1000)), (1, (0, v1)), (2, (0, v2))] [] μ (am_res 0 q) := by
  intro v1 v2 μ q h
  unfold M_burnsAll_B65 at h
  refine rn_sls 2 (pc' := 67) (ls' := [(3, (0, 0)), (0, (2, 1000)), (1, (0, v1)), (2, (0, v2))]) (st' := []) rfl ?_
  exact rn_sub [1, 2, 3, 0] rfl (t_M_burnsAll_L67 d  am_FU _ _ _ _ _ h)
set_option maxRecDepth 20000 in
theorem t_M_burnsAll_L7_b (d : Nat) (k7 : Int → Int → Int → am_M → am_O) (hk7 : ∀ (v1 : Int) (v2 : Int) (v3 : Int) (μ : am_M) q, k7 v1 v2 v3 μ = some q → am_run none (am_ar g_mt (d + 2)) 4 (some .boolean) k_M_burnsAll 7 [(0, (2, 1000)), (1, (0, v1)), (2, (0, v2)), (3, (0, v3))] [] μ (am_res 0 q)) : ∀ (v1 : Int) (v2 : Int) (v3 : Int) (μ : am_M) q, M_burnsAll_L7_b k7 v1 v2 v3 μ = some q → am_run none (am_ar g_mt (d + 2)) 4 (some .boolean) k_M_burnsAll 7 [(0, (2, 1000)), (1, (0, v1)), (2, (0, v2)), (3, (0, v3))] [] μ (am_res 0 q) := by
  intro v1 v2 v3 μ q h
  unfold M_burnsAll_L7_b at h
  refine rn_sls 4 (pc' := 13) (ls' := [(0, (2, 1000)), (1, (0, v1)), (2, (0, v2)), (3, (0, v3))]) (st' := [(0, v2), (2, 1011), (0, v3)]) rfl ?_
  refine rn_iald (n := 120) rfl rfl rfl h (fun a1 h => ?_)
  refine rn_icmpn (t := 65) rfl rfl rfl rfl h (fun h => ?_) (fun h => ?_)
  · refine rn_sls 2 (pc' := 19) (ls' := [(0, (2, 1000)), (1, (0, v1)), (2, (0, v2)), (3, (0, v3))]) (st' := [(0, v2), (2, 1000)]) rfl ?_
    refine rn_call 0 0 [(2, 1000), (0, v2)] (r := []) rfl ⟨rfl, Or.inl ⟨_, rfl, by decide⟩⟩ (by decide) (fun _ => ⟨_, rfl, rfl⟩) rfl rfl (Nat.le_of_ble_eq_true rfl) h (fun w hw => t_M_hasE (d + 1) _ _ _ hw) (fun a2 μ3 h => ?_)
    refine rn_sls 0 (pc' := 22) (ls' := [(0, (2, 1000)), (1, (0, v1)), (2, (0, v2)), (3, (0, v3))]) (st' := [(0, a2)]) rfl ?_
    refine rn_if (t := 65) rfl rfl rfl rfl h (fun h => ?_) (fun h => ?_)
    · exact rn_sub [0, 1, 2] rfl (t_M_burnsAll_B65 d  _ _ _ _ h)
    · refine rn_sls 3 (pc' := 30) (ls' := [(0, (2, 1000)), (1, (0, v1)), (2, (0, v2)), (3, (0, v3))]) (st' := [(0, v3), (2, 1012)]) rfl ?_
      refine rn_iald (n := 2000) rfl rfl rfl h (fun a4 h => ?_)
      refine rn_sls 2 (pc' := 34) (ls' := [(0, (2, 1000)), (1, (0, v1)), (2, (0, v2)), (3, (0, v3))]) (st' := [(0, 10), (0, 1), (0, a4)]) rfl ?_
      refine rn_call 2 0 [(0, a4), (0, 1), (0, 10)] (r := []) rfl ⟨rfl, Or.inr ⟨_, rfl, by decide⟩⟩ (by decide) (fun z => absurd z (by decide)) rfl rfl (Nat.le_of_ble_eq_true rfl) h (fun w hw => t_M_within (d + 1) _ _ _ _ _ hw) (fun a5 μ6 h => ?_)
      refine rn_sls 0 (pc' := 37) (ls' := [(0, (2, 1000)), (1, (0, v1)), (2, (0, v2)), (3, (0, v3))]) (st' := [(0, a5)]) rfl ?_
      refine rn_if (t := 59) rfl rfl rfl rfl h (fun h => ?_) (fun h => ?_)
      · exact rn_sub [0, 1, 2, 3] rfl (t_M_burnsAll_B59 d k7 hk7 _ _ _ _ _ h)
      · refine rn_sls 6 (pc' := 48) (ls' := [(0, (2, 1000)), (1, (0, v1)), (2, (0, v2)), (3, (0, v3))]) (st' := [(0, v3), (2, 1012), (0, v2), (0, v1), (2, 1000)]) rfl ?_
        refine rn_iald (n := 2000) rfl rfl rfl h (fun a7 h => ?_)
        refine rn_sls 2 (pc' := 51) (ls' := [(0, (2, 1000)), (1, (0, v1)), (2, (0, v2)), (3, (0, v3))]) (st' := [(0, (w32 (a7 - 1))), (0, v2), (0, v1), (2, 1000)]) rfl ?_
        refine rn_call 0 0 [(2, 1000), (0, v1), (0, v2), (0, (w32 (a7 - 1)))] (r := []) rfl ⟨rfl, Or.inl ⟨_, rfl, by decide⟩⟩ (by decide) (fun _ => ⟨_, rfl, rfl⟩) rfl rfl (Nat.le_of_ble_eq_true rfl) h (fun w hw => t_M_burns (d + 0) _ _ _ _ _ hw) (fun a8 μ9 h => ?_)
        refine rn_sls 0 (pc' := 54) (ls' := [(0, (2, 1000)), (1, (0, v1)), (2, (0, v2)), (3, (0, v3))]) (st' := [(0, a8)]) rfl ?_
        refine rn_ifn (t := 59) rfl rfl rfl rfl h (fun h => ?_) (fun h => ?_)
        · refine rn_sls 1 (pc' := 58) (ls' := [(0, (2, 1000)), (1, (0, v1)), (2, (0, v2)), (3, (0, v3))]) (st' := [(0, 0)]) rfl ?_
          exact rn_iretb rfl rfl rfl (Or.inl rfl) h rfl
        · exact rn_sub [0, 1, 2, 3] rfl (t_M_burnsAll_B59 d k7 hk7 _ _ _ _ _ h)
  · exact rn_sub [0, 1, 2] rfl (t_M_burnsAll_B65 d  _ _ _ _ h)
set_option maxRecDepth 20000 in
theorem t_M_burnsAll_L7 (d : Nat) : ∀ (n : Nat) (v1 : Int) (v2 : Int) (v3 : Int) (μ : am_M) q, M_burnsAll_L7 n v1 v2 v3 μ = some q → am_run none (am_ar g_mt (d + 2)) 4 (some .boolean) k_M_burnsAll 7 [(0, (2, 1000)), (1, (0, v1)), (2, (0, v2)), (3, (0, v3))] [] μ (am_res 0 q) := by
  intro n
  induction n with
  | zero => intro v1 v2 v3 μ q h; cases h
  | succ n ih => intro v1 v2 v3 μ q h; exact t_M_burnsAll_L7_b d (M_burnsAll_L7 n) ih v1 v2 v3 μ q h
set_option maxRecDepth 20000 in
theorem t_M_burnsAll (d : Nat) : ∀ (v1 : Int) (v2 : Int) (μ : am_M) q, M_burnsAll v1 v2 μ = some q → am_ar g_mt (d + 3) 190 [(2, 1000), (0, v1), (0, v2)] μ (am_res 0 q) := by
  intro v1 v2 μ q h
  unfold M_burnsAll at h
  refine am_ar_of (d := d + 2) i_M_burnsAll rfl rfl (Nat.le_of_ble_eq_true rfl) ?_
  show am_run none (am_ar g_mt (d + 2)) 4 (some .boolean) k_M_burnsAll 0 [(0, (2, 1000)), (1, (0, v1)), (2, (0, v2))] [] μ (am_res 0 q)
  refine rn_sls 3 (pc' := 5) (ls' := [(0, (2, 1000)), (1, (0, v1)), (2, (0, v2))]) (st' := [(0, v2), (2, 1010)]) rfl ?_
  refine rn_iald (n := 120) rfl rfl rfl h (fun a1 h => ?_)
  refine rn_sls 1 (pc' := 7) (ls' := [(3, (0, a1)), (0, (2, 1000)), (1, (0, v1)), (2, (0, v2))]) (st' := []) rfl ?_
  exact rn_sub [1, 2, 3, 0] rfl (t_M_burnsAll_L7 d  am_FU _ _ _ _ _ h)
set_option maxRecDepth 20000 in
theorem t_M_joins_B112 (d : Nat) (k10 : Int → Int → Int → Int → am_M → am_O) (hk10 : ∀ (v1 : Int) (v2 : Int) (v3 : Int) (v4 : Int) (μ : am_M) q, k10 v1 v2 v3 v4 μ = some q → am_run none (am_ar g_mt (d + 1)) 7 (some .boolean) k_M_joins 10 [(0, (2, 1000)), (1, (0, v1)), (2, (0, v2)), (3, (0, v3)), (4, (0, v4))] [] μ (am_res 0 q)) : ∀ (v1 : Int) (v2 : Int) (v3 : Int) (v4 : Int) (μ : am_M) q, M_joins_B112 k10 v1 v2 v3 v4 μ = some q → am_run none (am_ar g_mt (d + 1)) 7 (some .boolean) k_M_joins 112 [(0, (2, 1000)), (1, (0, v1)), (2, (0, v2)), (3, (0, v3)), (4, (0, v4))] [] μ (am_res 0 q) := by
  intro v1 v2 v3 v4 μ q h
  unfold M_joins_B112 at h
  refine rn_sls 1 (pc' := 115) (ls' := [(4, (0, (w32 (v4 + 1)))), (0, (2, 1000)), (1, (0, v1)), (2, (0, v2)), (3, (0, v3))]) (st' := []) rfl ?_
  refine rn_goto (t := 10) rfl rfl rfl ?_
  exact rn_sub [1, 2, 3, 4, 0] rfl (hk10 _ _ _ _ _ _ h)
set_option maxRecDepth 20000 in
theorem t_M_joins_B67 (d : Nat) (k10 : Int → Int → Int → Int → am_M → am_O) (hk10 : ∀ (v1 : Int) (v2 : Int) (v3 : Int) (v4 : Int) (μ : am_M) q, k10 v1 v2 v3 v4 μ = some q → am_run none (am_ar g_mt (d + 1)) 7 (some .boolean) k_M_joins 10 [(0, (2, 1000)), (1, (0, v1)), (2, (0, v2)), (3, (0, v3)), (4, (0, v4))] [] μ (am_res 0 q)) : ∀ (v1 : Int) (v2 : Int) (v3 : Int) (v4 : Int) (s1 : Int) (s2 : Int) (s3 : Int) (μ : am_M) q, M_joins_B67 k10 v1 v2 v3 v4 s1 s2 s3 μ = some q → am_run none (am_ar g_mt (d + 1)) 7 (some .boolean) k_M_joins 67 [(0, (2, 1000)), (1, (0, v1)), (2, (0, v2)), (3, (0, v3)), (4, (0, v4))] [(0, s3), (0, s2), (0, s1), (2, 1042)] μ (am_res 0 q) := by
  intro v1 v2 v3 v4 s1 s2 s3 μ q h
  unfold M_joins_B67 at h
  refine rn_sls 1 (pc' := 68) (ls' := [(0, (2, 1000)), (1, (0, v1)), (2, (0, v2)), (3, (0, v3)), (4, (0, v4))]) (st' := [(0, (aOr s2 s3)), (0, s1), (2, 1042)]) rfl ?_
  refine rn_iast (n := 60) rfl rfl rfl h (fun μ1 h => ?_)
  refine rn_goto (t := 112) rfl rfl rfl ?_
  exact rn_sub [0, 1, 2, 3, 4] rfl (t_M_joins_B112 d k10 hk10 _ _ _ _ _ _ h)
set_option maxRecDepth 20000 in
theorem t_M_joins_B94 (d : Nat) : ∀ (v1 : Int) (v2 : Int) (v4 : Int) (μ : am_M) q, M_joins_B94 v1 v2 v4 μ = some q → am_run none (am_ar g_mt (d + 1)) 7 (some .boolean) k_M_joins 94 [(0, (2, 1000)), (1, (0, v1)), (2, (0, v2)), (4, (0, v4))] [] μ (am_res 0 q) := by
  intro v1 v2 v4 μ q h
  unfold M_joins_B94 at h
  refine rn_sls 5 (pc' := 100) (ls' := [(0, (2, 1000)), (1, (0, v1)), (2, (0, v2)), (4, (0, v4))]) (st' := [(0, v4), (0, v2), (0, 3), (0, v1), (2, 1000)]) rfl ?_
  refine rn_call 0 0 [(2, 1000), (0, v1), (0, 3), (0, v2), (0, v4)] (r := []) rfl ⟨rfl, Or.inl ⟨_, rfl, by decide⟩⟩ (by decide) (fun _ => ⟨_, rfl, rfl⟩) rfl rfl (Nat.le_of_ble_eq_true rfl) h (fun w hw => t_M_finds (d + 0) _ _ _ _ _ _ hw) (fun a1 μ2 h => ?_)
  refine rn_sls 0 (pc' := 103) (ls' := [(0, (2, 1000)), (1, (0, v1)), (2, (0, v2)), (4, (0, v4))]) (st' := [(0, a1)]) rfl ?_
  exact rn_iretB rfl rfl rfl h rfl
set_option maxRecDepth 20000 in
theorem t_M_joins_B82 (d : Nat) (k10 : Int → Int → Int → Int → am_M → am_O) (hk10 : ∀ (v1 : Int) (v2 : Int) (v3 : Int) (v4 : Int) (μ : am_M) q, k10 v1 v2 v3 v4 μ = some q → am_run none (am_ar g_mt (d + 1)) 7 (some .boolean) k_M_joins 10 [(0, (2, 1000)), (1, (0, v1)), (2, (0, v2)), (3, (0, v3)), (4, (0, v4))] [] μ (am_res 0 q)) : ∀ (v1 : Int) (v2 : Int) (v3 : Int) (v4 : Int) (v5 : Int) (v6 : Int) (μ : am_M) q, M_joins_B82 k10 v1 v2 v3 v4 v5 v6 μ = some q → am_run none (am_ar g_mt (d + 1)) 7 (some .boolean) k_M_joins 82 [(0, (2, 1000)), (1, (0, v1)), (2, (0, v2)), (3, (0, v3)), (4, (0, v4)), (5, (0, v5)), (6, (0, v6))] [] μ (am_res 0 q) := by
  intro v1 v2 v3 v4 v5 v6 μ q h
  unfold M_joins_B82 at h
  refine rn_sls 2 (pc' := 85) (ls' := [(0, (2, 1000)), (1, (0, v1)), (2, (0, v2)), (3, (0, v3)), (4, (0, v4)), (5, (0, v5)), (6, (0, v6))]) (st' := [(0, 1), (0, v5)]) rfl ?_
  refine rn_icmp (t := 94) rfl rfl rfl rfl h (fun h => ?_) (fun h => ?_)
  · exact rn_sub [0, 1, 2, 4] rfl (t_M_joins_B94 d  _ _ _ _ _ h)
  · refine rn_sls 2 (pc' := 91) (ls' := [(0, (2, 1000)), (1, (0, v1)), (2, (0, v2)), (3, (0, v3)), (4, (0, v4)), (5, (0, v5)), (6, (0, v6))]) (st' := [(0, 1), (0, v6)]) rfl ?_
    refine rn_icmpn (t := 104) rfl rfl rfl rfl h (fun h => ?_) (fun h => ?_)
    · exact rn_sub [0, 1, 2, 4] rfl (t_M_joins_B94 d  _ _ _ _ _ h)
    · refine rn_sls 4 (pc' := 111) (ls' := [(0, (2, 1000)), (1, (0, v1)), (2, (0, v2)), (3, (0, v3)), (4, (0, v4)), (5, (0, v5)), (6, (0, v6))]) (st' := [(0, 0), (0, v4), (2, 1036)]) rfl ?_
      refine rn_iast (n := 10) rfl rfl rfl h (fun μ1 h => ?_)
      exact rn_sub [0, 1, 2, 3, 4] rfl (t_M_joins_B112 d k10 hk10 _ _ _ _ _ _ h)
set_option maxRecDepth 20000 in
theorem t_M_joins_L10_b (d : Nat) (k10 : Int → Int → Int → Int → am_M → am_O) (hk10 : ∀ (v1 : Int) (v2 : Int) (v3 : Int) (v4 : Int) (μ : am_M) q, k10 v1 v2 v3 v4 μ = some q → am_run none (am_ar g_mt (d + 1)) 7 (some .boolean) k_M_joins 10 [(0, (2, 1000)), (1, (0, v1)), (2, (0, v2)), (3, (0, v3)), (4, (0, v4))] [] μ (am_res 0 q)) : ∀ (v1 : Int) (v2 : Int) (v3 : Int) (v4 : Int) (μ : am_M) q, M_joins_L10_b k10 v1 v2 v3 v4 μ = some q → am_run none (am_ar g_mt (d + 1)) 7 (some .boolean) k_M_joins 10 [(0, (2, 1000)), (1, (0, v1)), (2, (0, v2)), (3, (0, v3)), (4, (0, v4))] [] μ (am_res 0 q) := by
  intro v1 v2 v3 v4 μ q h
  unfold M_joins_L10_b at h
  refine rn_sls 2 (pc' := 14) (ls' := [(0, (2, 1000)), (1, (0, v1)), (2, (0, v2)), (3, (0, v3)), (4, (0, v4))]) (st' := [(0, 10), (0, v4)]) rfl ?_
  refine rn_icmpn (t := 118) rfl rfl rfl rfl h (fun h => ?_) (fun h => ?_)
  · refine rn_sls 7 (pc' := 28) (ls' := [(0, (2, 1000)), (1, (0, v1)), (2, (0, v2)), (3, (0, v3)), (4, (0, v4))]) (st' := [(0, (w32 ((w32 (10 * v3)) + v4))), (2, 1038)]) rfl ?_
    refine rn_iald (n := 30) rfl rfl rfl h (fun a1 h => ?_)
    refine rn_sls 4 (pc' := 37) (ls' := [(5, (0, a1)), (0, (2, 1000)), (1, (0, v1)), (2, (0, v2)), (3, (0, v3)), (4, (0, v4))]) (st' := [(0, v4), (2, 1036)]) rfl ?_
    refine rn_iald (n := 10) rfl rfl rfl h (fun a2 h => ?_)
    refine rn_sls 3 (pc' := 44) (ls' := [(6, (0, a2)), (5, (0, a1)), (0, (2, 1000)), (1, (0, v1)), (2, (0, v2)), (3, (0, v3)), (4, (0, v4))]) (st' := [(0, a2), (0, a1)]) rfl ?_
    refine rn_icmpn (t := 72) rfl rfl rfl rfl h (fun h => ?_) (fun h => ?_)
    · refine rn_sls 4 (pc' := 53) (ls' := [(6, (0, a2)), (5, (0, a1)), (0, (2, 1000)), (1, (0, v1)), (2, (0, v2)), (3, (0, v3)), (4, (0, v4))]) (st' := [(0, v2), (2, 1042), (0, v2), (2, 1042)]) rfl ?_
      refine rn_iald (n := 60) rfl rfl rfl h (fun a3 h => ?_)
      refine rn_sls 1 (pc' := 56) (ls' := [(6, (0, a2)), (5, (0, a1)), (0, (2, 1000)), (1, (0, v1)), (2, (0, v2)), (3, (0, v3)), (4, (0, v4))]) (st' := [(0, a1), (0, a3), (0, v2), (2, 1042)]) rfl ?_
      refine rn_if (t := 66) rfl rfl rfl rfl h (fun h => ?_) (fun h => ?_)
      · refine rn_sls 1 (pc' := 67) (ls' := [(6, (0, a2)), (5, (0, a1)), (0, (2, 1000)), (1, (0, v1)), (2, (0, v2)), (3, (0, v3)), (4, (0, v4))]) (st' := [(0, 0), (0, a3), (0, v2), (2, 1042)]) rfl ?_
        exact rn_sub [2, 3, 4, 5, 6] rfl (t_M_joins_B67 d k10 hk10 _ _ _ _ _ _ _ _ _ h)
      · refine rn_sls 3 (pc' := 63) (ls' := [(6, (0, a2)), (5, (0, a1)), (0, (2, 1000)), (1, (0, v1)), (2, (0, v2)), (3, (0, v3)), (4, (0, v4))]) (st' := [(0, (aShl 1 v4)), (0, a3), (0, v2), (2, 1042)]) rfl ?_
        refine rn_goto (t := 67) rfl rfl rfl ?_
        exact rn_sub [2, 3, 4, 5, 6] rfl (t_M_joins_B67 d k10 hk10 _ _ _ _ _ _ _ _ _ h)
    · refine rn_sls 1 (pc' := 74) (ls' := [(6, (0, a2)), (5, (0, a1)), (0, (2, 1000)), (1, (0, v1)), (2, (0, v2)), (3, (0, v3)), (4, (0, v4))]) (st' := [(0, a1)]) rfl ?_
      refine rn_if (t := 82) rfl rfl rfl rfl h (fun h => ?_) (fun h => ?_)
      · exact rn_sub [2, 3, 4, 5, 6, 1, 0] rfl (t_M_joins_B82 d k10 hk10 _ _ _ _ _ _ _ _ h)
      · refine rn_sls 1 (pc' := 79) (ls' := [(6, (0, a2)), (5, (0, a1)), (0, (2, 1000)), (1, (0, v1)), (2, (0, v2)), (3, (0, v3)), (4, (0, v4))]) (st' := [(0, a2)]) rfl ?_
        refine rn_ifn (t := 94) rfl rfl rfl rfl h (fun h => ?_) (fun h => ?_)
        · exact rn_sub [2, 3, 4, 5, 6, 1, 0] rfl (t_M_joins_B82 d k10 hk10 _ _ _ _ _ _ _ _ h)
        · exact rn_sub [2, 3, 4, 6] rfl (t_M_joins_B94 d  _ _ _ _ _ h)
  · refine rn_sls 1 (pc' := 119) (ls' := [(0, (2, 1000)), (1, (0, v1)), (2, (0, v2)), (3, (0, v3)), (4, (0, v4))]) (st' := [(0, 1)]) rfl ?_
    exact rn_iretb rfl rfl rfl (Or.inr rfl) h rfl
set_option maxRecDepth 20000 in
theorem t_M_joins_L10 (d : Nat) : ∀ (n : Nat) (v1 : Int) (v2 : Int) (v3 : Int) (v4 : Int) (μ : am_M) q, M_joins_L10 n v1 v2 v3 v4 μ = some q → am_run none (am_ar g_mt (d + 1)) 7 (some .boolean) k_M_joins 10 [(0, (2, 1000)), (1, (0, v1)), (2, (0, v2)), (3, (0, v3)), (4, (0, v4))] [] μ (am_res 0 q) := by
  intro n
  induction n with
  | zero => intro v1 v2 v3 v4 μ q h; cases h
  | succ n ih => intro v1 v2 v3 v4 μ q h; exact t_M_joins_L10_b d (M_joins_L10 n) ih v1 v2 v3 v4 μ q h
set_option maxRecDepth 20000 in
theorem t_M_joins (d : Nat) : ∀ (v1 : Int) (v2 : Int) (v3 : Int) (μ : am_M) q, M_joins v1 v2 v3 μ = some q → am_ar g_mt (d + 2) 191 [(2, 1000), (0, v1), (0, v2), (0, v3)] μ (am_res 0 q) := by
  intro v1 v2 v3 μ q h
  unfold M_joins at h
  refine am_ar_of (d := d + 1) i_M_joins rfl rfl (Nat.le_of_ble_eq_true rfl) ?_
  show am_run none (am_ar g_mt (d + 1)) 7 (some .boolean) k_M_joins 0 [(0, (2, 1000)), (1, (0, v1)), (2, (0, v2)), (3, (0, v3))] [] μ (am_res 0 q)
  refine rn_sls 4 (pc' := 6) (ls' := [(0, (2, 1000)), (1, (0, v1)), (2, (0, v2)), (3, (0, v3))]) (st' := [(0, 0), (0, v2), (2, 1042)]) rfl ?_
  refine rn_iast (n := 60) rfl rfl rfl h (fun μ1 h => ?_)
  refine rn_sls 2 (pc' := 10) (ls' := [(4, (0, 0)), (0, (2, 1000)), (1, (0, v1)), (2, (0, v2)), (3, (0, v3))]) (st' := []) rfl ?_
  exact rn_sub [1, 2, 3, 4, 0] rfl (t_M_joins_L10 d  am_FU _ _ _ _ _ _ h)
set_option maxRecDepth 20000 in
theorem t_M_goesBy_B199 (d : Nat) (k65 : Int → Int → Int → Int → am_M → am_O) (hk65 : ∀ (v1 : Int) (v2 : Int) (v3 : Int) (v4 : Int) (μ : am_M) q, k65 v1 v2 v3 v4 μ = some q → am_run none (am_ar g_mt (d + 3)) 5 (some .boolean) k_M_goesBy 65 [(0, (2, 1000)), (1, (0, v1)), (2, (0, v2)), (3, (0, v3)), (4, (0, v4))] [] μ (am_res 0 q)) : ∀ (v1 : Int) (v2 : Int) (v3 : Int) (v4 : Int) (μ : am_M) q, M_goesBy_B199 k65 v1 v2 v3 v4 μ = some q → am_run none (am_ar g_mt (d + 3)) 5 (some .boolean) k_M_goesBy 199 [(0, (2, 1000)), (1, (0, v1)), (2, (0, v2)), (3, (0, v3)), (4, (0, v4))] [] μ (am_res 0 q) := by
  intro v1 v2 v3 v4 μ q h
  unfold M_goesBy_B199 at h
  refine rn_sls 1 (pc' := 202) (ls' := [(4, (0, (w32 (v4 + 1)))), (0, (2, 1000)), (1, (0, v1)), (2, (0, v2)), (3, (0, v3))]) (st' := []) rfl ?_
  refine rn_goto (t := 65) rfl rfl rfl ?_
  exact rn_sub [1, 2, 3, 4, 0] rfl (hk65 _ _ _ _ _ _ h)
set_option maxRecDepth 20000 in
theorem t_M_goesBy_B167 (d : Nat) (k65 : Int → Int → Int → Int → am_M → am_O) (hk65 : ∀ (v1 : Int) (v2 : Int) (v3 : Int) (v4 : Int) (μ : am_M) q, k65 v1 v2 v3 v4 μ = some q → am_run none (am_ar g_mt (d + 3)) 5 (some .boolean) k_M_goesBy 65 [(0, (2, 1000)), (1, (0, v1)), (2, (0, v2)), (3, (0, v3)), (4, (0, v4))] [] μ (am_res 0 q)) : ∀ (v1 : Int) (v2 : Int) (v3 : Int) (v4 : Int) (μ : am_M) q, M_goesBy_B167 k65 v1 v2 v3 v4 μ = some q → am_run none (am_ar g_mt (d + 3)) 5 (some .boolean) k_M_goesBy 167 [(0, (2, 1000)), (1, (0, v1)), (2, (0, v2)), (3, (0, v3)), (4, (0, v4))] [] μ (am_res 0 q) := by
  intro v1 v2 v3 v4 μ q h
  unfold M_goesBy_B167 at h
  refine rn_sls 3 (pc' := 172) (ls' := [(0, (2, 1000)), (1, (0, v1)), (2, (0, v2)), (3, (0, v3)), (4, (0, v4))]) (st' := [(0, v2), (2, 1002)]) rfl ?_
  refine rn_iald (n := 120) rfl rfl rfl h (fun a1 h => ?_)
  refine rn_sls 1 (pc' := 175) (ls' := [(0, (2, 1000)), (1, (0, v1)), (2, (0, v2)), (3, (0, v3)), (4, (0, v4))]) (st' := [(0, 8), (0, a1)]) rfl ?_
  refine rn_icmpn (t := 199) rfl rfl rfl rfl h (fun h => ?_) (fun h => ?_)
  · refine rn_sls 3 (pc' := 184) (ls' := [(0, (2, 1000)), (1, (0, v1)), (2, (0, v2)), (3, (0, v3)), (4, (0, v4))]) (st' := [(0, v4), (2, 1036)]) rfl ?_
    refine rn_iald (n := 10) rfl rfl rfl h (fun a2 h => ?_)
    refine rn_sls 1 (pc' := 186) (ls' := [(0, (2, 1000)), (1, (0, v1)), (2, (0, v2)), (3, (0, v3)), (4, (0, v4))]) (st' := [(0, 1), (0, a2)]) rfl ?_
    refine rn_icmpn (t := 199) rfl rfl rfl rfl h (fun h => ?_) (fun h => ?_)
    · refine rn_sls 5 (pc' := 195) (ls' := [(0, (2, 1000)), (1, (0, v1)), (2, (0, v2)), (3, (0, v3)), (4, (0, v4))]) (st' := [(0, v4), (0, v2), (0, 4), (0, v1), (2, 1000)]) rfl ?_
      refine rn_call 0 0 [(2, 1000), (0, v1), (0, 4), (0, v2), (0, v4)] (r := []) rfl ⟨rfl, Or.inl ⟨_, rfl, by decide⟩⟩ (by decide) (fun _ => ⟨_, rfl, rfl⟩) rfl rfl (Nat.le_of_ble_eq_true rfl) h (fun w hw => t_M_finds (d + 2) _ _ _ _ _ _ hw) (fun a3 μ4 h => ?_)
      refine rn_sls 0 (pc' := 198) (ls' := [(0, (2, 1000)), (1, (0, v1)), (2, (0, v2)), (3, (0, v3)), (4, (0, v4))]) (st' := [(0, a3)]) rfl ?_
      exact rn_iretB rfl rfl rfl h rfl
    · exact rn_sub [0, 1, 2, 3, 4] rfl (t_M_goesBy_B199 d k65 hk65 _ _ _ _ _ _ h)
  · exact rn_sub [0, 1, 2, 3, 4] rfl (t_M_goesBy_B199 d k65 hk65 _ _ _ _ _ _ h)
set_option maxRecDepth 20000 in
theorem t_M_goesBy_B134 (d : Nat) (k65 : Int → Int → Int → Int → am_M → am_O) (hk65 : ∀ (v1 : Int) (v2 : Int) (v3 : Int) (v4 : Int) (μ : am_M) q, k65 v1 v2 v3 v4 μ = some q → am_run none (am_ar g_mt (d + 3)) 5 (some .boolean) k_M_goesBy 65 [(0, (2, 1000)), (1, (0, v1)), (2, (0, v2)), (3, (0, v3)), (4, (0, v4))] [] μ (am_res 0 q)) : ∀ (v1 : Int) (v2 : Int) (v3 : Int) (v4 : Int) (μ : am_M) q, M_goesBy_B134 k65 v1 v2 v3 v4 μ = some q → am_run none (am_ar g_mt (d + 3)) 5 (some .boolean) k_M_goesBy 134 [(0, (2, 1000)), (1, (0, v1)), (2, (0, v2)), (3, (0, v3)), (4, (0, v4))] [] μ (am_res 0 q) := by
  intro v1 v2 v3 v4 μ q h
  unfold M_goesBy_B134 at h
  refine rn_sls 3 (pc' := 139) (ls' := [(0, (2, 1000)), (1, (0, v1)), (2, (0, v2)), (3, (0, v3)), (4, (0, v4))]) (st' := [(0, v2), (2, 1002)]) rfl ?_
  refine rn_iald (n := 120) rfl rfl rfl h (fun a1 h => ?_)
  refine rn_sls 1 (pc' := 142) (ls' := [(0, (2, 1000)), (1, (0, v1)), (2, (0, v2)), (3, (0, v3)), (4, (0, v4))]) (st' := [(0, 6), (0, a1)]) rfl ?_
  refine rn_icmpn (t := 167) rfl rfl rfl rfl h (fun h => ?_) (fun h => ?_)
  · refine rn_sls 12 (pc' := 165) (ls' := [(0, (2, 1000)), (1, (0, v1)), (2, (0, v2)), (3, (0, v3)), (4, (0, v4))]) (st' := [(0, (w32 ((w32 ((w32 (10 * v3)) - 10)) + v4))), (2, 1037), (0, v4), (2, 1036)]) rfl ?_
    refine rn_iald (n := 30) rfl rfl rfl h (fun a2 h => ?_)
    refine rn_iast (n := 10) rfl rfl rfl h (fun μ3 h => ?_)
    exact rn_sub [0, 1, 2, 3, 4] rfl (t_M_goesBy_B167 d k65 hk65 _ _ _ _ _ _ h)
  · exact rn_sub [0, 1, 2, 3, 4] rfl (t_M_goesBy_B167 d k65 hk65 _ _ _ _ _ _ h)
set_option maxRecDepth 20000 in
theorem t_M_goesBy_B101 (d : Nat) (k65 : Int → Int → Int → Int → am_M → am_O) (hk65 : ∀ (v1 : Int) (v2 : Int) (v3 : Int) (v4 : Int) (μ : am_M) q, k65 v1 v2 v3 v4 μ = some q → am_run none (am_ar g_mt (d + 3)) 5 (some .boolean) k_M_goesBy 65 [(0, (2, 1000)), (1, (0, v1)), (2, (0, v2)), (3, (0, v3)), (4, (0, v4))] [] μ (am_res 0 q)) : ∀ (v1 : Int) (v2 : Int) (v3 : Int) (v4 : Int) (μ : am_M) q, M_goesBy_B101 k65 v1 v2 v3 v4 μ = some q → am_run none (am_ar g_mt (d + 3)) 5 (some .boolean) k_M_goesBy 101 [(0, (2, 1000)), (1, (0, v1)), (2, (0, v2)), (3, (0, v3)), (4, (0, v4))] [] μ (am_res 0 q) := by
  intro v1 v2 v3 v4 μ q h
  unfold M_goesBy_B101 at h
  refine rn_sls 3 (pc' := 106) (ls' := [(0, (2, 1000)), (1, (0, v1)), (2, (0, v2)), (3, (0, v3)), (4, (0, v4))]) (st' := [(0, v2), (2, 1002)]) rfl ?_
  refine rn_iald (n := 120) rfl rfl rfl h (fun a1 h => ?_)
  refine rn_sls 1 (pc' := 109) (ls' := [(0, (2, 1000)), (1, (0, v1)), (2, (0, v2)), (3, (0, v3)), (4, (0, v4))]) (st' := [(0, 6), (0, a1)]) rfl ?_
  refine rn_icmpn (t := 134) rfl rfl rfl rfl h (fun h => ?_) (fun h => ?_)
  · refine rn_sls 12 (pc' := 132) (ls' := [(0, (2, 1000)), (1, (0, v1)), (2, (0, v2)), (3, (0, v3)), (4, (0, v4))]) (st' := [(0, v4), (2, 1036), (0, (w32 ((w32 ((w32 (10 * v3)) - 10)) + v4))), (2, 1038)]) rfl ?_
    refine rn_iald (n := 10) rfl rfl rfl h (fun a2 h => ?_)
    refine rn_iast (n := 30) rfl rfl rfl h (fun μ3 h => ?_)
    exact rn_sub [0, 1, 2, 3, 4] rfl (t_M_goesBy_B134 d k65 hk65 _ _ _ _ _ _ h)
  · exact rn_sub [0, 1, 2, 3, 4] rfl (t_M_goesBy_B134 d k65 hk65 _ _ _ _ _ _ h)
set_option maxRecDepth 20000 in
theorem t_M_goesBy_L65_b (d : Nat) (k65 : Int → Int → Int → Int → am_M → am_O) (hk65 : ∀ (v1 : Int) (v2 : Int) (v3 : Int) (v4 : Int) (μ : am_M) q, k65 v1 v2 v3 v4 μ = some q → am_run none (am_ar g_mt (d + 3)) 5 (some .boolean) k_M_goesBy 65 [(0, (2, 1000)), (1, (0, v1)), (2, (0, v2)), (3, (0, v3)), (4, (0, v4))] [] μ (am_res 0 q)) : ∀ (v1 : Int) (v2 : Int) (v3 : Int) (v4 : Int) (μ : am_M) q, M_goesBy_L65_b k65 v1 v2 v3 v4 μ = some q → am_run none (am_ar g_mt (d + 3)) 5 (some .boolean) k_M_goesBy 65 [(0, (2, 1000)), (1, (0, v1)), (2, (0, v2)), (3, (0, v3)), (4, (0, v4))] [] μ (am_res 0 q) := by
  intro v1 v2 v3 v4 μ q h
  unfold M_goesBy_L65_b at h
  refine rn_sls 2 (pc' := 69) (ls' := [(0, (2, 1000)), (1, (0, v1)), (2, (0, v2)), (3, (0, v3)), (4, (0, v4))]) (st' := [(0, 10), (0, v4)]) rfl ?_
  refine rn_icmpn (t := 205) rfl rfl rfl rfl h (fun h => ?_) (fun h => ?_)
  · refine rn_sls 3 (pc' := 77) (ls' := [(0, (2, 1000)), (1, (0, v1)), (2, (0, v2)), (3, (0, v3)), (4, (0, v4))]) (st' := [(0, v2), (2, 1002)]) rfl ?_
    refine rn_iald (n := 120) rfl rfl rfl h (fun a1 h => ?_)
    refine rn_sls 1 (pc' := 79) (ls' := [(0, (2, 1000)), (1, (0, v1)), (2, (0, v2)), (3, (0, v3)), (4, (0, v4))]) (st' := [(0, 5), (0, a1)]) rfl ?_
    refine rn_icmpn (t := 101) rfl rfl rfl rfl h (fun h => ?_) (fun h => ?_)
    · refine rn_sls 10 (pc' := 99) (ls' := [(0, (2, 1000)), (1, (0, v1)), (2, (0, v2)), (3, (0, v3)), (4, (0, v4))]) (st' := [(0, v4), (2, 1036), (0, (w32 ((w32 (10 * v3)) + v4))), (2, 1037)]) rfl ?_
      refine rn_iald (n := 10) rfl rfl rfl h (fun a2 h => ?_)
      refine rn_iast (n := 30) rfl rfl rfl h (fun μ3 h => ?_)
      exact rn_sub [0, 1, 2, 3, 4] rfl (t_M_goesBy_B101 d k65 hk65 _ _ _ _ _ _ h)
    · exact rn_sub [0, 1, 2, 3, 4] rfl (t_M_goesBy_B101 d k65 hk65 _ _ _ _ _ _ h)
  · refine rn_sls 1 (pc' := 206) (ls' := [(0, (2, 1000)), (1, (0, v1)), (2, (0, v2)), (3, (0, v3)), (4, (0, v4))]) (st' := [(0, 1)]) rfl ?_
    exact rn_iretb rfl rfl rfl (Or.inr rfl) h rfl
set_option maxRecDepth 20000 in
theorem t_M_goesBy_L65 (d : Nat) : ∀ (n : Nat) (v1 : Int) (v2 : Int) (v3 : Int) (v4 : Int) (μ : am_M) q, M_goesBy_L65 n v1 v2 v3 v4 μ = some q → am_run none (am_ar g_mt (d + 3)) 5 (some .boolean) k_M_goesBy 65 [(0, (2, 1000)), (1, (0, v1)), (2, (0, v2)), (3, (0, v3)), (4, (0, v4))] [] μ (am_res 0 q) := by
  intro n
  induction n with
  | zero => intro v1 v2 v3 v4 μ q h; cases h
  | succ n ih => intro v1 v2 v3 v4 μ q h; exact t_M_goesBy_L65_b d (M_goesBy_L65 n) ih v1 v2 v3 v4 μ q h
set_option maxRecDepth 20000 in
theorem t_M_goesBy (d : Nat) : ∀ (v1 : Int) (v2 : Int) (v3 : Int) (μ : am_M) q, M_goesBy v1 v2 v3 μ = some q → am_ar g_mt (d + 4) 192 [(2, 1000), (0, v1), (0, v2), (0, v3)] μ (am_res 0 q) := by
  intro v1 v2 v3 μ q h
  unfold M_goesBy at h
  refine am_ar_of (d := d + 3) i_M_goesBy rfl rfl (Nat.le_of_ble_eq_true rfl) ?_
  show am_run none (am_ar g_mt (d + 3)) 5 (some .boolean) k_M_goesBy 0 [(0, (2, 1000)), (1, (0, v1)), (2, (0, v2)), (3, (0, v3))] [] μ (am_res 0 q)
  refine rn_sls 3 (pc' := 5) (ls' := [(0, (2, 1000)), (1, (0, v1)), (2, (0, v2)), (3, (0, v3))]) (st' := [(0, v2), (2, 1002)]) rfl ?_
  refine rn_iald (n := 120) rfl rfl rfl h (fun a1 h => ?_)
  refine rn_sls 1 (pc' := 8) (ls' := [(0, (2, 1000)), (1, (0, v1)), (2, (0, v2)), (3, (0, v3))]) (st' := [(0, 7), (0, a1)]) rfl ?_
  refine rn_icmpn (t := 21) rfl rfl rfl rfl h (fun h => ?_) (fun h => ?_)
  · refine rn_sls 6 (pc' := 17) (ls' := [(0, (2, 1000)), (1, (0, v1)), (2, (0, v2)), (3, (0, v3))]) (st' := [(0, (w32 (v3 - 1))), (0, v2), (0, v1), (2, 1000)]) rfl ?_
    refine rn_call 0 0 [(2, 1000), (0, v1), (0, v2), (0, (w32 (v3 - 1)))] (r := []) rfl ⟨rfl, Or.inl ⟨_, rfl, by decide⟩⟩ (by decide) (fun _ => ⟨_, rfl, rfl⟩) rfl rfl (Nat.le_of_ble_eq_true rfl) h (fun w hw => t_M_joins (d + 1) _ _ _ _ _ hw) (fun a10 μ11 h => ?_)
    refine rn_sls 0 (pc' := 20) (ls' := [(0, (2, 1000)), (1, (0, v1)), (2, (0, v2)), (3, (0, v3))]) (st' := [(0, a10)]) rfl ?_
    exact rn_iretB rfl rfl rfl h rfl
  · refine rn_sls 3 (pc' := 24) (ls' := [(0, (2, 1000)), (1, (0, v1)), (2, (0, v2)), (3, (0, v3))]) (st' := [(0, v2), (0, v1), (2, 1000)]) rfl ?_
    refine rn_call 0 0 [(2, 1000), (0, v1), (0, v2)] (r := []) rfl ⟨rfl, Or.inl ⟨_, rfl, by decide⟩⟩ (by decide) (fun _ => ⟨_, rfl, rfl⟩) rfl rfl (Nat.le_of_ble_eq_true rfl) h (fun w hw => t_M_burnsAll (d + 0) _ _ _ _ hw) (fun a2 μ3 h => ?_)
    refine rn_sls 0 (pc' := 27) (ls' := [(0, (2, 1000)), (1, (0, v1)), (2, (0, v2)), (3, (0, v3))]) (st' := [(0, a2)]) rfl ?_
    refine rn_if (t := 60) rfl rfl rfl rfl h (fun h => ?_) (fun h => ?_)
    · refine rn_sls 1 (pc' := 61) (ls' := [(0, (2, 1000)), (1, (0, v1)), (2, (0, v2)), (3, (0, v3))]) (st' := [(0, 0)]) rfl ?_
      exact rn_iretb rfl rfl rfl (Or.inl rfl) h rfl
    · refine rn_sls 6 (pc' := 38) (ls' := [(0, (2, 1000)), (1, (0, v1)), (2, (0, v2)), (3, (0, v3))]) (st' := [(0, v2), (2, 1003), (0, v2), (0, v1), (2, 1000)]) rfl ?_
      refine rn_iald (n := 120) rfl rfl rfl h (fun a4 h => ?_)
      refine rn_call 0 0 [(2, 1000), (0, v1), (0, v2), (0, a4)] (r := []) rfl ⟨rfl, Or.inl ⟨_, rfl, by decide⟩⟩ (by decide) (fun _ => ⟨_, rfl, rfl⟩) rfl rfl (Nat.le_of_ble_eq_true rfl) h (fun w hw => t_M_putsDown (d + 1) _ _ _ _ _ hw) (fun a5 μ6 h => ?_)
      refine rn_sls 0 (pc' := 42) (ls' := [(0, (2, 1000)), (1, (0, v1)), (2, (0, v2)), (3, (0, v3))]) (st' := [(0, a5)]) rfl ?_
      refine rn_if (t := 60) rfl rfl rfl rfl h (fun h => ?_) (fun h => ?_)
      · refine rn_sls 1 (pc' := 61) (ls' := [(0, (2, 1000)), (1, (0, v1)), (2, (0, v2)), (3, (0, v3))]) (st' := [(0, 0)]) rfl ?_
        exact rn_iretb rfl rfl rfl (Or.inl rfl) h rfl
      · refine rn_sls 6 (pc' := 53) (ls' := [(0, (2, 1000)), (1, (0, v1)), (2, (0, v2)), (3, (0, v3))]) (st' := [(0, v2), (2, 1004), (0, v2), (0, v1), (2, 1000)]) rfl ?_
        refine rn_iald (n := 120) rfl rfl rfl h (fun a7 h => ?_)
        refine rn_call 0 0 [(2, 1000), (0, v1), (0, v2), (0, a7)] (r := []) rfl ⟨rfl, Or.inl ⟨_, rfl, by decide⟩⟩ (by decide) (fun _ => ⟨_, rfl, rfl⟩) rfl rfl (Nat.le_of_ble_eq_true rfl) h (fun w hw => t_M_putsDown (d + 1) _ _ _ _ _ hw) (fun a8 μ9 h => ?_)
        refine rn_sls 0 (pc' := 57) (ls' := [(0, (2, 1000)), (1, (0, v1)), (2, (0, v2)), (3, (0, v3))]) (st' := [(0, a8)]) rfl ?_
        refine rn_ifn (t := 62) rfl rfl rfl rfl h (fun h => ?_) (fun h => ?_)
        · refine rn_sls 1 (pc' := 61) (ls' := [(0, (2, 1000)), (1, (0, v1)), (2, (0, v2)), (3, (0, v3))]) (st' := [(0, 0)]) rfl ?_
          exact rn_iretb rfl rfl rfl (Or.inl rfl) h rfl
        · refine rn_sls 2 (pc' := 65) (ls' := [(4, (0, 0)), (0, (2, 1000)), (1, (0, v1)), (2, (0, v2)), (3, (0, v3))]) (st' := []) rfl ?_
          exact rn_sub [1, 2, 3, 4, 0] rfl (t_M_goesBy_L65 d  am_FU _ _ _ _ _ _ h)
set_option maxRecDepth 20000 in
theorem t_M_checks_B90 (d : Nat) (k39 : Int → Int → Int → am_M → am_O) (hk39 : ∀ (v1 : Int) (v2 : Int) (v3 : Int) (μ : am_M) q, k39 v1 v2 v3 μ = some q → am_run none (am_ar g_mt (d + 4)) 4 none k_M_checks 39 [(0, (2, 1000)), (1, (0, v1)), (2, (0, v2)), (3, (0, v3))] [] μ (am_res 2 q)) : ∀ (v1 : Int) (v3 : Int) (s0 : Int) (s1 : Int) (μ : am_M) q, M_checks_B90 k39 v1 v3 s0 s1 μ = some q → am_run none (am_ar g_mt (d + 4)) 4 none k_M_checks 90 [(0, (2, 1000)), (1, (0, v1)), (3, (0, v3))] [(0, s1), (0, s0)] μ (am_res 2 q) := by
  intro v1 v3 s0 s1 μ q h
  unfold M_checks_B90 at h
  refine rn_sls 3 (pc' := 95) (ls' := [(3, (0, (w32 (v3 + 1)))), (2, (0, (w32 (s0 + s1)))), (0, (2, 1000)), (1, (0, v1))]) (st' := []) rfl ?_
  refine rn_goto (t := 39) rfl rfl rfl ?_
  exact rn_sub [2, 3, 1, 0] rfl (hk39 _ _ _ _ _ h)
set_option maxRecDepth 20000 in
theorem t_M_checks_L39_b (d : Nat) (k39 : Int → Int → Int → am_M → am_O) (hk39 : ∀ (v1 : Int) (v2 : Int) (v3 : Int) (μ : am_M) q, k39 v1 v2 v3 μ = some q → am_run none (am_ar g_mt (d + 4)) 4 none k_M_checks 39 [(0, (2, 1000)), (1, (0, v1)), (2, (0, v2)), (3, (0, v3))] [] μ (am_res 2 q)) : ∀ (v1 : Int) (v2 : Int) (v3 : Int) (μ : am_M) q, M_checks_L39_b k39 v1 v2 v3 μ = some q → am_run none (am_ar g_mt (d + 4)) 4 none k_M_checks 39 [(0, (2, 1000)), (1, (0, v1)), (2, (0, v2)), (3, (0, v3))] [] μ (am_res 2 q) := by
  intro v1 v2 v3 μ q h
  unfold M_checks_L39_b at h
  refine rn_sls 3 (pc' := 42) (ls' := [(0, (2, 1000)), (1, (0, v1)), (2, (0, v2)), (3, (0, v3))]) (st' := [(0, v1), (2, 1000), (0, v3)]) rfl ?_
  refine rn_call 0 0 [(2, 1000), (0, v1)] (r := [(0, v3)]) rfl ⟨rfl, Or.inl ⟨_, rfl, by decide⟩⟩ (by decide) (fun _ => ⟨_, rfl, rfl⟩) rfl rfl (Nat.le_of_ble_eq_true rfl) h (fun w hw => t_M_lastLine (d + 3) _ _ _ hw) (fun a1 μ2 h => ?_)
  refine rn_sls 0 (pc' := 45) (ls' := [(0, (2, 1000)), (1, (0, v1)), (2, (0, v2)), (3, (0, v3))]) (st' := [(0, a1), (0, v3)]) rfl ?_
  refine rn_icmpn (t := 98) rfl rfl rfl rfl h (fun h => ?_) (fun h => ?_)
  · refine rn_sls 4 (pc' := 52) (ls' := [(0, (2, 1000)), (1, (0, v1)), (2, (0, v2)), (3, (0, v3))]) (st' := [(0, v2), (0, v3), (0, v1), (2, 1000)]) rfl ?_
    refine rn_call 0 0 [(2, 1000), (0, v1), (0, v3), (0, v2)] (r := []) rfl ⟨rfl, Or.inl ⟨_, rfl, by decide⟩⟩ (by decide) (fun _ => ⟨_, rfl, rfl⟩) rfl rfl (Nat.le_of_ble_eq_true rfl) h (fun w hw => t_M_goesBy (d + 0) _ _ _ _ _ hw) (fun a3 μ4 h => ?_)
    refine rn_sls 0 (pc' := 55) (ls' := [(0, (2, 1000)), (1, (0, v1)), (2, (0, v2)), (3, (0, v3))]) (st' := [(0, a3)]) rfl ?_
    refine rn_ifn (t := 59) rfl rfl rfl rfl h (fun h => ?_) (fun h => ?_)
    · exact rn_ret (v := 0) rfl rfl rfl h rfl
    · refine rn_sls 4 (pc' := 65) (ls' := [(0, (2, 1000)), (1, (0, v1)), (2, (0, v2)), (3, (0, v3))]) (st' := [(0, v3), (2, 1002), (0, v2)]) rfl ?_
      refine rn_iald (n := 120) rfl rfl rfl h (fun a5 h => ?_)
      refine rn_sls 1 (pc' := 67) (ls' := [(0, (2, 1000)), (1, (0, v1)), (2, (0, v2)), (3, (0, v3))]) (st' := [(0, 5), (0, a5), (0, v2)]) rfl ?_
      refine rn_icmpn (t := 74) rfl rfl rfl rfl h (fun h => ?_) (fun h => ?_)
      · refine rn_sls 1 (pc' := 71) (ls' := [(0, (2, 1000)), (1, (0, v1)), (2, (0, v2)), (3, (0, v3))]) (st' := [(0, 1), (0, v2)]) rfl ?_
        refine rn_goto (t := 90) rfl rfl rfl ?_
        exact rn_sub [0, 1, 3] rfl (t_M_checks_B90 d k39 hk39 _ _ _ _ _ _ h)
      · refine rn_sls 3 (pc' := 79) (ls' := [(0, (2, 1000)), (1, (0, v1)), (2, (0, v2)), (3, (0, v3))]) (st' := [(0, v3), (2, 1002), (0, v2)]) rfl ?_
        refine rn_iald (n := 120) rfl rfl rfl h (fun a6 h => ?_)
        refine rn_sls 1 (pc' := 82) (ls' := [(0, (2, 1000)), (1, (0, v1)), (2, (0, v2)), (3, (0, v3))]) (st' := [(0, 7), (0, a6), (0, v2)]) rfl ?_
        refine rn_icmpn (t := 89) rfl rfl rfl rfl h (fun h => ?_) (fun h => ?_)
        · refine rn_sls 1 (pc' := 86) (ls' := [(0, (2, 1000)), (1, (0, v1)), (2, (0, v2)), (3, (0, v3))]) (st' := [(0, (-1)), (0, v2)]) rfl ?_
          refine rn_goto (t := 90) rfl rfl rfl ?_
          exact rn_sub [0, 1, 3] rfl (t_M_checks_B90 d k39 hk39 _ _ _ _ _ _ h)
        · refine rn_sls 1 (pc' := 90) (ls' := [(0, (2, 1000)), (1, (0, v1)), (2, (0, v2)), (3, (0, v3))]) (st' := [(0, 0), (0, v2)]) rfl ?_
          exact rn_sub [0, 1, 3] rfl (t_M_checks_B90 d k39 hk39 _ _ _ _ _ _ h)
  · exact rn_ret (v := 0) rfl rfl rfl h rfl
set_option maxRecDepth 20000 in
theorem t_M_checks_L39 (d : Nat) : ∀ (n : Nat) (v1 : Int) (v2 : Int) (v3 : Int) (μ : am_M) q, M_checks_L39 n v1 v2 v3 μ = some q → am_run none (am_ar g_mt (d + 4)) 4 none k_M_checks 39 [(0, (2, 1000)), (1, (0, v1)), (2, (0, v2)), (3, (0, v3))] [] μ (am_res 2 q) := by
  intro n
  induction n with
  | zero => intro v1 v2 v3 μ q h; cases h
  | succ n ih => intro v1 v2 v3 μ q h; exact t_M_checks_L39_b d (M_checks_L39 n) ih v1 v2 v3 μ q h
set_option maxRecDepth 20000 in
theorem t_M_checks_L4_b (d : Nat) (k4 : Int → Int → Int → am_M → am_O) (hk4 : ∀ (v1 : Int) (v2 : Int) (v3 : Int) (μ : am_M) q, k4 v1 v2 v3 μ = some q → am_run none (am_ar g_mt (d + 4)) 4 none k_M_checks 4 [(0, (2, 1000)), (1, (0, v1)), (2, (0, v2)), (3, (0, v3))] [] μ (am_res 2 q)) : ∀ (v1 : Int) (v2 : Int) (v3 : Int) (μ : am_M) q, M_checks_L4_b k4 v1 v2 v3 μ = some q → am_run none (am_ar g_mt (d + 4)) 4 none k_M_checks 4 [(0, (2, 1000)), (1, (0, v1)), (2, (0, v2)), (3, (0, v3))] [] μ (am_res 2 q) := by
  intro v1 v2 v3 μ q h
  unfold M_checks_L4_b at h
  refine rn_sls 2 (pc' := 7) (ls' := [(0, (2, 1000)), (1, (0, v1)), (2, (0, v2)), (3, (0, v3))]) (st' := [(0, 10), (0, v3)]) rfl ?_
  refine rn_icmpn (t := 23) rfl rfl rfl rfl h (fun h => ?_) (fun h => ?_)
  · refine rn_sls 4 (pc' := 16) (ls' := [(0, (2, 1000)), (1, (0, v1)), (2, (0, v2)), (3, (0, v3))]) (st' := [(0, 0), (0, v3), (2, 1036)]) rfl ?_
    refine rn_iast (n := 10) rfl rfl rfl h (fun μ4 h => ?_)
    refine rn_sls 1 (pc' := 20) (ls' := [(3, (0, (w32 (v3 + 1)))), (0, (2, 1000)), (1, (0, v1)), (2, (0, v2))]) (st' := []) rfl ?_
    refine rn_goto (t := 4) rfl rfl rfl ?_
    exact rn_sub [1, 2, 3, 0] rfl (hk4 _ _ _ _ _ h)
  · refine rn_sls 5 (pc' := 28) (ls' := [(0, (2, 1000)), (1, (0, v1)), (2, (0, v2)), (3, (0, v3))]) (st' := [(0, (-1)), (0, (-1)), (0, 0), (0, v1), (2, 1000)]) rfl ?_
    refine rn_call 0 0 [(2, 1000), (0, v1), (0, 0), (0, (-1)), (0, (-1))] (r := []) rfl ⟨rfl, Or.inl ⟨_, rfl, by decide⟩⟩ (by decide) (fun _ => ⟨_, rfl, rfl⟩) rfl rfl (Nat.le_of_ble_eq_true rfl) h (fun w hw => t_M_finds (d + 3) _ _ _ _ _ _ hw) (fun a1 μ2 h => ?_)
    refine rn_sls 0 (pc' := 31) (ls' := [(0, (2, 1000)), (1, (0, v1)), (2, (0, v2)), (3, (0, v3))]) (st' := [(0, a1)]) rfl ?_
    refine rn_sls 4 (pc' := 37) (ls' := [(0, (2, 1000)), (1, (0, v1)), (2, (0, v2)), (3, (0, v3))]) (st' := [(0, v1), (2, 1017)]) rfl ?_
    refine rn_iald (n := 8) rfl rfl rfl h (fun a3 h => ?_)
    refine rn_sls 1 (pc' := 39) (ls' := [(3, (0, a3)), (0, (2, 1000)), (1, (0, v1)), (2, (0, v2))]) (st' := []) rfl ?_
    exact rn_sub [1, 2, 3, 0] rfl (t_M_checks_L39 d  am_FU _ _ _ _ _ h)
set_option maxRecDepth 20000 in
theorem t_M_checks_L4 (d : Nat) : ∀ (n : Nat) (v1 : Int) (v2 : Int) (v3 : Int) (μ : am_M) q, M_checks_L4 n v1 v2 v3 μ = some q → am_run none (am_ar g_mt (d + 4)) 4 none k_M_checks 4 [(0, (2, 1000)), (1, (0, v1)), (2, (0, v2)), (3, (0, v3))] [] μ (am_res 2 q) := by
  intro n
  induction n with
  | zero => intro v1 v2 v3 μ q h; cases h
  | succ n ih => intro v1 v2 v3 μ q h; exact t_M_checks_L4_b d (M_checks_L4 n) ih v1 v2 v3 μ q h
set_option maxRecDepth 20000 in
theorem t_M_checks (d : Nat) : ∀ (v1 : Int) (μ : am_M) q, M_checks v1 μ = some q → am_ar g_mt (d + 5) 193 [(2, 1000), (0, v1)] μ (am_res 2 q) := by
  intro v1 μ q h
  unfold M_checks at h
  refine am_ar_of (d := d + 4) i_M_checks rfl rfl (Nat.le_of_ble_eq_true rfl) ?_
  show am_run none (am_ar g_mt (d + 4)) 4 none k_M_checks 0 [(0, (2, 1000)), (1, (0, v1))] [] μ (am_res 2 q)
  refine rn_sls 4 (pc' := 4) (ls' := [(3, (0, 0)), (2, (0, 0)), (0, (2, 1000)), (1, (0, v1))]) (st' := []) rfl ?_
  exact rn_sub [2, 3, 1, 0] rfl (t_M_checks_L4 d  am_FU _ _ _ _ _ h)
set_option maxRecDepth 20000 in
theorem t_M_bills_L286_b (d : Nat) (k129 : Int → am_M → am_O) (hk129 : ∀ (v1 : Int) (μ : am_M) q, k129 v1 μ = some q → am_run none (am_ar g_mt (d + 7)) 3 (some .int) k_M_bills 129 [(0, (2, 1000)), (1, (0, v1))] [] μ (am_res 0 q)) (k286 : Int → Int → am_M → am_O) (hk286 : ∀ (v1 : Int) (v2 : Int) (μ : am_M) q, k286 v1 v2 μ = some q → am_run none (am_ar g_mt (d + 7)) 3 (some .int) k_M_bills 286 [(0, (2, 1000)), (1, (0, v1)), (2, (0, v2))] [] μ (am_res 0 q)) : ∀ (v1 : Int) (v2 : Int) (μ : am_M) q, M_bills_L286_b k129 k286 v1 v2 μ = some q → am_run none (am_ar g_mt (d + 7)) 3 (some .int) k_M_bills 286 [(0, (2, 1000)), (1, (0, v1)), (2, (0, v2))] [] μ (am_res 0 q) := by
  intro v1 v2 μ q h
  unfold M_bills_L286_b at h
  refine rn_sls 2 (pc' := 288) (ls' := [(0, (2, 1000)), (1, (0, v1)), (2, (0, v2))]) (st' := [(0, 4), (0, v2)]) rfl ?_
  refine rn_icmpn (t := 321) rfl rfl rfl rfl h (fun h => ?_) (fun h => ?_)
  · refine rn_sls 16 (pc' := 313) (ls' := [(0, (2, 1000)), (1, (0, v1)), (2, (0, v2))]) (st' := [(0, (w32 ((w32 (240 + (w32 (4 * v1)))) + v2))), (2, 1007), (0, (w32 ((w32 (4 * v1)) + v2))), (2, 1007)]) rfl ?_
    refine rn_iald (n := 480) rfl rfl rfl h (fun a1 h => ?_)
    refine rn_iast (n := 480) rfl rfl rfl h (fun μ2 h => ?_)
    refine rn_sls 1 (pc' := 318) (ls' := [(2, (0, (w32 (v2 + 1)))), (0, (2, 1000)), (1, (0, v1))]) (st' := []) rfl ?_
    refine rn_goto (t := 286) rfl rfl rfl ?_
    exact rn_sub [1, 2, 0] rfl (hk286 _ _ _ _ h)
  · refine rn_sls 1 (pc' := 324) (ls' := [(1, (0, (w32 (v1 + 1)))), (0, (2, 1000)), (2, (0, v2))]) (st' := []) rfl ?_
    refine rn_goto (t := 129) rfl rfl rfl ?_
    exact rn_sub [1, 0] rfl (hk129 _ _ _ h)
set_option maxRecDepth 20000 in
theorem t_M_bills_L286 (d : Nat) (k129 : Int → am_M → am_O) (hk129 : ∀ (v1 : Int) (μ : am_M) q, k129 v1 μ = some q → am_run none (am_ar g_mt (d + 7)) 3 (some .int) k_M_bills 129 [(0, (2, 1000)), (1, (0, v1))] [] μ (am_res 0 q)) : ∀ (n : Nat) (v1 : Int) (v2 : Int) (μ : am_M) q, M_bills_L286 k129 n v1 v2 μ = some q → am_run none (am_ar g_mt (d + 7)) 3 (some .int) k_M_bills 286 [(0, (2, 1000)), (1, (0, v1)), (2, (0, v2))] [] μ (am_res 0 q) := by
  intro n
  induction n with
  | zero => intro v1 v2 μ q h; cases h
  | succ n ih => intro v1 v2 μ q h; exact t_M_bills_L286_b d k129 hk129 (M_bills_L286 k129 n) ih v1 v2 μ q h
set_option maxRecDepth 20000 in
theorem t_M_bills_L393_b (d : Nat) (k393 : Int → am_M → am_O) (hk393 : ∀ (v1 : Int) (μ : am_M) q, k393 v1 μ = some q → am_run none (am_ar g_mt (d + 7)) 3 (some .int) k_M_bills 393 [(0, (2, 1000)), (1, (0, v1))] [] μ (am_res 0 q)) : ∀ (v1 : Int) (μ : am_M) q, M_bills_L393_b k393 v1 μ = some q → am_run none (am_ar g_mt (d + 7)) 3 (some .int) k_M_bills 393 [(0, (2, 1000)), (1, (0, v1))] [] μ (am_res 0 q) := by
  intro v1 μ q h
  unfold M_bills_L393_b at h
  refine rn_sls 2 (pc' := 395) (ls' := [(0, (2, 1000)), (1, (0, v1))]) (st' := [(0, 4), (0, v1)]) rfl ?_
  refine rn_icmpn (t := 411) rfl rfl rfl rfl h (fun h => ?_) (fun h => ?_)
  · refine rn_sls 4 (pc' := 404) (ls' := [(0, (2, 1000)), (1, (0, v1))]) (st' := [(0, 0), (0, v1), (2, 1062)]) rfl ?_
    refine rn_bast (n := 4) rfl rfl rfl h (fun μ1 h => ?_)
    refine rn_sls 1 (pc' := 408) (ls' := [(1, (0, (w32 (v1 + 1)))), (0, (2, 1000))]) (st' := []) rfl ?_
    refine rn_goto (t := 393) rfl rfl rfl ?_
    exact rn_sub [1, 0] rfl (hk393 _ _ _ h)
  · refine rn_sls 1 (pc' := 412) (ls' := [(0, (2, 1000)), (1, (0, v1))]) (st' := [(0, 0)]) rfl ?_
    exact rn_ireti rfl rfl rfl h rfl
set_option maxRecDepth 20000 in
theorem t_M_bills_L393 (d : Nat) : ∀ (n : Nat) (v1 : Int) (μ : am_M) q, M_bills_L393 n v1 μ = some q → am_run none (am_ar g_mt (d + 7)) 3 (some .int) k_M_bills 393 [(0, (2, 1000)), (1, (0, v1))] [] μ (am_res 0 q) := by
  intro n
  induction n with
  | zero => intro v1 μ q h; cases h
  | succ n ih => intro v1 μ q h; exact t_M_bills_L393_b d (M_bills_L393 n) ih v1 μ q h
set_option maxRecDepth 20000 in
theorem t_M_bills_L360_b (d : Nat) (k360 : Int → am_M → am_O) (hk360 : ∀ (v1 : Int) (μ : am_M) q, k360 v1 μ = some q → am_run none (am_ar g_mt (d + 7)) 3 (some .int) k_M_bills 360 [(0, (2, 1000)), (1, (0, v1))] [] μ (am_res 0 q)) : ∀ (v1 : Int) (μ : am_M) q, M_bills_L360_b k360 v1 μ = some q → am_run none (am_ar g_mt (d + 7)) 3 (some .int) k_M_bills 360 [(0, (2, 1000)), (1, (0, v1))] [] μ (am_res 0 q) := by
  intro v1 μ q h
  unfold M_bills_L360_b at h
  refine rn_sls 4 (pc' := 366) (ls' := [(0, (2, 1000)), (1, (0, v1))]) (st' := [(0, 1), (2, 1013), (0, v1)]) rfl ?_
  refine rn_iald (n := 6) rfl rfl rfl h (fun a1 h => ?_)
  refine rn_icmpn (t := 381) rfl rfl rfl rfl h (fun h => ?_) (fun h => ?_)
  · refine rn_sls 2 (pc' := 372) (ls' := [(0, (2, 1000)), (1, (0, v1))]) (st' := [(0, v1), (2, 1000)]) rfl ?_
    refine rn_call 0 2 [(2, 1000), (0, v1)] (r := []) rfl ⟨rfl, Or.inl ⟨_, rfl, by decide⟩⟩ (by decide) (fun _ => ⟨_, rfl, rfl⟩) rfl rfl (Nat.le_of_ble_eq_true rfl) h (fun w hw => t_M_checks (d + 2) _ _ _ hw) (fun a4 μ5 h => ?_)
    refine rn_sls 0 (pc' := 375) (ls' := [(0, (2, 1000)), (1, (0, v1))]) (st' := []) rfl ?_
    refine rn_sls 1 (pc' := 378) (ls' := [(1, (0, (w32 (v1 + 1)))), (0, (2, 1000))]) (st' := []) rfl ?_
    refine rn_goto (t := 360) rfl rfl rfl ?_
    exact rn_sub [1, 0] rfl (hk360 _ _ _ h)
  · refine rn_sls 2 (pc' := 383) (ls' := [(0, (2, 1000)), (1, (0, v1))]) (st' := [(0, 0), (2, 1000)]) rfl ?_
    refine rn_put rfl rfl rfl rfl (Or.inl ⟨rfl, rfl⟩) rfl h (fun μ2 h => ?_)
    refine rn_sls 2 (pc' := 388) (ls' := [(0, (2, 1000)), (1, (0, v1))]) (st' := [(0, 0), (2, 1000)]) rfl ?_
    refine rn_put rfl rfl rfl rfl (Or.inl ⟨rfl, rfl⟩) rfl h (fun μ3 h => ?_)
    refine rn_sls 2 (pc' := 393) (ls' := [(1, (0, 0)), (0, (2, 1000))]) (st' := []) rfl ?_
    exact rn_sub [1, 0] rfl (t_M_bills_L393 d  am_FU _ _ _ h)
set_option maxRecDepth 20000 in
theorem t_M_bills_L360 (d : Nat) : ∀ (n : Nat) (v1 : Int) (μ : am_M) q, M_bills_L360 n v1 μ = some q → am_run none (am_ar g_mt (d + 7)) 3 (some .int) k_M_bills 360 [(0, (2, 1000)), (1, (0, v1))] [] μ (am_res 0 q) := by
  intro n
  induction n with
  | zero => intro v1 μ q h; cases h
  | succ n ih => intro v1 μ q h; exact t_M_bills_L360_b d (M_bills_L360 n) ih v1 μ q h
set_option maxRecDepth 20000 in
theorem t_M_bills_L329_b (d : Nat) (k329 : Int → am_M → am_O) (hk329 : ∀ (v1 : Int) (μ : am_M) q, k329 v1 μ = some q → am_run none (am_ar g_mt (d + 7)) 3 (some .int) k_M_bills 329 [(0, (2, 1000)), (1, (0, v1))] [] μ (am_res 0 q)) : ∀ (v1 : Int) (μ : am_M) q, M_bills_L329_b k329 v1 μ = some q → am_run none (am_ar g_mt (d + 7)) 3 (some .int) k_M_bills 329 [(0, (2, 1000)), (1, (0, v1))] [] μ (am_res 0 q) := by
  intro v1 μ q h
  unfold M_bills_L329_b at h
  refine rn_sls 2 (pc' := 333) (ls' := [(0, (2, 1000)), (1, (0, v1))]) (st' := [(0, 1000), (0, v1)]) rfl ?_
  refine rn_icmpn (t := 358) rfl rfl rfl rfl h (fun h => ?_) (fun h => ?_)
  · refine rn_sls 8 (pc' := 350) (ls' := [(0, (2, 1000)), (1, (0, v1))]) (st' := [(0, (w32 (1000 + v1))), (2, 1012), (0, v1), (2, 1012)]) rfl ?_
    refine rn_iald (n := 2000) rfl rfl rfl h (fun a1 h => ?_)
    refine rn_iast (n := 2000) rfl rfl rfl h (fun μ2 h => ?_)
    refine rn_sls 1 (pc' := 355) (ls' := [(1, (0, (w32 (v1 + 1)))), (0, (2, 1000))]) (st' := []) rfl ?_
    refine rn_goto (t := 329) rfl rfl rfl ?_
    exact rn_sub [1, 0] rfl (hk329 _ _ _ h)
  · refine rn_sls 2 (pc' := 360) (ls' := [(1, (0, 0)), (0, (2, 1000))]) (st' := []) rfl ?_
    exact rn_sub [1, 0] rfl (t_M_bills_L360 d  am_FU _ _ _ h)
set_option maxRecDepth 20000 in
theorem t_M_bills_L329 (d : Nat) : ∀ (n : Nat) (v1 : Int) (μ : am_M) q, M_bills_L329 n v1 μ = some q → am_run none (am_ar g_mt (d + 7)) 3 (some .int) k_M_bills 329 [(0, (2, 1000)), (1, (0, v1))] [] μ (am_res 0 q) := by
  intro n
  induction n with
  | zero => intro v1 μ q h; cases h
  | succ n ih => intro v1 μ q h; exact t_M_bills_L329_b d (M_bills_L329 n) ih v1 μ q h
set_option maxRecDepth 20000 in
theorem t_M_bills_L129_b (d : Nat) (k129 : Int → am_M → am_O) (hk129 : ∀ (v1 : Int) (μ : am_M) q, k129 v1 μ = some q → am_run none (am_ar g_mt (d + 7)) 3 (some .int) k_M_bills 129 [(0, (2, 1000)), (1, (0, v1))] [] μ (am_res 0 q)) : ∀ (v1 : Int) (μ : am_M) q, M_bills_L129_b k129 v1 μ = some q → am_run none (am_ar g_mt (d + 7)) 3 (some .int) k_M_bills 129 [(0, (2, 1000)), (1, (0, v1))] [] μ (am_res 0 q) := by
  intro v1 μ q h
  unfold M_bills_L129_b at h
  refine rn_sls 2 (pc' := 132) (ls' := [(0, (2, 1000)), (1, (0, v1))]) (st' := [(0, 60), (0, v1)]) rfl ?_
  refine rn_icmpn (t := 327) rfl rfl rfl rfl h (fun h => ?_) (fun h => ?_)
  · refine rn_sls 8 (pc' := 148) (ls' := [(0, (2, 1000)), (1, (0, v1))]) (st' := [(0, (w32 (60 + v1))), (2, 1002), (0, v1), (2, 1002)]) rfl ?_
    refine rn_iald (n := 120) rfl rfl rfl h (fun a1 h => ?_)
    refine rn_iast (n := 120) rfl rfl rfl h (fun μ2 h => ?_)
    refine rn_sls 8 (pc' := 163) (ls' := [(0, (2, 1000)), (1, (0, v1))]) (st' := [(0, (w32 (60 + v1))), (2, 1003), (0, v1), (2, 1003)]) rfl ?_
    refine rn_iald (n := 120) rfl rfl rfl h (fun a3 h => ?_)
    refine rn_iast (n := 120) rfl rfl rfl h (fun μ4 h => ?_)
    refine rn_sls 8 (pc' := 178) (ls' := [(0, (2, 1000)), (1, (0, v1))]) (st' := [(0, (w32 (60 + v1))), (2, 1004), (0, v1), (2, 1004)]) rfl ?_
    refine rn_iald (n := 120) rfl rfl rfl h (fun a5 h => ?_)
    refine rn_iast (n := 120) rfl rfl rfl h (fun μ6 h => ?_)
    refine rn_sls 8 (pc' := 193) (ls' := [(0, (2, 1000)), (1, (0, v1))]) (st' := [(0, (w32 (60 + v1))), (2, 1005), (0, v1), (2, 1005)]) rfl ?_
    refine rn_iald (n := 120) rfl rfl rfl h (fun a7 h => ?_)
    refine rn_iast (n := 120) rfl rfl rfl h (fun μ8 h => ?_)
    refine rn_sls 8 (pc' := 208) (ls' := [(0, (2, 1000)), (1, (0, v1))]) (st' := [(0, (w32 (60 + v1))), (2, 1006), (0, v1), (2, 1006)]) rfl ?_
    refine rn_iald (n := 120) rfl rfl rfl h (fun a9 h => ?_)
    refine rn_iast (n := 120) rfl rfl rfl h (fun μ10 h => ?_)
    refine rn_sls 8 (pc' := 223) (ls' := [(0, (2, 1000)), (1, (0, v1))]) (st' := [(0, (w32 (60 + v1))), (2, 1008), (0, v1), (2, 1008)]) rfl ?_
    refine rn_iald (n := 120) rfl rfl rfl h (fun a11 h => ?_)
    refine rn_sls 2 (pc' := 227) (ls' := [(0, (2, 1000)), (1, (0, v1))]) (st' := [(0, (w32 (a11 - 60))), (0, v1), (2, 1008)]) rfl ?_
    refine rn_iast (n := 120) rfl rfl rfl h (fun μ12 h => ?_)
    refine rn_sls 8 (pc' := 241) (ls' := [(0, (2, 1000)), (1, (0, v1))]) (st' := [(0, (w32 (60 + v1))), (2, 1009), (0, v1), (2, 1009)]) rfl ?_
    refine rn_iald (n := 120) rfl rfl rfl h (fun a13 h => ?_)
    refine rn_sls 2 (pc' := 245) (ls' := [(0, (2, 1000)), (1, (0, v1))]) (st' := [(0, (w32 (a13 - 60))), (0, v1), (2, 1009)]) rfl ?_
    refine rn_iast (n := 120) rfl rfl rfl h (fun μ14 h => ?_)
    refine rn_sls 8 (pc' := 259) (ls' := [(0, (2, 1000)), (1, (0, v1))]) (st' := [(0, (w32 (60 + v1))), (2, 1010), (0, v1), (2, 1010)]) rfl ?_
    refine rn_iald (n := 120) rfl rfl rfl h (fun a15 h => ?_)
    refine rn_sls 2 (pc' := 264) (ls' := [(0, (2, 1000)), (1, (0, v1))]) (st' := [(0, (w32 (a15 - 1000))), (0, v1), (2, 1010)]) rfl ?_
    refine rn_iast (n := 120) rfl rfl rfl h (fun μ16 h => ?_)
    refine rn_sls 8 (pc' := 278) (ls' := [(0, (2, 1000)), (1, (0, v1))]) (st' := [(0, (w32 (60 + v1))), (2, 1011), (0, v1), (2, 1011)]) rfl ?_
    refine rn_iald (n := 120) rfl rfl rfl h (fun a17 h => ?_)
    refine rn_sls 2 (pc' := 283) (ls' := [(0, (2, 1000)), (1, (0, v1))]) (st' := [(0, (w32 (a17 - 1000))), (0, v1), (2, 1011)]) rfl ?_
    refine rn_iast (n := 120) rfl rfl rfl h (fun μ18 h => ?_)
    refine rn_sls 2 (pc' := 286) (ls' := [(2, (0, 0)), (0, (2, 1000)), (1, (0, v1))]) (st' := []) rfl ?_
    exact rn_sub [1, 2, 0] rfl (t_M_bills_L286 d k129 hk129 am_FU _ _ _ _ h)
  · refine rn_sls 2 (pc' := 329) (ls' := [(1, (0, 0)), (0, (2, 1000))]) (st' := []) rfl ?_
    exact rn_sub [1, 0] rfl (t_M_bills_L329 d  am_FU _ _ _ h)
set_option maxRecDepth 20000 in
theorem t_M_bills_L129 (d : Nat) : ∀ (n : Nat) (v1 : Int) (μ : am_M) q, M_bills_L129 n v1 μ = some q → am_run none (am_ar g_mt (d + 7)) 3 (some .int) k_M_bills 129 [(0, (2, 1000)), (1, (0, v1))] [] μ (am_res 0 q) := by
  intro n
  induction n with
  | zero => intro v1 μ q h; cases h
  | succ n ih => intro v1 μ q h; exact t_M_bills_L129_b d (M_bills_L129 n) ih v1 μ q h
set_option maxRecDepth 20000 in
theorem t_M_bills_L46_b (d : Nat) (k46 : Int → am_M → am_O) (hk46 : ∀ (v1 : Int) (μ : am_M) q, k46 v1 μ = some q → am_run none (am_ar g_mt (d + 7)) 3 (some .int) k_M_bills 46 [(0, (2, 1000)), (1, (0, v1))] [] μ (am_res 0 q)) : ∀ (v1 : Int) (μ : am_M) q, M_bills_L46_b k46 v1 μ = some q → am_run none (am_ar g_mt (d + 7)) 3 (some .int) k_M_bills 46 [(0, (2, 1000)), (1, (0, v1))] [] μ (am_res 0 q) := by
  intro v1 μ q h
  unfold M_bills_L46_b at h
  refine rn_sls 2 (pc' := 48) (ls' := [(0, (2, 1000)), (1, (0, v1))]) (st' := [(0, 4), (0, v1)]) rfl ?_
  refine rn_icmpn (t := 127) rfl rfl rfl rfl h (fun h => ?_) (fun h => ?_)
  · refine rn_sls 8 (pc' := 63) (ls' := [(0, (2, 1000)), (1, (0, v1))]) (st' := [(0, (w32 (4 + v1))), (2, 1015), (0, v1), (2, 1015)]) rfl ?_
    refine rn_iald (n := 8) rfl rfl rfl h (fun a1 h => ?_)
    refine rn_iast (n := 8) rfl rfl rfl h (fun μ2 h => ?_)
    refine rn_sls 8 (pc' := 77) (ls' := [(0, (2, 1000)), (1, (0, v1))]) (st' := [(0, (w32 (4 + v1))), (2, 1017), (0, v1), (2, 1017)]) rfl ?_
    refine rn_iald (n := 8) rfl rfl rfl h (fun a3 h => ?_)
    refine rn_iast (n := 8) rfl rfl rfl h (fun μ4 h => ?_)
    refine rn_sls 8 (pc' := 91) (ls' := [(0, (2, 1000)), (1, (0, v1))]) (st' := [(0, (w32 (4 + v1))), (2, 1018), (0, v1), (2, 1018)]) rfl ?_
    refine rn_iald (n := 8) rfl rfl rfl h (fun a5 h => ?_)
    refine rn_iast (n := 8) rfl rfl rfl h (fun μ6 h => ?_)
    refine rn_sls 8 (pc' := 105) (ls' := [(0, (2, 1000)), (1, (0, v1))]) (st' := [(0, (w32 (4 + v1))), (2, 1019), (0, v1), (2, 1019)]) rfl ?_
    refine rn_iald (n := 8) rfl rfl rfl h (fun a7 h => ?_)
    refine rn_iast (n := 8) rfl rfl rfl h (fun μ8 h => ?_)
    refine rn_sls 8 (pc' := 119) (ls' := [(0, (2, 1000)), (1, (0, v1))]) (st' := [(0, (w32 (4 + v1))), (2, 1020), (0, v1), (2, 1020)]) rfl ?_
    refine rn_iald (n := 8) rfl rfl rfl h (fun a9 h => ?_)
    refine rn_iast (n := 8) rfl rfl rfl h (fun μ10 h => ?_)
    refine rn_sls 1 (pc' := 124) (ls' := [(1, (0, (w32 (v1 + 1)))), (0, (2, 1000))]) (st' := []) rfl ?_
    refine rn_goto (t := 46) rfl rfl rfl ?_
    exact rn_sub [1, 0] rfl (hk46 _ _ _ h)
  · refine rn_sls 2 (pc' := 129) (ls' := [(1, (0, 0)), (0, (2, 1000))]) (st' := []) rfl ?_
    exact rn_sub [1, 0] rfl (t_M_bills_L129 d  am_FU _ _ _ h)
set_option maxRecDepth 20000 in
theorem t_M_bills_L46 (d : Nat) : ∀ (n : Nat) (v1 : Int) (μ : am_M) q, M_bills_L46 n v1 μ = some q → am_run none (am_ar g_mt (d + 7)) 3 (some .int) k_M_bills 46 [(0, (2, 1000)), (1, (0, v1))] [] μ (am_res 0 q) := by
  intro n
  induction n with
  | zero => intro v1 μ q h; cases h
  | succ n ih => intro v1 μ q h; exact t_M_bills_L46_b d (M_bills_L46 n) ih v1 μ q h
set_option maxRecDepth 20000 in
theorem t_M_bills_L19_b (d : Nat) (k19 : Int → am_M → am_O) (hk19 : ∀ (v1 : Int) (μ : am_M) q, k19 v1 μ = some q → am_run none (am_ar g_mt (d + 7)) 3 (some .int) k_M_bills 19 [(0, (2, 1000)), (1, (0, v1))] [] μ (am_res 0 q)) : ∀ (v1 : Int) (μ : am_M) q, M_bills_L19_b k19 v1 μ = some q → am_run none (am_ar g_mt (d + 7)) 3 (some .int) k_M_bills 19 [(0, (2, 1000)), (1, (0, v1))] [] μ (am_res 0 q) := by
  intro v1 μ q h
  unfold M_bills_L19_b at h
  refine rn_sls 2 (pc' := 21) (ls' := [(0, (2, 1000)), (1, (0, v1))]) (st' := [(0, 3), (0, v1)]) rfl ?_
  refine rn_icmpn (t := 44) rfl rfl rfl rfl h (fun h => ?_) (fun h => ?_)
  · refine rn_sls 8 (pc' := 36) (ls' := [(0, (2, 1000)), (1, (0, v1))]) (st' := [(0, (w32 (3 + v1))), (2, 1013), (0, v1), (2, 1013)]) rfl ?_
    refine rn_iald (n := 6) rfl rfl rfl h (fun a1 h => ?_)
    refine rn_iast (n := 6) rfl rfl rfl h (fun μ2 h => ?_)
    refine rn_sls 1 (pc' := 41) (ls' := [(1, (0, (w32 (v1 + 1)))), (0, (2, 1000))]) (st' := []) rfl ?_
    refine rn_goto (t := 19) rfl rfl rfl ?_
    exact rn_sub [1, 0] rfl (hk19 _ _ _ h)
  · refine rn_sls 2 (pc' := 46) (ls' := [(1, (0, 0)), (0, (2, 1000))]) (st' := []) rfl ?_
    exact rn_sub [1, 0] rfl (t_M_bills_L46 d  am_FU _ _ _ h)
set_option maxRecDepth 20000 in
theorem t_M_bills_L19 (d : Nat) : ∀ (n : Nat) (v1 : Int) (μ : am_M) q, M_bills_L19 n v1 μ = some q → am_run none (am_ar g_mt (d + 7)) 3 (some .int) k_M_bills 19 [(0, (2, 1000)), (1, (0, v1))] [] μ (am_res 0 q) := by
  intro n
  induction n with
  | zero => intro v1 μ q h; cases h
  | succ n ih => intro v1 μ q h; exact t_M_bills_L19_b d (M_bills_L19 n) ih v1 μ q h
set_option maxRecDepth 20000 in
theorem t_M_bills (d : Nat) : ∀  (μ : am_M) q, M_bills  μ = some q → am_ar g_mt (d + 8) 178 [(2, 1000)] μ (am_res 0 q) := by
  intro  μ q h
  unfold M_bills at h
  refine am_ar_of (d := d + 7) i_M_bills rfl rfl (Nat.le_of_ble_eq_true rfl) ?_
  show am_run none (am_ar g_mt (d + 7)) 3 (some .int) k_M_bills 0 [(0, (2, 1000))] [] μ (am_res 0 q)
  refine rn_sls 2 (pc' := 2) (ls' := [(0, (2, 1000))]) (st' := [(0, 0), (2, 1000)]) rfl ?_
  refine rn_put rfl rfl rfl rfl (Or.inl ⟨rfl, rfl⟩) rfl h (fun μ1 h => ?_)
  refine rn_sls 1 (pc' := 6) (ls' := [(0, (2, 1000))]) (st' := [(2, 1000)]) rfl ?_
  refine rn_call 0 0 [(2, 1000)] (r := []) rfl ⟨rfl, Or.inl ⟨_, rfl, by decide⟩⟩ (by decide) (fun _ => ⟨_, rfl, rfl⟩) rfl rfl (Nat.le_of_ble_eq_true rfl) h (fun w hw => t_M_readsAll (d + 0)  _ _ hw) (fun a2 μ3 h => ?_)
  refine rn_sls 0 (pc' := 9) (ls' := [(0, (2, 1000))]) (st' := [(0, a2)]) rfl ?_
  refine rn_ifn (t := 17) rfl rfl rfl rfl h (fun h => ?_) (fun h => ?_)
  · refine rn_sls 2 (pc' := 16) (ls' := [(0, (2, 1000))]) (st' := [(0, (μ3 1000 9))]) rfl ?_
    exact rn_ireti rfl rfl rfl h rfl
  · refine rn_sls 2 (pc' := 19) (ls' := [(1, (0, 0)), (0, (2, 1000))]) (st' := []) rfl ?_
    exact rn_sub [1, 0] rfl (t_M_bills_L19 d  am_FU _ _ _ h)
set_option maxRecDepth 20000 in
theorem t_M_isBill (d : Nat) : ∀ (v1 : Int) (μ : am_M) q, M_isBill v1 μ = some q → am_ar g_mt (d + 1) 179 [(2, 1000), (0, v1)] μ (am_res 0 q) := by
  intro v1 μ q h
  unfold M_isBill at h
  refine am_ar_of (d := d + 0) i_M_isBill rfl rfl (Nat.le_of_ble_eq_true rfl) ?_
  show am_run none (am_ar g_mt (d + 0)) 2 (some .boolean) k_M_isBill 0 [(0, (2, 1000)), (1, (0, v1))] [] μ (am_res 0 q)
  refine rn_sls 1 (pc' := 1) (ls' := [(0, (2, 1000)), (1, (0, v1))]) (st' := [(0, v1)]) rfl ?_
  refine rn_if (t := 18) rfl rfl rfl rfl h (fun h => ?_) (fun h => ?_)
  · refine rn_sls 1 (pc' := 19) (ls' := [(0, (2, 1000)), (1, (0, v1))]) (st' := [(0, 0)]) rfl ?_
    exact rn_iretb rfl rfl rfl (Or.inl rfl) h rfl
  · refine rn_sls 4 (pc' := 10) (ls' := [(0, (2, 1000)), (1, (0, v1))]) (st' := [(0, 1), (2, 1013), (0, v1)]) rfl ?_
    refine rn_iald (n := 6) rfl rfl rfl h (fun a1 h => ?_)
    refine rn_icmpn (t := 18) rfl rfl rfl rfl h (fun h => ?_) (fun h => ?_)
    · refine rn_sls 1 (pc' := 15) (ls' := [(0, (2, 1000)), (1, (0, v1))]) (st' := [(0, 1)]) rfl ?_
      refine rn_goto (t := 19) rfl rfl rfl ?_
      exact rn_iretb rfl rfl rfl (Or.inr rfl) h rfl
    · refine rn_sls 1 (pc' := 19) (ls' := [(0, (2, 1000)), (1, (0, v1))]) (st' := [(0, 0)]) rfl ?_
      exact rn_iretb rfl rfl rfl (Or.inl rfl) h rfl
set_option maxRecDepth 20000 in
theorem t_M_isSlip (d : Nat) : ∀ (v1 : Int) (v2 : Int) (μ : am_M) q, M_isSlip v1 v2 μ = some q → am_ar g_mt (d + 1) 180 [(2, 1000), (0, v1), (0, v2)] μ (am_res 0 q) := by
  intro v1 v2 μ q h
  unfold M_isSlip at h
  refine am_ar_of (d := d + 0) i_M_isSlip rfl rfl (Nat.le_of_ble_eq_true rfl) ?_
  show am_run none (am_ar g_mt (d + 0)) 3 (some .boolean) k_M_isSlip 0 [(0, (2, 1000)), (1, (0, v1)), (2, (0, v2))] [] μ (am_res 0 q)
  refine rn_sls 1 (pc' := 1) (ls' := [(0, (2, 1000)), (1, (0, v1)), (2, (0, v2))]) (st' := [(0, v2)]) rfl ?_
  refine rn_if (t := 18) rfl rfl rfl rfl h (fun h => ?_) (fun h => ?_)
  · refine rn_sls 1 (pc' := 19) (ls' := [(0, (2, 1000)), (1, (0, v1)), (2, (0, v2))]) (st' := [(0, 0)]) rfl ?_
    exact rn_iretb rfl rfl rfl (Or.inl rfl) h rfl
  · refine rn_sls 4 (pc' := 10) (ls' := [(0, (2, 1000)), (1, (0, v1)), (2, (0, v2))]) (st' := [(0, v1), (2, 1020), (0, v2)]) rfl ?_
    refine rn_iald (n := 8) rfl rfl rfl h (fun a1 h => ?_)
    refine rn_icmpn (t := 18) rfl rfl rfl rfl h (fun h => ?_) (fun h => ?_)
    · refine rn_sls 1 (pc' := 15) (ls' := [(0, (2, 1000)), (1, (0, v1)), (2, (0, v2))]) (st' := [(0, 1)]) rfl ?_
      refine rn_goto (t := 19) rfl rfl rfl ?_
      exact rn_iretb rfl rfl rfl (Or.inr rfl) h rfl
    · refine rn_sls 1 (pc' := 19) (ls' := [(0, (2, 1000)), (1, (0, v1)), (2, (0, v2))]) (st' := [(0, 0)]) rfl ?_
      exact rn_iretb rfl rfl rfl (Or.inl rfl) h rfl
set_option maxRecDepth 20000 in
theorem t_M_readsMany_B48 (d : Nat) (k9 : Int → Int → Int → am_M → am_O) (hk9 : ∀ (v1 : Int) (v2 : Int) (v3 : Int) (μ : am_M) q, k9 v1 v2 v3 μ = some q → am_run none (am_ar g_mt (d + 1)) 4 (some .int) k_M_readsMany 9 [(0, (2, 1000)), (1, (0, v1)), (2, (0, v2)), (3, (0, v3))] [] μ (am_res 0 q)) : ∀ (v1 : Int) (v3 : Int) (s0 : Int) (s1 : Int) (μ : am_M) q, M_readsMany_B48 k9 v1 v3 s0 s1 μ = some q → am_run none (am_ar g_mt (d + 1)) 4 (some .int) k_M_readsMany 48 [(0, (2, 1000)), (1, (0, v1)), (3, (0, v3))] [(0, s1), (0, s0)] μ (am_res 0 q) := by
  intro v1 v3 s0 s1 μ q h
  unfold M_readsMany_B48 at h
  refine rn_sls 3 (pc' := 53) (ls' := [(3, (0, (w32 (v3 + 1)))), (2, (0, (w32 (s0 + s1)))), (0, (2, 1000)), (1, (0, v1))]) (st' := []) rfl ?_
  refine rn_goto (t := 9) rfl rfl rfl ?_
  exact rn_sub [2, 3, 1, 0] rfl (hk9 _ _ _ _ _ h)
set_option maxRecDepth 20000 in
theorem t_M_readsMany_B82 (d : Nat) (k58 : Int → Int → Int → am_M → am_O) (hk58 : ∀ (v1 : Int) (v2 : Int) (v3 : Int) (μ : am_M) q, k58 v1 v2 v3 μ = some q → am_run none (am_ar g_mt (d + 1)) 4 (some .int) k_M_readsMany 58 [(0, (2, 1000)), (1, (0, v1)), (2, (0, v2)), (3, (0, v3))] [] μ (am_res 0 q)) : ∀ (v1 : Int) (v3 : Int) (s0 : Int) (s1 : Int) (μ : am_M) q, M_readsMany_B82 k58 v1 v3 s0 s1 μ = some q → am_run none (am_ar g_mt (d + 1)) 4 (some .int) k_M_readsMany 82 [(0, (2, 1000)), (1, (0, v1)), (3, (0, v3))] [(0, s1), (0, s0)] μ (am_res 0 q) := by
  intro v1 v3 s0 s1 μ q h
  unfold M_readsMany_B82 at h
  refine rn_sls 3 (pc' := 87) (ls' := [(3, (0, (w32 (v3 + 1)))), (2, (0, (w32 (s0 + s1)))), (0, (2, 1000)), (1, (0, v1))]) (st' := []) rfl ?_
  refine rn_goto (t := 58) rfl rfl rfl ?_
  exact rn_sub [2, 3, 1, 0] rfl (hk58 _ _ _ _ _ h)
set_option maxRecDepth 20000 in
theorem t_M_readsMany_L58_b (d : Nat) (k58 : Int → Int → Int → am_M → am_O) (hk58 : ∀ (v1 : Int) (v2 : Int) (v3 : Int) (μ : am_M) q, k58 v1 v2 v3 μ = some q → am_run none (am_ar g_mt (d + 1)) 4 (some .int) k_M_readsMany 58 [(0, (2, 1000)), (1, (0, v1)), (2, (0, v2)), (3, (0, v3))] [] μ (am_res 0 q)) : ∀ (v1 : Int) (v2 : Int) (v3 : Int) (μ : am_M) q, M_readsMany_L58_b k58 v1 v2 v3 μ = some q → am_run none (am_ar g_mt (d + 1)) 4 (some .int) k_M_readsMany 58 [(0, (2, 1000)), (1, (0, v1)), (2, (0, v2)), (3, (0, v3))] [] μ (am_res 0 q) := by
  intro v1 v2 v3 μ q h
  unfold M_readsMany_L58_b at h
  refine rn_sls 2 (pc' := 60) (ls' := [(0, (2, 1000)), (1, (0, v1)), (2, (0, v2)), (3, (0, v3))]) (st' := [(0, 4), (0, v3)]) rfl ?_
  refine rn_icmpn (t := 90) rfl rfl rfl rfl h (fun h => ?_) (fun h => ?_)
  · refine rn_sls 8 (pc' := 73) (ls' := [(0, (2, 1000)), (1, (0, v1)), (2, (0, v2)), (3, (0, v3))]) (st' := [(0, (w32 ((w32 (4 * v1)) + v3))), (2, 1007), (0, v2)]) rfl ?_
    refine rn_iald (n := 480) rfl rfl rfl h (fun a1 h => ?_)
    refine rn_if (t := 81) rfl rfl rfl rfl h (fun h => ?_) (fun h => ?_)
    · refine rn_sls 1 (pc' := 82) (ls' := [(0, (2, 1000)), (1, (0, v1)), (2, (0, v2)), (3, (0, v3))]) (st' := [(0, 0), (0, v2)]) rfl ?_
      exact rn_sub [0, 1, 3] rfl (t_M_readsMany_B82 d k58 hk58 _ _ _ _ _ _ h)
    · refine rn_sls 1 (pc' := 78) (ls' := [(0, (2, 1000)), (1, (0, v1)), (2, (0, v2)), (3, (0, v3))]) (st' := [(0, 1), (0, v2)]) rfl ?_
      refine rn_goto (t := 82) rfl rfl rfl ?_
      exact rn_sub [0, 1, 3] rfl (t_M_readsMany_B82 d k58 hk58 _ _ _ _ _ _ h)
  · refine rn_sls 1 (pc' := 91) (ls' := [(0, (2, 1000)), (1, (0, v1)), (2, (0, v2)), (3, (0, v3))]) (st' := [(0, v2)]) rfl ?_
    exact rn_ireti rfl rfl rfl h rfl
set_option maxRecDepth 20000 in
theorem t_M_readsMany_L58 (d : Nat) : ∀ (n : Nat) (v1 : Int) (v2 : Int) (v3 : Int) (μ : am_M) q, M_readsMany_L58 n v1 v2 v3 μ = some q → am_run none (am_ar g_mt (d + 1)) 4 (some .int) k_M_readsMany 58 [(0, (2, 1000)), (1, (0, v1)), (2, (0, v2)), (3, (0, v3))] [] μ (am_res 0 q) := by
  intro n
  induction n with
  | zero => intro v1 v2 v3 μ q h; cases h
  | succ n ih => intro v1 v2 v3 μ q h; exact t_M_readsMany_L58_b d (M_readsMany_L58 n) ih v1 v2 v3 μ q h
set_option maxRecDepth 20000 in
theorem t_M_readsMany_B56 (d : Nat) : ∀ (v1 : Int) (v2 : Int) (μ : am_M) q, M_readsMany_B56 v1 v2 μ = some q → am_run none (am_ar g_mt (d + 1)) 4 (some .int) k_M_readsMany 56 [(0, (2, 1000)), (1, (0, v1)), (2, (0, v2))] [] μ (am_res 0 q) := by
  intro v1 v2 μ q h
  unfold M_readsMany_B56 at h
  refine rn_sls 2 (pc' := 58) (ls' := [(3, (0, 0)), (0, (2, 1000)), (1, (0, v1)), (2, (0, v2))]) (st' := []) rfl ?_
  exact rn_sub [1, 2, 3, 0] rfl (t_M_readsMany_L58 d  am_FU _ _ _ _ _ h)
set_option maxRecDepth 20000 in
theorem t_M_readsMany_L9_b (d : Nat) (k9 : Int → Int → Int → am_M → am_O) (hk9 : ∀ (v1 : Int) (v2 : Int) (v3 : Int) (μ : am_M) q, k9 v1 v2 v3 μ = some q → am_run none (am_ar g_mt (d + 1)) 4 (some .int) k_M_readsMany 9 [(0, (2, 1000)), (1, (0, v1)), (2, (0, v2)), (3, (0, v3))] [] μ (am_res 0 q)) : ∀ (v1 : Int) (v2 : Int) (v3 : Int) (μ : am_M) q, M_readsMany_L9_b k9 v1 v2 v3 μ = some q → am_run none (am_ar g_mt (d + 1)) 4 (some .int) k_M_readsMany 9 [(0, (2, 1000)), (1, (0, v1)), (2, (0, v2)), (3, (0, v3))] [] μ (am_res 0 q) := by
  intro v1 v2 v3 μ q h
  unfold M_readsMany_L9_b at h
  refine rn_sls 4 (pc' := 15) (ls' := [(0, (2, 1000)), (1, (0, v1)), (2, (0, v2)), (3, (0, v3))]) (st' := [(0, v1), (2, 1011), (0, v3)]) rfl ?_
  refine rn_iald (n := 120) rfl rfl rfl h (fun a1 h => ?_)
  refine rn_icmpn (t := 56) rfl rfl rfl rfl h (fun h => ?_) (fun h => ?_)
  · refine rn_sls 2 (pc' := 21) (ls' := [(0, (2, 1000)), (1, (0, v1)), (2, (0, v2)), (3, (0, v3))]) (st' := [(0, v1), (2, 1000)]) rfl ?_
    refine rn_call 0 0 [(2, 1000), (0, v1)] (r := []) rfl ⟨rfl, Or.inl ⟨_, rfl, by decide⟩⟩ (by decide) (fun _ => ⟨_, rfl, rfl⟩) rfl rfl (Nat.le_of_ble_eq_true rfl) h (fun w hw => t_M_hasE (d + 0) _ _ _ hw) (fun a2 μ3 h => ?_)
    refine rn_sls 0 (pc' := 24) (ls' := [(0, (2, 1000)), (1, (0, v1)), (2, (0, v2)), (3, (0, v3))]) (st' := [(0, a2)]) rfl ?_
    refine rn_if (t := 56) rfl rfl rfl rfl h (fun h => ?_) (fun h => ?_)
    · exact rn_sub [0, 1, 2] rfl (t_M_readsMany_B56 d  _ _ _ _ h)
    · refine rn_sls 4 (pc' := 33) (ls' := [(0, (2, 1000)), (1, (0, v1)), (2, (0, v2)), (3, (0, v3))]) (st' := [(0, v3), (2, 1012), (0, v2)]) rfl ?_
      refine rn_iald (n := 2000) rfl rfl rfl h (fun a4 h => ?_)
      refine rn_sls 2 (pc' := 37) (ls' := [(0, (2, 1000)), (1, (0, v1)), (2, (0, v2)), (3, (0, v3))]) (st' := [(0, 10), (0, 1), (0, a4), (0, v2)]) rfl ?_
      refine rn_call 2 0 [(0, a4), (0, 1), (0, 10)] (r := [(0, v2)]) rfl ⟨rfl, Or.inr ⟨_, rfl, by decide⟩⟩ (by decide) (fun z => absurd z (by decide)) rfl rfl (Nat.le_of_ble_eq_true rfl) h (fun w hw => t_M_within (d + 0) _ _ _ _ _ hw) (fun a5 μ6 h => ?_)
      refine rn_sls 0 (pc' := 40) (ls' := [(0, (2, 1000)), (1, (0, v1)), (2, (0, v2)), (3, (0, v3))]) (st' := [(0, a5), (0, v2)]) rfl ?_
      refine rn_if (t := 47) rfl rfl rfl rfl h (fun h => ?_) (fun h => ?_)
      · refine rn_sls 1 (pc' := 48) (ls' := [(0, (2, 1000)), (1, (0, v1)), (2, (0, v2)), (3, (0, v3))]) (st' := [(0, 0), (0, v2)]) rfl ?_
        exact rn_sub [0, 1, 3] rfl (t_M_readsMany_B48 d k9 hk9 _ _ _ _ _ _ h)
      · refine rn_sls 1 (pc' := 44) (ls' := [(0, (2, 1000)), (1, (0, v1)), (2, (0, v2)), (3, (0, v3))]) (st' := [(0, 1), (0, v2)]) rfl ?_
        refine rn_goto (t := 48) rfl rfl rfl ?_
        exact rn_sub [0, 1, 3] rfl (t_M_readsMany_B48 d k9 hk9 _ _ _ _ _ _ h)
  · exact rn_sub [0, 1, 2] rfl (t_M_readsMany_B56 d  _ _ _ _ h)
set_option maxRecDepth 20000 in
theorem t_M_readsMany_L9 (d : Nat) : ∀ (n : Nat) (v1 : Int) (v2 : Int) (v3 : Int) (μ : am_M) q, M_readsMany_L9 n v1 v2 v3 μ = some q → am_run none (am_ar g_mt (d + 1)) 4 (some .int) k_M_readsMany 9 [(0, (2, 1000)), (1, (0, v1)), (2, (0, v2)), (3, (0, v3))] [] μ (am_res 0 q) := by
  intro n
  induction n with
  | zero => intro v1 v2 v3 μ q h; cases h
  | succ n ih => intro v1 v2 v3 μ q h; exact t_M_readsMany_L9_b d (M_readsMany_L9 n) ih v1 v2 v3 μ q h
set_option maxRecDepth 20000 in
theorem t_M_readsMany (d : Nat) : ∀ (v1 : Int) (μ : am_M) q, M_readsMany v1 μ = some q → am_ar g_mt (d + 2) 183 [(2, 1000), (0, v1)] μ (am_res 0 q) := by
  intro v1 μ q h
  unfold M_readsMany at h
  refine am_ar_of (d := d + 1) i_M_readsMany rfl rfl (Nat.le_of_ble_eq_true rfl) ?_
  show am_run none (am_ar g_mt (d + 1)) 4 (some .int) k_M_readsMany 0 [(0, (2, 1000)), (1, (0, v1))] [] μ (am_res 0 q)
  refine rn_sls 5 (pc' := 7) (ls' := [(2, (0, 0)), (0, (2, 1000)), (1, (0, v1))]) (st' := [(0, v1), (2, 1010)]) rfl ?_
  refine rn_iald (n := 120) rfl rfl rfl h (fun a1 h => ?_)
  refine rn_sls 1 (pc' := 9) (ls' := [(3, (0, a1)), (2, (0, 0)), (0, (2, 1000)), (1, (0, v1))]) (st' := []) rfl ?_
  exact rn_sub [2, 3, 1, 0] rfl (t_M_readsMany_L9 d  am_FU _ _ _ _ _ h)
set_option maxRecDepth 20000 in
theorem t_M_readsOf_B48 (d : Nat) (k10 : Int → Int → Int → Int → am_M → am_O) (hk10 : ∀ (v1 : Int) (v2 : Int) (v3 : Int) (v4 : Int) (μ : am_M) q, k10 v1 v2 v3 v4 μ = some q → am_run none (am_ar g_mt (d + 1)) 5 (some .int) k_M_readsOf 10 [(0, (2, 1000)), (1, (0, v1)), (2, (0, v2)), (3, (0, v3)), (4, (0, v4))] [] μ (am_res 0 q)) : ∀ (v1 : Int) (v2 : Int) (v4 : Int) (s0 : Int) (s1 : Int) (μ : am_M) q, M_readsOf_B48 k10 v1 v2 v4 s0 s1 μ = some q → am_run none (am_ar g_mt (d + 1)) 5 (some .int) k_M_readsOf 48 [(0, (2, 1000)), (1, (0, v1)), (2, (0, v2)), (4, (0, v4))] [(0, s1), (0, s0)] μ (am_res 0 q) := by
  intro v1 v2 v4 s0 s1 μ q h
  unfold M_readsOf_B48 at h
  refine rn_sls 3 (pc' := 53) (ls' := [(4, (0, (w32 (v4 + 1)))), (3, (0, (w32 (s0 + s1)))), (0, (2, 1000)), (1, (0, v1)), (2, (0, v2))]) (st' := []) rfl ?_
  refine rn_goto (t := 10) rfl rfl rfl ?_
  exact rn_sub [2, 3, 4, 1, 0] rfl (hk10 _ _ _ _ _ _ h)
set_option maxRecDepth 20000 in
theorem t_M_readsOf_B86 (d : Nat) (k59 : Int → Int → Int → Int → am_M → am_O) (hk59 : ∀ (v1 : Int) (v2 : Int) (v3 : Int) (v4 : Int) (μ : am_M) q, k59 v1 v2 v3 v4 μ = some q → am_run none (am_ar g_mt (d + 1)) 5 (some .int) k_M_readsOf 59 [(0, (2, 1000)), (1, (0, v1)), (2, (0, v2)), (3, (0, v3)), (4, (0, v4))] [] μ (am_res 0 q)) : ∀ (v1 : Int) (v2 : Int) (v4 : Int) (s0 : Int) (s1 : Int) (μ : am_M) q, M_readsOf_B86 k59 v1 v2 v4 s0 s1 μ = some q → am_run none (am_ar g_mt (d + 1)) 5 (some .int) k_M_readsOf 86 [(0, (2, 1000)), (1, (0, v1)), (2, (0, v2)), (4, (0, v4))] [(0, s1), (0, s0)] μ (am_res 0 q) := by
  intro v1 v2 v4 s0 s1 μ q h
  unfold M_readsOf_B86 at h
  refine rn_sls 3 (pc' := 91) (ls' := [(4, (0, (w32 (v4 + 1)))), (3, (0, (w32 (s0 + s1)))), (0, (2, 1000)), (1, (0, v1)), (2, (0, v2))]) (st' := []) rfl ?_
  refine rn_goto (t := 59) rfl rfl rfl ?_
  exact rn_sub [2, 3, 4, 1, 0] rfl (hk59 _ _ _ _ _ _ h)
set_option maxRecDepth 20000 in
theorem t_M_readsOf_L59_b (d : Nat) (k59 : Int → Int → Int → Int → am_M → am_O) (hk59 : ∀ (v1 : Int) (v2 : Int) (v3 : Int) (v4 : Int) (μ : am_M) q, k59 v1 v2 v3 v4 μ = some q → am_run none (am_ar g_mt (d + 1)) 5 (some .int) k_M_readsOf 59 [(0, (2, 1000)), (1, (0, v1)), (2, (0, v2)), (3, (0, v3)), (4, (0, v4))] [] μ (am_res 0 q)) : ∀ (v1 : Int) (v2 : Int) (v3 : Int) (v4 : Int) (μ : am_M) q, M_readsOf_L59_b k59 v1 v2 v3 v4 μ = some q → am_run none (am_ar g_mt (d + 1)) 5 (some .int) k_M_readsOf 59 [(0, (2, 1000)), (1, (0, v1)), (2, (0, v2)), (3, (0, v3)), (4, (0, v4))] [] μ (am_res 0 q) := by
  intro v1 v2 v3 v4 μ q h
  unfold M_readsOf_L59_b at h
  refine rn_sls 2 (pc' := 62) (ls' := [(0, (2, 1000)), (1, (0, v1)), (2, (0, v2)), (3, (0, v3)), (4, (0, v4))]) (st' := [(0, 4), (0, v4)]) rfl ?_
  refine rn_icmpn (t := 94) rfl rfl rfl rfl h (fun h => ?_) (fun h => ?_)
  · refine rn_sls 8 (pc' := 76) (ls' := [(0, (2, 1000)), (1, (0, v1)), (2, (0, v2)), (3, (0, v3)), (4, (0, v4))]) (st' := [(0, (w32 ((w32 (4 * v1)) + v4))), (2, 1007), (0, v3)]) rfl ?_
    refine rn_iald (n := 480) rfl rfl rfl h (fun a1 h => ?_)
    refine rn_sls 1 (pc' := 78) (ls' := [(0, (2, 1000)), (1, (0, v1)), (2, (0, v2)), (3, (0, v3)), (4, (0, v4))]) (st' := [(0, v2), (0, a1), (0, v3)]) rfl ?_
    refine rn_icmpn (t := 85) rfl rfl rfl rfl h (fun h => ?_) (fun h => ?_)
    · refine rn_sls 1 (pc' := 82) (ls' := [(0, (2, 1000)), (1, (0, v1)), (2, (0, v2)), (3, (0, v3)), (4, (0, v4))]) (st' := [(0, 1), (0, v3)]) rfl ?_
      refine rn_goto (t := 86) rfl rfl rfl ?_
      exact rn_sub [0, 1, 2, 4] rfl (t_M_readsOf_B86 d k59 hk59 _ _ _ _ _ _ _ h)
    · refine rn_sls 1 (pc' := 86) (ls' := [(0, (2, 1000)), (1, (0, v1)), (2, (0, v2)), (3, (0, v3)), (4, (0, v4))]) (st' := [(0, 0), (0, v3)]) rfl ?_
      exact rn_sub [0, 1, 2, 4] rfl (t_M_readsOf_B86 d k59 hk59 _ _ _ _ _ _ _ h)
  · refine rn_sls 1 (pc' := 95) (ls' := [(0, (2, 1000)), (1, (0, v1)), (2, (0, v2)), (3, (0, v3)), (4, (0, v4))]) (st' := [(0, v3)]) rfl ?_
    exact rn_ireti rfl rfl rfl h rfl
set_option maxRecDepth 20000 in
theorem t_M_readsOf_L59 (d : Nat) : ∀ (n : Nat) (v1 : Int) (v2 : Int) (v3 : Int) (v4 : Int) (μ : am_M) q, M_readsOf_L59 n v1 v2 v3 v4 μ = some q → am_run none (am_ar g_mt (d + 1)) 5 (some .int) k_M_readsOf 59 [(0, (2, 1000)), (1, (0, v1)), (2, (0, v2)), (3, (0, v3)), (4, (0, v4))] [] μ (am_res 0 q) := by
  intro n
  induction n with
  | zero => intro v1 v2 v3 v4 μ q h; cases h
  | succ n ih => intro v1 v2 v3 v4 μ q h; exact t_M_readsOf_L59_b d (M_readsOf_L59 n) ih v1 v2 v3 v4 μ q h
set_option maxRecDepth 20000 in
theorem t_M_readsOf_B56 (d : Nat) : ∀ (v1 : Int) (v2 : Int) (v3 : Int) (μ : am_M) q, M_readsOf_B56 v1 v2 v3 μ = some q → am_run none (am_ar g_mt (d + 1)) 5 (some .int) k_M_readsOf 56 [(0, (2, 1000)), (1, (0, v1)), (2, (0, v2)), (3, (0, v3))] [] μ (am_res 0 q) := by
  intro v1 v2 v3 μ q h
  unfold M_readsOf_B56 at h
  refine rn_sls 2 (pc' := 59) (ls' := [(4, (0, 0)), (0, (2, 1000)), (1, (0, v1)), (2, (0, v2)), (3, (0, v3))]) (st' := []) rfl ?_
  exact rn_sub [1, 2, 3, 4, 0] rfl (t_M_readsOf_L59 d  am_FU _ _ _ _ _ _ h)
set_option maxRecDepth 20000 in
theorem t_M_readsOf_L10_b (d : Nat) (k10 : Int → Int → Int → Int → am_M → am_O) (hk10 : ∀ (v1 : Int) (v2 : Int) (v3 : Int) (v4 : Int) (μ : am_M) q, k10 v1 v2 v3 v4 μ = some q → am_run none (am_ar g_mt (d + 1)) 5 (some .int) k_M_readsOf 10 [(0, (2, 1000)), (1, (0, v1)), (2, (0, v2)), (3, (0, v3)), (4, (0, v4))] [] μ (am_res 0 q)) : ∀ (v1 : Int) (v2 : Int) (v3 : Int) (v4 : Int) (μ : am_M) q, M_readsOf_L10_b k10 v1 v2 v3 v4 μ = some q → am_run none (am_ar g_mt (d + 1)) 5 (some .int) k_M_readsOf 10 [(0, (2, 1000)), (1, (0, v1)), (2, (0, v2)), (3, (0, v3)), (4, (0, v4))] [] μ (am_res 0 q) := by
  intro v1 v2 v3 v4 μ q h
  unfold M_readsOf_L10_b at h
  refine rn_sls 4 (pc' := 17) (ls' := [(0, (2, 1000)), (1, (0, v1)), (2, (0, v2)), (3, (0, v3)), (4, (0, v4))]) (st' := [(0, v1), (2, 1011), (0, v4)]) rfl ?_
  refine rn_iald (n := 120) rfl rfl rfl h (fun a1 h => ?_)
  refine rn_icmpn (t := 56) rfl rfl rfl rfl h (fun h => ?_) (fun h => ?_)
  · refine rn_sls 2 (pc' := 23) (ls' := [(0, (2, 1000)), (1, (0, v1)), (2, (0, v2)), (3, (0, v3)), (4, (0, v4))]) (st' := [(0, v1), (2, 1000)]) rfl ?_
    refine rn_call 0 0 [(2, 1000), (0, v1)] (r := []) rfl ⟨rfl, Or.inl ⟨_, rfl, by decide⟩⟩ (by decide) (fun _ => ⟨_, rfl, rfl⟩) rfl rfl (Nat.le_of_ble_eq_true rfl) h (fun w hw => t_M_hasE (d + 0) _ _ _ hw) (fun a2 μ3 h => ?_)
    refine rn_sls 0 (pc' := 26) (ls' := [(0, (2, 1000)), (1, (0, v1)), (2, (0, v2)), (3, (0, v3)), (4, (0, v4))]) (st' := [(0, a2)]) rfl ?_
    refine rn_if (t := 56) rfl rfl rfl rfl h (fun h => ?_) (fun h => ?_)
    · exact rn_sub [0, 1, 2, 3] rfl (t_M_readsOf_B56 d  _ _ _ _ _ h)
    · refine rn_sls 4 (pc' := 36) (ls' := [(0, (2, 1000)), (1, (0, v1)), (2, (0, v2)), (3, (0, v3)), (4, (0, v4))]) (st' := [(0, v4), (2, 1012), (0, v3)]) rfl ?_
      refine rn_iald (n := 2000) rfl rfl rfl h (fun a4 h => ?_)
      refine rn_sls 3 (pc' := 40) (ls' := [(0, (2, 1000)), (1, (0, v1)), (2, (0, v2)), (3, (0, v3)), (4, (0, v4))]) (st' := [(0, (w32 (1 + v2))), (0, a4), (0, v3)]) rfl ?_
      refine rn_icmpn (t := 47) rfl rfl rfl rfl h (fun h => ?_) (fun h => ?_)
      · refine rn_sls 1 (pc' := 44) (ls' := [(0, (2, 1000)), (1, (0, v1)), (2, (0, v2)), (3, (0, v3)), (4, (0, v4))]) (st' := [(0, 1), (0, v3)]) rfl ?_
        refine rn_goto (t := 48) rfl rfl rfl ?_
        exact rn_sub [0, 1, 2, 4] rfl (t_M_readsOf_B48 d k10 hk10 _ _ _ _ _ _ _ h)
      · refine rn_sls 1 (pc' := 48) (ls' := [(0, (2, 1000)), (1, (0, v1)), (2, (0, v2)), (3, (0, v3)), (4, (0, v4))]) (st' := [(0, 0), (0, v3)]) rfl ?_
        exact rn_sub [0, 1, 2, 4] rfl (t_M_readsOf_B48 d k10 hk10 _ _ _ _ _ _ _ h)
  · exact rn_sub [0, 1, 2, 3] rfl (t_M_readsOf_B56 d  _ _ _ _ _ h)
set_option maxRecDepth 20000 in
theorem t_M_readsOf_L10 (d : Nat) : ∀ (n : Nat) (v1 : Int) (v2 : Int) (v3 : Int) (v4 : Int) (μ : am_M) q, M_readsOf_L10 n v1 v2 v3 v4 μ = some q → am_run none (am_ar g_mt (d + 1)) 5 (some .int) k_M_readsOf 10 [(0, (2, 1000)), (1, (0, v1)), (2, (0, v2)), (3, (0, v3)), (4, (0, v4))] [] μ (am_res 0 q) := by
  intro n
  induction n with
  | zero => intro v1 v2 v3 v4 μ q h; cases h
  | succ n ih => intro v1 v2 v3 v4 μ q h; exact t_M_readsOf_L10_b d (M_readsOf_L10 n) ih v1 v2 v3 v4 μ q h
set_option maxRecDepth 20000 in
theorem t_M_readsOf (d : Nat) : ∀ (v1 : Int) (v2 : Int) (μ : am_M) q, M_readsOf v1 v2 μ = some q → am_ar g_mt (d + 2) 184 [(2, 1000), (0, v1), (0, v2)] μ (am_res 0 q) := by
  intro v1 v2 μ q h
  unfold M_readsOf at h
  refine am_ar_of (d := d + 1) i_M_readsOf rfl rfl (Nat.le_of_ble_eq_true rfl) ?_
  show am_run none (am_ar g_mt (d + 1)) 5 (some .int) k_M_readsOf 0 [(0, (2, 1000)), (1, (0, v1)), (2, (0, v2))] [] μ (am_res 0 q)
  refine rn_sls 5 (pc' := 7) (ls' := [(3, (0, 0)), (0, (2, 1000)), (1, (0, v1)), (2, (0, v2))]) (st' := [(0, v1), (2, 1010)]) rfl ?_
  refine rn_iald (n := 120) rfl rfl rfl h (fun a1 h => ?_)
  refine rn_sls 1 (pc' := 10) (ls' := [(4, (0, a1)), (3, (0, 0)), (0, (2, 1000)), (1, (0, v1)), (2, (0, v2))]) (st' := []) rfl ?_
  exact rn_sub [2, 3, 4, 1, 0] rfl (t_M_readsOf_L10 d  am_FU _ _ _ _ _ _ h)
set_option maxRecDepth 20000 in
theorem t_M_laysOf_B30 (d : Nat) : ∀ (s0 : Int) (s1 : Int) (μ : am_M) q, M_laysOf_B30 s0 s1 μ = some q → am_run none (am_ar g_mt (d + 0)) 3 (some .int) k_M_laysOf 30 [] [(0, s1), (0, s0)] μ (am_res 0 q) := by
  intro s0 s1 μ q h
  unfold M_laysOf_B30 at h
  refine rn_sls 1 (pc' := 31) (ls' := []) (st' := [(0, (w32 (s0 + s1)))]) rfl ?_
  exact rn_ireti rfl rfl rfl h rfl
set_option maxRecDepth 20000 in
theorem t_M_laysOf_B15 (d : Nat) : ∀ (v1 : Int) (v2 : Int) (s0 : Int) (μ : am_M) q, M_laysOf_B15 v1 v2 s0 μ = some q → am_run none (am_ar g_mt (d + 0)) 3 (some .int) k_M_laysOf 15 [(0, (2, 1000)), (1, (0, v1)), (2, (0, v2))] [(0, s0)] μ (am_res 0 q) := by
  intro v1 v2 s0 μ q h
  unfold M_laysOf_B15 at h
  refine rn_sls 3 (pc' := 20) (ls' := [(0, (2, 1000)), (1, (0, v1)), (2, (0, v2))]) (st' := [(0, v1), (2, 1004), (0, s0)]) rfl ?_
  refine rn_iald (n := 120) rfl rfl rfl h (fun a1 h => ?_)
  refine rn_sls 1 (pc' := 22) (ls' := [(0, (2, 1000)), (1, (0, v1)), (2, (0, v2))]) (st' := [(0, v2), (0, a1), (0, s0)]) rfl ?_
  refine rn_icmpn (t := 29) rfl rfl rfl rfl h (fun h => ?_) (fun h => ?_)
  · refine rn_sls 1 (pc' := 26) (ls' := [(0, (2, 1000)), (1, (0, v1)), (2, (0, v2))]) (st' := [(0, 1), (0, s0)]) rfl ?_
    refine rn_goto (t := 30) rfl rfl rfl ?_
    exact rn_sub [] rfl (t_M_laysOf_B30 d  _ _ _ _ h)
  · refine rn_sls 1 (pc' := 30) (ls' := [(0, (2, 1000)), (1, (0, v1)), (2, (0, v2))]) (st' := [(0, 0), (0, s0)]) rfl ?_
    exact rn_sub [] rfl (t_M_laysOf_B30 d  _ _ _ _ h)
set_option maxRecDepth 20000 in
theorem t_M_laysOf (d : Nat) : ∀ (v1 : Int) (v2 : Int) (μ : am_M) q, M_laysOf v1 v2 μ = some q → am_ar g_mt (d + 1) 185 [(2, 1000), (0, v1), (0, v2)] μ (am_res 0 q) := by
  intro v1 v2 μ q h
  unfold M_laysOf at h
  refine am_ar_of (d := d + 0) i_M_laysOf rfl rfl (Nat.le_of_ble_eq_true rfl) ?_
  show am_run none (am_ar g_mt (d + 0)) 3 (some .int) k_M_laysOf 0 [(0, (2, 1000)), (1, (0, v1)), (2, (0, v2))] [] μ (am_res 0 q)
  refine rn_sls 3 (pc' := 5) (ls' := [(0, (2, 1000)), (1, (0, v1)), (2, (0, v2))]) (st' := [(0, v1), (2, 1003)]) rfl ?_
  refine rn_iald (n := 120) rfl rfl rfl h (fun a1 h => ?_)
  refine rn_sls 1 (pc' := 7) (ls' := [(0, (2, 1000)), (1, (0, v1)), (2, (0, v2))]) (st' := [(0, v2), (0, a1)]) rfl ?_
  refine rn_icmpn (t := 14) rfl rfl rfl rfl h (fun h => ?_) (fun h => ?_)
  · refine rn_sls 1 (pc' := 11) (ls' := [(0, (2, 1000)), (1, (0, v1)), (2, (0, v2))]) (st' := [(0, 1)]) rfl ?_
    refine rn_goto (t := 15) rfl rfl rfl ?_
    exact rn_sub [0, 1, 2] rfl (t_M_laysOf_B15 d  _ _ _ _ _ h)
  · refine rn_sls 1 (pc' := 15) (ls' := [(0, (2, 1000)), (1, (0, v1)), (2, (0, v2))]) (st' := [(0, 0)]) rfl ?_
    exact rn_sub [0, 1, 2] rfl (t_M_laysOf_B15 d  _ _ _ _ _ h)
set_option maxRecDepth 20000 in
theorem t_M_line (d : Nat) : ∀ (v1 : Int) (v2 : Int) (μ : am_M) q, M_line v1 v2 μ = some q → am_ar g_mt (d + 3) 186 [(2, 1000), (0, v1), (0, v2)] μ (am_res 0 q) := by
  intro v1 v2 μ q h
  unfold M_line at h
  refine am_ar_of (d := d + 2) i_M_line rfl rfl (Nat.le_of_ble_eq_true rfl) ?_
  show am_run none (am_ar g_mt (d + 2)) 3 (some .int) k_M_line 0 [(0, (2, 1000)), (1, (0, v1)), (2, (0, v2))] [] μ (am_res 0 q)
  refine rn_sls 2 (pc' := 2) (ls' := [(0, (2, 1000)), (1, (0, v1)), (2, (0, v2))]) (st' := [(0, 0), (2, 1000)]) rfl ?_
  refine rn_put rfl rfl rfl rfl (Or.inl ⟨rfl, rfl⟩) rfl h (fun μ1 h => ?_)
  refine rn_sls 1 (pc' := 6) (ls' := [(0, (2, 1000)), (1, (0, v1)), (2, (0, v2))]) (st' := [(0, v1)]) rfl ?_
  refine rn_if (t := 28) rfl rfl rfl rfl h (fun h => ?_) (fun h => ?_)
  · refine rn_sls 1 (pc' := 29) (ls' := [(0, (2, 1000)), (1, (0, v1)), (2, (0, v2))]) (st' := [(0, (-1))]) rfl ?_
    exact rn_ireti rfl rfl rfl h rfl
  · refine rn_sls 4 (pc' := 15) (ls' := [(0, (2, 1000)), (1, (0, v1)), (2, (0, v2))]) (st' := [(0, 2), (2, 1013), (0, v1)]) rfl ?_
    refine rn_iald (n := 6) rfl rfl rfl h (fun a2 h => ?_)
    refine rn_icmpn (t := 28) rfl rfl rfl rfl h (fun h => ?_) (fun h => ?_)
    · refine rn_sls 3 (pc' := 22) (ls' := [(0, (2, 1000)), (1, (0, v1)), (2, (0, v2))]) (st' := [(0, 4), (0, 0), (0, v2)]) rfl ?_
      refine rn_call 2 0 [(0, v2), (0, 0), (0, 4)] (r := []) rfl ⟨rfl, Or.inr ⟨_, rfl, by decide⟩⟩ (by decide) (fun z => absurd z (by decide)) rfl rfl (Nat.le_of_ble_eq_true rfl) h (fun w hw => t_M_within (d + 1) _ _ _ _ _ hw) (fun a3 μ4 h => ?_)
      refine rn_sls 0 (pc' := 25) (ls' := [(0, (2, 1000)), (1, (0, v1)), (2, (0, v2))]) (st' := [(0, a3)]) rfl ?_
      refine rn_ifn (t := 30) rfl rfl rfl rfl h (fun h => ?_) (fun h => ?_)
      · refine rn_sls 1 (pc' := 29) (ls' := [(0, (2, 1000)), (1, (0, v1)), (2, (0, v2))]) (st' := [(0, (-1))]) rfl ?_
        exact rn_ireti rfl rfl rfl h rfl
      · refine rn_sls 1 (pc' := 31) (ls' := [(0, (2, 1000)), (1, (0, v1)), (2, (0, v2))]) (st' := [(0, v2)]) rfl ?_
        refine rn_ifn (t := 43) rfl rfl rfl rfl h (fun h => ?_) (fun h => ?_)
        · refine rn_sls 3 (pc' := 39) (ls' := [(0, (2, 1000)), (1, (0, v1)), (2, (0, v2))]) (st' := [(0, v1), (2, 1002)]) rfl ?_
          refine rn_iald (n := 120) rfl rfl rfl h (fun a10 h => ?_)
          refine rn_goto (t := 90) rfl rfl rfl ?_
          exact rn_ireti rfl rfl rfl h rfl
        · refine rn_sls 2 (pc' := 45) (ls' := [(0, (2, 1000)), (1, (0, v1)), (2, (0, v2))]) (st' := [(0, 1), (0, v2)]) rfl ?_
          refine rn_icmpn (t := 57) rfl rfl rfl rfl h (fun h => ?_) (fun h => ?_)
          · refine rn_sls 3 (pc' := 53) (ls' := [(0, (2, 1000)), (1, (0, v1)), (2, (0, v2))]) (st' := [(0, v1), (2, 1003)]) rfl ?_
            refine rn_iald (n := 120) rfl rfl rfl h (fun a9 h => ?_)
            refine rn_goto (t := 90) rfl rfl rfl ?_
            exact rn_ireti rfl rfl rfl h rfl
          · refine rn_sls 2 (pc' := 59) (ls' := [(0, (2, 1000)), (1, (0, v1)), (2, (0, v2))]) (st' := [(0, 2), (0, v2)]) rfl ?_
            refine rn_icmpn (t := 71) rfl rfl rfl rfl h (fun h => ?_) (fun h => ?_)
            · refine rn_sls 3 (pc' := 67) (ls' := [(0, (2, 1000)), (1, (0, v1)), (2, (0, v2))]) (st' := [(0, v1), (2, 1004)]) rfl ?_
              refine rn_iald (n := 120) rfl rfl rfl h (fun a8 h => ?_)
              refine rn_goto (t := 90) rfl rfl rfl ?_
              exact rn_ireti rfl rfl rfl h rfl
            · refine rn_sls 2 (pc' := 73) (ls' := [(0, (2, 1000)), (1, (0, v1)), (2, (0, v2))]) (st' := [(0, 3), (0, v2)]) rfl ?_
              refine rn_icmpn (t := 84) rfl rfl rfl rfl h (fun h => ?_) (fun h => ?_)
              · refine rn_sls 2 (pc' := 78) (ls' := [(0, (2, 1000)), (1, (0, v1)), (2, (0, v2))]) (st' := [(0, v1), (2, 1000)]) rfl ?_
                refine rn_call 0 0 [(2, 1000), (0, v1)] (r := []) rfl ⟨rfl, Or.inl ⟨_, rfl, by decide⟩⟩ (by decide) (fun _ => ⟨_, rfl, rfl⟩) rfl rfl (Nat.le_of_ble_eq_true rfl) h (fun w hw => t_M_readsMany (d + 0) _ _ _ hw) (fun a6 μ7 h => ?_)
                refine rn_sls 0 (pc' := 81) (ls' := [(0, (2, 1000)), (1, (0, v1)), (2, (0, v2))]) (st' := [(0, a6)]) rfl ?_
                refine rn_goto (t := 90) rfl rfl rfl ?_
                exact rn_ireti rfl rfl rfl h rfl
              · refine rn_sls 3 (pc' := 89) (ls' := [(0, (2, 1000)), (1, (0, v1)), (2, (0, v2))]) (st' := [(0, v1), (2, 1006)]) rfl ?_
                refine rn_iald (n := 120) rfl rfl rfl h (fun a5 h => ?_)
                exact rn_ireti rfl rfl rfl h rfl
    · refine rn_sls 1 (pc' := 29) (ls' := [(0, (2, 1000)), (1, (0, v1)), (2, (0, v2))]) (st' := [(0, (-1))]) rfl ?_
      exact rn_ireti rfl rfl rfl h rfl
set_option maxRecDepth 20000 in
theorem t_M_isSound_B93 (d : Nat) (k6 : Int → Int → am_M → am_O) (hk6 : ∀ (v2 : Int) (v3 : Int) (μ : am_M) q, k6 v2 v3 μ = some q → am_run none (am_ar g_mt (d + 1)) 6 (some .boolean) k_M_isSound 6 [(0, (2, 1000)), (2, (0, v2)), (3, (0, v3))] [] μ (am_res 0 q)) (k14 : Int → Int → Int → am_M → am_O) (hk14 : ∀ (v2 : Int) (v3 : Int) (v4 : Int) (μ : am_M) q, k14 v2 v3 v4 μ = some q → am_run none (am_ar g_mt (d + 1)) 6 (some .boolean) k_M_isSound 14 [(0, (2, 1000)), (2, (0, v2)), (3, (0, v3)), (4, (0, v4))] [] μ (am_res 0 q)) (k58 : Int → Int → Int → Int → am_M → am_O) (hk58 : ∀ (v2 : Int) (v3 : Int) (v4 : Int) (v5 : Int) (μ : am_M) q, k58 v2 v3 v4 v5 μ = some q → am_run none (am_ar g_mt (d + 1)) 6 (some .boolean) k_M_isSound 58 [(0, (2, 1000)), (2, (0, v2)), (3, (0, v3)), (4, (0, v4)), (5, (0, v5))] [] μ (am_res 0 q)) : ∀ (v3 : Int) (v4 : Int) (v5 : Int) (s0 : Int) (s1 : Int) (μ : am_M) q, M_isSound_B93 k6 k14 k58 v3 v4 v5 s0 s1 μ = some q → am_run none (am_ar g_mt (d + 1)) 6 (some .boolean) k_M_isSound 93 [(0, (2, 1000)), (3, (0, v3)), (4, (0, v4)), (5, (0, v5))] [(0, s1), (0, s0)] μ (am_res 0 q) := by
  intro v3 v4 v5 s0 s1 μ q h
  unfold M_isSound_B93 at h
  refine rn_sls 3 (pc' := 98) (ls' := [(5, (0, (w32 (v5 + 1)))), (2, (0, (aOr s0 s1))), (0, (2, 1000)), (3, (0, v3)), (4, (0, v4))]) (st' := []) rfl ?_
  refine rn_goto (t := 58) rfl rfl rfl ?_
  exact rn_sub [2, 1, 3, 4, 0] rfl (hk58 _ _ _ _ _ _ h)
set_option maxRecDepth 20000 in
theorem t_M_isSound_B101 (d : Nat) (k6 : Int → Int → am_M → am_O) (hk6 : ∀ (v2 : Int) (v3 : Int) (μ : am_M) q, k6 v2 v3 μ = some q → am_run none (am_ar g_mt (d + 1)) 6 (some .boolean) k_M_isSound 6 [(0, (2, 1000)), (2, (0, v2)), (3, (0, v3))] [] μ (am_res 0 q)) (k14 : Int → Int → Int → am_M → am_O) (hk14 : ∀ (v2 : Int) (v3 : Int) (v4 : Int) (μ : am_M) q, k14 v2 v3 v4 μ = some q → am_run none (am_ar g_mt (d + 1)) 6 (some .boolean) k_M_isSound 14 [(0, (2, 1000)), (2, (0, v2)), (3, (0, v3)), (4, (0, v4))] [] μ (am_res 0 q)) : ∀ (v2 : Int) (v3 : Int) (v4 : Int) (μ : am_M) q, M_isSound_B101 k6 k14 v2 v3 v4 μ = some q → am_run none (am_ar g_mt (d + 1)) 6 (some .boolean) k_M_isSound 101 [(0, (2, 1000)), (2, (0, v2)), (3, (0, v3)), (4, (0, v4))] [] μ (am_res 0 q) := by
  intro v2 v3 v4 μ q h
  unfold M_isSound_B101 at h
  refine rn_sls 1 (pc' := 104) (ls' := [(4, (0, (w32 (v4 + 1)))), (0, (2, 1000)), (2, (0, v2)), (3, (0, v3))]) (st' := []) rfl ?_
  refine rn_goto (t := 14) rfl rfl rfl ?_
  exact rn_sub [1, 2, 3, 0] rfl (hk14 _ _ _ _ _ h)
set_option maxRecDepth 20000 in
theorem t_M_isSound_L58_b (d : Nat) (k6 : Int → Int → am_M → am_O) (hk6 : ∀ (v2 : Int) (v3 : Int) (μ : am_M) q, k6 v2 v3 μ = some q → am_run none (am_ar g_mt (d + 1)) 6 (some .boolean) k_M_isSound 6 [(0, (2, 1000)), (2, (0, v2)), (3, (0, v3))] [] μ (am_res 0 q)) (k14 : Int → Int → Int → am_M → am_O) (hk14 : ∀ (v2 : Int) (v3 : Int) (v4 : Int) (μ : am_M) q, k14 v2 v3 v4 μ = some q → am_run none (am_ar g_mt (d + 1)) 6 (some .boolean) k_M_isSound 14 [(0, (2, 1000)), (2, (0, v2)), (3, (0, v3)), (4, (0, v4))] [] μ (am_res 0 q)) (k58 : Int → Int → Int → Int → am_M → am_O) (hk58 : ∀ (v2 : Int) (v3 : Int) (v4 : Int) (v5 : Int) (μ : am_M) q, k58 v2 v3 v4 v5 μ = some q → am_run none (am_ar g_mt (d + 1)) 6 (some .boolean) k_M_isSound 58 [(0, (2, 1000)), (2, (0, v2)), (3, (0, v3)), (4, (0, v4)), (5, (0, v5))] [] μ (am_res 0 q)) : ∀ (v2 : Int) (v3 : Int) (v4 : Int) (v5 : Int) (μ : am_M) q, M_isSound_L58_b k6 k14 k58 v2 v3 v4 v5 μ = some q → am_run none (am_ar g_mt (d + 1)) 6 (some .boolean) k_M_isSound 58 [(0, (2, 1000)), (2, (0, v2)), (3, (0, v3)), (4, (0, v4)), (5, (0, v5))] [] μ (am_res 0 q) := by
  intro v2 v3 v4 v5 μ q h
  unfold M_isSound_L58_b at h
  refine rn_sls 3 (pc' := 63) (ls' := [(0, (2, 1000)), (2, (0, v2)), (3, (0, v3)), (4, (0, v4)), (5, (0, v5))]) (st' := [(0, v4), (2, 1000), (0, v5)]) rfl ?_
  refine rn_call 0 0 [(2, 1000), (0, v4)] (r := [(0, v5)]) rfl ⟨rfl, Or.inl ⟨_, rfl, by decide⟩⟩ (by decide) (fun _ => ⟨_, rfl, rfl⟩) rfl rfl (Nat.le_of_ble_eq_true rfl) h (fun w hw => t_M_lastLine (d + 0) _ _ _ hw) (fun a1 μ2 h => ?_)
  refine rn_sls 0 (pc' := 66) (ls' := [(0, (2, 1000)), (2, (0, v2)), (3, (0, v3)), (4, (0, v4)), (5, (0, v5))]) (st' := [(0, a1), (0, v5)]) rfl ?_
  refine rn_icmpn (t := 101) rfl rfl rfl rfl h (fun h => ?_) (fun h => ?_)
  · refine rn_sls 4 (pc' := 76) (ls' := [(0, (2, 1000)), (2, (0, v2)), (3, (0, v3)), (4, (0, v4)), (5, (0, v5))]) (st' := [(0, v5), (2, 1006), (0, v2)]) rfl ?_
    refine rn_iald (n := 120) rfl rfl rfl h (fun a3 h => ?_)
    refine rn_if (t := 92) rfl rfl rfl rfl h (fun h => ?_) (fun h => ?_)
    · refine rn_sls 1 (pc' := 93) (ls' := [(0, (2, 1000)), (2, (0, v2)), (3, (0, v3)), (4, (0, v4)), (5, (0, v5))]) (st' := [(0, 0), (0, v2)]) rfl ?_
      exact rn_sub [0, 2, 3, 4] rfl (t_M_isSound_B93 d k6 hk6 k14 hk14 k58 hk58 _ _ _ _ _ _ _ h)
    · refine rn_sls 4 (pc' := 87) (ls' := [(0, (2, 1000)), (2, (0, v2)), (3, (0, v3)), (4, (0, v4)), (5, (0, v5))]) (st' := [(0, v5), (2, 1006), (0, 1), (0, v2)]) rfl ?_
      refine rn_iald (n := 120) rfl rfl rfl h (fun a4 h => ?_)
      refine rn_sls 1 (pc' := 89) (ls' := [(0, (2, 1000)), (2, (0, v2)), (3, (0, v3)), (4, (0, v4)), (5, (0, v5))]) (st' := [(0, (aShl 1 a4)), (0, v2)]) rfl ?_
      refine rn_goto (t := 93) rfl rfl rfl ?_
      exact rn_sub [0, 2, 3, 4] rfl (t_M_isSound_B93 d k6 hk6 k14 hk14 k58 hk58 _ _ _ _ _ _ _ h)
  · exact rn_sub [0, 1, 2, 3] rfl (t_M_isSound_B101 d k6 hk6 k14 hk14 _ _ _ _ _ h)
set_option maxRecDepth 20000 in
theorem t_M_isSound_L58 (d : Nat) (k6 : Int → Int → am_M → am_O) (hk6 : ∀ (v2 : Int) (v3 : Int) (μ : am_M) q, k6 v2 v3 μ = some q → am_run none (am_ar g_mt (d + 1)) 6 (some .boolean) k_M_isSound 6 [(0, (2, 1000)), (2, (0, v2)), (3, (0, v3))] [] μ (am_res 0 q)) (k14 : Int → Int → Int → am_M → am_O) (hk14 : ∀ (v2 : Int) (v3 : Int) (v4 : Int) (μ : am_M) q, k14 v2 v3 v4 μ = some q → am_run none (am_ar g_mt (d + 1)) 6 (some .boolean) k_M_isSound 14 [(0, (2, 1000)), (2, (0, v2)), (3, (0, v3)), (4, (0, v4))] [] μ (am_res 0 q)) : ∀ (n : Nat) (v2 : Int) (v3 : Int) (v4 : Int) (v5 : Int) (μ : am_M) q, M_isSound_L58 k6 k14 n v2 v3 v4 v5 μ = some q → am_run none (am_ar g_mt (d + 1)) 6 (some .boolean) k_M_isSound 58 [(0, (2, 1000)), (2, (0, v2)), (3, (0, v3)), (4, (0, v4)), (5, (0, v5))] [] μ (am_res 0 q) := by
  intro n
  induction n with
  | zero => intro v2 v3 v4 v5 μ q h; cases h
  | succ n ih => intro v2 v3 v4 v5 μ q h; exact t_M_isSound_L58_b d k6 hk6 k14 hk14 (M_isSound_L58 k6 k14 n) ih v2 v3 v4 v5 μ q h
set_option maxRecDepth 20000 in
theorem t_M_isSound_L14_b (d : Nat) (k6 : Int → Int → am_M → am_O) (hk6 : ∀ (v2 : Int) (v3 : Int) (μ : am_M) q, k6 v2 v3 μ = some q → am_run none (am_ar g_mt (d + 1)) 6 (some .boolean) k_M_isSound 6 [(0, (2, 1000)), (2, (0, v2)), (3, (0, v3))] [] μ (am_res 0 q)) (k14 : Int → Int → Int → am_M → am_O) (hk14 : ∀ (v2 : Int) (v3 : Int) (v4 : Int) (μ : am_M) q, k14 v2 v3 v4 μ = some q → am_run none (am_ar g_mt (d + 1)) 6 (some .boolean) k_M_isSound 14 [(0, (2, 1000)), (2, (0, v2)), (3, (0, v3)), (4, (0, v4))] [] μ (am_res 0 q)) : ∀ (v2 : Int) (v3 : Int) (v4 : Int) (μ : am_M) q, M_isSound_L14_b k6 k14 v2 v3 v4 μ = some q → am_run none (am_ar g_mt (d + 1)) 6 (some .boolean) k_M_isSound 14 [(0, (2, 1000)), (2, (0, v2)), (3, (0, v3)), (4, (0, v4))] [] μ (am_res 0 q) := by
  intro v2 v3 v4 μ q h
  unfold M_isSound_L14_b at h
  refine rn_sls 4 (pc' := 21) (ls' := [(0, (2, 1000)), (2, (0, v2)), (3, (0, v3)), (4, (0, v4))]) (st' := [(0, 1), (2, 1013), (0, v4)]) rfl ?_
  refine rn_iald (n := 6) rfl rfl rfl h (fun a1 h => ?_)
  refine rn_icmpn (t := 107) rfl rfl rfl rfl h (fun h => ?_) (fun h => ?_)
  · refine rn_sls 5 (pc' := 31) (ls' := [(0, (2, 1000)), (2, (0, v2)), (3, (0, v3)), (4, (0, v4))]) (st' := [(0, (aAnd (aShr v2 v4) 1))]) rfl ?_
    refine rn_ifn (t := 37) rfl rfl rfl rfl h (fun h => ?_) (fun h => ?_)
    · refine rn_goto (t := 101) rfl rfl rfl ?_
      exact rn_sub [0, 1, 2, 3] rfl (t_M_isSound_B101 d k6 hk6 k14 hk14 _ _ _ _ _ h)
    · refine rn_sls 3 (pc' := 43) (ls' := [(0, (2, 1000)), (2, (0, v2)), (3, (0, v3)), (4, (0, v4))]) (st' := [(0, v4), (2, 1039)]) rfl ?_
      refine rn_iald (n := 4) rfl rfl rfl h (fun a2 h => ?_)
      refine rn_if (t := 49) rfl rfl rfl rfl h (fun h => ?_) (fun h => ?_)
      · refine rn_sls 3 (pc' := 55) (ls' := [(0, (2, 1000)), (2, (0, v2)), (3, (0, v3)), (4, (0, v4))]) (st' := [(0, v4), (2, 1017)]) rfl ?_
        refine rn_iald (n := 8) rfl rfl rfl h (fun a3 h => ?_)
        refine rn_sls 1 (pc' := 58) (ls' := [(5, (0, a3)), (0, (2, 1000)), (2, (0, v2)), (3, (0, v3)), (4, (0, v4))]) (st' := []) rfl ?_
        exact rn_sub [1, 2, 3, 4, 0] rfl (t_M_isSound_L58 d k6 hk6 k14 hk14 am_FU _ _ _ _ _ _ h)
      · refine rn_sls 1 (pc' := 48) (ls' := [(0, (2, 1000)), (2, (0, v2)), (3, (0, v3)), (4, (0, v4))]) (st' := [(0, 0)]) rfl ?_
        exact rn_iretb rfl rfl rfl (Or.inl rfl) h rfl
  · refine rn_sls 1 (pc' := 110) (ls' := [(3, (0, (w32 (v3 + 1)))), (0, (2, 1000)), (2, (0, v2)), (4, (0, v4))]) (st' := []) rfl ?_
    refine rn_goto (t := 6) rfl rfl rfl ?_
    exact rn_sub [1, 2, 0] rfl (hk6 _ _ _ _ h)
set_option maxRecDepth 20000 in
theorem t_M_isSound_L14 (d : Nat) (k6 : Int → Int → am_M → am_O) (hk6 : ∀ (v2 : Int) (v3 : Int) (μ : am_M) q, k6 v2 v3 μ = some q → am_run none (am_ar g_mt (d + 1)) 6 (some .boolean) k_M_isSound 6 [(0, (2, 1000)), (2, (0, v2)), (3, (0, v3))] [] μ (am_res 0 q)) : ∀ (n : Nat) (v2 : Int) (v3 : Int) (v4 : Int) (μ : am_M) q, M_isSound_L14 k6 n v2 v3 v4 μ = some q → am_run none (am_ar g_mt (d + 1)) 6 (some .boolean) k_M_isSound 14 [(0, (2, 1000)), (2, (0, v2)), (3, (0, v3)), (4, (0, v4))] [] μ (am_res 0 q) := by
  intro n
  induction n with
  | zero => intro v2 v3 v4 μ q h; cases h
  | succ n ih => intro v2 v3 v4 μ q h; exact t_M_isSound_L14_b d k6 hk6 (M_isSound_L14 k6 n) ih v2 v3 v4 μ q h
set_option maxRecDepth 20000 in
theorem t_M_isSound_L6_b (d : Nat) (k6 : Int → Int → am_M → am_O) (hk6 : ∀ (v2 : Int) (v3 : Int) (μ : am_M) q, k6 v2 v3 μ = some q → am_run none (am_ar g_mt (d + 1)) 6 (some .boolean) k_M_isSound 6 [(0, (2, 1000)), (2, (0, v2)), (3, (0, v3))] [] μ (am_res 0 q)) : ∀ (v2 : Int) (v3 : Int) (μ : am_M) q, M_isSound_L6_b k6 v2 v3 μ = some q → am_run none (am_ar g_mt (d + 1)) 6 (some .boolean) k_M_isSound 6 [(0, (2, 1000)), (2, (0, v2)), (3, (0, v3))] [] μ (am_res 0 q) := by
  intro v2 v3 μ q h
  unfold M_isSound_L6_b at h
  refine rn_sls 2 (pc' := 8) (ls' := [(0, (2, 1000)), (2, (0, v2)), (3, (0, v3))]) (st' := [(0, 4), (0, v3)]) rfl ?_
  refine rn_icmpn (t := 113) rfl rfl rfl rfl h (fun h => ?_) (fun h => ?_)
  · refine rn_sls 2 (pc' := 14) (ls' := [(4, (0, 0)), (0, (2, 1000)), (2, (0, v2)), (3, (0, v3))]) (st' := []) rfl ?_
    exact rn_sub [1, 2, 3, 0] rfl (t_M_isSound_L14 d k6 hk6 am_FU _ _ _ _ _ h)
  · refine rn_sls 1 (pc' := 114) (ls' := [(0, (2, 1000)), (2, (0, v2)), (3, (0, v3))]) (st' := [(0, 1)]) rfl ?_
    exact rn_iretb rfl rfl rfl (Or.inr rfl) h rfl
set_option maxRecDepth 20000 in
theorem t_M_isSound_L6 (d : Nat) : ∀ (n : Nat) (v2 : Int) (v3 : Int) (μ : am_M) q, M_isSound_L6 n v2 v3 μ = some q → am_run none (am_ar g_mt (d + 1)) 6 (some .boolean) k_M_isSound 6 [(0, (2, 1000)), (2, (0, v2)), (3, (0, v3))] [] μ (am_res 0 q) := by
  intro n
  induction n with
  | zero => intro v2 v3 μ q h; cases h
  | succ n ih => intro v2 v3 μ q h; exact t_M_isSound_L6_b d (M_isSound_L6 n) ih v2 v3 μ q h
set_option maxRecDepth 20000 in
theorem t_M_isSound (d : Nat) : ∀ (v1 : Int) (μ : am_M) q, M_isSound v1 μ = some q → am_ar g_mt (d + 2) 194 [(2, 1000), (0, v1)] μ (am_res 0 q) := by
  intro v1 μ q h
  unfold M_isSound at h
  refine am_ar_of (d := d + 1) i_M_isSound rfl rfl (Nat.le_of_ble_eq_true rfl) ?_
  show am_run none (am_ar g_mt (d + 1)) 6 (some .boolean) k_M_isSound 0 [(0, (2, 1000)), (1, (0, v1))] [] μ (am_res 0 q)
  refine rn_sls 6 (pc' := 6) (ls' := [(3, (0, 0)), (2, (0, (aShl 1 v1))), (0, (2, 1000)), (1, (0, v1))]) (st' := []) rfl ?_
  exact rn_sub [2, 1, 0] rfl (t_M_isSound_L6 d  am_FU _ _ _ _ h)
