/-! given, slip, free: of the class, and the law's around them. -/
theorem ru_iret {X : am_X} {CR : am_CR} {nL : Nat} {rt : Option FieldType} {C : List am_E} {pc : Nat} {ls : am_L} {μ : am_M} {res : am_R} {e : am_E} {P : am_P} (hP : am_rul X CR nL rt C res P) {v : Int} (he : am_at C pc = some e) (hi : e.2.1 = .ireturn) (hr : rt = some .int) (hres : res = (some (0, v), μ)) : P pc ls [(0, v)] μ := hP.2.2.2.2.2.2.2.2.2.2.2.2.2.2.2.2.2.2.2.2.2.1 e pc ls μ v he hi (Or.inl hr) hres
theorem shp_out : am_shp 2000 = some (1, 1) := by decide +kernel
theorem in_l1 {v : am_V} (h : am_in v) : ∀ w ∈ [v], am_in w := fun w hw => by rw [List.mem_singleton.mp hw]; exact h
theorem in_lc {v : am_V} {r : am_S} (h : am_in v) (hr : ∀ w ∈ r, am_in w) : ∀ w ∈ v :: r, am_in w := fun w hw => (List.mem_cons.mp hw).elim (fun z => z ▸ h) (hr w)
theorem in_ref (x : Int) : am_in (2, x) := am_in2 (Nat.le_refl 2)
/-! given -/
theorem xg_r {μ : am_M} (h : μ 300 6 = 2) : am_rx 300 [(2, 0)] μ (some (0, μ 300 7), μ) := ⟨i_X_given, rfl, rfl, Nat.le_of_ble_eq_true rfl, fun P hP => by
  refine ru_sls hP 4 (pc' := 8) (ls' := [(0, (2, 0))]) (st' := [(0, 2), (0, μ 300 6)]) rfl ?_
  refine ru_icT hP (t := 21) rfl rfl rfl h ?_
  refine ru_sls hP 3 (pc' := 28) (ls' := [(0, (2, 0))]) (st' := [(0, μ 300 7)]) rfl ?_
  exact ru_iret hP rfl rfl rfl rfl⟩
theorem xg_t {μ : am_M} (h : μ 300 6 ≠ 2) (P : am_P) (hP : am_rul none (am_ar g_mt 40) 1 (some .int) k_X_given (none, fun _ _ => 0) P) (k : ∀ ls, P 11 ls [] μ) : P 0 (am_args 0 [(2, 0)]) [] μ := by
  refine ru_sls hP 4 (pc' := 8) (ls' := [(0, (2, 0))]) (st' := [(0, 2), (0, μ 300 6)]) rfl ?_
  exact ru_icF hP rfl rfl h (k _)
def rs_given (μ : am_M) : am_R := if μ 300 6 = 2 then (some (0, 0), m_st μ 2000 0 (μ 300 7)) else (some (0, 1), μ)
def y_given : MethodName := ⟨"BurningSlipsLaw", "given", "(LBurningSlips;[J)I"⟩
theorem lg_given (l : Launch) (hl : l.stackTraces = false) (dC : Nat → ClassId) (dI : Nat → Nat → Nat) (ad : Int → Nat) (cT : Nat → ClassId) (sb : Nat) (sa : Nat → Nat) {μ : am_M} (hG : am_G μ) (sz : Nat) : Met l y_given (Cond.codeWith y_given method_3_code 3 (some .int) [(0, 8, 11, 13)] :: am_tG) { frames := 61, cells := 1, slots := 6, locals := 4000 } (am_PcX dC dI ad cT sb sa [(2, 0), (2, 2000)] sz μ) (am_Qc dC dI ad cT sb (va_A (am_wd ad cT μ) sz) (rs_given μ)) 1 6 (va_A (am_wd ad cT μ) sz) := by
  have hin : ∀ v ∈ ([(2, 0), (2, 2000)] : am_S), am_in v := in_lc (in_ref _) (in_l1 (in_ref _))
  by_cases h : μ 300 6 = 2
  · rw [show rs_given μ = (some (0, 0), m_st μ 2000 0 (μ 300 7)) from if_pos h]
    refine am_lawR l dC dI ad cT sb sa (by decide) rfl (Nat.le_of_ble_eq_true rfl) ok_L_given (pcr := 15) (fun P hP k => ?_) d_L_given_15 hin hG sz
    refine ru_sls hP 3 (pc' := 3) (ls' := [(0, (2, 0)), (1, (2, 2000))]) (st' := [(2, 0), (0, 0), (2, 2000)]) rfl ?_
    refine ru_call hP 0 [(2, 0)] (r := [(0, 0), (2, 2000)]) rfl ⟨rfl, Or.inl ⟨_, rfl, by decide⟩⟩ (by decide) (fun _ => ⟨_, rfl, rfl⟩) rfl rfl (Nat.le_of_ble_eq_true rfl) (xg_r h) ?_
    refine ru_sls hP 1 (pc' := 7) (ls' := [(0, (2, 0)), (1, (2, 2000))]) (st' := [(1, μ 300 7), (0, 0), (2, 2000)]) rfl ?_
    refine ru_last hP (n := 1) rfl rfl shp_out (by decide) (by decide) ?_
    refine ru_goto hP (t := 14) rfl rfl rfl ?_
    refine ru_sls hP 1 (pc' := 15) (ls' := [(0, (2, 0)), (1, (2, 2000))]) (st' := [(0, 0)]) rfl ?_
    exact k _
  · rw [show rs_given μ = (some (0, 1), μ) from if_neg h]
    refine am_lawT l dC dI ad cT sb sa (by decide) rfl (Nat.le_of_ble_eq_true rfl) ok_L_given (j := 300) (idx := 7) (pcc := 3) (pc2 := 13) (I := i_X_given) rfl (by decide) (as2 := [(2, 0)]) (r := [(0, 0), (2, 2000)]) (fun P hP k => ?_) rfl rfl (by decide) (by decide +kernel) rfl (fun sz => am_thrG l hl dC dI ad cT sb sa w_X_given c_X_given rfl rfl (d := 40) (Nat.le_of_ble_eq_true rfl) (i := 0) (pct := 11) (by decide) (xg_t h) d_X_given_11 d_X_given_14 d_X_given_15 d_X_given_17 d_X_given_20 (in_l1 (in_ref _)) hG sz) ?_ d_L_given_13 hin hG sz
    · exact ru_sls hP 3 (pc' := 3) (ls' := [(0, (2, 0)), (1, (2, 2000))]) (st' := [(2, 0), (0, 0), (2, 2000)]) rfl k
    · intro p e R s m args below meth c H locs cells slots Q larr q hx hb h k
      exact lv_astore_n hx hb d_L_given_11 rfl h (by decide) rfl (fun ls _ => lv_iconst hx hb d_L_given_12 rfl (k ls))
/-! slip -/
theorem xs_r {p y : Int} {μ : am_M} (h : μ 300 6 = 1) (hs : Mc_shows 300 p μ = some (1, μ)) (hy : Mc_saying 300 p μ = some (y, μ)) : am_rx 301 [(2, 0), (0, p)] μ (some (0, y), μ) := ⟨i_X_slip, rfl, rfl, Nat.le_of_ble_eq_true rfl, fun P hP => by
  refine ru_sls hP 4 (pc' := 8) (ls' := [(0, (2, 0)), (1, (0, p))]) (st' := [(0, 1), (0, μ 300 6)]) rfl ?_
  refine ru_icF hP rfl rfl (fun z => z h) ?_
  refine ru_sls hP 3 (pc' := 16) (ls' := [(0, (2, 0)), (1, (0, p))]) (st' := [(0, p), (2, 300)]) rfl ?_
  refine ru_call hP 0 [(2, 300), (0, p)] (r := []) rfl ⟨rfl, Or.inl ⟨_, rfl, by decide⟩⟩ (by decide) (fun _ => ⟨_, rfl, rfl⟩) rfl rfl (Nat.le_of_ble_eq_true rfl) (t_Mc_shows 38 _ _ _ _ hs) ?_
  refine ru_ifT hP (t := 32) rfl rfl rfl (show (1 : Int) ≠ 0 by decide) ?_
  refine ru_sls hP 3 (pc' := 37) (ls' := [(0, (2, 0)), (1, (0, p))]) (st' := [(0, p), (2, 300)]) rfl ?_
  refine ru_call hP 0 [(2, 300), (0, p)] (r := []) rfl ⟨rfl, Or.inl ⟨_, rfl, by decide⟩⟩ (by decide) (fun _ => ⟨_, rfl, rfl⟩) rfl rfl (Nat.le_of_ble_eq_true rfl) (t_Mc_saying 38 _ _ _ _ hy) ?_
  exact ru_iret hP rfl rfl rfl rfl⟩
theorem xs_t {p : Int} {μ : am_M} (h : μ 300 6 ≠ 1 ∨ (μ 300 6 = 1 ∧ Mc_shows 300 p μ = some (0, μ))) (P : am_P) (hP : am_rul none (am_ar g_mt 40) 2 (some .int) k_X_slip (none, fun _ _ => 0) P) (k : ∀ ls, P 22 ls [] μ) : P 0 (am_args 0 [(2, 0), (0, p)]) [] μ := by
  refine ru_sls hP 4 (pc' := 8) (ls' := [(0, (2, 0)), (1, (0, p))]) (st' := [(0, 1), (0, μ 300 6)]) rfl ?_
  rcases h with h | ⟨h, hs⟩
  · exact ru_icT hP (t := 22) rfl rfl rfl h (k _)
  · refine ru_icF hP rfl rfl (fun z => z h) ?_
    refine ru_sls hP 3 (pc' := 16) (ls' := [(0, (2, 0)), (1, (0, p))]) (st' := [(0, p), (2, 300)]) rfl ?_
    refine ru_call hP 0 [(2, 300), (0, p)] (r := []) rfl ⟨rfl, Or.inl ⟨_, rfl, by decide⟩⟩ (by decide) (fun _ => ⟨_, rfl, rfl⟩) rfl rfl (Nat.le_of_ble_eq_true rfl) (t_Mc_shows 38 _ _ _ _ hs) ?_
    exact ru_ifF hP rfl rfl (fun z => z rfl) (k _)
def y_slip : MethodName := ⟨"BurningSlipsLaw", "slip", "(LBurningSlips;I[J)I"⟩
theorem lg_slip_r (l : Launch) (dC : Nat → ClassId) (dI : Nat → Nat → Nat) (ad : Int → Nat) (cT : Nat → ClassId) (sb : Nat) (sa : Nat → Nat) {p y : Int} {μ : am_M} (hp : r32 p) (hG : am_G μ) (h : μ 300 6 = 1) (hs : Mc_shows 300 p μ = some (1, μ)) (hy : Mc_saying 300 p μ = some (y, μ)) (sz : Nat) : Met l y_slip (Cond.codeWith y_slip method_4_code 4 (some .int) [(0, 9, 12, 13)] :: am_tG) { frames := 61, cells := 1, slots := 6, locals := 4000 } (am_PcX dC dI ad cT sb sa [(2, 0), (0, p), (2, 2000)] sz μ) (am_Qc dC dI ad cT sb (va_A (am_wd ad cT μ) sz) (some (0, 0), m_st μ 2000 0 y)) 1 6 (va_A (am_wd ad cT μ) sz) := by
  have hin : ∀ v ∈ ([(2, 0), (0, p), (2, 2000)] : am_S), am_in v := in_lc (in_ref _) (in_lc (am_in0 hp) (in_l1 (in_ref _)))
  refine am_lawR l dC dI ad cT sb sa (by decide) rfl (Nat.le_of_ble_eq_true rfl) ok_L_slip (pcr := 16) (fun P hP k => ?_) d_L_slip_16 hin hG sz
  refine ru_sls hP 4 (pc' := 4) (ls' := [(0, (2, 0)), (1, (0, p)), (2, (2, 2000))]) (st' := [(0, p), (2, 0), (0, 0), (2, 2000)]) rfl ?_
  refine ru_call hP 0 [(2, 0), (0, p)] (r := [(0, 0), (2, 2000)]) rfl ⟨rfl, Or.inl ⟨_, rfl, by decide⟩⟩ (by decide) (fun _ => ⟨_, rfl, rfl⟩) rfl rfl (Nat.le_of_ble_eq_true rfl) (xs_r h hs hy) ?_
  refine ru_sls hP 1 (pc' := 8) (ls' := [(0, (2, 0)), (1, (0, p)), (2, (2, 2000))]) (st' := [(1, y), (0, 0), (2, 2000)]) rfl ?_
  refine ru_last hP (n := 1) rfl rfl shp_out (by decide) (by decide) ?_
  refine ru_goto hP (t := 15) rfl rfl rfl ?_
  refine ru_sls hP 1 (pc' := 16) (ls' := [(0, (2, 0)), (1, (0, p)), (2, (2, 2000))]) (st' := [(0, 0)]) rfl ?_
  exact k _
theorem lg_slip_t (l : Launch) (hl : l.stackTraces = false) (dC : Nat → ClassId) (dI : Nat → Nat → Nat) (ad : Int → Nat) (cT : Nat → ClassId) (sb : Nat) (sa : Nat → Nat) {p : Int} {μ : am_M} (hp : r32 p) (hG : am_G μ) (h : μ 300 6 ≠ 1 ∨ (μ 300 6 = 1 ∧ Mc_shows 300 p μ = some (0, μ))) (sz : Nat) : Met l y_slip (Cond.codeWith y_slip method_4_code 4 (some .int) [(0, 9, 12, 13)] :: am_tG) { frames := 61, cells := 1, slots := 6, locals := 4000 } (am_PcX dC dI ad cT sb sa [(2, 0), (0, p), (2, 2000)] sz μ) (am_Qc dC dI ad cT sb (va_A (am_wd ad cT μ) sz) (some (0, 1), μ)) 1 6 (va_A (am_wd ad cT μ) sz) := by
  have hin : ∀ v ∈ ([(2, 0), (0, p), (2, 2000)] : am_S), am_in v := in_lc (in_ref _) (in_lc (am_in0 hp) (in_l1 (in_ref _)))
  refine am_lawT l dC dI ad cT sb sa (by decide) rfl (Nat.le_of_ble_eq_true rfl) ok_L_slip (j := 301) (idx := 15) (pcc := 4) (pc2 := 14) (I := i_X_slip) rfl (by decide) (as2 := [(2, 0), (0, p)]) (r := [(0, 0), (2, 2000)]) (fun P hP k => ?_) rfl rfl (by decide) (by decide +kernel) rfl (fun sz => am_thrG l hl dC dI ad cT sb sa w_X_slip c_X_slip rfl rfl (d := 40) (Nat.le_of_ble_eq_true rfl) (i := 1) (pct := 22) (by decide) (xs_t h) d_X_slip_22 d_X_slip_25 d_X_slip_26 d_X_slip_28 d_X_slip_31 (in_lc (in_ref _) (in_l1 (am_in0 hp))) hG sz) ?_ d_L_slip_14 hin hG sz
  · exact ru_sls hP 4 (pc' := 4) (ls' := [(0, (2, 0)), (1, (0, p)), (2, (2, 2000))]) (st' := [(0, p), (2, 0), (0, 0), (2, 2000)]) rfl k
  · intro p e R s m args below meth c H locs cells slots Q larr q hx hb h k
    exact lv_astore_n hx hb d_L_slip_12 rfl h (by decide) rfl (fun ls _ => lv_iconst hx hb d_L_slip_13 rfl (k ls))
/-! free -/
theorem bOk_O {b : Int} (h : bOk b) : am_isO b 0 = true := by rcases h with h | h <;> (subst h; rfl)
theorem xf_h {v v1 v2 v3 v4 w : Int} {μ : am_M} (hb : bOk (μ 0 8)) (hh : Bi_has (μ 0 8) v μ = some (w, μ)) {C : List am_E} (hC : C = k_X_free) {res : am_R} (P : am_P) (hP : am_rul none (am_ar g_mt 40) 6 (some .int) C res P) (k : P 8 [(0, (2, 0)), (1, (0, v)), (2, (0, v1)), (3, (0, v2)), (4, (0, v3)), (5, (0, v4))] [(0, w)] μ) : P 0 (am_args 0 [(2, 0), (0, v), (0, v1), (0, v2), (0, v3), (0, v4)]) [] μ := by
  subst hC
  refine ru_sls hP 3 (pc' := 5) (ls' := [(0, (2, 0)), (1, (0, v)), (2, (0, v1)), (3, (0, v2)), (4, (0, v3)), (5, (0, v4))]) (st' := [(0, v), (2, μ 0 8)]) rfl ?_
  exact ru_call hP 0 [(2, μ 0 8), (0, v)] (r := []) rfl ⟨rfl, Or.inl ⟨_, rfl, by decide⟩⟩ (by decide) (fun _ => ⟨_, rfl, bOk_O hb⟩) rfl rfl (Nat.le_of_ble_eq_true rfl) (t_Bi_has 39 _ _ _ _ hh) k
theorem xf_g {v v1 v2 v3 v4 r : Int} {μ m1 m2 m3 : am_M} (h1 : Mc_take 310 v1 v2 v3 v4 μ = some (0, m1)) (h2 : Mc_start 310 (m1 0 8) v m1 = some (0, m2)) (h3 : Mc_go 310 (m2 0 8) 3000 m2 = some (r, m3)) {C : List am_E} (hC : C = k_X_free) {res : am_R} (P : am_P) (hP : am_rul none (am_ar g_mt 40) 6 (some .int) C res P) (k : P 69 [(0, (2, 0)), (1, (0, v)), (2, (0, v1)), (3, (0, v2)), (4, (0, v3)), (5, (0, v4))] [(0, 2), (0, m3 310 6)] m3) : P 8 [(0, (2, 0)), (1, (0, v)), (2, (0, v1)), (3, (0, v2)), (4, (0, v3)), (5, (0, v4))] [(0, 1)] μ := by
  subst hC
  refine ru_ifT hP (t := 21) rfl rfl rfl (show (1 : Int) ≠ 0 by decide) ?_
  refine ru_sls hP 6 (pc' := 31) (ls' := [(0, (2, 0)), (1, (0, v)), (2, (0, v1)), (3, (0, v2)), (4, (0, v3)), (5, (0, v4))]) (st' := [(0, v4), (0, v3), (0, v2), (0, v1), (2, 310)]) rfl ?_
  refine ru_call hP 0 [(2, 310), (0, v1), (0, v2), (0, v3), (0, v4)] (r := []) rfl ⟨rfl, Or.inl ⟨_, rfl, by decide⟩⟩ (by decide) (fun _ => ⟨_, rfl, rfl⟩) rfl rfl (Nat.le_of_ble_eq_true rfl) (t_Mc_take 38 _ _ _ _ _ _ _ h1) ?_
  refine ru_sls hP 5 (pc' := 43) (ls' := [(0, (2, 0)), (1, (0, v)), (2, (0, v1)), (3, (0, v2)), (4, (0, v3)), (5, (0, v4))]) (st' := [(0, v), (2, m1 0 8), (2, 310)]) rfl ?_
  refine ru_call hP 0 [(2, 310), (2, m1 0 8), (0, v)] (r := []) rfl ⟨rfl, Or.inl ⟨_, rfl, by decide⟩⟩ (by decide) (fun _ => ⟨_, rfl, rfl⟩) rfl rfl (Nat.le_of_ble_eq_true rfl) (t_Mc_start 36 _ _ _ _ _ h2) ?_
  refine ru_sls hP 5 (pc' := 57) (ls' := [(0, (2, 0)), (1, (0, v)), (2, (0, v1)), (3, (0, v2)), (4, (0, v3)), (5, (0, v4))]) (st' := [(0, 3000), (2, m2 0 8), (2, 310)]) rfl ?_
  refine ru_call hP 0 [(2, 310), (2, m2 0 8), (0, 3000)] (r := []) rfl ⟨rfl, Or.inl ⟨_, rfl, by decide⟩⟩ (by decide) (fun _ => ⟨_, rfl, rfl⟩) rfl rfl (Nat.le_of_ble_eq_true rfl) (t_Mc_go 33 _ _ _ _ _ h3) ?_
  exact ru_sls hP 5 (pc' := 69) (ls' := [(0, (2, 0)), (1, (0, v)), (2, (0, v1)), (3, (0, v2)), (4, (0, v3)), (5, (0, v4))]) (st' := [(0, 2), (0, m3 310 6)]) rfl k
def y_free : MethodName := ⟨"BurningSlipsLaw", "free", "(LBurningSlips;IIIII[J)I"⟩
theorem lg_free_in {v v1 v2 v3 v4 : Int} (r0 : r32 v) (r1 : r32 v1) (r2 : r32 v2) (r3 : r32 v3) (r4 : r32 v4) : ∀ w ∈ ([(2, 0), (0, v), (0, v1), (0, v2), (0, v3), (0, v4)] : am_S), am_in w := in_lc (in_ref _) (in_lc (am_in0 r0) (in_lc (am_in0 r1) (in_lc (am_in0 r2) (in_lc (am_in0 r3) (in_l1 (am_in0 r4))))))
theorem lg_free_in2 {v v1 v2 v3 v4 : Int} (r0 : r32 v) (r1 : r32 v1) (r2 : r32 v2) (r3 : r32 v3) (r4 : r32 v4) : ∀ w ∈ ([(2, 0), (0, v), (0, v1), (0, v2), (0, v3), (0, v4), (2, 2000)] : am_S), am_in w := in_lc (in_ref _) (in_lc (am_in0 r0) (in_lc (am_in0 r1) (in_lc (am_in0 r2) (in_lc (am_in0 r3) (in_lc (am_in0 r4) (in_l1 (in_ref _)))))))
theorem lg_free_r (l : Launch) (dC : Nat → ClassId) (dI : Nat → Nat → Nat) (ad : Int → Nat) (cT : Nat → ClassId) (sb : Nat) (sa : Nat → Nat) {v v1 v2 v3 v4 r : Int} {μ m1 m2 m3 : am_M} (r0 : r32 v) (r1 : r32 v1) (r2 : r32 v2) (r3 : r32 v3) (r4 : r32 v4) (hG : am_G μ) (hb : bOk (μ 0 8)) (hh : Bi_has (μ 0 8) v μ = some (1, μ)) (h1 : Mc_take 310 v1 v2 v3 v4 μ = some (0, m1)) (h2 : Mc_start 310 (m1 0 8) v m1 = some (0, m2)) (h3 : Mc_go 310 (m2 0 8) 3000 m2 = some (r, m3)) (h : m3 310 6 = 2) (sz : Nat) : Met l y_free (Cond.codeWith y_free method_5_code 8 (some .int) [(0, 16, 19, 13)] :: am_tG) { frames := 61, cells := 1, slots := 6, locals := 4000 } (am_PcX dC dI ad cT sb sa [(2, 0), (0, v), (0, v1), (0, v2), (0, v3), (0, v4), (2, 2000)] sz μ) (am_Qc dC dI ad cT sb (va_A (am_wd ad cT μ) sz) (some (0, 0), m_st m3 2000 0 (m3 310 7))) 1 6 (va_A (am_wd ad cT μ) sz) := by
  have hxr : am_rx 302 [(2, 0), (0, v), (0, v1), (0, v2), (0, v3), (0, v4)] μ (some (0, m3 310 7), m3) := ⟨i_X_free, rfl, rfl, Nat.le_of_ble_eq_true rfl, fun P hP => by
    refine xf_h hb hh rfl P hP (xf_g h1 h2 h3 rfl P hP ?_)
    refine ru_icT hP (t := 82) rfl rfl rfl h ?_
    refine ru_sls hP 3 (pc' := 89) (ls' := [(0, (2, 0)), (1, (0, v)), (2, (0, v1)), (3, (0, v2)), (4, (0, v3)), (5, (0, v4))]) (st' := [(0, m3 310 7)]) rfl ?_
    exact ru_iret hP rfl rfl rfl rfl⟩
  refine am_lawR l dC dI ad cT sb sa (by decide) rfl (Nat.le_of_ble_eq_true rfl) ok_L_free (pcr := 24) (fun P hP k => ?_) d_L_free_24 (lg_free_in2 r0 r1 r2 r3 r4) hG sz
  refine ru_sls hP 8 (pc' := 11) (ls' := [(0, (2, 0)), (1, (0, v)), (2, (0, v1)), (3, (0, v2)), (4, (0, v3)), (5, (0, v4)), (6, (2, 2000))]) (st' := [(0, v4), (0, v3), (0, v2), (0, v1), (0, v), (2, 0), (0, 0), (2, 2000)]) rfl ?_
  refine ru_call hP 0 [(2, 0), (0, v), (0, v1), (0, v2), (0, v3), (0, v4)] (r := [(0, 0), (2, 2000)]) rfl ⟨rfl, Or.inl ⟨_, rfl, by decide⟩⟩ (by decide) (fun _ => ⟨_, rfl, rfl⟩) rfl rfl (Nat.le_of_ble_eq_true rfl) hxr ?_
  refine ru_sls hP 1 (pc' := 15) (ls' := [(0, (2, 0)), (1, (0, v)), (2, (0, v1)), (3, (0, v2)), (4, (0, v3)), (5, (0, v4)), (6, (2, 2000))]) (st' := [(1, m3 310 7), (0, 0), (2, 2000)]) rfl ?_
  refine ru_last hP (n := 1) rfl rfl shp_out (by decide) (by decide) ?_
  refine ru_goto hP (t := 23) rfl rfl rfl ?_
  refine ru_sls hP 1 (pc' := 24) (ls' := [(0, (2, 0)), (1, (0, v)), (2, (0, v1)), (3, (0, v2)), (4, (0, v3)), (5, (0, v4)), (6, (2, 2000))]) (st' := [(0, 0)]) rfl ?_
  exact k _
theorem lg_free_t (l : Launch) (dC : Nat → ClassId) (dI : Nat → Nat → Nat) (ad : Int → Nat) (cT : Nat → ClassId) (sb : Nat) (sa : Nat → Nat) {v v1 v2 v3 v4 : Int} {μ μ' : am_M} (r0 : r32 v) (r1 : r32 v1) (r2 : r32 v2) (r3 : r32 v3) (r4 : r32 v4) (hG : am_G μ) (hM : ∀ sz, vx_Met l i_X_free.1 (Cond.code i_X_free.1 i_X_free.2.1 i_X_free.2.2.1 i_X_free.2.2.2.1 :: am_tG) { frames := 50, cells := 1, slots := 6, locals := 64 * (40 + 1) + 200 } (am_PcX dC dI ad cT sb sa [(2, 0), (0, v), (0, v1), (0, v2), (0, v3), (0, v4)] sz μ) (fun _ _ _ _ => False) (am_XC dC dI ad cT (va_A (am_wd ad cT μ) sz) μ') 1 6 (va_A (am_wd ad cT μ) sz)) (sz : Nat) : Met l y_free (Cond.codeWith y_free method_5_code 8 (some .int) [(0, 16, 19, 13)] :: am_tG) { frames := 61, cells := 1, slots := 6, locals := 4000 } (am_PcX dC dI ad cT sb sa [(2, 0), (0, v), (0, v1), (0, v2), (0, v3), (0, v4), (2, 2000)] sz μ) (am_Qc dC dI ad cT sb (va_A (am_wd ad cT μ) sz) (some (0, 1), μ')) 1 6 (va_A (am_wd ad cT μ) sz) := by
  refine am_lawT l dC dI ad cT sb sa (by decide) rfl (Nat.le_of_ble_eq_true rfl) ok_L_free (j := 302) (idx := 19) (pcc := 11) (pc2 := 22) (I := i_X_free) rfl (by decide) (as2 := [(2, 0), (0, v), (0, v1), (0, v2), (0, v3), (0, v4)]) (r := [(0, 0), (2, 2000)]) (fun P hP k => ?_) rfl rfl (by decide) (by decide +kernel) rfl hM ?_ d_L_free_22 (lg_free_in2 r0 r1 r2 r3 r4) hG sz
  · exact ru_sls hP 8 (pc' := 11) (ls' := [(0, (2, 0)), (1, (0, v)), (2, (0, v1)), (3, (0, v2)), (4, (0, v3)), (5, (0, v4)), (6, (2, 2000))]) (st' := [(0, v4), (0, v3), (0, v2), (0, v1), (0, v), (2, 0), (0, 0), (2, 2000)]) rfl k
  · intro p e R s m args below meth c H locs cells slots Q larr q hx hb h k
    exact lv_astore hx hb d_L_free_19 h (by decide) rfl (fun ls _ => lv_iconst hx hb d_L_free_21 rfl (k ls))
theorem lg_free_n (l : Launch) (hl : l.stackTraces = false) (dC : Nat → ClassId) (dI : Nat → Nat → Nat) (ad : Int → Nat) (cT : Nat → ClassId) (sb : Nat) (sa : Nat → Nat) {v v1 v2 v3 v4 : Int} {μ : am_M} (r0 : r32 v) (r1 : r32 v1) (r2 : r32 v2) (r3 : r32 v3) (r4 : r32 v4) (hG : am_G μ) (hb : bOk (μ 0 8)) (hh : Bi_has (μ 0 8) v μ = some (0, μ)) (sz : Nat) : Met l y_free (Cond.codeWith y_free method_5_code 8 (some .int) [(0, 16, 19, 13)] :: am_tG) { frames := 61, cells := 1, slots := 6, locals := 4000 } (am_PcX dC dI ad cT sb sa [(2, 0), (0, v), (0, v1), (0, v2), (0, v3), (0, v4), (2, 2000)] sz μ) (am_Qc dC dI ad cT sb (va_A (am_wd ad cT μ) sz) (some (0, 1), μ)) 1 6 (va_A (am_wd ad cT μ) sz) :=
  lg_free_t l dC dI ad cT sb sa r0 r1 r2 r3 r4 hG (fun sz => am_thrG l hl dC dI ad cT sb sa w_X_free c_X_free rfl rfl (d := 40) (Nat.le_of_ble_eq_true rfl) (i := 2) (pct := 11) (by decide) (fun P hP k => xf_h hb hh rfl P hP (ru_ifF hP rfl rfl (fun z => z rfl) (k _))) d_X_free_11 d_X_free_14 d_X_free_15 d_X_free_17 d_X_free_20 (lg_free_in r0 r1 r2 r3 r4) hG sz) sz
theorem lg_free_u (l : Launch) (hl : l.stackTraces = false) (dC : Nat → ClassId) (dI : Nat → Nat → Nat) (ad : Int → Nat) (cT : Nat → ClassId) (sb : Nat) (sa : Nat → Nat) {v v1 v2 v3 v4 r : Int} {μ m1 m2 m3 : am_M} (r0 : r32 v) (r1 : r32 v1) (r2 : r32 v2) (r3 : r32 v3) (r4 : r32 v4) (hG : am_G μ) (hb : bOk (μ 0 8)) (hh : Bi_has (μ 0 8) v μ = some (1, μ)) (h1 : Mc_take 310 v1 v2 v3 v4 μ = some (0, m1)) (h2 : Mc_start 310 (m1 0 8) v m1 = some (0, m2)) (h3 : Mc_go 310 (m2 0 8) 3000 m2 = some (r, m3)) (h : m3 310 6 ≠ 2) (sz : Nat) : Met l y_free (Cond.codeWith y_free method_5_code 8 (some .int) [(0, 16, 19, 13)] :: am_tG) { frames := 61, cells := 1, slots := 6, locals := 4000 } (am_PcX dC dI ad cT sb sa [(2, 0), (0, v), (0, v1), (0, v2), (0, v3), (0, v4), (2, 2000)] sz μ) (am_Qc dC dI ad cT sb (va_A (am_wd ad cT μ) sz) (some (0, 1), m3)) 1 6 (va_A (am_wd ad cT μ) sz) :=
  lg_free_t l dC dI ad cT sb sa r0 r1 r2 r3 r4 hG (fun sz => am_thrG l hl dC dI ad cT sb sa w_X_free c_X_free rfl rfl (d := 40) (Nat.le_of_ble_eq_true rfl) (i := 3) (pct := 72) (by decide) (fun P hP k => xf_h hb hh rfl P hP (xf_g h1 h2 h3 rfl P hP (ru_icF hP rfl rfl h (k _)))) d_X_free_72 d_X_free_75 d_X_free_76 d_X_free_78 d_X_free_81 (lg_free_in r0 r1 r2 r3 r4) hG sz) sz
