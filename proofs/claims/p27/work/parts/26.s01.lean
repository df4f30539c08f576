/-! What the evaluator says holds of the functions. Printed by program. -/
set_option maxRecDepth 20000 in
theorem s_Rk_reckon_L23 {c : Int} {μ0 : am_M} : ∀ (n N : Nat), n ≤ N → ∀ {v1 : Nat} {x_v1 : Int} (hv1 : vr c v1 x_v1) {v3 : Nat} {x_v3 : Int} (hv3 : vr c v3 x_v3) {v4 : Nat} {x_v4 : Int} (hv4 : vr c v4 x_v4) {v5 : Nat} {x_v5 : Int} (hv5 : vr c v5 x_v5) {v6 : Nat} {x_v6 : Int} (hv6 : vr c v6 x_v6) {v7 : Nat} {x_v7 : Int} (hv7 : vr c v7 x_v7) {t : e_T} {μ : am_M} (hR : e_R c μ0 t μ), so c μ0 (E_Rk_reckon_L23 n v1 v3 v4 v5 v6 v7 t) (Rk_reckon_L23 N x_v1 x_v3 x_v4 x_v5 x_v6 x_v7 μ) := by
  intro n
  induction n with
  | zero => intros; exact so_none
  | succ n ih =>
    intro N hN v1 x_v1 hv1 v3 x_v3 hv3 v4 x_v4 hv4 v5 x_v5 hv5 v6 x_v6 hv6 v7 x_v7 hv7 t μ hR
    obtain ⟨M, rfl⟩ : ∃ M, N = M + 1 := ⟨N - 1, by omega⟩
    exact s_Rk_reckon_L23_b (k23 := E_Rk_reckon_L23 n) (k23x := Rk_reckon_L23 M) (fun hv1 hv3 hv4 hv5 hv6 hv7 hR => ih M (by omega) hv1 hv3 hv4 hv5 hv6 hv7 hR) hv1 hv3 hv4 hv5 hv6 hv7 hR
set_option maxRecDepth 20000 in
theorem s_Rk_reckon {c : Int} {μ0 : am_M} {v1 : Nat} {x_v1 : Int} (hv1 : vr c v1 x_v1) {v2 : Nat} {x_v2 : Int} (hv2 : vr c v2 x_v2) {v3 : Nat} {x_v3 : Int} (hv3 : vr c v3 x_v3) {v4 : Nat} {x_v4 : Int} (hv4 : vr c v4 x_v4) {t : e_T} {μ : am_M} (hR : e_R c μ0 t μ) : so c μ0 (E_Rk_reckon v1 v2 v3 v4 t) (Rk_reckon x_v1 x_v2 x_v3 x_v4 μ) := by
  unfold E_Rk_reckon Rk_reckon
  exact so_gd hv1 <|
    so_F (vr_of 9 rfl hv1) (fun f1 hf1 => so_bd (s_X_at hf1 hv2 hR) (fun a2 _ t3 _ ha2 hR3 =>
    so_F (vr_of 8 rfl hv1) (fun f2 hf2 => so_bd (s_X_at hf2 hv2 hR3) (fun a4 _ t5 _ ha4 hR5 =>
    s_Rk_reckon_L23 4096 am_FU e_FU hv1 hv3 hv4 vl_0 ha2 ha4 hR5))))
set_option maxRecDepth 20000 in
theorem s_Mc_reckoned {c : Int} {μ0 : am_M} {b : Nat} {x_b : Int} (hb : vr c b x_b) {v1 : Nat} {x_v1 : Int} (hv1 : vr c v1 x_v1) {v2 : Nat} {x_v2 : Int} (hv2 : vr c v2 x_v2) {t : e_T} {μ : am_M} (hR : e_R c μ0 t μ) : so c μ0 (E_Mc_reckoned b v1 v2 t) (Mc_reckoned x_b x_v1 x_v2 μ) := by
  unfold E_Mc_reckoned Mc_reckoned
  exact so_gd hb <|
    so_F (vr_of 3 rfl hb) (fun f1 hf1 => so_F (vr_mul (vr_sub (vr_rd hR hb vl_5) vl_1) vl_10) (fun f2 hf2 => so_bd (s_Rk_reckon hv1 hv2 hf1 hf2 hR) (fun a2 _ t3 _ ha2 hR3 =>
    so_ret ha2 hR3)))
set_option maxRecDepth 20000 in
theorem s_Mc_lay {c : Int} {μ0 : am_M} {b : Nat} {x_b : Int} (hb : vr c b x_b) {v1 : Nat} {x_v1 : Int} (hv1 : vr c v1 x_v1) {v2 : Nat} {x_v2 : Int} (hv2 : vr c v2 x_v2) {t : e_T} {μ : am_M} (hR : e_R c μ0 t μ) : so c μ0 (E_Mc_lay b v1 v2 t) (Mc_lay x_b x_v1 x_v2 μ) := by
  unfold E_Mc_lay Mc_lay
  exact so_eq hv1 vl_m1 (so_ret vl_0 hR)
    (so_gd hb <|
    so_F (vr_of 2 rfl hb) (fun f1 hf1 => so_F (vr_sub (vr_rd hR hb vl_5) vl_1) (fun f2 hf2 => so_bd (s_X_at hf1 hf2 hR) (fun a2 _ t3 _ ha2 hR3 =>
    so_F (vr_of 2 rfl hb) (fun f3 hf3 => so_F (vr_sub (vr_rd hR hb vl_5) vl_1) (fun f4 hf4 => so_F (vr_or ha2 (vr_shl vl_1 hv1)) (fun f5 hf5 => so_bd (s_X_put hf3 hf4 hf5 hR3) (fun a4 _ t5 _ ha4 hR5 =>
    so_F (vr_of 3 rfl hb) (fun f6 hf6 => so_F (vr_add (vr_mul (vr_sub (vr_rd hR hb vl_5) vl_1) vl_10) hv1) (fun f7 hf7 => so_bd (s_X_put hf6 hf7 hv2 hR5) (fun a6 _ t7 _ ha6 hR7 =>
    so_ret vl_0 hR7)))))))))))
set_option maxRecDepth 20000 in
theorem s_Mc_dropGone {c : Int} {μ0 : am_M} {b : Nat} {x_b : Int} (hb : vr c b x_b) {v1 : Nat} {x_v1 : Int} (hv1 : vr c v1 x_v1) {v2 : Nat} {x_v2 : Int} (hv2 : vr c v2 x_v2) {t : e_T} {μ : am_M} (hR : e_R c μ0 t μ) : so c μ0 (E_Mc_dropGone b v1 v2 t) (Mc_dropGone x_b x_v1 x_v2 μ) := by
  unfold E_Mc_dropGone Mc_dropGone
  exact so_gd hb <|
    so_eq (vr_rd hR hb vl_1) vl_0 (so_ret vl_0 hR)
    (so_F (vr_of 2 rfl hb) (fun f1 hf1 => so_F (vr_sub (vr_rd hR hb vl_5) vl_1) (fun f2 hf2 => so_bd (s_X_at hf1 hf2 hR) (fun a2 _ t3 _ ha2 hR3 =>
    so_gd hv1 <|
    so_F (vr_of 7 rfl hv1) (fun f3 hf3 => so_bd (s_X_at hf3 hv2 hR3) (fun a5 _ t6 _ ha5 hR6 =>
    so_F (vr_and ha2 ha5) (fun f4 hf4 => so_bd (s_JI_bitCount hf4 hR6) (fun a7 _ t8 _ ha7 hR8 =>
    so_F (vr_add (vr_rd hR6 hb vl_9) ha7) (fun f5 hf5 => so_pf hb vl_9 hf5 hR8 (fun t9 _ hR9 =>
    so_F (vr_of 2 rfl hb) (fun f6 hf6 => so_F (vr_sub (vr_rd hR9 hb vl_5) vl_1) (fun f7 hf7 => so_F (vr_and ha2 (vr_xor ha5 vl_m1)) (fun f8 hf8 => so_bd (s_X_put hf6 hf7 hf8 hR9) (fun a10 _ t11 _ ha10 hR11 =>
    so_ret vl_0 hR11))))))))))))))
set_option maxRecDepth 20000 in
theorem s_Mc_workCall_L40_b {c : Int} {μ0 : am_M} {k40 : Nat → Nat → Nat → Nat → Nat → Nat → Nat → Nat → e_T → e_O} {k40x : Int → Int → Int → Int → Int → Int → Int → Int → am_M → am_O} (hk40 : ∀ {u0 : Nat} {x0 : Int} {u1 : Nat} {x1 : Int} {u2 : Nat} {x2 : Int} {u3 : Nat} {x3 : Int} {u4 : Nat} {x4 : Int} {u5 : Nat} {x5 : Int} {u6 : Nat} {x6 : Int} {u7 : Nat} {x7 : Int} {t : e_T} {μ : am_M}, vr c u0 x0 → vr c u1 x1 → vr c u2 x2 → vr c u3 x3 → vr c u4 x4 → vr c u5 x5 → vr c u6 x6 → vr c u7 x7 → e_R c μ0 t μ → so c μ0 (k40 u0 u1 u2 u3 u4 u5 u6 u7 t) (k40x x0 x1 x2 x3 x4 x5 x6 x7 μ)) {b : Nat} {x_b : Int} (hb : vr c b x_b) {v1 : Nat} {x_v1 : Int} (hv1 : vr c v1 x_v1) {v2 : Nat} {x_v2 : Int} (hv2 : vr c v2 x_v2) {v3 : Nat} {x_v3 : Int} (hv3 : vr c v3 x_v3) {v4 : Nat} {x_v4 : Int} (hv4 : vr c v4 x_v4) {v5 : Nat} {x_v5 : Int} (hv5 : vr c v5 x_v5) {v6 : Nat} {x_v6 : Int} (hv6 : vr c v6 x_v6) {v7 : Nat} {x_v7 : Int} (hv7 : vr c v7 x_v7) {t : e_T} {μ : am_M} (hR : e_R c μ0 t μ) : so c μ0 (E_Mc_workCall_L40_b k40 b v1 v2 v3 v4 v5 v6 v7 t) (Mc_workCall_L40_b k40x x_b x_v1 x_v2 x_v3 x_v4 x_v5 x_v6 x_v7 μ) := by
  unfold E_Mc_workCall_L40_b Mc_workCall_L40_b
  exact so_ltc hv7 hv6 (so_gd hv3 <|
    so_F (vr_of 8 rfl hv3) (fun f1 hf1 => so_bd (s_X_at hf1 hv2 hR) (fun a5 _ t6 _ ha5 hR6 =>
    so_F (vr_add ha5 hv7) (fun f2 hf2 => so_bd (s_Ln_codeNumber hv3 hf2 hR6) (fun a7 _ t8 _ ha7 hR8 =>
    so_gd hb <|
    so_F (vr_of 3 rfl hb) (fun f3 hf3 => so_F (vr_add hv5 ha7) (fun f4 hf4 => so_bd (s_X_at hf3 hf4 hR8) (fun a10 _ t11 _ ha10 hR11 =>
    so_F (vr_of 3 rfl hb) (fun f5 hf5 => so_F (vr_add (vr_add hv5 vl_10) hv7) (fun f6 hf6 => so_bd (s_X_put hf5 hf6 ha10 hR11) (fun a12 _ t13 _ ha12 hR13 =>
    so_F (vr_add hv7 vl_1) (fun f7 hf7 => hk40 hb hv1 hv2 hv3 hv4 hv5 hv6 hf7 hR13))))))))))))
    (so_gd hb <|
    so_bd (s_Mc_enter hb hv1 hv4 hR) (fun a2 _ t3 _ ha2 hR3 =>
    so_ret vl_0 hR3))
set_option maxRecDepth 20000 in
theorem s_Mc_workCall_L40 {c : Int} {μ0 : am_M} : ∀ (n N : Nat), n ≤ N → ∀ {b : Nat} {x_b : Int} (hb : vr c b x_b) {v1 : Nat} {x_v1 : Int} (hv1 : vr c v1 x_v1) {v2 : Nat} {x_v2 : Int} (hv2 : vr c v2 x_v2) {v3 : Nat} {x_v3 : Int} (hv3 : vr c v3 x_v3) {v4 : Nat} {x_v4 : Int} (hv4 : vr c v4 x_v4) {v5 : Nat} {x_v5 : Int} (hv5 : vr c v5 x_v5) {v6 : Nat} {x_v6 : Int} (hv6 : vr c v6 x_v6) {v7 : Nat} {x_v7 : Int} (hv7 : vr c v7 x_v7) {t : e_T} {μ : am_M} (hR : e_R c μ0 t μ), so c μ0 (E_Mc_workCall_L40 n b v1 v2 v3 v4 v5 v6 v7 t) (Mc_workCall_L40 N x_b x_v1 x_v2 x_v3 x_v4 x_v5 x_v6 x_v7 μ) := by
  intro n
  induction n with
  | zero => intros; exact so_none
  | succ n ih =>
    intro N hN b x_b hb v1 x_v1 hv1 v2 x_v2 hv2 v3 x_v3 hv3 v4 x_v4 hv4 v5 x_v5 hv5 v6 x_v6 hv6 v7 x_v7 hv7 t μ hR
    obtain ⟨M, rfl⟩ : ∃ M, N = M + 1 := ⟨N - 1, by omega⟩
    exact s_Mc_workCall_L40_b (k40 := E_Mc_workCall_L40 n) (k40x := Mc_workCall_L40 M) (fun hb hv1 hv2 hv3 hv4 hv5 hv6 hv7 hR => ih M (by omega) hb hv1 hv2 hv3 hv4 hv5 hv6 hv7 hR) hb hv1 hv2 hv3 hv4 hv5 hv6 hv7 hR
set_option maxRecDepth 20000 in
theorem s_Mc_workCall {c : Int} {μ0 : am_M} {b : Nat} {x_b : Int} (hb : vr c b x_b) {v1 : Nat} {x_v1 : Int} (hv1 : vr c v1 x_v1) {v2 : Nat} {x_v2 : Int} (hv2 : vr c v2 x_v2) {t : e_T} {μ : am_M} (hR : e_R c μ0 t μ) : so c μ0 (E_Mc_workCall b v1 v2 t) (Mc_workCall x_b x_v1 x_v2 μ) := by
  unfold E_Mc_workCall Mc_workCall
  exact so_gd hv1 <|
    so_gd (vr_of 1 rfl hv1) <|
    so_F (vr_of 5 rfl (vr_of 1 rfl hv1)) (fun f1 hf1 => so_bd (s_X_at hf1 hv2 hR) (fun a3 _ t4 _ ha3 hR4 =>
    so_gd hb <|
    so_F (vr_of 17 rfl hv1) (fun f2 hf2 => so_bd (s_X_at hf2 ha3 hR4) (fun a6 _ t7 _ ha6 hR7 =>
    so_F (vr_of 1 rfl hv1) (fun f3 hf3 => so_F (vr_mul (vr_sub (vr_rd hR4 hb vl_5) vl_1) vl_10) (fun f4 hf4 => s_Mc_workCall_L40 4096 am_FU e_FU hb hv1 hv2 hf3 ha3 hf4 ha6 vl_0 hR7))))))
set_option maxRecDepth 20000 in
theorem s_Mc_workGive {c : Int} {μ0 : am_M} {b : Nat} {x_b : Int} (hb : vr c b x_b) {v1 : Nat} {x_v1 : Int} (hv1 : vr c v1 x_v1) {v2 : Nat} {x_v2 : Int} (hv2 : vr c v2 x_v2) {t : e_T} {μ : am_M} (hR : e_R c μ0 t μ) : so c μ0 (E_Mc_workGive b v1 v2 t) (Mc_workGive x_b x_v1 x_v2 μ) := by
  unfold E_Mc_workGive Mc_workGive
  exact so_gd hb <|
    so_F (vr_of 2 rfl hb) (fun f1 hf1 => so_F (vr_sub (vr_rd hR hb vl_5) vl_1) (fun f2 hf2 => so_bd (s_X_at hf1 hf2 hR) (fun a2 _ t3 _ ha2 hR3 =>
    so_bd (s_JI_bitCount ha2 hR3) (fun a4 _ t5 _ ha4 hR5 =>
    so_F (vr_add (vr_rd hR hb vl_9) ha4) (fun f3 hf3 => so_pf hb vl_9 hf3 hR5 (fun t6 _ hR6 =>
    so_F (vr_sub (vr_rd hR6 hb vl_5) vl_1) (fun f4 hf4 => so_pf hb vl_5 hf4 hR6 (fun t7 _ hR7 =>
    so_eq (vr_rd hR7 hb vl_5) vl_0 (so_pf hb vl_6 vl_2 hR7 (fun t15 _ hR15 =>
    so_pf hb vl_7 hv2 hR15 (fun t16 _ hR16 =>
    so_ret vl_0 hR16)))
    (so_F (vr_of 1 rfl hb) (fun f5 hf5 => so_F (vr_sub (vr_rd hR7 hb vl_5) vl_1) (fun f6 hf6 => so_bd (s_X_at hf5 hf6 hR7) (fun a8 _ t9 _ ha8 hR9 =>
    so_gd hv1 <|
    so_F (vr_of 2 rfl hv1) (fun f7 hf7 => so_F (vr_sub ha8 vl_1) (fun f8 hf8 => so_bd (s_X_at hf7 hf8 hR9) (fun a11 _ t12 _ ha11 hR12 =>
    so_bd (s_Mc_lay hb ha11 hv2 hR12) (fun a13 _ t14 _ ha13 hR14 =>
    so_ret vl_0 hR14))))))))))))))))
set_option maxRecDepth 20000 in
theorem s_Mc_workKind_B117 {c : Int} {μ0 : am_M} {s0 : Nat} {x_s0 : Int} (hs0 : vr c s0 x_s0) {s1 : Nat} {x_s1 : Int} (hs1 : vr c s1 x_s1) {s2 : Nat} {x_s2 : Int} (hs2 : vr c s2 x_s2) {t : e_T} {μ : am_M} (hR : e_R c μ0 t μ) : so c μ0 (E_Mc_workKind_B117 s0 s1 s2 t) (Mc_workKind_B117 x_s0 x_s1 x_s2 μ) := by
  unfold E_Mc_workKind_B117 Mc_workKind_B117
  exact so_gd hs0 <|
    so_F (vr_add hs1 hs2) (fun f1 hf1 => so_pf hs0 vl_10 hf1 hR (fun t2 _ hR2 =>
    so_ret vl_0 hR2))
set_option maxRecDepth 20000 in
theorem s_Mc_workKind_B60 {c : Int} {μ0 : am_M} {b : Nat} {x_b : Int} (hb : vr c b x_b) {v2 : Nat} {x_v2 : Int} (hv2 : vr c v2 x_v2) {v3 : Nat} {x_v3 : Int} (hv3 : vr c v3 x_v3) {v4 : Nat} {x_v4 : Int} (hv4 : vr c v4 x_v4) {t : e_T} {μ : am_M} (hR : e_R c μ0 t μ) : so c μ0 (E_Mc_workKind_B60 b v2 v3 v4 t) (Mc_workKind_B60 x_b x_v2 x_v3 x_v4 μ) := by
  unfold E_Mc_workKind_B60 Mc_workKind_B60
  exact so_gd hb <|
    so_bd (s_Mc_reckoned hb hv4 hv2 hR) (fun a2 _ t3 _ ha2 hR3 =>
    so_gd hv4 <|
    so_F (vr_of 2 rfl hv4) (fun f1 hf1 => so_bd (s_X_at hf1 hv2 hR3) (fun a5 _ t6 _ ha5 hR6 =>
    so_bd (s_Mc_lay hb ha5 ha2 hR6) (fun a7 _ t8 _ ha7 hR8 =>
    so_F (vr_of 3 rfl hv4) (fun f2 hf2 => so_bd (s_X_at hf2 hv2 hR8) (fun a9 _ t10 _ ha9 hR10 =>
    so_bd (s_Mc_lay hb ha9 ha2 hR10) (fun a11 _ t12 _ ha11 hR12 =>
    so_eq hv3 vl_2 (so_F (vr_rd hR12 hb vl_10) (fun f3 hf3 => so_F (vr_rd hR12 hb vl_13) (fun f4 hf4 => s_Mc_workKind_B117 hb hf3 hf4 hR12)))
    (so_F (vr_rd hR12 hb vl_10) (fun f5 hf5 => s_Mc_workKind_B117 hb hf5 vl_0 hR12)))))))))
set_option maxRecDepth 20000 in
theorem s_Mc_workKind {c : Int} {μ0 : am_M} {b : Nat} {x_b : Int} (hb : vr c b x_b) {v1 : Nat} {x_v1 : Int} (hv1 : vr c v1 x_v1) {v2 : Nat} {x_v2 : Int} (hv2 : vr c v2 x_v2) {v3 : Nat} {x_v3 : Int} (hv3 : vr c v3 x_v3) {t : e_T} {μ : am_M} (hR : e_R c μ0 t μ) : so c μ0 (E_Mc_workKind b v1 v2 v3 t) (Mc_workKind x_b x_v1 x_v2 x_v3 μ) := by
  unfold E_Mc_workKind Mc_workKind
  exact so_gd hv1 <|
    so_gd hb <|
    so_eq hv3 vl_1 (so_F (vr_of 1 rfl hv1) (fun f1 hf1 => s_Mc_workKind_B60 hb hv2 hv3 hf1 hR))
    (so_eq hv3 vl_2 (so_F (vr_of 1 rfl hv1) (fun f2 hf2 => s_Mc_workKind_B60 hb hv2 hv3 hf2 hR))
    (so_eq hv3 vl_3 (so_ret vl_0 hR)
    (so_eq hv3 vl_4 (so_bd (s_Mc_workCall hb hv1 hv2 hR) (fun a3 _ t4 _ ha3 hR4 =>
    so_ret vl_0 hR4))
    (so_eq hv3 vl_5 (so_F (vr_of 1 rfl hv1) (fun f3 hf3 => so_bd (s_Mc_reckoned hb hf3 hv2 hR) (fun a5 _ t6 _ ha5 hR6 =>
    so_eq ha5 vl_0 (so_gd (vr_of 1 rfl hv1) <|
    so_F (vr_of 6 rfl (vr_of 1 rfl hv1)) (fun f4 hf4 => so_bd (s_X_at hf4 hv2 hR6) (fun a8 _ t9 _ ha8 hR9 =>
    so_F (vr_of 1 rfl hb) (fun f5 hf5 => so_F (vr_sub (vr_rd hR hb vl_5) vl_1) (fun f6 hf6 => so_F (vr_add ha8 vl_1) (fun f7 hf7 => so_bd (s_X_put hf5 hf6 hf7 hR9) (fun a10 _ t11 _ ha10 hR11 =>
    so_ret vl_0 hR11)))))))
    (so_ret vl_0 hR6))))
    (so_eq hv3 vl_6 (so_F (vr_of 1 rfl hv1) (fun f8 hf8 => so_bd (s_Mc_dropGone hb hf8 hv2 hR) (fun a12 _ t13 _ ha12 hR13 =>
    so_gd (vr_of 1 rfl hv1) <|
    so_F (vr_of 6 rfl (vr_of 1 rfl hv1)) (fun f9 hf9 => so_bd (s_X_at hf9 hv2 hR13) (fun a15 _ t16 _ ha15 hR16 =>
    so_F (vr_of 1 rfl hb) (fun f10 hf10 => so_F (vr_sub (vr_rd hR hb vl_5) vl_1) (fun f11 hf11 => so_F (vr_add ha15 vl_1) (fun f12 hf12 => so_bd (s_X_put hf10 hf11 hf12 hR16) (fun a17 _ t18 _ ha17 hR18 =>
    so_ret vl_0 hR18)))))))))
    (so_eq hv3 vl_7 (so_F (vr_of 1 rfl hv1) (fun f13 hf13 => so_bd (s_Mc_dropGone hb hf13 hv2 hR) (fun a19 _ t20 _ ha19 hR20 =>
    so_ret vl_0 hR20)))
    (so_eq hv3 vl_8 (so_F (vr_of 1 rfl hv1) (fun f14 hf14 => so_bd (s_Mc_reckoned hb hf14 hv2 hR) (fun a21 _ t22 _ ha21 hR22 =>
    so_F (vr_of 1 rfl hv1) (fun f15 hf15 => so_bd (s_Mc_workGive hb hf15 ha21 hR22) (fun a23 _ t24 _ ha23 hR24 =>
    so_ret vl_0 hR24)))))
    (so_ret vl_0 hR))))))))
set_option maxRecDepth 20000 in
theorem s_Mc_work_B55 {c : Int} {μ0 : am_M} {b : Nat} {x_b : Int} (hb : vr c b x_b) {v1 : Nat} {x_v1 : Int} (hv1 : vr c v1 x_v1) {v2 : Nat} {x_v2 : Int} (hv2 : vr c v2 x_v2) {v3 : Nat} {x_v3 : Int} (hv3 : vr c v3 x_v3) {v4 : Nat} {x_v4 : Int} (hv4 : vr c v4 x_v4) {v5 : Nat} {x_v5 : Int} (hv5 : vr c v5 x_v5) {t : e_T} {μ : am_M} (hR : e_R c μ0 t μ) : so c μ0 (E_Mc_work_B55 b v1 v2 v3 v4 v5 t) (Mc_work_B55 x_b x_v1 x_v2 x_v3 x_v4 x_v5 μ) := by
  unfold E_Mc_work_B55 Mc_work_B55
  exact so_gd hb <|
    so_bd (s_Mc_readSlips hb hv2 hv4 hR) (fun a2 _ t3 _ ha2 hR3 =>
    so_eq ha2 vl_0 (so_pf hb vl_6 vl_5 hR3 (fun t11 _ hR11 =>
    so_ret vl_0 hR11))
    (so_F (vr_of 1 rfl hb) (fun f1 hf1 => so_F (vr_add hv4 vl_1) (fun f2 hf2 => so_bd (s_X_put hf1 hv3 hf2 hR3) (fun a4 _ t5 _ ha4 hR5 =>
    so_bd (s_Mc_workKind hb hv1 hv4 hv5 hR5) (fun a6 _ t7 _ ha6 hR7 =>
    so_F (vr_add (vr_rd hR7 hb vl_11) vl_1) (fun f3 hf3 => so_pf hb vl_11 hf3 hR7 (fun t8 _ hR8 =>
    so_bd (s_Mc_lookAtTable hb hR8) (fun a9 _ t10 _ ha9 hR10 =>
    so_ret vl_1 hR10)))))))))
set_option maxRecDepth 20000 in
theorem s_Mc_work {c : Int} {μ0 : am_M} {b : Nat} {x_b : Int} (hb : vr c b x_b) {v1 : Nat} {x_v1 : Int} (hv1 : vr c v1 x_v1) {t : e_T} {μ : am_M} (hR : e_R c μ0 t μ) : so c μ0 (E_Mc_work b v1 t) (Mc_work x_b x_v1 μ) := by
  unfold E_Mc_work Mc_work
  exact so_gd hv1 <|
    so_gd hb <|
    so_F (vr_of 1 rfl hb) (fun f1 hf1 => so_F (vr_sub (vr_rd hR hb vl_5) vl_1) (fun f2 hf2 => so_bd (s_X_at hf1 hf2 hR) (fun a3 _ t4 _ ha3 hR4 =>
    so_gd (vr_of 1 rfl hv1) <|
    so_F (vr_of 1 rfl (vr_of 1 rfl hv1)) (fun f3 hf3 => so_bd (s_X_at hf3 ha3 hR4) (fun a6 _ t7 _ ha6 hR7 =>
    so_eq ha6 vl_4 (so_ltc (vr_rd hR7 hb vl_5) vl_16 (so_F (vr_of 1 rfl hv1) (fun f4 hf4 => so_F (vr_sub (vr_rd hR hb vl_5) vl_1) (fun f5 hf5 => s_Mc_work_B55 hb hv1 hf4 hf5 ha3 ha6 hR7)))
    (so_pf hb vl_6 vl_4 hR7 (fun t8 _ hR8 =>
    so_ret vl_0 hR8)))
    (so_F (vr_of 1 rfl hv1) (fun f6 hf6 => so_F (vr_sub (vr_rd hR hb vl_5) vl_1) (fun f7 hf7 => s_Mc_work_B55 hb hv1 hf6 hf7 ha3 ha6 hR7))))))))
set_option maxRecDepth 20000 in
theorem s_Mc_go_L2_b {c : Int} {μ0 : am_M} {k2 : Nat → Nat → Nat → Nat → e_T → e_O} {k2x : Int → Int → Int → Int → am_M → am_O} (hk2 : ∀ {u0 : Nat} {x0 : Int} {u1 : Nat} {x1 : Int} {u2 : Nat} {x2 : Int} {u3 : Nat} {x3 : Int} {t : e_T} {μ : am_M}, vr c u0 x0 → vr c u1 x1 → vr c u2 x2 → vr c u3 x3 → e_R c μ0 t μ → so c μ0 (k2 u0 u1 u2 u3 t) (k2x x0 x1 x2 x3 μ)) {b : Nat} {x_b : Int} (hb : vr c b x_b) {v1 : Nat} {x_v1 : Int} (hv1 : vr c v1 x_v1) {v2 : Nat} {x_v2 : Int} (hv2 : vr c v2 x_v2) {v3 : Nat} {x_v3 : Int} (hv3 : vr c v3 x_v3) {t : e_T} {μ : am_M} (hR : e_R c μ0 t μ) : so c μ0 (E_Mc_go_L2_b k2 b v1 v2 v3 t) (Mc_go_L2_b k2x x_b x_v1 x_v2 x_v3 μ) := by
  unfold E_Mc_go_L2_b Mc_go_L2_b
  exact so_ltc hv3 hv2 (so_gd hb <|
    so_eq (vr_rd hR hb vl_6) vl_1 (so_bd (s_Mc_work hb hv1 hR) (fun a2 _ t3 _ ha2 hR3 =>
    so_eq ha2 vl_0 (so_ret hv3 hR3)
    (so_F (vr_add hv3 vl_1) (fun f1 hf1 => hk2 hb hv1 hv2 hf1 hR3))))
    (so_ret hv3 hR))
    (so_ret hv3 hR)
set_option maxRecDepth 20000 in
theorem s_Mc_go_L2 {c : Int} {μ0 : am_M} : ∀ (n N : Nat), n ≤ N → ∀ {b : Nat} {x_b : Int} (hb : vr c b x_b) {v1 : Nat} {x_v1 : Int} (hv1 : vr c v1 x_v1) {v2 : Nat} {x_v2 : Int} (hv2 : vr c v2 x_v2) {v3 : Nat} {x_v3 : Int} (hv3 : vr c v3 x_v3) {t : e_T} {μ : am_M} (hR : e_R c μ0 t μ), so c μ0 (E_Mc_go_L2 n b v1 v2 v3 t) (Mc_go_L2 N x_b x_v1 x_v2 x_v3 μ) := by
  intro n
  induction n with
  | zero => intros; exact so_none
  | succ n ih =>
    intro N hN b x_b hb v1 x_v1 hv1 v2 x_v2 hv2 v3 x_v3 hv3 t μ hR
    obtain ⟨M, rfl⟩ : ∃ M, N = M + 1 := ⟨N - 1, by omega⟩
    exact s_Mc_go_L2_b (k2 := E_Mc_go_L2 n) (k2x := Mc_go_L2 M) (fun hb hv1 hv2 hv3 hR => ih M (by omega) hb hv1 hv2 hv3 hR) hb hv1 hv2 hv3 hR
set_option maxRecDepth 20000 in
theorem s_Mc_go {c : Int} {μ0 : am_M} {b : Nat} {x_b : Int} (hb : vr c b x_b) {v1 : Nat} {x_v1 : Int} (hv1 : vr c v1 x_v1) {v2 : Nat} {x_v2 : Int} (hv2 : vr c v2 x_v2) {t : e_T} {μ : am_M} (hR : e_R c μ0 t μ) : so c μ0 (E_Mc_go b v1 v2 t) (Mc_go x_b x_v1 x_v2 μ) := by
  unfold E_Mc_go Mc_go
  exact s_Mc_go_L2 4096 am_FU e_FU hb hv1 hv2 vl_0 hR
set_option maxRecDepth 20000 in
theorem s_Mc_tell {c : Int} {μ0 : am_M} {b : Nat} {x_b : Int} (hb : vr c b x_b) {v1 : Nat} {x_v1 : Int} (hv1 : vr c v1 x_v1) {t : e_T} {μ : am_M} (hR : e_R c μ0 t μ) : so c μ0 (E_Mc_tell b v1 t) (Mc_tell x_b x_v1 μ) := by
  unfold E_Mc_tell Mc_tell
  exact so_eq hv1 vl_0 (so_gd hb <|
    so_ret (vr_rd hR hb vl_6) hR)
    (so_eq hv1 vl_1 (so_gd hb <|
    so_eq (vr_rd hR hb vl_6) vl_1 (so_F (vr_of 1 rfl hb) (fun f1 hf1 => so_F (vr_sub (vr_rd hR hb vl_5) vl_1) (fun f2 hf2 => so_bd (s_X_at hf1 hf2 hR) (fun a3 _ t4 _ ha3 hR4 =>
    so_ret ha3 hR4))))
    (so_ret vl_m1 hR))
    (so_eq hv1 vl_2 (so_gd hb <|
    so_bd (s_Mc_lying hb hR) (fun a6 _ t7 _ ha6 hR7 =>
    so_ret ha6 hR7))
    (so_eq hv1 vl_3 (so_gd hb <|
    so_ret (vr_rd hR hb vl_8) hR)
    (so_eq hv1 vl_4 (so_gd hb <|
    so_ret (vr_rd hR hb vl_9) hR)
    (so_eq hv1 vl_5 (so_gd hb <|
    so_ret (vr_rd hR hb vl_10) hR)
    (so_eq hv1 vl_6 (so_gd hb <|
    so_ret (vr_rd hR hb vl_11) hR)
    (so_eq hv1 vl_7 (so_gd hb <|
    so_ret (vr_rd hR hb vl_5) hR)
    (so_ret vl_m1 hR))))))))
set_option maxRecDepth 20000 in
theorem s_Or_forget {c : Int} {μ0 : am_M}  {t : e_T} {μ : am_M} (hR : e_R c μ0 t μ) : so c μ0 (E_Or_forget t) (Or_forget μ) := by
  unfold E_Or_forget Or_forget
  exact so_pf vl_60 vl_9 vl_m1 hR (fun t1 _ hR1 =>
    so_ret vl_0 hR1)
set_option maxRecDepth 20000 in
theorem s_Or_slipOf {c : Int} {μ0 : am_M} {v1 : Nat} {x_v1 : Int} (hv1 : vr c v1 x_v1) {t : e_T} {μ : am_M} (hR : e_R c μ0 t μ) : so c μ0 (E_Or_slipOf v1 t) (Or_slipOf x_v1 μ) := by
  unfold E_Or_slipOf Or_slipOf
  exact so_ret (vr_add (vr_rk hR (x := 60) (y := 7) rfl) hv1) hR
set_option maxRecDepth 20000 in
theorem s_Or_countStands_L13_b {c : Int} {μ0 : am_M} {k2 : Nat → Nat → Nat → e_T → e_O} {k2x : Int → Int → Int → am_M → am_O} (hk2 : ∀ {u0 : Nat} {x0 : Int} {u1 : Nat} {x1 : Int} {u2 : Nat} {x2 : Int} {t : e_T} {μ : am_M}, vr c u0 x0 → vr c u1 x1 → vr c u2 x2 → e_R c μ0 t μ → so c μ0 (k2 u0 u1 u2 t) (k2x x0 x1 x2 μ)) {k13 : Nat → Nat → Nat → Nat → e_T → e_O} {k13x : Int → Int → Int → Int → am_M → am_O} (hk13 : ∀ {u0 : Nat} {x0 : Int} {u1 : Nat} {x1 : Int} {u2 : Nat} {x2 : Int} {u3 : Nat} {x3 : Int} {t : e_T} {μ : am_M}, vr c u0 x0 → vr c u1 x1 → vr c u2 x2 → vr c u3 x3 → e_R c μ0 t μ → so c μ0 (k13 u0 u1 u2 u3 t) (k13x x0 x1 x2 x3 μ)) {v1 : Nat} {x_v1 : Int} (hv1 : vr c v1 x_v1) {v2 : Nat} {x_v2 : Int} (hv2 : vr c v2 x_v2) {v3 : Nat} {x_v3 : Int} (hv3 : vr c v3 x_v3) {v4 : Nat} {x_v4 : Int} (hv4 : vr c v4 x_v4) {t : e_T} {μ : am_M} (hR : e_R c μ0 t μ) : so c μ0 (E_Or_countStands_L13_b k2 k13 v1 v2 v3 v4 t) (Or_countStands_L13_b k2x k13x x_v1 x_v2 x_v3 x_v4 μ) := by
  unfold E_Or_countStands_L13_b Or_countStands_L13_b
  exact so_F (vr_rk hR (x := 60) (y := 8) rfl) (fun f1 hf1 => so_bd (s_Or_slipOf hf1 hR) (fun a1 _ t2 _ ha1 hR2 =>
    so_ltc hv4 ha1 (so_gd hv1 <|
    so_F (vr_add hv2 hv3) (fun f2 hf2 => so_bd (s_Ln_timesRead_ hv1 hf2 hv4 hR2) (fun a4 _ t5 _ ha4 hR5 =>
    so_F (vr_add (vr_mul hv3 vl_10) hv4) (fun f3 hf3 => so_bd (s_X_put vl_61 hf3 ha4 hR5) (fun a6 _ t7 _ ha6 hR7 =>
    so_F (vr_add hv4 vl_1) (fun f4 hf4 => hk13 hv1 hv2 hv3 hf4 hR7))))))
    (so_F (vr_add hv3 vl_1) (fun f5 hf5 => hk2 hv1 hv2 hf5 hR2))))
set_option maxRecDepth 20000 in
theorem s_Or_countStands_L13 {c : Int} {μ0 : am_M} {k2 : Nat → Nat → Nat → e_T → e_O} {k2x : Int → Int → Int → am_M → am_O} (hk2 : ∀ {u0 : Nat} {x0 : Int} {u1 : Nat} {x1 : Int} {u2 : Nat} {x2 : Int} {t : e_T} {μ : am_M}, vr c u0 x0 → vr c u1 x1 → vr c u2 x2 → e_R c μ0 t μ → so c μ0 (k2 u0 u1 u2 t) (k2x x0 x1 x2 μ)) : ∀ (n N : Nat), n ≤ N → ∀ {v1 : Nat} {x_v1 : Int} (hv1 : vr c v1 x_v1) {v2 : Nat} {x_v2 : Int} (hv2 : vr c v2 x_v2) {v3 : Nat} {x_v3 : Int} (hv3 : vr c v3 x_v3) {v4 : Nat} {x_v4 : Int} (hv4 : vr c v4 x_v4) {t : e_T} {μ : am_M} (hR : e_R c μ0 t μ), so c μ0 (E_Or_countStands_L13 k2 n v1 v2 v3 v4 t) (Or_countStands_L13 k2x N x_v1 x_v2 x_v3 x_v4 μ) := by
  intro n
  induction n with
  | zero => intros; exact so_none
  | succ n ih =>
    intro N hN v1 x_v1 hv1 v2 x_v2 hv2 v3 x_v3 hv3 v4 x_v4 hv4 t μ hR
    obtain ⟨M, rfl⟩ : ∃ M, N = M + 1 := ⟨N - 1, by omega⟩
    exact s_Or_countStands_L13_b (k13 := E_Or_countStands_L13 k2 n) (k13x := Or_countStands_L13 k2x M) hk2 (fun hv1 hv2 hv3 hv4 hR => ih M (by omega) hv1 hv2 hv3 hv4 hR) hv1 hv2 hv3 hv4 hR
set_option maxRecDepth 20000 in
theorem s_Or_countStands_L2_b {c : Int} {μ0 : am_M} {k2 : Nat → Nat → Nat → e_T → e_O} {k2x : Int → Int → Int → am_M → am_O} (hk2 : ∀ {u0 : Nat} {x0 : Int} {u1 : Nat} {x1 : Int} {u2 : Nat} {x2 : Int} {t : e_T} {μ : am_M}, vr c u0 x0 → vr c u1 x1 → vr c u2 x2 → e_R c μ0 t μ → so c μ0 (k2 u0 u1 u2 t) (k2x x0 x1 x2 μ)) {v1 : Nat} {x_v1 : Int} (hv1 : vr c v1 x_v1) {v2 : Nat} {x_v2 : Int} (hv2 : vr c v2 x_v2) {v3 : Nat} {x_v3 : Int} (hv3 : vr c v3 x_v3) {t : e_T} {μ : am_M} (hR : e_R c μ0 t μ) : so c μ0 (E_Or_countStands_L2_b k2 v1 v2 v3 t) (Or_countStands_L2_b k2x x_v1 x_v2 x_v3 μ) := by
  unfold E_Or_countStands_L2_b Or_countStands_L2_b
  exact so_lec hv3 (vr_rk hR (x := 60) (y := 8) rfl) (s_Or_countStands_L13 hk2 4096 am_FU e_FU hv1 hv2 hv3 vl_0 hR)
    (so_ret vl_0 hR)
set_option maxRecDepth 20000 in
theorem s_Or_countStands_L2 {c : Int} {μ0 : am_M} : ∀ (n N : Nat), n ≤ N → ∀ {v1 : Nat} {x_v1 : Int} (hv1 : vr c v1 x_v1) {v2 : Nat} {x_v2 : Int} (hv2 : vr c v2 x_v2) {v3 : Nat} {x_v3 : Int} (hv3 : vr c v3 x_v3) {t : e_T} {μ : am_M} (hR : e_R c μ0 t μ), so c μ0 (E_Or_countStands_L2 n v1 v2 v3 t) (Or_countStands_L2 N x_v1 x_v2 x_v3 μ) := by
  intro n
  induction n with
  | zero => intros; exact so_none
  | succ n ih =>
    intro N hN v1 x_v1 hv1 v2 x_v2 hv2 v3 x_v3 hv3 t μ hR
    obtain ⟨M, rfl⟩ : ∃ M, N = M + 1 := ⟨N - 1, by omega⟩
    exact s_Or_countStands_L2_b (k2 := E_Or_countStands_L2 n) (k2x := Or_countStands_L2 M) (fun hv1 hv2 hv3 hR => ih M (by omega) hv1 hv2 hv3 hR) hv1 hv2 hv3 hR
set_option maxRecDepth 20000 in
theorem s_Or_countStands {c : Int} {μ0 : am_M} {v1 : Nat} {x_v1 : Int} (hv1 : vr c v1 x_v1) {v2 : Nat} {x_v2 : Int} (hv2 : vr c v2 x_v2) {t : e_T} {μ : am_M} (hR : e_R c μ0 t μ) : so c μ0 (E_Or_countStands v1 v2 t) (Or_countStands x_v1 x_v2 μ) := by
  unfold E_Or_countStands Or_countStands
  exact s_Or_countStands_L2 4096 am_FU e_FU hv1 hv2 vl_0 hR
set_option maxRecDepth 20000 in
theorem s_Or_standing {c : Int} {μ0 : am_M} {v1 : Nat} {x_v1 : Int} (hv1 : vr c v1 x_v1) {v2 : Nat} {x_v2 : Int} (hv2 : vr c v2 x_v2) {t : e_T} {μ : am_M} (hR : e_R c μ0 t μ) : so c μ0 (E_Or_standing v1 v2 t) (Or_standing x_v1 x_v2 μ) := by
  unfold E_Or_standing Or_standing
  exact so_F (vr_add (vr_mul hv1 vl_10) hv2) (fun f1 hf1 => so_bd (s_X_at vl_61 hf1 hR) (fun a1 _ t2 _ ha1 hR2 =>
    so_ret ha1 hR2))
set_option maxRecDepth 20000 in
theorem s_Or_findReaders_B107 {c : Int} {μ0 : am_M} {k31 : Nat → e_T → e_O} {k31x : Int → am_M → am_O} (hk31 : ∀ {u0 : Nat} {x0 : Int} {t : e_T} {μ : am_M}, vr c u0 x0 → e_R c μ0 t μ → so c μ0 (k31 u0 t) (k31x x0 μ)) {k43 : Nat → Nat → Nat → e_T → e_O} {k43x : Int → Int → Int → am_M → am_O} (hk43 : ∀ {u0 : Nat} {x0 : Int} {u1 : Nat} {x1 : Int} {u2 : Nat} {x2 : Int} {t : e_T} {μ : am_M}, vr c u0 x0 → vr c u1 x1 → vr c u2 x2 → e_R c μ0 t μ → so c μ0 (k43 u0 u1 u2 t) (k43x x0 x1 x2 μ)) {v1 : Nat} {x_v1 : Int} (hv1 : vr c v1 x_v1) {v2 : Nat} {x_v2 : Int} (hv2 : vr c v2 x_v2) {v3 : Nat} {x_v3 : Int} (hv3 : vr c v3 x_v3) {t : e_T} {μ : am_M} (hR : e_R c μ0 t μ) : so c μ0 (E_Or_findReaders_B107 k31 k43 v1 v2 v3 t) (Or_findReaders_B107 k31x k43x x_v1 x_v2 x_v3 μ) := by
  unfold E_Or_findReaders_B107 Or_findReaders_B107
  exact so_F (vr_add hv3 vl_1) (fun f1 hf1 => hk43 hv1 hv2 hf1 hR)
set_option maxRecDepth 20000 in
theorem s_Or_findReaders_B105 {c : Int} {μ0 : am_M} {k31 : Nat → e_T → e_O} {k31x : Int → am_M → am_O} (hk31 : ∀ {u0 : Nat} {x0 : Int} {t : e_T} {μ : am_M}, vr c u0 x0 → e_R c μ0 t μ → so c μ0 (k31 u0 t) (k31x x0 μ)) {k43 : Nat → Nat → Nat → e_T → e_O} {k43x : Int → Int → Int → am_M → am_O} (hk43 : ∀ {u0 : Nat} {x0 : Int} {u1 : Nat} {x1 : Int} {u2 : Nat} {x2 : Int} {t : e_T} {μ : am_M}, vr c u0 x0 → vr c u1 x1 → vr c u2 x2 → e_R c μ0 t μ → so c μ0 (k43 u0 u1 u2 t) (k43x x0 x1 x2 μ)) {v1 : Nat} {x_v1 : Int} (hv1 : vr c v1 x_v1) {v3 : Nat} {x_v3 : Int} (hv3 : vr c v3 x_v3) {s0 : Nat} {x_s0 : Int} (hs0 : vr c s0 x_s0) {s1 : Nat} {x_s1 : Int} (hs1 : vr c s1 x_s1) {t : e_T} {μ : am_M} (hR : e_R c μ0 t μ) : so c μ0 (E_Or_findReaders_B105 k31 k43 v1 v3 s0 s1 t) (Or_findReaders_B105 k31x k43x x_v1 x_v3 x_s0 x_s1 μ) := by
  unfold E_Or_findReaders_B105 Or_findReaders_B105
  exact so_F (vr_or hs0 hs1) (fun f1 hf1 => s_Or_findReaders_B107 hk31 hk43 hv1 hf1 hv3 hR)
set_option maxRecDepth 20000 in
theorem s_Or_findReaders_L43_b {c : Int} {μ0 : am_M} {k31 : Nat → e_T → e_O} {k31x : Int → am_M → am_O} (hk31 : ∀ {u0 : Nat} {x0 : Int} {t : e_T} {μ : am_M}, vr c u0 x0 → e_R c μ0 t μ → so c μ0 (k31 u0 t) (k31x x0 μ)) {k43 : Nat → Nat → Nat → e_T → e_O} {k43x : Int → Int → Int → am_M → am_O} (hk43 : ∀ {u0 : Nat} {x0 : Int} {u1 : Nat} {x1 : Int} {u2 : Nat} {x2 : Int} {t : e_T} {μ : am_M}, vr c u0 x0 → vr c u1 x1 → vr c u2 x2 → e_R c μ0 t μ → so c μ0 (k43 u0 u1 u2 t) (k43x x0 x1 x2 μ)) {v1 : Nat} {x_v1 : Int} (hv1 : vr c v1 x_v1) {v2 : Nat} {x_v2 : Int} (hv2 : vr c v2 x_v2) {v3 : Nat} {x_v3 : Int} (hv3 : vr c v3 x_v3) {t : e_T} {μ : am_M} (hR : e_R c μ0 t μ) : so c μ0 (E_Or_findReaders_L43_b k31 k43 v1 v2 v3 t) (Or_findReaders_L43_b k31x k43x x_v1 x_v2 x_v3 μ) := by
  unfold E_Or_findReaders_L43_b Or_findReaders_L43_b
  exact so_F (vr_rk hR (x := 60) (y := 8) rfl) (fun f1 hf1 => so_bd (s_Or_slipOf hf1 hR) (fun a1 _ t2 _ ha1 hR2 =>
    so_ltc hv3 ha1 (so_bd (s_Or_standing hv1 hv3 hR2) (fun a5 _ t6 _ ha5 hR6 =>
    so_lec ha5 vl_0 (s_Or_findReaders_B107 hk31 hk43 hv1 hv2 hv3 hR6)
    (so_bd (s_X_at vl_63 hv3 hR6) (fun a7 _ t8 _ ha7 hR8 =>
    so_F (vr_or ha7 (vr_shl vl_1 hv1)) (fun f2 hf2 => so_bd (s_X_put vl_63 hv3 hf2 hR8) (fun a9 _ t10 _ ha9 hR10 =>
    so_ltc hv3 (vr_rk hR10 (x := 60) (y := 7) rfl) (s_Or_findReaders_B105 hk31 hk43 hv1 hv3 hv2 vl_0 hR10)
    (so_F (vr_shl vl_1 (vr_sub hv3 (vr_rk hR10 (x := 60) (y := 7) rfl))) (fun f3 hf3 => s_Or_findReaders_B105 hk31 hk43 hv1 hv3 hv2 hf3 hR10))))))))
    (so_bd (s_X_put vl_62 hv1 hv2 hR2) (fun a3 _ t4 _ ha3 hR4 =>
    so_F (vr_add hv1 vl_1) (fun f4 hf4 => hk31 hf4 hR4)))))
set_option maxRecDepth 20000 in
theorem s_Or_findReaders_L43 {c : Int} {μ0 : am_M} {k31 : Nat → e_T → e_O} {k31x : Int → am_M → am_O} (hk31 : ∀ {u0 : Nat} {x0 : Int} {t : e_T} {μ : am_M}, vr c u0 x0 → e_R c μ0 t μ → so c μ0 (k31 u0 t) (k31x x0 μ)) : ∀ (n N : Nat), n ≤ N → ∀ {v1 : Nat} {x_v1 : Int} (hv1 : vr c v1 x_v1) {v2 : Nat} {x_v2 : Int} (hv2 : vr c v2 x_v2) {v3 : Nat} {x_v3 : Int} (hv3 : vr c v3 x_v3) {t : e_T} {μ : am_M} (hR : e_R c μ0 t μ), so c μ0 (E_Or_findReaders_L43 k31 n v1 v2 v3 t) (Or_findReaders_L43 k31x N x_v1 x_v2 x_v3 μ) := by
  intro n
  induction n with
  | zero => intros; exact so_none
  | succ n ih =>
    intro N hN v1 x_v1 hv1 v2 x_v2 hv2 v3 x_v3 hv3 t μ hR
    obtain ⟨M, rfl⟩ : ∃ M, N = M + 1 := ⟨N - 1, by omega⟩
    exact s_Or_findReaders_L43_b (k43 := E_Or_findReaders_L43 k31 n) (k43x := Or_findReaders_L43 k31x M) hk31 (fun hv1 hv2 hv3 hR => ih M (by omega) hv1 hv2 hv3 hR) hv1 hv2 hv3 hR
set_option maxRecDepth 20000 in
theorem s_Or_findReaders_L31_b {c : Int} {μ0 : am_M} {k31 : Nat → e_T → e_O} {k31x : Int → am_M → am_O} (hk31 : ∀ {u0 : Nat} {x0 : Int} {t : e_T} {μ : am_M}, vr c u0 x0 → e_R c μ0 t μ → so c μ0 (k31 u0 t) (k31x x0 μ)) {v1 : Nat} {x_v1 : Int} (hv1 : vr c v1 x_v1) {t : e_T} {μ : am_M} (hR : e_R c μ0 t μ) : so c μ0 (E_Or_findReaders_L31_b k31 v1 t) (Or_findReaders_L31_b k31x x_v1 μ) := by
  unfold E_Or_findReaders_L31_b Or_findReaders_L31_b
  exact so_lec hv1 (vr_rk hR (x := 60) (y := 8) rfl) (s_Or_findReaders_L43 hk31 4096 am_FU e_FU hv1 vl_0 vl_0 hR)
    (so_ret vl_0 hR)
set_option maxRecDepth 20000 in
theorem s_Or_findReaders_L31 {c : Int} {μ0 : am_M} : ∀ (n N : Nat), n ≤ N → ∀ {v1 : Nat} {x_v1 : Int} (hv1 : vr c v1 x_v1) {t : e_T} {μ : am_M} (hR : e_R c μ0 t μ), so c μ0 (E_Or_findReaders_L31 n v1 t) (Or_findReaders_L31 N x_v1 μ) := by
  intro n
  induction n with
  | zero => intros; exact so_none
  | succ n ih =>
    intro N hN v1 x_v1 hv1 t μ hR
    obtain ⟨M, rfl⟩ : ∃ M, N = M + 1 := ⟨N - 1, by omega⟩
    exact s_Or_findReaders_L31_b (k31 := E_Or_findReaders_L31 n) (k31x := Or_findReaders_L31 M) (fun hv1 hR => ih M (by omega) hv1 hR) hv1 hR
set_option maxRecDepth 20000 in
theorem s_Or_findReaders_L2_b {c : Int} {μ0 : am_M} {k2 : Nat → e_T → e_O} {k2x : Int → am_M → am_O} (hk2 : ∀ {u0 : Nat} {x0 : Int} {t : e_T} {μ : am_M}, vr c u0 x0 → e_R c μ0 t μ → so c μ0 (k2 u0 t) (k2x x0 μ)) {v1 : Nat} {x_v1 : Int} (hv1 : vr c v1 x_v1) {t : e_T} {μ : am_M} (hR : e_R c μ0 t μ) : so c μ0 (E_Or_findReaders_L2_b k2 v1 t) (Or_findReaders_L2_b k2x x_v1 μ) := by
  unfold E_Or_findReaders_L2_b Or_findReaders_L2_b
  exact so_F (vr_rk hR (x := 60) (y := 8) rfl) (fun f1 hf1 => so_bd (s_Or_slipOf hf1 hR) (fun a1 _ t2 _ ha1 hR2 =>
    so_ltc hv1 ha1 (so_bd (s_X_put vl_63 hv1 vl_0 hR2) (fun a3 _ t4 _ ha3 hR4 =>
    so_F (vr_add hv1 vl_1) (fun f2 hf2 => hk2 hf2 hR4)))
    (s_Or_findReaders_L31 4096 am_FU e_FU vl_0 hR2)))
set_option maxRecDepth 20000 in
theorem s_Or_findReaders_L2 {c : Int} {μ0 : am_M} : ∀ (n N : Nat), n ≤ N → ∀ {v1 : Nat} {x_v1 : Int} (hv1 : vr c v1 x_v1) {t : e_T} {μ : am_M} (hR : e_R c μ0 t μ), so c μ0 (E_Or_findReaders_L2 n v1 t) (Or_findReaders_L2 N x_v1 μ) := by
  intro n
  induction n with
  | zero => intros; exact so_none
  | succ n ih =>
    intro N hN v1 x_v1 hv1 t μ hR
    obtain ⟨M, rfl⟩ : ∃ M, N = M + 1 := ⟨N - 1, by omega⟩
    exact s_Or_findReaders_L2_b (k2 := E_Or_findReaders_L2 n) (k2x := Or_findReaders_L2 M) (fun hv1 hR => ih M (by omega) hv1 hR) hv1 hR
set_option maxRecDepth 20000 in
theorem s_Or_findReaders {c : Int} {μ0 : am_M}  {t : e_T} {μ : am_M} (hR : e_R c μ0 t μ) : so c μ0 (E_Or_findReaders t) (Or_findReaders μ) := by
  unfold E_Or_findReaders Or_findReaders
  exact s_Or_findReaders_L2 4096 am_FU e_FU vl_0 hR
set_option maxRecDepth 20000 in
theorem s_Or_countLying_B70 {c : Int} {μ0 : am_M} {k4 : Nat → Nat → Nat → e_T → e_O} {k4x : Int → Int → Int → am_M → am_O} (hk4 : ∀ {u0 : Nat} {x0 : Int} {u1 : Nat} {x1 : Int} {u2 : Nat} {x2 : Int} {t : e_T} {μ : am_M}, vr c u0 x0 → vr c u1 x1 → vr c u2 x2 → e_R c μ0 t μ → so c μ0 (k4 u0 u1 u2 t) (k4x x0 x1 x2 μ)) {v1 : Nat} {x_v1 : Int} (hv1 : vr c v1 x_v1) {v3 : Nat} {x_v3 : Int} (hv3 : vr c v3 x_v3) {s0 : Nat} {x_s0 : Int} (hs0 : vr c s0 x_s0) {s1 : Nat} {x_s1 : Int} (hs1 : vr c s1 x_s1) {t : e_T} {μ : am_M} (hR : e_R c μ0 t μ) : so c μ0 (E_Or_countLying_B70 k4 v1 v3 s0 s1 t) (Or_countLying_B70 k4x x_v1 x_v3 x_s0 x_s1 μ) := by
  unfold E_Or_countLying_B70 Or_countLying_B70
  exact so_F (vr_add hs0 hs1) (fun f1 hf1 => so_F (vr_add hv3 vl_1) (fun f2 hf2 => hk4 hv1 hf1 hf2 hR))
set_option maxRecDepth 20000 in
theorem s_Or_countLying_B69 {c : Int} {μ0 : am_M} {k4 : Nat → Nat → Nat → e_T → e_O} {k4x : Int → Int → Int → am_M → am_O} (hk4 : ∀ {u0 : Nat} {x0 : Int} {u1 : Nat} {x1 : Int} {u2 : Nat} {x2 : Int} {t : e_T} {μ : am_M}, vr c u0 x0 → vr c u1 x1 → vr c u2 x2 → e_R c μ0 t μ → so c μ0 (k4 u0 u1 u2 t) (k4x x0 x1 x2 μ)) {v1 : Nat} {x_v1 : Int} (hv1 : vr c v1 x_v1) {v3 : Nat} {x_v3 : Int} (hv3 : vr c v3 x_v3) {s0 : Nat} {x_s0 : Int} (hs0 : vr c s0 x_s0) {t : e_T} {μ : am_M} (hR : e_R c μ0 t μ) : so c μ0 (E_Or_countLying_B69 k4 v1 v3 s0 t) (Or_countLying_B69 k4x x_v1 x_v3 x_s0 μ) := by
  unfold E_Or_countLying_B69 Or_countLying_B69
  exact s_Or_countLying_B70 hk4 hv1 hv3 hs0 vl_0 hR
set_option maxRecDepth 20000 in
theorem s_Or_countLying_B42 {c : Int} {μ0 : am_M} {k4 : Nat → Nat → Nat → e_T → e_O} {k4x : Int → Int → Int → am_M → am_O} (hk4 : ∀ {u0 : Nat} {x0 : Int} {u1 : Nat} {x1 : Int} {u2 : Nat} {x2 : Int} {t : e_T} {μ : am_M}, vr c u0 x0 → vr c u1 x1 → vr c u2 x2 → e_R c μ0 t μ → so c μ0 (k4 u0 u1 u2 t) (k4x x0 x1 x2 μ)) {v1 : Nat} {x_v1 : Int} (hv1 : vr c v1 x_v1) {v2 : Nat} {x_v2 : Int} (hv2 : vr c v2 x_v2) {v3 : Nat} {x_v3 : Int} (hv3 : vr c v3 x_v3) {s0 : Nat} {x_s0 : Int} (hs0 : vr c s0 x_s0) {t : e_T} {μ : am_M} (hR : e_R c μ0 t μ) : so c μ0 (E_Or_countLying_B42 k4 v1 v2 v3 s0 t) (Or_countLying_B42 k4x x_v1 x_v2 x_v3 x_s0 μ) := by
  unfold E_Or_countLying_B42 Or_countLying_B42
  exact so_eq hs0 vl_0 (s_Or_countLying_B69 hk4 hv1 hv3 hv2 hR)
    (so_bd (s_X_at vl_63 hv3 hR) (fun a1 _ t2 _ ha1 hR2 =>
    so_eq (vr_and ha1 (vr_xor hv1 vl_m1)) vl_0 (s_Or_countLying_B69 hk4 hv1 hv3 hv2 hR2)
    (s_Or_countLying_B70 hk4 hv1 hv3 hv2 vl_1 hR2)))
set_option maxRecDepth 20000 in
theorem s_Or_countLying_B37 {c : Int} {μ0 : am_M} {k4 : Nat → Nat → Nat → e_T → e_O} {k4x : Int → Int → Int → am_M → am_O} (hk4 : ∀ {u0 : Nat} {x0 : Int} {u1 : Nat} {x1 : Int} {u2 : Nat} {x2 : Int} {t : e_T} {μ : am_M}, vr c u0 x0 → vr c u1 x1 → vr c u2 x2 → e_R c μ0 t μ → so c μ0 (k4 u0 u1 u2 t) (k4x x0 x1 x2 μ)) {v1 : Nat} {x_v1 : Int} (hv1 : vr c v1 x_v1) {v2 : Nat} {x_v2 : Int} (hv2 : vr c v2 x_v2) {v3 : Nat} {x_v3 : Int} (hv3 : vr c v3 x_v3) {t : e_T} {μ : am_M} (hR : e_R c μ0 t μ) : so c μ0 (E_Or_countLying_B37 k4 v1 v2 v3 t) (Or_countLying_B37 k4x x_v1 x_v2 x_v3 μ) := by
  unfold E_Or_countLying_B37 Or_countLying_B37
  exact s_Or_countLying_B42 hk4 hv1 hv2 hv3 vl_1 hR
set_option maxRecDepth 20000 in
theorem s_Or_countLying_L4_b {c : Int} {μ0 : am_M} {k4 : Nat → Nat → Nat → e_T → e_O} {k4x : Int → Int → Int → am_M → am_O} (hk4 : ∀ {u0 : Nat} {x0 : Int} {u1 : Nat} {x1 : Int} {u2 : Nat} {x2 : Int} {t : e_T} {μ : am_M}, vr c u0 x0 → vr c u1 x1 → vr c u2 x2 → e_R c μ0 t μ → so c μ0 (k4 u0 u1 u2 t) (k4x x0 x1 x2 μ)) {v1 : Nat} {x_v1 : Int} (hv1 : vr c v1 x_v1) {v2 : Nat} {x_v2 : Int} (hv2 : vr c v2 x_v2) {v3 : Nat} {x_v3 : Int} (hv3 : vr c v3 x_v3) {t : e_T} {μ : am_M} (hR : e_R c μ0 t μ) : so c μ0 (E_Or_countLying_L4_b k4 v1 v2 v3 t) (Or_countLying_L4_b k4x x_v1 x_v2 x_v3 μ) := by
  unfold E_Or_countLying_L4_b Or_countLying_L4_b
  exact so_F (vr_rk hR (x := 60) (y := 8) rfl) (fun f1 hf1 => so_bd (s_Or_slipOf hf1 hR) (fun a1 _ t2 _ ha1 hR2 =>
    so_ltc hv3 ha1 (so_ltc hv3 (vr_rk hR2 (x := 60) (y := 7) rfl) (s_Or_countLying_B37 hk4 hv1 hv2 hv3 hR2)
    (so_eq (vr_and (vr_shr hv1 (vr_sub hv3 (vr_rk hR2 (x := 60) (y := 7) rfl))) vl_1) vl_0 (s_Or_countLying_B42 hk4 hv1 hv2 hv3 vl_0 hR2)
    (s_Or_countLying_B37 hk4 hv1 hv2 hv3 hR2)))
    (so_ret hv2 hR2)))
set_option maxRecDepth 20000 in
theorem s_Or_countLying_L4 {c : Int} {μ0 : am_M} : ∀ (n N : Nat), n ≤ N → ∀ {v1 : Nat} {x_v1 : Int} (hv1 : vr c v1 x_v1) {v2 : Nat} {x_v2 : Int} (hv2 : vr c v2 x_v2) {v3 : Nat} {x_v3 : Int} (hv3 : vr c v3 x_v3) {t : e_T} {μ : am_M} (hR : e_R c μ0 t μ), so c μ0 (E_Or_countLying_L4 n v1 v2 v3 t) (Or_countLying_L4 N x_v1 x_v2 x_v3 μ) := by
  intro n
  induction n with
  | zero => intros; exact so_none
  | succ n ih =>
    intro N hN v1 x_v1 hv1 v2 x_v2 hv2 v3 x_v3 hv3 t μ hR
    obtain ⟨M, rfl⟩ : ∃ M, N = M + 1 := ⟨N - 1, by omega⟩
    exact s_Or_countLying_L4_b (k4 := E_Or_countLying_L4 n) (k4x := Or_countLying_L4 M) (fun hv1 hv2 hv3 hR => ih M (by omega) hv1 hv2 hv3 hR) hv1 hv2 hv3 hR
set_option maxRecDepth 20000 in
theorem s_Or_countLying {c : Int} {μ0 : am_M} {v1 : Nat} {x_v1 : Int} (hv1 : vr c v1 x_v1) {t : e_T} {μ : am_M} (hR : e_R c μ0 t μ) : so c μ0 (E_Or_countLying v1 t) (Or_countLying x_v1 μ) := by
  unfold E_Or_countLying Or_countLying
  exact s_Or_countLying_L4 4096 am_FU e_FU hv1 vl_0 vl_0 hR
set_option maxRecDepth 20000 in
theorem s_Or_mayFollow {c : Int} {μ0 : am_M} {v1 : Nat} {x_v1 : Int} (hv1 : vr c v1 x_v1) {v2 : Nat} {x_v2 : Int} (hv2 : vr c v2 x_v2) {t : e_T} {μ : am_M} (hR : e_R c μ0 t μ) : so c μ0 (E_Or_mayFollow v1 v2 t) (Or_mayFollow x_v1 x_v2 μ) := by
  unfold E_Or_mayFollow Or_mayFollow
  exact so_eq (vr_and (vr_shr hv2 hv1) vl_1) vl_0 (so_bd (s_X_at vl_62 hv1 hR) (fun a1 _ t2 _ ha1 hR2 =>
    so_eq (vr_and ha1 (vr_xor hv2 vl_m1)) vl_0 (so_ret vl_1 hR2)
    (so_ret vl_0 hR2)))
    (so_ret vl_0 hR)
set_option maxRecDepth 20000 in
theorem s_Or_allSums {c : Int} {μ0 : am_M}  {t : e_T} {μ : am_M} (hR : e_R c μ0 t μ) : so c μ0 (E_Or_allSums t) (Or_allSums μ) := by
  unfold E_Or_allSums Or_allSums
  exact so_ret (vr_sub (vr_shl vl_1 (vr_rk hR (x := 60) (y := 8) rfl)) vl_1) hR
set_option maxRecDepth 20000 in
theorem s_Or_findBest_B73 {c : Int} {μ0 : am_M} {k5 : Nat → e_T → e_O} {k5x : Int → am_M → am_O} (hk5 : ∀ {u0 : Nat} {x0 : Int} {t : e_T} {μ : am_M}, vr c u0 x0 → e_R c μ0 t μ → so c μ0 (k5 u0 t) (k5x x0 μ)) {k39 : Nat → Nat → Nat → e_T → e_O} {k39x : Int → Int → Int → am_M → am_O} (hk39 : ∀ {u0 : Nat} {x0 : Int} {u1 : Nat} {x1 : Int} {u2 : Nat} {x2 : Int} {t : e_T} {μ : am_M}, vr c u0 x0 → vr c u1 x1 → vr c u2 x2 → e_R c μ0 t μ → so c μ0 (k39 u0 u1 u2 t) (k39x x0 x1 x2 μ)) {v1 : Nat} {x_v1 : Int} (hv1 : vr c v1 x_v1) {v2 : Nat} {x_v2 : Int} (hv2 : vr c v2 x_v2) {v3 : Nat} {x_v3 : Int} (hv3 : vr c v3 x_v3) {t : e_T} {μ : am_M} (hR : e_R c μ0 t μ) : so c μ0 (E_Or_findBest_B73 k5 k39 v1 v2 v3 t) (Or_findBest_B73 k5x k39x x_v1 x_v2 x_v3 μ) := by
  unfold E_Or_findBest_B73 Or_findBest_B73
  exact so_F (vr_add hv3 vl_1) (fun f1 hf1 => hk39 hv1 hv2 hf1 hR)
set_option maxRecDepth 20000 in
theorem s_Or_findBest_L39_b {c : Int} {μ0 : am_M} {k5 : Nat → e_T → e_O} {k5x : Int → am_M → am_O} (hk5 : ∀ {u0 : Nat} {x0 : Int} {t : e_T} {μ : am_M}, vr c u0 x0 → e_R c μ0 t μ → so c μ0 (k5 u0 t) (k5x x0 μ)) {k39 : Nat → Nat → Nat → e_T → e_O} {k39x : Int → Int → Int → am_M → am_O} (hk39 : ∀ {u0 : Nat} {x0 : Int} {u1 : Nat} {x1 : Int} {u2 : Nat} {x2 : Int} {t : e_T} {μ : am_M}, vr c u0 x0 → vr c u1 x1 → vr c u2 x2 → e_R c μ0 t μ → so c μ0 (k39 u0 u1 u2 t) (k39x x0 x1 x2 μ)) {v1 : Nat} {x_v1 : Int} (hv1 : vr c v1 x_v1) {v2 : Nat} {x_v2 : Int} (hv2 : vr c v2 x_v2) {v3 : Nat} {x_v3 : Int} (hv3 : vr c v3 x_v3) {t : e_T} {μ : am_M} (hR : e_R c μ0 t μ) : so c μ0 (E_Or_findBest_L39_b k5 k39 v1 v2 v3 t) (Or_findBest_L39_b k5x k39x x_v1 x_v2 x_v3 μ) := by
  unfold E_Or_findBest_L39_b Or_findBest_L39_b
  exact so_ltc hv3 (vr_rk hR (x := 60) (y := 8) rfl) (so_bd (s_Or_mayFollow hv3 hv1 hR) (fun a6 _ t7 _ ha6 hR7 =>
    so_eq ha6 vl_0 (s_Or_findBest_B73 hk5 hk39 hv1 hv2 hv3 hR7)
    (so_F (vr_or hv1 (vr_shl vl_1 hv3)) (fun f1 hf1 => so_bd (s_X_at vl_66 hf1 hR7) (fun a8 _ t9 _ ha8 hR9 =>
    so_lt (vr_min hv2 ha8) (fun a10 _ ha10 =>
    s_Or_findBest_B73 hk5 hk39 hv1 ha10 hv3 hR9))))))
    (so_bd (s_X_at vl_65 hv1 hR) (fun a1 _ t2 _ ha1 hR2 =>
    so_lt (vr_max hv2 ha1) (fun a3 _ ha3 =>
    so_bd (s_X_put vl_66 hv1 ha3 hR2) (fun a4 _ t5 _ ha4 hR5 =>
    so_F (vr_add hv1 vl_m1) (fun f2 hf2 => hk5 hf2 hR5)))))
set_option maxRecDepth 20000 in
theorem s_Or_findBest_L39 {c : Int} {μ0 : am_M} {k5 : Nat → e_T → e_O} {k5x : Int → am_M → am_O} (hk5 : ∀ {u0 : Nat} {x0 : Int} {t : e_T} {μ : am_M}, vr c u0 x0 → e_R c μ0 t μ → so c μ0 (k5 u0 t) (k5x x0 μ)) : ∀ (n N : Nat), n ≤ N → ∀ {v1 : Nat} {x_v1 : Int} (hv1 : vr c v1 x_v1) {v2 : Nat} {x_v2 : Int} (hv2 : vr c v2 x_v2) {v3 : Nat} {x_v3 : Int} (hv3 : vr c v3 x_v3) {t : e_T} {μ : am_M} (hR : e_R c μ0 t μ), so c μ0 (E_Or_findBest_L39 k5 n v1 v2 v3 t) (Or_findBest_L39 k5x N x_v1 x_v2 x_v3 μ) := by
  intro n
  induction n with
  | zero => intros; exact so_none
  | succ n ih =>
    intro N hN v1 x_v1 hv1 v2 x_v2 hv2 v3 x_v3 hv3 t μ hR
    obtain ⟨M, rfl⟩ : ∃ M, N = M + 1 := ⟨N - 1, by omega⟩
    exact s_Or_findBest_L39_b (k39 := E_Or_findBest_L39 k5 n) (k39x := Or_findBest_L39 k5x M) hk5 (fun hv1 hv2 hv3 hR => ih M (by omega) hv1 hv2 hv3 hR) hv1 hv2 hv3 hR
set_option maxRecDepth 20000 in
theorem s_Or_findBest_B36 {c : Int} {μ0 : am_M} {k5 : Nat → e_T → e_O} {k5x : Int → am_M → am_O} (hk5 : ∀ {u0 : Nat} {x0 : Int} {t : e_T} {μ : am_M}, vr c u0 x0 → e_R c μ0 t μ → so c μ0 (k5 u0 t) (k5x x0 μ)) {v1 : Nat} {x_v1 : Int} (hv1 : vr c v1 x_v1) {s0 : Nat} {x_s0 : Int} (hs0 : vr c s0 x_s0) {t : e_T} {μ : am_M} (hR : e_R c μ0 t μ) : so c μ0 (E_Or_findBest_B36 k5 v1 s0 t) (Or_findBest_B36 k5x x_v1 x_s0 μ) := by
  unfold E_Or_findBest_B36 Or_findBest_B36
  exact s_Or_findBest_L39 hk5 4096 am_FU e_FU hv1 hs0 vl_0 hR
set_option maxRecDepth 20000 in
theorem s_Or_findBest_L5_b {c : Int} {μ0 : am_M} {k5 : Nat → e_T → e_O} {k5x : Int → am_M → am_O} (hk5 : ∀ {u0 : Nat} {x0 : Int} {t : e_T} {μ : am_M}, vr c u0 x0 → e_R c μ0 t μ → so c μ0 (k5 u0 t) (k5x x0 μ)) {v1 : Nat} {x_v1 : Int} (hv1 : vr c v1 x_v1) {t : e_T} {μ : am_M} (hR : e_R c μ0 t μ) : so c μ0 (E_Or_findBest_L5_b k5 v1 t) (Or_findBest_L5_b k5x x_v1 μ) := by
  unfold E_Or_findBest_L5_b Or_findBest_L5_b
  exact so_ltc hv1 vl_0 (so_ret vl_0 hR)
    (so_bd (s_Or_countLying hv1 hR) (fun a1 _ t2 _ ha1 hR2 =>
    so_bd (s_X_put vl_65 hv1 ha1 hR2) (fun a3 _ t4 _ ha3 hR4 =>
    so_bd (s_Or_allSums hR4) (fun a5 _ t6 _ ha5 hR6 =>
    so_eq hv1 ha5 (s_Or_findBest_B36 hk5 hv1 vl_0 hR6)
    (s_Or_findBest_B36 hk5 hv1 vl_2147483647 hR6)))))
set_option maxRecDepth 20000 in
theorem s_Or_findBest_L5 {c : Int} {μ0 : am_M} : ∀ (n N : Nat), n ≤ N → ∀ {v1 : Nat} {x_v1 : Int} (hv1 : vr c v1 x_v1) {t : e_T} {μ : am_M} (hR : e_R c μ0 t μ), so c μ0 (E_Or_findBest_L5 n v1 t) (Or_findBest_L5 N x_v1 μ) := by
  intro n
  induction n with
  | zero => intros; exact so_none
  | succ n ih =>
    intro N hN v1 x_v1 hv1 t μ hR
    obtain ⟨M, rfl⟩ : ∃ M, N = M + 1 := ⟨N - 1, by omega⟩
    exact s_Or_findBest_L5_b (k5 := E_Or_findBest_L5 n) (k5x := Or_findBest_L5 M) (fun hv1 hR => ih M (by omega) hv1 hR) hv1 hR
set_option maxRecDepth 20000 in
theorem s_Or_findBest {c : Int} {μ0 : am_M}  {t : e_T} {μ : am_M} (hR : e_R c μ0 t μ) : so c μ0 (E_Or_findBest t) (Or_findBest μ) := by
  unfold E_Or_findBest Or_findBest
  exact so_bd (s_Or_allSums hR) (fun a1 _ t2 _ ha1 hR2 =>
    s_Or_findBest_L5 4096 am_FU e_FU ha1 hR2)
set_option maxRecDepth 20000 in
theorem s_Or_prepare {c : Int} {μ0 : am_M} {v1 : Nat} {x_v1 : Int} (hv1 : vr c v1 x_v1) {v2 : Nat} {x_v2 : Int} (hv2 : vr c v2 x_v2) {t : e_T} {μ : am_M} (hR : e_R c μ0 t μ) : so c μ0 (E_Or_prepare v1 v2 t) (Or_prepare x_v1 x_v2 μ) := by
  unfold E_Or_prepare Or_prepare
  exact so_gd hv1 <|
    so_bd (s_Bi_has hv1 hv2 hR) (fun a2 _ t3 _ ha2 hR3 =>
    so_eq ha2 vl_0 (so_ret vl_0 hR3)
    (so_bd (s_Bi_isPlain hv1 hv2 hR3) (fun a4 _ t5 _ ha4 hR5 =>
    so_eq ha4 vl_0 (so_ret vl_0 hR5)
    (so_F (vr_of 16 rfl hv1) (fun f1 hf1 => so_bd (s_X_at hf1 hv2 hR5) (fun a6 _ t7 _ ha6 hR7 =>
    so_F (vr_of 17 rfl hv1) (fun f2 hf2 => so_bd (s_X_at hf2 hv2 hR7) (fun a8 _ t9 _ ha8 hR9 =>
    so_lec (vr_sub (vr_sub ha6 ha8) vl_1) vl_12 (so_lec (vr_sub (vr_sub ha6 ha8) vl_1) vl_10 (so_eq (vr_rk hR9 (x := 60) (y := 9) rfl) hv2 (so_ret vl_1 hR9)
    (so_F (vr_of 17 rfl hv1) (fun f3 hf3 => so_bd (s_X_at hf3 hv2 hR9) (fun a10 _ t11 _ ha10 hR11 =>
    so_pf vl_60 vl_7 ha10 hR11 (fun t12 _ hR12 =>
    so_F (vr_sub (vr_sub ha6 ha8) vl_1) (fun f4 hf4 => so_pf vl_60 vl_8 hf4 hR12 (fun t13 _ hR13 =>
    so_F (vr_of 15 rfl hv1) (fun f5 hf5 => so_bd (s_X_at hf5 hv2 hR13) (fun a14 _ t15 _ ha14 hR15 =>
    so_F (vr_of 1 rfl hv1) (fun f6 hf6 => so_F (vr_add ha14 (vr_rk hR15 (x := 60) (y := 7) rfl)) (fun f7 hf7 => so_bd (s_Or_countStands hf6 hf7 hR15) (fun a16 _ t17 _ ha16 hR17 =>
    so_bd (s_Or_findReaders hR17) (fun a18 _ t19 _ ha18 hR19 =>
    so_bd (s_Or_findBest hR19) (fun a20 _ t21 _ ha20 hR21 =>
    so_pf vl_60 vl_9 hv2 hR21 (fun t22 _ hR22 =>
    so_ret vl_1 hR22)))))))))))))))
    (so_ret vl_0 hR9))
    (so_ret vl_0 hR9)))))))))
set_option maxRecDepth 20000 in
theorem s_Or_least {c : Int} {μ0 : am_M}  {t : e_T} {μ : am_M} (hR : e_R c μ0 t μ) : so c μ0 (E_Or_least t) (Or_least μ) := by
  unfold E_Or_least Or_least
  exact so_bd (s_X_at vl_66 vl_0 hR) (fun a1 _ t2 _ ha1 hR2 =>
    so_ret ha1 hR2)
set_option maxRecDepth 20000 in
theorem s_Or_firstFollowing_B40 {c : Int} {μ0 : am_M} {k2 : Nat → Nat → e_T → e_O} {k2x : Int → Int → am_M → am_O} (hk2 : ∀ {u0 : Nat} {x0 : Int} {u1 : Nat} {x1 : Int} {t : e_T} {μ : am_M}, vr c u0 x0 → vr c u1 x1 → e_R c μ0 t μ → so c μ0 (k2 u0 u1 t) (k2x x0 x1 μ)) {v1 : Nat} {x_v1 : Int} (hv1 : vr c v1 x_v1) {v2 : Nat} {x_v2 : Int} (hv2 : vr c v2 x_v2) {t : e_T} {μ : am_M} (hR : e_R c μ0 t μ) : so c μ0 (E_Or_firstFollowing_B40 k2 v1 v2 t) (Or_firstFollowing_B40 k2x x_v1 x_v2 μ) := by
  unfold E_Or_firstFollowing_B40 Or_firstFollowing_B40
  exact so_F (vr_add hv2 vl_1) (fun f1 hf1 => hk2 hv1 hf1 hR)
set_option maxRecDepth 20000 in
theorem s_Or_firstFollowing_L2_b {c : Int} {μ0 : am_M} {k2 : Nat → Nat → e_T → e_O} {k2x : Int → Int → am_M → am_O} (hk2 : ∀ {u0 : Nat} {x0 : Int} {u1 : Nat} {x1 : Int} {t : e_T} {μ : am_M}, vr c u0 x0 → vr c u1 x1 → e_R c μ0 t μ → so c μ0 (k2 u0 u1 t) (k2x x0 x1 μ)) {v1 : Nat} {x_v1 : Int} (hv1 : vr c v1 x_v1) {v2 : Nat} {x_v2 : Int} (hv2 : vr c v2 x_v2) {t : e_T} {μ : am_M} (hR : e_R c μ0 t μ) : so c μ0 (E_Or_firstFollowing_L2_b k2 v1 v2 t) (Or_firstFollowing_L2_b k2x x_v1 x_v2 μ) := by
  unfold E_Or_firstFollowing_L2_b Or_firstFollowing_L2_b
  exact so_ltc hv2 (vr_rk hR (x := 60) (y := 8) rfl) (so_bd (s_Or_mayFollow hv2 hv1 hR) (fun a1 _ t2 _ ha1 hR2 =>
    so_eq ha1 vl_0 (s_Or_firstFollowing_B40 hk2 hv1 hv2 hR2)
    (so_F (vr_or hv1 (vr_shl vl_1 hv2)) (fun f1 hf1 => so_bd (s_X_at vl_66 hf1 hR2) (fun a3 _ t4 _ ha3 hR4 =>
    so_bd (s_Or_least hR4) (fun a5 _ t6 _ ha5 hR6 =>
    so_lec ha3 ha5 (so_ret hv2 hR6)
    (s_Or_firstFollowing_B40 hk2 hv1 hv2 hR6)))))))
    (so_ret vl_m1 hR)
set_option maxRecDepth 20000 in
theorem s_Or_firstFollowing_L2 {c : Int} {μ0 : am_M} : ∀ (n N : Nat), n ≤ N → ∀ {v1 : Nat} {x_v1 : Int} (hv1 : vr c v1 x_v1) {v2 : Nat} {x_v2 : Int} (hv2 : vr c v2 x_v2) {t : e_T} {μ : am_M} (hR : e_R c μ0 t μ), so c μ0 (E_Or_firstFollowing_L2 n v1 v2 t) (Or_firstFollowing_L2 N x_v1 x_v2 μ) := by
  intro n
  induction n with
  | zero => intros; exact so_none
  | succ n ih =>
    intro N hN v1 x_v1 hv1 v2 x_v2 hv2 t μ hR
    obtain ⟨M, rfl⟩ : ∃ M, N = M + 1 := ⟨N - 1, by omega⟩
    exact s_Or_firstFollowing_L2_b (k2 := E_Or_firstFollowing_L2 n) (k2x := Or_firstFollowing_L2 M) (fun hv1 hv2 hR => ih M (by omega) hv1 hv2 hR) hv1 hv2 hR
set_option maxRecDepth 20000 in
theorem s_Or_firstFollowing {c : Int} {μ0 : am_M} {v1 : Nat} {x_v1 : Int} (hv1 : vr c v1 x_v1) {t : e_T} {μ : am_M} (hR : e_R c μ0 t μ) : so c μ0 (E_Or_firstFollowing v1 t) (Or_firstFollowing x_v1 μ) := by
  unfold E_Or_firstFollowing Or_firstFollowing
  exact s_Or_firstFollowing_L2 4096 am_FU e_FU hv1 vl_0 hR
set_option maxRecDepth 20000 in
theorem s_Or_sumAt_B46 {c : Int} {μ0 : am_M} {k21 : Nat → Nat → Nat → Nat → e_T → e_O} {k21x : Int → Int → Int → Int → am_M → am_O} (hk21 : ∀ {u0 : Nat} {x0 : Int} {u1 : Nat} {x1 : Int} {u2 : Nat} {x2 : Int} {u3 : Nat} {x3 : Int} {t : e_T} {μ : am_M}, vr c u0 x0 → vr c u1 x1 → vr c u2 x2 → vr c u3 x3 → e_R c μ0 t μ → so c μ0 (k21 u0 u1 u2 u3 t) (k21x x0 x1 x2 x3 μ)) {v1 : Nat} {x_v1 : Int} (hv1 : vr c v1 x_v1) {v3 : Nat} {x_v3 : Int} (hv3 : vr c v3 x_v3) {v4 : Nat} {x_v4 : Int} (hv4 : vr c v4 x_v4) {s0 : Nat} {x_s0 : Int} (hs0 : vr c s0 x_s0) {s1 : Nat} {x_s1 : Int} (hs1 : vr c s1 x_s1) {t : e_T} {μ : am_M} (hR : e_R c μ0 t μ) : so c μ0 (E_Or_sumAt_B46 k21 v1 v3 v4 s0 s1 t) (Or_sumAt_B46 k21x x_v1 x_v3 x_v4 x_s0 x_s1 μ) := by
  unfold E_Or_sumAt_B46 Or_sumAt_B46
  exact so_F (vr_or hs0 hs1) (fun f1 hf1 => so_F (vr_add hv4 vl_1) (fun f2 hf2 => hk21 hv1 hf1 hv3 hf2 hR))
set_option maxRecDepth 20000 in
theorem s_Or_sumAt_L21_b {c : Int} {μ0 : am_M} {k21 : Nat → Nat → Nat → Nat → e_T → e_O} {k21x : Int → Int → Int → Int → am_M → am_O} (hk21 : ∀ {u0 : Nat} {x0 : Int} {u1 : Nat} {x1 : Int} {u2 : Nat} {x2 : Int} {u3 : Nat} {x3 : Int} {t : e_T} {μ : am_M}, vr c u0 x0 → vr c u1 x1 → vr c u2 x2 → vr c u3 x3 → e_R c μ0 t μ → so c μ0 (k21 u0 u1 u2 u3 t) (k21x x0 x1 x2 x3 μ)) {v1 : Nat} {x_v1 : Int} (hv1 : vr c v1 x_v1) {v2 : Nat} {x_v2 : Int} (hv2 : vr c v2 x_v2) {v3 : Nat} {x_v3 : Int} (hv3 : vr c v3 x_v3) {v4 : Nat} {x_v4 : Int} (hv4 : vr c v4 x_v4) {t : e_T} {μ : am_M} (hR : e_R c μ0 t μ) : so c μ0 (E_Or_sumAt_L21_b k21 v1 v2 v3 v4 t) (Or_sumAt_L21_b k21x x_v1 x_v2 x_v3 x_v4 μ) := by
  unfold E_Or_sumAt_L21_b Or_sumAt_L21_b
  exact so_lec hv4 hv1 (so_bd (s_Or_firstFollowing hv2 hR) (fun a1 _ t2 _ ha1 hR2 =>
    so_eq ha1 vl_m1 (s_Or_sumAt_B46 hk21 hv1 ha1 hv4 hv2 vl_0 hR2)
    (so_F (vr_shl vl_1 ha1) (fun f1 hf1 => s_Or_sumAt_B46 hk21 hv1 ha1 hv4 hv2 hf1 hR2))))
    (so_ret hv3 hR)
set_option maxRecDepth 20000 in
theorem s_Or_sumAt_L21 {c : Int} {μ0 : am_M} : ∀ (n N : Nat), n ≤ N → ∀ {v1 : Nat} {x_v1 : Int} (hv1 : vr c v1 x_v1) {v2 : Nat} {x_v2 : Int} (hv2 : vr c v2 x_v2) {v3 : Nat} {x_v3 : Int} (hv3 : vr c v3 x_v3) {v4 : Nat} {x_v4 : Int} (hv4 : vr c v4 x_v4) {t : e_T} {μ : am_M} (hR : e_R c μ0 t μ), so c μ0 (E_Or_sumAt_L21 n v1 v2 v3 v4 t) (Or_sumAt_L21 N x_v1 x_v2 x_v3 x_v4 μ) := by
  intro n
  induction n with
  | zero => intros; exact so_none
  | succ n ih =>
    intro N hN v1 x_v1 hv1 v2 x_v2 hv2 v3 x_v3 hv3 v4 x_v4 hv4 t μ hR
    obtain ⟨M, rfl⟩ : ∃ M, N = M + 1 := ⟨N - 1, by omega⟩
    exact s_Or_sumAt_L21_b (k21 := E_Or_sumAt_L21 n) (k21x := Or_sumAt_L21 M) (fun hv1 hv2 hv3 hv4 hR => ih M (by omega) hv1 hv2 hv3 hv4 hR) hv1 hv2 hv3 hv4 hR
set_option maxRecDepth 20000 in
theorem s_Or_sumAt {c : Int} {μ0 : am_M} {v1 : Nat} {x_v1 : Int} (hv1 : vr c v1 x_v1) {t : e_T} {μ : am_M} (hR : e_R c μ0 t μ) : so c μ0 (E_Or_sumAt v1 t) (Or_sumAt x_v1 μ) := by
  unfold E_Or_sumAt Or_sumAt
  exact so_ltc hv1 vl_0 (so_ret vl_m1 hR)
    (so_ltc hv1 (vr_rk hR (x := 60) (y := 8) rfl) (s_Or_sumAt_L21 4096 am_FU e_FU hv1 vl_0 vl_m1 vl_0 hR)
    (so_ret vl_m1 hR))
set_option maxRecDepth 20000 in
theorem s_Or_greatestAsTold_L4_b {c : Int} {μ0 : am_M} {k4 : Nat → Nat → e_T → e_O} {k4x : Int → Int → am_M → am_O} (hk4 : ∀ {u0 : Nat} {x0 : Int} {u1 : Nat} {x1 : Int} {t : e_T} {μ : am_M}, vr c u0 x0 → vr c u1 x1 → e_R c μ0 t μ → so c μ0 (k4 u0 u1 t) (k4x x0 x1 μ)) {v1 : Nat} {x_v1 : Int} (hv1 : vr c v1 x_v1) {v2 : Nat} {x_v2 : Int} (hv2 : vr c v2 x_v2) {t : e_T} {μ : am_M} (hR : e_R c μ0 t μ) : so c μ0 (E_Or_greatestAsTold_L4_b k4 v1 v2 t) (Or_greatestAsTold_L4_b k4x x_v1 x_v2 μ) := by
  unfold E_Or_greatestAsTold_L4_b Or_greatestAsTold_L4_b
  exact so_lec hv2 (vr_rk hR (x := 60) (y := 8) rfl) (so_F (vr_sub (vr_shl vl_1 hv2) vl_1) (fun f1 hf1 => so_bd (s_X_at vl_65 hf1 hR) (fun a1 _ t2 _ ha1 hR2 =>
    so_lt (vr_max hv1 ha1) (fun a3 _ ha3 =>
    so_F (vr_add hv2 vl_1) (fun f2 hf2 => hk4 ha3 hf2 hR2)))))
    (so_ret hv1 hR)
set_option maxRecDepth 20000 in
theorem s_Or_greatestAsTold_L4 {c : Int} {μ0 : am_M} : ∀ (n N : Nat), n ≤ N → ∀ {v1 : Nat} {x_v1 : Int} (hv1 : vr c v1 x_v1) {v2 : Nat} {x_v2 : Int} (hv2 : vr c v2 x_v2) {t : e_T} {μ : am_M} (hR : e_R c μ0 t μ), so c μ0 (E_Or_greatestAsTold_L4 n v1 v2 t) (Or_greatestAsTold_L4 N x_v1 x_v2 μ) := by
  intro n
  induction n with
  | zero => intros; exact so_none
  | succ n ih =>
    intro N hN v1 x_v1 hv1 v2 x_v2 hv2 t μ hR
    obtain ⟨M, rfl⟩ : ∃ M, N = M + 1 := ⟨N - 1, by omega⟩
    exact s_Or_greatestAsTold_L4_b (k4 := E_Or_greatestAsTold_L4 n) (k4x := Or_greatestAsTold_L4 M) (fun hv1 hv2 hR => ih M (by omega) hv1 hv2 hR) hv1 hv2 hR
set_option maxRecDepth 20000 in
theorem s_Or_greatestAsTold {c : Int} {μ0 : am_M}  {t : e_T} {μ : am_M} (hR : e_R c μ0 t μ) : so c μ0 (E_Or_greatestAsTold t) (Or_greatestAsTold μ) := by
  unfold E_Or_greatestAsTold Or_greatestAsTold
  exact s_Or_greatestAsTold_L4 4096 am_FU e_FU vl_0 vl_0 hR
set_option maxRecDepth 20000 in
theorem s_Or_countFollowing_B52 {c : Int} {μ0 : am_M} {k5 : Nat → Nat → Nat → e_T → e_O} {k5x : Int → Int → Int → am_M → am_O} (hk5 : ∀ {u0 : Nat} {x0 : Int} {u1 : Nat} {x1 : Int} {u2 : Nat} {x2 : Int} {t : e_T} {μ : am_M}, vr c u0 x0 → vr c u1 x1 → vr c u2 x2 → e_R c μ0 t μ → so c μ0 (k5 u0 u1 u2 t) (k5x x0 x1 x2 μ)) {v1 : Nat} {x_v1 : Int} (hv1 : vr c v1 x_v1) {v2 : Nat} {x_v2 : Int} (hv2 : vr c v2 x_v2) {v4 : Nat} {x_v4 : Int} (hv4 : vr c v4 x_v4) {t : e_T} {μ : am_M} (hR : e_R c μ0 t μ) : so c μ0 (E_Or_countFollowing_B52 k5 v1 v2 v4 t) (Or_countFollowing_B52 k5x x_v1 x_v2 x_v4 μ) := by
  unfold E_Or_countFollowing_B52 Or_countFollowing_B52
  exact so_F (vr_add hv4 vl_1) (fun f1 hf1 => hk5 hv1 hv2 hf1 hR)
set_option maxRecDepth 20000 in
theorem s_Or_countFollowing_L5_b {c : Int} {μ0 : am_M} {k5 : Nat → Nat → Nat → e_T → e_O} {k5x : Int → Int → Int → am_M → am_O} (hk5 : ∀ {u0 : Nat} {x0 : Int} {u1 : Nat} {x1 : Int} {u2 : Nat} {x2 : Int} {t : e_T} {μ : am_M}, vr c u0 x0 → vr c u1 x1 → vr c u2 x2 → e_R c μ0 t μ → so c μ0 (k5 u0 u1 u2 t) (k5x x0 x1 x2 μ)) {v1 : Nat} {x_v1 : Int} (hv1 : vr c v1 x_v1) {v2 : Nat} {x_v2 : Int} (hv2 : vr c v2 x_v2) {v4 : Nat} {x_v4 : Int} (hv4 : vr c v4 x_v4) {t : e_T} {μ : am_M} (hR : e_R c μ0 t μ) : so c μ0 (E_Or_countFollowing_L5_b k5 v1 v2 v4 t) (Or_countFollowing_L5_b k5x x_v1 x_v2 x_v4 μ) := by
  unfold E_Or_countFollowing_L5_b Or_countFollowing_L5_b
  exact so_ltc hv4 (vr_rk hR (x := 60) (y := 8) rfl) (so_bd (s_Or_mayFollow hv4 hv1 hR) (fun a1 _ t2 _ ha1 hR2 =>
    so_eq ha1 vl_0 (s_Or_countFollowing_B52 hk5 hv1 hv2 hv4 hR2)
    (so_ltc (vr_or hv1 (vr_shl vl_1 hv4)) vl_1024 (so_F (vr_or hv1 (vr_shl vl_1 hv4)) (fun f1 hf1 => so_ld vl_1024 vl_67 hf1 hR2 (fun a3 _ ha3 =>
    so_F (vr_add6 hv2 ha3) (fun f2 hf2 => s_Or_countFollowing_B52 hk5 hv1 hf2 hv4 hR2))))
    (s_Or_countFollowing_B52 hk5 hv1 hv2 hv4 hR2))))
    (so_ret hv2 hR)
set_option maxRecDepth 20000 in
theorem s_Or_countFollowing_L5 {c : Int} {μ0 : am_M} : ∀ (n N : Nat), n ≤ N → ∀ {v1 : Nat} {x_v1 : Int} (hv1 : vr c v1 x_v1) {v2 : Nat} {x_v2 : Int} (hv2 : vr c v2 x_v2) {v4 : Nat} {x_v4 : Int} (hv4 : vr c v4 x_v4) {t : e_T} {μ : am_M} (hR : e_R c μ0 t μ), so c μ0 (E_Or_countFollowing_L5 n v1 v2 v4 t) (Or_countFollowing_L5 N x_v1 x_v2 x_v4 μ) := by
  intro n
  induction n with
  | zero => intros; exact so_none
  | succ n ih =>
    intro N hN v1 x_v1 hv1 v2 x_v2 hv2 v4 x_v4 hv4 t μ hR
    obtain ⟨M, rfl⟩ : ∃ M, N = M + 1 := ⟨N - 1, by omega⟩
    exact s_Or_countFollowing_L5_b (k5 := E_Or_countFollowing_L5 n) (k5x := Or_countFollowing_L5 M) (fun hv1 hv2 hv4 hR => ih M (by omega) hv1 hv2 hv4 hR) hv1 hv2 hv4 hR
set_option maxRecDepth 20000 in
theorem s_Or_countFollowing {c : Int} {μ0 : am_M} {v1 : Nat} {x_v1 : Int} (hv1 : vr c v1 x_v1) {t : e_T} {μ : am_M} (hR : e_R c μ0 t μ) : so c μ0 (E_Or_countFollowing v1 t) (Or_countFollowing x_v1 μ) := by
  unfold E_Or_countFollowing Or_countFollowing
  exact s_Or_countFollowing_L5 4096 am_FU e_FU hv1 vl_0 vl_0 hR
set_option maxRecDepth 20000 in
theorem s_Or_howMany_B50 {c : Int} {μ0 : am_M} {k5 : Nat → Nat → e_T → e_O} {k5x : Int → Int → am_M → am_O} (hk5 : ∀ {u0 : Nat} {x0 : Int} {u1 : Nat} {x1 : Int} {t : e_T} {μ : am_M}, vr c u0 x0 → vr c u1 x1 → e_R c μ0 t μ → so c μ0 (k5 u0 u1 t) (k5x x0 x1 μ)) {v1 : Nat} {x_v1 : Int} (hv1 : vr c v1 x_v1) {v2 : Nat} {x_v2 : Int} (hv2 : vr c v2 x_v2) {v3 : Nat} {x_v3 : Int} (hv3 : vr c v3 x_v3) {t : e_T} {μ : am_M} (hR : e_R c μ0 t μ) : so c μ0 (E_Or_howMany_B50 k5 v1 v2 v3 t) (Or_howMany_B50 k5x x_v1 x_v2 x_v3 μ) := by
  unfold E_Or_howMany_B50 Or_howMany_B50
  exact so_st vl_1024 vl_67 hv2 hv3 hR (fun t1 _ hR1 =>
    so_F (vr_add hv2 vl_m1) (fun f1 hf1 => hk5 hv1 hf1 hR1))
set_option maxRecDepth 20000 in
theorem s_Or_howMany_B49 {c : Int} {μ0 : am_M} {k5 : Nat → Nat → e_T → e_O} {k5x : Int → Int → am_M → am_O} (hk5 : ∀ {u0 : Nat} {x0 : Int} {u1 : Nat} {x1 : Int} {t : e_T} {μ : am_M}, vr c u0 x0 → vr c u1 x1 → e_R c μ0 t μ → so c μ0 (k5 u0 u1 t) (k5x x0 x1 μ)) {v1 : Nat} {x_v1 : Int} (hv1 : vr c v1 x_v1) {v2 : Nat} {x_v2 : Int} (hv2 : vr c v2 x_v2) {s0 : Nat} {x_s0 : Int} (hs0 : vr c s0 x_s0) {t : e_T} {μ : am_M} (hR : e_R c μ0 t μ) : so c μ0 (E_Or_howMany_B49 k5 v1 v2 s0 t) (Or_howMany_B49 k5x x_v1 x_v2 x_s0 μ) := by
  unfold E_Or_howMany_B49 Or_howMany_B49
  exact s_Or_howMany_B50 hk5 hv1 hv2 hs0 hR
set_option maxRecDepth 20000 in
theorem s_Or_howMany_B63 {c : Int} {μ0 : am_M}  {t : e_T} {μ : am_M} (hR : e_R c μ0 t μ) : so c μ0 (E_Or_howMany_B63 t) (Or_howMany_B63 μ) := by
  unfold E_Or_howMany_B63 Or_howMany_B63
  exact so_ld vl_1024 vl_67 vl_0 hR (fun a1 _ ha1 =>
    so_ret ha1 hR)
set_option maxRecDepth 20000 in
theorem s_Or_howMany_L5_b {c : Int} {μ0 : am_M} {k5 : Nat → Nat → e_T → e_O} {k5x : Int → Int → am_M → am_O} (hk5 : ∀ {u0 : Nat} {x0 : Int} {u1 : Nat} {x1 : Int} {t : e_T} {μ : am_M}, vr c u0 x0 → vr c u1 x1 → e_R c μ0 t μ → so c μ0 (k5 u0 u1 t) (k5x x0 x1 μ)) {v1 : Nat} {x_v1 : Int} (hv1 : vr c v1 x_v1) {v2 : Nat} {x_v2 : Int} (hv2 : vr c v2 x_v2) {t : e_T} {μ : am_M} (hR : e_R c μ0 t μ) : so c μ0 (E_Or_howMany_L5_b k5 v1 v2 t) (Or_howMany_L5_b k5x x_v1 x_v2 μ) := by
  unfold E_Or_howMany_L5_b Or_howMany_L5_b
  exact so_ltc hv2 vl_0 (s_Or_howMany_B63 hR)
    (so_ltc hv2 vl_1024 (so_bd (s_X_at vl_65 hv2 hR) (fun a1 _ t2 _ ha1 hR2 =>
    so_lec ha1 hv1 (so_bd (s_Or_allSums hR2) (fun a3 _ t4 _ ha3 hR4 =>
    so_eq hv2 ha3 (s_Or_howMany_B49 hk5 hv1 hv2 vl_1 hR4)
    (so_bd (s_Or_countFollowing hv2 hR4) (fun a5 _ t6 _ ha5 hR6 =>
    s_Or_howMany_B49 hk5 hv1 hv2 ha5 hR6))))
    (s_Or_howMany_B50 hk5 hv1 hv2 vl_0 hR2)))
    (s_Or_howMany_B63 hR))
set_option maxRecDepth 20000 in
theorem s_Or_howMany_L5 {c : Int} {μ0 : am_M} : ∀ (n N : Nat), n ≤ N → ∀ {v1 : Nat} {x_v1 : Int} (hv1 : vr c v1 x_v1) {v2 : Nat} {x_v2 : Int} (hv2 : vr c v2 x_v2) {t : e_T} {μ : am_M} (hR : e_R c μ0 t μ), so c μ0 (E_Or_howMany_L5 n v1 v2 t) (Or_howMany_L5 N x_v1 x_v2 μ) := by
  intro n
  induction n with
  | zero => intros; exact so_none
  | succ n ih =>
    intro N hN v1 x_v1 hv1 v2 x_v2 hv2 t μ hR
    obtain ⟨M, rfl⟩ : ∃ M, N = M + 1 := ⟨N - 1, by omega⟩
    exact s_Or_howMany_L5_b (k5 := E_Or_howMany_L5 n) (k5x := Or_howMany_L5 M) (fun hv1 hv2 hR => ih M (by omega) hv1 hv2 hR) hv1 hv2 hR
set_option maxRecDepth 20000 in
theorem s_Or_howMany {c : Int} {μ0 : am_M} {v1 : Nat} {x_v1 : Int} (hv1 : vr c v1 x_v1) {t : e_T} {μ : am_M} (hR : e_R c μ0 t μ) : so c μ0 (E_Or_howMany v1 t) (Or_howMany x_v1 μ) := by
  unfold E_Or_howMany Or_howMany
  exact so_bd (s_Or_allSums hR) (fun a1 _ t2 _ ha1 hR2 =>
    s_Or_howMany_L5 4096 am_FU e_FU hv1 ha1 hR2)
set_option maxRecDepth 20000 in
theorem s_Or_leastCoin_L41_b {c : Int} {μ0 : am_M} {k27 : Nat → Nat → Nat → e_T → e_O} {k27x : Int → Int → Int → am_M → am_O} (hk27 : ∀ {u0 : Nat} {x0 : Int} {u1 : Nat} {x1 : Int} {u2 : Nat} {x2 : Int} {t : e_T} {μ : am_M}, vr c u0 x0 → vr c u1 x1 → vr c u2 x2 → e_R c μ0 t μ → so c μ0 (k27 u0 u1 u2 t) (k27x x0 x1 x2 μ)) {k41 : Nat → Nat → Nat → Nat → Nat → e_T → e_O} {k41x : Int → Int → Int → Int → Int → am_M → am_O} (hk41 : ∀ {u0 : Nat} {x0 : Int} {u1 : Nat} {x1 : Int} {u2 : Nat} {x2 : Int} {u3 : Nat} {x3 : Int} {u4 : Nat} {x4 : Int} {t : e_T} {μ : am_M}, vr c u0 x0 → vr c u1 x1 → vr c u2 x2 → vr c u3 x3 → vr c u4 x4 → e_R c μ0 t μ → so c μ0 (k41 u0 u1 u2 u3 u4 t) (k41x x0 x1 x2 x3 x4 μ)) {v1 : Nat} {x_v1 : Int} (hv1 : vr c v1 x_v1) {v2 : Nat} {x_v2 : Int} (hv2 : vr c v2 x_v2) {v3 : Nat} {x_v3 : Int} (hv3 : vr c v3 x_v3) {v4 : Nat} {x_v4 : Int} (hv4 : vr c v4 x_v4) {v5 : Nat} {x_v5 : Int} (hv5 : vr c v5 x_v5) {t : e_T} {μ : am_M} (hR : e_R c μ0 t μ) : so c μ0 (E_Or_leastCoin_L41_b k27 k41 v1 v2 v3 v4 v5 t) (Or_leastCoin_L41_b k27x k41x x_v1 x_v2 x_v3 x_v4 x_v5 μ) := by
  unfold E_Or_leastCoin_L41_b Or_leastCoin_L41_b
  exact so_bd (s_Or_slipOf hv3 hR) (fun a1 _ t2 _ ha1 hR2 =>
    so_ltc hv5 ha1 (so_bd (s_Or_standing hv3 hv5 hR2) (fun a8 _ t9 _ ha8 hR9 =>
    so_bd (s_X_at vl_64 hv5 hR9) (fun a10 _ t11 _ ha10 hR11 =>
    so_F (vr_add hv4 (vr_mul ha8 ha10)) (fun f1 hf1 => so_F (vr_add hv5 vl_1) (fun f2 hf2 => hk41 hv1 hv2 hv3 hf1 hf2 hR11)))))
    (so_bd (s_Or_slipOf hv3 hR2) (fun a3 _ t4 _ ha3 hR4 =>
    so_lt (vr_min hv1 hv4) (fun a5 _ ha5 =>
    so_bd (s_X_put vl_64 ha3 ha5 hR4) (fun a6 _ t7 _ ha6 hR7 =>
    so_F (vr_add hv3 vl_1) (fun f3 hf3 => hk27 hv1 hv2 hf3 hR7))))))
set_option maxRecDepth 20000 in
theorem s_Or_leastCoin_L41 {c : Int} {μ0 : am_M} {k27 : Nat → Nat → Nat → e_T → e_O} {k27x : Int → Int → Int → am_M → am_O} (hk27 : ∀ {u0 : Nat} {x0 : Int} {u1 : Nat} {x1 : Int} {u2 : Nat} {x2 : Int} {t : e_T} {μ : am_M}, vr c u0 x0 → vr c u1 x1 → vr c u2 x2 → e_R c μ0 t μ → so c μ0 (k27 u0 u1 u2 t) (k27x x0 x1 x2 μ)) : ∀ (n N : Nat), n ≤ N → ∀ {v1 : Nat} {x_v1 : Int} (hv1 : vr c v1 x_v1) {v2 : Nat} {x_v2 : Int} (hv2 : vr c v2 x_v2) {v3 : Nat} {x_v3 : Int} (hv3 : vr c v3 x_v3) {v4 : Nat} {x_v4 : Int} (hv4 : vr c v4 x_v4) {v5 : Nat} {x_v5 : Int} (hv5 : vr c v5 x_v5) {t : e_T} {μ : am_M} (hR : e_R c μ0 t μ), so c μ0 (E_Or_leastCoin_L41 k27 n v1 v2 v3 v4 v5 t) (Or_leastCoin_L41 k27x N x_v1 x_v2 x_v3 x_v4 x_v5 μ) := by
  intro n
  induction n with
  | zero => intros; exact so_none
  | succ n ih =>
    intro N hN v1 x_v1 hv1 v2 x_v2 hv2 v3 x_v3 hv3 v4 x_v4 hv4 v5 x_v5 hv5 t μ hR
    obtain ⟨M, rfl⟩ : ∃ M, N = M + 1 := ⟨N - 1, by omega⟩
    exact s_Or_leastCoin_L41_b (k41 := E_Or_leastCoin_L41 k27 n) (k41x := Or_leastCoin_L41 k27x M) hk27 (fun hv1 hv2 hv3 hv4 hv5 hR => ih M (by omega) hv1 hv2 hv3 hv4 hv5 hR) hv1 hv2 hv3 hv4 hv5 hR
