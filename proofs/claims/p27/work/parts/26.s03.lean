/-! What the evaluator says holds of the functions. Printed by program. -/
set_option maxRecDepth 20000 in
theorem s_Rd_readRest {c : Int} {μ0 : am_M}  {t : e_T} {μ : am_M} (hR : e_R c μ0 t μ) : so c μ0 (E_Rd_readRest t) (Rd_readRest μ) := by
  unfold E_Rd_readRest Rd_readRest
  exact so_gd (vr_rk hR (x := 20) (y := 5) rfl) <|
    so_F (vr_of 1 rfl (vr_rk hR (x := 20) (y := 5) rfl)) (fun f1 hf1 => so_F (vr_rk hR (x := 20) (y := 12) rfl) (fun f2 hf2 => so_bd (s_X_at hf1 hf2 hR) (fun a2 _ t3 _ ha2 hR3 =>
    so_eq ha2 vl_0 (so_bd (s_Rd_isUntaken hR3) (fun a4 _ t5 _ ha4 hR5 =>
    so_eq ha4 vl_0 (so_ret vl_0 hR5)
    (so_bd (s_Rd_readSlip vl_1 hR5) (fun a6 _ t7 _ ha6 hR7 =>
    so_eq ha6 vl_0 (so_ret vl_0 hR7)
    (so_bd (s_Rd_readKind hR7) (fun a8 _ t9 _ ha8 hR9 =>
    so_eq ha8 vl_0 (so_ret vl_0 hR9)
    (so_ret vl_1 hR9)))))))
    (so_eq ha2 vl_1 (so_bd (s_Rd_readSlip vl_1 hR3) (fun a10 _ t11 _ ha10 hR11 =>
    so_eq ha10 vl_0 (so_ret vl_0 hR11)
    (so_bd (s_Rd_readKind hR11) (fun a12 _ t13 _ ha12 hR13 =>
    so_eq ha12 vl_0 (so_ret vl_0 hR13)
    (so_bd (s_Rd_readSum hR13) (fun a14 _ t15 _ ha14 hR15 =>
    so_eq ha14 vl_0 (so_ret vl_0 hR15)
    (so_ret vl_1 hR15)))))))
    (so_eq ha2 vl_2 (so_bd (s_Rd_readSlip vl_0 hR3) (fun a16 _ t17 _ ha16 hR17 =>
    so_eq ha16 vl_0 (so_ret vl_0 hR17)
    (so_bd (s_Rd_expect vl_113 hR17) (fun a18 _ t19 _ ha18 hR19 =>
    so_eq ha18 vl_0 (so_ret vl_0 hR19)
    (so_bd (s_Rd_readSlip vl_1 hR19) (fun a20 _ t21 _ ha20 hR21 =>
    so_eq ha20 vl_0 (so_ret vl_0 hR21)
    (so_bd (s_Rd_readSlip vl_2 hR21) (fun a22 _ t23 _ ha22 hR23 =>
    so_eq ha22 vl_0 (so_ret vl_0 hR23)
    (so_ret vl_1 hR23)))))))))
    (so_eq ha2 vl_3 (so_bd (s_Rd_readSlip vl_0 hR3) (fun a24 _ t25 _ ha24 hR25 =>
    so_rb ha24 hR25))
    (so_eq ha2 vl_4 (so_bd (s_Rd_readCall hR3) (fun a26 _ t27 _ ha26 hR27 =>
    so_eq ha26 vl_0 (so_ret vl_0 hR27)
    (so_bd (s_Rd_expect vl_113 hR27) (fun a28 _ t29 _ ha28 hR29 =>
    so_eq ha28 vl_0 (so_ret vl_0 hR29)
    (so_bd (s_Rd_readSlip vl_1 hR29) (fun a30 _ t31 _ ha30 hR31 =>
    so_eq ha30 vl_0 (so_ret vl_0 hR31)
    (so_ret vl_1 hR31)))))))
    (so_eq ha2 vl_5 (so_F (vr_rk hR3 (x := 20) (y := 7) rfl) (fun f3 hf3 => so_F (vr_rk hR3 (x := 20) (y := 12) rfl) (fun f4 hf4 => so_bd (s_X_put vl_22 hf3 hf4 hR3) (fun a32 _ t33 _ ha32 hR33 =>
    so_F (vr_add (vr_rk hR33 (x := 20) (y := 7) rfl) vl_1) (fun f5 hf5 => so_pf vl_20 vl_7 hf5 hR33 (fun t34 _ hR34 =>
    so_bd (s_Rd_readSum hR34) (fun a35 _ t36 _ ha35 hR36 =>
    so_rb ha35 hR36)))))))
    (so_eq ha2 vl_6 (so_gd (vr_rk hR3 (x := 20) (y := 5) rfl) <|
    so_F (vr_sub (vr_rk hR3 (x := 20) (y := 7) rfl) vl_1) (fun f6 hf6 => so_bd (s_X_at vl_22 hf6 hR3) (fun a38 _ t39 _ ha38 hR39 =>
    so_F (vr_of 6 rfl (vr_rk hR3 (x := 20) (y := 5) rfl)) (fun f7 hf7 => so_F (vr_rk hR39 (x := 20) (y := 12) rfl) (fun f8 hf8 => so_bd (s_X_put hf7 ha38 hf8 hR39) (fun a40 _ t41 _ ha40 hR41 =>
    so_F (vr_sub (vr_rk hR41 (x := 20) (y := 7) rfl) vl_1) (fun f9 hf9 => so_F (vr_rk hR41 (x := 20) (y := 12) rfl) (fun f10 hf10 => so_bd (s_X_put vl_22 hf9 hf10 hR41) (fun a42 _ t43 _ ha42 hR43 =>
    so_ret vl_1 hR43)))))))))
    (so_eq ha2 vl_7 (so_F (vr_sub (vr_rk hR3 (x := 20) (y := 7) rfl) vl_1) (fun f11 hf11 => so_pf vl_20 vl_7 hf11 hR3 (fun t44 _ hR44 =>
    so_gd (vr_rk hR44 (x := 20) (y := 5) rfl) <|
    so_F (vr_rk hR44 (x := 20) (y := 7) rfl) (fun f12 hf12 => so_bd (s_X_at vl_22 hf12 hR44) (fun a46 _ t47 _ ha46 hR47 =>
    so_F (vr_of 6 rfl (vr_rk hR44 (x := 20) (y := 5) rfl)) (fun f13 hf13 => so_F (vr_rk hR47 (x := 20) (y := 12) rfl) (fun f14 hf14 => so_bd (s_X_put hf13 ha46 hf14 hR47) (fun a48 _ t49 _ ha48 hR49 =>
    so_ret vl_1 hR49))))))))
    (so_bd (s_Rd_readSum hR3) (fun a50 _ t51 _ ha50 hR51 =>
    so_rb ha50 hR51))))))))))))
set_option maxRecDepth 20000 in
theorem s_Rd_endLine {c : Int} {μ0 : am_M}  {t : e_T} {μ : am_M} (hR : e_R c μ0 t μ) : so c μ0 (E_Rd_endLine t) (Rd_endLine μ) := by
  unfold E_Rd_endLine Rd_endLine
  exact so_bd (s_Rd_expect vl_59 hR) (fun a1 _ t2 _ ha1 hR2 =>
    so_eq ha1 vl_0 (so_ret vl_0 hR2)
    (so_gd (vr_rk hR2 (x := 20) (y := 5) rfl) <|
    so_F (vr_of 1 rfl (vr_rk hR2 (x := 20) (y := 5) rfl)) (fun f1 hf1 => so_F (vr_rk hR2 (x := 20) (y := 12) rfl) (fun f2 hf2 => so_bd (s_X_at hf1 hf2 hR2) (fun a4 _ t5 _ ha4 hR5 =>
    so_eq ha4 vl_8 (so_gd (vr_rk hR5 (x := 20) (y := 4) rfl) <|
    so_F (vr_of 18 rfl (vr_rk hR5 (x := 20) (y := 4) rfl)) (fun f3 hf3 => so_F (vr_rk hR5 (x := 20) (y := 11) rfl) (fun f4 hf4 => so_F (vr_rk hR5 (x := 20) (y := 6) rfl) (fun f5 hf5 => so_bd (s_X_put hf3 hf4 hf5 hR5) (fun a7 _ t8 _ ha7 hR8 =>
    so_pfb vl_20 vl_13 vl_0 hR8 (fun t9 _ hR9 =>
    so_ret vl_0 hR9))))))
    (so_ret vl_0 hR5))))))
set_option maxRecDepth 20000 in
theorem s_Tp_rewind {c : Int} {μ0 : am_M}  {t : e_T} {μ : am_M} (hR : e_R c μ0 t μ) : so c μ0 (E_Tp_rewind t) (Tp_rewind μ) := by
  unfold E_Tp_rewind Tp_rewind
  exact so_pf vl_10 vl_4 vl_0 hR (fun t1 _ hR1 =>
    so_bd (s_Tp_advance hR1) (fun a2 _ t3 _ ha2 hR3 =>
    so_ret vl_0 hR3))
set_option maxRecDepth 20000 in
theorem s_Rd_readInto_B96 {c : Int} {μ0 : am_M} {k39 : Nat → e_T → e_O} {k39x : Int → am_M → am_O} (hk39 : ∀ {u0 : Nat} {x0 : Int} {t : e_T} {μ : am_M}, vr c u0 x0 → e_R c μ0 t μ → so c μ0 (k39 u0 t) (k39x x0 μ)) {v2 : Nat} {x_v2 : Int} (hv2 : vr c v2 x_v2) {t : e_T} {μ : am_M} (hR : e_R c μ0 t μ) : so c μ0 (E_Rd_readInto_B96 k39 v2 t) (Rd_readInto_B96 k39x x_v2 μ) := by
  unfold E_Rd_readInto_B96 Rd_readInto_B96
  exact so_F (vr_add hv2 vl_1) (fun f1 hf1 => hk39 hf1 hR)
set_option maxRecDepth 20000 in
theorem s_Rd_readInto_B115 {c : Int} {μ0 : am_M}  {t : e_T} {μ : am_M} (hR : e_R c μ0 t μ) : so c μ0 (E_Rd_readInto_B115 t) (Rd_readInto_B115 μ) := by
  unfold E_Rd_readInto_B115 Rd_readInto_B115
  exact so_ret (vr_rk hR (x := 20) (y := 10) rfl) hR
set_option maxRecDepth 20000 in
theorem s_Rd_readInto_B102 {c : Int} {μ0 : am_M}  {t : e_T} {μ : am_M} (hR : e_R c μ0 t μ) : so c μ0 (E_Rd_readInto_B102 t) (Rd_readInto_B102 μ) := by
  unfold E_Rd_readInto_B102 Rd_readInto_B102
  exact so_eq (vr_rk hR (x := 20) (y := 13) rfl) vl_0 (s_Rd_readInto_B115 hR)
    (so_bd (s_Rd_fail vl_1 hR) (fun a1 _ t2 _ ha1 hR2 =>
    s_Rd_readInto_B115 hR2))
set_option maxRecDepth 20000 in
theorem s_Rd_readInto_L39_b {c : Int} {μ0 : am_M} {k39 : Nat → e_T → e_O} {k39x : Int → am_M → am_O} (hk39 : ∀ {u0 : Nat} {x0 : Int} {t : e_T} {μ : am_M}, vr c u0 x0 → e_R c μ0 t μ → so c μ0 (k39 u0 t) (k39x x0 μ)) {v2 : Nat} {x_v2 : Int} (hv2 : vr c v2 x_v2) {t : e_T} {μ : am_M} (hR : e_R c μ0 t μ) : so c μ0 (E_Rd_readInto_L39_b k39 v2 t) (Rd_readInto_L39_b k39x x_v2 μ) := by
  unfold E_Rd_readInto_L39_b Rd_readInto_L39_b
  exact so_lec hv2 vl_1000 (so_eq (vr_rk hR (x := 20) (y := 10) rfl) vl_0 (so_eq (vr_rk hR (x := 10) (y := 5) rfl) vl_1 (s_Rd_readInto_B102 hR)
    (so_eq (vr_rk hR (x := 20) (y := 13) rfl) vl_0 (so_bd (s_Rd_readHead hR) (fun a7 _ t8 _ ha7 hR8 =>
    s_Rd_readInto_B96 hk39 hv2 hR8))
    (so_bd (s_Rd_startLine hR) (fun a1 _ t2 _ ha1 hR2 =>
    so_eq ha1 vl_0 (s_Rd_readInto_B96 hk39 hv2 hR2)
    (so_bd (s_Rd_readRest hR2) (fun a3 _ t4 _ ha3 hR4 =>
    so_eq ha3 vl_0 (s_Rd_readInto_B96 hk39 hv2 hR4)
    (so_bd (s_Rd_endLine hR4) (fun a5 _ t6 _ ha5 hR6 =>
    s_Rd_readInto_B96 hk39 hv2 hR6))))))))
    (s_Rd_readInto_B102 hR))
    (s_Rd_readInto_B102 hR)
set_option maxRecDepth 20000 in
theorem s_Rd_readInto_L39 {c : Int} {μ0 : am_M} : ∀ (n N : Nat), n ≤ N → ∀ {v2 : Nat} {x_v2 : Int} (hv2 : vr c v2 x_v2) {t : e_T} {μ : am_M} (hR : e_R c μ0 t μ), so c μ0 (E_Rd_readInto_L39 n v2 t) (Rd_readInto_L39 N x_v2 μ) := by
  intro n
  induction n with
  | zero => intros; exact so_none
  | succ n ih =>
    intro N hN v2 x_v2 hv2 t μ hR
    obtain ⟨M, rfl⟩ : ∃ M, N = M + 1 := ⟨N - 1, by omega⟩
    exact s_Rd_readInto_L39_b (k39 := E_Rd_readInto_L39 n) (k39x := Rd_readInto_L39 M) (fun hv2 hR => ih M (by omega) hv2 hR) hv2 hR
set_option maxRecDepth 20000 in
theorem s_Rd_readInto {c : Int} {μ0 : am_M} {v1 : Nat} {x_v1 : Int} (hv1 : vr c v1 x_v1) {t : e_T} {μ : am_M} (hR : e_R c μ0 t μ) : so c μ0 (E_Rd_readInto v1 t) (Rd_readInto x_v1 μ) := by
  unfold E_Rd_readInto Rd_readInto
  exact so_pf vl_20 vl_4 hv1 hR (fun t1 _ hR1 =>
    so_gd hv1 <|
    so_F (vr_of 1 rfl hv1) (fun f1 hf1 => so_pf vl_20 vl_5 hf1 hR1 (fun t3 _ hR3 =>
    so_gd (vr_rk hR3 (x := 20) (y := 4) rfl) <|
    so_F (vr_rk hR3 (x := 20) (y := 4) rfl) (fun f2 hf2 => so_bd (s_Bi_empty hf2 hR3) (fun a5 _ t6 _ ha5 hR6 =>
    so_pf vl_20 vl_10 vl_0 hR6 (fun t7 _ hR7 =>
    so_pfb vl_20 vl_13 vl_0 hR7 (fun t8 _ hR8 =>
    so_bd (s_Tp_rewind hR8) (fun a9 _ t10 _ ha9 hR10 =>
    s_Rd_readInto_L39 4096 am_FU e_FU vl_0 hR10))))))))
set_option maxRecDepth 20000 in
theorem s_Tp_clear {c : Int} {μ0 : am_M}  {t : e_T} {μ : am_M} (hR : e_R c μ0 t μ) : so c μ0 (E_Tp_clear t) (Tp_clear μ) := by
  unfold E_Tp_clear Tp_clear
  exact so_pf vl_10 vl_2 vl_0 hR (fun t1 _ hR1 =>
    so_ret vl_0 hR1)
set_option maxRecDepth 20000 in
theorem s_Tp_append_B85 {c : Int} {μ0 : am_M} {k3 : Nat → Nat → e_T → e_O} {k3x : Int → Int → am_M → am_O} (hk3 : ∀ {u0 : Nat} {x0 : Int} {u1 : Nat} {x1 : Int} {t : e_T} {μ : am_M}, vr c u0 x0 → vr c u1 x1 → e_R c μ0 t μ → so c μ0 (k3 u0 u1 t) (k3x x0 x1 μ)) {v1 : Nat} {x_v1 : Int} (hv1 : vr c v1 x_v1) {v3 : Nat} {x_v3 : Int} (hv3 : vr c v3 x_v3) {t : e_T} {μ : am_M} (hR : e_R c μ0 t μ) : so c μ0 (E_Tp_append_B85 k3 v1 v3 t) (Tp_append_B85 k3x x_v1 x_v3 μ) := by
  unfold E_Tp_append_B85 Tp_append_B85
  exact so_F (vr_add hv3 vl_m8) (fun f1 hf1 => hk3 hv1 hf1 hR)
set_option maxRecDepth 20000 in
theorem s_Tp_append_B43 {c : Int} {μ0 : am_M} {k3 : Nat → Nat → e_T → e_O} {k3x : Int → Int → am_M → am_O} (hk3 : ∀ {u0 : Nat} {x0 : Int} {u1 : Nat} {x1 : Int} {t : e_T} {μ : am_M}, vr c u0 x0 → vr c u1 x1 → e_R c μ0 t μ → so c μ0 (k3 u0 u1 t) (k3x x0 x1 μ)) {v1 : Nat} {x_v1 : Int} (hv1 : vr c v1 x_v1) {v3 : Nat} {x_v3 : Int} (hv3 : vr c v3 x_v3) {v4 : Nat} {x_v4 : Int} (hv4 : vr c v4 x_v4) {s0 : Nat} {x_s0 : Int} (hs0 : vr c s0 x_s0) {t : e_T} {μ : am_M} (hR : e_R c μ0 t μ) : so c μ0 (E_Tp_append_B43 k3 v1 v3 v4 s0 t) (Tp_append_B43 k3x x_v1 x_v3 x_v4 x_s0 μ) := by
  unfold E_Tp_append_B43 Tp_append_B43
  exact so_eq hs0 vl_0 (s_Tp_append_B85 hk3 hv1 hv3 hR)
    (so_ltc (vr_rk hR (x := 10) (y := 2) rfl) vl_1000 (so_F (vr_rk hR (x := 10) (y := 2) rfl) (fun f1 hf1 => so_bd (s_X_put vl_11 hf1 hv4 hR) (fun a1 _ t2 _ ha1 hR2 =>
    so_F (vr_add (vr_rk hR2 (x := 10) (y := 2) rfl) vl_1) (fun f2 hf2 => so_pf vl_10 vl_2 hf2 hR2 (fun t3 _ hR3 =>
    s_Tp_append_B85 hk3 hv1 hv3 hR3)))))
    (s_Tp_append_B85 hk3 hv1 hv3 hR))
set_option maxRecDepth 20000 in
theorem s_Tp_append_B38 {c : Int} {μ0 : am_M} {k3 : Nat → Nat → e_T → e_O} {k3x : Int → Int → am_M → am_O} (hk3 : ∀ {u0 : Nat} {x0 : Int} {u1 : Nat} {x1 : Int} {t : e_T} {μ : am_M}, vr c u0 x0 → vr c u1 x1 → e_R c μ0 t μ → so c μ0 (k3 u0 u1 t) (k3x x0 x1 μ)) {v1 : Nat} {x_v1 : Int} (hv1 : vr c v1 x_v1) {v3 : Nat} {x_v3 : Int} (hv3 : vr c v3 x_v3) {v4 : Nat} {x_v4 : Int} (hv4 : vr c v4 x_v4) {t : e_T} {μ : am_M} (hR : e_R c μ0 t μ) : so c μ0 (E_Tp_append_B38 k3 v1 v3 v4 t) (Tp_append_B38 k3x x_v1 x_v3 x_v4 μ) := by
  unfold E_Tp_append_B38 Tp_append_B38
  exact s_Tp_append_B43 hk3 hv1 hv3 hv4 vl_1 hR
set_option maxRecDepth 20000 in
theorem s_Tp_append_B42 {c : Int} {μ0 : am_M} {k3 : Nat → Nat → e_T → e_O} {k3x : Int → Int → am_M → am_O} (hk3 : ∀ {u0 : Nat} {x0 : Int} {u1 : Nat} {x1 : Int} {t : e_T} {μ : am_M}, vr c u0 x0 → vr c u1 x1 → e_R c μ0 t μ → so c μ0 (k3 u0 u1 t) (k3x x0 x1 μ)) {v1 : Nat} {x_v1 : Int} (hv1 : vr c v1 x_v1) {v3 : Nat} {x_v3 : Int} (hv3 : vr c v3 x_v3) {v4 : Nat} {x_v4 : Int} (hv4 : vr c v4 x_v4) {t : e_T} {μ : am_M} (hR : e_R c μ0 t μ) : so c μ0 (E_Tp_append_B42 k3 v1 v3 v4 t) (Tp_append_B42 k3x x_v1 x_v3 x_v4 μ) := by
  unfold E_Tp_append_B42 Tp_append_B42
  exact s_Tp_append_B43 hk3 hv1 hv3 hv4 vl_0 hR
set_option maxRecDepth 20000 in
theorem s_Tp_append_L3_b {c : Int} {μ0 : am_M} {k3 : Nat → Nat → e_T → e_O} {k3x : Int → Int → am_M → am_O} (hk3 : ∀ {u0 : Nat} {x0 : Int} {u1 : Nat} {x1 : Int} {t : e_T} {μ : am_M}, vr c u0 x0 → vr c u1 x1 → e_R c μ0 t μ → so c μ0 (k3 u0 u1 t) (k3x x0 x1 μ)) {v1 : Nat} {x_v1 : Int} (hv1 : vr c v1 x_v1) {v3 : Nat} {x_v3 : Int} (hv3 : vr c v3 x_v3) {t : e_T} {μ : am_M} (hR : e_R c μ0 t μ) : so c μ0 (E_Tp_append_L3_b k3 v1 v3 t) (Tp_append_L3_b k3x x_v1 x_v3 μ) := by
  unfold E_Tp_append_L3_b Tp_append_L3_b
  exact so_ltc hv3 vl_0 (so_ret vl_0 hR)
    (so_eq (vr_and (vr_w32 (vr_shr6 hv1 hv3)) vl_255) vl_10 (so_F (vr_and (vr_w32 (vr_shr6 hv1 hv3)) vl_255) (fun f1 hf1 => s_Tp_append_B38 hk3 hv1 hv3 hf1 hR))
    (so_ltc (vr_and (vr_w32 (vr_shr6 hv1 hv3)) vl_255) vl_32 (so_F (vr_and (vr_w32 (vr_shr6 hv1 hv3)) vl_255) (fun f2 hf2 => s_Tp_append_B42 hk3 hv1 hv3 hf2 hR))
    (so_lec (vr_and (vr_w32 (vr_shr6 hv1 hv3)) vl_255) vl_126 (so_F (vr_and (vr_w32 (vr_shr6 hv1 hv3)) vl_255) (fun f3 hf3 => s_Tp_append_B38 hk3 hv1 hv3 hf3 hR))
    (so_F (vr_and (vr_w32 (vr_shr6 hv1 hv3)) vl_255) (fun f4 hf4 => s_Tp_append_B42 hk3 hv1 hv3 hf4 hR)))))
set_option maxRecDepth 20000 in
theorem s_Tp_append_L3 {c : Int} {μ0 : am_M} : ∀ (n N : Nat), n ≤ N → ∀ {v1 : Nat} {x_v1 : Int} (hv1 : vr c v1 x_v1) {v3 : Nat} {x_v3 : Int} (hv3 : vr c v3 x_v3) {t : e_T} {μ : am_M} (hR : e_R c μ0 t μ), so c μ0 (E_Tp_append_L3 n v1 v3 t) (Tp_append_L3 N x_v1 x_v3 μ) := by
  intro n
  induction n with
  | zero => intros; exact so_none
  | succ n ih =>
    intro N hN v1 x_v1 hv1 v3 x_v3 hv3 t μ hR
    obtain ⟨M, rfl⟩ : ∃ M, N = M + 1 := ⟨N - 1, by omega⟩
    exact s_Tp_append_L3_b (k3 := E_Tp_append_L3 n) (k3x := Tp_append_L3 M) (fun hv1 hv3 hR => ih M (by omega) hv1 hv3 hR) hv1 hv3 hR
set_option maxRecDepth 20000 in
theorem s_Tp_append {c : Int} {μ0 : am_M} {v1 : Nat} {x_v1 : Int} (hv1 : vr c v1 x_v1) {t : e_T} {μ : am_M} (hR : e_R c μ0 t μ) : so c μ0 (E_Tp_append v1 t) (Tp_append x_v1 μ) := by
  unfold E_Tp_append Tp_append
  exact s_Tp_append_L3 4096 am_FU e_FU hv1 vl_56 hR
set_option maxRecDepth 20000 in
theorem s_Wy_forget {c : Int} {μ0 : am_M}  {t : e_T} {μ : am_M} (hR : e_R c μ0 t μ) : so c μ0 (E_Wy_forget t) (Wy_forget μ) := by
  unfold E_Wy_forget Wy_forget
  exact so_pf vl_50 vl_10 vl_m1 hR (fun t1 _ hR1 =>
    so_ret vl_0 hR1)
set_option maxRecDepth 20000 in
theorem s_Wy_howMany_B123 {c : Int} {μ0 : am_M} {k22 : Nat → Nat → Nat → Nat → Nat → e_T → e_O} {k22x : Int → Int → Int → Int → Int → am_M → am_O} (hk22 : ∀ {u0 : Nat} {x0 : Int} {u1 : Nat} {x1 : Int} {u2 : Nat} {x2 : Int} {u3 : Nat} {x3 : Int} {u4 : Nat} {x4 : Int} {t : e_T} {μ : am_M}, vr c u0 x0 → vr c u1 x1 → vr c u2 x2 → vr c u3 x3 → vr c u4 x4 → e_R c μ0 t μ → so c μ0 (k22 u0 u1 u2 u3 u4 t) (k22x x0 x1 x2 x3 x4 μ)) {v1 : Nat} {x_v1 : Int} (hv1 : vr c v1 x_v1) {v3 : Nat} {x_v3 : Int} (hv3 : vr c v3 x_v3) {v4 : Nat} {x_v4 : Int} (hv4 : vr c v4 x_v4) {v5 : Nat} {x_v5 : Int} (hv5 : vr c v5 x_v5) {v6 : Nat} {x_v6 : Int} (hv6 : vr c v6 x_v6) {t : e_T} {μ : am_M} (hR : e_R c μ0 t μ) : so c μ0 (E_Wy_howMany_B123 k22 v1 v3 v4 v5 v6 t) (Wy_howMany_B123 k22x x_v1 x_v3 x_v4 x_v5 x_v6 μ) := by
  unfold E_Wy_howMany_B123 Wy_howMany_B123
  exact so_F (vr_add hv6 vl_1) (fun f1 hf1 => hk22 hv1 hv3 hv4 hv5 hf1 hR)
set_option maxRecDepth 20000 in
theorem s_Wy_howMany_L22_b {c : Int} {μ0 : am_M} {k22 : Nat → Nat → Nat → Nat → Nat → e_T → e_O} {k22x : Int → Int → Int → Int → Int → am_M → am_O} (hk22 : ∀ {u0 : Nat} {x0 : Int} {u1 : Nat} {x1 : Int} {u2 : Nat} {x2 : Int} {u3 : Nat} {x3 : Int} {u4 : Nat} {x4 : Int} {t : e_T} {μ : am_M}, vr c u0 x0 → vr c u1 x1 → vr c u2 x2 → vr c u3 x3 → vr c u4 x4 → e_R c μ0 t μ → so c μ0 (k22 u0 u1 u2 u3 u4 t) (k22x x0 x1 x2 x3 x4 μ)) {v1 : Nat} {x_v1 : Int} (hv1 : vr c v1 x_v1) {v3 : Nat} {x_v3 : Int} (hv3 : vr c v3 x_v3) {v4 : Nat} {x_v4 : Int} (hv4 : vr c v4 x_v4) {v5 : Nat} {x_v5 : Int} (hv5 : vr c v5 x_v5) {v6 : Nat} {x_v6 : Int} (hv6 : vr c v6 x_v6) {t : e_T} {μ : am_M} (hR : e_R c μ0 t μ) : so c μ0 (E_Wy_howMany_L22_b k22 v1 v3 v4 v5 v6 t) (Wy_howMany_L22_b k22x x_v1 x_v3 x_v4 x_v5 x_v6 μ) := by
  unfold E_Wy_howMany_L22_b Wy_howMany_L22_b
  exact so_ltc hv6 hv5 (so_gd hv1 <|
    so_gd (vr_of 1 rfl hv1) <|
    so_F (vr_of 1 rfl (vr_of 1 rfl hv1)) (fun f1 hf1 => so_bd (s_X_at hf1 hv6 hR) (fun a3 _ t4 _ ha3 hR4 =>
    so_eq ha3 vl_5 (so_bd (s_X_put vl_51 hv4 hv3 hR4) (fun a11 _ t12 _ ha11 hR12 =>
    so_F (vr_add hv4 vl_1) (fun f2 hf2 => s_Wy_howMany_B123 hk22 hv1 vl_1 hf2 hv5 hv6 hR12)))
    (so_eq ha3 vl_6 (so_F (vr_sub hv4 vl_1) (fun f3 hf3 => so_bd (s_X_put vl_53 hf3 hv3 hR4) (fun a9 _ t10 _ ha9 hR10 =>
    s_Wy_howMany_B123 hk22 hv1 vl_1 hv4 hv5 hv6 hR10)))
    (so_eq ha3 vl_7 (so_F (vr_add hv4 vl_m1) (fun f4 hf4 => so_bd (s_X_at vl_51 hf4 hR4) (fun a5 _ t6 _ ha5 hR6 =>
    so_F (vr_add hv4 vl_m1) (fun f5 hf5 => so_bd (s_X_at vl_53 hf5 hR6) (fun a7 _ t8 _ ha7 hR8 =>
    so_F (vr_mul ha5 (vr_add ha7 hv3)) (fun f6 hf6 => so_F (vr_add hv4 vl_m1) (fun f7 hf7 => s_Wy_howMany_B123 hk22 hv1 hf6 hf7 hv5 hv6 hR8)))))))
    (s_Wy_howMany_B123 hk22 hv1 hv3 hv4 hv5 hv6 hR4))))))
    (so_ret hv3 hR)
set_option maxRecDepth 20000 in
theorem s_Wy_howMany_L22 {c : Int} {μ0 : am_M} : ∀ (n N : Nat), n ≤ N → ∀ {v1 : Nat} {x_v1 : Int} (hv1 : vr c v1 x_v1) {v3 : Nat} {x_v3 : Int} (hv3 : vr c v3 x_v3) {v4 : Nat} {x_v4 : Int} (hv4 : vr c v4 x_v4) {v5 : Nat} {x_v5 : Int} (hv5 : vr c v5 x_v5) {v6 : Nat} {x_v6 : Int} (hv6 : vr c v6 x_v6) {t : e_T} {μ : am_M} (hR : e_R c μ0 t μ), so c μ0 (E_Wy_howMany_L22 n v1 v3 v4 v5 v6 t) (Wy_howMany_L22 N x_v1 x_v3 x_v4 x_v5 x_v6 μ) := by
  intro n
  induction n with
  | zero => intros; exact so_none
  | succ n ih =>
    intro N hN v1 x_v1 hv1 v3 x_v3 hv3 v4 x_v4 hv4 v5 x_v5 hv5 v6 x_v6 hv6 t μ hR
    obtain ⟨M, rfl⟩ : ∃ M, N = M + 1 := ⟨N - 1, by omega⟩
    exact s_Wy_howMany_L22_b (k22 := E_Wy_howMany_L22 n) (k22x := Wy_howMany_L22 M) (fun hv1 hv3 hv4 hv5 hv6 hR => ih M (by omega) hv1 hv3 hv4 hv5 hv6 hR) hv1 hv3 hv4 hv5 hv6 hR
set_option maxRecDepth 20000 in
theorem s_Wy_howMany {c : Int} {μ0 : am_M} {v1 : Nat} {x_v1 : Int} (hv1 : vr c v1 x_v1) {v2 : Nat} {x_v2 : Int} (hv2 : vr c v2 x_v2) {t : e_T} {μ : am_M} (hR : e_R c μ0 t μ) : so c μ0 (E_Wy_howMany v1 v2 t) (Wy_howMany x_v1 x_v2 μ) := by
  unfold E_Wy_howMany Wy_howMany
  exact so_gd hv1 <|
    so_bd (s_Bi_lineBehind hv1 hv2 hR) (fun a2 _ t3 _ ha2 hR3 =>
    so_F (vr_of 15 rfl hv1) (fun f1 hf1 => so_bd (s_X_at hf1 hv2 hR3) (fun a4 _ t5 _ ha4 hR5 =>
    s_Wy_howMany_L22 4096 am_FU e_FU hv1 vl_1 vl_0 ha2 ha4 hR5)))
set_option maxRecDepth 20000 in
theorem s_Wy_keep {c : Int} {μ0 : am_M} {v1 : Nat} {x_v1 : Int} (hv1 : vr c v1 x_v1) {v2 : Nat} {x_v2 : Int} (hv2 : vr c v2 x_v2) {v3 : Nat} {x_v3 : Int} (hv3 : vr c v3 x_v3) {t : e_T} {μ : am_M} (hR : e_R c μ0 t μ) : so c μ0 (E_Wy_keep v1 v2 v3 t) (Wy_keep x_v1 x_v2 x_v3 μ) := by
  unfold E_Wy_keep Wy_keep
  exact so_F (vr_rk hR (x := 50) (y := 11) rfl) (fun f1 hf1 => so_bd (s_X_put hv1 hv3 hf1 hR) (fun a1 _ t2 _ ha1 hR2 =>
    so_F (vr_rk hR2 (x := 50) (y := 12) rfl) (fun f2 hf2 => so_bd (s_X_put hv2 hv3 hf2 hR2) (fun a3 _ t4 _ ha3 hR4 =>
    so_pf vl_50 vl_11 vl_0 hR4 (fun t5 _ hR5 =>
    so_pf vl_50 vl_12 vl_0 hR5 (fun t6 _ hR6 =>
    so_ret vl_0 hR6))))))
set_option maxRecDepth 20000 in
theorem s_Wy_measure_B225 {c : Int} {μ0 : am_M} {k30 : Nat → Nat → Nat → Nat → Nat → e_T → e_O} {k30x : Int → Int → Int → Int → Int → am_M → am_O} (hk30 : ∀ {u0 : Nat} {x0 : Int} {u1 : Nat} {x1 : Int} {u2 : Nat} {x2 : Int} {u3 : Nat} {x3 : Int} {u4 : Nat} {x4 : Int} {t : e_T} {μ : am_M}, vr c u0 x0 → vr c u1 x1 → vr c u2 x2 → vr c u3 x3 → vr c u4 x4 → e_R c μ0 t μ → so c μ0 (k30 u0 u1 u2 u3 u4 t) (k30x x0 x1 x2 x3 x4 μ)) {v1 : Nat} {x_v1 : Int} (hv1 : vr c v1 x_v1) {v3 : Nat} {x_v3 : Int} (hv3 : vr c v3 x_v3) {v4 : Nat} {x_v4 : Int} (hv4 : vr c v4 x_v4) {v5 : Nat} {x_v5 : Int} (hv5 : vr c v5 x_v5) {v6 : Nat} {x_v6 : Int} (hv6 : vr c v6 x_v6) {t : e_T} {μ : am_M} (hR : e_R c μ0 t μ) : so c μ0 (E_Wy_measure_B225 k30 v1 v3 v4 v5 v6 t) (Wy_measure_B225 k30x x_v1 x_v3 x_v4 x_v5 x_v6 μ) := by
  unfold E_Wy_measure_B225 Wy_measure_B225
  exact so_F (vr_add hv6 vl_1) (fun f1 hf1 => hk30 hv1 hv3 hv4 hv5 hf1 hR)
set_option maxRecDepth 20000 in
theorem s_Wy_measure_B79 {c : Int} {μ0 : am_M} {k30 : Nat → Nat → Nat → Nat → Nat → e_T → e_O} {k30x : Int → Int → Int → Int → Int → am_M → am_O} (hk30 : ∀ {u0 : Nat} {x0 : Int} {u1 : Nat} {x1 : Int} {u2 : Nat} {x2 : Int} {u3 : Nat} {x3 : Int} {u4 : Nat} {x4 : Int} {t : e_T} {μ : am_M}, vr c u0 x0 → vr c u1 x1 → vr c u2 x2 → vr c u3 x3 → vr c u4 x4 → e_R c μ0 t μ → so c μ0 (k30 u0 u1 u2 u3 u4 t) (k30x x0 x1 x2 x3 x4 μ)) {v1 : Nat} {x_v1 : Int} (hv1 : vr c v1 x_v1) {v3 : Nat} {x_v3 : Int} (hv3 : vr c v3 x_v3) {v4 : Nat} {x_v4 : Int} (hv4 : vr c v4 x_v4) {v5 : Nat} {x_v5 : Int} (hv5 : vr c v5 x_v5) {v6 : Nat} {x_v6 : Int} (hv6 : vr c v6 x_v6) {v7 : Nat} {x_v7 : Int} (hv7 : vr c v7 x_v7) {s0 : Nat} {x_s0 : Int} (hs0 : vr c s0 x_s0) {t : e_T} {μ : am_M} (hR : e_R c μ0 t μ) : so c μ0 (E_Wy_measure_B79 k30 v1 v3 v4 v5 v6 v7 s0 t) (Wy_measure_B79 k30x x_v1 x_v3 x_v4 x_v5 x_v6 x_v7 x_s0 μ) := by
  unfold E_Wy_measure_B79 Wy_measure_B79
  exact so_F (vr_add (vr_rk hR (x := 50) (y := 11) rfl) hs0) (fun f1 hf1 => so_pf vl_50 vl_11 hf1 hR (fun t1 _ hR1 =>
    so_F (vr_add (vr_rk hR1 (x := 50) (y := 12) rfl) hs0) (fun f2 hf2 => so_pf vl_50 vl_12 hf2 hR1 (fun t2 _ hR2 =>
    so_eq hv7 vl_5 (so_bd (s_Wy_keep vl_51 vl_52 hv4 hR2) (fun a17 _ t18 _ ha17 hR18 =>
    so_F (vr_add hv4 vl_1) (fun f3 hf3 => s_Wy_measure_B225 hk30 hv1 hv3 hf3 hv5 hv6 hR18)))
    (so_eq hv7 vl_6 (so_F (vr_sub hv4 vl_1) (fun f4 hf4 => so_bd (s_Wy_keep vl_53 vl_54 hf4 hR2) (fun a15 _ t16 _ ha15 hR16 =>
    s_Wy_measure_B225 hk30 hv1 hv3 hv4 hv5 hv6 hR16)))
    (so_eq hv7 vl_7 (so_F (vr_add hv4 vl_m1) (fun f5 hf5 => so_bd (s_X_at vl_51 hf5 hR2) (fun a3 _ t4 _ ha3 hR4 =>
    so_F (vr_add hv4 vl_m1) (fun f6 hf6 => so_bd (s_X_at vl_53 hf6 hR4) (fun a5 _ t6 _ ha5 hR6 =>
    so_lt (vr_min (vr_rk hR4 (x := 50) (y := 11) rfl) ha5) (fun a7 _ ha7 =>
    so_F (vr_add ha3 ha7) (fun f7 hf7 => so_pf vl_50 vl_11 hf7 hR6 (fun t8 _ hR8 =>
    so_F (vr_add hv4 vl_m1) (fun f8 hf8 => so_bd (s_X_at vl_52 hf8 hR8) (fun a9 _ t10 _ ha9 hR10 =>
    so_F (vr_add hv4 vl_m1) (fun f9 hf9 => so_bd (s_X_at vl_54 hf9 hR10) (fun a11 _ t12 _ ha11 hR12 =>
    so_lt (vr_max (vr_rk hR10 (x := 50) (y := 12) rfl) ha11) (fun a13 _ ha13 =>
    so_F (vr_add ha9 ha13) (fun f10 hf10 => so_pf vl_50 vl_12 hf10 hR12 (fun t14 _ hR14 =>
    so_F (vr_add hv4 vl_m1) (fun f11 hf11 => s_Wy_measure_B225 hk30 hv1 hv3 hf11 hv5 hv6 hR14))))))))))))))))
    (s_Wy_measure_B225 hk30 hv1 hv3 hv4 hv5 hv6 hR2)))))))
set_option maxRecDepth 20000 in
theorem s_Wy_measure_L30_b {c : Int} {μ0 : am_M} {k30 : Nat → Nat → Nat → Nat → Nat → e_T → e_O} {k30x : Int → Int → Int → Int → Int → am_M → am_O} (hk30 : ∀ {u0 : Nat} {x0 : Int} {u1 : Nat} {x1 : Int} {u2 : Nat} {x2 : Int} {u3 : Nat} {x3 : Int} {u4 : Nat} {x4 : Int} {t : e_T} {μ : am_M}, vr c u0 x0 → vr c u1 x1 → vr c u2 x2 → vr c u3 x3 → vr c u4 x4 → e_R c μ0 t μ → so c μ0 (k30 u0 u1 u2 u3 u4 t) (k30x x0 x1 x2 x3 x4 μ)) {v1 : Nat} {x_v1 : Int} (hv1 : vr c v1 x_v1) {v3 : Nat} {x_v3 : Int} (hv3 : vr c v3 x_v3) {v4 : Nat} {x_v4 : Int} (hv4 : vr c v4 x_v4) {v5 : Nat} {x_v5 : Int} (hv5 : vr c v5 x_v5) {v6 : Nat} {x_v6 : Int} (hv6 : vr c v6 x_v6) {t : e_T} {μ : am_M} (hR : e_R c μ0 t μ) : so c μ0 (E_Wy_measure_L30_b k30 v1 v3 v4 v5 v6 t) (Wy_measure_L30_b k30x x_v1 x_v3 x_v4 x_v5 x_v6 μ) := by
  unfold E_Wy_measure_L30_b Wy_measure_L30_b
  exact so_ltc hv6 hv5 (so_gd hv1 <|
    so_gd (vr_of 1 rfl hv1) <|
    so_F (vr_of 1 rfl (vr_of 1 rfl hv1)) (fun f1 hf1 => so_bd (s_X_at hf1 hv6 hR) (fun a3 _ t4 _ ha3 hR4 =>
    so_eq hv3 vl_m1 (so_eq ha3 vl_0 (s_Wy_measure_B79 hk30 hv1 hv3 hv4 hv5 hv6 ha3 vl_0 hR4)
    (s_Wy_measure_B79 hk30 hv1 hv3 hv4 hv5 hv6 ha3 vl_1 hR4))
    (so_F (vr_of 1 rfl hv1) (fun f2 hf2 => so_bd (s_Ln_timesRead_ hf2 hv6 hv3 hR4) (fun a5 _ t6 _ ha5 hR6 =>
    s_Wy_measure_B79 hk30 hv1 hv3 hv4 hv5 hv6 ha3 ha5 hR6))))))
    (so_ret vl_0 hR)
set_option maxRecDepth 20000 in
theorem s_Wy_measure_L30 {c : Int} {μ0 : am_M} : ∀ (n N : Nat), n ≤ N → ∀ {v1 : Nat} {x_v1 : Int} (hv1 : vr c v1 x_v1) {v3 : Nat} {x_v3 : Int} (hv3 : vr c v3 x_v3) {v4 : Nat} {x_v4 : Int} (hv4 : vr c v4 x_v4) {v5 : Nat} {x_v5 : Int} (hv5 : vr c v5 x_v5) {v6 : Nat} {x_v6 : Int} (hv6 : vr c v6 x_v6) {t : e_T} {μ : am_M} (hR : e_R c μ0 t μ), so c μ0 (E_Wy_measure_L30 n v1 v3 v4 v5 v6 t) (Wy_measure_L30 N x_v1 x_v3 x_v4 x_v5 x_v6 μ) := by
  intro n
  induction n with
  | zero => intros; exact so_none
  | succ n ih =>
    intro N hN v1 x_v1 hv1 v3 x_v3 hv3 v4 x_v4 hv4 v5 x_v5 hv5 v6 x_v6 hv6 t μ hR
    obtain ⟨M, rfl⟩ : ∃ M, N = M + 1 := ⟨N - 1, by omega⟩
    exact s_Wy_measure_L30_b (k30 := E_Wy_measure_L30 n) (k30x := Wy_measure_L30 M) (fun hv1 hv3 hv4 hv5 hv6 hR => ih M (by omega) hv1 hv3 hv4 hv5 hv6 hR) hv1 hv3 hv4 hv5 hv6 hR
set_option maxRecDepth 20000 in
theorem s_Wy_measure {c : Int} {μ0 : am_M} {v1 : Nat} {x_v1 : Int} (hv1 : vr c v1 x_v1) {v2 : Nat} {x_v2 : Int} (hv2 : vr c v2 x_v2) {v3 : Nat} {x_v3 : Int} (hv3 : vr c v3 x_v3) {t : e_T} {μ : am_M} (hR : e_R c μ0 t μ) : so c μ0 (E_Wy_measure v1 v2 v3 t) (Wy_measure x_v1 x_v2 x_v3 μ) := by
  unfold E_Wy_measure Wy_measure
  exact so_pf vl_50 vl_11 vl_0 hR (fun t1 _ hR1 =>
    so_pf vl_50 vl_12 vl_0 hR1 (fun t2 _ hR2 =>
    so_gd hv1 <|
    so_bd (s_Bi_lineBehind hv1 hv2 hR2) (fun a4 _ t5 _ ha4 hR5 =>
    so_F (vr_of 15 rfl hv1) (fun f1 hf1 => so_bd (s_X_at hf1 hv2 hR5) (fun a6 _ t7 _ ha6 hR7 =>
    s_Wy_measure_L30 4096 am_FU e_FU hv1 hv3 vl_0 ha4 ha6 hR7)))))
set_option maxRecDepth 20000 in
theorem s_Wy_clearLacks_L2_b {c : Int} {μ0 : am_M} {k2 : Nat → e_T → e_O} {k2x : Int → am_M → am_O} (hk2 : ∀ {u0 : Nat} {x0 : Int} {t : e_T} {μ : am_M}, vr c u0 x0 → e_R c μ0 t μ → so c μ0 (k2 u0 t) (k2x x0 μ)) {v1 : Nat} {x_v1 : Int} (hv1 : vr c v1 x_v1) {t : e_T} {μ : am_M} (hR : e_R c μ0 t μ) : so c μ0 (E_Wy_clearLacks_L2_b k2 v1 t) (Wy_clearLacks_L2_b k2x x_v1 μ) := by
  unfold E_Wy_clearLacks_L2_b Wy_clearLacks_L2_b
  exact so_ltc hv1 vl_10 (so_bd (s_X_put vl_55 hv1 vl_0 hR) (fun a1 _ t2 _ ha1 hR2 =>
    so_F (vr_add hv1 vl_1) (fun f1 hf1 => hk2 hf1 hR2)))
    (so_ret vl_0 hR)
set_option maxRecDepth 20000 in
theorem s_Wy_clearLacks_L2 {c : Int} {μ0 : am_M} : ∀ (n N : Nat), n ≤ N → ∀ {v1 : Nat} {x_v1 : Int} (hv1 : vr c v1 x_v1) {t : e_T} {μ : am_M} (hR : e_R c μ0 t μ), so c μ0 (E_Wy_clearLacks_L2 n v1 t) (Wy_clearLacks_L2 N x_v1 μ) := by
  intro n
  induction n with
  | zero => intros; exact so_none
  | succ n ih =>
    intro N hN v1 x_v1 hv1 t μ hR
    obtain ⟨M, rfl⟩ : ∃ M, N = M + 1 := ⟨N - 1, by omega⟩
    exact s_Wy_clearLacks_L2_b (k2 := E_Wy_clearLacks_L2 n) (k2x := Wy_clearLacks_L2 M) (fun hv1 hR => ih M (by omega) hv1 hR) hv1 hR
set_option maxRecDepth 20000 in
theorem s_Wy_clearLacks {c : Int} {μ0 : am_M}  {t : e_T} {μ : am_M} (hR : e_R c μ0 t μ) : so c μ0 (E_Wy_clearLacks t) (Wy_clearLacks μ) := by
  unfold E_Wy_clearLacks Wy_clearLacks
  exact s_Wy_clearLacks_L2 4096 am_FU e_FU vl_0 hR
set_option maxRecDepth 20000 in
theorem s_Wy_addLack {c : Int} {μ0 : am_M} {v1 : Nat} {x_v1 : Int} (hv1 : vr c v1 x_v1) {v2 : Nat} {x_v2 : Int} (hv2 : vr c v2 x_v2) {t : e_T} {μ : am_M} (hR : e_R c μ0 t μ) : so c μ0 (E_Wy_addLack v1 v2 t) (Wy_addLack x_v1 x_v2 μ) := by
  unfold E_Wy_addLack Wy_addLack
  exact so_bd (s_X_at vl_55 hv1 hR) (fun a1 _ t2 _ ha1 hR2 =>
    so_F (vr_add ha1 hv2) (fun f1 hf1 => so_bd (s_X_put vl_55 hv1 hf1 hR2) (fun a3 _ t4 _ ha3 hR4 =>
    so_ret vl_0 hR4)))
set_option maxRecDepth 20000 in
theorem s_Wy_weigh_B48 {c : Int} {μ0 : am_M} {k20 : Nat → Nat → Nat → Nat → Nat → e_T → e_O} {k20x : Int → Int → Int → Int → Int → am_M → am_O} (hk20 : ∀ {u0 : Nat} {x0 : Int} {u1 : Nat} {x1 : Int} {u2 : Nat} {x2 : Int} {u3 : Nat} {x3 : Int} {u4 : Nat} {x4 : Int} {t : e_T} {μ : am_M}, vr c u0 x0 → vr c u1 x1 → vr c u2 x2 → vr c u3 x3 → vr c u4 x4 → e_R c μ0 t μ → so c μ0 (k20 u0 u1 u2 u3 u4 t) (k20x x0 x1 x2 x3 x4 μ)) {v1 : Nat} {x_v1 : Int} (hv1 : vr c v1 x_v1) {v2 : Nat} {x_v2 : Int} (hv2 : vr c v2 x_v2) {v3 : Nat} {x_v3 : Int} (hv3 : vr c v3 x_v3) {v4 : Nat} {x_v4 : Int} (hv4 : vr c v4 x_v4) {v5 : Nat} {x_v5 : Int} (hv5 : vr c v5 x_v5) {t : e_T} {μ : am_M} (hR : e_R c μ0 t μ) : so c μ0 (E_Wy_weigh_B48 k20 v1 v2 v3 v4 v5 t) (Wy_weigh_B48 k20x x_v1 x_v2 x_v3 x_v4 x_v5 μ) := by
  unfold E_Wy_weigh_B48 Wy_weigh_B48
  exact so_F (vr_add hv5 vl_1) (fun f1 hf1 => hk20 hv1 hv2 hv3 hv4 hf1 hR)
set_option maxRecDepth 20000 in
theorem s_Wy_weigh_L20_b {c : Int} {μ0 : am_M} {k20 : Nat → Nat → Nat → Nat → Nat → e_T → e_O} {k20x : Int → Int → Int → Int → Int → am_M → am_O} (hk20 : ∀ {u0 : Nat} {x0 : Int} {u1 : Nat} {x1 : Int} {u2 : Nat} {x2 : Int} {u3 : Nat} {x3 : Int} {u4 : Nat} {x4 : Int} {t : e_T} {μ : am_M}, vr c u0 x0 → vr c u1 x1 → vr c u2 x2 → vr c u3 x3 → vr c u4 x4 → e_R c μ0 t μ → so c μ0 (k20 u0 u1 u2 u3 u4 t) (k20x x0 x1 x2 x3 x4 μ)) {v1 : Nat} {x_v1 : Int} (hv1 : vr c v1 x_v1) {v2 : Nat} {x_v2 : Int} (hv2 : vr c v2 x_v2) {v3 : Nat} {x_v3 : Int} (hv3 : vr c v3 x_v3) {v4 : Nat} {x_v4 : Int} (hv4 : vr c v4 x_v4) {v5 : Nat} {x_v5 : Int} (hv5 : vr c v5 x_v5) {t : e_T} {μ : am_M} (hR : e_R c μ0 t μ) : so c μ0 (E_Wy_weigh_L20_b k20 v1 v2 v3 v4 v5 t) (Wy_weigh_L20_b k20x x_v1 x_v2 x_v3 x_v4 x_v5 μ) := by
  unfold E_Wy_weigh_L20_b Wy_weigh_L20_b
  exact so_ltc hv5 hv4 (so_gd hv1 <|
    so_bd (s_Ln_codeKind hv1 hv5 hR) (fun a11 _ t12 _ ha11 hR12 =>
    so_eq ha11 vl_2 (so_bd (s_Ln_codeNumber hv1 hv5 hR12) (fun a13 _ t14 _ ha13 hR14 =>
    so_bd (s_Wy_addLack ha13 hv3 hR14) (fun a15 _ t16 _ ha15 hR16 =>
    s_Wy_weigh_B48 hk20 hv1 hv2 hv3 hv4 hv5 hR16)))
    (s_Wy_weigh_B48 hk20 hv1 hv2 hv3 hv4 hv5 hR12)))
    (so_gd hv1 <|
    so_F (vr_of 2 rfl hv1) (fun f1 hf1 => so_bd (s_X_at hf1 hv2 hR) (fun a2 _ t3 _ ha2 hR3 =>
    so_F (vr_neg hv3) (fun f2 hf2 => so_bd (s_Wy_addLack ha2 hf2 hR3) (fun a4 _ t5 _ ha4 hR5 =>
    so_F (vr_of 3 rfl hv1) (fun f3 hf3 => so_bd (s_X_at hf3 hv2 hR5) (fun a6 _ t7 _ ha6 hR7 =>
    so_F (vr_neg hv3) (fun f4 hf4 => so_bd (s_Wy_addLack ha6 hf4 hR7) (fun a8 _ t9 _ ha8 hR9 =>
    so_ret vl_0 hR9)))))))))
set_option maxRecDepth 20000 in
theorem s_Wy_weigh_L20 {c : Int} {μ0 : am_M} : ∀ (n N : Nat), n ≤ N → ∀ {v1 : Nat} {x_v1 : Int} (hv1 : vr c v1 x_v1) {v2 : Nat} {x_v2 : Int} (hv2 : vr c v2 x_v2) {v3 : Nat} {x_v3 : Int} (hv3 : vr c v3 x_v3) {v4 : Nat} {x_v4 : Int} (hv4 : vr c v4 x_v4) {v5 : Nat} {x_v5 : Int} (hv5 : vr c v5 x_v5) {t : e_T} {μ : am_M} (hR : e_R c μ0 t μ), so c μ0 (E_Wy_weigh_L20 n v1 v2 v3 v4 v5 t) (Wy_weigh_L20 N x_v1 x_v2 x_v3 x_v4 x_v5 μ) := by
  intro n
  induction n with
  | zero => intros; exact so_none
  | succ n ih =>
    intro N hN v1 x_v1 hv1 v2 x_v2 hv2 v3 x_v3 hv3 v4 x_v4 hv4 v5 x_v5 hv5 t μ hR
    obtain ⟨M, rfl⟩ : ∃ M, N = M + 1 := ⟨N - 1, by omega⟩
    exact s_Wy_weigh_L20_b (k20 := E_Wy_weigh_L20 n) (k20x := Wy_weigh_L20 M) (fun hv1 hv2 hv3 hv4 hv5 hR => ih M (by omega) hv1 hv2 hv3 hv4 hv5 hR) hv1 hv2 hv3 hv4 hv5 hR
set_option maxRecDepth 20000 in
theorem s_Wy_weigh {c : Int} {μ0 : am_M} {v1 : Nat} {x_v1 : Int} (hv1 : vr c v1 x_v1) {v2 : Nat} {x_v2 : Int} (hv2 : vr c v2 x_v2) {v3 : Nat} {x_v3 : Int} (hv3 : vr c v3 x_v3) {t : e_T} {μ : am_M} (hR : e_R c μ0 t μ) : so c μ0 (E_Wy_weigh v1 v2 v3 t) (Wy_weigh x_v1 x_v2 x_v3 μ) := by
  unfold E_Wy_weigh Wy_weigh
  exact so_gd hv1 <|
    so_F (vr_of 9 rfl hv1) (fun f1 hf1 => so_bd (s_X_at hf1 hv2 hR) (fun a2 _ t3 _ ha2 hR3 =>
    so_F (vr_of 8 rfl hv1) (fun f2 hf2 => so_bd (s_X_at hf2 hv2 hR3) (fun a4 _ t5 _ ha4 hR5 =>
    s_Wy_weigh_L20 4096 am_FU e_FU hv1 hv2 hv3 ha2 ha4 hR5))))
set_option maxRecDepth 20000 in
theorem s_Wy_isAlike_B131 {c : Int} {μ0 : am_M} {k34 : Nat → Nat → Nat → Nat → Nat → Nat → e_T → e_O} {k34x : Int → Int → Int → Int → Int → Int → am_M → am_O} (hk34 : ∀ {u0 : Nat} {x0 : Int} {u1 : Nat} {x1 : Int} {u2 : Nat} {x2 : Int} {u3 : Nat} {x3 : Int} {u4 : Nat} {x4 : Int} {u5 : Nat} {x5 : Int} {t : e_T} {μ : am_M}, vr c u0 x0 → vr c u1 x1 → vr c u2 x2 → vr c u3 x3 → vr c u4 x4 → vr c u5 x5 → e_R c μ0 t μ → so c μ0 (k34 u0 u1 u2 u3 u4 u5 t) (k34x x0 x1 x2 x3 x4 x5 μ)) {v1 : Nat} {x_v1 : Int} (hv1 : vr c v1 x_v1) {v3 : Nat} {x_v3 : Int} (hv3 : vr c v3 x_v3) {v4 : Nat} {x_v4 : Int} (hv4 : vr c v4 x_v4) {v5 : Nat} {x_v5 : Int} (hv5 : vr c v5 x_v5) {v7 : Nat} {x_v7 : Int} (hv7 : vr c v7 x_v7) {s0 : Nat} {x_s0 : Int} (hs0 : vr c s0 x_s0) {t : e_T} {μ : am_M} (hR : e_R c μ0 t μ) : so c μ0 (E_Wy_isAlike_B131 k34 v1 v3 v4 v5 v7 s0 t) (Wy_isAlike_B131 k34x x_v1 x_v3 x_v4 x_v5 x_v7 x_s0 μ) := by
  unfold E_Wy_isAlike_B131 Wy_isAlike_B131
  exact so_F (vr_add hv7 vl_1) (fun f1 hf1 => hk34 hv1 hv3 hv4 hv5 hs0 hf1 hR)
set_option maxRecDepth 20000 in
theorem s_Wy_isAlike_B127 {c : Int} {μ0 : am_M} {k34 : Nat → Nat → Nat → Nat → Nat → Nat → e_T → e_O} {k34x : Int → Int → Int → Int → Int → Int → am_M → am_O} (hk34 : ∀ {u0 : Nat} {x0 : Int} {u1 : Nat} {x1 : Int} {u2 : Nat} {x2 : Int} {u3 : Nat} {x3 : Int} {u4 : Nat} {x4 : Int} {u5 : Nat} {x5 : Int} {t : e_T} {μ : am_M}, vr c u0 x0 → vr c u1 x1 → vr c u2 x2 → vr c u3 x3 → vr c u4 x4 → vr c u5 x5 → e_R c μ0 t μ → so c μ0 (k34 u0 u1 u2 u3 u4 u5 t) (k34x x0 x1 x2 x3 x4 x5 μ)) {v1 : Nat} {x_v1 : Int} (hv1 : vr c v1 x_v1) {v3 : Nat} {x_v3 : Int} (hv3 : vr c v3 x_v3) {v4 : Nat} {x_v4 : Int} (hv4 : vr c v4 x_v4) {v5 : Nat} {x_v5 : Int} (hv5 : vr c v5 x_v5) {v6 : Nat} {x_v6 : Int} (hv6 : vr c v6 x_v6) {v7 : Nat} {x_v7 : Int} (hv7 : vr c v7 x_v7) {t : e_T} {μ : am_M} (hR : e_R c μ0 t μ) : so c μ0 (E_Wy_isAlike_B127 k34 v1 v3 v4 v5 v6 v7 t) (Wy_isAlike_B127 k34x x_v1 x_v3 x_v4 x_v5 x_v6 x_v7 μ) := by
  unfold E_Wy_isAlike_B127 Wy_isAlike_B127
  exact so_F (vr_add hv6 vl_1) (fun f1 hf1 => s_Wy_isAlike_B131 hk34 hv1 hv3 hv4 hv5 hv7 hf1 hR)
set_option maxRecDepth 20000 in
theorem s_Wy_isAlike_B100 {c : Int} {μ0 : am_M} {k34 : Nat → Nat → Nat → Nat → Nat → Nat → e_T → e_O} {k34x : Int → Int → Int → Int → Int → Int → am_M → am_O} (hk34 : ∀ {u0 : Nat} {x0 : Int} {u1 : Nat} {x1 : Int} {u2 : Nat} {x2 : Int} {u3 : Nat} {x3 : Int} {u4 : Nat} {x4 : Int} {u5 : Nat} {x5 : Int} {t : e_T} {μ : am_M}, vr c u0 x0 → vr c u1 x1 → vr c u2 x2 → vr c u3 x3 → vr c u4 x4 → vr c u5 x5 → e_R c μ0 t μ → so c μ0 (k34 u0 u1 u2 u3 u4 u5 t) (k34x x0 x1 x2 x3 x4 x5 μ)) {v1 : Nat} {x_v1 : Int} (hv1 : vr c v1 x_v1) {v3 : Nat} {x_v3 : Int} (hv3 : vr c v3 x_v3) {v4 : Nat} {x_v4 : Int} (hv4 : vr c v4 x_v4) {v6 : Nat} {x_v6 : Int} (hv6 : vr c v6 x_v6) {v7 : Nat} {x_v7 : Int} (hv7 : vr c v7 x_v7) {v8 : Nat} {x_v8 : Int} (hv8 : vr c v8 x_v8) {s0 : Nat} {x_s0 : Int} (hs0 : vr c s0 x_s0) {t : e_T} {μ : am_M} (hR : e_R c μ0 t μ) : so c μ0 (E_Wy_isAlike_B100 k34 v1 v3 v4 v6 v7 v8 s0 t) (Wy_isAlike_B100 k34x x_v1 x_v3 x_v4 x_v6 x_v7 x_v8 x_s0 μ) := by
  unfold E_Wy_isAlike_B100 Wy_isAlike_B100
  exact so_eq hv8 vl_6 (so_eq hv6 hv3 (s_Wy_isAlike_B127 hk34 hv1 hv3 hv4 hs0 hv6 hv7 hR)
    (so_gd hv1 <|
    so_F (vr_of 6 rfl hv1) (fun f1 hf1 => so_bd (s_X_at hf1 hv6 hR) (fun a2 _ t3 _ ha2 hR3 =>
    s_Wy_isAlike_B131 hk34 hv1 hv3 hv4 hs0 hv7 ha2 hR3))))
    (s_Wy_isAlike_B127 hk34 hv1 hv3 hv4 hs0 hv6 hv7 hR)
set_option maxRecDepth 20000 in
theorem s_Wy_isAlike_B79 {c : Int} {μ0 : am_M} {k34 : Nat → Nat → Nat → Nat → Nat → Nat → e_T → e_O} {k34x : Int → Int → Int → Int → Int → Int → am_M → am_O} (hk34 : ∀ {u0 : Nat} {x0 : Int} {u1 : Nat} {x1 : Int} {u2 : Nat} {x2 : Int} {u3 : Nat} {x3 : Int} {u4 : Nat} {x4 : Int} {u5 : Nat} {x5 : Int} {t : e_T} {μ : am_M}, vr c u0 x0 → vr c u1 x1 → vr c u2 x2 → vr c u3 x3 → vr c u4 x4 → vr c u5 x5 → e_R c μ0 t μ → so c μ0 (k34 u0 u1 u2 u3 u4 u5 t) (k34x x0 x1 x2 x3 x4 x5 μ)) {v1 : Nat} {x_v1 : Int} (hv1 : vr c v1 x_v1) {v3 : Nat} {x_v3 : Int} (hv3 : vr c v3 x_v3) {v4 : Nat} {x_v4 : Int} (hv4 : vr c v4 x_v4) {v5 : Nat} {x_v5 : Int} (hv5 : vr c v5 x_v5) {v6 : Nat} {x_v6 : Int} (hv6 : vr c v6 x_v6) {v7 : Nat} {x_v7 : Int} (hv7 : vr c v7 x_v7) {v8 : Nat} {x_v8 : Int} (hv8 : vr c v8 x_v8) {t : e_T} {μ : am_M} (hR : e_R c μ0 t μ) : so c μ0 (E_Wy_isAlike_B79 k34 v1 v3 v4 v5 v6 v7 v8 t) (Wy_isAlike_B79 k34x x_v1 x_v3 x_v4 x_v5 x_v6 x_v7 x_v8 μ) := by
  unfold E_Wy_isAlike_B79 Wy_isAlike_B79
  exact so_bd (s_Wy_weigh hv1 hv6 hv5 hR) (fun a1 _ t2 _ ha1 hR2 =>
    so_eq hv6 hv3 (s_Wy_isAlike_B100 hk34 hv1 hv3 hv4 hv6 hv7 hv8 vl_m1 hR2)
    (s_Wy_isAlike_B100 hk34 hv1 hv3 hv4 hv6 hv7 hv8 hv5 hR2))
set_option maxRecDepth 20000 in
theorem s_Wy_isAlike_L145_b {c : Int} {μ0 : am_M} {k145 : Nat → Nat → e_T → e_O} {k145x : Int → Int → am_M → am_O} (hk145 : ∀ {u0 : Nat} {x0 : Int} {u1 : Nat} {x1 : Int} {t : e_T} {μ : am_M}, vr c u0 x0 → vr c u1 x1 → e_R c μ0 t μ → so c μ0 (k145 u0 u1 t) (k145x x0 x1 μ)) {v7 : Nat} {x_v7 : Int} (hv7 : vr c v7 x_v7) {v8 : Nat} {x_v8 : Int} (hv8 : vr c v8 x_v8) {t : e_T} {μ : am_M} (hR : e_R c μ0 t μ) : so c μ0 (E_Wy_isAlike_L145_b k145 v7 v8 t) (Wy_isAlike_L145_b k145x x_v7 x_v8 μ) := by
  unfold E_Wy_isAlike_L145_b Wy_isAlike_L145_b
  exact so_ltc hv8 vl_10 (so_bd (s_X_at vl_55 hv8 hR) (fun a1 _ t2 _ ha1 hR2 =>
    so_F (vr_or hv7 ha1) (fun f1 hf1 => so_F (vr_add hv8 vl_1) (fun f2 hf2 => hk145 hf1 hf2 hR2))))
    (so_eq hv7 vl_0 (so_ret vl_1 hR)
    (so_ret vl_0 hR))
set_option maxRecDepth 20000 in
theorem s_Wy_isAlike_L145 {c : Int} {μ0 : am_M} : ∀ (n N : Nat), n ≤ N → ∀ {v7 : Nat} {x_v7 : Int} (hv7 : vr c v7 x_v7) {v8 : Nat} {x_v8 : Int} (hv8 : vr c v8 x_v8) {t : e_T} {μ : am_M} (hR : e_R c μ0 t μ), so c μ0 (E_Wy_isAlike_L145 n v7 v8 t) (Wy_isAlike_L145 N x_v7 x_v8 μ) := by
  intro n
  induction n with
  | zero => intros; exact so_none
  | succ n ih =>
    intro N hN v7 x_v7 hv7 v8 x_v8 hv8 t μ hR
    obtain ⟨M, rfl⟩ : ∃ M, N = M + 1 := ⟨N - 1, by omega⟩
    exact s_Wy_isAlike_L145_b (k145 := E_Wy_isAlike_L145 n) (k145x := Wy_isAlike_L145 M) (fun hv7 hv8 hR => ih M (by omega) hv7 hv8 hR) hv7 hv8 hR
set_option maxRecDepth 20000 in
theorem s_Wy_isAlike_B139 {c : Int} {μ0 : am_M}  {t : e_T} {μ : am_M} (hR : e_R c μ0 t μ) : so c μ0 (E_Wy_isAlike_B139 t) (Wy_isAlike_B139 μ) := by
  unfold E_Wy_isAlike_B139 Wy_isAlike_B139
  exact s_Wy_isAlike_L145 4096 am_FU e_FU vl_0 vl_0 hR
set_option maxRecDepth 20000 in
theorem s_Wy_isAlike_L34_b {c : Int} {μ0 : am_M} {k34 : Nat → Nat → Nat → Nat → Nat → Nat → e_T → e_O} {k34x : Int → Int → Int → Int → Int → Int → am_M → am_O} (hk34 : ∀ {u0 : Nat} {x0 : Int} {u1 : Nat} {x1 : Int} {u2 : Nat} {x2 : Int} {u3 : Nat} {x3 : Int} {u4 : Nat} {x4 : Int} {u5 : Nat} {x5 : Int} {t : e_T} {μ : am_M}, vr c u0 x0 → vr c u1 x1 → vr c u2 x2 → vr c u3 x3 → vr c u4 x4 → vr c u5 x5 → e_R c μ0 t μ → so c μ0 (k34 u0 u1 u2 u3 u4 u5 t) (k34x x0 x1 x2 x3 x4 x5 μ)) {v1 : Nat} {x_v1 : Int} (hv1 : vr c v1 x_v1) {v3 : Nat} {x_v3 : Int} (hv3 : vr c v3 x_v3) {v4 : Nat} {x_v4 : Int} (hv4 : vr c v4 x_v4) {v5 : Nat} {x_v5 : Int} (hv5 : vr c v5 x_v5) {v6 : Nat} {x_v6 : Int} (hv6 : vr c v6 x_v6) {v7 : Nat} {x_v7 : Int} (hv7 : vr c v7 x_v7) {t : e_T} {μ : am_M} (hR : e_R c μ0 t μ) : so c μ0 (E_Wy_isAlike_L34_b k34 v1 v3 v4 v5 v6 v7 t) (Wy_isAlike_L34_b k34x x_v1 x_v3 x_v4 x_v5 x_v6 x_v7 μ) := by
  unfold E_Wy_isAlike_L34_b Wy_isAlike_L34_b
  exact so_ltc hv7 vl_60 (so_ltc hv6 hv4 (so_gd hv1 <|
    so_F (vr_of 1 rfl hv1) (fun f1 hf1 => so_bd (s_X_at hf1 hv6 hR) (fun a2 _ t3 _ ha2 hR3 =>
    so_eq ha2 vl_5 (so_bd (s_X_at vl_57 hv6 hR3) (fun a4 _ t5 _ ha4 hR5 =>
    so_eq ha4 vl_0 (so_ret vl_0 hR5)
    (s_Wy_isAlike_B79 hk34 hv1 hv3 hv4 hv5 hv6 hv7 ha2 hR5)))
    (s_Wy_isAlike_B79 hk34 hv1 hv3 hv4 hv5 hv6 hv7 ha2 hR3))))
    (s_Wy_isAlike_B139 hR))
    (s_Wy_isAlike_B139 hR)
set_option maxRecDepth 20000 in
theorem s_Wy_isAlike_L34 {c : Int} {μ0 : am_M} : ∀ (n N : Nat), n ≤ N → ∀ {v1 : Nat} {x_v1 : Int} (hv1 : vr c v1 x_v1) {v3 : Nat} {x_v3 : Int} (hv3 : vr c v3 x_v3) {v4 : Nat} {x_v4 : Int} (hv4 : vr c v4 x_v4) {v5 : Nat} {x_v5 : Int} (hv5 : vr c v5 x_v5) {v6 : Nat} {x_v6 : Int} (hv6 : vr c v6 x_v6) {v7 : Nat} {x_v7 : Int} (hv7 : vr c v7 x_v7) {t : e_T} {μ : am_M} (hR : e_R c μ0 t μ), so c μ0 (E_Wy_isAlike_L34 n v1 v3 v4 v5 v6 v7 t) (Wy_isAlike_L34 N x_v1 x_v3 x_v4 x_v5 x_v6 x_v7 μ) := by
  intro n
  induction n with
  | zero => intros; exact so_none
  | succ n ih =>
    intro N hN v1 x_v1 hv1 v3 x_v3 hv3 v4 x_v4 hv4 v5 x_v5 hv5 v6 x_v6 hv6 v7 x_v7 hv7 t μ hR
    obtain ⟨M, rfl⟩ : ∃ M, N = M + 1 := ⟨N - 1, by omega⟩
    exact s_Wy_isAlike_L34_b (k34 := E_Wy_isAlike_L34 n) (k34x := Wy_isAlike_L34 M) (fun hv1 hv3 hv4 hv5 hv6 hv7 hR => ih M (by omega) hv1 hv3 hv4 hv5 hv6 hv7 hR) hv1 hv3 hv4 hv5 hv6 hv7 hR
set_option maxRecDepth 20000 in
theorem s_Wy_isAlike {c : Int} {μ0 : am_M} {v1 : Nat} {x_v1 : Int} (hv1 : vr c v1 x_v1) {v2 : Nat} {x_v2 : Int} (hv2 : vr c v2 x_v2) {t : e_T} {μ : am_M} (hR : e_R c μ0 t μ) : so c μ0 (E_Wy_isAlike v1 v2 t) (Wy_isAlike x_v1 x_v2 μ) := by
  unfold E_Wy_isAlike Wy_isAlike
  exact so_bd (s_Wy_clearLacks hR) (fun a1 _ t2 _ ha1 hR2 =>
    so_gd hv1 <|
    so_F (vr_of 6 rfl hv1) (fun f1 hf1 => so_bd (s_X_at hf1 hv2 hR2) (fun a4 _ t5 _ ha4 hR5 =>
    so_F (vr_of 6 rfl hv1) (fun f2 hf2 => so_bd (s_X_at hf2 ha4 hR5) (fun a6 _ t7 _ ha6 hR7 =>
    so_F (vr_add hv2 vl_1) (fun f3 hf3 => s_Wy_isAlike_L34 4096 am_FU e_FU hv1 ha4 ha6 vl_1 hf3 vl_0 hR7))))))
set_option maxRecDepth 20000 in
theorem s_Wy_prepare_B101 {c : Int} {μ0 : am_M} {k29 : Nat → Nat → Nat → e_T → e_O} {k29x : Int → Int → Int → am_M → am_O} (hk29 : ∀ {u0 : Nat} {x0 : Int} {u1 : Nat} {x1 : Int} {u2 : Nat} {x2 : Int} {t : e_T} {μ : am_M}, vr c u0 x0 → vr c u1 x1 → vr c u2 x2 → e_R c μ0 t μ → so c μ0 (k29 u0 u1 u2 t) (k29x x0 x1 x2 μ)) {v3 : Nat} {x_v3 : Int} (hv3 : vr c v3 x_v3) {v4 : Nat} {x_v4 : Int} (hv4 : vr c v4 x_v4) {v5 : Nat} {x_v5 : Int} (hv5 : vr c v5 x_v5) {t : e_T} {μ : am_M} (hR : e_R c μ0 t μ) : so c μ0 (E_Wy_prepare_B101 k29 v3 v4 v5 t) (Wy_prepare_B101 k29x x_v3 x_v4 x_v5 μ) := by
  unfold E_Wy_prepare_B101 Wy_prepare_B101
  exact so_F (vr_add hv5 vl_m1) (fun f1 hf1 => hk29 hv3 hv4 hf1 hR)
set_option maxRecDepth 20000 in
theorem s_Wy_prepare_B98 {c : Int} {μ0 : am_M} {k29 : Nat → Nat → Nat → e_T → e_O} {k29x : Int → Int → Int → am_M → am_O} (hk29 : ∀ {u0 : Nat} {x0 : Int} {u1 : Nat} {x1 : Int} {u2 : Nat} {x2 : Int} {t : e_T} {μ : am_M}, vr c u0 x0 → vr c u1 x1 → vr c u2 x2 → e_R c μ0 t μ → so c μ0 (k29 u0 u1 u2 t) (k29x x0 x1 x2 μ)) {v3 : Nat} {x_v3 : Int} (hv3 : vr c v3 x_v3) {v4 : Nat} {x_v4 : Int} (hv4 : vr c v4 x_v4) {v5 : Nat} {x_v5 : Int} (hv5 : vr c v5 x_v5) {s1 : Nat} {x_s1 : Int} (hs1 : vr c s1 x_s1) {s2 : Nat} {x_s2 : Int} (hs2 : vr c s2 x_s2) {t : e_T} {μ : am_M} (hR : e_R c μ0 t μ) : so c μ0 (E_Wy_prepare_B98 k29 v3 v4 v5 s1 s2 t) (Wy_prepare_B98 k29x x_v3 x_v4 x_v5 x_s1 x_s2 μ) := by
  unfold E_Wy_prepare_B98 Wy_prepare_B98
  exact so_bd (s_X_put vl_57 hs1 hs2 hR) (fun a1 _ t2 _ ha1 hR2 =>
    s_Wy_prepare_B101 hk29 hv3 hv4 hv5 hR2)
set_option maxRecDepth 20000 in
theorem s_Wy_prepare_B64 {c : Int} {μ0 : am_M} {k29 : Nat → Nat → Nat → e_T → e_O} {k29x : Int → Int → Int → am_M → am_O} (hk29 : ∀ {u0 : Nat} {x0 : Int} {u1 : Nat} {x1 : Int} {u2 : Nat} {x2 : Int} {t : e_T} {μ : am_M}, vr c u0 x0 → vr c u1 x1 → vr c u2 x2 → e_R c μ0 t μ → so c μ0 (k29 u0 u1 u2 t) (k29x x0 x1 x2 μ)) {v3 : Nat} {x_v3 : Int} (hv3 : vr c v3 x_v3) {v4 : Nat} {x_v4 : Int} (hv4 : vr c v4 x_v4) {v5 : Nat} {x_v5 : Int} (hv5 : vr c v5 x_v5) {t : e_T} {μ : am_M} (hR : e_R c μ0 t μ) : so c μ0 (E_Wy_prepare_B64 k29 v3 v4 v5 t) (Wy_prepare_B64 k29x x_v3 x_v4 x_v5 μ) := by
  unfold E_Wy_prepare_B64 Wy_prepare_B64
  exact so_gd hv3 <|
    so_F (vr_of 1 rfl hv3) (fun f1 hf1 => so_bd (s_X_at hf1 hv5 hR) (fun a2 _ t3 _ ha2 hR3 =>
    so_eq ha2 vl_5 (so_bd (s_Wy_isAlike hv3 hv5 hR3) (fun a4 _ t5 _ ha4 hR5 =>
    so_eq ha4 vl_0 (s_Wy_prepare_B98 hk29 hv3 hv4 hv5 hv5 vl_0 hR5)
    (s_Wy_prepare_B98 hk29 hv3 hv4 hv5 hv5 vl_1 hR5)))
    (s_Wy_prepare_B101 hk29 hv3 hv4 hv5 hR3)))
set_option maxRecDepth 20000 in
theorem s_Wy_prepare_L29_b {c : Int} {μ0 : am_M} {k29 : Nat → Nat → Nat → e_T → e_O} {k29x : Int → Int → Int → am_M → am_O} (hk29 : ∀ {u0 : Nat} {x0 : Int} {u1 : Nat} {x1 : Int} {u2 : Nat} {x2 : Int} {t : e_T} {μ : am_M}, vr c u0 x0 → vr c u1 x1 → vr c u2 x2 → e_R c μ0 t μ → so c μ0 (k29 u0 u1 u2 t) (k29x x0 x1 x2 μ)) {v3 : Nat} {x_v3 : Int} (hv3 : vr c v3 x_v3) {v4 : Nat} {x_v4 : Int} (hv4 : vr c v4 x_v4) {v5 : Nat} {x_v5 : Int} (hv5 : vr c v5 x_v5) {t : e_T} {μ : am_M} (hR : e_R c μ0 t μ) : so c μ0 (E_Wy_prepare_L29_b k29 v3 v4 v5 t) (Wy_prepare_L29_b k29x x_v3 x_v4 x_v5 μ) := by
  unfold E_Wy_prepare_L29_b Wy_prepare_L29_b
  exact so_ltc hv5 hv4 (so_bd (s_X_put vl_58 vl_0 vl_2147483647 hR) (fun a1 _ t2 _ ha1 hR2 =>
    so_bd (s_X_put vl_58 vl_1 vl_0 hR2) (fun a3 _ t4 _ ha3 hR4 =>
    so_bd (s_X_put vl_58 vl_2 vl_2147483647 hR4) (fun a5 _ t6 _ ha5 hR6 =>
    so_bd (s_X_put vl_58 vl_3 vl_0 hR6) (fun a7 _ t8 _ ha7 hR8 =>
    so_bd (s_Wy_clearLacks hR8) (fun a9 _ t10 _ ha9 hR10 =>
    so_pf vl_50 vl_8 vl_0 hR10 (fun t11 _ hR11 =>
    so_ret vl_0 hR11)))))))
    (so_gd hv3 <|
    so_F (vr_of 4 rfl hv3) (fun f1 hf1 => so_bd (s_X_at hf1 hv5 hR) (fun a13 _ t14 _ ha13 hR14 =>
    so_eq ha13 vl_1 (so_bd (s_Ln_laidSet hv3 hv5 hR14) (fun a15 _ t16 _ ha15 hR16 =>
    so_F (vr_or (vr_rk hR14 (x := 50) (y := 9) rfl) ha15) (fun f2 hf2 => so_pf vl_50 vl_9 hf2 hR16 (fun t17 _ hR17 =>
    s_Wy_prepare_B64 hk29 hv3 hv4 hv5 hR17))))
    (s_Wy_prepare_B64 hk29 hv3 hv4 hv5 hR14))))
set_option maxRecDepth 20000 in
theorem s_Wy_prepare_L29 {c : Int} {μ0 : am_M} : ∀ (n N : Nat), n ≤ N → ∀ {v3 : Nat} {x_v3 : Int} (hv3 : vr c v3 x_v3) {v4 : Nat} {x_v4 : Int} (hv4 : vr c v4 x_v4) {v5 : Nat} {x_v5 : Int} (hv5 : vr c v5 x_v5) {t : e_T} {μ : am_M} (hR : e_R c μ0 t μ), so c μ0 (E_Wy_prepare_L29 n v3 v4 v5 t) (Wy_prepare_L29 N x_v3 x_v4 x_v5 μ) := by
  intro n
  induction n with
  | zero => intros; exact so_none
  | succ n ih =>
    intro N hN v3 x_v3 hv3 v4 x_v4 hv4 v5 x_v5 hv5 t μ hR
    obtain ⟨M, rfl⟩ : ∃ M, N = M + 1 := ⟨N - 1, by omega⟩
    exact s_Wy_prepare_L29_b (k29 := E_Wy_prepare_L29 n) (k29x := Wy_prepare_L29 M) (fun hv3 hv4 hv5 hR => ih M (by omega) hv3 hv4 hv5 hR) hv3 hv4 hv5 hR
set_option maxRecDepth 20000 in
theorem s_Wy_prepare {c : Int} {μ0 : am_M} {v1 : Nat} {x_v1 : Int} (hv1 : vr c v1 x_v1) {v2 : Nat} {x_v2 : Int} (hv2 : vr c v2 x_v2) {t : e_T} {μ : am_M} (hR : e_R c μ0 t μ) : so c μ0 (E_Wy_prepare v1 v2 t) (Wy_prepare x_v1 x_v2 μ) := by
  unfold E_Wy_prepare Wy_prepare
  exact so_gd hv1 <|
    so_pf vl_50 vl_9 vl_0 hR (fun t2 _ hR2 =>
    so_F (vr_of 15 rfl hv1) (fun f1 hf1 => so_bd (s_X_at hf1 hv2 hR2) (fun a3 _ t4 _ ha3 hR4 =>
    so_bd (s_Bi_lineBehind hv1 hv2 hR4) (fun a5 _ t6 _ ha5 hR6 =>
    so_F (vr_of 1 rfl hv1) (fun f2 hf2 => so_F (vr_sub ha5 vl_1) (fun f3 hf3 => s_Wy_prepare_L29 4096 am_FU e_FU hf2 ha3 hf3 hR6))))))
set_option maxRecDepth 20000 in
theorem s_Wy_record_B57 {c : Int} {μ0 : am_M} {k6 : Nat → Nat → Nat → e_T → e_O} {k6x : Int → Int → Int → am_M → am_O} (hk6 : ∀ {u0 : Nat} {x0 : Int} {u1 : Nat} {x1 : Int} {u2 : Nat} {x2 : Int} {t : e_T} {μ : am_M}, vr c u0 x0 → vr c u1 x1 → vr c u2 x2 → e_R c μ0 t μ → so c μ0 (k6 u0 u1 u2 t) (k6x x0 x1 x2 μ)) {v1 : Nat} {x_v1 : Int} (hv1 : vr c v1 x_v1) {v3 : Nat} {x_v3 : Int} (hv3 : vr c v3 x_v3) {s0 : Nat} {x_s0 : Int} (hs0 : vr c s0 x_s0) {s1 : Nat} {x_s1 : Int} (hs1 : vr c s1 x_s1) {t : e_T} {μ : am_M} (hR : e_R c μ0 t μ) : so c μ0 (E_Wy_record_B57 k6 v1 v3 s0 s1 t) (Wy_record_B57 k6x x_v1 x_v3 x_s0 x_s1 μ) := by
  unfold E_Wy_record_B57 Wy_record_B57
  exact so_F (vr_add hs0 hs1) (fun f1 hf1 => so_F (vr_add hv3 vl_1) (fun f2 hf2 => hk6 hv1 hf1 hf2 hR))
set_option maxRecDepth 20000 in
theorem s_Wy_record_L6_b {c : Int} {μ0 : am_M} {k6 : Nat → Nat → Nat → e_T → e_O} {k6x : Int → Int → Int → am_M → am_O} (hk6 : ∀ {u0 : Nat} {x0 : Int} {u1 : Nat} {x1 : Int} {u2 : Nat} {x2 : Int} {t : e_T} {μ : am_M}, vr c u0 x0 → vr c u1 x1 → vr c u2 x2 → e_R c μ0 t μ → so c μ0 (k6 u0 u1 u2 t) (k6x x0 x1 x2 μ)) {v1 : Nat} {x_v1 : Int} (hv1 : vr c v1 x_v1) {v2 : Nat} {x_v2 : Int} (hv2 : vr c v2 x_v2) {v3 : Nat} {x_v3 : Int} (hv3 : vr c v3 x_v3) {t : e_T} {μ : am_M} (hR : e_R c μ0 t μ) : so c μ0 (E_Wy_record_L6_b k6 v1 v2 v3 t) (Wy_record_L6_b k6x x_v1 x_v2 x_v3 μ) := by
  unfold E_Wy_record_L6_b Wy_record_L6_b
  exact so_ltc hv3 vl_10 (so_bd (s_X_at vl_55 hv3 hR) (fun a21 _ t22 _ ha21 hR22 =>
    so_lt (vr_max vl_0 ha21) (fun a23 _ ha23 =>
    so_eq (vr_and (vr_shr (vr_rk hR22 (x := 50) (y := 9) rfl) hv3) vl_1) vl_0 (so_F (vr_add hv1 ha23) (fun f1 hf1 => s_Wy_record_B57 hk6 hf1 hv3 hv2 vl_0 hR22))
    (so_lt (vr_max vl_0 (vr_neg ha21)) (fun a24 _ ha24 =>
    so_F (vr_add hv1 ha23) (fun f2 hf2 => s_Wy_record_B57 hk6 hf2 hv3 hv2 ha24 hR22))))))
    (so_bd (s_X_at vl_58 vl_0 hR) (fun a1 _ t2 _ ha1 hR2 =>
    so_lt (vr_min ha1 hv1) (fun a3 _ ha3 =>
    so_bd (s_X_put vl_58 vl_0 ha3 hR2) (fun a4 _ t5 _ ha4 hR5 =>
    so_bd (s_X_at vl_58 vl_1 hR5) (fun a6 _ t7 _ ha6 hR7 =>
    so_lt (vr_max ha6 hv1) (fun a8 _ ha8 =>
    so_bd (s_X_put vl_58 vl_1 ha8 hR7) (fun a9 _ t10 _ ha9 hR10 =>
    so_bd (s_X_at vl_58 vl_2 hR10) (fun a11 _ t12 _ ha11 hR12 =>
    so_lt (vr_min ha11 hv2) (fun a13 _ ha13 =>
    so_bd (s_X_put vl_58 vl_2 ha13 hR12) (fun a14 _ t15 _ ha14 hR15 =>
    so_bd (s_X_at vl_58 vl_3 hR15) (fun a16 _ t17 _ ha16 hR17 =>
    so_lt (vr_max ha16 hv2) (fun a18 _ ha18 =>
    so_bd (s_X_put vl_58 vl_3 ha18 hR17) (fun a19 _ t20 _ ha19 hR20 =>
    so_ret vl_0 hR20)))))))))))))
set_option maxRecDepth 20000 in
theorem s_Wy_record_L6 {c : Int} {μ0 : am_M} : ∀ (n N : Nat), n ≤ N → ∀ {v1 : Nat} {x_v1 : Int} (hv1 : vr c v1 x_v1) {v2 : Nat} {x_v2 : Int} (hv2 : vr c v2 x_v2) {v3 : Nat} {x_v3 : Int} (hv3 : vr c v3 x_v3) {t : e_T} {μ : am_M} (hR : e_R c μ0 t μ), so c μ0 (E_Wy_record_L6 n v1 v2 v3 t) (Wy_record_L6 N x_v1 x_v2 x_v3 μ) := by
  intro n
  induction n with
  | zero => intros; exact so_none
  | succ n ih =>
    intro N hN v1 x_v1 hv1 v2 x_v2 hv2 v3 x_v3 hv3 t μ hR
    obtain ⟨M, rfl⟩ : ∃ M, N = M + 1 := ⟨N - 1, by omega⟩
    exact s_Wy_record_L6_b (k6 := E_Wy_record_L6 n) (k6x := Wy_record_L6 M) (fun hv1 hv2 hv3 hR => ih M (by omega) hv1 hv2 hv3 hR) hv1 hv2 hv3 hR
set_option maxRecDepth 20000 in
theorem s_Wy_record {c : Int} {μ0 : am_M}  {t : e_T} {μ : am_M} (hR : e_R c μ0 t μ) : so c μ0 (E_Wy_record t) (Wy_record μ) := by
  unfold E_Wy_record Wy_record
  exact s_Wy_record_L6 4096 am_FU e_FU vl_0 vl_0 vl_0 hR
set_option maxRecDepth 20000 in
theorem s_Wy_turnBack_B103 {c : Int} {μ0 : am_M} {k0 : Nat → e_T → e_O} {k0x : Int → am_M → am_O} (hk0 : ∀ {u0 : Nat} {x0 : Int} {t : e_T} {μ : am_M}, vr c u0 x0 → e_R c μ0 t μ → so c μ0 (k0 u0 t) (k0x x0 μ)) {v1 : Nat} {x_v1 : Int} (hv1 : vr c v1 x_v1) {v2 : Nat} {x_v2 : Int} (hv2 : vr c v2 x_v2) {t : e_T} {μ : am_M} (hR : e_R c μ0 t μ) : so c μ0 (E_Wy_turnBack_B103 k0 v1 v2 t) (Wy_turnBack_B103 k0x x_v1 x_v2 μ) := by
  unfold E_Wy_turnBack_B103 Wy_turnBack_B103
  exact so_bd (s_Wy_weigh hv1 hv2 vl_m1 hR) (fun a1 _ t2 _ ha1 hR2 =>
    hk0 hv1 hR2)
set_option maxRecDepth 20000 in
theorem s_Wy_turnBack_B82 {c : Int} {μ0 : am_M} {k0 : Nat → e_T → e_O} {k0x : Int → am_M → am_O} (hk0 : ∀ {u0 : Nat} {x0 : Int} {t : e_T} {μ : am_M}, vr c u0 x0 → e_R c μ0 t μ → so c μ0 (k0 u0 t) (k0x x0 μ)) {v1 : Nat} {x_v1 : Int} (hv1 : vr c v1 x_v1) {v2 : Nat} {x_v2 : Int} (hv2 : vr c v2 x_v2) {t : e_T} {μ : am_M} (hR : e_R c μ0 t μ) : so c μ0 (E_Wy_turnBack_B82 k0 v1 v2 t) (Wy_turnBack_B82 k0x x_v1 x_v2 μ) := by
  unfold E_Wy_turnBack_B82 Wy_turnBack_B82
  exact so_bd (s_X_at vl_57 hv2 hR) (fun a1 _ t2 _ ha1 hR2 =>
    so_eq ha1 vl_2 (so_bd (s_X_put vl_57 hv2 vl_0 hR2) (fun a3 _ t4 _ ha3 hR4 =>
    s_Wy_turnBack_B103 hk0 hv1 hv2 hR4))
    (s_Wy_turnBack_B103 hk0 hv1 hv2 hR2))
set_option maxRecDepth 20000 in
theorem s_Wy_turnBack_L0_b {c : Int} {μ0 : am_M} {k0 : Nat → e_T → e_O} {k0x : Int → am_M → am_O} (hk0 : ∀ {u0 : Nat} {x0 : Int} {t : e_T} {μ : am_M}, vr c u0 x0 → e_R c μ0 t μ → so c μ0 (k0 u0 t) (k0x x0 μ)) {v1 : Nat} {x_v1 : Int} (hv1 : vr c v1 x_v1) {t : e_T} {μ : am_M} (hR : e_R c μ0 t μ) : so c μ0 (E_Wy_turnBack_L0_b k0 v1 t) (Wy_turnBack_L0_b k0x x_v1 μ) := by
  unfold E_Wy_turnBack_L0_b Wy_turnBack_L0_b
  exact so_lec (vr_rk hR (x := 50) (y := 8) rfl) vl_0 (so_ret vl_m1 hR)
    (so_F (vr_sub (vr_rk hR (x := 50) (y := 8) rfl) vl_1) (fun f1 hf1 => so_pf vl_50 vl_8 hf1 hR (fun t1 _ hR1 =>
    so_F (vr_rk hR1 (x := 50) (y := 8) rfl) (fun f2 hf2 => so_bd (s_X_at vl_56 hf2 hR1) (fun a2 _ t3 _ ha2 hR3 =>
    so_gd hv1 <|
    so_F (vr_of 1 rfl hv1) (fun f3 hf3 => so_bd (s_X_at hf3 ha2 hR3) (fun a5 _ t6 _ ha5 hR6 =>
    so_eq ha5 vl_5 (so_bd (s_X_at vl_57 ha2 hR6) (fun a7 _ t8 _ ha7 hR8 =>
    so_eq ha7 vl_0 (so_bd (s_X_put vl_57 ha2 vl_2 hR8) (fun a9 _ t10 _ ha9 hR10 =>
    so_F (vr_add (vr_rk hR10 (x := 50) (y := 8) rfl) vl_1) (fun f4 hf4 => so_pf vl_50 vl_8 hf4 hR10 (fun t11 _ hR11 =>
    so_F (vr_of 6 rfl hv1) (fun f5 hf5 => so_bd (s_X_at hf5 ha2 hR11) (fun a12 _ t13 _ ha12 hR13 =>
    so_ret (vr_add ha12 vl_1) hR13))))))
    (s_Wy_turnBack_B82 hk0 hv1 ha2 hR8)))
    (s_Wy_turnBack_B82 hk0 hv1 ha2 hR6))))))))
set_option maxRecDepth 20000 in
theorem s_Wy_turnBack_L0 {c : Int} {μ0 : am_M} : ∀ (n N : Nat), n ≤ N → ∀ {v1 : Nat} {x_v1 : Int} (hv1 : vr c v1 x_v1) {t : e_T} {μ : am_M} (hR : e_R c μ0 t μ), so c μ0 (E_Wy_turnBack_L0 n v1 t) (Wy_turnBack_L0 N x_v1 μ) := by
  intro n
  induction n with
  | zero => intros; exact so_none
  | succ n ih =>
    intro N hN v1 x_v1 hv1 t μ hR
    obtain ⟨M, rfl⟩ : ∃ M, N = M + 1 := ⟨N - 1, by omega⟩
    exact s_Wy_turnBack_L0_b (k0 := E_Wy_turnBack_L0 n) (k0x := Wy_turnBack_L0 M) (fun hv1 hR => ih M (by omega) hv1 hR) hv1 hR
set_option maxRecDepth 20000 in
theorem s_Wy_turnBack {c : Int} {μ0 : am_M} {v1 : Nat} {x_v1 : Int} (hv1 : vr c v1 x_v1) {t : e_T} {μ : am_M} (hR : e_R c μ0 t μ) : so c μ0 (E_Wy_turnBack v1 t) (Wy_turnBack x_v1 μ) := by
  unfold E_Wy_turnBack Wy_turnBack
  exact s_Wy_turnBack_L0 4096 am_FU e_FU hv1 hR
set_option maxRecDepth 20000 in
theorem s_Wy_walkAll_B121 {c : Int} {μ0 : am_M} {k18 : Nat → Nat → Nat → e_T → e_O} {k18x : Int → Int → Int → am_M → am_O} (hk18 : ∀ {u0 : Nat} {x0 : Int} {u1 : Nat} {x1 : Int} {u2 : Nat} {x2 : Int} {t : e_T} {μ : am_M}, vr c u0 x0 → vr c u1 x1 → vr c u2 x2 → e_R c μ0 t μ → so c μ0 (k18 u0 u1 u2 t) (k18x x0 x1 x2 μ)) {v3 : Nat} {x_v3 : Int} (hv3 : vr c v3 x_v3) {v4 : Nat} {x_v4 : Int} (hv4 : vr c v4 x_v4) {v5 : Nat} {x_v5 : Int} (hv5 : vr c v5 x_v5) {t : e_T} {μ : am_M} (hR : e_R c μ0 t μ) : so c μ0 (E_Wy_walkAll_B121 k18 v3 v4 v5 t) (Wy_walkAll_B121 k18x x_v3 x_v4 x_v5 μ) := by
  unfold E_Wy_walkAll_B121 Wy_walkAll_B121
  exact so_F (vr_add hv5 vl_1) (fun f1 hf1 => hk18 hv3 hv4 hf1 hR)
set_option maxRecDepth 20000 in
theorem s_Wy_walkAll_B119 {c : Int} {μ0 : am_M} {k18 : Nat → Nat → Nat → e_T → e_O} {k18x : Int → Int → Int → am_M → am_O} (hk18 : ∀ {u0 : Nat} {x0 : Int} {u1 : Nat} {x1 : Int} {u2 : Nat} {x2 : Int} {t : e_T} {μ : am_M}, vr c u0 x0 → vr c u1 x1 → vr c u2 x2 → e_R c μ0 t μ → so c μ0 (k18 u0 u1 u2 t) (k18x x0 x1 x2 μ)) {v3 : Nat} {x_v3 : Int} (hv3 : vr c v3 x_v3) {v5 : Nat} {x_v5 : Int} (hv5 : vr c v5 x_v5) {s0 : Nat} {x_s0 : Int} (hs0 : vr c s0 x_s0) {t : e_T} {μ : am_M} (hR : e_R c μ0 t μ) : so c μ0 (E_Wy_walkAll_B119 k18 v3 v5 s0 t) (Wy_walkAll_B119 k18x x_v3 x_v5 x_s0 μ) := by
  unfold E_Wy_walkAll_B119 Wy_walkAll_B119
  exact s_Wy_walkAll_B121 hk18 hv3 hs0 hv5 hR
set_option maxRecDepth 20000 in
theorem s_Wy_walkAll_L18_b {c : Int} {μ0 : am_M} {k18 : Nat → Nat → Nat → e_T → e_O} {k18x : Int → Int → Int → am_M → am_O} (hk18 : ∀ {u0 : Nat} {x0 : Int} {u1 : Nat} {x1 : Int} {u2 : Nat} {x2 : Int} {t : e_T} {μ : am_M}, vr c u0 x0 → vr c u1 x1 → vr c u2 x2 → e_R c μ0 t μ → so c μ0 (k18 u0 u1 u2 t) (k18x x0 x1 x2 μ)) {v3 : Nat} {x_v3 : Int} (hv3 : vr c v3 x_v3) {v4 : Nat} {x_v4 : Int} (hv4 : vr c v4 x_v4) {v5 : Nat} {x_v5 : Int} (hv5 : vr c v5 x_v5) {t : e_T} {μ : am_M} (hR : e_R c μ0 t μ) : so c μ0 (E_Wy_walkAll_L18_b k18 v3 v4 v5 t) (Wy_walkAll_L18_b k18x x_v3 x_v4 x_v5 μ) := by
  unfold E_Wy_walkAll_L18_b Wy_walkAll_L18_b
  exact so_ltc hv5 vl_100000000 (so_eq hv4 vl_m1 (so_ret vl_0 hR)
    (so_bd (s_Wy_weigh hv3 hv4 vl_1 hR) (fun a1 _ t2 _ ha1 hR2 =>
    so_F (vr_rk hR2 (x := 50) (y := 8) rfl) (fun f1 hf1 => so_bd (s_X_put vl_56 hf1 hv4 hR2) (fun a3 _ t4 _ ha3 hR4 =>
    so_F (vr_add (vr_rk hR4 (x := 50) (y := 8) rfl) vl_1) (fun f2 hf2 => so_pf vl_50 vl_8 hf2 hR4 (fun t5 _ hR5 =>
    so_gd hv3 <|
    so_F (vr_of 1 rfl hv3) (fun f3 hf3 => so_bd (s_X_at hf3 hv4 hR5) (fun a7 _ t8 _ ha7 hR8 =>
    so_eq ha7 vl_8 (so_bd (s_Wy_record hR8) (fun a11 _ t12 _ ha11 hR12 =>
    so_bd (s_Wy_turnBack hv3 hR12) (fun a13 _ t14 _ ha13 hR14 =>
    s_Wy_walkAll_B121 hk18 hv3 ha13 hv5 hR14)))
    (so_eq ha7 vl_6 (so_F (vr_of 6 rfl hv3) (fun f4 hf4 => so_bd (s_X_at hf4 hv4 hR8) (fun a9 _ t10 _ ha9 hR10 =>
    so_F (vr_add ha9 vl_1) (fun f5 hf5 => s_Wy_walkAll_B119 hk18 hv3 hv5 hf5 hR10))))
    (so_F (vr_add hv4 vl_1) (fun f6 hf6 => s_Wy_walkAll_B119 hk18 hv3 hv5 hf6 hR8))))))))))))
    (so_ret vl_0 hR)
set_option maxRecDepth 20000 in
theorem s_Wy_walkAll_L18 {c : Int} {μ0 : am_M} : ∀ (n N : Nat), n ≤ N → ∀ {v3 : Nat} {x_v3 : Int} (hv3 : vr c v3 x_v3) {v4 : Nat} {x_v4 : Int} (hv4 : vr c v4 x_v4) {v5 : Nat} {x_v5 : Int} (hv5 : vr c v5 x_v5) {t : e_T} {μ : am_M} (hR : e_R c μ0 t μ), so c μ0 (E_Wy_walkAll_L18 n v3 v4 v5 t) (Wy_walkAll_L18 N x_v3 x_v4 x_v5 μ) := by
  intro n
  induction n with
  | zero => intros; exact so_none
  | succ n ih =>
    intro N hN v3 x_v3 hv3 v4 x_v4 hv4 v5 x_v5 hv5 t μ hR
    obtain ⟨M, rfl⟩ : ∃ M, N = M + 1 := ⟨N - 1, by omega⟩
    exact s_Wy_walkAll_L18_b (k18 := E_Wy_walkAll_L18 n) (k18x := Wy_walkAll_L18 M) (fun hv3 hv4 hv5 hR => ih M (by omega) hv3 hv4 hv5 hR) hv3 hv4 hv5 hR
set_option maxRecDepth 20000 in
theorem s_Wy_walkAll {c : Int} {μ0 : am_M} {v1 : Nat} {x_v1 : Int} (hv1 : vr c v1 x_v1) {v2 : Nat} {x_v2 : Int} (hv2 : vr c v2 x_v2) {t : e_T} {μ : am_M} (hR : e_R c μ0 t μ) : so c μ0 (E_Wy_walkAll v1 v2 t) (Wy_walkAll x_v1 x_v2 μ) := by
  unfold E_Wy_walkAll Wy_walkAll
  exact so_gd hv1 <|
    so_F (vr_of 15 rfl hv1) (fun f1 hf1 => so_bd (s_X_at hf1 hv2 hR) (fun a2 _ t3 _ ha2 hR3 =>
    so_F (vr_of 1 rfl hv1) (fun f2 hf2 => s_Wy_walkAll_L18 4096 am_FU e_FU hf2 ha2 vl_0 hR3)))
set_option maxRecDepth 20000 in
theorem s_Wy_need_B25 {c : Int} {μ0 : am_M} {v3 : Nat} {x_v3 : Int} (hv3 : vr c v3 x_v3) {t : e_T} {μ : am_M} (hR : e_R c μ0 t μ) : so c μ0 (E_Wy_need_B25 v3 t) (Wy_need_B25 x_v3 μ) := by
  unfold E_Wy_need_B25 Wy_need_B25
  exact so_bd (s_X_at vl_58 hv3 hR) (fun a1 _ t2 _ ha1 hR2 =>
    so_ret ha1 hR2)
set_option maxRecDepth 20000 in
theorem s_Wy_need {c : Int} {μ0 : am_M} {v1 : Nat} {x_v1 : Int} (hv1 : vr c v1 x_v1) {v2 : Nat} {x_v2 : Int} (hv2 : vr c v2 x_v2) {v3 : Nat} {x_v3 : Int} (hv3 : vr c v3 x_v3) {t : e_T} {μ : am_M} (hR : e_R c μ0 t μ) : so c μ0 (E_Wy_need v1 v2 v3 t) (Wy_need x_v1 x_v2 x_v3 μ) := by
  unfold E_Wy_need Wy_need
  exact so_eq (vr_rk hR (x := 50) (y := 10) rfl) hv2 (s_Wy_need_B25 hv3 hR)
    (so_bd (s_Wy_prepare hv1 hv2 hR) (fun a1 _ t2 _ ha1 hR2 =>
    so_bd (s_Wy_walkAll hv1 hv2 hR2) (fun a3 _ t4 _ ha3 hR4 =>
    so_pf vl_50 vl_10 hv2 hR4 (fun t5 _ hR5 =>
    s_Wy_need_B25 hv3 hR5))))
set_option maxRecDepth 20000 in
theorem s_X_feed {c : Int} {μ0 : am_M} {v1 : Nat} {x_v1 : Int} (hv1 : vr c v1 x_v1) {v3 : Nat} {x_v3 : Int} (hv3 : vr c v3 x_v3) {v5 : Nat} {x_v5 : Int} (hv5 : vr c v5 x_v5) {t : e_T} {μ : am_M} (hR : e_R c μ0 t μ) : so c μ0 (E_X_feed v1 v3 v5 t) (X_feed x_v1 x_v3 x_v5 μ) := by
  unfold E_X_feed X_feed
  exact so_bd (s_Tp_append hv1 hR) (fun a1 _ t2 _ ha1 hR2 =>
    so_bd (s_Tp_append hv3 hR2) (fun a3 _ t4 _ ha3 hR4 =>
    so_bd (s_Tp_append hv5 hR4) (fun a5 _ t6 _ ha5 hR6 =>
    so_ret (vr_rk hR6 (x := 10) (y := 2) rfl) hR6)))
set_option maxRecDepth 20000 in
theorem s_X_bills {c : Int} {μ0 : am_M}  {t : e_T} {μ : am_M} (hR : e_R c μ0 t μ) : so c μ0 (E_X_bills t) (X_bills μ) := by
  unfold E_X_bills X_bills
  exact so_F (vr_rk hR (x := 0) (y := 9) rfl) (fun f1 hf1 => so_bd (s_Rd_readInto hf1 hR) (fun a1 _ t2 _ ha1 hR2 =>
    so_bd (s_Tp_clear hR2) (fun a3 _ t4 _ ha3 hR4 =>
    so_eq ha1 vl_0 (so_F (vr_rk hR4 (x := 0) (y := 9) rfl) (fun f2 hf2 => so_bd (s_Ck_checkAll hf2 hR4) (fun a5 _ t6 _ ha5 hR6 =>
    so_F (vr_rk hR6 (x := 0) (y := 9) rfl) (fun f3 hf3 => so_pf vl_0 vl_8 hf3 hR6 (fun t7 _ hR7 =>
    so_F (vr_rk hR6 (x := 0) (y := 8) rfl) (fun f4 hf4 => so_pf vl_0 vl_9 hf4 hR7 (fun t8 _ hR8 =>
    so_bd (s_Mc_stand vl_300 hR8) (fun a9 _ t10 _ ha9 hR10 =>
    so_pf vl_0 vl_10 vl_0 hR10 (fun t11 _ hR11 =>
    so_bd (s_Wy_forget hR11) (fun a12 _ t13 _ ha12 hR13 =>
    so_bd (s_Or_forget hR13) (fun a14 _ t15 _ ha14 hR15 =>
    so_ret ha1 hR15)))))))))))
    (so_ret ha1 hR4))))
set_option maxRecDepth 20000 in
theorem s_X_bill {c : Int} {μ0 : am_M} {v1 : Nat} {x_v1 : Int} (hv1 : vr c v1 x_v1) {v2 : Nat} {x_v2 : Int} (hv2 : vr c v2 x_v2) {t : e_T} {μ : am_M} (hR : e_R c μ0 t μ) : so c μ0 (E_X_bill v1 v2 t) (X_bill x_v1 x_v2 μ) := by
  unfold E_X_bill X_bill
  exact so_gd (vr_rk hR (x := 0) (y := 8) rfl) <|
    so_F (vr_rk hR (x := 0) (y := 8) rfl) (fun f1 hf1 => so_bd (s_Bi_has hf1 hv1 hR) (fun a2 _ t3 _ ha2 hR3 =>
    so_eq ha2 vl_0 (so_ret vl_m1 hR3)
    (so_eq hv2 vl_0 (so_gd (vr_rk hR3 (x := 0) (y := 8) rfl) <|
    so_F (vr_of 15 rfl (vr_rk hR3 (x := 0) (y := 8) rfl)) (fun f2 hf2 => so_bd (s_X_at hf2 hv1 hR3) (fun a5 _ t6 _ ha5 hR6 =>
    so_ret ha5 hR6)))
    (so_eq hv2 vl_1 (so_gd (vr_rk hR3 (x := 0) (y := 8) rfl) <|
    so_F (vr_of 16 rfl (vr_rk hR3 (x := 0) (y := 8) rfl)) (fun f3 hf3 => so_bd (s_X_at hf3 hv1 hR3) (fun a8 _ t9 _ ha8 hR9 =>
    so_ret ha8 hR9)))
    (so_eq hv2 vl_2 (so_gd (vr_rk hR3 (x := 0) (y := 8) rfl) <|
    so_F (vr_of 17 rfl (vr_rk hR3 (x := 0) (y := 8) rfl)) (fun f4 hf4 => so_bd (s_X_at hf4 hv1 hR3) (fun a11 _ t12 _ ha11 hR12 =>
    so_ret ha11 hR12)))
    (so_eq hv2 vl_3 (so_gd (vr_rk hR3 (x := 0) (y := 8) rfl) <|
    so_F (vr_of 18 rfl (vr_rk hR3 (x := 0) (y := 8) rfl)) (fun f5 hf5 => so_bd (s_X_at hf5 hv1 hR3) (fun a14 _ t15 _ ha14 hR15 =>
    so_ret ha14 hR15)))
    (so_eq hv2 vl_4 (so_gd (vr_rk hR3 (x := 0) (y := 8) rfl) <|
    so_F (vr_of 19 rfl (vr_rk hR3 (x := 0) (y := 8) rfl)) (fun f6 hf6 => so_bd (s_X_at hf6 hv1 hR3) (fun a17 _ t18 _ ha17 hR18 =>
    so_eq ha17 vl_0 (so_ret vl_1 hR18)
    (so_ret vl_0 hR18))))
    (so_eq hv2 vl_5 (so_gd (vr_rk hR3 (x := 0) (y := 8) rfl) <|
    so_F (vr_of 22 rfl (vr_rk hR3 (x := 0) (y := 8) rfl)) (fun f7 hf7 => so_bd (s_X_at hf7 hv1 hR3) (fun a20 _ t21 _ ha20 hR21 =>
    so_ret ha20 hR21)))
    (so_ret vl_m1 hR3)))))))))
