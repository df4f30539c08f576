/-! What the evaluator says holds of the functions. Printed by program. -/
set_option maxRecDepth 20000 in
theorem s_X_line {c : Int} {μ0 : am_M} {v1 : Nat} {x_v1 : Int} (hv1 : vr c v1 x_v1) {v2 : Nat} {x_v2 : Int} (hv2 : vr c v2 x_v2) {t : e_T} {μ : am_M} (hR : e_R c μ0 t μ) : so c μ0 (E_X_line v1 v2 t) (X_line x_v1 x_v2 μ) := by
  unfold E_X_line X_line
  exact so_gd (vr_rk hR (x := 0) (y := 8) rfl) <|
    so_ltc hv1 vl_0 (so_ret vl_m1 hR)
    (so_gd (vr_of 1 rfl (vr_rk hR (x := 0) (y := 8) rfl)) <|
    so_ltc hv1 (vr_rd hR (vr_of 1 rfl (vr_rk hR (x := 0) (y := 8) rfl)) vl_10) (so_eq hv2 vl_0 (so_F (vr_of 1 rfl (vr_of 1 rfl (vr_rk hR (x := 0) (y := 8) rfl))) (fun f1 hf1 => so_bd (s_X_at hf1 hv1 hR) (fun a3 _ t4 _ ha3 hR4 =>
    so_ret ha3 hR4)))
    (so_eq hv2 vl_1 (so_F (vr_of 2 rfl (vr_of 1 rfl (vr_rk hR (x := 0) (y := 8) rfl))) (fun f2 hf2 => so_bd (s_X_at hf2 hv1 hR) (fun a5 _ t6 _ ha5 hR6 =>
    so_ret ha5 hR6)))
    (so_eq hv2 vl_2 (so_F (vr_of 3 rfl (vr_of 1 rfl (vr_rk hR (x := 0) (y := 8) rfl))) (fun f3 hf3 => so_bd (s_X_at hf3 hv1 hR) (fun a7 _ t8 _ ha7 hR8 =>
    so_ret ha7 hR8)))
    (so_eq hv2 vl_3 (so_F (vr_of 1 rfl (vr_rk hR (x := 0) (y := 8) rfl)) (fun f4 hf4 => so_bd (s_Ln_timesRead hf4 hv1 hR) (fun a9 _ t10 _ ha9 hR10 =>
    so_ret ha9 hR10)))
    (so_eq hv2 vl_4 (so_F (vr_of 5 rfl (vr_of 1 rfl (vr_rk hR (x := 0) (y := 8) rfl))) (fun f5 hf5 => so_bd (s_X_at hf5 hv1 hR) (fun a11 _ t12 _ ha11 hR12 =>
    so_ret ha11 hR12)))
    (so_ret vl_m1 hR))))))
    (so_ret vl_m1 hR))
set_option maxRecDepth 20000 in
theorem s_X_check {c : Int} {μ0 : am_M} {v1 : Nat} {x_v1 : Int} (hv1 : vr c v1 x_v1) {v2 : Nat} {x_v2 : Int} (hv2 : vr c v2 x_v2) {t : e_T} {μ : am_M} (hR : e_R c μ0 t μ) : so c μ0 (E_X_check v1 v2 t) (X_check x_v1 x_v2 μ) := by
  unfold E_X_check X_check
  exact so_gd (vr_rk hR (x := 0) (y := 8) rfl) <|
    so_F (vr_rk hR (x := 0) (y := 8) rfl) (fun f1 hf1 => so_bd (s_Bi_has hf1 hv1 hR) (fun a2 _ t3 _ ha2 hR3 =>
    so_eq ha2 vl_0 (so_ret vl_m1 hR3)
    (so_eq hv2 vl_0 (so_gd (vr_rk hR3 (x := 0) (y := 8) rfl) <|
    so_F (vr_of 19 rfl (vr_rk hR3 (x := 0) (y := 8) rfl)) (fun f2 hf2 => so_bd (s_X_at hf2 hv1 hR3) (fun a5 _ t6 _ ha5 hR6 =>
    so_ret ha5 hR6)))
    (so_eq hv2 vl_1 (so_gd (vr_rk hR3 (x := 0) (y := 8) rfl) <|
    so_F (vr_of 20 rfl (vr_rk hR3 (x := 0) (y := 8) rfl)) (fun f3 hf3 => so_bd (s_X_at hf3 hv1 hR3) (fun a8 _ t9 _ ha8 hR9 =>
    so_ret ha8 hR9)))
    (so_eq hv2 vl_2 (so_gd (vr_rk hR3 (x := 0) (y := 8) rfl) <|
    so_F (vr_of 21 rfl (vr_rk hR3 (x := 0) (y := 8) rfl)) (fun f4 hf4 => so_bd (s_X_at hf4 hv1 hR3) (fun a11 _ t12 _ ha11 hR12 =>
    so_ret ha11 hR12)))
    (so_ret vl_m1 hR3))))))
set_option maxRecDepth 20000 in
theorem s_X_room {c : Int} {μ0 : am_M} {v1 : Nat} {x_v1 : Int} (hv1 : vr c v1 x_v1) {t : e_T} {μ : am_M} (hR : e_R c μ0 t μ) : so c μ0 (E_X_room v1 t) (X_room x_v1 μ) := by
  unfold E_X_room X_room
  exact so_ltc hv1 vl_1 (so_ret vl_0 hR)
    (so_lec hv1 vl_99 (so_pf vl_300 vl_12 hv1 hR (fun t1 _ hR1 =>
    so_ret vl_1 hR1))
    (so_ret vl_0 hR))
set_option maxRecDepth 20000 in
theorem s_X_price {c : Int} {μ0 : am_M} {v1 : Nat} {x_v1 : Int} (hv1 : vr c v1 x_v1) {t : e_T} {μ : am_M} (hR : e_R c μ0 t μ) : so c μ0 (E_X_price v1 t) (X_price x_v1 μ) := by
  unfold E_X_price X_price
  exact so_ltc hv1 vl_0 (so_ret vl_0 hR)
    (so_lec hv1 vl_99 (so_pf vl_300 vl_13 hv1 hR (fun t1 _ hR1 =>
    so_ret vl_1 hR1))
    (so_ret vl_0 hR))
set_option maxRecDepth 20000 in
theorem s_X_begin {c : Int} {μ0 : am_M} {v1 : Nat} {x_v1 : Int} (hv1 : vr c v1 x_v1) {v2 : Nat} {x_v2 : Int} (hv2 : vr c v2 x_v2) {v3 : Nat} {x_v3 : Int} (hv3 : vr c v3 x_v3) {v4 : Nat} {x_v4 : Int} (hv4 : vr c v4 x_v4) {v5 : Nat} {x_v5 : Int} (hv5 : vr c v5 x_v5) {t : e_T} {μ : am_M} (hR : e_R c μ0 t μ) : so c μ0 (E_X_begin v1 v2 v3 v4 v5 t) (X_begin x_v1 x_v2 x_v3 x_v4 x_v5 μ) := by
  unfold E_X_begin X_begin
  exact so_gd (vr_rk hR (x := 0) (y := 8) rfl) <|
    so_F (vr_rk hR (x := 0) (y := 8) rfl) (fun f1 hf1 => so_bd (s_Bi_has hf1 hv1 hR) (fun a2 _ t3 _ ha2 hR3 =>
    so_eq ha2 vl_0 (so_ret vl_0 hR3)
    (so_gd (vr_rk hR3 (x := 0) (y := 8) rfl) <|
    so_F (vr_of 22 rfl (vr_rk hR3 (x := 0) (y := 8) rfl)) (fun f2 hf2 => so_bd (s_X_at hf2 hv1 hR3) (fun a5 _ t6 _ ha5 hR6 =>
    so_eq ha5 vl_0 (so_ret vl_0 hR6)
    (so_bd (s_Mc_take vl_300 hv2 hv3 hv4 hv5 hR6) (fun a7 _ t8 _ ha7 hR8 =>
    so_F (vr_rk hR8 (x := 0) (y := 8) rfl) (fun f3 hf3 => so_bd (s_Mc_start vl_300 hf3 hv1 hR8) (fun a9 _ t10 _ ha9 hR10 =>
    so_ret vl_1 hR10)))))))))
set_option maxRecDepth 20000 in
theorem s_X_run {c : Int} {μ0 : am_M} {v1 : Nat} {x_v1 : Int} (hv1 : vr c v1 x_v1) {t : e_T} {μ : am_M} (hR : e_R c μ0 t μ) : so c μ0 (E_X_run v1 t) (X_run x_v1 μ) := by
  unfold E_X_run X_run
  exact so_ltc hv1 vl_0 (so_ret vl_m1 hR)
    (so_lec hv1 vl_1000 (so_F (vr_rk hR (x := 0) (y := 8) rfl) (fun f1 hf1 => so_bd (s_Mc_go vl_300 hf1 hv1 hR) (fun a1 _ t2 _ ha1 hR2 =>
    so_ret ha1 hR2)))
    (so_ret vl_m1 hR))
set_option maxRecDepth 20000 in
theorem s_X_machine {c : Int} {μ0 : am_M} {v1 : Nat} {x_v1 : Int} (hv1 : vr c v1 x_v1) {t : e_T} {μ : am_M} (hR : e_R c μ0 t μ) : so c μ0 (E_X_machine v1 t) (X_machine x_v1 μ) := by
  unfold E_X_machine X_machine
  exact so_bd (s_Mc_tell vl_300 hv1 hR) (fun a1 _ t2 _ ha1 hR2 =>
    so_ret ha1 hR2)
set_option maxRecDepth 20000 in
theorem s_X_given {c : Int} {μ0 : am_M}  {t : e_T} {μ : am_M} (hR : e_R c μ0 t μ) : so c μ0 (E_X_given t) (X_given μ) := by
  unfold E_X_given X_given
  exact so_eq (vr_rk hR (x := 300) (y := 6) rfl) vl_2 (so_ret (vr_rk hR (x := 300) (y := 7) rfl) hR)
    (so_none)
set_option maxRecDepth 20000 in
theorem s_X_free {c : Int} {μ0 : am_M} {v1 : Nat} {x_v1 : Int} (hv1 : vr c v1 x_v1) {v2 : Nat} {x_v2 : Int} (hv2 : vr c v2 x_v2) {v3 : Nat} {x_v3 : Int} (hv3 : vr c v3 x_v3) {v4 : Nat} {x_v4 : Int} (hv4 : vr c v4 x_v4) {v5 : Nat} {x_v5 : Int} (hv5 : vr c v5 x_v5) {t : e_T} {μ : am_M} (hR : e_R c μ0 t μ) : so c μ0 (E_X_free v1 v2 v3 v4 v5 t) (X_free x_v1 x_v2 x_v3 x_v4 x_v5 μ) := by
  unfold E_X_free X_free
  exact so_gd (vr_rk hR (x := 0) (y := 8) rfl) <|
    so_F (vr_rk hR (x := 0) (y := 8) rfl) (fun f1 hf1 => so_bd (s_Bi_has hf1 hv1 hR) (fun a2 _ t3 _ ha2 hR3 =>
    so_eq ha2 vl_0 (so_none)
    (so_bd (s_Mc_take vl_310 hv2 hv3 hv4 hv5 hR3) (fun a4 _ t5 _ ha4 hR5 =>
    so_F (vr_rk hR5 (x := 0) (y := 8) rfl) (fun f2 hf2 => so_bd (s_Mc_start vl_310 hf2 hv1 hR5) (fun a6 _ t7 _ ha6 hR7 =>
    so_F (vr_rk hR7 (x := 0) (y := 8) rfl) (fun f3 hf3 => so_bd (s_Mc_go vl_310 hf3 vl_3000 hR7) (fun a8 _ t9 _ ha8 hR9 =>
    so_eq (vr_rk hR9 (x := 310) (y := 6) rfl) vl_2 (so_ret (vr_rk hR9 (x := 310) (y := 7) rfl) hR9)
    (so_none)))))))))
set_option maxRecDepth 20000 in
theorem s_X_ways {c : Int} {μ0 : am_M} {v1 : Nat} {x_v1 : Int} (hv1 : vr c v1 x_v1) {v2 : Nat} {x_v2 : Int} (hv2 : vr c v2 x_v2) {t : e_T} {μ : am_M} (hR : e_R c μ0 t μ) : so c μ0 (E_X_ways v1 v2 t) (X_ways x_v1 x_v2 μ) := by
  unfold E_X_ways X_ways
  exact so_gd (vr_rk hR (x := 0) (y := 8) rfl) <|
    so_F (vr_rk hR (x := 0) (y := 8) rfl) (fun f1 hf1 => so_bd (s_Bi_has hf1 hv1 hR) (fun a2 _ t3 _ ha2 hR3 =>
    so_eq ha2 vl_0 (so_ret vl_m1 hR3)
    (so_ltc hv2 vl_0 (so_ret vl_m1 hR3)
    (so_lec hv2 vl_2 (so_eq hv2 vl_0 (so_F (vr_rk hR3 (x := 0) (y := 8) rfl) (fun f2 hf2 => so_bd (s_Wy_howMany hf2 hv1 hR3) (fun a6 _ t7 _ ha6 hR7 =>
    so_ret ha6 hR7)))
    (so_F (vr_rk hR3 (x := 0) (y := 8) rfl) (fun f3 hf3 => so_bd (s_Wy_measure hf3 hv1 vl_m1 hR3) (fun a4 _ t5 _ ha4 hR5 =>
    so_eq hv2 vl_1 (so_ret (vr_rk hR5 (x := 50) (y := 12) rfl) hR5)
    (so_ret (vr_rk hR5 (x := 50) (y := 11) rfl) hR5)))))
    (so_ret vl_m1 hR3)))))
set_option maxRecDepth 20000 in
theorem s_X_reads {c : Int} {μ0 : am_M} {v1 : Nat} {x_v1 : Int} (hv1 : vr c v1 x_v1) {v2 : Nat} {x_v2 : Int} (hv2 : vr c v2 x_v2) {v3 : Nat} {x_v3 : Int} (hv3 : vr c v3 x_v3) {t : e_T} {μ : am_M} (hR : e_R c μ0 t μ) : so c μ0 (E_X_reads v1 v2 v3 t) (X_reads x_v1 x_v2 x_v3 μ) := by
  unfold E_X_reads X_reads
  exact so_gd (vr_rk hR (x := 0) (y := 8) rfl) <|
    so_F (vr_rk hR (x := 0) (y := 8) rfl) (fun f1 hf1 => so_bd (s_Bi_has hf1 hv1 hR) (fun a2 _ t3 _ ha2 hR3 =>
    so_eq ha2 vl_0 (so_ret vl_m1 hR3)
    (so_ltc hv3 vl_0 (so_ret vl_m1 hR3)
    (so_lec hv3 vl_1 (so_ltc hv2 vl_0 (so_ret vl_m1 hR3)
    (so_gd (vr_rk hR3 (x := 0) (y := 8) rfl) <|
    so_F (vr_of 18 rfl (vr_rk hR3 (x := 0) (y := 8) rfl)) (fun f2 hf2 => so_bd (s_X_at hf2 hv1 hR3) (fun a5 _ t6 _ ha5 hR6 =>
    so_ltc hv2 ha5 (so_F (vr_rk hR6 (x := 0) (y := 8) rfl) (fun f3 hf3 => so_bd (s_Wy_measure hf3 hv1 hv2 hR6) (fun a7 _ t8 _ ha7 hR8 =>
    so_eq hv3 vl_1 (so_ret (vr_rk hR8 (x := 50) (y := 12) rfl) hR8)
    (so_ret (vr_rk hR8 (x := 50) (y := 11) rfl) hR8))))
    (so_ret vl_m1 hR6)))))
    (so_ret vl_m1 hR3)))))
set_option maxRecDepth 20000 in
theorem s_X_needs {c : Int} {μ0 : am_M} {v1 : Nat} {x_v1 : Int} (hv1 : vr c v1 x_v1) {v2 : Nat} {x_v2 : Int} (hv2 : vr c v2 x_v2) {t : e_T} {μ : am_M} (hR : e_R c μ0 t μ) : so c μ0 (E_X_needs v1 v2 t) (X_needs x_v1 x_v2 μ) := by
  unfold E_X_needs X_needs
  exact so_gd (vr_rk hR (x := 0) (y := 8) rfl) <|
    so_F (vr_rk hR (x := 0) (y := 8) rfl) (fun f1 hf1 => so_bd (s_Bi_has hf1 hv1 hR) (fun a2 _ t3 _ ha2 hR3 =>
    so_eq ha2 vl_0 (so_ret vl_m1 hR3)
    (so_ltc hv2 vl_0 (so_ret vl_m1 hR3)
    (so_lec hv2 vl_3 (so_F (vr_rk hR3 (x := 0) (y := 8) rfl) (fun f2 hf2 => so_bd (s_Wy_need hf2 hv1 hv2 hR3) (fun a4 _ t5 _ ha4 hR5 =>
    so_ret ha4 hR5)))
    (so_ret vl_m1 hR3)))))
set_option maxRecDepth 20000 in
theorem s_X_plain {c : Int} {μ0 : am_M} {v1 : Nat} {x_v1 : Int} (hv1 : vr c v1 x_v1) {t : e_T} {μ : am_M} (hR : e_R c μ0 t μ) : so c μ0 (E_X_plain v1 t) (X_plain x_v1 μ) := by
  unfold E_X_plain X_plain
  exact so_gd (vr_rk hR (x := 0) (y := 8) rfl) <|
    so_F (vr_rk hR (x := 0) (y := 8) rfl) (fun f1 hf1 => so_bd (s_Bi_has hf1 hv1 hR) (fun a2 _ t3 _ ha2 hR3 =>
    so_eq ha2 vl_0 (so_ret vl_m1 hR3)
    (so_gd (vr_rk hR3 (x := 0) (y := 8) rfl) <|
    so_F (vr_rk hR3 (x := 0) (y := 8) rfl) (fun f2 hf2 => so_bd (s_Bi_isPlain hf2 hv1 hR3) (fun a5 _ t6 _ ha5 hR6 =>
    so_eq ha5 vl_0 (so_ret vl_0 hR6)
    (so_ret vl_1 hR6))))))
set_option maxRecDepth 20000 in
theorem s_X_fewest {c : Int} {μ0 : am_M} {v1 : Nat} {x_v1 : Int} (hv1 : vr c v1 x_v1) {t : e_T} {μ : am_M} (hR : e_R c μ0 t μ) : so c μ0 (E_X_fewest v1 t) (X_fewest x_v1 μ) := by
  unfold E_X_fewest X_fewest
  exact so_F (vr_rk hR (x := 0) (y := 8) rfl) (fun f1 hf1 => so_bd (s_Or_prepare hf1 hv1 hR) (fun a1 _ t2 _ ha1 hR2 =>
    so_eq ha1 vl_0 (so_ret vl_m1 hR2)
    (so_bd (s_Or_least hR2) (fun a3 _ t4 _ ha3 hR4 =>
    so_ret ha3 hR4))))
set_option maxRecDepth 20000 in
theorem s_X_order {c : Int} {μ0 : am_M} {v1 : Nat} {x_v1 : Int} (hv1 : vr c v1 x_v1) {v2 : Nat} {x_v2 : Int} (hv2 : vr c v2 x_v2) {t : e_T} {μ : am_M} (hR : e_R c μ0 t μ) : so c μ0 (E_X_order v1 v2 t) (X_order x_v1 x_v2 μ) := by
  unfold E_X_order X_order
  exact so_F (vr_rk hR (x := 0) (y := 8) rfl) (fun f1 hf1 => so_bd (s_Or_prepare hf1 hv1 hR) (fun a1 _ t2 _ ha1 hR2 =>
    so_eq ha1 vl_0 (so_ret vl_m1 hR2)
    (so_bd (s_Or_sumAt hv2 hR2) (fun a3 _ t4 _ ha3 hR4 =>
    so_ret ha3 hR4))))
set_option maxRecDepth 20000 in
theorem s_X_asTold {c : Int} {μ0 : am_M} {v1 : Nat} {x_v1 : Int} (hv1 : vr c v1 x_v1) {t : e_T} {μ : am_M} (hR : e_R c μ0 t μ) : so c μ0 (E_X_asTold v1 t) (X_asTold x_v1 μ) := by
  unfold E_X_asTold X_asTold
  exact so_F (vr_rk hR (x := 0) (y := 8) rfl) (fun f1 hf1 => so_bd (s_Or_prepare hf1 hv1 hR) (fun a1 _ t2 _ ha1 hR2 =>
    so_eq ha1 vl_0 (so_ret vl_m1 hR2)
    (so_bd (s_Or_greatestAsTold hR2) (fun a3 _ t4 _ ha3 hR4 =>
    so_ret ha3 hR4))))
set_option maxRecDepth 20000 in
theorem s_X_orders {c : Int} {μ0 : am_M} {v1 : Nat} {x_v1 : Int} (hv1 : vr c v1 x_v1) {v2 : Nat} {x_v2 : Int} (hv2 : vr c v2 x_v2) {t : e_T} {μ : am_M} (hR : e_R c μ0 t μ) : so c μ0 (E_X_orders v1 v2 t) (X_orders x_v1 x_v2 μ) := by
  unfold E_X_orders X_orders
  exact so_ltc hv2 vl_0 (so_ret vl_m1 hR)
    (so_lec hv2 vl_20 (so_F (vr_rk hR (x := 0) (y := 8) rfl) (fun f1 hf1 => so_bd (s_Or_prepare hf1 hv1 hR) (fun a1 _ t2 _ ha1 hR2 =>
    so_eq ha1 vl_0 (so_ret vl_m1 hR2)
    (so_bd (s_Or_howMany hv2 hR2) (fun a3 _ t4 _ ha3 hR4 =>
    so_ret ha3 hR4)))))
    (so_ret vl_m1 hR))
set_option maxRecDepth 20000 in
theorem s_X_cheapest {c : Int} {μ0 : am_M} {v1 : Nat} {x_v1 : Int} (hv1 : vr c v1 x_v1) {v2 : Nat} {x_v2 : Int} (hv2 : vr c v2 x_v2) {v3 : Nat} {x_v3 : Int} (hv3 : vr c v3 x_v3) {t : e_T} {μ : am_M} (hR : e_R c μ0 t μ) : so c μ0 (E_X_cheapest v1 v2 v3 t) (X_cheapest x_v1 x_v2 x_v3 μ) := by
  unfold E_X_cheapest X_cheapest
  exact so_ltc hv2 vl_0 (so_ret vl_m1 hR)
    (so_lec hv2 vl_99 (so_ltc hv3 vl_0 (so_ret vl_m1 hR)
    (so_lec hv3 vl_99 (so_F (vr_rk hR (x := 0) (y := 8) rfl) (fun f1 hf1 => so_bd (s_Or_prepare hf1 hv1 hR) (fun a1 _ t2 _ ha1 hR2 =>
    so_eq ha1 vl_0 (so_ret vl_m1 hR2)
    (so_bd (s_Or_leastCoin hv2 hv3 hR2) (fun a3 _ t4 _ ha3 hR4 =>
    so_ret ha3 hR4)))))
    (so_ret vl_m1 hR)))
    (so_ret vl_m1 hR))
set_option maxRecDepth 20000 in
theorem s_X_count {c : Int} {μ0 : am_M} {v1 : Nat} {x_v1 : Int} (hv1 : vr c v1 x_v1) {t : e_T} {μ : am_M} (hR : e_R c μ0 t μ) : so c μ0 (E_X_count v1 t) (X_count x_v1 μ) := by
  unfold E_X_count X_count
  exact so_eq hv1 vl_0 (so_gd (vr_rk hR (x := 0) (y := 8) rfl) <|
    so_ret (vr_rd hR (vr_rk hR (x := 0) (y := 8) rfl) vl_12) hR)
    (so_eq hv1 vl_1 (so_gd (vr_rk hR (x := 0) (y := 8) rfl) <|
    so_ret (vr_rd hR (vr_rk hR (x := 0) (y := 8) rfl) vl_13) hR)
    (so_eq hv1 vl_2 (so_gd (vr_rk hR (x := 0) (y := 8) rfl) <|
    so_gd (vr_of 1 rfl (vr_rk hR (x := 0) (y := 8) rfl)) <|
    so_ret (vr_rd hR (vr_of 1 rfl (vr_rk hR (x := 0) (y := 8) rfl)) vl_10) hR)
    (so_eq hv1 vl_3 (so_ret (vr_rk hR (x := 300) (y := 12) rfl) hR)
    (so_eq hv1 vl_4 (so_ret (vr_rk hR (x := 300) (y := 13) rfl) hR)
    (so_eq hv1 vl_5 (so_ret (vr_rk hR (x := 10) (y := 2) rfl) hR)
    (so_ret vl_m1 hR))))))
set_option maxRecDepth 20000 in
theorem s_L_feed_B99 {c : Int} {μ0 : am_M} {k7 : Nat → Nat → e_T → e_O} {k7x : Int → Int → am_M → am_O} (hk7 : ∀ {u0 : Nat} {x0 : Int} {u1 : Nat} {x1 : Int} {t : e_T} {μ : am_M}, vr c u0 x0 → vr c u1 x1 → e_R c μ0 t μ → so c μ0 (k7 u0 u1 t) (k7x x0 x1 μ)) {v2 : Nat} {x_v2 : Int} (hv2 : vr c v2 x_v2) {v4 : Nat} {x_v4 : Int} (hv4 : vr c v4 x_v4) {t : e_T} {μ : am_M} (hR : e_R c μ0 t μ) : so c μ0 (E_L_feed_B99 k7 v2 v4 t) (L_feed_B99 k7x x_v2 x_v4 μ) := by
  unfold E_L_feed_B99 L_feed_B99
  exact so_F (vr_add hv4 vl_1) (fun f1 hf1 => hk7 hv2 hf1 hR)
set_option maxRecDepth 20000 in
theorem s_L_feed_L82_b {c : Int} {μ0 : am_M} {k7 : Nat → Nat → e_T → e_O} {k7x : Int → Int → am_M → am_O} (hk7 : ∀ {u0 : Nat} {x0 : Int} {u1 : Nat} {x1 : Int} {t : e_T} {μ : am_M}, vr c u0 x0 → vr c u1 x1 → e_R c μ0 t μ → so c μ0 (k7 u0 u1 t) (k7x x0 x1 μ)) {k82 : Nat → Nat → Nat → e_T → e_O} {k82x : Int → Int → Int → am_M → am_O} (hk82 : ∀ {u0 : Nat} {x0 : Int} {u1 : Nat} {x1 : Int} {u2 : Nat} {x2 : Int} {t : e_T} {μ : am_M}, vr c u0 x0 → vr c u1 x1 → vr c u2 x2 → e_R c μ0 t μ → so c μ0 (k82 u0 u1 u2 t) (k82x x0 x1 x2 μ)) {v2 : Nat} {x_v2 : Int} (hv2 : vr c v2 x_v2) {v4 : Nat} {x_v4 : Int} (hv4 : vr c v4 x_v4) {v6 : Nat} {x_v6 : Int} (hv6 : vr c v6 x_v6) {t : e_T} {μ : am_M} (hR : e_R c μ0 t μ) : so c μ0 (E_L_feed_L82_b k7 k82 v2 v4 v6 t) (L_feed_L82_b k7x k82x x_v2 x_v4 x_v6 μ) := by
  unfold E_L_feed_L82_b L_feed_L82_b
  exact so_ltc hv6 vl_3 (so_st vl_3 vl_3010 hv6 vl_0 hR (fun t1 _ hR1 =>
    so_F (vr_add hv6 vl_1) (fun f1 hf1 => hk82 hv2 hv4 hf1 hR1)))
    (s_L_feed_B99 hk7 hv2 hv4 hR)
set_option maxRecDepth 20000 in
theorem s_L_feed_L82 {c : Int} {μ0 : am_M} {k7 : Nat → Nat → e_T → e_O} {k7x : Int → Int → am_M → am_O} (hk7 : ∀ {u0 : Nat} {x0 : Int} {u1 : Nat} {x1 : Int} {t : e_T} {μ : am_M}, vr c u0 x0 → vr c u1 x1 → e_R c μ0 t μ → so c μ0 (k7 u0 u1 t) (k7x x0 x1 μ)) : ∀ (n N : Nat), n ≤ N → ∀ {v2 : Nat} {x_v2 : Int} (hv2 : vr c v2 x_v2) {v4 : Nat} {x_v4 : Int} (hv4 : vr c v4 x_v4) {v6 : Nat} {x_v6 : Int} (hv6 : vr c v6 x_v6) {t : e_T} {μ : am_M} (hR : e_R c μ0 t μ), so c μ0 (E_L_feed_L82 k7 n v2 v4 v6 t) (L_feed_L82 k7x N x_v2 x_v4 x_v6 μ) := by
  intro n
  induction n with
  | zero => intros; exact so_none
  | succ n ih =>
    intro N hN v2 x_v2 hv2 v4 x_v4 hv4 v6 x_v6 hv6 t μ hR
    obtain ⟨M, rfl⟩ : ∃ M, N = M + 1 := ⟨N - 1, by omega⟩
    exact s_L_feed_L82_b (k82 := E_L_feed_L82 k7 n) (k82x := L_feed_L82 k7x M) hk7 (fun hv2 hv4 hv6 hR => ih M (by omega) hv2 hv4 hv6 hR) hv2 hv4 hv6 hR
set_option maxRecDepth 20000 in
theorem s_L_feed_B65 {c : Int} {μ0 : am_M} {k7 : Nat → Nat → e_T → e_O} {k7x : Int → Int → am_M → am_O} (hk7 : ∀ {u0 : Nat} {x0 : Int} {u1 : Nat} {x1 : Int} {t : e_T} {μ : am_M}, vr c u0 x0 → vr c u1 x1 → e_R c μ0 t μ → so c μ0 (k7 u0 u1 t) (k7x x0 x1 μ)) {v2 : Nat} {x_v2 : Int} (hv2 : vr c v2 x_v2) {v4 : Nat} {x_v4 : Int} (hv4 : vr c v4 x_v4) {t : e_T} {μ : am_M} (hR : e_R c μ0 t μ) : so c μ0 (E_L_feed_B65 k7 v2 v4 t) (L_feed_B65 k7x x_v2 x_v4 μ) := by
  unfold E_L_feed_B65 L_feed_B65
  exact so_ld vl_3 vl_3010 vl_0 hR (fun a1 _ ha1 =>
    so_ld vl_3 vl_3010 vl_1 hR (fun a2 _ ha2 =>
    so_ld vl_3 vl_3010 vl_2 hR (fun a3 _ ha3 =>
    so_bd (s_X_feed ha1 ha2 ha3 hR) (fun a4 _ t5 _ ha4 hR5 =>
    s_L_feed_L82 hk7 4096 am_FU e_FU hv2 hv4 vl_0 hR5))))
set_option maxRecDepth 20000 in
theorem s_L_feed_L7_b {c : Int} {μ0 : am_M} {k7 : Nat → Nat → e_T → e_O} {k7x : Int → Int → am_M → am_O} (hk7 : ∀ {u0 : Nat} {x0 : Int} {u1 : Nat} {x1 : Int} {t : e_T} {μ : am_M}, vr c u0 x0 → vr c u1 x1 → e_R c μ0 t μ → so c μ0 (k7 u0 u1 t) (k7x x0 x1 μ)) {v2 : Nat} {x_v2 : Int} (hv2 : vr c v2 x_v2) {v4 : Nat} {x_v4 : Int} (hv4 : vr c v4 x_v4) {t : e_T} {μ : am_M} (hR : e_R c μ0 t μ) : so c μ0 (E_L_feed_L7_b k7 v2 v4 t) (L_feed_L7_b k7x x_v2 x_v4 μ) := by
  unfold E_L_feed_L7_b L_feed_L7_b
  exact so_ltc hv4 hv2 (so_F (vr_div (vr_rem hv4 vl_24) vl_8) (fun f1 hf1 => so_ld vl_3 vl_3010 hf1 hR (fun a1 _ ha1 =>
    so_ld vl_950 vl_3000 hv4 hR (fun a2 _ ha2 =>
    so_F (vr_div (vr_rem hv4 vl_24) vl_8) (fun f2 hf2 => so_F (vr_or6 ha1 (vr_shl6 ha2 (vr_sub vl_56 (vr_mul vl_8 (vr_rem (vr_rem hv4 vl_24) vl_8))))) (fun f3 hf3 => so_st vl_3 vl_3010 hf2 hf3 hR (fun t3 _ hR3 =>
    so_ltc (vr_rem hv4 vl_24) vl_23 (so_ltc hv4 (vr_sub hv2 vl_1) (s_L_feed_B99 hk7 hv2 hv4 hR3)
    (s_L_feed_B65 hk7 hv2 hv4 hR3))
    (s_L_feed_B65 hk7 hv2 hv4 hR3))))))))
    (so_ret vl_0 hR)
set_option maxRecDepth 20000 in
theorem s_L_feed_L7 {c : Int} {μ0 : am_M} : ∀ (n N : Nat), n ≤ N → ∀ {v2 : Nat} {x_v2 : Int} (hv2 : vr c v2 x_v2) {v4 : Nat} {x_v4 : Int} (hv4 : vr c v4 x_v4) {t : e_T} {μ : am_M} (hR : e_R c μ0 t μ), so c μ0 (E_L_feed_L7 n v2 v4 t) (L_feed_L7 N x_v2 x_v4 μ) := by
  intro n
  induction n with
  | zero => intros; exact so_none
  | succ n ih =>
    intro N hN v2 x_v2 hv2 v4 x_v4 hv4 t μ hR
    obtain ⟨M, rfl⟩ : ∃ M, N = M + 1 := ⟨N - 1, by omega⟩
    exact s_L_feed_L7_b (k7 := E_L_feed_L7 n) (k7x := L_feed_L7 M) (fun hv2 hv4 hR => ih M (by omega) hv2 hv4 hR) hv2 hv4 hR
set_option maxRecDepth 20000 in
theorem s_L_feed {c : Int} {μ0 : am_M} {v2 : Nat} {x_v2 : Int} (hv2 : vr c v2 x_v2) {t : e_T} {μ : am_M} (hR : e_R c μ0 t μ) : so c μ0 (E_L_feed v2 t) (L_feed x_v2 μ) := by
  unfold E_L_feed L_feed
  exact s_L_feed_L7 4096 am_FU e_FU hv2 vl_0 hR
set_option maxRecDepth 20000 in
theorem s_L_tells_B843 {c : Int} {μ0 : am_M} {s0 : Nat} {x_s0 : Int} (hs0 : vr c s0 x_s0) {s1 : Nat} {x_s1 : Int} (hs1 : vr c s1 x_s1) {t : e_T} {μ : am_M} (hR : e_R c μ0 t μ) : so c μ0 (E_L_tells_B843 s0 s1 t) (L_tells_B843 x_s0 x_s1 μ) := by
  unfold E_L_tells_B843 L_tells_B843
  exact so_eq hs0 hs1 (so_bd (s_X_machine vl_0 hR) (fun a1 _ t2 _ ha1 hR2 =>
    so_eq ha1 vl_0 (so_ret vl_1 hR2)
    (so_ret vl_0 hR2)))
    (so_ret vl_0 hR)
set_option maxRecDepth 20000 in
theorem s_L_tells {c : Int} {μ0 : am_M} {v1 : Nat} {x_v1 : Int} (hv1 : vr c v1 x_v1) {t : e_T} {μ : am_M} (hR : e_R c μ0 t μ) : so c μ0 (E_L_tells v1 t) (L_tells x_v1 μ) := by
  unfold E_L_tells L_tells
  exact so_bd (s_X_bills hR) (fun a1 _ t2 _ ha1 hR2 =>
    so_eq ha1 vl_0 (so_bd (s_X_count vl_1 hR2) (fun a3 _ t4 _ ha3 hR4 =>
    so_ltc hv1 vl_2 (s_L_tells_B843 ha3 vl_3 hR4)
    (s_L_tells_B843 ha3 vl_1 hR4)))
    (so_ret vl_0 hR2))
set_option maxRecDepth 20000 in
theorem s_L_sound_B255 {c : Int} {μ0 : am_M} {k4 : Nat → Nat → e_T → e_O} {k4x : Int → Int → am_M → am_O} (hk4 : ∀ {u0 : Nat} {x0 : Int} {u1 : Nat} {x1 : Int} {t : e_T} {μ : am_M}, vr c u0 x0 → vr c u1 x1 → e_R c μ0 t μ → so c μ0 (k4 u0 u1 t) (k4x x0 x1 μ)) {k232 : Nat → Nat → Nat → Nat → Nat → Nat → Nat → e_T → e_O} {k232x : Int → Int → Int → Int → Int → Int → Int → am_M → am_O} (hk232 : ∀ {u0 : Nat} {x0 : Int} {u1 : Nat} {x1 : Int} {u2 : Nat} {x2 : Int} {u3 : Nat} {x3 : Int} {u4 : Nat} {x4 : Int} {u5 : Nat} {x5 : Int} {u6 : Nat} {x6 : Int} {t : e_T} {μ : am_M}, vr c u0 x0 → vr c u1 x1 → vr c u2 x2 → vr c u3 x3 → vr c u4 x4 → vr c u5 x5 → vr c u6 x6 → e_R c μ0 t μ → so c μ0 (k232 u0 u1 u2 u3 u4 u5 u6 t) (k232x x0 x1 x2 x3 x4 x5 x6 μ)) {v1 : Nat} {x_v1 : Int} (hv1 : vr c v1 x_v1) {v2 : Nat} {x_v2 : Int} (hv2 : vr c v2 x_v2) {v3 : Nat} {x_v3 : Int} (hv3 : vr c v3 x_v3) {v4 : Nat} {x_v4 : Int} (hv4 : vr c v4 x_v4) {v6 : Nat} {x_v6 : Int} (hv6 : vr c v6 x_v6) {v7 : Nat} {x_v7 : Int} (hv7 : vr c v7 x_v7) {v8 : Nat} {x_v8 : Int} (hv8 : vr c v8 x_v8) {t : e_T} {μ : am_M} (hR : e_R c μ0 t μ) : so c μ0 (E_L_sound_B255 k4 k232 v1 v2 v3 v4 v6 v7 v8 t) (L_sound_B255 k4x k232x x_v1 x_v2 x_v3 x_v4 x_v6 x_v7 x_v8 μ) := by
  unfold E_L_sound_B255 L_sound_B255
  exact so_bd (s_X_line hv8 vl_3 hR) (fun a1 _ t2 _ ha1 hR2 =>
    so_F (vr_add hv7 ha1) (fun f1 hf1 => so_F (vr_add hv8 vl_1) (fun f2 hf2 => hk232 hv1 hv2 hv3 hv4 hv6 hf1 hf2 hR2)))
set_option maxRecDepth 20000 in
theorem s_L_sound_B536 {c : Int} {μ0 : am_M} {k4 : Nat → Nat → e_T → e_O} {k4x : Int → Int → am_M → am_O} (hk4 : ∀ {u0 : Nat} {x0 : Int} {u1 : Nat} {x1 : Int} {t : e_T} {μ : am_M}, vr c u0 x0 → vr c u1 x1 → e_R c μ0 t μ → so c μ0 (k4 u0 u1 t) (k4x x0 x1 μ)) {v1 : Nat} {x_v1 : Int} (hv1 : vr c v1 x_v1) {v2 : Nat} {x_v2 : Int} (hv2 : vr c v2 x_v2) {t : e_T} {μ : am_M} (hR : e_R c μ0 t μ) : so c μ0 (E_L_sound_B536 k4 v1 v2 t) (L_sound_B536 k4x x_v1 x_v2 μ) := by
  unfold E_L_sound_B536 L_sound_B536
  exact so_F (vr_add hv2 vl_1) (fun f1 hf1 => hk4 hv1 hf1 hR)
set_option maxRecDepth 20000 in
theorem s_L_sound_L470_b {c : Int} {μ0 : am_M} {k4 : Nat → Nat → e_T → e_O} {k4x : Int → Int → am_M → am_O} (hk4 : ∀ {u0 : Nat} {x0 : Int} {u1 : Nat} {x1 : Int} {t : e_T} {μ : am_M}, vr c u0 x0 → vr c u1 x1 → e_R c μ0 t μ → so c μ0 (k4 u0 u1 t) (k4x x0 x1 μ)) {k470 : Nat → Nat → Nat → Nat → e_T → e_O} {k470x : Int → Int → Int → Int → am_M → am_O} (hk470 : ∀ {u0 : Nat} {x0 : Int} {u1 : Nat} {x1 : Int} {u2 : Nat} {x2 : Int} {u3 : Nat} {x3 : Int} {t : e_T} {μ : am_M}, vr c u0 x0 → vr c u1 x1 → vr c u2 x2 → vr c u3 x3 → e_R c μ0 t μ → so c μ0 (k470 u0 u1 u2 u3 t) (k470x x0 x1 x2 x3 μ)) {v1 : Nat} {x_v1 : Int} (hv1 : vr c v1 x_v1) {v2 : Nat} {x_v2 : Int} (hv2 : vr c v2 x_v2) {v10 : Nat} {x_v10 : Int} (hv10 : vr c v10 x_v10) {v12 : Nat} {x_v12 : Int} (hv12 : vr c v12 x_v12) {t : e_T} {μ : am_M} (hR : e_R c μ0 t μ) : so c μ0 (E_L_sound_L470_b k4 k470 v1 v2 v10 v12 t) (L_sound_L470_b k4x k470x x_v1 x_v2 x_v10 x_v12 μ) := by
  unfold E_L_sound_L470_b L_sound_L470_b
  exact so_ltc hv12 vl_20 (so_bd (s_X_cheapest hv2 hv12 vl_7 hR) (fun a1 _ t2 _ ha1 hR2 =>
    so_ltc (vr_cmp ha1 hv10) vl_0 (so_ret vl_0 hR2)
    (so_F (vr_add hv12 vl_1) (fun f1 hf1 => hk470 hv1 hv2 ha1 hf1 hR2))))
    (s_L_sound_B536 hk4 hv1 hv2 hR)
set_option maxRecDepth 20000 in
theorem s_L_sound_L470 {c : Int} {μ0 : am_M} {k4 : Nat → Nat → e_T → e_O} {k4x : Int → Int → am_M → am_O} (hk4 : ∀ {u0 : Nat} {x0 : Int} {u1 : Nat} {x1 : Int} {t : e_T} {μ : am_M}, vr c u0 x0 → vr c u1 x1 → e_R c μ0 t μ → so c μ0 (k4 u0 u1 t) (k4x x0 x1 μ)) : ∀ (n N : Nat), n ≤ N → ∀ {v1 : Nat} {x_v1 : Int} (hv1 : vr c v1 x_v1) {v2 : Nat} {x_v2 : Int} (hv2 : vr c v2 x_v2) {v10 : Nat} {x_v10 : Int} (hv10 : vr c v10 x_v10) {v12 : Nat} {x_v12 : Int} (hv12 : vr c v12 x_v12) {t : e_T} {μ : am_M} (hR : e_R c μ0 t μ), so c μ0 (E_L_sound_L470 k4 n v1 v2 v10 v12 t) (L_sound_L470 k4x N x_v1 x_v2 x_v10 x_v12 μ) := by
  intro n
  induction n with
  | zero => intros; exact so_none
  | succ n ih =>
    intro N hN v1 x_v1 hv1 v2 x_v2 hv2 v10 x_v10 hv10 v12 x_v12 hv12 t μ hR
    obtain ⟨M, rfl⟩ : ∃ M, N = M + 1 := ⟨N - 1, by omega⟩
    exact s_L_sound_L470_b (k470 := E_L_sound_L470 k4 n) (k470x := L_sound_L470 k4x M) hk4 (fun hv1 hv2 hv10 hv12 hR => ih M (by omega) hv1 hv2 hv10 hv12 hR) hv1 hv2 hv10 hv12 hR
set_option maxRecDepth 20000 in
theorem s_L_sound_B444 {c : Int} {μ0 : am_M} {k4 : Nat → Nat → e_T → e_O} {k4x : Int → Int → am_M → am_O} (hk4 : ∀ {u0 : Nat} {x0 : Int} {u1 : Nat} {x1 : Int} {t : e_T} {μ : am_M}, vr c u0 x0 → vr c u1 x1 → e_R c μ0 t μ → so c μ0 (k4 u0 u1 t) (k4x x0 x1 μ)) {v1 : Nat} {x_v1 : Int} (hv1 : vr c v1 x_v1) {v2 : Nat} {x_v2 : Int} (hv2 : vr c v2 x_v2) {v9 : Nat} {x_v9 : Int} (hv9 : vr c v9 x_v9) {t : e_T} {μ : am_M} (hR : e_R c μ0 t μ) : so c μ0 (E_L_sound_B444 k4 v1 v2 v9 t) (L_sound_B444 k4x x_v1 x_v2 x_v9 μ) := by
  unfold E_L_sound_B444 L_sound_B444
  exact so_bd (s_X_orders hv2 vl_20 hR) (fun a1 _ t2 _ ha1 hR2 =>
    so_bd (s_X_orders hv2 hv9 hR2) (fun a3 _ t4 _ ha3 hR4 =>
    so_ltc (vr_cmp ha1 ha3) vl_0 (so_ret vl_0 hR4)
    (s_L_sound_L470 hk4 4096 am_FU e_FU hv1 hv2 vl_0 vl_0 hR4)))
set_option maxRecDepth 20000 in
theorem s_L_sound_B382 {c : Int} {μ0 : am_M} {k4 : Nat → Nat → e_T → e_O} {k4x : Int → Int → am_M → am_O} (hk4 : ∀ {u0 : Nat} {x0 : Int} {u1 : Nat} {x1 : Int} {t : e_T} {μ : am_M}, vr c u0 x0 → vr c u1 x1 → e_R c μ0 t μ → so c μ0 (k4 u0 u1 t) (k4x x0 x1 μ)) {v1 : Nat} {x_v1 : Int} (hv1 : vr c v1 x_v1) {v2 : Nat} {x_v2 : Int} (hv2 : vr c v2 x_v2) {t : e_T} {μ : am_M} (hR : e_R c μ0 t μ) : so c μ0 (E_L_sound_B382 k4 v1 v2 t) (L_sound_B382 k4x x_v1 x_v2 μ) := by
  unfold E_L_sound_B382 L_sound_B382
  exact so_bd (s_X_plain hv2 hR) (fun a1 _ t2 _ ha1 hR2 =>
    so_eq ha1 vl_1 (so_bd (s_X_fewest hv2 hR2) (fun a7 _ t8 _ ha7 hR8 =>
    so_bd (s_X_asTold hv2 hR8) (fun a9 _ t10 _ ha9 hR10 =>
    so_lec ha7 ha9 (so_ltc ha7 vl_0 (so_ret vl_0 hR10)
    (so_bd (s_X_orders hv2 ha7 hR10) (fun a11 _ t12 _ ha11 hR12 =>
    so_ltc (vr_cmp ha11 vl_1) vl_0 (so_ret vl_0 hR12)
    (so_lec ha7 vl_0 (s_L_sound_B444 hk4 hv1 hv2 ha7 hR12)
    (so_F (vr_sub ha7 vl_1) (fun f1 hf1 => so_bd (s_X_orders hv2 hf1 hR12) (fun a13 _ t14 _ ha13 hR14 =>
    so_eq (vr_cmp ha13 vl_0) vl_0 (s_L_sound_B444 hk4 hv1 hv2 ha7 hR14)
    (so_ret vl_0 hR14))))))))
    (so_ret vl_0 hR10))))
    (so_bd (s_X_fewest hv2 hR2) (fun a3 _ t4 _ ha3 hR4 =>
    so_eq ha3 vl_m1 (so_bd (s_X_cheapest hv2 vl_1 vl_1 hR4) (fun a5 _ t6 _ ha5 hR6 =>
    so_eq (vr_cmp ha5 vl_m1) vl_0 (s_L_sound_B536 hk4 hv1 hv2 hR6)
    (so_ret vl_0 hR6)))
    (so_ret vl_0 hR4))))
set_option maxRecDepth 20000 in
theorem s_L_sound_L310_b {c : Int} {μ0 : am_M} {k4 : Nat → Nat → e_T → e_O} {k4x : Int → Int → am_M → am_O} (hk4 : ∀ {u0 : Nat} {x0 : Int} {u1 : Nat} {x1 : Int} {t : e_T} {μ : am_M}, vr c u0 x0 → vr c u1 x1 → e_R c μ0 t μ → so c μ0 (k4 u0 u1 t) (k4x x0 x1 μ)) {k310 : Nat → Nat → Nat → Nat → Nat → Nat → e_T → e_O} {k310x : Int → Int → Int → Int → Int → Int → am_M → am_O} (hk310 : ∀ {u0 : Nat} {x0 : Int} {u1 : Nat} {x1 : Int} {u2 : Nat} {x2 : Int} {u3 : Nat} {x3 : Int} {u4 : Nat} {x4 : Int} {u5 : Nat} {x5 : Int} {t : e_T} {μ : am_M}, vr c u0 x0 → vr c u1 x1 → vr c u2 x2 → vr c u3 x3 → vr c u4 x4 → vr c u5 x5 → e_R c μ0 t μ → so c μ0 (k310 u0 u1 u2 u3 u4 u5 t) (k310x x0 x1 x2 x3 x4 x5 μ)) {v1 : Nat} {x_v1 : Int} (hv1 : vr c v1 x_v1) {v2 : Nat} {x_v2 : Int} (hv2 : vr c v2 x_v2) {v6 : Nat} {x_v6 : Int} (hv6 : vr c v6 x_v6) {v7 : Nat} {x_v7 : Int} (hv7 : vr c v7 x_v7) {v8 : Nat} {x_v8 : Int} (hv8 : vr c v8 x_v8) {v9 : Nat} {x_v9 : Int} (hv9 : vr c v9 x_v9) {t : e_T} {μ : am_M} (hR : e_R c μ0 t μ) : so c μ0 (E_L_sound_L310_b k4 k310 v1 v2 v6 v7 v8 v9 t) (L_sound_L310_b k4x k310x x_v1 x_v2 x_v6 x_v7 x_v8 x_v9 μ) := by
  unfold E_L_sound_L310_b L_sound_L310_b
  exact so_bd (s_X_bill hv2 vl_3 hR) (fun a1 _ t2 _ ha1 hR2 =>
    so_ltc hv9 ha1 (so_bd (s_X_reads hv2 hv9 vl_0 hR2) (fun a3 _ t4 _ ha3 hR4 =>
    so_bd (s_X_reads hv2 hv9 vl_1 hR4) (fun a5 _ t6 _ ha5 hR6 =>
    so_lec ha3 ha5 (so_bd (s_X_reads hv2 hv9 vl_1 hR6) (fun a7 _ t8 _ ha7 hR8 =>
    so_F (vr_add hv8 ha7) (fun f1 hf1 => so_F (vr_add hv9 vl_1) (fun f2 hf2 => hk310 hv1 hv2 hv6 hv7 hf1 hf2 hR8))))
    (so_ret vl_0 hR6))))
    (so_lec hv8 hv7 (so_eq hv6 vl_0 (so_eq hv8 hv7 (s_L_sound_B382 hk4 hv1 hv2 hR2)
    (so_ret vl_0 hR2))
    (s_L_sound_B382 hk4 hv1 hv2 hR2))
    (so_ret vl_0 hR2)))
set_option maxRecDepth 20000 in
theorem s_L_sound_L310 {c : Int} {μ0 : am_M} {k4 : Nat → Nat → e_T → e_O} {k4x : Int → Int → am_M → am_O} (hk4 : ∀ {u0 : Nat} {x0 : Int} {u1 : Nat} {x1 : Int} {t : e_T} {μ : am_M}, vr c u0 x0 → vr c u1 x1 → e_R c μ0 t μ → so c μ0 (k4 u0 u1 t) (k4x x0 x1 μ)) : ∀ (n N : Nat), n ≤ N → ∀ {v1 : Nat} {x_v1 : Int} (hv1 : vr c v1 x_v1) {v2 : Nat} {x_v2 : Int} (hv2 : vr c v2 x_v2) {v6 : Nat} {x_v6 : Int} (hv6 : vr c v6 x_v6) {v7 : Nat} {x_v7 : Int} (hv7 : vr c v7 x_v7) {v8 : Nat} {x_v8 : Int} (hv8 : vr c v8 x_v8) {v9 : Nat} {x_v9 : Int} (hv9 : vr c v9 x_v9) {t : e_T} {μ : am_M} (hR : e_R c μ0 t μ), so c μ0 (E_L_sound_L310 k4 n v1 v2 v6 v7 v8 v9 t) (L_sound_L310 k4x N x_v1 x_v2 x_v6 x_v7 x_v8 x_v9 μ) := by
  intro n
  induction n with
  | zero => intros; exact so_none
  | succ n ih =>
    intro N hN v1 x_v1 hv1 v2 x_v2 hv2 v6 x_v6 hv6 v7 x_v7 hv7 v8 x_v8 hv8 v9 x_v9 hv9 t μ hR
    obtain ⟨M, rfl⟩ : ∃ M, N = M + 1 := ⟨N - 1, by omega⟩
    exact s_L_sound_L310_b (k310 := E_L_sound_L310 k4 n) (k310x := L_sound_L310 k4x M) hk4 (fun hv1 hv2 hv6 hv7 hv8 hv9 hR => ih M (by omega) hv1 hv2 hv6 hv7 hv8 hv9 hR) hv1 hv2 hv6 hv7 hv8 hv9 hR
set_option maxRecDepth 20000 in
theorem s_L_sound_B304 {c : Int} {μ0 : am_M} {k4 : Nat → Nat → e_T → e_O} {k4x : Int → Int → am_M → am_O} (hk4 : ∀ {u0 : Nat} {x0 : Int} {u1 : Nat} {x1 : Int} {t : e_T} {μ : am_M}, vr c u0 x0 → vr c u1 x1 → e_R c μ0 t μ → so c μ0 (k4 u0 u1 t) (k4x x0 x1 μ)) {v1 : Nat} {x_v1 : Int} (hv1 : vr c v1 x_v1) {v2 : Nat} {x_v2 : Int} (hv2 : vr c v2 x_v2) {v6 : Nat} {x_v6 : Int} (hv6 : vr c v6 x_v6) {v7 : Nat} {x_v7 : Int} (hv7 : vr c v7 x_v7) {t : e_T} {μ : am_M} (hR : e_R c μ0 t μ) : so c μ0 (E_L_sound_B304 k4 v1 v2 v6 v7 t) (L_sound_B304 k4x x_v1 x_v2 x_v6 x_v7 μ) := by
  unfold E_L_sound_B304 L_sound_B304
  exact s_L_sound_L310 hk4 4096 am_FU e_FU hv1 hv2 hv6 hv7 vl_0 vl_0 hR
set_option maxRecDepth 20000 in
theorem s_L_sound_B288 {c : Int} {μ0 : am_M} {k4 : Nat → Nat → e_T → e_O} {k4x : Int → Int → am_M → am_O} (hk4 : ∀ {u0 : Nat} {x0 : Int} {u1 : Nat} {x1 : Int} {t : e_T} {μ : am_M}, vr c u0 x0 → vr c u1 x1 → e_R c μ0 t μ → so c μ0 (k4 u0 u1 t) (k4x x0 x1 μ)) {v1 : Nat} {x_v1 : Int} (hv1 : vr c v1 x_v1) {v2 : Nat} {x_v2 : Int} (hv2 : vr c v2 x_v2) {v6 : Nat} {x_v6 : Int} (hv6 : vr c v6 x_v6) {v7 : Nat} {x_v7 : Int} (hv7 : vr c v7 x_v7) {t : e_T} {μ : am_M} (hR : e_R c μ0 t μ) : so c μ0 (E_L_sound_B288 k4 v1 v2 v6 v7 t) (L_sound_B288 k4x x_v1 x_v2 x_v6 x_v7 μ) := by
  unfold E_L_sound_B288 L_sound_B288
  exact so_bd (s_X_plain hv2 hR) (fun a1 _ t2 _ ha1 hR2 =>
    so_eq ha1 vl_1 (so_lec hv6 vl_0 (s_L_sound_B304 hk4 hv1 hv2 hv6 hv7 hR2)
    (so_ret vl_0 hR2))
    (s_L_sound_B304 hk4 hv1 hv2 hv6 hv7 hR2))
set_option maxRecDepth 20000 in
theorem s_L_sound_L232_b {c : Int} {μ0 : am_M} {k4 : Nat → Nat → e_T → e_O} {k4x : Int → Int → am_M → am_O} (hk4 : ∀ {u0 : Nat} {x0 : Int} {u1 : Nat} {x1 : Int} {t : e_T} {μ : am_M}, vr c u0 x0 → vr c u1 x1 → e_R c μ0 t μ → so c μ0 (k4 u0 u1 t) (k4x x0 x1 μ)) {k232 : Nat → Nat → Nat → Nat → Nat → Nat → Nat → e_T → e_O} {k232x : Int → Int → Int → Int → Int → Int → Int → am_M → am_O} (hk232 : ∀ {u0 : Nat} {x0 : Int} {u1 : Nat} {x1 : Int} {u2 : Nat} {x2 : Int} {u3 : Nat} {x3 : Int} {u4 : Nat} {x4 : Int} {u5 : Nat} {x5 : Int} {u6 : Nat} {x6 : Int} {t : e_T} {μ : am_M}, vr c u0 x0 → vr c u1 x1 → vr c u2 x2 → vr c u3 x3 → vr c u4 x4 → vr c u5 x5 → vr c u6 x6 → e_R c μ0 t μ → so c μ0 (k232 u0 u1 u2 u3 u4 u5 u6 t) (k232x x0 x1 x2 x3 x4 x5 x6 μ)) {v1 : Nat} {x_v1 : Int} (hv1 : vr c v1 x_v1) {v2 : Nat} {x_v2 : Int} (hv2 : vr c v2 x_v2) {v3 : Nat} {x_v3 : Int} (hv3 : vr c v3 x_v3) {v4 : Nat} {x_v4 : Int} (hv4 : vr c v4 x_v4) {v6 : Nat} {x_v6 : Int} (hv6 : vr c v6 x_v6) {v7 : Nat} {x_v7 : Int} (hv7 : vr c v7 x_v7) {v8 : Nat} {x_v8 : Int} (hv8 : vr c v8 x_v8) {t : e_T} {μ : am_M} (hR : e_R c μ0 t μ) : so c μ0 (E_L_sound_L232_b k4 k232 v1 v2 v3 v4 v6 v7 v8 t) (L_sound_L232_b k4x k232x x_v1 x_v2 x_v3 x_v4 x_v6 x_v7 x_v8 μ) := by
  unfold E_L_sound_L232_b L_sound_L232_b
  exact so_ltc hv8 (vr_add hv3 hv4) (so_bd (s_X_line hv8 vl_0 hR) (fun a3 _ t4 _ ha3 hR4 =>
    so_eq ha3 vl_5 (so_F (vr_add hv6 vl_1) (fun f1 hf1 => s_L_sound_B255 hk4 hk232 hv1 hv2 hv3 hv4 hf1 hv7 hv8 hR4))
    (s_L_sound_B255 hk4 hk232 hv1 hv2 hv3 hv4 hv6 hv7 hv8 hR4)))
    (so_eq hv6 vl_0 (so_bd (s_X_ways hv2 vl_0 hR) (fun a1 _ t2 _ ha1 hR2 =>
    so_eq ha1 vl_1 (s_L_sound_B288 hk4 hv1 hv2 hv6 hv7 hR2)
    (so_ret vl_0 hR2)))
    (s_L_sound_B288 hk4 hv1 hv2 hv6 hv7 hR))
set_option maxRecDepth 20000 in
theorem s_L_sound_L232 {c : Int} {μ0 : am_M} {k4 : Nat → Nat → e_T → e_O} {k4x : Int → Int → am_M → am_O} (hk4 : ∀ {u0 : Nat} {x0 : Int} {u1 : Nat} {x1 : Int} {t : e_T} {μ : am_M}, vr c u0 x0 → vr c u1 x1 → e_R c μ0 t μ → so c μ0 (k4 u0 u1 t) (k4x x0 x1 μ)) : ∀ (n N : Nat), n ≤ N → ∀ {v1 : Nat} {x_v1 : Int} (hv1 : vr c v1 x_v1) {v2 : Nat} {x_v2 : Int} (hv2 : vr c v2 x_v2) {v3 : Nat} {x_v3 : Int} (hv3 : vr c v3 x_v3) {v4 : Nat} {x_v4 : Int} (hv4 : vr c v4 x_v4) {v6 : Nat} {x_v6 : Int} (hv6 : vr c v6 x_v6) {v7 : Nat} {x_v7 : Int} (hv7 : vr c v7 x_v7) {v8 : Nat} {x_v8 : Int} (hv8 : vr c v8 x_v8) {t : e_T} {μ : am_M} (hR : e_R c μ0 t μ), so c μ0 (E_L_sound_L232 k4 n v1 v2 v3 v4 v6 v7 v8 t) (L_sound_L232 k4x N x_v1 x_v2 x_v3 x_v4 x_v6 x_v7 x_v8 μ) := by
  intro n
  induction n with
  | zero => intros; exact so_none
  | succ n ih =>
    intro N hN v1 x_v1 hv1 v2 x_v2 hv2 v3 x_v3 hv3 v4 x_v4 hv4 v6 x_v6 hv6 v7 x_v7 hv7 v8 x_v8 hv8 t μ hR
    obtain ⟨M, rfl⟩ : ∃ M, N = M + 1 := ⟨N - 1, by omega⟩
    exact s_L_sound_L232_b (k232 := E_L_sound_L232 k4 n) (k232x := L_sound_L232 k4x M) hk4 (fun hv1 hv2 hv3 hv4 hv6 hv7 hv8 hR => ih M (by omega) hv1 hv2 hv3 hv4 hv6 hv7 hv8 hR) hv1 hv2 hv3 hv4 hv6 hv7 hv8 hR
set_option maxRecDepth 20000 in
theorem s_L_sound_B150 {c : Int} {μ0 : am_M} {k4 : Nat → Nat → e_T → e_O} {k4x : Int → Int → am_M → am_O} (hk4 : ∀ {u0 : Nat} {x0 : Int} {u1 : Nat} {x1 : Int} {t : e_T} {μ : am_M}, vr c u0 x0 → vr c u1 x1 → e_R c μ0 t μ → so c μ0 (k4 u0 u1 t) (k4x x0 x1 μ)) {v1 : Nat} {x_v1 : Int} (hv1 : vr c v1 x_v1) {v2 : Nat} {x_v2 : Int} (hv2 : vr c v2 x_v2) {v3 : Nat} {x_v3 : Int} (hv3 : vr c v3 x_v3) {v4 : Nat} {x_v4 : Int} (hv4 : vr c v4 x_v4) {t : e_T} {μ : am_M} (hR : e_R c μ0 t μ) : so c μ0 (E_L_sound_B150 k4 v1 v2 v3 v4 t) (L_sound_B150 k4x x_v1 x_v2 x_v3 x_v4 μ) := by
  unfold E_L_sound_B150 L_sound_B150
  exact so_bd (s_X_ways hv2 vl_0 hR) (fun a1 _ t2 _ ha1 hR2 =>
    so_ltc ha1 vl_1 (so_ret vl_0 hR2)
    (so_bd (s_X_ways hv2 vl_1 hR2) (fun a3 _ t4 _ ha3 hR4 =>
    so_bd (s_X_ways hv2 vl_2 hR4) (fun a5 _ t6 _ ha5 hR6 =>
    so_ltc ha3 ha5 (so_ret vl_0 hR6)
    (so_bd (s_X_ways hv2 vl_1 hR6) (fun a7 _ t8 _ ha7 hR8 =>
    so_lec ha7 hv4 (so_bd (s_X_needs hv2 vl_0 hR8) (fun a9 _ t10 _ ha9 hR10 =>
    so_bd (s_X_needs hv2 vl_1 hR10) (fun a11 _ t12 _ ha11 hR12 =>
    so_lec ha9 ha11 (so_bd (s_X_needs hv2 vl_2 hR12) (fun a13 _ t14 _ ha13 hR14 =>
    so_bd (s_X_needs hv2 vl_3 hR14) (fun a15 _ t16 _ ha15 hR16 =>
    so_lec ha13 ha15 (so_F (vr_add hv1 hv4) (fun f1 hf1 => s_L_sound_L232 hk4 4096 am_FU e_FU hf1 hv2 hv3 hv4 vl_0 vl_0 hv3 hR16))
    (so_ret vl_0 hR16))))
    (so_ret vl_0 hR12))))
    (so_ret vl_0 hR8)))))))
set_option maxRecDepth 20000 in
theorem s_L_sound_B117 {c : Int} {μ0 : am_M} {k4 : Nat → Nat → e_T → e_O} {k4x : Int → Int → am_M → am_O} (hk4 : ∀ {u0 : Nat} {x0 : Int} {u1 : Nat} {x1 : Int} {t : e_T} {μ : am_M}, vr c u0 x0 → vr c u1 x1 → e_R c μ0 t μ → so c μ0 (k4 u0 u1 t) (k4x x0 x1 μ)) {v1 : Nat} {x_v1 : Int} (hv1 : vr c v1 x_v1) {v2 : Nat} {x_v2 : Int} (hv2 : vr c v2 x_v2) {v3 : Nat} {x_v3 : Int} (hv3 : vr c v3 x_v3) {v4 : Nat} {x_v4 : Int} (hv4 : vr c v4 x_v4) {v5 : Nat} {x_v5 : Int} (hv5 : vr c v5 x_v5) {s0 : Nat} {x_s0 : Int} (hs0 : vr c s0 x_s0) {s1 : Nat} {x_s1 : Int} (hs1 : vr c s1 x_s1) {t : e_T} {μ : am_M} (hR : e_R c μ0 t μ) : so c μ0 (E_L_sound_B117 k4 v1 v2 v3 v4 v5 s0 s1 t) (L_sound_B117 k4x x_v1 x_v2 x_v3 x_v4 x_v5 x_s0 x_s1 μ) := by
  unfold E_L_sound_B117 L_sound_B117
  exact so_eq hs0 hs1 (so_lec hv5 vl_0 (s_L_sound_B150 hk4 hv1 hv2 hv3 hv4 hR)
    (so_bd (s_X_check hv2 vl_1 hR) (fun a1 _ t2 _ ha1 hR2 =>
    so_ltc ha1 hv3 (so_ret vl_0 hR2)
    (so_bd (s_X_check hv2 vl_1 hR2) (fun a3 _ t4 _ ha3 hR4 =>
    so_ltc ha3 (vr_add hv3 hv4) (s_L_sound_B150 hk4 hv1 hv2 hv3 hv4 hR4)
    (so_ret vl_0 hR4))))))
    (so_ret vl_0 hR)
set_option maxRecDepth 20000 in
theorem s_L_sound_B103 {c : Int} {μ0 : am_M} {k4 : Nat → Nat → e_T → e_O} {k4x : Int → Int → am_M → am_O} (hk4 : ∀ {u0 : Nat} {x0 : Int} {u1 : Nat} {x1 : Int} {t : e_T} {μ : am_M}, vr c u0 x0 → vr c u1 x1 → e_R c μ0 t μ → so c μ0 (k4 u0 u1 t) (k4x x0 x1 μ)) {v1 : Nat} {x_v1 : Int} (hv1 : vr c v1 x_v1) {v2 : Nat} {x_v2 : Int} (hv2 : vr c v2 x_v2) {v3 : Nat} {x_v3 : Int} (hv3 : vr c v3 x_v3) {v4 : Nat} {x_v4 : Int} (hv4 : vr c v4 x_v4) {v5 : Nat} {x_v5 : Int} (hv5 : vr c v5 x_v5) {s0 : Nat} {x_s0 : Int} (hs0 : vr c s0 x_s0) {t : e_T} {μ : am_M} (hR : e_R c μ0 t μ) : so c μ0 (E_L_sound_B103 k4 v1 v2 v3 v4 v5 s0 t) (L_sound_B103 k4x x_v1 x_v2 x_v3 x_v4 x_v5 x_s0 μ) := by
  unfold E_L_sound_B103 L_sound_B103
  exact so_bd (s_X_check hv2 vl_1 hR) (fun a1 _ t2 _ ha1 hR2 =>
    so_ltc ha1 vl_0 (s_L_sound_B117 hk4 hv1 hv2 hv3 hv4 hv5 hs0 vl_1 hR2)
    (s_L_sound_B117 hk4 hv1 hv2 hv3 hv4 hv5 hs0 vl_0 hR2))
set_option maxRecDepth 20000 in
theorem s_L_sound_B57 {c : Int} {μ0 : am_M} {k4 : Nat → Nat → e_T → e_O} {k4x : Int → Int → am_M → am_O} (hk4 : ∀ {u0 : Nat} {x0 : Int} {u1 : Nat} {x1 : Int} {t : e_T} {μ : am_M}, vr c u0 x0 → vr c u1 x1 → e_R c μ0 t μ → so c μ0 (k4 u0 u1 t) (k4x x0 x1 μ)) {v1 : Nat} {x_v1 : Int} (hv1 : vr c v1 x_v1) {v2 : Nat} {x_v2 : Int} (hv2 : vr c v2 x_v2) {v3 : Nat} {x_v3 : Int} (hv3 : vr c v3 x_v3) {v4 : Nat} {x_v4 : Int} (hv4 : vr c v4 x_v4) {v5 : Nat} {x_v5 : Int} (hv5 : vr c v5 x_v5) {s0 : Nat} {x_s0 : Int} (hs0 : vr c s0 x_s0) {s1 : Nat} {x_s1 : Int} (hs1 : vr c s1 x_s1) {t : e_T} {μ : am_M} (hR : e_R c μ0 t μ) : so c μ0 (E_L_sound_B57 k4 v1 v2 v3 v4 v5 s0 s1 t) (L_sound_B57 k4x x_v1 x_v2 x_v3 x_v4 x_v5 x_s0 x_s1 μ) := by
  unfold E_L_sound_B57 L_sound_B57
  exact so_eq hs0 hs1 (so_bd (s_X_bill hv2 vl_5 hR) (fun a1 _ t2 _ ha1 hR2 =>
    so_bd (s_X_bill hv2 vl_4 hR2) (fun a3 _ t4 _ ha3 hR4 =>
    so_lec ha1 ha3 (so_F (vr_sub (vr_add hv3 hv4) vl_1) (fun f1 hf1 => so_bd (s_X_line hf1 vl_0 hR4) (fun a5 _ t6 _ ha5 hR6 =>
    so_eq ha5 vl_8 (so_eq hv5 vl_0 (s_L_sound_B103 hk4 hv1 hv2 hv3 hv4 hv5 vl_1 hR6)
    (s_L_sound_B103 hk4 hv1 hv2 hv3 hv4 hv5 vl_0 hR6))
    (so_ret vl_0 hR6))))
    (so_ret vl_0 hR4))))
    (so_ret vl_0 hR)
set_option maxRecDepth 20000 in
theorem s_L_sound_B580 {c : Int} {μ0 : am_M} {s0 : Nat} {x_s0 : Int} (hs0 : vr c s0 x_s0) {s1 : Nat} {x_s1 : Int} (hs1 : vr c s1 x_s1) {t : e_T} {μ : am_M} (hR : e_R c μ0 t μ) : so c μ0 (E_L_sound_B580 s0 s1 t) (L_sound_B580 x_s0 x_s1 μ) := by
  unfold E_L_sound_B580 L_sound_B580
  exact so_eq hs0 hs1 (so_bd (s_X_machine vl_2 hR) (fun a1 _ t2 _ ha1 hR2 =>
    so_bd (s_X_machine vl_3 hR2) (fun a3 _ t4 _ ha3 hR4 =>
    so_lec ha1 ha3 (so_bd (s_X_machine vl_7 hR4) (fun a5 _ t6 _ ha5 hR6 =>
    so_lec ha5 vl_16 (so_ret vl_1 hR6)
    (so_ret vl_0 hR6)))
    (so_ret vl_0 hR4))))
    (so_ret vl_0 hR)
set_option maxRecDepth 20000 in
theorem s_L_sound_B567 {c : Int} {μ0 : am_M} {s0 : Nat} {x_s0 : Int} (hs0 : vr c s0 x_s0) {t : e_T} {μ : am_M} (hR : e_R c μ0 t μ) : so c μ0 (E_L_sound_B567 s0 t) (L_sound_B567 x_s0 μ) := by
  unfold E_L_sound_B567 L_sound_B567
  exact so_bd (s_X_machine vl_1 hR) (fun a1 _ t2 _ ha1 hR2 =>
    so_ltc ha1 vl_0 (s_L_sound_B580 hs0 vl_0 hR2)
    (s_L_sound_B580 hs0 vl_1 hR2))
set_option maxRecDepth 20000 in
theorem s_L_sound_L4_b {c : Int} {μ0 : am_M} {k4 : Nat → Nat → e_T → e_O} {k4x : Int → Int → am_M → am_O} (hk4 : ∀ {u0 : Nat} {x0 : Int} {u1 : Nat} {x1 : Int} {t : e_T} {μ : am_M}, vr c u0 x0 → vr c u1 x1 → e_R c μ0 t μ → so c μ0 (k4 u0 u1 t) (k4x x0 x1 μ)) {v1 : Nat} {x_v1 : Int} (hv1 : vr c v1 x_v1) {v2 : Nat} {x_v2 : Int} (hv2 : vr c v2 x_v2) {t : e_T} {μ : am_M} (hR : e_R c μ0 t μ) : so c μ0 (E_L_sound_L4_b k4 v1 v2 t) (L_sound_L4_b k4x x_v1 x_v2 μ) := by
  unfold E_L_sound_L4_b L_sound_L4_b
  exact so_bd (s_X_count vl_1 hR) (fun a1 _ t2 _ ha1 hR2 =>
    so_ltc hv2 ha1 (so_bd (s_X_bill hv2 vl_0 hR2) (fun a7 _ t8 _ ha7 hR8 =>
    so_bd (s_X_bill hv2 vl_1 hR8) (fun a9 _ t10 _ ha9 hR10 =>
    so_bd (s_X_check hv2 vl_0 hR10) (fun a11 _ t12 _ ha11 hR12 =>
    so_eq ha7 hv1 (so_bd (s_X_bill hv2 vl_4 hR12) (fun a13 _ t14 _ ha13 hR14 =>
    so_eq ha11 vl_0 (s_L_sound_B57 hk4 hv1 hv2 ha7 ha9 ha11 ha13 vl_1 hR14)
    (s_L_sound_B57 hk4 hv1 hv2 ha7 ha9 ha11 ha13 vl_0 hR14)))
    (so_ret vl_0 hR12)))))
    (so_bd (s_X_machine vl_0 hR2) (fun a3 _ t4 _ ha3 hR4 =>
    so_bd (s_X_count vl_2 hR4) (fun a5 _ t6 _ ha5 hR6 =>
    so_eq hv1 ha5 (so_eq ha3 vl_1 (s_L_sound_B567 vl_1 hR6)
    (s_L_sound_B567 vl_0 hR6))
    (so_ret vl_0 hR6)))))
set_option maxRecDepth 20000 in
theorem s_L_sound_L4 {c : Int} {μ0 : am_M} : ∀ (n N : Nat), n ≤ N → ∀ {v1 : Nat} {x_v1 : Int} (hv1 : vr c v1 x_v1) {v2 : Nat} {x_v2 : Int} (hv2 : vr c v2 x_v2) {t : e_T} {μ : am_M} (hR : e_R c μ0 t μ), so c μ0 (E_L_sound_L4 n v1 v2 t) (L_sound_L4 N x_v1 x_v2 μ) := by
  intro n
  induction n with
  | zero => intros; exact so_none
  | succ n ih =>
    intro N hN v1 x_v1 hv1 v2 x_v2 hv2 t μ hR
    obtain ⟨M, rfl⟩ : ∃ M, N = M + 1 := ⟨N - 1, by omega⟩
    exact s_L_sound_L4_b (k4 := E_L_sound_L4 n) (k4x := L_sound_L4 M) (fun hv1 hv2 hR => ih M (by omega) hv1 hv2 hR) hv1 hv2 hR
set_option maxRecDepth 20000 in
theorem s_L_sound {c : Int} {μ0 : am_M}  {t : e_T} {μ : am_M} (hR : e_R c μ0 t μ) : so c μ0 (E_L_sound t) (L_sound μ) := by
  unfold E_L_sound L_sound
  exact s_L_sound_L4 4096 am_FU e_FU vl_0 vl_0 hR
set_option maxRecDepth 20000 in
theorem s_L_act_B156 {c : Int} {μ0 : am_M} {s0 : Nat} {x_s0 : Int} (hs0 : vr c s0 x_s0) {s1 : Nat} {x_s1 : Int} (hs1 : vr c s1 x_s1) {t : e_T} {μ : am_M} (hR : e_R c μ0 t μ) : so c μ0 (E_L_act_B156 s0 s1 t) (L_act_B156 x_s0 x_s1 μ) := by
  unfold E_L_act_B156 L_act_B156
  exact so_eq hs0 hs1 (so_ret vl_1 hR)
    (so_ret vl_0 hR)
set_option maxRecDepth 20000 in
theorem s_L_act_B126 {c : Int} {μ0 : am_M} {v3 : Nat} {x_v3 : Int} (hv3 : vr c v3 x_v3) {v4 : Nat} {x_v4 : Int} (hv4 : vr c v4 x_v4) {v5 : Nat} {x_v5 : Int} (hv5 : vr c v5 x_v5) {t : e_T} {μ : am_M} (hR : e_R c μ0 t μ) : so c μ0 (E_L_act_B126 v3 v4 v5 t) (L_act_B126 x_v3 x_v4 x_v5 μ) := by
  unfold E_L_act_B126 L_act_B126
  exact so_F (vr_rem hv3 vl_9) (fun f1 hf1 => so_bd (s_X_begin hv5 hf1 hv4 vl_1 vl_1 hR) (fun a1 _ t2 _ ha1 hR2 =>
    so_bd (s_X_bill hv5 vl_5 hR2) (fun a3 _ t4 _ ha3 hR4 =>
    so_eq ha3 vl_1 (s_L_act_B156 ha1 vl_1 hR4)
    (s_L_act_B156 ha1 vl_0 hR4))))
set_option maxRecDepth 20000 in
theorem s_L_act_B216 {c : Int} {μ0 : am_M} {v3 : Nat} {x_v3 : Int} (hv3 : vr c v3 x_v3) {v7 : Nat} {x_v7 : Int} (hv7 : vr c v7 x_v7) {v8 : Nat} {x_v8 : Int} (hv8 : vr c v8 x_v8) {v9 : Nat} {x_v9 : Int} (hv9 : vr c v9 x_v9) {t : e_T} {μ : am_M} (hR : e_R c μ0 t μ) : so c μ0 (E_L_act_B216 v3 v7 v8 v9 t) (L_act_B216 x_v3 x_v7 x_v8 x_v9 μ) := by
  unfold E_L_act_B216 L_act_B216
  exact so_bd (s_X_machine vl_6 hR) (fun a1 _ t2 _ ha1 hR2 =>
    so_eq ha1 (vr_add hv7 hv9) (so_bd (s_X_machine vl_4 hR2) (fun a3 _ t4 _ ha3 hR4 =>
    so_ltc ha3 hv8 (so_ret vl_0 hR4)
    (so_eq hv9 hv3 (so_ret vl_1 hR4)
    (so_bd (s_X_machine vl_0 hR4) (fun a5 _ t6 _ ha5 hR6 =>
    so_eq ha5 vl_1 (so_ret vl_0 hR6)
    (so_ret vl_1 hR6))))))
    (so_ret vl_0 hR2))
set_option maxRecDepth 20000 in
theorem s_L_act_B165 {c : Int} {μ0 : am_M} {v3 : Nat} {x_v3 : Int} (hv3 : vr c v3 x_v3) {t : e_T} {μ : am_M} (hR : e_R c μ0 t μ) : so c μ0 (E_L_act_B165 v3 t) (L_act_B165 x_v3 μ) := by
  unfold E_L_act_B165 L_act_B165
  exact so_bd (s_X_machine vl_0 hR) (fun a1 _ t2 _ ha1 hR2 =>
    so_bd (s_X_machine vl_6 hR2) (fun a3 _ t4 _ ha3 hR4 =>
    so_bd (s_X_machine vl_4 hR4) (fun a5 _ t6 _ ha5 hR6 =>
    so_bd (s_X_run hv3 hR6) (fun a7 _ t8 _ ha7 hR8 =>
    so_ltc ha7 vl_0 (so_ret vl_0 hR8)
    (so_lec ha7 hv3 (so_eq ha1 vl_1 (s_L_act_B216 hv3 ha3 ha5 ha7 hR8)
    (so_lec ha7 vl_0 (s_L_act_B216 hv3 ha3 ha5 ha7 hR8)
    (so_ret vl_0 hR8)))
    (so_ret vl_0 hR8))))))
set_option maxRecDepth 20000 in
theorem s_L_act_B263 {c : Int} {μ0 : am_M} {v2 : Nat} {x_v2 : Int} (hv2 : vr c v2 x_v2) {t : e_T} {μ : am_M} (hR : e_R c μ0 t μ) : so c μ0 (E_L_act_B263 v2 t) (L_act_B263 x_v2 μ) := by
  unfold E_L_act_B263 L_act_B263
  exact so_F (vr_add vl_1 hv2) (fun f1 hf1 => so_bd (s_X_room hf1 hR) (fun a1 _ t2 _ ha1 hR2 =>
    so_eq ha1 vl_0 (so_ret vl_0 hR2)
    (so_bd (s_X_count vl_3 hR2) (fun a3 _ t4 _ ha3 hR4 =>
    so_eq ha3 (vr_add vl_1 hv2) (so_ret vl_1 hR4)
    (so_ret vl_0 hR4)))))
set_option maxRecDepth 20000 in
theorem s_L_act_B290 {c : Int} {μ0 : am_M} {v3 : Nat} {x_v3 : Int} (hv3 : vr c v3 x_v3) {t : e_T} {μ : am_M} (hR : e_R c μ0 t μ) : so c μ0 (E_L_act_B290 v3 t) (L_act_B290 x_v3 μ) := by
  unfold E_L_act_B290 L_act_B290
  exact so_bd (s_X_price hv3 hR) (fun a1 _ t2 _ ha1 hR2 =>
    so_eq ha1 vl_0 (so_ret vl_0 hR2)
    (so_bd (s_X_count vl_4 hR2) (fun a3 _ t4 _ ha3 hR4 =>
    so_eq ha3 hv3 (so_ret vl_1 hR4)
    (so_ret vl_0 hR4))))
set_option maxRecDepth 20000 in
theorem s_L_act_B358 {c : Int} {μ0 : am_M} {v5 : Nat} {x_v5 : Int} (hv5 : vr c v5 x_v5) {t : e_T} {μ : am_M} (hR : e_R c μ0 t μ) : so c μ0 (E_L_act_B358 v5 t) (L_act_B358 x_v5 μ) := by
  unfold E_L_act_B358 L_act_B358
  exact so_bd (s_X_bill hv5 vl_5 hR) (fun a1 _ t2 _ ha1 hR2 =>
    so_eq ha1 vl_0 (so_ret vl_1 hR2)
    (so_ret vl_0 hR2))
set_option maxRecDepth 20000 in
theorem s_L_act_B553 {c : Int} {μ0 : am_M}  {t : e_T} {μ : am_M} (hR : e_R c μ0 t μ) : so c μ0 (E_L_act_B553 t) (L_act_B553 μ) := by
  unfold E_L_act_B553 L_act_B553
  exact so_bd (s_X_run vl_1001 hR) (fun a1 _ t2 _ ha1 hR2 =>
    so_eq ha1 vl_m1 (so_bd (s_X_count vl_1 hR2) (fun a3 _ t4 _ ha3 hR4 =>
    so_bd (s_X_begin ha3 vl_0 vl_0 vl_0 vl_0 hR4) (fun a5 _ t6 _ ha5 hR6 =>
    so_eq ha5 vl_0 (so_bd (s_X_room vl_0 hR6) (fun a7 _ t8 _ ha7 hR8 =>
    so_eq ha7 vl_0 (so_bd (s_X_price vl_m1 hR8) (fun a9 _ t10 _ ha9 hR10 =>
    so_eq ha9 vl_0 (so_ret vl_1 hR10)
    (so_ret vl_0 hR10)))
    (so_ret vl_0 hR8)))
    (so_ret vl_0 hR6))))
    (so_ret vl_0 hR2))
set_option maxRecDepth 20000 in
theorem s_L_act_B677 {c : Int} {μ0 : am_M} {k643 : Nat → Nat → Nat → Nat → e_T → e_O} {k643x : Int → Int → Int → Int → am_M → am_O} (hk643 : ∀ {u0 : Nat} {x0 : Int} {u1 : Nat} {x1 : Int} {u2 : Nat} {x2 : Int} {u3 : Nat} {x3 : Int} {t : e_T} {μ : am_M}, vr c u0 x0 → vr c u1 x1 → vr c u2 x2 → vr c u3 x3 → e_R c μ0 t μ → so c μ0 (k643 u0 u1 u2 u3 t) (k643x x0 x1 x2 x3 μ)) {v5 : Nat} {x_v5 : Int} (hv5 : vr c v5 x_v5) {v6 : Nat} {x_v6 : Int} (hv6 : vr c v6 x_v6) {v7 : Nat} {x_v7 : Int} (hv7 : vr c v7 x_v7) {v8 : Nat} {x_v8 : Int} (hv8 : vr c v8 x_v8) {t : e_T} {μ : am_M} (hR : e_R c μ0 t μ) : so c μ0 (E_L_act_B677 k643 v5 v6 v7 v8 t) (L_act_B677 k643x x_v5 x_v6 x_v7 x_v8 μ) := by
  unfold E_L_act_B677 L_act_B677
  exact so_F (vr_add hv8 vl_1) (fun f1 hf1 => hk643 hv5 hv6 hv7 hf1 hR)
set_option maxRecDepth 20000 in
theorem s_L_act_L686_b {c : Int} {μ0 : am_M} {k686 : Nat → Nat → Nat → Nat → e_T → e_O} {k686x : Int → Int → Int → Int → am_M → am_O} (hk686 : ∀ {u0 : Nat} {x0 : Int} {u1 : Nat} {x1 : Int} {u2 : Nat} {x2 : Int} {u3 : Nat} {x3 : Int} {t : e_T} {μ : am_M}, vr c u0 x0 → vr c u1 x1 → vr c u2 x2 → vr c u3 x3 → e_R c μ0 t μ → so c μ0 (k686 u0 u1 u2 u3 t) (k686x x0 x1 x2 x3 μ)) {v5 : Nat} {x_v5 : Int} (hv5 : vr c v5 x_v5) {v6 : Nat} {x_v6 : Int} (hv6 : vr c v6 x_v6) {v7 : Nat} {x_v7 : Int} (hv7 : vr c v7 x_v7) {v8 : Nat} {x_v8 : Int} (hv8 : vr c v8 x_v8) {t : e_T} {μ : am_M} (hR : e_R c μ0 t μ) : so c μ0 (E_L_act_L686_b k686 v5 v6 v7 v8 t) (L_act_L686_b k686x x_v5 x_v6 x_v7 x_v8 μ) := by
  unfold E_L_act_L686_b L_act_L686_b
  exact so_ltc hv8 hv6 (so_bd (s_X_order hv5 hv8 hR) (fun a3 _ t4 _ ha3 hR4 =>
    so_F (vr_or hv7 (vr_shl vl_1 ha3)) (fun f1 hf1 => so_F (vr_add hv8 vl_1) (fun f2 hf2 => hk686 hv5 hv6 hf1 hf2 hR4))))
    (so_eq hv7 (vr_sub (vr_shl vl_1 hv6) vl_1) (so_bd (s_X_order hv5 hv6 hR) (fun a1 _ t2 _ ha1 hR2 =>
    so_eq ha1 vl_m1 (so_ret vl_1 hR2)
    (so_ret vl_0 hR2)))
    (so_ret vl_0 hR))
set_option maxRecDepth 20000 in
theorem s_L_act_L686 {c : Int} {μ0 : am_M} : ∀ (n N : Nat), n ≤ N → ∀ {v5 : Nat} {x_v5 : Int} (hv5 : vr c v5 x_v5) {v6 : Nat} {x_v6 : Int} (hv6 : vr c v6 x_v6) {v7 : Nat} {x_v7 : Int} (hv7 : vr c v7 x_v7) {v8 : Nat} {x_v8 : Int} (hv8 : vr c v8 x_v8) {t : e_T} {μ : am_M} (hR : e_R c μ0 t μ), so c μ0 (E_L_act_L686 n v5 v6 v7 v8 t) (L_act_L686 N x_v5 x_v6 x_v7 x_v8 μ) := by
  intro n
  induction n with
  | zero => intros; exact so_none
  | succ n ih =>
    intro N hN v5 x_v5 hv5 v6 x_v6 hv6 v7 x_v7 hv7 v8 x_v8 hv8 t μ hR
    obtain ⟨M, rfl⟩ : ∃ M, N = M + 1 := ⟨N - 1, by omega⟩
    exact s_L_act_L686_b (k686 := E_L_act_L686 n) (k686x := L_act_L686 M) (fun hv5 hv6 hv7 hv8 hR => ih M (by omega) hv5 hv6 hv7 hv8 hR) hv5 hv6 hv7 hv8 hR
set_option maxRecDepth 20000 in
theorem s_L_act_L643_b {c : Int} {μ0 : am_M} {k643 : Nat → Nat → Nat → Nat → e_T → e_O} {k643x : Int → Int → Int → Int → am_M → am_O} (hk643 : ∀ {u0 : Nat} {x0 : Int} {u1 : Nat} {x1 : Int} {u2 : Nat} {x2 : Int} {u3 : Nat} {x3 : Int} {t : e_T} {μ : am_M}, vr c u0 x0 → vr c u1 x1 → vr c u2 x2 → vr c u3 x3 → e_R c μ0 t μ → so c μ0 (k643 u0 u1 u2 u3 t) (k643x x0 x1 x2 x3 μ)) {v5 : Nat} {x_v5 : Int} (hv5 : vr c v5 x_v5) {v6 : Nat} {x_v6 : Int} (hv6 : vr c v6 x_v6) {v7 : Nat} {x_v7 : Int} (hv7 : vr c v7 x_v7) {v8 : Nat} {x_v8 : Int} (hv8 : vr c v8 x_v8) {t : e_T} {μ : am_M} (hR : e_R c μ0 t μ) : so c μ0 (E_L_act_L643_b k643 v5 v6 v7 v8 t) (L_act_L643_b k643x x_v5 x_v6 x_v7 x_v8 μ) := by
  unfold E_L_act_L643_b L_act_L643_b
  exact so_bd (s_X_bill hv5 vl_0 hR) (fun a1 _ t2 _ ha1 hR2 =>
    so_bd (s_X_bill hv5 vl_1 hR2) (fun a3 _ t4 _ ha3 hR4 =>
    so_ltc hv8 (vr_add ha1 ha3) (so_bd (s_X_line hv8 vl_0 hR4) (fun a5 _ t6 _ ha5 hR6 =>
    so_eq ha5 vl_1 (so_F (vr_add hv6 vl_1) (fun f1 hf1 => s_L_act_B677 hk643 hv5 hf1 hv7 hv8 hR6))
    (s_L_act_B677 hk643 hv5 hv6 hv7 hv8 hR6)))
    (s_L_act_L686 4096 am_FU e_FU hv5 hv6 hv7 vl_0 hR4)))
set_option maxRecDepth 20000 in
theorem s_L_act_L643 {c : Int} {μ0 : am_M} : ∀ (n N : Nat), n ≤ N → ∀ {v5 : Nat} {x_v5 : Int} (hv5 : vr c v5 x_v5) {v6 : Nat} {x_v6 : Int} (hv6 : vr c v6 x_v6) {v7 : Nat} {x_v7 : Int} (hv7 : vr c v7 x_v7) {v8 : Nat} {x_v8 : Int} (hv8 : vr c v8 x_v8) {t : e_T} {μ : am_M} (hR : e_R c μ0 t μ), so c μ0 (E_L_act_L643 n v5 v6 v7 v8 t) (L_act_L643 N x_v5 x_v6 x_v7 x_v8 μ) := by
  intro n
  induction n with
  | zero => intros; exact so_none
  | succ n ih =>
    intro N hN v5 x_v5 hv5 v6 x_v6 hv6 v7 x_v7 hv7 v8 x_v8 hv8 t μ hR
    obtain ⟨M, rfl⟩ : ∃ M, N = M + 1 := ⟨N - 1, by omega⟩
    exact s_L_act_L643_b (k643 := E_L_act_L643 n) (k643x := L_act_L643 M) (fun hv5 hv6 hv7 hv8 hR => ih M (by omega) hv5 hv6 hv7 hv8 hR) hv5 hv6 hv7 hv8 hR
set_option maxRecDepth 20000 in
theorem s_L_act_B602 {c : Int} {μ0 : am_M} {v5 : Nat} {x_v5 : Int} (hv5 : vr c v5 x_v5) {t : e_T} {μ : am_M} (hR : e_R c μ0 t μ) : so c μ0 (E_L_act_B602 v5 t) (L_act_B602 x_v5 μ) := by
  unfold E_L_act_B602 L_act_B602
  exact so_bd (s_X_plain hv5 hR) (fun a1 _ t2 _ ha1 hR2 =>
    so_eq ha1 vl_0 (so_bd (s_X_order hv5 vl_0 hR2) (fun a5 _ t6 _ ha5 hR6 =>
    so_eq ha5 vl_m1 (so_ret vl_1 hR6)
    (so_ret vl_0 hR6)))
    (so_bd (s_X_bill hv5 vl_0 hR2) (fun a3 _ t4 _ ha3 hR4 =>
    s_L_act_L643 4096 am_FU e_FU hv5 vl_0 vl_0 ha3 hR4)))
