/-! What the evaluator says holds of the functions. Printed by program. -/
set_option maxRecDepth 20000 in
theorem s_Or_leastCoin_L134_b {c : Int} {μ0 : am_M} {k115 : Nat → Nat → e_T → e_O} {k115x : Int → Int → am_M → am_O} (hk115 : ∀ {u0 : Nat} {x0 : Int} {u1 : Nat} {x1 : Int} {t : e_T} {μ : am_M}, vr c u0 x0 → vr c u1 x1 → e_R c μ0 t μ → so c μ0 (k115 u0 u1 t) (k115x x0 x1 μ)) {k134 : Nat → Nat → Nat → Nat → e_T → e_O} {k134x : Int → Int → Int → Int → am_M → am_O} (hk134 : ∀ {u0 : Nat} {x0 : Int} {u1 : Nat} {x1 : Int} {u2 : Nat} {x2 : Int} {u3 : Nat} {x3 : Int} {t : e_T} {μ : am_M}, vr c u0 x0 → vr c u1 x1 → vr c u2 x2 → vr c u3 x3 → e_R c μ0 t μ → so c μ0 (k134 u0 u1 u2 u3 t) (k134x x0 x1 x2 x3 μ)) {v3 : Nat} {x_v3 : Int} (hv3 : vr c v3 x_v3) {v5 : Nat} {x_v5 : Int} (hv5 : vr c v5 x_v5) {v6 : Nat} {x_v6 : Int} (hv6 : vr c v6 x_v6) {v7 : Nat} {x_v7 : Int} (hv7 : vr c v7 x_v7) {t : e_T} {μ : am_M} (hR : e_R c μ0 t μ) : so c μ0 (E_Or_leastCoin_L134_b k115 k134 v3 v5 v6 v7 t) (Or_leastCoin_L134_b k115x k134x x_v3 x_v5 x_v6 x_v7 μ) := by
  unfold E_Or_leastCoin_L134_b Or_leastCoin_L134_b
  exact so_lec hv7 (vr_rk hR (x := 60) (y := 8) rfl) (so_bd (s_Or_standing hv7 hv5 hR) (fun a4 _ t5 _ ha4 hR5 =>
    so_F (vr_add hv6 ha4) (fun f1 hf1 => so_F (vr_add hv7 vl_1) (fun f2 hf2 => hk134 hv3 hv5 hf1 hf2 hR5))))
    (so_lt (vr_max vl_0 (vr_sub hv6 vl_1)) (fun a1 _ ha1 =>
    so_bd (s_X_at vl_64 hv5 hR) (fun a2 _ t3 _ ha2 hR3 =>
    so_F (vr_add6 hv3 (vr_mul6 ha1 ha2)) (fun f3 hf3 => so_F (vr_add hv5 vl_1) (fun f4 hf4 => hk115 hf3 hf4 hR3)))))
set_option maxRecDepth 20000 in
theorem s_Or_leastCoin_L134 {c : Int} {μ0 : am_M} {k115 : Nat → Nat → e_T → e_O} {k115x : Int → Int → am_M → am_O} (hk115 : ∀ {u0 : Nat} {x0 : Int} {u1 : Nat} {x1 : Int} {t : e_T} {μ : am_M}, vr c u0 x0 → vr c u1 x1 → e_R c μ0 t μ → so c μ0 (k115 u0 u1 t) (k115x x0 x1 μ)) : ∀ (n N : Nat), n ≤ N → ∀ {v3 : Nat} {x_v3 : Int} (hv3 : vr c v3 x_v3) {v5 : Nat} {x_v5 : Int} (hv5 : vr c v5 x_v5) {v6 : Nat} {x_v6 : Int} (hv6 : vr c v6 x_v6) {v7 : Nat} {x_v7 : Int} (hv7 : vr c v7 x_v7) {t : e_T} {μ : am_M} (hR : e_R c μ0 t μ), so c μ0 (E_Or_leastCoin_L134 k115 n v3 v5 v6 v7 t) (Or_leastCoin_L134 k115x N x_v3 x_v5 x_v6 x_v7 μ) := by
  intro n
  induction n with
  | zero => intros; exact so_none
  | succ n ih =>
    intro N hN v3 x_v3 hv3 v5 x_v5 hv5 v6 x_v6 hv6 v7 x_v7 hv7 t μ hR
    obtain ⟨M, rfl⟩ : ∃ M, N = M + 1 := ⟨N - 1, by omega⟩
    exact s_Or_leastCoin_L134_b (k134 := E_Or_leastCoin_L134 k115 n) (k134x := Or_leastCoin_L134 k115x M) hk115 (fun hv3 hv5 hv6 hv7 hR => ih M (by omega) hv3 hv5 hv6 hv7 hR) hv3 hv5 hv6 hv7 hR
set_option maxRecDepth 20000 in
theorem s_Or_leastCoin_L115_b {c : Int} {μ0 : am_M} {k115 : Nat → Nat → e_T → e_O} {k115x : Int → Int → am_M → am_O} (hk115 : ∀ {u0 : Nat} {x0 : Int} {u1 : Nat} {x1 : Int} {t : e_T} {μ : am_M}, vr c u0 x0 → vr c u1 x1 → e_R c μ0 t μ → so c μ0 (k115 u0 u1 t) (k115x x0 x1 μ)) {v3 : Nat} {x_v3 : Int} (hv3 : vr c v3 x_v3) {v5 : Nat} {x_v5 : Int} (hv5 : vr c v5 x_v5) {t : e_T} {μ : am_M} (hR : e_R c μ0 t μ) : so c μ0 (E_Or_leastCoin_L115_b k115 v3 v5 t) (Or_leastCoin_L115_b k115x x_v3 x_v5 μ) := by
  unfold E_Or_leastCoin_L115_b Or_leastCoin_L115_b
  exact so_F (vr_rk hR (x := 60) (y := 8) rfl) (fun f1 hf1 => so_bd (s_Or_slipOf hf1 hR) (fun a1 _ t2 _ ha1 hR2 =>
    so_ltc hv5 ha1 (s_Or_leastCoin_L134 hk115 4096 am_FU e_FU hv3 hv5 vl_0 vl_0 hR2)
    (so_ret hv3 hR2)))
set_option maxRecDepth 20000 in
theorem s_Or_leastCoin_L115 {c : Int} {μ0 : am_M} : ∀ (n N : Nat), n ≤ N → ∀ {v3 : Nat} {x_v3 : Int} (hv3 : vr c v3 x_v3) {v5 : Nat} {x_v5 : Int} (hv5 : vr c v5 x_v5) {t : e_T} {μ : am_M} (hR : e_R c μ0 t μ), so c μ0 (E_Or_leastCoin_L115 n v3 v5 t) (Or_leastCoin_L115 N x_v3 x_v5 μ) := by
  intro n
  induction n with
  | zero => intros; exact so_none
  | succ n ih =>
    intro N hN v3 x_v3 hv3 v5 x_v5 hv5 t μ hR
    obtain ⟨M, rfl⟩ : ∃ M, N = M + 1 := ⟨N - 1, by omega⟩
    exact s_Or_leastCoin_L115_b (k115 := E_Or_leastCoin_L115 n) (k115x := Or_leastCoin_L115 M) (fun hv3 hv5 hR => ih M (by omega) hv3 hv5 hR) hv3 hv5 hR
set_option maxRecDepth 20000 in
theorem s_Or_leastCoin_L27_b {c : Int} {μ0 : am_M} {k27 : Nat → Nat → Nat → e_T → e_O} {k27x : Int → Int → Int → am_M → am_O} (hk27 : ∀ {u0 : Nat} {x0 : Int} {u1 : Nat} {x1 : Int} {u2 : Nat} {x2 : Int} {t : e_T} {μ : am_M}, vr c u0 x0 → vr c u1 x1 → vr c u2 x2 → e_R c μ0 t μ → so c μ0 (k27 u0 u1 u2 t) (k27x x0 x1 x2 μ)) {v1 : Nat} {x_v1 : Int} (hv1 : vr c v1 x_v1) {v2 : Nat} {x_v2 : Int} (hv2 : vr c v2 x_v2) {v3 : Nat} {x_v3 : Int} (hv3 : vr c v3 x_v3) {t : e_T} {μ : am_M} (hR : e_R c μ0 t μ) : so c μ0 (E_Or_leastCoin_L27_b k27 v1 v2 v3 t) (Or_leastCoin_L27_b k27x x_v1 x_v2 x_v3 μ) := by
  unfold E_Or_leastCoin_L27_b Or_leastCoin_L27_b
  exact so_ltc hv3 (vr_rk hR (x := 60) (y := 8) rfl) (s_Or_leastCoin_L41 hk27 4096 am_FU e_FU hv1 hv2 hv3 hv2 vl_0 hR)
    (so_F (vr_mul6 (vr_rk hR (x := 60) (y := 8) rfl) hv2) (fun f1 hf1 => s_Or_leastCoin_L115 4096 am_FU e_FU hf1 vl_0 hR))
set_option maxRecDepth 20000 in
theorem s_Or_leastCoin_L27 {c : Int} {μ0 : am_M} : ∀ (n N : Nat), n ≤ N → ∀ {v1 : Nat} {x_v1 : Int} (hv1 : vr c v1 x_v1) {v2 : Nat} {x_v2 : Int} (hv2 : vr c v2 x_v2) {v3 : Nat} {x_v3 : Int} (hv3 : vr c v3 x_v3) {t : e_T} {μ : am_M} (hR : e_R c μ0 t μ), so c μ0 (E_Or_leastCoin_L27 n v1 v2 v3 t) (Or_leastCoin_L27 N x_v1 x_v2 x_v3 μ) := by
  intro n
  induction n with
  | zero => intros; exact so_none
  | succ n ih =>
    intro N hN v1 x_v1 hv1 v2 x_v2 hv2 v3 x_v3 hv3 t μ hR
    obtain ⟨M, rfl⟩ : ∃ M, N = M + 1 := ⟨N - 1, by omega⟩
    exact s_Or_leastCoin_L27_b (k27 := E_Or_leastCoin_L27 n) (k27x := Or_leastCoin_L27 M) (fun hv1 hv2 hv3 hR => ih M (by omega) hv1 hv2 hv3 hR) hv1 hv2 hv3 hR
set_option maxRecDepth 20000 in
theorem s_Or_leastCoin_L2_b {c : Int} {μ0 : am_M} {k2 : Nat → Nat → Nat → e_T → e_O} {k2x : Int → Int → Int → am_M → am_O} (hk2 : ∀ {u0 : Nat} {x0 : Int} {u1 : Nat} {x1 : Int} {u2 : Nat} {x2 : Int} {t : e_T} {μ : am_M}, vr c u0 x0 → vr c u1 x1 → vr c u2 x2 → e_R c μ0 t μ → so c μ0 (k2 u0 u1 u2 t) (k2x x0 x1 x2 μ)) {v1 : Nat} {x_v1 : Int} (hv1 : vr c v1 x_v1) {v2 : Nat} {x_v2 : Int} (hv2 : vr c v2 x_v2) {v3 : Nat} {x_v3 : Int} (hv3 : vr c v3 x_v3) {t : e_T} {μ : am_M} (hR : e_R c μ0 t μ) : so c μ0 (E_Or_leastCoin_L2_b k2 v1 v2 v3 t) (Or_leastCoin_L2_b k2x x_v1 x_v2 x_v3 μ) := by
  unfold E_Or_leastCoin_L2_b Or_leastCoin_L2_b
  exact so_ltc hv3 (vr_rk hR (x := 60) (y := 7) rfl) (so_bd (s_X_put vl_64 hv3 hv1 hR) (fun a1 _ t2 _ ha1 hR2 =>
    so_F (vr_add hv3 vl_1) (fun f1 hf1 => hk2 hv1 hv2 hf1 hR2)))
    (s_Or_leastCoin_L27 4096 am_FU e_FU hv1 hv2 vl_0 hR)
set_option maxRecDepth 20000 in
theorem s_Or_leastCoin_L2 {c : Int} {μ0 : am_M} : ∀ (n N : Nat), n ≤ N → ∀ {v1 : Nat} {x_v1 : Int} (hv1 : vr c v1 x_v1) {v2 : Nat} {x_v2 : Int} (hv2 : vr c v2 x_v2) {v3 : Nat} {x_v3 : Int} (hv3 : vr c v3 x_v3) {t : e_T} {μ : am_M} (hR : e_R c μ0 t μ), so c μ0 (E_Or_leastCoin_L2 n v1 v2 v3 t) (Or_leastCoin_L2 N x_v1 x_v2 x_v3 μ) := by
  intro n
  induction n with
  | zero => intros; exact so_none
  | succ n ih =>
    intro N hN v1 x_v1 hv1 v2 x_v2 hv2 v3 x_v3 hv3 t μ hR
    obtain ⟨M, rfl⟩ : ∃ M, N = M + 1 := ⟨N - 1, by omega⟩
    exact s_Or_leastCoin_L2_b (k2 := E_Or_leastCoin_L2 n) (k2x := Or_leastCoin_L2 M) (fun hv1 hv2 hv3 hR => ih M (by omega) hv1 hv2 hv3 hR) hv1 hv2 hv3 hR
set_option maxRecDepth 20000 in
theorem s_Or_leastCoin {c : Int} {μ0 : am_M} {v1 : Nat} {x_v1 : Int} (hv1 : vr c v1 x_v1) {v2 : Nat} {x_v2 : Int} (hv2 : vr c v2 x_v2) {t : e_T} {μ : am_M} (hR : e_R c μ0 t μ) : so c μ0 (E_Or_leastCoin v1 v2 t) (Or_leastCoin x_v1 x_v2 μ) := by
  unfold E_Or_leastCoin Or_leastCoin
  exact s_Or_leastCoin_L2 4096 am_FU e_FU hv1 hv2 vl_0 hR
set_option maxRecDepth 20000 in
theorem s_Rd_fail {c : Int} {μ0 : am_M} {v1 : Nat} {x_v1 : Int} (hv1 : vr c v1 x_v1) {t : e_T} {μ : am_M} (hR : e_R c μ0 t μ) : so c μ0 (E_Rd_fail v1 t) (Rd_fail x_v1 μ) := by
  unfold E_Rd_fail Rd_fail
  exact so_eq (vr_rk hR (x := 20) (y := 10) rfl) vl_0 (so_F (vr_add hv1 (vr_mul vl_16 (vr_rk hR (x := 10) (y := 3) rfl))) (fun f1 hf1 => so_pf vl_20 vl_10 hf1 hR (fun t1 _ hR1 =>
    so_ret vl_0 hR1)))
    (so_ret vl_0 hR)
set_option maxRecDepth 20000 in
theorem s_Tp_withLetter {c : Int} {μ0 : am_M} {v0 : Nat} {x_v0 : Int} (hv0 : vr c v0 x_v0) {v2 : Nat} {x_v2 : Int} (hv2 : vr c v2 x_v2) {t : e_T} {μ : am_M} (hR : e_R c μ0 t μ) : so c μ0 (E_Tp_withLetter v0 v2 t) (Tp_withLetter x_v0 x_v2 μ) := by
  unfold E_Tp_withLetter Tp_withLetter
  exact so_ret (vr_add6 (vr_mul6 hv0 vl_32) (vr_add (vr_sub hv2 vl_97) vl_1)) hR
set_option maxRecDepth 20000 in
theorem s_Tp_isLetter {c : Int} {μ0 : am_M} {v0 : Nat} {x_v0 : Int} (hv0 : vr c v0 x_v0) {t : e_T} {μ : am_M} (hR : e_R c μ0 t μ) : so c μ0 (E_Tp_isLetter v0 t) (Tp_isLetter x_v0 μ) := by
  unfold E_Tp_isLetter Tp_isLetter
  exact so_ltc hv0 vl_97 (so_ret vl_0 hR)
    (so_lec hv0 vl_122 (so_ret vl_1 hR)
    (so_ret vl_0 hR))
set_option maxRecDepth 20000 in
theorem s_X_find_L3_b {c : Int} {μ0 : am_M} {k3 : Nat → Nat → Nat → Nat → e_T → e_O} {k3x : Int → Int → Int → Int → am_M → am_O} (hk3 : ∀ {u0 : Nat} {x0 : Int} {u1 : Nat} {x1 : Int} {u2 : Nat} {x2 : Int} {u3 : Nat} {x3 : Int} {t : e_T} {μ : am_M}, vr c u0 x0 → vr c u1 x1 → vr c u2 x2 → vr c u3 x3 → e_R c μ0 t μ → so c μ0 (k3 u0 u1 u2 u3 t) (k3x x0 x1 x2 x3 μ)) {v0 : Nat} {x_v0 : Int} (hv0 : vr c v0 x_v0) {v1 : Nat} {x_v1 : Int} (hv1 : vr c v1 x_v1) {v2 : Nat} {x_v2 : Int} (hv2 : vr c v2 x_v2) {v4 : Nat} {x_v4 : Int} (hv4 : vr c v4 x_v4) {t : e_T} {μ : am_M} (hR : e_R c μ0 t μ) : so c μ0 (E_X_find_L3_b k3 v0 v1 v2 v4 t) (X_find_L3_b k3x x_v0 x_v1 x_v2 x_v4 μ) := by
  unfold E_X_find_L3_b X_find_L3_b
  exact so_ltc hv4 hv1 (so_len hv0 (fun a1 _ ha1 =>
    so_ltc hv4 ha1 (so_ld (vr_lK 1 hv0) hv0 hv4 hR (fun a2 _ ha2 =>
    so_eq (vr_cmp ha2 hv2) vl_0 (so_ret hv4 hR)
    (so_F (vr_add hv4 vl_1) (fun f1 hf1 => hk3 hv0 hv1 hv2 hf1 hR))))
    (so_ret vl_m1 hR)))
    (so_ret vl_m1 hR)
set_option maxRecDepth 20000 in
theorem s_X_find_L3 {c : Int} {μ0 : am_M} : ∀ (n N : Nat), n ≤ N → ∀ {v0 : Nat} {x_v0 : Int} (hv0 : vr c v0 x_v0) {v1 : Nat} {x_v1 : Int} (hv1 : vr c v1 x_v1) {v2 : Nat} {x_v2 : Int} (hv2 : vr c v2 x_v2) {v4 : Nat} {x_v4 : Int} (hv4 : vr c v4 x_v4) {t : e_T} {μ : am_M} (hR : e_R c μ0 t μ), so c μ0 (E_X_find_L3 n v0 v1 v2 v4 t) (X_find_L3 N x_v0 x_v1 x_v2 x_v4 μ) := by
  intro n
  induction n with
  | zero => intros; exact so_none
  | succ n ih =>
    intro N hN v0 x_v0 hv0 v1 x_v1 hv1 v2 x_v2 hv2 v4 x_v4 hv4 t μ hR
    obtain ⟨M, rfl⟩ : ∃ M, N = M + 1 := ⟨N - 1, by omega⟩
    exact s_X_find_L3_b (k3 := E_X_find_L3 n) (k3x := X_find_L3 M) (fun hv0 hv1 hv2 hv4 hR => ih M (by omega) hv0 hv1 hv2 hv4 hR) hv0 hv1 hv2 hv4 hR
set_option maxRecDepth 20000 in
theorem s_X_find {c : Int} {μ0 : am_M} {v0 : Nat} {x_v0 : Int} (hv0 : vr c v0 x_v0) {v1 : Nat} {x_v1 : Int} (hv1 : vr c v1 x_v1) {v2 : Nat} {x_v2 : Int} (hv2 : vr c v2 x_v2) {t : e_T} {μ : am_M} (hR : e_R c μ0 t μ) : so c μ0 (E_X_find v0 v1 v2 t) (X_find x_v0 x_v1 x_v2 μ) := by
  unfold E_X_find X_find
  exact s_X_find_L3 4096 am_FU e_FU hv0 hv1 hv2 vl_0 hR
set_option maxRecDepth 20000 in
theorem s_Tp_readWord_B101 {c : Int} {μ0 : am_M} {v2 : Nat} {x_v2 : Int} (hv2 : vr c v2 x_v2) {s1 : Nat} {x_s1 : Int} (hs1 : vr c s1 x_s1) {t : e_T} {μ : am_M} (hR : e_R c μ0 t μ) : so c μ0 (E_Tp_readWord_B101 v2 s1 t) (Tp_readWord_B101 x_v2 x_s1 μ) := by
  unfold E_Tp_readWord_B101 Tp_readWord_B101
  exact so_pf vl_10 vl_5 hs1 hR (fun t1 _ hR1 =>
    so_pf vl_10 vl_7 hv2 hR1 (fun t2 _ hR2 =>
    so_ret vl_0 hR2))
set_option maxRecDepth 20000 in
theorem s_Tp_readWord_B49 {c : Int} {μ0 : am_M} {v1 : Nat} {x_v1 : Int} (hv1 : vr c v1 x_v1) {v2 : Nat} {x_v2 : Int} (hv2 : vr c v2 x_v2) {v4 : Nat} {x_v4 : Int} (hv4 : vr c v4 x_v4) {t : e_T} {μ : am_M} (hR : e_R c μ0 t μ) : so c μ0 (E_Tp_readWord_B49 v1 v2 v4 t) (Tp_readWord_B49 x_v1 x_v2 x_v4 μ) := by
  unfold E_Tp_readWord_B49 Tp_readWord_B49
  exact so_pf vl_10 vl_4 hv4 hR (fun t1 _ hR1 =>
    so_lec (vr_sub hv4 hv1) vl_8 (so_bd (s_X_find vl_12 vl_17 hv2 hR1) (fun a2 _ t3 _ ha2 hR3 =>
    so_eq ha2 vl_m1 (s_Tp_readWord_B101 hv2 vl_2 hR3)
    (so_F (vr_add vl_100 ha2) (fun f1 hf1 => s_Tp_readWord_B101 hv2 hf1 hR3))))
    (so_pf vl_10 vl_5 vl_0 hR1 (fun t4 _ hR4 =>
    so_ret vl_0 hR4)))
set_option maxRecDepth 20000 in
theorem s_Tp_readWord_L5_b {c : Int} {μ0 : am_M} {k5 : Nat → Nat → Nat → e_T → e_O} {k5x : Int → Int → Int → am_M → am_O} (hk5 : ∀ {u0 : Nat} {x0 : Int} {u1 : Nat} {x1 : Int} {u2 : Nat} {x2 : Int} {t : e_T} {μ : am_M}, vr c u0 x0 → vr c u1 x1 → vr c u2 x2 → e_R c μ0 t μ → so c μ0 (k5 u0 u1 u2 t) (k5x x0 x1 x2 μ)) {v1 : Nat} {x_v1 : Int} (hv1 : vr c v1 x_v1) {v2 : Nat} {x_v2 : Int} (hv2 : vr c v2 x_v2) {v4 : Nat} {x_v4 : Int} (hv4 : vr c v4 x_v4) {t : e_T} {μ : am_M} (hR : e_R c μ0 t μ) : so c μ0 (E_Tp_readWord_L5_b k5 v1 v2 v4 t) (Tp_readWord_L5_b k5x x_v1 x_v2 x_v4 μ) := by
  unfold E_Tp_readWord_L5_b Tp_readWord_L5_b
  exact so_ltc hv4 (vr_rk hR (x := 10) (y := 2) rfl) (so_bd (s_X_at vl_11 hv4 hR) (fun a1 _ t2 _ ha1 hR2 =>
    so_bd (s_Tp_isLetter ha1 hR2) (fun a3 _ t4 _ ha3 hR4 =>
    so_eq ha3 vl_0 (s_Tp_readWord_B49 hv1 hv2 hv4 hR4)
    (so_bd (s_X_at vl_11 hv4 hR4) (fun a5 _ t6 _ ha5 hR6 =>
    so_bd (s_Tp_withLetter hv2 ha5 hR6) (fun a7 _ t8 _ ha7 hR8 =>
    so_F (vr_add hv4 vl_1) (fun f1 hf1 => hk5 hv1 ha7 hf1 hR8)))))))
    (s_Tp_readWord_B49 hv1 hv2 hv4 hR)
set_option maxRecDepth 20000 in
theorem s_Tp_readWord_L5 {c : Int} {μ0 : am_M} : ∀ (n N : Nat), n ≤ N → ∀ {v1 : Nat} {x_v1 : Int} (hv1 : vr c v1 x_v1) {v2 : Nat} {x_v2 : Int} (hv2 : vr c v2 x_v2) {v4 : Nat} {x_v4 : Int} (hv4 : vr c v4 x_v4) {t : e_T} {μ : am_M} (hR : e_R c μ0 t μ), so c μ0 (E_Tp_readWord_L5 n v1 v2 v4 t) (Tp_readWord_L5 N x_v1 x_v2 x_v4 μ) := by
  intro n
  induction n with
  | zero => intros; exact so_none
  | succ n ih =>
    intro N hN v1 x_v1 hv1 v2 x_v2 hv2 v4 x_v4 hv4 t μ hR
    obtain ⟨M, rfl⟩ : ∃ M, N = M + 1 := ⟨N - 1, by omega⟩
    exact s_Tp_readWord_L5_b (k5 := E_Tp_readWord_L5 n) (k5x := Tp_readWord_L5 M) (fun hv1 hv2 hv4 hR => ih M (by omega) hv1 hv2 hv4 hR) hv1 hv2 hv4 hR
set_option maxRecDepth 20000 in
theorem s_Tp_readWord {c : Int} {μ0 : am_M} {v1 : Nat} {x_v1 : Int} (hv1 : vr c v1 x_v1) {t : e_T} {μ : am_M} (hR : e_R c μ0 t μ) : so c μ0 (E_Tp_readWord v1 t) (Tp_readWord x_v1 μ) := by
  unfold E_Tp_readWord Tp_readWord
  exact s_Tp_readWord_L5 4096 am_FU e_FU hv1 vl_0 hv1 hR
set_option maxRecDepth 20000 in
theorem s_Tp_isDigit {c : Int} {μ0 : am_M} {v0 : Nat} {x_v0 : Int} (hv0 : vr c v0 x_v0) {t : e_T} {μ : am_M} (hR : e_R c μ0 t μ) : so c μ0 (E_Tp_isDigit v0 t) (Tp_isDigit x_v0 μ) := by
  unfold E_Tp_isDigit Tp_isDigit
  exact so_ltc hv0 vl_48 (so_ret vl_0 hR)
    (so_lec hv0 vl_57 (so_ret vl_1 hR)
    (so_ret vl_0 hR))
set_option maxRecDepth 20000 in
theorem s_Tp_readNumber_B67 {c : Int} {μ0 : am_M} {v2 : Nat} {x_v2 : Int} (hv2 : vr c v2 x_v2) {s1 : Nat} {x_s1 : Int} (hs1 : vr c s1 x_s1) {t : e_T} {μ : am_M} (hR : e_R c μ0 t μ) : so c μ0 (E_Tp_readNumber_B67 v2 s1 t) (Tp_readNumber_B67 x_v2 x_s1 μ) := by
  unfold E_Tp_readNumber_B67 Tp_readNumber_B67
  exact so_pf vl_10 vl_5 hs1 hR (fun t1 _ hR1 =>
    so_pf vl_10 vl_6 hv2 hR1 (fun t2 _ hR2 =>
    so_ret vl_0 hR2))
set_option maxRecDepth 20000 in
theorem s_Tp_readNumber_B49 {c : Int} {μ0 : am_M} {v1 : Nat} {x_v1 : Int} (hv1 : vr c v1 x_v1) {v2 : Nat} {x_v2 : Int} (hv2 : vr c v2 x_v2) {v3 : Nat} {x_v3 : Int} (hv3 : vr c v3 x_v3) {t : e_T} {μ : am_M} (hR : e_R c μ0 t μ) : so c μ0 (E_Tp_readNumber_B49 v1 v2 v3 t) (Tp_readNumber_B49 x_v1 x_v2 x_v3 μ) := by
  unfold E_Tp_readNumber_B49 Tp_readNumber_B49
  exact so_pf vl_10 vl_4 hv3 hR (fun t1 _ hR1 =>
    so_lec (vr_sub hv3 hv1) vl_4 (s_Tp_readNumber_B67 hv2 vl_3 hR1)
    (s_Tp_readNumber_B67 hv2 vl_0 hR1))
set_option maxRecDepth 20000 in
theorem s_Tp_readNumber_L4_b {c : Int} {μ0 : am_M} {k4 : Nat → Nat → Nat → e_T → e_O} {k4x : Int → Int → Int → am_M → am_O} (hk4 : ∀ {u0 : Nat} {x0 : Int} {u1 : Nat} {x1 : Int} {u2 : Nat} {x2 : Int} {t : e_T} {μ : am_M}, vr c u0 x0 → vr c u1 x1 → vr c u2 x2 → e_R c μ0 t μ → so c μ0 (k4 u0 u1 u2 t) (k4x x0 x1 x2 μ)) {v1 : Nat} {x_v1 : Int} (hv1 : vr c v1 x_v1) {v2 : Nat} {x_v2 : Int} (hv2 : vr c v2 x_v2) {v3 : Nat} {x_v3 : Int} (hv3 : vr c v3 x_v3) {t : e_T} {μ : am_M} (hR : e_R c μ0 t μ) : so c μ0 (E_Tp_readNumber_L4_b k4 v1 v2 v3 t) (Tp_readNumber_L4_b k4x x_v1 x_v2 x_v3 μ) := by
  unfold E_Tp_readNumber_L4_b Tp_readNumber_L4_b
  exact so_ltc hv3 (vr_rk hR (x := 10) (y := 2) rfl) (so_bd (s_X_at vl_11 hv3 hR) (fun a1 _ t2 _ ha1 hR2 =>
    so_bd (s_Tp_isDigit ha1 hR2) (fun a3 _ t4 _ ha3 hR4 =>
    so_eq ha3 vl_0 (s_Tp_readNumber_B49 hv1 hv2 hv3 hR4)
    (so_bd (s_X_at vl_11 hv3 hR4) (fun a5 _ t6 _ ha5 hR6 =>
    so_lt (vr_sub (vr_add (vr_mul hv2 vl_10) ha5) vl_48) (fun a7 _ ha7 =>
    so_F (vr_add hv3 vl_1) (fun f1 hf1 => hk4 hv1 ha7 hf1 hR6)))))))
    (s_Tp_readNumber_B49 hv1 hv2 hv3 hR)
set_option maxRecDepth 20000 in
theorem s_Tp_readNumber_L4 {c : Int} {μ0 : am_M} : ∀ (n N : Nat), n ≤ N → ∀ {v1 : Nat} {x_v1 : Int} (hv1 : vr c v1 x_v1) {v2 : Nat} {x_v2 : Int} (hv2 : vr c v2 x_v2) {v3 : Nat} {x_v3 : Int} (hv3 : vr c v3 x_v3) {t : e_T} {μ : am_M} (hR : e_R c μ0 t μ), so c μ0 (E_Tp_readNumber_L4 n v1 v2 v3 t) (Tp_readNumber_L4 N x_v1 x_v2 x_v3 μ) := by
  intro n
  induction n with
  | zero => intros; exact so_none
  | succ n ih =>
    intro N hN v1 x_v1 hv1 v2 x_v2 hv2 v3 x_v3 hv3 t μ hR
    obtain ⟨M, rfl⟩ : ∃ M, N = M + 1 := ⟨N - 1, by omega⟩
    exact s_Tp_readNumber_L4_b (k4 := E_Tp_readNumber_L4 n) (k4x := Tp_readNumber_L4 M) (fun hv1 hv2 hv3 hR => ih M (by omega) hv1 hv2 hv3 hR) hv1 hv2 hv3 hR
set_option maxRecDepth 20000 in
theorem s_Tp_readNumber {c : Int} {μ0 : am_M} {v1 : Nat} {x_v1 : Int} (hv1 : vr c v1 x_v1) {t : e_T} {μ : am_M} (hR : e_R c μ0 t μ) : so c μ0 (E_Tp_readNumber v1 t) (Tp_readNumber x_v1 μ) := by
  unfold E_Tp_readNumber Tp_readNumber
  exact s_Tp_readNumber_L4 4096 am_FU e_FU hv1 vl_0 hv1 hR
set_option maxRecDepth 20000 in
theorem s_Tp_isBlank {c : Int} {μ0 : am_M} {v0 : Nat} {x_v0 : Int} (hv0 : vr c v0 x_v0) {t : e_T} {μ : am_M} (hR : e_R c μ0 t μ) : so c μ0 (E_Tp_isBlank v0 t) (Tp_isBlank x_v0 μ) := by
  unfold E_Tp_isBlank Tp_isBlank
  exact so_eq hv0 vl_10 (so_ret vl_1 hR)
    (so_eq hv0 vl_32 (so_ret vl_1 hR)
    (so_ret vl_0 hR))
set_option maxRecDepth 20000 in
theorem s_Tp_isSign {c : Int} {μ0 : am_M} {v0 : Nat} {x_v0 : Int} (hv0 : vr c v0 x_v0) {t : e_T} {μ : am_M} (hR : e_R c μ0 t μ) : so c μ0 (E_Tp_isSign v0 t) (Tp_isSign x_v0 μ) := by
  unfold E_Tp_isSign Tp_isSign
  exact so_eq hv0 vl_40 (so_ret vl_1 hR)
    (so_eq hv0 vl_41 (so_ret vl_1 hR)
    (so_eq hv0 vl_42 (so_ret vl_1 hR)
    (so_eq hv0 vl_43 (so_ret vl_1 hR)
    (so_eq hv0 vl_44 (so_ret vl_0 hR)
    (so_eq hv0 vl_45 (so_ret vl_1 hR)
    (so_eq hv0 vl_46 (so_ret vl_0 hR)
    (so_eq hv0 vl_47 (so_ret vl_0 hR)
    (so_eq hv0 vl_48 (so_ret vl_0 hR)
    (so_eq hv0 vl_49 (so_ret vl_0 hR)
    (so_eq hv0 vl_50 (so_ret vl_0 hR)
    (so_eq hv0 vl_51 (so_ret vl_0 hR)
    (so_eq hv0 vl_52 (so_ret vl_0 hR)
    (so_eq hv0 vl_53 (so_ret vl_0 hR)
    (so_eq hv0 vl_54 (so_ret vl_0 hR)
    (so_eq hv0 vl_55 (so_ret vl_0 hR)
    (so_eq hv0 vl_56 (so_ret vl_0 hR)
    (so_eq hv0 vl_57 (so_ret vl_0 hR)
    (so_eq hv0 vl_58 (so_ret vl_0 hR)
    (so_eq hv0 vl_59 (so_ret vl_1 hR)
    (so_eq hv0 vl_60 (so_ret vl_1 hR)
    (so_eq hv0 vl_61 (so_ret vl_1 hR)
    (so_ret vl_0 hR))))))))))))))))))))))
set_option maxRecDepth 20000 in
theorem s_Tp_advance_B112 {c : Int} {μ0 : am_M} {v1 : Nat} {x_v1 : Int} (hv1 : vr c v1 x_v1) {s1 : Nat} {x_s1 : Int} (hs1 : vr c s1 x_s1) {t : e_T} {μ : am_M} (hR : e_R c μ0 t μ) : so c μ0 (E_Tp_advance_B112 v1 s1 t) (Tp_advance_B112 x_v1 x_s1 μ) := by
  unfold E_Tp_advance_B112 Tp_advance_B112
  exact so_pf vl_10 vl_5 hs1 hR (fun t1 _ hR1 =>
    so_F (vr_add hv1 vl_1) (fun f1 hf1 => so_pf vl_10 vl_4 hf1 hR1 (fun t2 _ hR2 =>
    so_ret vl_0 hR2)))
set_option maxRecDepth 20000 in
theorem s_Tp_advance_B33 {c : Int} {μ0 : am_M} {v1 : Nat} {x_v1 : Int} (hv1 : vr c v1 x_v1) {t : e_T} {μ : am_M} (hR : e_R c μ0 t μ) : so c μ0 (E_Tp_advance_B33 v1 t) (Tp_advance_B33 x_v1 μ) := by
  unfold E_Tp_advance_B33 Tp_advance_B33
  exact so_pf vl_10 vl_3 hv1 hR (fun t1 _ hR1 =>
    so_ltc hv1 (vr_rk hR1 (x := 10) (y := 2) rfl) (so_bd (s_X_at vl_11 hv1 hR1) (fun a2 _ t3 _ ha2 hR3 =>
    so_bd (s_Tp_isLetter ha2 hR3) (fun a4 _ t5 _ ha4 hR5 =>
    so_eq ha4 vl_0 (so_bd (s_Tp_isDigit ha2 hR5) (fun a6 _ t7 _ ha6 hR7 =>
    so_eq ha6 vl_0 (so_bd (s_Tp_isSign ha2 hR7) (fun a8 _ t9 _ ha8 hR9 =>
    so_eq ha8 vl_0 (s_Tp_advance_B112 hv1 vl_0 hR9)
    (s_Tp_advance_B112 hv1 ha2 hR9)))
    (so_bd (s_Tp_readNumber hv1 hR7) (fun a10 _ t11 _ ha10 hR11 =>
    so_ret vl_0 hR11))))
    (so_bd (s_Tp_readWord hv1 hR5) (fun a12 _ t13 _ ha12 hR13 =>
    so_ret vl_0 hR13)))))
    (so_pf vl_10 vl_5 vl_1 hR1 (fun t14 _ hR14 =>
    so_F (vr_rk hR14 (x := 10) (y := 2) rfl) (fun f1 hf1 => so_pf vl_10 vl_4 hf1 hR14 (fun t15 _ hR15 =>
    so_ret vl_0 hR15)))))
set_option maxRecDepth 20000 in
theorem s_Tp_advance_L5_b {c : Int} {μ0 : am_M} {k5 : Nat → e_T → e_O} {k5x : Int → am_M → am_O} (hk5 : ∀ {u0 : Nat} {x0 : Int} {t : e_T} {μ : am_M}, vr c u0 x0 → e_R c μ0 t μ → so c μ0 (k5 u0 t) (k5x x0 μ)) {v1 : Nat} {x_v1 : Int} (hv1 : vr c v1 x_v1) {t : e_T} {μ : am_M} (hR : e_R c μ0 t μ) : so c μ0 (E_Tp_advance_L5_b k5 v1 t) (Tp_advance_L5_b k5x x_v1 μ) := by
  unfold E_Tp_advance_L5_b Tp_advance_L5_b
  exact so_ltc hv1 (vr_rk hR (x := 10) (y := 2) rfl) (so_bd (s_X_at vl_11 hv1 hR) (fun a1 _ t2 _ ha1 hR2 =>
    so_bd (s_Tp_isBlank ha1 hR2) (fun a3 _ t4 _ ha3 hR4 =>
    so_eq ha3 vl_0 (s_Tp_advance_B33 hv1 hR4)
    (so_F (vr_add hv1 vl_1) (fun f1 hf1 => hk5 hf1 hR4)))))
    (s_Tp_advance_B33 hv1 hR)
set_option maxRecDepth 20000 in
theorem s_Tp_advance_L5 {c : Int} {μ0 : am_M} : ∀ (n N : Nat), n ≤ N → ∀ {v1 : Nat} {x_v1 : Int} (hv1 : vr c v1 x_v1) {t : e_T} {μ : am_M} (hR : e_R c μ0 t μ), so c μ0 (E_Tp_advance_L5 n v1 t) (Tp_advance_L5 N x_v1 μ) := by
  intro n
  induction n with
  | zero => intros; exact so_none
  | succ n ih =>
    intro N hN v1 x_v1 hv1 t μ hR
    obtain ⟨M, rfl⟩ : ∃ M, N = M + 1 := ⟨N - 1, by omega⟩
    exact s_Tp_advance_L5_b (k5 := E_Tp_advance_L5 n) (k5x := Tp_advance_L5 M) (fun hv1 hR => ih M (by omega) hv1 hR) hv1 hR
set_option maxRecDepth 20000 in
theorem s_Tp_advance {c : Int} {μ0 : am_M}  {t : e_T} {μ : am_M} (hR : e_R c μ0 t μ) : so c μ0 (E_Tp_advance t) (Tp_advance μ) := by
  unfold E_Tp_advance Tp_advance
  exact so_F (vr_rk hR (x := 10) (y := 4) rfl) (fun f1 hf1 => s_Tp_advance_L5 4096 am_FU e_FU hf1 hR)
set_option maxRecDepth 20000 in
theorem s_Rd_expect {c : Int} {μ0 : am_M} {v1 : Nat} {x_v1 : Int} (hv1 : vr c v1 x_v1) {t : e_T} {μ : am_M} (hR : e_R c μ0 t μ) : so c μ0 (E_Rd_expect v1 t) (Rd_expect x_v1 μ) := by
  unfold E_Rd_expect Rd_expect
  exact so_eq (vr_rk hR (x := 10) (y := 5) rfl) hv1 (so_bd (s_Tp_advance hR) (fun a1 _ t2 _ ha1 hR2 =>
    so_ret vl_1 hR2))
    (so_bd (s_Rd_fail vl_1 hR) (fun a3 _ t4 _ ha3 hR4 =>
    so_rb ha3 hR4))
set_option maxRecDepth 20000 in
theorem s_Rd_endHead {c : Int} {μ0 : am_M} {v1 : Nat} {x_v1 : Int} (hv1 : vr c v1 x_v1) {v2 : Nat} {x_v2 : Int} (hv2 : vr c v2 x_v2) {t : e_T} {μ : am_M} (hR : e_R c μ0 t μ) : so c μ0 (E_Rd_endHead v1 v2 t) (Rd_endHead x_v1 x_v2 μ) := by
  unfold E_Rd_endHead Rd_endHead
  exact so_eq hv1 vl_0 (so_bd (s_Rd_expect vl_59 hR) (fun a1 _ t2 _ ha1 hR2 =>
    so_eq ha1 vl_0 (so_ret vl_0 hR2)
    (so_gd (vr_rk hR2 (x := 20) (y := 4) rfl) <|
    so_F (vr_rd hR2 (vr_rk hR2 (x := 20) (y := 4) rfl) vl_13) (fun f1 hf1 => so_pf vl_20 vl_11 hf1 hR2 (fun t4 _ hR4 =>
    so_gd (vr_rk hR4 (x := 20) (y := 4) rfl) <|
    so_F (vr_rk hR4 (x := 20) (y := 4) rfl) (fun f2 hf2 => so_bd (s_Bi_addBill hf2 hv2 hR4) (fun a6 _ t7 _ ha6 hR7 =>
    so_pf vl_20 vl_6 vl_0 hR7 (fun t8 _ hR8 =>
    so_pf vl_20 vl_7 vl_0 hR8 (fun t9 _ hR9 =>
    so_pfb vl_20 vl_13 vl_1 hR9 (fun t10 _ hR10 =>
    so_ret vl_0 hR10))))))))))
    (so_bd (s_Rd_expect vl_3 hR) (fun a11 _ t12 _ ha11 hR12 =>
    so_eq ha11 vl_0 (so_ret vl_0 hR12)
    (so_bd (s_Rd_expect vl_59 hR12) (fun a13 _ t14 _ ha13 hR14 =>
    so_eq ha13 vl_0 (so_ret vl_0 hR14)
    (so_gd (vr_rk hR14 (x := 20) (y := 4) rfl) <|
    so_F (vr_rk hR14 (x := 20) (y := 4) rfl) (fun f3 hf3 => so_F (vr_rk hR (x := 10) (y := 6) rfl) (fun f4 hf4 => so_bd (s_Bi_addWall hf3 hv2 hf4 hR14) (fun a16 _ t17 _ ha16 hR17 =>
    so_ret vl_0 hR17))))))))
set_option maxRecDepth 20000 in
theorem s_Rd_isWall {c : Int} {μ0 : am_M}  {t : e_T} {μ : am_M} (hR : e_R c μ0 t μ) : so c μ0 (E_Rd_isWall t) (Rd_isWall μ) := by
  unfold E_Rd_isWall Rd_isWall
  exact so_gd (vr_rk hR (x := 20) (y := 4) rfl) <|
    so_F (vr_of 12 rfl (vr_rk hR (x := 20) (y := 4) rfl)) (fun f1 hf1 => so_F (vr_rd hR (vr_rk hR (x := 20) (y := 4) rfl) vl_12) (fun f2 hf2 => so_F (vr_rk hR (x := 10) (y := 7) rfl) (fun f3 hf3 => so_bd (s_X_find hf1 hf2 hf3 hR) (fun a2 _ t3 _ ha2 hR3 =>
    so_eq ha2 vl_m1 (so_ret vl_0 hR3)
    (so_ret vl_1 hR3)))))
set_option maxRecDepth 20000 in
theorem s_Rd_isBill {c : Int} {μ0 : am_M}  {t : e_T} {μ : am_M} (hR : e_R c μ0 t μ) : so c μ0 (E_Rd_isBill t) (Rd_isBill μ) := by
  unfold E_Rd_isBill Rd_isBill
  exact so_gd (vr_rk hR (x := 20) (y := 4) rfl) <|
    so_F (vr_of 14 rfl (vr_rk hR (x := 20) (y := 4) rfl)) (fun f1 hf1 => so_F (vr_rd hR (vr_rk hR (x := 20) (y := 4) rfl) vl_13) (fun f2 hf2 => so_F (vr_rk hR (x := 10) (y := 7) rfl) (fun f3 hf3 => so_bd (s_X_find hf1 hf2 hf3 hR) (fun a2 _ t3 _ ha2 hR3 =>
    so_eq ha2 vl_m1 (so_ret vl_0 hR3)
    (so_ret vl_1 hR3)))))
set_option maxRecDepth 20000 in
theorem s_Rd_readNewName_B25 {c : Int} {μ0 : am_M}  {t : e_T} {μ : am_M} (hR : e_R c μ0 t μ) : so c μ0 (E_Rd_readNewName_B25 t) (Rd_readNewName_B25 μ) := by
  unfold E_Rd_readNewName_B25 Rd_readNewName_B25
  exact so_bd (s_Rd_fail vl_3 hR) (fun a1 _ t2 _ ha1 hR2 =>
    so_rb ha1 hR2)
set_option maxRecDepth 20000 in
theorem s_Rd_readNewName_B31 {c : Int} {μ0 : am_M}  {t : e_T} {μ : am_M} (hR : e_R c μ0 t μ) : so c μ0 (E_Rd_readNewName_B31 t) (Rd_readNewName_B31 μ) := by
  unfold E_Rd_readNewName_B31 Rd_readNewName_B31
  exact so_bd (s_Rd_expect vl_2 hR) (fun a1 _ t2 _ ha1 hR2 =>
    so_rb ha1 hR2)
set_option maxRecDepth 20000 in
theorem s_Rd_readNewName {c : Int} {μ0 : am_M}  {t : e_T} {μ : am_M} (hR : e_R c μ0 t μ) : so c μ0 (E_Rd_readNewName t) (Rd_readNewName μ) := by
  unfold E_Rd_readNewName Rd_readNewName
  exact so_eq (vr_rk hR (x := 10) (y := 5) rfl) vl_2 (so_bd (s_Rd_isWall hR) (fun a1 _ t2 _ ha1 hR2 =>
    so_eq ha1 vl_0 (so_bd (s_Rd_isBill hR2) (fun a3 _ t4 _ ha3 hR4 =>
    so_eq ha3 vl_0 (s_Rd_readNewName_B31 hR4)
    (s_Rd_readNewName_B25 hR4)))
    (s_Rd_readNewName_B25 hR2)))
    (s_Rd_readNewName_B31 hR)
set_option maxRecDepth 20000 in
theorem s_Rd_readHead_B82 {c : Int} {μ0 : am_M}  {t : e_T} {μ : am_M} (hR : e_R c μ0 t μ) : so c μ0 (E_Rd_readHead_B82 t) (Rd_readHead_B82 μ) := by
  unfold E_Rd_readHead_B82 Rd_readHead_B82
  exact so_bd (s_Rd_fail vl_5 hR) (fun a1 _ t2 _ ha1 hR2 =>
    so_ret vl_0 hR2)
set_option maxRecDepth 20000 in
theorem s_Rd_readHead_B91 {c : Int} {μ0 : am_M} {v1 : Nat} {x_v1 : Int} (hv1 : vr c v1 x_v1) {t : e_T} {μ : am_M} (hR : e_R c μ0 t μ) : so c μ0 (E_Rd_readHead_B91 v1 t) (Rd_readHead_B91 x_v1 μ) := by
  unfold E_Rd_readHead_B91 Rd_readHead_B91
  exact so_bd (s_Tp_advance hR) (fun a1 _ t2 _ ha1 hR2 =>
    so_bd (s_Rd_readNewName hR2) (fun a3 _ t4 _ ha3 hR4 =>
    so_eq ha3 vl_0 (so_ret vl_0 hR4)
    (so_F (vr_rk hR2 (x := 10) (y := 7) rfl) (fun f1 hf1 => so_bd (s_Rd_endHead hv1 hf1 hR4) (fun a5 _ t6 _ ha5 hR6 =>
    so_ret vl_0 hR6)))))
set_option maxRecDepth 20000 in
theorem s_Rd_readHead_B53 {c : Int} {μ0 : am_M} {v1 : Nat} {x_v1 : Int} (hv1 : vr c v1 x_v1) {t : e_T} {μ : am_M} (hR : e_R c μ0 t μ) : so c μ0 (E_Rd_readHead_B53 v1 t) (Rd_readHead_B53 x_v1 μ) := by
  unfold E_Rd_readHead_B53 Rd_readHead_B53
  exact so_eq hv1 vl_0 (so_gd (vr_rk hR (x := 20) (y := 4) rfl) <|
    so_ltc (vr_rd hR (vr_rk hR (x := 20) (y := 4) rfl) vl_13) vl_4 (s_Rd_readHead_B91 hv1 hR)
    (s_Rd_readHead_B82 hR))
    (so_gd (vr_rk hR (x := 20) (y := 4) rfl) <|
    so_ltc (vr_rd hR (vr_rk hR (x := 20) (y := 4) rfl) vl_12) vl_4 (s_Rd_readHead_B91 hv1 hR)
    (s_Rd_readHead_B82 hR))
set_option maxRecDepth 20000 in
theorem s_Rd_readHead_B27 {c : Int} {μ0 : am_M} {s0 : Nat} {x_s0 : Int} (hs0 : vr c s0 x_s0) {t : e_T} {μ : am_M} (hR : e_R c μ0 t μ) : so c μ0 (E_Rd_readHead_B27 s0 t) (Rd_readHead_B27 x_s0 μ) := by
  unfold E_Rd_readHead_B27 Rd_readHead_B27
  exact so_eq hs0 vl_0 (so_eq (vr_rk hR (x := 10) (y := 5) rfl) vl_110 (s_Rd_readHead_B53 hs0 hR)
    (so_bd (s_Rd_fail vl_1 hR) (fun a1 _ t2 _ ha1 hR2 =>
    so_ret vl_0 hR2)))
    (s_Rd_readHead_B53 hs0 hR)
set_option maxRecDepth 20000 in
theorem s_Rd_readHead_B26 {c : Int} {μ0 : am_M}  {t : e_T} {μ : am_M} (hR : e_R c μ0 t μ) : so c μ0 (E_Rd_readHead_B26 t) (Rd_readHead_B26 μ) := by
  unfold E_Rd_readHead_B26 Rd_readHead_B26
  exact s_Rd_readHead_B27 vl_0 hR
set_option maxRecDepth 20000 in
theorem s_Rd_readHead {c : Int} {μ0 : am_M}  {t : e_T} {μ : am_M} (hR : e_R c μ0 t μ) : so c μ0 (E_Rd_readHead t) (Rd_readHead μ) := by
  unfold E_Rd_readHead Rd_readHead
  exact so_eq (vr_rk hR (x := 10) (y := 5) rfl) vl_109 (so_gd (vr_rk hR (x := 20) (y := 4) rfl) <|
    so_eq (vr_rd hR (vr_rk hR (x := 20) (y := 4) rfl) vl_13) vl_0 (s_Rd_readHead_B27 vl_1 hR)
    (s_Rd_readHead_B26 hR))
    (s_Rd_readHead_B26 hR)
set_option maxRecDepth 20000 in
theorem s_Rd_mayStand {c : Int} {μ0 : am_M} {v1 : Nat} {x_v1 : Int} (hv1 : vr c v1 x_v1) {t : e_T} {μ : am_M} (hR : e_R c μ0 t μ) : so c μ0 (E_Rd_mayStand v1 t) (Rd_mayStand x_v1 μ) := by
  unfold E_Rd_mayStand Rd_mayStand
  exact so_eq hv1 vl_0 (so_gd (vr_rk hR (x := 20) (y := 4) rfl) <|
    so_F (vr_of 16 rfl (vr_rk hR (x := 20) (y := 4) rfl)) (fun f1 hf1 => so_F (vr_rk hR (x := 20) (y := 11) rfl) (fun f2 hf2 => so_bd (s_X_at hf1 hf2 hR) (fun a2 _ t3 _ ha2 hR3 =>
    so_gd (vr_rk hR3 (x := 20) (y := 4) rfl) <|
    so_F (vr_of 17 rfl (vr_rk hR3 (x := 20) (y := 4) rfl)) (fun f3 hf3 => so_F (vr_rk hR3 (x := 20) (y := 11) rfl) (fun f4 hf4 => so_bd (s_X_at hf3 hf4 hR3) (fun a5 _ t6 _ ha5 hR6 =>
    so_eq ha2 ha5 (so_ret vl_1 hR6)
    (so_ret vl_0 hR6))))))))
    (so_eq hv1 vl_1 (so_ret vl_1 hR)
    (so_eq hv1 vl_2 (so_ret vl_1 hR)
    (so_eq hv1 vl_3 (so_ret vl_1 hR)
    (so_eq hv1 vl_4 (so_ret vl_1 hR)
    (so_eq hv1 vl_5 (so_ret vl_1 hR)
    (so_eq hv1 vl_6 (so_lec (vr_rk hR (x := 20) (y := 7) rfl) vl_0 (so_ret vl_0 hR)
    (so_gd (vr_rk hR (x := 20) (y := 5) rfl) <|
    so_F (vr_sub (vr_rk hR (x := 20) (y := 7) rfl) vl_1) (fun f5 hf5 => so_bd (s_X_at vl_22 hf5 hR) (fun a8 _ t9 _ ha8 hR9 =>
    so_F (vr_of 1 rfl (vr_rk hR (x := 20) (y := 5) rfl)) (fun f6 hf6 => so_bd (s_X_at hf6 ha8 hR9) (fun a10 _ t11 _ ha10 hR11 =>
    so_eq ha10 vl_5 (so_ret vl_1 hR11)
    (so_ret vl_0 hR11)))))))
    (so_eq hv1 vl_7 (so_lec (vr_rk hR (x := 20) (y := 7) rfl) vl_0 (so_ret vl_0 hR)
    (so_gd (vr_rk hR (x := 20) (y := 5) rfl) <|
    so_F (vr_sub (vr_rk hR (x := 20) (y := 7) rfl) vl_1) (fun f7 hf7 => so_bd (s_X_at vl_22 hf7 hR) (fun a13 _ t14 _ ha13 hR14 =>
    so_F (vr_of 1 rfl (vr_rk hR (x := 20) (y := 5) rfl)) (fun f8 hf8 => so_bd (s_X_at hf8 ha13 hR14) (fun a15 _ t16 _ ha15 hR16 =>
    so_eq ha15 vl_6 (so_ret vl_1 hR16)
    (so_ret vl_0 hR16)))))))
    (so_eq hv1 vl_8 (so_eq (vr_rk hR (x := 20) (y := 7) rfl) vl_0 (so_ret vl_1 hR)
    (so_ret vl_0 hR))
    (so_ret vl_1 hR)))))))))
set_option maxRecDepth 20000 in
theorem s_Rd_isTooMany_B34 {c : Int} {μ0 : am_M} {v1 : Nat} {x_v1 : Int} (hv1 : vr c v1 x_v1) {t : e_T} {μ : am_M} (hR : e_R c μ0 t μ) : so c μ0 (E_Rd_isTooMany_B34 v1 t) (Rd_isTooMany_B34 x_v1 μ) := by
  unfold E_Rd_isTooMany_B34 Rd_isTooMany_B34
  exact so_eq hv1 vl_5 (so_ltc (vr_rk hR (x := 20) (y := 7) rfl) vl_3 (so_ret vl_0 hR)
    (so_ret vl_1 hR))
    (so_ret vl_0 hR)
set_option maxRecDepth 20000 in
theorem s_Rd_isTooMany {c : Int} {μ0 : am_M} {v1 : Nat} {x_v1 : Int} (hv1 : vr c v1 x_v1) {t : e_T} {μ : am_M} (hR : e_R c μ0 t μ) : so c μ0 (E_Rd_isTooMany v1 t) (Rd_isTooMany x_v1 μ) := by
  unfold E_Rd_isTooMany Rd_isTooMany
  exact so_gd (vr_rk hR (x := 20) (y := 5) rfl) <|
    so_ltc (vr_rd hR (vr_rk hR (x := 20) (y := 5) rfl) vl_10) vl_60 (so_eq hv1 vl_0 (so_gd (vr_rk hR (x := 20) (y := 4) rfl) <|
    so_F (vr_of 17 rfl (vr_rk hR (x := 20) (y := 4) rfl)) (fun f1 hf1 => so_F (vr_rk hR (x := 20) (y := 11) rfl) (fun f2 hf2 => so_bd (s_X_at hf1 hf2 hR) (fun a3 _ t4 _ ha3 hR4 =>
    so_ltc ha3 vl_4 (s_Rd_isTooMany_B34 hv1 hR4)
    (so_ret vl_1 hR4)))))
    (s_Rd_isTooMany_B34 hv1 hR))
    (so_ret vl_1 hR)
set_option maxRecDepth 20000 in
theorem s_Rd_startLine_B29 {c : Int} {μ0 : am_M}  {t : e_T} {μ : am_M} (hR : e_R c μ0 t μ) : so c μ0 (E_Rd_startLine_B29 t) (Rd_startLine_B29 μ) := by
  unfold E_Rd_startLine_B29 Rd_startLine_B29
  exact so_bd (s_Rd_fail vl_1 hR) (fun a1 _ t2 _ ha1 hR2 =>
    so_rb ha1 hR2)
set_option maxRecDepth 20000 in
theorem s_Rd_startLine {c : Int} {μ0 : am_M}  {t : e_T} {μ : am_M} (hR : e_R c μ0 t μ) : so c μ0 (E_Rd_startLine t) (Rd_startLine μ) := by
  unfold E_Rd_startLine Rd_startLine
  exact so_ltc (vr_sub (vr_rk hR (x := 10) (y := 5) rfl) vl_100) vl_0 (s_Rd_startLine_B29 hR)
    (so_lec (vr_sub (vr_rk hR (x := 10) (y := 5) rfl) vl_100) vl_8 (so_F (vr_sub (vr_rk hR (x := 10) (y := 5) rfl) vl_100) (fun f1 hf1 => so_bd (s_Rd_mayStand hf1 hR) (fun a1 _ t2 _ ha1 hR2 =>
    so_eq ha1 vl_0 (s_Rd_startLine_B29 hR2)
    (so_F (vr_sub (vr_rk hR (x := 10) (y := 5) rfl) vl_100) (fun f2 hf2 => so_bd (s_Rd_isTooMany hf2 hR2) (fun a3 _ t4 _ ha3 hR4 =>
    so_eq ha3 vl_0 (so_gd (vr_rk hR4 (x := 20) (y := 5) rfl) <|
    so_F (vr_rk hR4 (x := 20) (y := 5) rfl) (fun f3 hf3 => so_F (vr_sub (vr_rk hR (x := 10) (y := 5) rfl) vl_100) (fun f4 hf4 => so_bd (s_Ln_add hf3 hf4 hR4) (fun a6 _ t7 _ ha6 hR7 =>
    so_pf vl_20 vl_12 ha6 hR7 (fun t8 _ hR8 =>
    so_gd (vr_rk hR8 (x := 20) (y := 4) rfl) <|
    so_F (vr_of 16 rfl (vr_rk hR8 (x := 20) (y := 4) rfl)) (fun f5 hf5 => so_F (vr_rk hR8 (x := 20) (y := 11) rfl) (fun f6 hf6 => so_bd (s_X_at hf5 hf6 hR8) (fun a10 _ t11 _ ha10 hR11 =>
    so_F (vr_of 16 rfl (vr_rk hR8 (x := 20) (y := 4) rfl)) (fun f7 hf7 => so_F (vr_rk hR8 (x := 20) (y := 11) rfl) (fun f8 hf8 => so_F (vr_add ha10 vl_1) (fun f9 hf9 => so_bd (s_X_put hf7 hf8 hf9 hR11) (fun a12 _ t13 _ ha12 hR13 =>
    so_bd (s_Tp_advance hR13) (fun a14 _ t15 _ ha14 hR15 =>
    so_ret vl_1 hR15)))))))))))))
    (so_bd (s_Rd_fail vl_5 hR4) (fun a16 _ t17 _ ha16 hR17 =>
    so_rb ha16 hR17))))))))
    (s_Rd_startLine_B29 hR))
set_option maxRecDepth 20000 in
theorem s_Rd_isUntaken_B39 {c : Int} {μ0 : am_M}  {t : e_T} {μ : am_M} (hR : e_R c μ0 t μ) : so c μ0 (E_Rd_isUntaken_B39 t) (Rd_isUntaken_B39 μ) := by
  unfold E_Rd_isUntaken_B39 Rd_isUntaken_B39
  exact so_gd (vr_rk hR (x := 20) (y := 4) rfl) <|
    so_F (vr_of 17 rfl (vr_rk hR (x := 20) (y := 4) rfl)) (fun f1 hf1 => so_F (vr_rk hR (x := 20) (y := 11) rfl) (fun f2 hf2 => so_bd (s_X_at hf1 hf2 hR) (fun a2 _ t3 _ ha2 hR3 =>
    so_F (vr_of 17 rfl (vr_rk hR (x := 20) (y := 4) rfl)) (fun f3 hf3 => so_F (vr_rk hR (x := 20) (y := 11) rfl) (fun f4 hf4 => so_F (vr_add ha2 vl_1) (fun f5 hf5 => so_bd (s_X_put hf3 hf4 hf5 hR3) (fun a4 _ t5 _ ha4 hR5 =>
    so_ret vl_1 hR5)))))))
set_option maxRecDepth 20000 in
theorem s_Rd_isUntaken {c : Int} {μ0 : am_M}  {t : e_T} {μ : am_M} (hR : e_R c μ0 t μ) : so c μ0 (E_Rd_isUntaken t) (Rd_isUntaken μ) := by
  unfold E_Rd_isUntaken Rd_isUntaken
  exact so_eq (vr_rk hR (x := 10) (y := 5) rfl) vl_2 (so_F (vr_rk hR (x := 20) (y := 6) rfl) (fun f1 hf1 => so_F (vr_rk hR (x := 10) (y := 7) rfl) (fun f2 hf2 => so_bd (s_X_find vl_21 hf1 hf2 hR) (fun a1 _ t2 _ ha1 hR2 =>
    so_eq ha1 vl_m1 (s_Rd_isUntaken_B39 hR2)
    (so_bd (s_Rd_fail vl_3 hR2) (fun a3 _ t4 _ ha3 hR4 =>
    so_rb ha3 hR4))))))
    (s_Rd_isUntaken_B39 hR)
set_option maxRecDepth 20000 in
theorem s_Rd_readKind_B51 {c : Int} {μ0 : am_M} {s1 : Nat} {x_s1 : Int} (hs1 : vr c s1 x_s1) {t : e_T} {μ : am_M} (hR : e_R c μ0 t μ) : so c μ0 (E_Rd_readKind_B51 s1 t) (Rd_readKind_B51 x_s1 μ) := by
  unfold E_Rd_readKind_B51 Rd_readKind_B51
  exact so_bd (s_Rd_expect hs1 hR) (fun a1 _ t2 _ ha1 hR2 =>
    so_rb ha1 hR2)
set_option maxRecDepth 20000 in
theorem s_Rd_readKind_B28 {c : Int} {μ0 : am_M} {s0 : Nat} {x_s0 : Int} (hs0 : vr c s0 x_s0) {s1 : Nat} {x_s1 : Int} (hs1 : vr c s1 x_s1) {s2 : Nat} {x_s2 : Int} (hs2 : vr c s2 x_s2) {t : e_T} {μ : am_M} (hR : e_R c μ0 t μ) : so c μ0 (E_Rd_readKind_B28 s0 s1 s2 t) (Rd_readKind_B28 x_s0 x_s1 x_s2 μ) := by
  unfold E_Rd_readKind_B28 Rd_readKind_B28
  exact so_bd (s_X_put hs0 hs1 hs2 hR) (fun a1 _ t2 _ ha1 hR2 =>
    so_eq (vr_rk hR2 (x := 10) (y := 5) rfl) vl_111 (s_Rd_readKind_B51 vl_111 hR2)
    (s_Rd_readKind_B51 vl_112 hR2))
set_option maxRecDepth 20000 in
theorem s_Rd_readKind {c : Int} {μ0 : am_M}  {t : e_T} {μ : am_M} (hR : e_R c μ0 t μ) : so c μ0 (E_Rd_readKind t) (Rd_readKind μ) := by
  unfold E_Rd_readKind Rd_readKind
  exact so_gd (vr_rk hR (x := 20) (y := 5) rfl) <|
    so_eq (vr_rk hR (x := 10) (y := 5) rfl) vl_111 (so_F (vr_of 4 rfl (vr_rk hR (x := 20) (y := 5) rfl)) (fun f1 hf1 => so_F (vr_rk hR (x := 20) (y := 12) rfl) (fun f2 hf2 => s_Rd_readKind_B28 hf1 hf2 vl_1 hR)))
    (so_F (vr_of 4 rfl (vr_rk hR (x := 20) (y := 5) rfl)) (fun f3 hf3 => so_F (vr_rk hR (x := 20) (y := 12) rfl) (fun f4 hf4 => s_Rd_readKind_B28 hf3 hf4 vl_0 hR)))
set_option maxRecDepth 20000 in
theorem s_Rd_slipNamed {c : Int} {μ0 : am_M}  {t : e_T} {μ : am_M} (hR : e_R c μ0 t μ) : so c μ0 (E_Rd_slipNamed t) (Rd_slipNamed μ) := by
  unfold E_Rd_slipNamed Rd_slipNamed
  exact so_F (vr_rk hR (x := 20) (y := 6) rfl) (fun f1 hf1 => so_F (vr_rk hR (x := 10) (y := 7) rfl) (fun f2 hf2 => so_bd (s_X_find vl_21 hf1 hf2 hR) (fun a1 _ t2 _ ha1 hR2 =>
    so_eq ha1 vl_m1 (so_ltc (vr_rk hR2 (x := 20) (y := 6) rfl) vl_10 (so_F (vr_rk hR2 (x := 20) (y := 6) rfl) (fun f3 hf3 => so_F (vr_rk hR2 (x := 10) (y := 7) rfl) (fun f4 hf4 => so_st vl_10 vl_21 hf3 hf4 hR2 (fun t3 _ hR3 =>
    so_F (vr_add (vr_rk hR3 (x := 20) (y := 6) rfl) vl_1) (fun f5 hf5 => so_pf vl_20 vl_6 hf5 hR3 (fun t4 _ hR4 =>
    so_ret (vr_rk hR2 (x := 20) (y := 6) rfl) hR4))))))
    (so_ret ha1 hR2))
    (so_ret ha1 hR2))))
set_option maxRecDepth 20000 in
theorem s_Rd_readSlip_B92 {c : Int} {μ0 : am_M}  {t : e_T} {μ : am_M} (hR : e_R c μ0 t μ) : so c μ0 (E_Rd_readSlip_B92 t) (Rd_readSlip_B92 μ) := by
  unfold E_Rd_readSlip_B92 Rd_readSlip_B92
  exact so_bd (s_Tp_advance hR) (fun a1 _ t2 _ ha1 hR2 =>
    so_ret vl_1 hR2)
set_option maxRecDepth 20000 in
theorem s_Rd_readSlip_B84 {c : Int} {μ0 : am_M} {v2 : Nat} {x_v2 : Int} (hv2 : vr c v2 x_v2) {s0 : Nat} {x_s0 : Int} (hs0 : vr c s0 x_s0) {t : e_T} {μ : am_M} (hR : e_R c μ0 t μ) : so c μ0 (E_Rd_readSlip_B84 v2 s0 t) (Rd_readSlip_B84 x_v2 x_s0 μ) := by
  unfold E_Rd_readSlip_B84 Rd_readSlip_B84
  exact so_F (vr_rk hR (x := 20) (y := 12) rfl) (fun f1 hf1 => so_bd (s_X_put hs0 hf1 hv2 hR) (fun a1 _ t2 _ ha1 hR2 =>
    s_Rd_readSlip_B92 hR2))
set_option maxRecDepth 20000 in
theorem s_Rd_readSlip {c : Int} {μ0 : am_M} {v1 : Nat} {x_v1 : Int} (hv1 : vr c v1 x_v1) {t : e_T} {μ : am_M} (hR : e_R c μ0 t μ) : so c μ0 (E_Rd_readSlip v1 t) (Rd_readSlip x_v1 μ) := by
  unfold E_Rd_readSlip Rd_readSlip
  exact so_eq (vr_rk hR (x := 10) (y := 5) rfl) vl_2 (so_bd (s_Rd_isWall hR) (fun a1 _ t2 _ ha1 hR2 =>
    so_eq ha1 vl_0 (so_bd (s_Rd_slipNamed hR2) (fun a3 _ t4 _ ha3 hR4 =>
    so_eq ha3 vl_m1 (so_bd (s_Rd_fail vl_5 hR4) (fun a10 _ t11 _ ha10 hR11 =>
    so_rb ha10 hR11))
    (so_eq hv1 vl_0 (so_gd (vr_rk hR4 (x := 20) (y := 5) rfl) <|
    so_F (vr_rk hR4 (x := 20) (y := 5) rfl) (fun f1 hf1 => so_bd (s_Ln_addCode hf1 vl_2 ha3 hR4) (fun a8 _ t9 _ ha8 hR9 =>
    s_Rd_readSlip_B92 hR9)))
    (so_eq hv1 vl_1 (so_gd (vr_rk hR4 (x := 20) (y := 5) rfl) <|
    so_F (vr_of 2 rfl (vr_rk hR4 (x := 20) (y := 5) rfl)) (fun f2 hf2 => s_Rd_readSlip_B84 ha3 hf2 hR4))
    (so_gd (vr_rk hR4 (x := 20) (y := 5) rfl) <|
    so_F (vr_of 3 rfl (vr_rk hR4 (x := 20) (y := 5) rfl)) (fun f3 hf3 => s_Rd_readSlip_B84 ha3 hf3 hR4))))))
    (so_bd (s_Rd_fail vl_3 hR2) (fun a12 _ t13 _ ha12 hR13 =>
    so_rb ha12 hR13))))
    (so_bd (s_Rd_fail vl_1 hR) (fun a14 _ t15 _ ha14 hR15 =>
    so_rb ha14 hR15))
set_option maxRecDepth 20000 in
theorem s_Rd_readCall_B134 {c : Int} {μ0 : am_M} {s1 : Nat} {x_s1 : Int} (hs1 : vr c s1 x_s1) {t : e_T} {μ : am_M} (hR : e_R c μ0 t μ) : so c μ0 (E_Rd_readCall_B134 s1 t) (Rd_readCall_B134 x_s1 μ) := by
  unfold E_Rd_readCall_B134 Rd_readCall_B134
  exact so_bd (s_Rd_fail hs1 hR) (fun a1 _ t2 _ ha1 hR2 =>
    so_rb ha1 hR2)
set_option maxRecDepth 20000 in
theorem s_Rd_readCall_L89_b {c : Int} {μ0 : am_M} {k89 : Nat → Nat → e_T → e_O} {k89x : Int → Int → am_M → am_O} (hk89 : ∀ {u0 : Nat} {x0 : Int} {u1 : Nat} {x1 : Int} {t : e_T} {μ : am_M}, vr c u0 x0 → vr c u1 x1 → e_R c μ0 t μ → so c μ0 (k89 u0 u1 t) (k89x x0 x1 μ)) {v2 : Nat} {x_v2 : Int} (hv2 : vr c v2 x_v2) {v3 : Nat} {x_v3 : Int} (hv3 : vr c v3 x_v3) {t : e_T} {μ : am_M} (hR : e_R c μ0 t μ) : so c μ0 (E_Rd_readCall_L89_b k89 v2 v3 t) (Rd_readCall_L89_b k89x x_v2 x_v3 μ) := by
  unfold E_Rd_readCall_L89_b Rd_readCall_L89_b
  exact so_ltc hv3 hv2 (so_bd (s_Rd_readSlip vl_0 hR) (fun a3 _ t4 _ ha3 hR4 =>
    so_eq ha3 vl_0 (so_ret vl_0 hR4)
    (so_F (vr_add hv3 vl_1) (fun f1 hf1 => hk89 hv2 hf1 hR4))))
    (so_eq (vr_rk hR (x := 10) (y := 5) rfl) vl_2 (so_bd (s_Rd_isWall hR) (fun a1 _ t2 _ ha1 hR2 =>
    so_eq ha1 vl_0 (s_Rd_readCall_B134 vl_5 hR2)
    (s_Rd_readCall_B134 vl_3 hR2)))
    (so_ret vl_1 hR))
set_option maxRecDepth 20000 in
theorem s_Rd_readCall_L89 {c : Int} {μ0 : am_M} : ∀ (n N : Nat), n ≤ N → ∀ {v2 : Nat} {x_v2 : Int} (hv2 : vr c v2 x_v2) {v3 : Nat} {x_v3 : Int} (hv3 : vr c v3 x_v3) {t : e_T} {μ : am_M} (hR : e_R c μ0 t μ), so c μ0 (E_Rd_readCall_L89 n v2 v3 t) (Rd_readCall_L89 N x_v2 x_v3 μ) := by
  intro n
  induction n with
  | zero => intros; exact so_none
  | succ n ih =>
    intro N hN v2 x_v2 hv2 v3 x_v3 hv3 t μ hR
    obtain ⟨M, rfl⟩ : ∃ M, N = M + 1 := ⟨N - 1, by omega⟩
    exact s_Rd_readCall_L89_b (k89 := E_Rd_readCall_L89 n) (k89x := Rd_readCall_L89 M) (fun hv2 hv3 hR => ih M (by omega) hv2 hv3 hR) hv2 hv3 hR
set_option maxRecDepth 20000 in
theorem s_Rd_readCall {c : Int} {μ0 : am_M}  {t : e_T} {μ : am_M} (hR : e_R c μ0 t μ) : so c μ0 (E_Rd_readCall t) (Rd_readCall μ) := by
  unfold E_Rd_readCall Rd_readCall
  exact so_eq (vr_rk hR (x := 10) (y := 5) rfl) vl_2 (so_gd (vr_rk hR (x := 20) (y := 4) rfl) <|
    so_F (vr_of 14 rfl (vr_rk hR (x := 20) (y := 4) rfl)) (fun f1 hf1 => so_F (vr_rd hR (vr_rk hR (x := 20) (y := 4) rfl) vl_13) (fun f2 hf2 => so_F (vr_rk hR (x := 10) (y := 7) rfl) (fun f3 hf3 => so_bd (s_X_find hf1 hf2 hf3 hR) (fun a2 _ t3 _ ha2 hR3 =>
    so_eq ha2 vl_m1 (so_bd (s_Rd_fail vl_2 hR3) (fun a12 _ t13 _ ha12 hR13 =>
    so_rb ha12 hR13))
    (so_gd (vr_rk hR3 (x := 20) (y := 5) rfl) <|
    so_F (vr_of 5 rfl (vr_rk hR3 (x := 20) (y := 5) rfl)) (fun f4 hf4 => so_F (vr_rk hR3 (x := 20) (y := 12) rfl) (fun f5 hf5 => so_bd (s_X_put hf4 hf5 ha2 hR3) (fun a5 _ t6 _ ha5 hR6 =>
    so_bd (s_Tp_advance hR6) (fun a7 _ t8 _ ha7 hR8 =>
    so_gd (vr_rk hR8 (x := 20) (y := 4) rfl) <|
    so_F (vr_of 17 rfl (vr_rk hR8 (x := 20) (y := 4) rfl)) (fun f6 hf6 => so_bd (s_X_at hf6 ha2 hR8) (fun a10 _ t11 _ ha10 hR11 =>
    s_Rd_readCall_L89 4096 am_FU e_FU ha10 vl_0 hR11))))))))))))
    (so_bd (s_Rd_fail vl_1 hR) (fun a14 _ t15 _ ha14 hR15 =>
    so_rb ha14 hR15))
set_option maxRecDepth 20000 in
theorem s_Rd_mayBegin_B36 {c : Int} {μ0 : am_M}  {t : e_T} {μ : am_M} (hR : e_R c μ0 t μ) : so c μ0 (E_Rd_mayBegin_B36 t) (Rd_mayBegin_B36 μ) := by
  unfold E_Rd_mayBegin_B36 Rd_mayBegin_B36
  exact so_ltc (vr_rk hR (x := 20) (y := 9) rfl) vl_5 (so_ret vl_1 hR)
    (so_bd (s_Rd_fail vl_5 hR) (fun a1 _ t2 _ ha1 hR2 =>
    so_eq ha1 vl_0 (so_ret vl_0 hR2)
    (so_ret vl_1 hR2)))
set_option maxRecDepth 20000 in
theorem s_Rd_mayBegin {c : Int} {μ0 : am_M}  {t : e_T} {μ : am_M} (hR : e_R c μ0 t μ) : so c μ0 (E_Rd_mayBegin t) (Rd_mayBegin μ) := by
  unfold E_Rd_mayBegin Rd_mayBegin
  exact so_eq (vr_rk hR (x := 10) (y := 5) rfl) vl_3 (s_Rd_mayBegin_B36 hR)
    (so_eq (vr_rk hR (x := 10) (y := 5) rfl) vl_2 (s_Rd_mayBegin_B36 hR)
    (so_eq (vr_rk hR (x := 10) (y := 5) rfl) vl_114 (s_Rd_mayBegin_B36 hR)
    (so_eq (vr_rk hR (x := 10) (y := 5) rfl) vl_40 (s_Rd_mayBegin_B36 hR)
    (so_bd (s_Rd_fail vl_1 hR) (fun a1 _ t2 _ ha1 hR2 =>
    so_rb ha1 hR2)))))
set_option maxRecDepth 20000 in
theorem s_Rd_await {c : Int} {μ0 : am_M} {v1 : Nat} {x_v1 : Int} (hv1 : vr c v1 x_v1) {t : e_T} {μ : am_M} (hR : e_R c μ0 t μ) : so c μ0 (E_Rd_await v1 t) (Rd_await x_v1 μ) := by
  unfold E_Rd_await Rd_await
  exact so_F (vr_rk hR (x := 20) (y := 8) rfl) (fun f1 hf1 => so_bd (s_X_put vl_23 hf1 hv1 hR) (fun a1 _ t2 _ ha1 hR2 =>
    so_F (vr_add (vr_rk hR2 (x := 20) (y := 8) rfl) vl_1) (fun f2 hf2 => so_pf vl_20 vl_8 hf2 hR2 (fun t3 _ hR3 =>
    so_ret vl_0 hR3))))
set_option maxRecDepth 20000 in
theorem s_Rd_wrap {c : Int} {μ0 : am_M}  {t : e_T} {μ : am_M} (hR : e_R c μ0 t μ) : so c μ0 (E_Rd_wrap t) (Rd_wrap μ) := by
  unfold E_Rd_wrap Rd_wrap
  exact so_F (vr_add (vr_rk hR (x := 20) (y := 9) rfl) vl_1) (fun f1 hf1 => so_pf vl_20 vl_9 hf1 hR (fun t1 _ hR1 =>
    so_F (vr_rk hR1 (x := 10) (y := 5) rfl) (fun f2 hf2 => so_bd (s_Rd_await hf2 hR1) (fun a2 _ t3 _ ha2 hR3 =>
    so_ret vl_1 hR3))))
set_option maxRecDepth 20000 in
theorem s_Rd_lastWaiting {c : Int} {μ0 : am_M}  {t : e_T} {μ : am_M} (hR : e_R c μ0 t μ) : so c μ0 (E_Rd_lastWaiting t) (Rd_lastWaiting μ) := by
  unfold E_Rd_lastWaiting Rd_lastWaiting
  exact so_lec (vr_rk hR (x := 20) (y := 8) rfl) vl_0 (so_ret vl_0 hR)
    (so_F (vr_sub (vr_rk hR (x := 20) (y := 8) rfl) vl_1) (fun f1 hf1 => so_bd (s_X_at vl_23 hf1 hR) (fun a1 _ t2 _ ha1 hR2 =>
    so_ret ha1 hR2)))
set_option maxRecDepth 20000 in
theorem s_Rd_codeNots_L0_b {c : Int} {μ0 : am_M} {k0 : e_T → e_O} {k0x : am_M → am_O} (hk0 : ∀  {t : e_T} {μ : am_M}, e_R c μ0 t μ → so c μ0 (k0 t) (k0x μ))  {t : e_T} {μ : am_M} (hR : e_R c μ0 t μ) : so c μ0 (E_Rd_codeNots_L0_b k0 t) (Rd_codeNots_L0_b k0x μ) := by
  unfold E_Rd_codeNots_L0_b Rd_codeNots_L0_b
  exact so_lec (vr_rk hR (x := 20) (y := 8) rfl) vl_0 (so_ret vl_0 hR)
    (so_bd (s_Rd_lastWaiting hR) (fun a1 _ t2 _ ha1 hR2 =>
    so_eq ha1 vl_114 (so_gd (vr_rk hR2 (x := 20) (y := 5) rfl) <|
    so_F (vr_rk hR2 (x := 20) (y := 5) rfl) (fun f1 hf1 => so_bd (s_Ln_addCode hf1 vl_114 vl_0 hR2) (fun a4 _ t5 _ ha4 hR5 =>
    so_F (vr_sub (vr_rk hR5 (x := 20) (y := 8) rfl) vl_1) (fun f2 hf2 => so_pf vl_20 vl_8 hf2 hR5 (fun t6 _ hR6 =>
    so_F (vr_sub (vr_rk hR6 (x := 20) (y := 9) rfl) vl_1) (fun f3 hf3 => so_pf vl_20 vl_9 hf3 hR6 (fun t7 _ hR7 =>
    hk0 hR7)))))))
    (so_ret vl_0 hR2)))
set_option maxRecDepth 20000 in
theorem s_Rd_codeNots_L0 {c : Int} {μ0 : am_M} : ∀ (n N : Nat), n ≤ N → ∀  {t : e_T} {μ : am_M} (hR : e_R c μ0 t μ), so c μ0 (E_Rd_codeNots_L0 n  t) (Rd_codeNots_L0 N  μ) := by
  intro n
  induction n with
  | zero => intros; exact so_none
  | succ n ih =>
    intro N hN  t μ hR
    obtain ⟨M, rfl⟩ : ∃ M, N = M + 1 := ⟨N - 1, by omega⟩
    exact s_Rd_codeNots_L0_b (k0 := E_Rd_codeNots_L0 n) (k0x := Rd_codeNots_L0 M) (fun  hR => ih M (by omega)  hR)  hR
set_option maxRecDepth 20000 in
theorem s_Rd_codeNots {c : Int} {μ0 : am_M}  {t : e_T} {μ : am_M} (hR : e_R c μ0 t μ) : so c μ0 (E_Rd_codeNots t) (Rd_codeNots μ) := by
  unfold E_Rd_codeNots Rd_codeNots
  exact s_Rd_codeNots_L0 4096 am_FU e_FU hR
set_option maxRecDepth 20000 in
theorem s_Rd_readPart_B108 {c : Int} {μ0 : am_M}  {t : e_T} {μ : am_M} (hR : e_R c μ0 t μ) : so c μ0 (E_Rd_readPart_B108 t) (Rd_readPart_B108 μ) := by
  unfold E_Rd_readPart_B108 Rd_readPart_B108
  exact so_bd (s_Rd_codeNots hR) (fun a1 _ t2 _ ha1 hR2 =>
    so_ret vl_1 hR2)
set_option maxRecDepth 20000 in
theorem s_Rd_readPart {c : Int} {μ0 : am_M}  {t : e_T} {μ : am_M} (hR : e_R c μ0 t μ) : so c μ0 (E_Rd_readPart t) (Rd_readPart μ) := by
  unfold E_Rd_readPart Rd_readPart
  exact so_eq (vr_rk hR (x := 10) (y := 5) rfl) vl_3 (so_gd (vr_rk hR (x := 20) (y := 5) rfl) <|
    so_F (vr_rk hR (x := 20) (y := 5) rfl) (fun f1 hf1 => so_F (vr_rk hR (x := 10) (y := 6) rfl) (fun f2 hf2 => so_bd (s_Ln_addCode hf1 vl_3 hf2 hR) (fun a20 _ t21 _ ha20 hR21 =>
    s_Rd_readPart_B108 hR21))))
    (so_bd (s_Rd_isWall hR) (fun a1 _ t2 _ ha1 hR2 =>
    so_eq ha1 vl_0 (so_bd (s_Rd_slipNamed hR2) (fun a3 _ t4 _ ha3 hR4 =>
    so_eq ha3 vl_m1 (so_bd (s_Rd_fail vl_5 hR4) (fun a8 _ t9 _ ha8 hR9 =>
    so_rb ha8 hR9))
    (so_gd (vr_rk hR4 (x := 20) (y := 5) rfl) <|
    so_F (vr_rk hR4 (x := 20) (y := 5) rfl) (fun f3 hf3 => so_bd (s_Ln_addCode hf3 vl_2 ha3 hR4) (fun a6 _ t7 _ ha6 hR7 =>
    s_Rd_readPart_B108 hR7)))))
    (so_gd (vr_rk hR2 (x := 20) (y := 4) rfl) <|
    so_F (vr_of 12 rfl (vr_rk hR2 (x := 20) (y := 4) rfl)) (fun f4 hf4 => so_F (vr_rd hR2 (vr_rk hR2 (x := 20) (y := 4) rfl) vl_12) (fun f5 hf5 => so_F (vr_rk hR2 (x := 10) (y := 7) rfl) (fun f6 hf6 => so_bd (s_X_find hf4 hf5 hf6 hR2) (fun a11 _ t12 _ ha11 hR12 =>
    so_gd (vr_rk hR12 (x := 20) (y := 4) rfl) <|
    so_F (vr_of 13 rfl (vr_rk hR12 (x := 20) (y := 4) rfl)) (fun f7 hf7 => so_bd (s_X_at hf7 ha11 hR12) (fun a14 _ t15 _ ha14 hR15 =>
    so_gd (vr_rk hR12 (x := 20) (y := 5) rfl) <|
    so_F (vr_rk hR12 (x := 20) (y := 5) rfl) (fun f8 hf8 => so_bd (s_Ln_addCode hf8 vl_3 ha14 hR15) (fun a17 _ t18 _ ha17 hR18 =>
    s_Rd_readPart_B108 hR18)))))))))))
set_option maxRecDepth 20000 in
theorem s_Rd_rank {c : Int} {μ0 : am_M} {v0 : Nat} {x_v0 : Int} (hv0 : vr c v0 x_v0) {t : e_T} {μ : am_M} (hR : e_R c μ0 t μ) : so c μ0 (E_Rd_rank v0 t) (Rd_rank x_v0 μ) := by
  unfold E_Rd_rank Rd_rank
  exact so_eq hv0 vl_42 (so_ret vl_4 hR)
    (so_eq hv0 vl_43 (so_ret vl_3 hR)
    (so_eq hv0 vl_45 (so_ret vl_3 hR)
    (so_eq hv0 vl_60 (so_ret vl_2 hR)
    (so_eq hv0 vl_61 (so_ret vl_2 hR)
    (so_eq hv0 vl_115 (so_ret vl_1 hR)
    (so_eq hv0 vl_116 (so_ret vl_1 hR)
    (so_ret vl_0 hR)))))))
set_option maxRecDepth 20000 in
theorem s_Rd_codeFrom_L0_b {c : Int} {μ0 : am_M} {k0 : Nat → e_T → e_O} {k0x : Int → am_M → am_O} (hk0 : ∀ {u0 : Nat} {x0 : Int} {t : e_T} {μ : am_M}, vr c u0 x0 → e_R c μ0 t μ → so c μ0 (k0 u0 t) (k0x x0 μ)) {v1 : Nat} {x_v1 : Int} (hv1 : vr c v1 x_v1) {t : e_T} {μ : am_M} (hR : e_R c μ0 t μ) : so c μ0 (E_Rd_codeFrom_L0_b k0 v1 t) (Rd_codeFrom_L0_b k0x x_v1 μ) := by
  unfold E_Rd_codeFrom_L0_b Rd_codeFrom_L0_b
  exact so_lec (vr_rk hR (x := 20) (y := 8) rfl) vl_0 (so_ret vl_0 hR)
    (so_bd (s_Rd_lastWaiting hR) (fun a1 _ t2 _ ha1 hR2 =>
    so_bd (s_Rd_rank ha1 hR2) (fun a3 _ t4 _ ha3 hR4 =>
    so_ltc ha3 hv1 (so_ret vl_0 hR4)
    (so_bd (s_Rd_lastWaiting hR4) (fun a5 _ t6 _ ha5 hR6 =>
    so_gd (vr_rk hR4 (x := 20) (y := 5) rfl) <|
    so_F (vr_rk hR4 (x := 20) (y := 5) rfl) (fun f1 hf1 => so_bd (s_Ln_addCode hf1 ha5 vl_0 hR6) (fun a8 _ t9 _ ha8 hR9 =>
    so_F (vr_sub (vr_rk hR9 (x := 20) (y := 8) rfl) vl_1) (fun f2 hf2 => so_pf vl_20 vl_8 hf2 hR9 (fun t10 _ hR10 =>
    hk0 hv1 hR10)))))))))
set_option maxRecDepth 20000 in
theorem s_Rd_codeFrom_L0 {c : Int} {μ0 : am_M} : ∀ (n N : Nat), n ≤ N → ∀ {v1 : Nat} {x_v1 : Int} (hv1 : vr c v1 x_v1) {t : e_T} {μ : am_M} (hR : e_R c μ0 t μ), so c μ0 (E_Rd_codeFrom_L0 n v1 t) (Rd_codeFrom_L0 N x_v1 μ) := by
  intro n
  induction n with
  | zero => intros; exact so_none
  | succ n ih =>
    intro N hN v1 x_v1 hv1 t μ hR
    obtain ⟨M, rfl⟩ : ∃ M, N = M + 1 := ⟨N - 1, by omega⟩
    exact s_Rd_codeFrom_L0_b (k0 := E_Rd_codeFrom_L0 n) (k0x := Rd_codeFrom_L0 M) (fun hv1 hR => ih M (by omega) hv1 hR) hv1 hR
set_option maxRecDepth 20000 in
theorem s_Rd_codeFrom {c : Int} {μ0 : am_M} {v1 : Nat} {x_v1 : Int} (hv1 : vr c v1 x_v1) {t : e_T} {μ : am_M} (hR : e_R c μ0 t μ) : so c μ0 (E_Rd_codeFrom v1 t) (Rd_codeFrom x_v1 μ) := by
  unfold E_Rd_codeFrom Rd_codeFrom
  exact s_Rd_codeFrom_L0 4096 am_FU e_FU hv1 hR
set_option maxRecDepth 20000 in
theorem s_Rd_unwrap {c : Int} {μ0 : am_M}  {t : e_T} {μ : am_M} (hR : e_R c μ0 t μ) : so c μ0 (E_Rd_unwrap t) (Rd_unwrap μ) := by
  unfold E_Rd_unwrap Rd_unwrap
  exact so_bd (s_Rd_codeFrom vl_1 hR) (fun a1 _ t2 _ ha1 hR2 =>
    so_bd (s_Rd_lastWaiting hR2) (fun a3 _ t4 _ ha3 hR4 =>
    so_eq ha3 vl_40 (so_F (vr_sub (vr_rk hR4 (x := 20) (y := 8) rfl) vl_1) (fun f1 hf1 => so_pf vl_20 vl_8 hf1 hR4 (fun t5 _ hR5 =>
    so_F (vr_sub (vr_rk hR5 (x := 20) (y := 9) rfl) vl_1) (fun f2 hf2 => so_pf vl_20 vl_9 hf2 hR5 (fun t6 _ hR6 =>
    so_bd (s_Rd_codeNots hR6) (fun a7 _ t8 _ ha7 hR8 =>
    so_ret vl_1 hR8))))))
    (so_bd (s_Rd_fail vl_1 hR4) (fun a9 _ t10 _ ha9 hR10 =>
    so_rb ha9 hR10))))
set_option maxRecDepth 20000 in
theorem s_Rd_join_B47 {c : Int} {μ0 : am_M}  {t : e_T} {μ : am_M} (hR : e_R c μ0 t μ) : so c μ0 (E_Rd_join_B47 t) (Rd_join_B47 μ) := by
  unfold E_Rd_join_B47 Rd_join_B47
  exact so_F (vr_rk hR (x := 10) (y := 5) rfl) (fun f1 hf1 => so_bd (s_Rd_await hf1 hR) (fun a1 _ t2 _ ha1 hR2 =>
    so_ret vl_1 hR2))
set_option maxRecDepth 20000 in
theorem s_Rd_join_B22 {c : Int} {μ0 : am_M} {v1 : Nat} {x_v1 : Int} (hv1 : vr c v1 x_v1) {s1 : Nat} {x_s1 : Int} (hs1 : vr c s1 x_s1) {t : e_T} {μ : am_M} (hR : e_R c μ0 t μ) : so c μ0 (E_Rd_join_B22 v1 s1 t) (Rd_join_B22 x_v1 x_s1 μ) := by
  unfold E_Rd_join_B22 Rd_join_B22
  exact so_bd (s_Rd_codeFrom hs1 hR) (fun a1 _ t2 _ ha1 hR2 =>
    so_eq hv1 vl_2 (so_bd (s_Rd_lastWaiting hR2) (fun a3 _ t4 _ ha3 hR4 =>
    so_bd (s_Rd_rank ha3 hR4) (fun a5 _ t6 _ ha5 hR6 =>
    so_eq ha5 vl_2 (so_bd (s_Rd_fail vl_1 hR6) (fun a7 _ t8 _ ha7 hR8 =>
    so_rb ha7 hR8))
    (s_Rd_join_B47 hR6))))
    (s_Rd_join_B47 hR2))
set_option maxRecDepth 20000 in
theorem s_Rd_join {c : Int} {μ0 : am_M}  {t : e_T} {μ : am_M} (hR : e_R c μ0 t μ) : so c μ0 (E_Rd_join t) (Rd_join μ) := by
  unfold E_Rd_join Rd_join
  exact so_F (vr_rk hR (x := 10) (y := 5) rfl) (fun f1 hf1 => so_bd (s_Rd_rank hf1 hR) (fun a1 _ t2 _ ha1 hR2 =>
    so_eq ha1 vl_2 (s_Rd_join_B22 ha1 vl_3 hR2)
    (s_Rd_join_B22 ha1 ha1 hR2)))
set_option maxRecDepth 20000 in
theorem s_Rd_endSum {c : Int} {μ0 : am_M}  {t : e_T} {μ : am_M} (hR : e_R c μ0 t μ) : so c μ0 (E_Rd_endSum t) (Rd_endSum μ) := by
  unfold E_Rd_endSum Rd_endSum
  exact so_bd (s_Rd_codeFrom vl_1 hR) (fun a1 _ t2 _ ha1 hR2 =>
    so_eq (vr_rk hR2 (x := 20) (y := 8) rfl) vl_0 (so_ret vl_1 hR2)
    (so_bd (s_Rd_fail vl_1 hR2) (fun a3 _ t4 _ ha3 hR4 =>
    so_eq ha3 vl_0 (so_ret vl_0 hR4)
    (so_ret vl_1 hR4))))
set_option maxRecDepth 20000 in
theorem s_Rd_readSum_B127 {c : Int} {μ0 : am_M} {k14 : Nat → Nat → e_T → e_O} {k14x : Int → Int → am_M → am_O} (hk14 : ∀ {u0 : Nat} {x0 : Int} {u1 : Nat} {x1 : Int} {t : e_T} {μ : am_M}, vr c u0 x0 → vr c u1 x1 → e_R c μ0 t μ → so c μ0 (k14 u0 u1 t) (k14x x0 x1 μ)) {v1 : Nat} {x_v1 : Int} (hv1 : vr c v1 x_v1) {v2 : Nat} {x_v2 : Int} (hv2 : vr c v2 x_v2) {v4 : Nat} {x_v4 : Int} (hv4 : vr c v4 x_v4) {t : e_T} {μ : am_M} (hR : e_R c μ0 t μ) : so c μ0 (E_Rd_readSum_B127 k14 v1 v2 v4 t) (Rd_readSum_B127 k14x x_v1 x_v2 x_v4 μ) := by
  unfold E_Rd_readSum_B127 Rd_readSum_B127
  exact so_eq hv4 vl_0 (so_ret vl_0 hR)
    (so_bd (s_Tp_advance hR) (fun a1 _ t2 _ ha1 hR2 =>
    so_F (vr_add hv2 vl_1) (fun f1 hf1 => hk14 hv1 hf1 hR2)))
set_option maxRecDepth 20000 in
theorem s_Rd_readSum_B84 {c : Int} {μ0 : am_M} {k14 : Nat → Nat → e_T → e_O} {k14x : Int → Int → am_M → am_O} (hk14 : ∀ {u0 : Nat} {x0 : Int} {u1 : Nat} {x1 : Int} {t : e_T} {μ : am_M}, vr c u0 x0 → vr c u1 x1 → e_R c μ0 t μ → so c μ0 (k14 u0 u1 t) (k14x x0 x1 μ)) {v1 : Nat} {x_v1 : Int} (hv1 : vr c v1 x_v1) {v2 : Nat} {x_v2 : Int} (hv2 : vr c v2 x_v2) {s0 : Nat} {x_s0 : Int} (hs0 : vr c s0 x_s0) {t : e_T} {μ : am_M} (hR : e_R c μ0 t μ) : so c μ0 (E_Rd_readSum_B84 k14 v1 v2 s0 t) (Rd_readSum_B84 k14x x_v1 x_v2 x_s0 μ) := by
  unfold E_Rd_readSum_B84 Rd_readSum_B84
  exact s_Rd_readSum_B127 hk14 hv1 hv2 hs0 hR
set_option maxRecDepth 20000 in
theorem s_Rd_readSum_B79 {c : Int} {μ0 : am_M} {k14 : Nat → Nat → e_T → e_O} {k14x : Int → Int → am_M → am_O} (hk14 : ∀ {u0 : Nat} {x0 : Int} {u1 : Nat} {x1 : Int} {t : e_T} {μ : am_M}, vr c u0 x0 → vr c u1 x1 → e_R c μ0 t μ → so c μ0 (k14 u0 u1 t) (k14x x0 x1 μ)) {v1 : Nat} {x_v1 : Int} (hv1 : vr c v1 x_v1) {v2 : Nat} {x_v2 : Int} (hv2 : vr c v2 x_v2) {t : e_T} {μ : am_M} (hR : e_R c μ0 t μ) : so c μ0 (E_Rd_readSum_B79 k14 v1 v2 t) (Rd_readSum_B79 k14x x_v1 x_v2 μ) := by
  unfold E_Rd_readSum_B79 Rd_readSum_B79
  exact s_Rd_readSum_B84 hk14 hv1 hv2 vl_1 hR
set_option maxRecDepth 20000 in
theorem s_Rd_readSum_B83 {c : Int} {μ0 : am_M} {k14 : Nat → Nat → e_T → e_O} {k14x : Int → Int → am_M → am_O} (hk14 : ∀ {u0 : Nat} {x0 : Int} {u1 : Nat} {x1 : Int} {t : e_T} {μ : am_M}, vr c u0 x0 → vr c u1 x1 → e_R c μ0 t μ → so c μ0 (k14 u0 u1 t) (k14x x0 x1 μ)) {v1 : Nat} {x_v1 : Int} (hv1 : vr c v1 x_v1) {v2 : Nat} {x_v2 : Int} (hv2 : vr c v2 x_v2) {t : e_T} {μ : am_M} (hR : e_R c μ0 t μ) : so c μ0 (E_Rd_readSum_B83 k14 v1 v2 t) (Rd_readSum_B83 k14x x_v1 x_v2 μ) := by
  unfold E_Rd_readSum_B83 Rd_readSum_B83
  exact s_Rd_readSum_B84 hk14 hv1 hv2 vl_0 hR
set_option maxRecDepth 20000 in
theorem s_Rd_readSum_B50 {c : Int} {μ0 : am_M} {k14 : Nat → Nat → e_T → e_O} {k14x : Int → Int → am_M → am_O} (hk14 : ∀ {u0 : Nat} {x0 : Int} {u1 : Nat} {x1 : Int} {t : e_T} {μ : am_M}, vr c u0 x0 → vr c u1 x1 → e_R c μ0 t μ → so c μ0 (k14 u0 u1 t) (k14x x0 x1 μ)) {v2 : Nat} {x_v2 : Int} (hv2 : vr c v2 x_v2) {s0 : Nat} {x_s0 : Int} (hs0 : vr c s0 x_s0) {t : e_T} {μ : am_M} (hR : e_R c μ0 t μ) : so c μ0 (E_Rd_readSum_B50 k14 v2 s0 t) (Rd_readSum_B50 k14x x_v2 x_s0 μ) := by
  unfold E_Rd_readSum_B50 Rd_readSum_B50
  exact so_bd (s_Rd_mayBegin hR) (fun a1 _ t2 _ ha1 hR2 =>
    so_eq ha1 vl_0 (s_Rd_readSum_B83 hk14 hs0 hv2 hR2)
    (so_eq hs0 vl_0 (so_bd (s_Rd_readPart hR2) (fun a3 _ t4 _ ha3 hR4 =>
    so_eq ha3 vl_0 (s_Rd_readSum_B83 hk14 hs0 hv2 hR4)
    (s_Rd_readSum_B79 hk14 hs0 hv2 hR4)))
    (so_bd (s_Rd_wrap hR2) (fun a5 _ t6 _ ha5 hR6 =>
    so_eq ha5 vl_0 (s_Rd_readSum_B83 hk14 hs0 hv2 hR6)
    (s_Rd_readSum_B79 hk14 hs0 hv2 hR6)))))
set_option maxRecDepth 20000 in
theorem s_Rd_readSum_B45 {c : Int} {μ0 : am_M} {k14 : Nat → Nat → e_T → e_O} {k14x : Int → Int → am_M → am_O} (hk14 : ∀ {u0 : Nat} {x0 : Int} {u1 : Nat} {x1 : Int} {t : e_T} {μ : am_M}, vr c u0 x0 → vr c u1 x1 → e_R c μ0 t μ → so c μ0 (k14 u0 u1 t) (k14x x0 x1 μ)) {v2 : Nat} {x_v2 : Int} (hv2 : vr c v2 x_v2) {t : e_T} {μ : am_M} (hR : e_R c μ0 t μ) : so c μ0 (E_Rd_readSum_B45 k14 v2 t) (Rd_readSum_B45 k14x x_v2 μ) := by
  unfold E_Rd_readSum_B45 Rd_readSum_B45
  exact s_Rd_readSum_B50 hk14 hv2 vl_1 hR
set_option maxRecDepth 20000 in
theorem s_Rd_readSum_L14_b {c : Int} {μ0 : am_M} {k14 : Nat → Nat → e_T → e_O} {k14x : Int → Int → am_M → am_O} (hk14 : ∀ {u0 : Nat} {x0 : Int} {u1 : Nat} {x1 : Int} {t : e_T} {μ : am_M}, vr c u0 x0 → vr c u1 x1 → e_R c μ0 t μ → so c μ0 (k14 u0 u1 t) (k14x x0 x1 μ)) {v1 : Nat} {x_v1 : Int} (hv1 : vr c v1 x_v1) {v2 : Nat} {x_v2 : Int} (hv2 : vr c v2 x_v2) {t : e_T} {μ : am_M} (hR : e_R c μ0 t μ) : so c μ0 (E_Rd_readSum_L14_b k14 v1 v2 t) (Rd_readSum_L14_b k14x x_v1 x_v2 μ) := by
  unfold E_Rd_readSum_L14_b Rd_readSum_L14_b
  exact so_lec hv2 vl_1000 (so_eq hv1 vl_0 (so_eq (vr_rk hR (x := 10) (y := 5) rfl) vl_41 (so_bd (s_Rd_unwrap hR) (fun a9 _ t10 _ ha9 hR10 =>
    s_Rd_readSum_B127 hk14 hv1 hv2 ha9 hR10))
    (so_F (vr_rk hR (x := 10) (y := 5) rfl) (fun f1 hf1 => so_bd (s_Rd_rank hf1 hR) (fun a3 _ t4 _ ha3 hR4 =>
    so_lec ha3 vl_0 (so_bd (s_Rd_endSum hR4) (fun a5 _ t6 _ ha5 hR6 =>
    so_rb ha5 hR6))
    (so_bd (s_Rd_join hR4) (fun a7 _ t8 _ ha7 hR8 =>
    s_Rd_readSum_B127 hk14 vl_1 hv2 ha7 hR8))))))
    (so_eq (vr_rk hR (x := 10) (y := 5) rfl) vl_114 (s_Rd_readSum_B45 hk14 hv2 hR)
    (so_eq (vr_rk hR (x := 10) (y := 5) rfl) vl_40 (s_Rd_readSum_B45 hk14 hv2 hR)
    (s_Rd_readSum_B50 hk14 hv2 vl_0 hR))))
    (so_bd (s_Rd_fail vl_1 hR) (fun a1 _ t2 _ ha1 hR2 =>
    so_rb ha1 hR2))
set_option maxRecDepth 20000 in
theorem s_Rd_readSum_L14 {c : Int} {μ0 : am_M} : ∀ (n N : Nat), n ≤ N → ∀ {v1 : Nat} {x_v1 : Int} (hv1 : vr c v1 x_v1) {v2 : Nat} {x_v2 : Int} (hv2 : vr c v2 x_v2) {t : e_T} {μ : am_M} (hR : e_R c μ0 t μ), so c μ0 (E_Rd_readSum_L14 n v1 v2 t) (Rd_readSum_L14 N x_v1 x_v2 μ) := by
  intro n
  induction n with
  | zero => intros; exact so_none
  | succ n ih =>
    intro N hN v1 x_v1 hv1 v2 x_v2 hv2 t μ hR
    obtain ⟨M, rfl⟩ : ∃ M, N = M + 1 := ⟨N - 1, by omega⟩
    exact s_Rd_readSum_L14_b (k14 := E_Rd_readSum_L14 n) (k14x := Rd_readSum_L14 M) (fun hv1 hv2 hR => ih M (by omega) hv1 hv2 hR) hv1 hv2 hR
set_option maxRecDepth 20000 in
theorem s_Rd_readSum {c : Int} {μ0 : am_M}  {t : e_T} {μ : am_M} (hR : e_R c μ0 t μ) : so c μ0 (E_Rd_readSum t) (Rd_readSum μ) := by
  unfold E_Rd_readSum Rd_readSum
  exact so_pf vl_20 vl_8 vl_0 hR (fun t1 _ hR1 =>
    so_pf vl_20 vl_9 vl_0 hR1 (fun t2 _ hR2 =>
    s_Rd_readSum_L14 4096 am_FU e_FU vl_1 vl_0 hR2))
