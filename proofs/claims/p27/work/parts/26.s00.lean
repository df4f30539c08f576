/-! What the evaluator says holds of the functions. Printed by program. -/
set_option maxRecDepth 20000 in
theorem s_Ln_empty {c : Int} {μ0 : am_M} {b : Nat} {x_b : Int} (hb : vr c b x_b) {t : e_T} {μ : am_M} (hR : e_R c μ0 t μ) : so c μ0 (E_Ln_empty b t) (Ln_empty x_b μ) := by
  unfold E_Ln_empty Ln_empty
  exact so_gd hb <|
    so_pf hb vl_10 vl_0 hR (fun t2 _ hR2 =>
    so_pf hb vl_11 vl_0 hR2 (fun t3 _ hR3 =>
    so_ret vl_0 hR3))
set_option maxRecDepth 20000 in
theorem s_Bi_empty {c : Int} {μ0 : am_M} {b : Nat} {x_b : Int} (hb : vr c b x_b) {t : e_T} {μ : am_M} (hR : e_R c μ0 t μ) : so c μ0 (E_Bi_empty b t) (Bi_empty x_b μ) := by
  unfold E_Bi_empty Bi_empty
  exact so_gd hb <|
    so_gd (vr_of 1 rfl hb) <|
    so_F (vr_of 1 rfl hb) (fun f1 hf1 => so_bd (s_Ln_empty hf1 hR) (fun a3 _ t4 _ ha3 hR4 =>
    so_pf hb vl_12 vl_0 hR4 (fun t5 _ hR5 =>
    so_pf hb vl_13 vl_0 hR5 (fun t6 _ hR6 =>
    so_ret vl_0 hR6))))
set_option maxRecDepth 20000 in
theorem s_Bi_has {c : Int} {μ0 : am_M} {b : Nat} {x_b : Int} (hb : vr c b x_b) {v1 : Nat} {x_v1 : Int} (hv1 : vr c v1 x_v1) {t : e_T} {μ : am_M} (hR : e_R c μ0 t μ) : so c μ0 (E_Bi_has b v1 t) (Bi_has x_b x_v1 μ) := by
  unfold E_Bi_has Bi_has
  exact so_ltc hv1 vl_0 (so_ret vl_0 hR)
    (so_gd hb <|
    so_ltc hv1 (vr_rd hR hb vl_13) (so_ret vl_1 hR)
    (so_ret vl_0 hR))
set_option maxRecDepth 20000 in
theorem s_Bi_addWall {c : Int} {μ0 : am_M} {b : Nat} {x_b : Int} (hb : vr c b x_b) {v1 : Nat} {x_v1 : Int} (hv1 : vr c v1 x_v1) {v3 : Nat} {x_v3 : Int} (hv3 : vr c v3 x_v3) {t : e_T} {μ : am_M} (hR : e_R c μ0 t μ) : so c μ0 (E_Bi_addWall b v1 v3 t) (Bi_addWall x_b x_v1 x_v3 μ) := by
  unfold E_Bi_addWall Bi_addWall
  exact so_gd hb <|
    so_ltc (vr_rd hR hb vl_12) vl_4 (so_F (vr_rd hR hb vl_12) (fun f1 hf1 => so_st (vr_lK 1 (vr_of 12 rfl hb)) (vr_of 12 rfl hb) hf1 hv1 hR (fun t2 _ hR2 =>
    so_F (vr_of 13 rfl hb) (fun f2 hf2 => so_F (vr_rd hR2 hb vl_12) (fun f3 hf3 => so_bd (s_X_put hf2 hf3 hv3 hR2) (fun a3 _ t4 _ ha3 hR4 =>
    so_F (vr_add (vr_rd hR4 hb vl_12) vl_1) (fun f4 hf4 => so_pf hb vl_12 hf4 hR4 (fun t5 _ hR5 =>
    so_ret vl_0 hR5))))))))
    (so_ret vl_0 hR)
set_option maxRecDepth 20000 in
theorem s_Bi_addBill {c : Int} {μ0 : am_M} {b : Nat} {x_b : Int} (hb : vr c b x_b) {v1 : Nat} {x_v1 : Int} (hv1 : vr c v1 x_v1) {t : e_T} {μ : am_M} (hR : e_R c μ0 t μ) : so c μ0 (E_Bi_addBill b v1 t) (Bi_addBill x_b x_v1 μ) := by
  unfold E_Bi_addBill Bi_addBill
  exact so_gd hb <|
    so_ltc (vr_rd hR hb vl_13) vl_4 (so_F (vr_rd hR hb vl_13) (fun f1 hf1 => so_st (vr_lK 1 (vr_of 14 rfl hb)) (vr_of 14 rfl hb) hf1 hv1 hR (fun t2 _ hR2 =>
    so_gd (vr_of 1 rfl hb) <|
    so_F (vr_of 15 rfl hb) (fun f2 hf2 => so_F (vr_rd hR2 hb vl_13) (fun f3 hf3 => so_F (vr_rd hR2 (vr_of 1 rfl hb) vl_10) (fun f4 hf4 => so_bd (s_X_put hf2 hf3 hf4 hR2) (fun a4 _ t5 _ ha4 hR5 =>
    so_F (vr_of 16 rfl hb) (fun f5 hf5 => so_F (vr_rd hR5 hb vl_13) (fun f6 hf6 => so_bd (s_X_put hf5 hf6 vl_0 hR5) (fun a6 _ t7 _ ha6 hR7 =>
    so_F (vr_of 17 rfl hb) (fun f7 hf7 => so_F (vr_rd hR7 hb vl_13) (fun f8 hf8 => so_bd (s_X_put hf7 hf8 vl_0 hR7) (fun a8 _ t9 _ ha8 hR9 =>
    so_F (vr_add (vr_rd hR9 hb vl_13) vl_1) (fun f9 hf9 => so_pf hb vl_13 hf9 hR9 (fun t10 _ hR10 =>
    so_ret vl_0 hR10)))))))))))))))
    (so_ret vl_0 hR)
set_option maxRecDepth 20000 in
theorem s_Bi_lineBehind {c : Int} {μ0 : am_M} {b : Nat} {x_b : Int} (hb : vr c b x_b) {v1 : Nat} {x_v1 : Int} (hv1 : vr c v1 x_v1) {t : e_T} {μ : am_M} (hR : e_R c μ0 t μ) : so c μ0 (E_Bi_lineBehind b v1 t) (Bi_lineBehind x_b x_v1 μ) := by
  unfold E_Bi_lineBehind Bi_lineBehind
  exact so_gd hb <|
    so_F (vr_of 15 rfl hb) (fun f1 hf1 => so_bd (s_X_at hf1 hv1 hR) (fun a2 _ t3 _ ha2 hR3 =>
    so_F (vr_of 16 rfl hb) (fun f2 hf2 => so_bd (s_X_at hf2 hv1 hR3) (fun a4 _ t5 _ ha4 hR5 =>
    so_ret (vr_add ha2 ha4) hR5))))
set_option maxRecDepth 20000 in
theorem s_Ln_codeKind {c : Int} {μ0 : am_M} {b : Nat} {x_b : Int} (hb : vr c b x_b) {v1 : Nat} {x_v1 : Int} (hv1 : vr c v1 x_v1) {t : e_T} {μ : am_M} (hR : e_R c μ0 t μ) : so c μ0 (E_Ln_codeKind b v1 t) (Ln_codeKind x_b x_v1 μ) := by
  unfold E_Ln_codeKind Ln_codeKind
  exact so_gd hb <|
    so_F (vr_of 10 rfl hb) (fun f1 hf1 => so_bd (s_X_at hf1 hv1 hR) (fun a2 _ t3 _ ha2 hR3 =>
    so_ret (vr_rem ha2 vl_128) hR3))
set_option maxRecDepth 20000 in
theorem s_Ln_codeNumber {c : Int} {μ0 : am_M} {b : Nat} {x_b : Int} (hb : vr c b x_b) {v1 : Nat} {x_v1 : Int} (hv1 : vr c v1 x_v1) {t : e_T} {μ : am_M} (hR : e_R c μ0 t μ) : so c μ0 (E_Ln_codeNumber b v1 t) (Ln_codeNumber x_b x_v1 μ) := by
  unfold E_Ln_codeNumber Ln_codeNumber
  exact so_gd hb <|
    so_F (vr_of 10 rfl hb) (fun f1 hf1 => so_bd (s_X_at hf1 hv1 hR) (fun a2 _ t3 _ ha2 hR3 =>
    so_ret (vr_div ha2 vl_128) hR3))
set_option maxRecDepth 20000 in
theorem s_Ln_readSet_B50 {c : Int} {μ0 : am_M} {k21 : Nat → Nat → Nat → Nat → e_T → e_O} {k21x : Int → Int → Int → Int → am_M → am_O} (hk21 : ∀ {u0 : Nat} {x0 : Int} {u1 : Nat} {x1 : Int} {u2 : Nat} {x2 : Int} {u3 : Nat} {x3 : Int} {t : e_T} {μ : am_M}, vr c u0 x0 → vr c u1 x1 → vr c u2 x2 → vr c u3 x3 → e_R c μ0 t μ → so c μ0 (k21 u0 u1 u2 u3 t) (k21x x0 x1 x2 x3 μ)) {b : Nat} {x_b : Int} (hb : vr c b x_b) {v3 : Nat} {x_v3 : Int} (hv3 : vr c v3 x_v3) {v4 : Nat} {x_v4 : Int} (hv4 : vr c v4 x_v4) {s0 : Nat} {x_s0 : Int} (hs0 : vr c s0 x_s0) {s1 : Nat} {x_s1 : Int} (hs1 : vr c s1 x_s1) {t : e_T} {μ : am_M} (hR : e_R c μ0 t μ) : so c μ0 (E_Ln_readSet_B50 k21 b v3 v4 s0 s1 t) (Ln_readSet_B50 k21x x_b x_v3 x_v4 x_s0 x_s1 μ) := by
  unfold E_Ln_readSet_B50 Ln_readSet_B50
  exact so_F (vr_or hs0 hs1) (fun f1 hf1 => so_F (vr_add hv4 vl_1) (fun f2 hf2 => hk21 hb hf1 hv3 hf2 hR))
set_option maxRecDepth 20000 in
theorem s_Ln_readSet_L21_b {c : Int} {μ0 : am_M} {k21 : Nat → Nat → Nat → Nat → e_T → e_O} {k21x : Int → Int → Int → Int → am_M → am_O} (hk21 : ∀ {u0 : Nat} {x0 : Int} {u1 : Nat} {x1 : Int} {u2 : Nat} {x2 : Int} {u3 : Nat} {x3 : Int} {t : e_T} {μ : am_M}, vr c u0 x0 → vr c u1 x1 → vr c u2 x2 → vr c u3 x3 → e_R c μ0 t μ → so c μ0 (k21 u0 u1 u2 u3 t) (k21x x0 x1 x2 x3 μ)) {b : Nat} {x_b : Int} (hb : vr c b x_b) {v2 : Nat} {x_v2 : Int} (hv2 : vr c v2 x_v2) {v3 : Nat} {x_v3 : Int} (hv3 : vr c v3 x_v3) {v4 : Nat} {x_v4 : Int} (hv4 : vr c v4 x_v4) {t : e_T} {μ : am_M} (hR : e_R c μ0 t μ) : so c μ0 (E_Ln_readSet_L21_b k21 b v2 v3 v4 t) (Ln_readSet_L21_b k21x x_b x_v2 x_v3 x_v4 μ) := by
  unfold E_Ln_readSet_L21_b Ln_readSet_L21_b
  exact so_ltc hv4 hv3 (so_gd hb <|
    so_bd (s_Ln_codeKind hb hv4 hR) (fun a2 _ t3 _ ha2 hR3 =>
    so_eq ha2 vl_2 (so_bd (s_Ln_codeNumber hb hv4 hR3) (fun a4 _ t5 _ ha4 hR5 =>
    so_F (vr_shl vl_1 ha4) (fun f1 hf1 => s_Ln_readSet_B50 hk21 hb hv3 hv4 hv2 hf1 hR5)))
    (s_Ln_readSet_B50 hk21 hb hv3 hv4 hv2 vl_0 hR3)))
    (so_ret hv2 hR)
set_option maxRecDepth 20000 in
theorem s_Ln_readSet_L21 {c : Int} {μ0 : am_M} : ∀ (n N : Nat), n ≤ N → ∀ {b : Nat} {x_b : Int} (hb : vr c b x_b) {v2 : Nat} {x_v2 : Int} (hv2 : vr c v2 x_v2) {v3 : Nat} {x_v3 : Int} (hv3 : vr c v3 x_v3) {v4 : Nat} {x_v4 : Int} (hv4 : vr c v4 x_v4) {t : e_T} {μ : am_M} (hR : e_R c μ0 t μ), so c μ0 (E_Ln_readSet_L21 n b v2 v3 v4 t) (Ln_readSet_L21 N x_b x_v2 x_v3 x_v4 μ) := by
  intro n
  induction n with
  | zero => intros; exact so_none
  | succ n ih =>
    intro N hN b x_b hb v2 x_v2 hv2 v3 x_v3 hv3 v4 x_v4 hv4 t μ hR
    obtain ⟨M, rfl⟩ : ∃ M, N = M + 1 := ⟨N - 1, by omega⟩
    exact s_Ln_readSet_L21_b (k21 := E_Ln_readSet_L21 n) (k21x := Ln_readSet_L21 M) (fun hb hv2 hv3 hv4 hR => ih M (by omega) hb hv2 hv3 hv4 hR) hb hv2 hv3 hv4 hR
set_option maxRecDepth 20000 in
theorem s_Ln_readSet {c : Int} {μ0 : am_M} {b : Nat} {x_b : Int} (hb : vr c b x_b) {v1 : Nat} {x_v1 : Int} (hv1 : vr c v1 x_v1) {t : e_T} {μ : am_M} (hR : e_R c μ0 t μ) : so c μ0 (E_Ln_readSet b v1 t) (Ln_readSet x_b x_v1 μ) := by
  unfold E_Ln_readSet Ln_readSet
  exact so_gd hb <|
    so_F (vr_of 9 rfl hb) (fun f1 hf1 => so_bd (s_X_at hf1 hv1 hR) (fun a2 _ t3 _ ha2 hR3 =>
    so_F (vr_of 8 rfl hb) (fun f2 hf2 => so_bd (s_X_at hf2 hv1 hR3) (fun a4 _ t5 _ ha4 hR5 =>
    s_Ln_readSet_L21 4096 am_FU e_FU hb vl_0 ha2 ha4 hR5))))
set_option maxRecDepth 20000 in
theorem s_Ln_bit {c : Int} {μ0 : am_M} {v0 : Nat} {x_v0 : Int} (hv0 : vr c v0 x_v0) {t : e_T} {μ : am_M} (hR : e_R c μ0 t μ) : so c μ0 (E_Ln_bit v0 t) (Ln_bit x_v0 μ) := by
  unfold E_Ln_bit Ln_bit
  exact so_eq hv0 vl_m1 (so_ret vl_0 hR)
    (so_ret (vr_shl vl_1 hv0) hR)
set_option maxRecDepth 20000 in
theorem s_Ln_laidSet {c : Int} {μ0 : am_M} {b : Nat} {x_b : Int} (hb : vr c b x_b) {v1 : Nat} {x_v1 : Int} (hv1 : vr c v1 x_v1) {t : e_T} {μ : am_M} (hR : e_R c μ0 t μ) : so c μ0 (E_Ln_laidSet b v1 t) (Ln_laidSet x_b x_v1 μ) := by
  unfold E_Ln_laidSet Ln_laidSet
  exact so_gd hb <|
    so_F (vr_of 2 rfl hb) (fun f1 hf1 => so_bd (s_X_at hf1 hv1 hR) (fun a2 _ t3 _ ha2 hR3 =>
    so_bd (s_Ln_bit ha2 hR3) (fun a4 _ t5 _ ha4 hR5 =>
    so_F (vr_of 3 rfl hb) (fun f2 hf2 => so_bd (s_X_at hf2 hv1 hR5) (fun a6 _ t7 _ ha6 hR7 =>
    so_bd (s_Ln_bit ha6 hR7) (fun a8 _ t9 _ ha8 hR9 =>
    so_ret (vr_or ha4 ha8) hR9))))))
set_option maxRecDepth 20000 in
theorem s_Bi_isPlain_B69 {c : Int} {μ0 : am_M} {k18 : Nat → Nat → Nat → Nat → e_T → e_O} {k18x : Int → Int → Int → Int → am_M → am_O} (hk18 : ∀ {u0 : Nat} {x0 : Int} {u1 : Nat} {x1 : Int} {u2 : Nat} {x2 : Int} {u3 : Nat} {x3 : Int} {t : e_T} {μ : am_M}, vr c u0 x0 → vr c u1 x1 → vr c u2 x2 → vr c u3 x3 → e_R c μ0 t μ → so c μ0 (k18 u0 u1 u2 u3 t) (k18x x0 x1 x2 x3 μ)) {b : Nat} {x_b : Int} (hb : vr c b x_b) {v2 : Nat} {x_v2 : Int} (hv2 : vr c v2 x_v2) {v3 : Nat} {x_v3 : Int} (hv3 : vr c v3 x_v3) {v4 : Nat} {x_v4 : Int} (hv4 : vr c v4 x_v4) {v6 : Nat} {x_v6 : Int} (hv6 : vr c v6 x_v6) {t : e_T} {μ : am_M} (hR : e_R c μ0 t μ) : so c μ0 (E_Bi_isPlain_B69 k18 b v2 v3 v4 v6 t) (Bi_isPlain_B69 k18x x_b x_v2 x_v3 x_v4 x_v6 μ) := by
  unfold E_Bi_isPlain_B69 Bi_isPlain_B69
  exact so_gd hb <|
    so_gd (vr_of 1 rfl hb) <|
    so_F (vr_of 1 rfl hb) (fun f1 hf1 => so_bd (s_Ln_readSet hf1 hv4 hR) (fun a3 _ t4 _ ha3 hR4 =>
    so_eq (vr_and ha3 (vr_xor hv2 vl_m1)) vl_0 (so_eq (vr_and hv6 hv2) vl_0 (so_F (vr_or hv2 hv6) (fun f2 hf2 => so_F (vr_add hv4 vl_1) (fun f3 hf3 => hk18 hb hf2 hv3 hf3 hR4)))
    (so_ret vl_0 hR4))
    (so_ret vl_0 hR4)))
set_option maxRecDepth 20000 in
theorem s_Bi_isPlain_L18_b {c : Int} {μ0 : am_M} {k18 : Nat → Nat → Nat → Nat → e_T → e_O} {k18x : Int → Int → Int → Int → am_M → am_O} (hk18 : ∀ {u0 : Nat} {x0 : Int} {u1 : Nat} {x1 : Int} {u2 : Nat} {x2 : Int} {u3 : Nat} {x3 : Int} {t : e_T} {μ : am_M}, vr c u0 x0 → vr c u1 x1 → vr c u2 x2 → vr c u3 x3 → e_R c μ0 t μ → so c μ0 (k18 u0 u1 u2 u3 t) (k18x x0 x1 x2 x3 μ)) {b : Nat} {x_b : Int} (hb : vr c b x_b) {v2 : Nat} {x_v2 : Int} (hv2 : vr c v2 x_v2) {v3 : Nat} {x_v3 : Int} (hv3 : vr c v3 x_v3) {v4 : Nat} {x_v4 : Int} (hv4 : vr c v4 x_v4) {t : e_T} {μ : am_M} (hR : e_R c μ0 t μ) : so c μ0 (E_Bi_isPlain_L18_b k18 b v2 v3 v4 t) (Bi_isPlain_L18_b k18x x_b x_v2 x_v3 x_v4 μ) := by
  unfold E_Bi_isPlain_L18_b Bi_isPlain_L18_b
  exact so_ltc hv4 hv3 (so_gd hb <|
    so_gd (vr_of 1 rfl hb) <|
    so_F (vr_of 1 rfl (vr_of 1 rfl hb)) (fun f1 hf1 => so_bd (s_X_at hf1 hv4 hR) (fun a3 _ t4 _ ha3 hR4 =>
    so_F (vr_of 1 rfl hb) (fun f2 hf2 => so_bd (s_Ln_laidSet hf2 hv4 hR4) (fun a5 _ t6 _ ha5 hR6 =>
    so_eq ha3 vl_0 (s_Bi_isPlain_B69 hk18 hb hv2 hv3 hv4 ha5 hR6)
    (so_eq ha3 vl_1 (s_Bi_isPlain_B69 hk18 hb hv2 hv3 hv4 ha5 hR6)
    (so_eq ha3 vl_8 (s_Bi_isPlain_B69 hk18 hb hv2 hv3 hv4 ha5 hR6)
    (so_ret vl_0 hR6))))))))
    (so_ret vl_1 hR)
set_option maxRecDepth 20000 in
theorem s_Bi_isPlain_L18 {c : Int} {μ0 : am_M} : ∀ (n N : Nat), n ≤ N → ∀ {b : Nat} {x_b : Int} (hb : vr c b x_b) {v2 : Nat} {x_v2 : Int} (hv2 : vr c v2 x_v2) {v3 : Nat} {x_v3 : Int} (hv3 : vr c v3 x_v3) {v4 : Nat} {x_v4 : Int} (hv4 : vr c v4 x_v4) {t : e_T} {μ : am_M} (hR : e_R c μ0 t μ), so c μ0 (E_Bi_isPlain_L18 n b v2 v3 v4 t) (Bi_isPlain_L18 N x_b x_v2 x_v3 x_v4 μ) := by
  intro n
  induction n with
  | zero => intros; exact so_none
  | succ n ih =>
    intro N hN b x_b hb v2 x_v2 hv2 v3 x_v3 hv3 v4 x_v4 hv4 t μ hR
    obtain ⟨M, rfl⟩ : ∃ M, N = M + 1 := ⟨N - 1, by omega⟩
    exact s_Bi_isPlain_L18_b (k18 := E_Bi_isPlain_L18 n) (k18x := Bi_isPlain_L18 M) (fun hb hv2 hv3 hv4 hR => ih M (by omega) hb hv2 hv3 hv4 hR) hb hv2 hv3 hv4 hR
set_option maxRecDepth 20000 in
theorem s_Bi_isPlain {c : Int} {μ0 : am_M} {b : Nat} {x_b : Int} (hb : vr c b x_b) {v1 : Nat} {x_v1 : Int} (hv1 : vr c v1 x_v1) {t : e_T} {μ : am_M} (hR : e_R c μ0 t μ) : so c μ0 (E_Bi_isPlain b v1 t) (Bi_isPlain x_b x_v1 μ) := by
  unfold E_Bi_isPlain Bi_isPlain
  exact so_gd hb <|
    so_bd (s_Bi_lineBehind hb hv1 hR) (fun a2 _ t3 _ ha2 hR3 =>
    so_F (vr_of 15 rfl hb) (fun f1 hf1 => so_bd (s_X_at hf1 hv1 hR3) (fun a4 _ t5 _ ha4 hR5 =>
    s_Bi_isPlain_L18 4096 am_FU e_FU hb vl_0 ha2 ha4 hR5)))
set_option maxRecDepth 20000 in
theorem s_Ck_blame {c : Int} {μ0 : am_M} {v1 : Nat} {x_v1 : Int} (hv1 : vr c v1 x_v1) {v2 : Nat} {x_v2 : Int} (hv2 : vr c v2 x_v2) {t : e_T} {μ : am_M} (hR : e_R c μ0 t μ) : so c μ0 (E_Ck_blame v1 v2 t) (Ck_blame x_v1 x_v2 μ) := by
  unfold E_Ck_blame Ck_blame
  exact so_eq (vr_rk hR (x := 30) (y := 8) rfl) vl_0 (so_pf vl_30 vl_8 hv1 hR (fun t1 _ hR1 =>
    so_pf vl_30 vl_9 hv2 hR1 (fun t2 _ hR2 =>
    so_ret vl_0 hR2)))
    (so_ret vl_0 hR)
set_option maxRecDepth 20000 in
theorem s_Ck_takeAway_B97 {c : Int} {μ0 : am_M} {k19 : Nat → Nat → Nat → e_T → e_O} {k19x : Int → Int → Int → am_M → am_O} (hk19 : ∀ {u0 : Nat} {x0 : Int} {u1 : Nat} {x1 : Int} {u2 : Nat} {x2 : Int} {t : e_T} {μ : am_M}, vr c u0 x0 → vr c u1 x1 → vr c u2 x2 → e_R c μ0 t μ → so c μ0 (k19 u0 u1 u2 t) (k19x x0 x1 x2 μ)) {v1 : Nat} {x_v1 : Int} (hv1 : vr c v1 x_v1) {v3 : Nat} {x_v3 : Int} (hv3 : vr c v3 x_v3) {v4 : Nat} {x_v4 : Int} (hv4 : vr c v4 x_v4) {t : e_T} {μ : am_M} (hR : e_R c μ0 t μ) : so c μ0 (E_Ck_takeAway_B97 k19 v1 v3 v4 t) (Ck_takeAway_B97 k19x x_v1 x_v3 x_v4 μ) := by
  unfold E_Ck_takeAway_B97 Ck_takeAway_B97
  exact so_F (vr_add hv4 vl_1) (fun f1 hf1 => hk19 hv1 hv3 hf1 hR)
set_option maxRecDepth 20000 in
theorem s_Ck_takeAway_B67 {c : Int} {μ0 : am_M} {k19 : Nat → Nat → Nat → e_T → e_O} {k19x : Int → Int → Int → am_M → am_O} (hk19 : ∀ {u0 : Nat} {x0 : Int} {u1 : Nat} {x1 : Int} {u2 : Nat} {x2 : Int} {t : e_T} {μ : am_M}, vr c u0 x0 → vr c u1 x1 → vr c u2 x2 → e_R c μ0 t μ → so c μ0 (k19 u0 u1 u2 t) (k19x x0 x1 x2 μ)) {v1 : Nat} {x_v1 : Int} (hv1 : vr c v1 x_v1) {v3 : Nat} {x_v3 : Int} (hv3 : vr c v3 x_v3) {v4 : Nat} {x_v4 : Int} (hv4 : vr c v4 x_v4) {v5 : Nat} {x_v5 : Int} (hv5 : vr c v5 x_v5) {t : e_T} {μ : am_M} (hR : e_R c μ0 t μ) : so c μ0 (E_Ck_takeAway_B67 k19 v1 v3 v4 v5 t) (Ck_takeAway_B67 k19x x_v1 x_v3 x_v4 x_v5 μ) := by
  unfold E_Ck_takeAway_B67 Ck_takeAway_B67
  exact so_F (vr_and (vr_rk hR (x := 30) (y := 5) rfl) (vr_xor (vr_shl vl_1 hv5) vl_m1)) (fun f1 hf1 => so_pf vl_30 vl_5 hf1 hR (fun t1 _ hR1 =>
    so_F (vr_and (vr_rk hR1 (x := 30) (y := 6) rfl) (vr_xor (vr_shl vl_1 hv5) vl_m1)) (fun f2 hf2 => so_pf vl_30 vl_6 hf2 hR1 (fun t2 _ hR2 =>
    s_Ck_takeAway_B97 hk19 hv1 hv3 hv4 hR2))))
set_option maxRecDepth 20000 in
theorem s_Ck_takeAway_L19_b {c : Int} {μ0 : am_M} {k19 : Nat → Nat → Nat → e_T → e_O} {k19x : Int → Int → Int → am_M → am_O} (hk19 : ∀ {u0 : Nat} {x0 : Int} {u1 : Nat} {x1 : Int} {u2 : Nat} {x2 : Int} {t : e_T} {μ : am_M}, vr c u0 x0 → vr c u1 x1 → vr c u2 x2 → e_R c μ0 t μ → so c μ0 (k19 u0 u1 u2 t) (k19x x0 x1 x2 μ)) {v1 : Nat} {x_v1 : Int} (hv1 : vr c v1 x_v1) {v3 : Nat} {x_v3 : Int} (hv3 : vr c v3 x_v3) {v4 : Nat} {x_v4 : Int} (hv4 : vr c v4 x_v4) {t : e_T} {μ : am_M} (hR : e_R c μ0 t μ) : so c μ0 (E_Ck_takeAway_L19_b k19 v1 v3 v4 t) (Ck_takeAway_L19_b k19x x_v1 x_v3 x_v4 μ) := by
  unfold E_Ck_takeAway_L19_b Ck_takeAway_L19_b
  exact so_ltc hv4 hv3 (so_gd hv1 <|
    so_bd (s_Ln_codeKind hv1 hv4 hR) (fun a2 _ t3 _ ha2 hR3 =>
    so_eq ha2 vl_2 (so_bd (s_Ln_codeNumber hv1 hv4 hR3) (fun a4 _ t5 _ ha4 hR5 =>
    so_eq (vr_and (vr_shr (vr_or (vr_rk hR5 (x := 30) (y := 5) rfl) (vr_rk hR5 (x := 30) (y := 6) rfl)) ha4) vl_1) vl_0 (so_bd (s_Ck_blame vl_1 ha4 hR5) (fun a6 _ t7 _ ha6 hR7 =>
    s_Ck_takeAway_B67 hk19 hv1 hv3 hv4 ha4 hR7))
    (s_Ck_takeAway_B67 hk19 hv1 hv3 hv4 ha4 hR5)))
    (s_Ck_takeAway_B97 hk19 hv1 hv3 hv4 hR3)))
    (so_ret vl_0 hR)
set_option maxRecDepth 20000 in
theorem s_Ck_takeAway_L19 {c : Int} {μ0 : am_M} : ∀ (n N : Nat), n ≤ N → ∀ {v1 : Nat} {x_v1 : Int} (hv1 : vr c v1 x_v1) {v3 : Nat} {x_v3 : Int} (hv3 : vr c v3 x_v3) {v4 : Nat} {x_v4 : Int} (hv4 : vr c v4 x_v4) {t : e_T} {μ : am_M} (hR : e_R c μ0 t μ), so c μ0 (E_Ck_takeAway_L19 n v1 v3 v4 t) (Ck_takeAway_L19 N x_v1 x_v3 x_v4 μ) := by
  intro n
  induction n with
  | zero => intros; exact so_none
  | succ n ih =>
    intro N hN v1 x_v1 hv1 v3 x_v3 hv3 v4 x_v4 hv4 t μ hR
    obtain ⟨M, rfl⟩ : ∃ M, N = M + 1 := ⟨N - 1, by omega⟩
    exact s_Ck_takeAway_L19_b (k19 := E_Ck_takeAway_L19 n) (k19x := Ck_takeAway_L19 M) (fun hv1 hv3 hv4 hR => ih M (by omega) hv1 hv3 hv4 hR) hv1 hv3 hv4 hR
set_option maxRecDepth 20000 in
theorem s_Ck_takeAway {c : Int} {μ0 : am_M} {v1 : Nat} {x_v1 : Int} (hv1 : vr c v1 x_v1) {v2 : Nat} {x_v2 : Int} (hv2 : vr c v2 x_v2) {t : e_T} {μ : am_M} (hR : e_R c μ0 t μ) : so c μ0 (E_Ck_takeAway v1 v2 t) (Ck_takeAway x_v1 x_v2 μ) := by
  unfold E_Ck_takeAway Ck_takeAway
  exact so_gd hv1 <|
    so_F (vr_of 9 rfl hv1) (fun f1 hf1 => so_bd (s_X_at hf1 hv2 hR) (fun a2 _ t3 _ ha2 hR3 =>
    so_F (vr_of 8 rfl hv1) (fun f2 hf2 => so_bd (s_X_at hf2 hv2 hR3) (fun a4 _ t5 _ ha4 hR5 =>
    s_Ck_takeAway_L19 4096 am_FU e_FU hv1 ha2 ha4 hR5))))
set_option maxRecDepth 20000 in
theorem s_Ck_lay {c : Int} {μ0 : am_M} {v1 : Nat} {x_v1 : Int} (hv1 : vr c v1 x_v1) {v2 : Nat} {x_v2 : Int} (hv2 : vr c v2 x_v2) {t : e_T} {μ : am_M} (hR : e_R c μ0 t μ) : so c μ0 (E_Ck_lay v1 v2 t) (Ck_lay x_v1 x_v2 μ) := by
  unfold E_Ck_lay Ck_lay
  exact so_eq hv1 vl_m1 (so_ret vl_0 hR)
    (so_eq (vr_and (vr_shr (vr_or (vr_rk hR (x := 30) (y := 5) rfl) (vr_rk hR (x := 30) (y := 6) rfl)) hv1) vl_1) vl_0 (so_eq hv2 vl_1 (so_F (vr_or (vr_rk hR (x := 30) (y := 5) rfl) (vr_shl vl_1 hv1)) (fun f1 hf1 => so_pf vl_30 vl_5 hf1 hR (fun t2 _ hR2 =>
    so_ret vl_0 hR2)))
    (so_F (vr_or (vr_rk hR (x := 30) (y := 6) rfl) (vr_shl vl_1 hv1)) (fun f2 hf2 => so_pf vl_30 vl_6 hf2 hR (fun t1 _ hR1 =>
    so_ret vl_0 hR1))))
    (so_bd (s_Ck_blame vl_2 hv1 hR) (fun a3 _ t4 _ ha3 hR4 =>
    so_ret vl_0 hR4)))
set_option maxRecDepth 20000 in
theorem s_Ck_turnToElse {c : Int} {μ0 : am_M} {v1 : Nat} {x_v1 : Int} (hv1 : vr c v1 x_v1) {t : e_T} {μ : am_M} (hR : e_R c μ0 t μ) : so c μ0 (E_Ck_turnToElse v1 t) (Ck_turnToElse x_v1 μ) := by
  unfold E_Ck_turnToElse Ck_turnToElse
  exact so_F (vr_sub (vr_rk hR (x := 30) (y := 7) rfl) vl_1) (fun f1 hf1 => so_F (vr_rk hR (x := 30) (y := 5) rfl) (fun f2 hf2 => so_bd (s_X_put vl_33 hf1 hf2 hR) (fun a1 _ t2 _ ha1 hR2 =>
    so_F (vr_sub (vr_rk hR (x := 30) (y := 7) rfl) vl_1) (fun f3 hf3 => so_F (vr_rk hR2 (x := 30) (y := 6) rfl) (fun f4 hf4 => so_bd (s_X_put vl_34 hf3 hf4 hR2) (fun a3 _ t4 _ ha3 hR4 =>
    so_F (vr_sub (vr_rk hR (x := 30) (y := 7) rfl) vl_1) (fun f5 hf5 => so_bd (s_X_put vl_35 hf5 hv1 hR4) (fun a5 _ t6 _ ha5 hR6 =>
    so_F (vr_sub (vr_rk hR (x := 30) (y := 7) rfl) vl_1) (fun f6 hf6 => so_bd (s_X_at vl_31 hf6 hR6) (fun a7 _ t8 _ ha7 hR8 =>
    so_pf vl_30 vl_5 ha7 hR8 (fun t9 _ hR9 =>
    so_F (vr_sub (vr_rk hR (x := 30) (y := 7) rfl) vl_1) (fun f7 hf7 => so_bd (s_X_at vl_32 hf7 hR9) (fun a10 _ t11 _ ha10 hR11 =>
    so_pf vl_30 vl_6 ha10 hR11 (fun t12 _ hR12 =>
    so_ret vl_0 hR12))))))))))))))
set_option maxRecDepth 20000 in
theorem s_JI_ntz_B74 {c : Int} {μ0 : am_M} {v0 : Nat} {x_v0 : Int} (hv0 : vr c v0 x_v0) {v1 : Nat} {x_v1 : Int} (hv1 : vr c v1 x_v1) {t : e_T} {μ : am_M} (hR : e_R c μ0 t μ) : so c μ0 (E_JI_ntz_B74 v0 v1 t) (JI_ntz_B74 x_v0 x_v1 μ) := by
  unfold E_JI_ntz_B74 JI_ntz_B74
  exact so_ret (vr_add hv1 (vr_ushr hv0 vl_1)) hR
set_option maxRecDepth 20000 in
theorem s_JI_ntz_B62 {c : Int} {μ0 : am_M} {v0 : Nat} {x_v0 : Int} (hv0 : vr c v0 x_v0) {v1 : Nat} {x_v1 : Int} (hv1 : vr c v1 x_v1) {t : e_T} {μ : am_M} (hR : e_R c μ0 t μ) : so c μ0 (E_JI_ntz_B62 v0 v1 t) (JI_ntz_B62 x_v0 x_v1 μ) := by
  unfold E_JI_ntz_B62 JI_ntz_B62
  exact so_lec hv0 vl_4 (s_JI_ntz_B74 hv0 hv1 hR)
    (so_F (vr_ushr hv0 vl_2) (fun f1 hf1 => so_F (vr_add hv1 vl_2) (fun f2 hf2 => s_JI_ntz_B74 hf1 hf2 hR)))
set_option maxRecDepth 20000 in
theorem s_JI_ntz_B49 {c : Int} {μ0 : am_M} {v0 : Nat} {x_v0 : Int} (hv0 : vr c v0 x_v0) {v1 : Nat} {x_v1 : Int} (hv1 : vr c v1 x_v1) {t : e_T} {μ : am_M} (hR : e_R c μ0 t μ) : so c μ0 (E_JI_ntz_B49 v0 v1 t) (JI_ntz_B49 x_v0 x_v1 μ) := by
  unfold E_JI_ntz_B49 JI_ntz_B49
  exact so_lec hv0 vl_16 (s_JI_ntz_B62 hv0 hv1 hR)
    (so_F (vr_ushr hv0 vl_4) (fun f1 hf1 => so_F (vr_add hv1 vl_4) (fun f2 hf2 => s_JI_ntz_B62 hf1 hf2 hR)))
set_option maxRecDepth 20000 in
theorem s_JI_ntz_B34 {c : Int} {μ0 : am_M} {v0 : Nat} {x_v0 : Int} (hv0 : vr c v0 x_v0) {v1 : Nat} {x_v1 : Int} (hv1 : vr c v1 x_v1) {t : e_T} {μ : am_M} (hR : e_R c μ0 t μ) : so c μ0 (E_JI_ntz_B34 v0 v1 t) (JI_ntz_B34 x_v0 x_v1 μ) := by
  unfold E_JI_ntz_B34 JI_ntz_B34
  exact so_lec hv0 vl_256 (s_JI_ntz_B49 hv0 hv1 hR)
    (so_F (vr_ushr hv0 vl_8) (fun f1 hf1 => so_F (vr_add hv1 vl_8) (fun f2 hf2 => s_JI_ntz_B49 hf1 hf2 hR)))
set_option maxRecDepth 20000 in
theorem s_JI_ntz {c : Int} {μ0 : am_M} {v0 : Nat} {x_v0 : Int} (hv0 : vr c v0 x_v0) {t : e_T} {μ : am_M} (hR : e_R c μ0 t μ) : so c μ0 (E_JI_ntz v0 t) (JI_ntz x_v0 μ) := by
  unfold E_JI_ntz JI_ntz
  exact so_lec (vr_and (vr_xor hv0 vl_m1) (vr_sub hv0 vl_1)) vl_0 (so_ret (vr_and (vr_and (vr_xor hv0 vl_m1) (vr_sub hv0 vl_1)) vl_32) hR)
    (so_lec (vr_and (vr_xor hv0 vl_m1) (vr_sub hv0 vl_1)) vl_65536 (so_F (vr_and (vr_xor hv0 vl_m1) (vr_sub hv0 vl_1)) (fun f1 hf1 => s_JI_ntz_B34 hf1 vl_1 hR))
    (so_lt (vr_ushr (vr_and (vr_xor hv0 vl_m1) (vr_sub hv0 vl_1)) vl_16) (fun a1 _ ha1 =>
    so_F (vr_add vl_1 vl_16) (fun f2 hf2 => s_JI_ntz_B34 ha1 hf2 hR))))
set_option maxRecDepth 20000 in
theorem s_Ck_joinBranches_B40 {c : Int} {μ0 : am_M} {v1 : Nat} {x_v1 : Int} (hv1 : vr c v1 x_v1) {v2 : Nat} {x_v2 : Int} (hv2 : vr c v2 x_v2) {t : e_T} {μ : am_M} (hR : e_R c μ0 t μ) : so c μ0 (E_Ck_joinBranches_B40 v1 v2 t) (Ck_joinBranches_B40 x_v1 x_v2 μ) := by
  unfold E_Ck_joinBranches_B40 Ck_joinBranches_B40
  exact so_F (vr_rk hR (x := 30) (y := 7) rfl) (fun f1 hf1 => so_bd (s_X_at vl_34 hf1 hR) (fun a1 _ t2 _ ha1 hR2 =>
    so_gd hv1 <|
    so_F (vr_rk hR2 (x := 30) (y := 7) rfl) (fun f2 hf2 => so_bd (s_X_at vl_35 hf2 hR2) (fun a4 _ t5 _ ha4 hR5 =>
    so_F (vr_of 7 rfl hv1) (fun f3 hf3 => so_F (vr_and ha1 (vr_xor (vr_rk hR5 (x := 30) (y := 6) rfl) vl_m1)) (fun f4 hf4 => so_bd (s_X_put hf3 ha4 hf4 hR5) (fun a6 _ t7 _ ha6 hR7 =>
    so_F (vr_of 7 rfl hv1) (fun f5 hf5 => so_F (vr_and (vr_rk hR7 (x := 30) (y := 6) rfl) (vr_xor ha1 vl_m1)) (fun f6 hf6 => so_bd (s_X_put hf5 hv2 hf6 hR7) (fun a8 _ t9 _ ha8 hR9 =>
    so_F (vr_and (vr_rk hR9 (x := 30) (y := 6) rfl) ha1) (fun f7 hf7 => so_pf vl_30 vl_6 hf7 hR9 (fun t10 _ hR10 =>
    so_ret vl_0 hR10))))))))))))
set_option maxRecDepth 20000 in
theorem s_Ck_joinBranches {c : Int} {μ0 : am_M} {v1 : Nat} {x_v1 : Int} (hv1 : vr c v1 x_v1) {v2 : Nat} {x_v2 : Int} (hv2 : vr c v2 x_v2) {t : e_T} {μ : am_M} (hR : e_R c μ0 t μ) : so c μ0 (E_Ck_joinBranches v1 v2 t) (Ck_joinBranches x_v1 x_v2 μ) := by
  unfold E_Ck_joinBranches Ck_joinBranches
  exact so_F (vr_sub (vr_rk hR (x := 30) (y := 7) rfl) vl_1) (fun f1 hf1 => so_pf vl_30 vl_7 hf1 hR (fun t1 _ hR1 =>
    so_F (vr_rk hR1 (x := 30) (y := 7) rfl) (fun f2 hf2 => so_bd (s_X_at vl_33 hf2 hR1) (fun a2 _ t3 _ ha2 hR3 =>
    so_eq (vr_xor ha2 (vr_rk hR3 (x := 30) (y := 5) rfl)) vl_0 (s_Ck_joinBranches_B40 hv1 hv2 hR3)
    (so_F (vr_xor ha2 (vr_rk hR3 (x := 30) (y := 5) rfl)) (fun f3 hf3 => so_bd (s_JI_ntz hf3 hR3) (fun a4 _ t5 _ ha4 hR5 =>
    so_bd (s_Ck_blame vl_3 ha4 hR5) (fun a6 _ t7 _ ha6 hR7 =>
    s_Ck_joinBranches_B40 hv1 hv2 hR7))))))))
set_option maxRecDepth 20000 in
theorem s_Ck_checkLine {c : Int} {μ0 : am_M} {v1 : Nat} {x_v1 : Int} (hv1 : vr c v1 x_v1) {v2 : Nat} {x_v2 : Int} (hv2 : vr c v2 x_v2) {t : e_T} {μ : am_M} (hR : e_R c μ0 t μ) : so c μ0 (E_Ck_checkLine v1 v2 t) (Ck_checkLine x_v1 x_v2 μ) := by
  unfold E_Ck_checkLine Ck_checkLine
  exact so_bd (s_Ck_takeAway hv1 hv2 hR) (fun a1 _ t2 _ ha1 hR2 =>
    so_gd hv1 <|
    so_F (vr_of 2 rfl hv1) (fun f1 hf1 => so_bd (s_X_at hf1 hv2 hR2) (fun a4 _ t5 _ ha4 hR5 =>
    so_F (vr_of 4 rfl hv1) (fun f2 hf2 => so_bd (s_X_at hf2 hv2 hR5) (fun a6 _ t7 _ ha6 hR7 =>
    so_bd (s_Ck_lay ha4 ha6 hR7) (fun a8 _ t9 _ ha8 hR9 =>
    so_F (vr_of 3 rfl hv1) (fun f3 hf3 => so_bd (s_X_at hf3 hv2 hR9) (fun a10 _ t11 _ ha10 hR11 =>
    so_F (vr_of 4 rfl hv1) (fun f4 hf4 => so_bd (s_X_at hf4 hv2 hR11) (fun a12 _ t13 _ ha12 hR13 =>
    so_bd (s_Ck_lay ha10 ha12 hR13) (fun a14 _ t15 _ ha14 hR15 =>
    so_F (vr_of 1 rfl hv1) (fun f5 hf5 => so_bd (s_X_at hf5 hv2 hR15) (fun a16 _ t17 _ ha16 hR17 =>
    so_eq ha16 vl_5 (so_F (vr_rk hR17 (x := 30) (y := 7) rfl) (fun f6 hf6 => so_F (vr_rk hR17 (x := 30) (y := 5) rfl) (fun f7 hf7 => so_bd (s_X_put vl_31 hf6 hf7 hR17) (fun a18 _ t19 _ ha18 hR19 =>
    so_F (vr_rk hR19 (x := 30) (y := 7) rfl) (fun f8 hf8 => so_F (vr_rk hR19 (x := 30) (y := 6) rfl) (fun f9 hf9 => so_bd (s_X_put vl_32 hf8 hf9 hR19) (fun a20 _ t21 _ ha20 hR21 =>
    so_F (vr_add (vr_rk hR21 (x := 30) (y := 7) rfl) vl_1) (fun f10 hf10 => so_pf vl_30 vl_7 hf10 hR21 (fun t22 _ hR22 =>
    so_ret vl_0 hR22)))))))))
    (so_eq ha16 vl_6 (so_bd (s_Ck_turnToElse hv2 hR17) (fun a23 _ t24 _ ha23 hR24 =>
    so_ret vl_0 hR24))
    (so_eq ha16 vl_7 (so_bd (s_Ck_joinBranches hv1 hv2 hR17) (fun a25 _ t26 _ ha25 hR26 =>
    so_ret vl_0 hR26))
    (so_eq ha16 vl_8 (so_eq (vr_rk hR17 (x := 30) (y := 5) rfl) vl_0 (so_ret vl_0 hR17)
    (so_F (vr_rk hR17 (x := 30) (y := 5) rfl) (fun f11 hf11 => so_bd (s_JI_ntz hf11 hR17) (fun a27 _ t28 _ ha27 hR28 =>
    so_bd (s_Ck_blame vl_4 ha27 hR28) (fun a29 _ t30 _ ha29 hR30 =>
    so_ret vl_0 hR30)))))
    (so_ret vl_0 hR17)))))))))))))))))
set_option maxRecDepth 20000 in
theorem s_Ck_checkBill_B81 {c : Int} {μ0 : am_M} {k44 : Nat → Nat → Nat → Nat → Nat → e_T → e_O} {k44x : Int → Int → Int → Int → Int → am_M → am_O} (hk44 : ∀ {u0 : Nat} {x0 : Int} {u1 : Nat} {x1 : Int} {u2 : Nat} {x2 : Int} {u3 : Nat} {x3 : Int} {u4 : Nat} {x4 : Int} {t : e_T} {μ : am_M}, vr c u0 x0 → vr c u1 x1 → vr c u2 x2 → vr c u3 x3 → vr c u4 x4 → e_R c μ0 t μ → so c μ0 (k44 u0 u1 u2 u3 u4 t) (k44x x0 x1 x2 x3 x4 μ)) {v1 : Nat} {x_v1 : Int} (hv1 : vr c v1 x_v1) {v2 : Nat} {x_v2 : Int} (hv2 : vr c v2 x_v2) {v4 : Nat} {x_v4 : Int} (hv4 : vr c v4 x_v4) {v5 : Nat} {x_v5 : Int} (hv5 : vr c v5 x_v5) {s0 : Nat} {x_s0 : Int} (hs0 : vr c s0 x_s0) {t : e_T} {μ : am_M} (hR : e_R c μ0 t μ) : so c μ0 (E_Ck_checkBill_B81 k44 v1 v2 v4 v5 s0 t) (Ck_checkBill_B81 k44x x_v1 x_v2 x_v4 x_v5 x_s0 μ) := by
  unfold E_Ck_checkBill_B81 Ck_checkBill_B81
  exact so_F (vr_add hv5 vl_1) (fun f1 hf1 => hk44 hv1 hv2 hs0 hv4 hf1 hR)
set_option maxRecDepth 20000 in
theorem s_Ck_checkBill_B88 {c : Int} {μ0 : am_M} {v1 : Nat} {x_v1 : Int} (hv1 : vr c v1 x_v1) {v2 : Nat} {x_v2 : Int} (hv2 : vr c v2 x_v2) {v3 : Nat} {x_v3 : Int} (hv3 : vr c v3 x_v3) {t : e_T} {μ : am_M} (hR : e_R c μ0 t μ) : so c μ0 (E_Ck_checkBill_B88 v1 v2 v3 t) (Ck_checkBill_B88 x_v1 x_v2 x_v3 μ) := by
  unfold E_Ck_checkBill_B88 Ck_checkBill_B88
  exact so_gd hv1 <|
    so_F (vr_of 19 rfl hv1) (fun f1 hf1 => so_F (vr_rk hR (x := 30) (y := 8) rfl) (fun f2 hf2 => so_bd (s_X_put hf1 hv2 hf2 hR) (fun a2 _ t3 _ ha2 hR3 =>
    so_F (vr_of 20 rfl hv1) (fun f3 hf3 => so_bd (s_X_put hf3 hv2 hv3 hR3) (fun a4 _ t5 _ ha4 hR5 =>
    so_F (vr_of 21 rfl hv1) (fun f4 hf4 => so_F (vr_rk hR5 (x := 30) (y := 9) rfl) (fun f5 hf5 => so_bd (s_X_put hf4 hv2 hf5 hR5) (fun a6 _ t7 _ ha6 hR7 =>
    so_ret vl_0 hR7))))))))
set_option maxRecDepth 20000 in
theorem s_Ck_checkBill_L44_b {c : Int} {μ0 : am_M} {k44 : Nat → Nat → Nat → Nat → Nat → e_T → e_O} {k44x : Int → Int → Int → Int → Int → am_M → am_O} (hk44 : ∀ {u0 : Nat} {x0 : Int} {u1 : Nat} {x1 : Int} {u2 : Nat} {x2 : Int} {u3 : Nat} {x3 : Int} {u4 : Nat} {x4 : Int} {t : e_T} {μ : am_M}, vr c u0 x0 → vr c u1 x1 → vr c u2 x2 → vr c u3 x3 → vr c u4 x4 → e_R c μ0 t μ → so c μ0 (k44 u0 u1 u2 u3 u4 t) (k44x x0 x1 x2 x3 x4 μ)) {v1 : Nat} {x_v1 : Int} (hv1 : vr c v1 x_v1) {v2 : Nat} {x_v2 : Int} (hv2 : vr c v2 x_v2) {v3 : Nat} {x_v3 : Int} (hv3 : vr c v3 x_v3) {v4 : Nat} {x_v4 : Int} (hv4 : vr c v4 x_v4) {v5 : Nat} {x_v5 : Int} (hv5 : vr c v5 x_v5) {t : e_T} {μ : am_M} (hR : e_R c μ0 t μ) : so c μ0 (E_Ck_checkBill_L44_b k44 v1 v2 v3 v4 v5 t) (Ck_checkBill_L44_b k44x x_v1 x_v2 x_v3 x_v4 x_v5 μ) := by
  unfold E_Ck_checkBill_L44_b Ck_checkBill_L44_b
  exact so_ltc hv5 hv4 (so_eq (vr_rk hR (x := 30) (y := 8) rfl) vl_0 (so_gd hv1 <|
    so_F (vr_of 1 rfl hv1) (fun f1 hf1 => so_bd (s_Ck_checkLine hf1 hv5 hR) (fun a2 _ t3 _ ha2 hR3 =>
    so_eq (vr_rk hR3 (x := 30) (y := 8) rfl) vl_0 (s_Ck_checkBill_B81 hk44 hv1 hv2 hv4 hv5 vl_m1 hR3)
    (s_Ck_checkBill_B81 hk44 hv1 hv2 hv4 hv5 hv5 hR3))))
    (s_Ck_checkBill_B88 hv1 hv2 hv3 hR))
    (s_Ck_checkBill_B88 hv1 hv2 hv3 hR)
set_option maxRecDepth 20000 in
theorem s_Ck_checkBill_L44 {c : Int} {μ0 : am_M} : ∀ (n N : Nat), n ≤ N → ∀ {v1 : Nat} {x_v1 : Int} (hv1 : vr c v1 x_v1) {v2 : Nat} {x_v2 : Int} (hv2 : vr c v2 x_v2) {v3 : Nat} {x_v3 : Int} (hv3 : vr c v3 x_v3) {v4 : Nat} {x_v4 : Int} (hv4 : vr c v4 x_v4) {v5 : Nat} {x_v5 : Int} (hv5 : vr c v5 x_v5) {t : e_T} {μ : am_M} (hR : e_R c μ0 t μ), so c μ0 (E_Ck_checkBill_L44 n v1 v2 v3 v4 v5 t) (Ck_checkBill_L44 N x_v1 x_v2 x_v3 x_v4 x_v5 μ) := by
  intro n
  induction n with
  | zero => intros; exact so_none
  | succ n ih =>
    intro N hN v1 x_v1 hv1 v2 x_v2 hv2 v3 x_v3 hv3 v4 x_v4 hv4 v5 x_v5 hv5 t μ hR
    obtain ⟨M, rfl⟩ : ∃ M, N = M + 1 := ⟨N - 1, by omega⟩
    exact s_Ck_checkBill_L44_b (k44 := E_Ck_checkBill_L44 n) (k44x := Ck_checkBill_L44 M) (fun hv1 hv2 hv3 hv4 hv5 hR => ih M (by omega) hv1 hv2 hv3 hv4 hv5 hR) hv1 hv2 hv3 hv4 hv5 hR
set_option maxRecDepth 20000 in
theorem s_Ck_checkBill {c : Int} {μ0 : am_M} {v1 : Nat} {x_v1 : Int} (hv1 : vr c v1 x_v1) {v2 : Nat} {x_v2 : Int} (hv2 : vr c v2 x_v2) {t : e_T} {μ : am_M} (hR : e_R c μ0 t μ) : so c μ0 (E_Ck_checkBill v1 v2 t) (Ck_checkBill x_v1 x_v2 μ) := by
  unfold E_Ck_checkBill Ck_checkBill
  exact so_pf vl_30 vl_5 vl_0 hR (fun t1 _ hR1 =>
    so_pf vl_30 vl_6 vl_0 hR1 (fun t2 _ hR2 =>
    so_pf vl_30 vl_7 vl_0 hR2 (fun t3 _ hR3 =>
    so_pf vl_30 vl_8 vl_0 hR3 (fun t4 _ hR4 =>
    so_pf vl_30 vl_9 vl_m1 hR4 (fun t5 _ hR5 =>
    so_gd hv1 <|
    so_bd (s_Bi_lineBehind hv1 hv2 hR5) (fun a7 _ t8 _ ha7 hR8 =>
    so_F (vr_of 15 rfl hv1) (fun f1 hf1 => so_bd (s_X_at hf1 hv2 hR8) (fun a9 _ t10 _ ha9 hR10 =>
    s_Ck_checkBill_L44 4096 am_FU e_FU hv1 hv2 vl_m1 ha7 ha9 hR10))))))))
set_option maxRecDepth 20000 in
theorem s_Ck_isSound_B79 {c : Int} {μ0 : am_M} {k33 : Nat → Nat → Nat → Nat → Nat → e_T → e_O} {k33x : Int → Int → Int → Int → Int → am_M → am_O} (hk33 : ∀ {u0 : Nat} {x0 : Int} {u1 : Nat} {x1 : Int} {u2 : Nat} {x2 : Int} {u3 : Nat} {x3 : Int} {u4 : Nat} {x4 : Int} {t : e_T} {μ : am_M}, vr c u0 x0 → vr c u1 x1 → vr c u2 x2 → vr c u3 x3 → vr c u4 x4 → e_R c μ0 t μ → so c μ0 (k33 u0 u1 u2 u3 u4 t) (k33x x0 x1 x2 x3 x4 μ)) {v0 : Nat} {x_v0 : Int} (hv0 : vr c v0 x_v0) {v1 : Nat} {x_v1 : Int} (hv1 : vr c v1 x_v1) {v2 : Nat} {x_v2 : Int} (hv2 : vr c v2 x_v2) {v3 : Nat} {x_v3 : Int} (hv3 : vr c v3 x_v3) {v4 : Nat} {x_v4 : Int} (hv4 : vr c v4 x_v4) {t : e_T} {μ : am_M} (hR : e_R c μ0 t μ) : so c μ0 (E_Ck_isSound_B79 k33 v0 v1 v2 v3 v4 t) (Ck_isSound_B79 k33x x_v0 x_v1 x_v2 x_v3 x_v4 μ) := by
  unfold E_Ck_isSound_B79 Ck_isSound_B79
  exact so_F (vr_add hv4 vl_1) (fun f1 hf1 => hk33 hv0 hv1 hv2 hv3 hf1 hR)
set_option maxRecDepth 20000 in
theorem s_Ck_isSound_L33_b {c : Int} {μ0 : am_M} {k33 : Nat → Nat → Nat → Nat → Nat → e_T → e_O} {k33x : Int → Int → Int → Int → Int → am_M → am_O} (hk33 : ∀ {u0 : Nat} {x0 : Int} {u1 : Nat} {x1 : Int} {u2 : Nat} {x2 : Int} {u3 : Nat} {x3 : Int} {u4 : Nat} {x4 : Int} {t : e_T} {μ : am_M}, vr c u0 x0 → vr c u1 x1 → vr c u2 x2 → vr c u3 x3 → vr c u4 x4 → e_R c μ0 t μ → so c μ0 (k33 u0 u1 u2 u3 u4 t) (k33x x0 x1 x2 x3 x4 μ)) {v0 : Nat} {x_v0 : Int} (hv0 : vr c v0 x_v0) {v1 : Nat} {x_v1 : Int} (hv1 : vr c v1 x_v1) {v2 : Nat} {x_v2 : Int} (hv2 : vr c v2 x_v2) {v3 : Nat} {x_v3 : Int} (hv3 : vr c v3 x_v3) {v4 : Nat} {x_v4 : Int} (hv4 : vr c v4 x_v4) {t : e_T} {μ : am_M} (hR : e_R c μ0 t μ) : so c μ0 (E_Ck_isSound_L33_b k33 v0 v1 v2 v3 v4 t) (Ck_isSound_L33_b k33x x_v0 x_v1 x_v2 x_v3 x_v4 μ) := by
  unfold E_Ck_isSound_L33_b Ck_isSound_L33_b
  exact so_ltc hv4 hv3 (so_gd hv0 <|
    so_gd (vr_of 1 rfl hv0) <|
    so_F (vr_of 5 rfl (vr_of 1 rfl hv0)) (fun f1 hf1 => so_bd (s_X_at hf1 hv4 hR) (fun a3 _ t4 _ ha3 hR4 =>
    so_eq ha3 vl_m1 (s_Ck_isSound_B79 hk33 hv0 hv1 hv2 hv3 hv4 hR4)
    (so_eq ha3 hv1 (s_Ck_isSound_B79 hk33 hv0 hv1 hv2 hv3 hv4 hR4)
    (so_F (vr_of 22 rfl hv0) (fun f2 hf2 => so_bd (s_X_at hf2 ha3 hR4) (fun a5 _ t6 _ ha5 hR6 =>
    so_eq ha5 vl_0 (s_Ck_isSound_B79 hk33 hv0 hv1 vl_0 hv3 hv4 hR6)
    (s_Ck_isSound_B79 hk33 hv0 hv1 hv2 hv3 hv4 hR6))))))))
    (so_rb hv2 hR)
set_option maxRecDepth 20000 in
theorem s_Ck_isSound_L33 {c : Int} {μ0 : am_M} : ∀ (n N : Nat), n ≤ N → ∀ {v0 : Nat} {x_v0 : Int} (hv0 : vr c v0 x_v0) {v1 : Nat} {x_v1 : Int} (hv1 : vr c v1 x_v1) {v2 : Nat} {x_v2 : Int} (hv2 : vr c v2 x_v2) {v3 : Nat} {x_v3 : Int} (hv3 : vr c v3 x_v3) {v4 : Nat} {x_v4 : Int} (hv4 : vr c v4 x_v4) {t : e_T} {μ : am_M} (hR : e_R c μ0 t μ), so c μ0 (E_Ck_isSound_L33 n v0 v1 v2 v3 v4 t) (Ck_isSound_L33 N x_v0 x_v1 x_v2 x_v3 x_v4 μ) := by
  intro n
  induction n with
  | zero => intros; exact so_none
  | succ n ih =>
    intro N hN v0 x_v0 hv0 v1 x_v1 hv1 v2 x_v2 hv2 v3 x_v3 hv3 v4 x_v4 hv4 t μ hR
    obtain ⟨M, rfl⟩ : ∃ M, N = M + 1 := ⟨N - 1, by omega⟩
    exact s_Ck_isSound_L33_b (k33 := E_Ck_isSound_L33 n) (k33x := Ck_isSound_L33 M) (fun hv0 hv1 hv2 hv3 hv4 hR => ih M (by omega) hv0 hv1 hv2 hv3 hv4 hR) hv0 hv1 hv2 hv3 hv4 hR
set_option maxRecDepth 20000 in
theorem s_Ck_isSound_B16 {c : Int} {μ0 : am_M} {v0 : Nat} {x_v0 : Int} (hv0 : vr c v0 x_v0) {v1 : Nat} {x_v1 : Int} (hv1 : vr c v1 x_v1) {s0 : Nat} {x_s0 : Int} (hs0 : vr c s0 x_s0) {t : e_T} {μ : am_M} (hR : e_R c μ0 t μ) : so c μ0 (E_Ck_isSound_B16 v0 v1 s0 t) (Ck_isSound_B16 x_v0 x_v1 x_s0 μ) := by
  unfold E_Ck_isSound_B16 Ck_isSound_B16
  exact so_gd hv0 <|
    so_bd (s_Bi_lineBehind hv0 hv1 hR) (fun a2 _ t3 _ ha2 hR3 =>
    so_F (vr_of 15 rfl hv0) (fun f1 hf1 => so_bd (s_X_at hf1 hv1 hR3) (fun a4 _ t5 _ ha4 hR5 =>
    s_Ck_isSound_L33 4096 am_FU e_FU hv0 hv1 hs0 ha2 ha4 hR5)))
set_option maxRecDepth 20000 in
theorem s_Ck_isSound {c : Int} {μ0 : am_M} {v0 : Nat} {x_v0 : Int} (hv0 : vr c v0 x_v0) {v1 : Nat} {x_v1 : Int} (hv1 : vr c v1 x_v1) {t : e_T} {μ : am_M} (hR : e_R c μ0 t μ) : so c μ0 (E_Ck_isSound v0 v1 t) (Ck_isSound x_v0 x_v1 μ) := by
  unfold E_Ck_isSound Ck_isSound
  exact so_gd hv0 <|
    so_F (vr_of 19 rfl hv0) (fun f1 hf1 => so_bd (s_X_at hf1 hv1 hR) (fun a2 _ t3 _ ha2 hR3 =>
    so_eq ha2 vl_0 (s_Ck_isSound_B16 hv0 hv1 vl_1 hR3)
    (s_Ck_isSound_B16 hv0 hv1 vl_0 hR3)))
set_option maxRecDepth 20000 in
theorem s_Ck_checkAll_B34 {c : Int} {μ0 : am_M} {k2 : Nat → Nat → e_T → e_O} {k2x : Int → Int → am_M → am_O} (hk2 : ∀ {u0 : Nat} {x0 : Int} {u1 : Nat} {x1 : Int} {t : e_T} {μ : am_M}, vr c u0 x0 → vr c u1 x1 → e_R c μ0 t μ → so c μ0 (k2 u0 u1 t) (k2x x0 x1 μ)) {v1 : Nat} {x_v1 : Int} (hv1 : vr c v1 x_v1) {v2 : Nat} {x_v2 : Int} (hv2 : vr c v2 x_v2) {s0 : Nat} {x_s0 : Int} (hs0 : vr c s0 x_s0) {s1 : Nat} {x_s1 : Int} (hs1 : vr c s1 x_s1) {s2 : Nat} {x_s2 : Int} (hs2 : vr c s2 x_s2) {t : e_T} {μ : am_M} (hR : e_R c μ0 t μ) : so c μ0 (E_Ck_checkAll_B34 k2 v1 v2 s0 s1 s2 t) (Ck_checkAll_B34 k2x x_v1 x_v2 x_s0 x_s1 x_s2 μ) := by
  unfold E_Ck_checkAll_B34 Ck_checkAll_B34
  exact so_bd (s_X_put hs0 hs1 hs2 hR) (fun a1 _ t2 _ ha1 hR2 =>
    so_F (vr_add hv2 vl_1) (fun f1 hf1 => hk2 hv1 hf1 hR2))
set_option maxRecDepth 20000 in
theorem s_Ck_checkAll_L2_b {c : Int} {μ0 : am_M} {k2 : Nat → Nat → e_T → e_O} {k2x : Int → Int → am_M → am_O} (hk2 : ∀ {u0 : Nat} {x0 : Int} {u1 : Nat} {x1 : Int} {t : e_T} {μ : am_M}, vr c u0 x0 → vr c u1 x1 → e_R c μ0 t μ → so c μ0 (k2 u0 u1 t) (k2x x0 x1 μ)) {v1 : Nat} {x_v1 : Int} (hv1 : vr c v1 x_v1) {v2 : Nat} {x_v2 : Int} (hv2 : vr c v2 x_v2) {t : e_T} {μ : am_M} (hR : e_R c μ0 t μ) : so c μ0 (E_Ck_checkAll_L2_b k2 v1 v2 t) (Ck_checkAll_L2_b k2x x_v1 x_v2 μ) := by
  unfold E_Ck_checkAll_L2_b Ck_checkAll_L2_b
  exact so_gd hv1 <|
    so_ltc hv2 (vr_rd hR hv1 vl_13) (so_bd (s_Ck_checkBill hv1 hv2 hR) (fun a2 _ t3 _ ha2 hR3 =>
    so_bd (s_Ck_isSound hv1 hv2 hR3) (fun a4 _ t5 _ ha4 hR5 =>
    so_eq ha4 vl_0 (so_F (vr_of 22 rfl hv1) (fun f1 hf1 => s_Ck_checkAll_B34 hk2 hv1 hv2 hf1 hv2 vl_0 hR5))
    (so_F (vr_of 22 rfl hv1) (fun f2 hf2 => s_Ck_checkAll_B34 hk2 hv1 hv2 hf2 hv2 vl_1 hR5)))))
    (so_ret vl_0 hR)
set_option maxRecDepth 20000 in
theorem s_Ck_checkAll_L2 {c : Int} {μ0 : am_M} : ∀ (n N : Nat), n ≤ N → ∀ {v1 : Nat} {x_v1 : Int} (hv1 : vr c v1 x_v1) {v2 : Nat} {x_v2 : Int} (hv2 : vr c v2 x_v2) {t : e_T} {μ : am_M} (hR : e_R c μ0 t μ), so c μ0 (E_Ck_checkAll_L2 n v1 v2 t) (Ck_checkAll_L2 N x_v1 x_v2 μ) := by
  intro n
  induction n with
  | zero => intros; exact so_none
  | succ n ih =>
    intro N hN v1 x_v1 hv1 v2 x_v2 hv2 t μ hR
    obtain ⟨M, rfl⟩ : ∃ M, N = M + 1 := ⟨N - 1, by omega⟩
    exact s_Ck_checkAll_L2_b (k2 := E_Ck_checkAll_L2 n) (k2x := Ck_checkAll_L2 M) (fun hv1 hv2 hR => ih M (by omega) hv1 hv2 hR) hv1 hv2 hR
set_option maxRecDepth 20000 in
theorem s_Ck_checkAll {c : Int} {μ0 : am_M} {v1 : Nat} {x_v1 : Int} (hv1 : vr c v1 x_v1) {t : e_T} {μ : am_M} (hR : e_R c μ0 t μ) : so c μ0 (E_Ck_checkAll v1 t) (Ck_checkAll x_v1 μ) := by
  unfold E_Ck_checkAll Ck_checkAll
  exact s_Ck_checkAll_L2 4096 am_FU e_FU hv1 vl_0 hR
set_option maxRecDepth 20000 in
theorem s_Ln_add {c : Int} {μ0 : am_M} {b : Nat} {x_b : Int} (hb : vr c b x_b) {v1 : Nat} {x_v1 : Int} (hv1 : vr c v1 x_v1) {t : e_T} {μ : am_M} (hR : e_R c μ0 t μ) : so c μ0 (E_Ln_add b v1 t) (Ln_add x_b x_v1 μ) := by
  unfold E_Ln_add Ln_add
  exact so_gd hb <|
    so_F (vr_of 1 rfl hb) (fun f1 hf1 => so_F (vr_rd hR hb vl_10) (fun f2 hf2 => so_bd (s_X_put hf1 hf2 hv1 hR) (fun a2 _ t3 _ ha2 hR3 =>
    so_F (vr_of 2 rfl hb) (fun f3 hf3 => so_F (vr_rd hR hb vl_10) (fun f4 hf4 => so_bd (s_X_put hf3 hf4 vl_m1 hR3) (fun a4 _ t5 _ ha4 hR5 =>
    so_F (vr_of 3 rfl hb) (fun f5 hf5 => so_F (vr_rd hR hb vl_10) (fun f6 hf6 => so_bd (s_X_put hf5 hf6 vl_m1 hR5) (fun a6 _ t7 _ ha6 hR7 =>
    so_F (vr_of 4 rfl hb) (fun f7 hf7 => so_F (vr_rd hR hb vl_10) (fun f8 hf8 => so_bd (s_X_put hf7 hf8 vl_1 hR7) (fun a8 _ t9 _ ha8 hR9 =>
    so_F (vr_of 5 rfl hb) (fun f9 hf9 => so_F (vr_rd hR hb vl_10) (fun f10 hf10 => so_bd (s_X_put hf9 hf10 vl_m1 hR9) (fun a10 _ t11 _ ha10 hR11 =>
    so_F (vr_of 6 rfl hb) (fun f11 hf11 => so_F (vr_rd hR hb vl_10) (fun f12 hf12 => so_bd (s_X_put hf11 hf12 vl_m1 hR11) (fun a12 _ t13 _ ha12 hR13 =>
    so_F (vr_of 7 rfl hb) (fun f13 hf13 => so_F (vr_rd hR hb vl_10) (fun f14 hf14 => so_bd (s_X_put hf13 hf14 vl_0 hR13) (fun a14 _ t15 _ ha14 hR15 =>
    so_F (vr_of 8 rfl hb) (fun f15 hf15 => so_F (vr_rd hR hb vl_10) (fun f16 hf16 => so_F (vr_rd hR15 hb vl_11) (fun f17 hf17 => so_bd (s_X_put hf15 hf16 hf17 hR15) (fun a16 _ t17 _ ha16 hR17 =>
    so_F (vr_of 9 rfl hb) (fun f18 hf18 => so_F (vr_rd hR hb vl_10) (fun f19 hf19 => so_F (vr_rd hR17 hb vl_11) (fun f20 hf20 => so_bd (s_X_put hf18 hf19 hf20 hR17) (fun a18 _ t19 _ ha18 hR19 =>
    so_F (vr_add (vr_rd hR19 hb vl_10) vl_1) (fun f21 hf21 => so_pf hb vl_10 hf21 hR19 (fun t20 _ hR20 =>
    so_ret (vr_rd hR hb vl_10) hR20)))))))))))))))))))))))))))))))
set_option maxRecDepth 20000 in
theorem s_Ln_addCode {c : Int} {μ0 : am_M} {b : Nat} {x_b : Int} (hb : vr c b x_b) {v1 : Nat} {x_v1 : Int} (hv1 : vr c v1 x_v1) {v2 : Nat} {x_v2 : Int} (hv2 : vr c v2 x_v2) {t : e_T} {μ : am_M} (hR : e_R c μ0 t μ) : so c μ0 (E_Ln_addCode b v1 v2 t) (Ln_addCode x_b x_v1 x_v2 μ) := by
  unfold E_Ln_addCode Ln_addCode
  exact so_gd hb <|
    so_len (vr_of 10 rfl hb) (fun a2 _ ha2 =>
    so_ltc (vr_rd hR hb vl_11) ha2 (so_F (vr_of 10 rfl hb) (fun f1 hf1 => so_F (vr_rd hR hb vl_11) (fun f2 hf2 => so_F (vr_add hv1 (vr_mul hv2 vl_128)) (fun f3 hf3 => so_bd (s_X_put hf1 hf2 hf3 hR) (fun a3 _ t4 _ ha3 hR4 =>
    so_F (vr_add (vr_rd hR4 hb vl_11) vl_1) (fun f4 hf4 => so_pf hb vl_11 hf4 hR4 (fun t5 _ hR5 =>
    so_F (vr_of 9 rfl hb) (fun f5 hf5 => so_F (vr_sub (vr_rd hR5 hb vl_10) vl_1) (fun f6 hf6 => so_F (vr_rd hR5 hb vl_11) (fun f7 hf7 => so_bd (s_X_put hf5 hf6 hf7 hR5) (fun a6 _ t7 _ ha6 hR7 =>
    so_ret vl_0 hR7)))))))))))
    (so_ret vl_0 hR))
set_option maxRecDepth 20000 in
theorem s_Ln_isSlip {c : Int} {μ0 : am_M} {b : Nat} {x_b : Int} (hb : vr c b x_b) {v1 : Nat} {x_v1 : Int} (hv1 : vr c v1 x_v1) {v2 : Nat} {x_v2 : Int} (hv2 : vr c v2 x_v2) {t : e_T} {μ : am_M} (hR : e_R c μ0 t μ) : so c μ0 (E_Ln_isSlip b v1 v2 t) (Ln_isSlip x_b x_v1 x_v2 μ) := by
  unfold E_Ln_isSlip Ln_isSlip
  exact so_gd hb <|
    so_bd (s_Ln_codeKind hb hv1 hR) (fun a2 _ t3 _ ha2 hR3 =>
    so_eq ha2 vl_2 (so_bd (s_Ln_codeNumber hb hv1 hR3) (fun a4 _ t5 _ ha4 hR5 =>
    so_eq ha4 hv2 (so_ret vl_1 hR5)
    (so_ret vl_0 hR5)))
    (so_ret vl_0 hR3))
set_option maxRecDepth 20000 in
theorem s_Ln_timesRead_B43 {c : Int} {μ0 : am_M} {k21 : Nat → Nat → Nat → Nat → e_T → e_O} {k21x : Int → Int → Int → Int → am_M → am_O} (hk21 : ∀ {u0 : Nat} {x0 : Int} {u1 : Nat} {x1 : Int} {u2 : Nat} {x2 : Int} {u3 : Nat} {x3 : Int} {t : e_T} {μ : am_M}, vr c u0 x0 → vr c u1 x1 → vr c u2 x2 → vr c u3 x3 → e_R c μ0 t μ → so c μ0 (k21 u0 u1 u2 u3 t) (k21x x0 x1 x2 x3 μ)) {b : Nat} {x_b : Int} (hb : vr c b x_b) {v3 : Nat} {x_v3 : Int} (hv3 : vr c v3 x_v3) {v4 : Nat} {x_v4 : Int} (hv4 : vr c v4 x_v4) {s0 : Nat} {x_s0 : Int} (hs0 : vr c s0 x_s0) {s1 : Nat} {x_s1 : Int} (hs1 : vr c s1 x_s1) {t : e_T} {μ : am_M} (hR : e_R c μ0 t μ) : so c μ0 (E_Ln_timesRead_B43 k21 b v3 v4 s0 s1 t) (Ln_timesRead_B43 k21x x_b x_v3 x_v4 x_s0 x_s1 μ) := by
  unfold E_Ln_timesRead_B43 Ln_timesRead_B43
  exact so_F (vr_add hs0 hs1) (fun f1 hf1 => so_F (vr_add hv4 vl_1) (fun f2 hf2 => hk21 hb hf1 hv3 hf2 hR))
set_option maxRecDepth 20000 in
theorem s_Ln_timesRead_L21_b {c : Int} {μ0 : am_M} {k21 : Nat → Nat → Nat → Nat → e_T → e_O} {k21x : Int → Int → Int → Int → am_M → am_O} (hk21 : ∀ {u0 : Nat} {x0 : Int} {u1 : Nat} {x1 : Int} {u2 : Nat} {x2 : Int} {u3 : Nat} {x3 : Int} {t : e_T} {μ : am_M}, vr c u0 x0 → vr c u1 x1 → vr c u2 x2 → vr c u3 x3 → e_R c μ0 t μ → so c μ0 (k21 u0 u1 u2 u3 t) (k21x x0 x1 x2 x3 μ)) {b : Nat} {x_b : Int} (hb : vr c b x_b) {v2 : Nat} {x_v2 : Int} (hv2 : vr c v2 x_v2) {v3 : Nat} {x_v3 : Int} (hv3 : vr c v3 x_v3) {v4 : Nat} {x_v4 : Int} (hv4 : vr c v4 x_v4) {t : e_T} {μ : am_M} (hR : e_R c μ0 t μ) : so c μ0 (E_Ln_timesRead_L21_b k21 b v2 v3 v4 t) (Ln_timesRead_L21_b k21x x_b x_v2 x_v3 x_v4 μ) := by
  unfold E_Ln_timesRead_L21_b Ln_timesRead_L21_b
  exact so_ltc hv4 hv3 (so_gd hb <|
    so_bd (s_Ln_codeKind hb hv4 hR) (fun a2 _ t3 _ ha2 hR3 =>
    so_eq ha2 vl_2 (s_Ln_timesRead_B43 hk21 hb hv3 hv4 hv2 vl_1 hR3)
    (s_Ln_timesRead_B43 hk21 hb hv3 hv4 hv2 vl_0 hR3)))
    (so_ret hv2 hR)
set_option maxRecDepth 20000 in
theorem s_Ln_timesRead_L21 {c : Int} {μ0 : am_M} : ∀ (n N : Nat), n ≤ N → ∀ {b : Nat} {x_b : Int} (hb : vr c b x_b) {v2 : Nat} {x_v2 : Int} (hv2 : vr c v2 x_v2) {v3 : Nat} {x_v3 : Int} (hv3 : vr c v3 x_v3) {v4 : Nat} {x_v4 : Int} (hv4 : vr c v4 x_v4) {t : e_T} {μ : am_M} (hR : e_R c μ0 t μ), so c μ0 (E_Ln_timesRead_L21 n b v2 v3 v4 t) (Ln_timesRead_L21 N x_b x_v2 x_v3 x_v4 μ) := by
  intro n
  induction n with
  | zero => intros; exact so_none
  | succ n ih =>
    intro N hN b x_b hb v2 x_v2 hv2 v3 x_v3 hv3 v4 x_v4 hv4 t μ hR
    obtain ⟨M, rfl⟩ : ∃ M, N = M + 1 := ⟨N - 1, by omega⟩
    exact s_Ln_timesRead_L21_b (k21 := E_Ln_timesRead_L21 n) (k21x := Ln_timesRead_L21 M) (fun hb hv2 hv3 hv4 hR => ih M (by omega) hb hv2 hv3 hv4 hR) hb hv2 hv3 hv4 hR
set_option maxRecDepth 20000 in
theorem s_Ln_timesRead {c : Int} {μ0 : am_M} {b : Nat} {x_b : Int} (hb : vr c b x_b) {v1 : Nat} {x_v1 : Int} (hv1 : vr c v1 x_v1) {t : e_T} {μ : am_M} (hR : e_R c μ0 t μ) : so c μ0 (E_Ln_timesRead b v1 t) (Ln_timesRead x_b x_v1 μ) := by
  unfold E_Ln_timesRead Ln_timesRead
  exact so_gd hb <|
    so_F (vr_of 9 rfl hb) (fun f1 hf1 => so_bd (s_X_at hf1 hv1 hR) (fun a2 _ t3 _ ha2 hR3 =>
    so_F (vr_of 8 rfl hb) (fun f2 hf2 => so_bd (s_X_at hf2 hv1 hR3) (fun a4 _ t5 _ ha4 hR5 =>
    s_Ln_timesRead_L21 4096 am_FU e_FU hb vl_0 ha2 ha4 hR5))))
set_option maxRecDepth 20000 in
theorem s_Ln_timesRead__B45 {c : Int} {μ0 : am_M} {k22 : Nat → Nat → Nat → Nat → Nat → e_T → e_O} {k22x : Int → Int → Int → Int → Int → am_M → am_O} (hk22 : ∀ {u0 : Nat} {x0 : Int} {u1 : Nat} {x1 : Int} {u2 : Nat} {x2 : Int} {u3 : Nat} {x3 : Int} {u4 : Nat} {x4 : Int} {t : e_T} {μ : am_M}, vr c u0 x0 → vr c u1 x1 → vr c u2 x2 → vr c u3 x3 → vr c u4 x4 → e_R c μ0 t μ → so c μ0 (k22 u0 u1 u2 u3 u4 t) (k22x x0 x1 x2 x3 x4 μ)) {b : Nat} {x_b : Int} (hb : vr c b x_b) {v2 : Nat} {x_v2 : Int} (hv2 : vr c v2 x_v2) {v4 : Nat} {x_v4 : Int} (hv4 : vr c v4 x_v4) {v5 : Nat} {x_v5 : Int} (hv5 : vr c v5 x_v5) {s0 : Nat} {x_s0 : Int} (hs0 : vr c s0 x_s0) {s1 : Nat} {x_s1 : Int} (hs1 : vr c s1 x_s1) {t : e_T} {μ : am_M} (hR : e_R c μ0 t μ) : so c μ0 (E_Ln_timesRead__B45 k22 b v2 v4 v5 s0 s1 t) (Ln_timesRead__B45 k22x x_b x_v2 x_v4 x_v5 x_s0 x_s1 μ) := by
  unfold E_Ln_timesRead__B45 Ln_timesRead__B45
  exact so_F (vr_add hs0 hs1) (fun f1 hf1 => so_F (vr_add hv5 vl_1) (fun f2 hf2 => hk22 hb hv2 hf1 hv4 hf2 hR))
set_option maxRecDepth 20000 in
theorem s_Ln_timesRead__L22_b {c : Int} {μ0 : am_M} {k22 : Nat → Nat → Nat → Nat → Nat → e_T → e_O} {k22x : Int → Int → Int → Int → Int → am_M → am_O} (hk22 : ∀ {u0 : Nat} {x0 : Int} {u1 : Nat} {x1 : Int} {u2 : Nat} {x2 : Int} {u3 : Nat} {x3 : Int} {u4 : Nat} {x4 : Int} {t : e_T} {μ : am_M}, vr c u0 x0 → vr c u1 x1 → vr c u2 x2 → vr c u3 x3 → vr c u4 x4 → e_R c μ0 t μ → so c μ0 (k22 u0 u1 u2 u3 u4 t) (k22x x0 x1 x2 x3 x4 μ)) {b : Nat} {x_b : Int} (hb : vr c b x_b) {v2 : Nat} {x_v2 : Int} (hv2 : vr c v2 x_v2) {v3 : Nat} {x_v3 : Int} (hv3 : vr c v3 x_v3) {v4 : Nat} {x_v4 : Int} (hv4 : vr c v4 x_v4) {v5 : Nat} {x_v5 : Int} (hv5 : vr c v5 x_v5) {t : e_T} {μ : am_M} (hR : e_R c μ0 t μ) : so c μ0 (E_Ln_timesRead__L22_b k22 b v2 v3 v4 v5 t) (Ln_timesRead__L22_b k22x x_b x_v2 x_v3 x_v4 x_v5 μ) := by
  unfold E_Ln_timesRead__L22_b Ln_timesRead__L22_b
  exact so_ltc hv5 hv4 (so_gd hb <|
    so_bd (s_Ln_isSlip hb hv5 hv2 hR) (fun a2 _ t3 _ ha2 hR3 =>
    so_eq ha2 vl_0 (s_Ln_timesRead__B45 hk22 hb hv2 hv4 hv5 hv3 vl_0 hR3)
    (s_Ln_timesRead__B45 hk22 hb hv2 hv4 hv5 hv3 vl_1 hR3)))
    (so_ret hv3 hR)
set_option maxRecDepth 20000 in
theorem s_Ln_timesRead__L22 {c : Int} {μ0 : am_M} : ∀ (n N : Nat), n ≤ N → ∀ {b : Nat} {x_b : Int} (hb : vr c b x_b) {v2 : Nat} {x_v2 : Int} (hv2 : vr c v2 x_v2) {v3 : Nat} {x_v3 : Int} (hv3 : vr c v3 x_v3) {v4 : Nat} {x_v4 : Int} (hv4 : vr c v4 x_v4) {v5 : Nat} {x_v5 : Int} (hv5 : vr c v5 x_v5) {t : e_T} {μ : am_M} (hR : e_R c μ0 t μ), so c μ0 (E_Ln_timesRead__L22 n b v2 v3 v4 v5 t) (Ln_timesRead__L22 N x_b x_v2 x_v3 x_v4 x_v5 μ) := by
  intro n
  induction n with
  | zero => intros; exact so_none
  | succ n ih =>
    intro N hN b x_b hb v2 x_v2 hv2 v3 x_v3 hv3 v4 x_v4 hv4 v5 x_v5 hv5 t μ hR
    obtain ⟨M, rfl⟩ : ∃ M, N = M + 1 := ⟨N - 1, by omega⟩
    exact s_Ln_timesRead__L22_b (k22 := E_Ln_timesRead__L22 n) (k22x := Ln_timesRead__L22 M) (fun hb hv2 hv3 hv4 hv5 hR => ih M (by omega) hb hv2 hv3 hv4 hv5 hR) hb hv2 hv3 hv4 hv5 hR
set_option maxRecDepth 20000 in
theorem s_Ln_timesRead_ {c : Int} {μ0 : am_M} {b : Nat} {x_b : Int} (hb : vr c b x_b) {v1 : Nat} {x_v1 : Int} (hv1 : vr c v1 x_v1) {v2 : Nat} {x_v2 : Int} (hv2 : vr c v2 x_v2) {t : e_T} {μ : am_M} (hR : e_R c μ0 t μ) : so c μ0 (E_Ln_timesRead_ b v1 v2 t) (Ln_timesRead_ x_b x_v1 x_v2 μ) := by
  unfold E_Ln_timesRead_ Ln_timesRead_
  exact so_gd hb <|
    so_F (vr_of 9 rfl hb) (fun f1 hf1 => so_bd (s_X_at hf1 hv1 hR) (fun a2 _ t3 _ ha2 hR3 =>
    so_F (vr_of 8 rfl hb) (fun f2 hf2 => so_bd (s_X_at hf2 hv1 hR3) (fun a4 _ t5 _ ha4 hR5 =>
    s_Ln_timesRead__L22 4096 am_FU e_FU hb hv2 vl_0 ha2 ha4 hR5))))
set_option maxRecDepth 20000 in
theorem s_Mc_stand {c : Int} {μ0 : am_M} {b : Nat} {x_b : Int} (hb : vr c b x_b) {t : e_T} {μ : am_M} (hR : e_R c μ0 t μ) : so c μ0 (E_Mc_stand b t) (Mc_stand x_b μ) := by
  unfold E_Mc_stand Mc_stand
  exact so_gd hb <|
    so_pf hb vl_5 vl_0 hR (fun t2 _ hR2 =>
    so_pf hb vl_6 vl_0 hR2 (fun t3 _ hR3 =>
    so_pf hb vl_7 vl_0 hR3 (fun t4 _ hR4 =>
    so_pf hb vl_8 vl_0 hR4 (fun t5 _ hR5 =>
    so_pf hb vl_9 vl_0 hR5 (fun t6 _ hR6 =>
    so_pf hb vl_10 vl_0 hR6 (fun t7 _ hR7 =>
    so_pf hb vl_11 vl_0 hR7 (fun t8 _ hR8 =>
    so_ret vl_0 hR8)))))))
set_option maxRecDepth 20000 in
theorem s_Mc_take {c : Int} {μ0 : am_M} {b : Nat} {x_b : Int} (hb : vr c b x_b) {v1 : Nat} {x_v1 : Int} (hv1 : vr c v1 x_v1) {v2 : Nat} {x_v2 : Int} (hv2 : vr c v2 x_v2) {v3 : Nat} {x_v3 : Int} (hv3 : vr c v3 x_v3) {v4 : Nat} {x_v4 : Int} (hv4 : vr c v4 x_v4) {t : e_T} {μ : am_M} (hR : e_R c μ0 t μ) : so c μ0 (E_Mc_take b v1 v2 v3 v4 t) (Mc_take x_b x_v1 x_v2 x_v3 x_v4 μ) := by
  unfold E_Mc_take Mc_take
  exact so_gd hb <|
    so_F (vr_of 3 rfl hb) (fun f1 hf1 => so_bd (s_X_put hf1 vl_0 hv1 hR) (fun a2 _ t3 _ ha2 hR3 =>
    so_F (vr_of 3 rfl hb) (fun f2 hf2 => so_bd (s_X_put hf2 vl_1 hv2 hR3) (fun a4 _ t5 _ ha4 hR5 =>
    so_F (vr_of 3 rfl hb) (fun f3 hf3 => so_bd (s_X_put hf3 vl_2 hv3 hR5) (fun a6 _ t7 _ ha6 hR7 =>
    so_F (vr_of 3 rfl hb) (fun f4 hf4 => so_bd (s_X_put hf4 vl_3 hv4 hR7) (fun a8 _ t9 _ ha8 hR9 =>
    so_ret vl_0 hR9))))))))
set_option maxRecDepth 20000 in
theorem s_Mc_enter {c : Int} {μ0 : am_M} {b : Nat} {x_b : Int} (hb : vr c b x_b) {v1 : Nat} {x_v1 : Int} (hv1 : vr c v1 x_v1) {v2 : Nat} {x_v2 : Int} (hv2 : vr c v2 x_v2) {t : e_T} {μ : am_M} (hR : e_R c μ0 t μ) : so c μ0 (E_Mc_enter b v1 v2 t) (Mc_enter x_b x_v1 x_v2 μ) := by
  unfold E_Mc_enter Mc_enter
  exact so_gd hv1 <|
    so_F (vr_of 17 rfl hv1) (fun f1 hf1 => so_bd (s_X_at hf1 hv2 hR) (fun a2 _ t3 _ ha2 hR3 =>
    so_gd hb <|
    so_F (vr_of 15 rfl hv1) (fun f2 hf2 => so_bd (s_X_at hf2 hv2 hR3) (fun a5 _ t6 _ ha5 hR6 =>
    so_F (vr_of 1 rfl hb) (fun f3 hf3 => so_F (vr_rd hR3 hb vl_5) (fun f4 hf4 => so_F (vr_add ha5 ha2) (fun f5 hf5 => so_bd (s_X_put hf3 hf4 hf5 hR6) (fun a7 _ t8 _ ha7 hR8 =>
    so_F (vr_of 2 rfl hb) (fun f6 hf6 => so_F (vr_rd hR8 hb vl_5) (fun f7 hf7 => so_F (vr_sub (vr_shl vl_1 ha2) vl_1) (fun f8 hf8 => so_bd (s_X_put hf6 hf7 hf8 hR8) (fun a9 _ t10 _ ha9 hR10 =>
    so_F (vr_add (vr_rd hR10 hb vl_5) vl_1) (fun f9 hf9 => so_pf hb vl_5 hf9 hR10 (fun t11 _ hR11 =>
    so_ret vl_0 hR11))))))))))))))
set_option maxRecDepth 20000 in
theorem s_JI_bitCount {c : Int} {μ0 : am_M} {v0 : Nat} {x_v0 : Int} (hv0 : vr c v0 x_v0) {t : e_T} {μ : am_M} (hR : e_R c μ0 t μ) : so c μ0 (E_JI_bitCount v0 t) (JI_bitCount x_v0 μ) := by
  unfold E_JI_bitCount JI_bitCount
  exact so_lt (vr_sub hv0 (vr_and (vr_ushr hv0 vl_1) vl_1431655765)) (fun a1 _ ha1 =>
    so_lt (vr_add (vr_and ha1 vl_858993459) (vr_and (vr_ushr ha1 vl_2) vl_858993459)) (fun a2 _ ha2 =>
    so_lt (vr_and (vr_add ha2 (vr_ushr ha2 vl_4)) vl_252645135) (fun a3 _ ha3 =>
    so_lt (vr_add (vr_add ha3 (vr_ushr ha3 vl_8)) (vr_ushr (vr_add ha3 (vr_ushr ha3 vl_8)) vl_16)) (fun a4 _ ha4 =>
    so_ret (vr_and ha4 vl_63) hR))))
set_option maxRecDepth 20000 in
theorem s_Mc_lying_L4_b {c : Int} {μ0 : am_M} {k4 : Nat → Nat → Nat → e_T → e_O} {k4x : Int → Int → Int → am_M → am_O} (hk4 : ∀ {u0 : Nat} {x0 : Int} {u1 : Nat} {x1 : Int} {u2 : Nat} {x2 : Int} {t : e_T} {μ : am_M}, vr c u0 x0 → vr c u1 x1 → vr c u2 x2 → e_R c μ0 t μ → so c μ0 (k4 u0 u1 u2 t) (k4x x0 x1 x2 μ)) {b : Nat} {x_b : Int} (hb : vr c b x_b) {v1 : Nat} {x_v1 : Int} (hv1 : vr c v1 x_v1) {v2 : Nat} {x_v2 : Int} (hv2 : vr c v2 x_v2) {t : e_T} {μ : am_M} (hR : e_R c μ0 t μ) : so c μ0 (E_Mc_lying_L4_b k4 b v1 v2 t) (Mc_lying_L4_b k4x x_b x_v1 x_v2 μ) := by
  unfold E_Mc_lying_L4_b Mc_lying_L4_b
  exact so_gd hb <|
    so_ltc hv2 (vr_rd hR hb vl_5) (so_F (vr_of 2 rfl hb) (fun f1 hf1 => so_bd (s_X_at hf1 hv2 hR) (fun a2 _ t3 _ ha2 hR3 =>
    so_bd (s_JI_bitCount ha2 hR3) (fun a4 _ t5 _ ha4 hR5 =>
    so_F (vr_add hv1 ha4) (fun f2 hf2 => so_F (vr_add hv2 vl_1) (fun f3 hf3 => hk4 hb hf2 hf3 hR5))))))
    (so_ret hv1 hR)
set_option maxRecDepth 20000 in
theorem s_Mc_lying_L4 {c : Int} {μ0 : am_M} : ∀ (n N : Nat), n ≤ N → ∀ {b : Nat} {x_b : Int} (hb : vr c b x_b) {v1 : Nat} {x_v1 : Int} (hv1 : vr c v1 x_v1) {v2 : Nat} {x_v2 : Int} (hv2 : vr c v2 x_v2) {t : e_T} {μ : am_M} (hR : e_R c μ0 t μ), so c μ0 (E_Mc_lying_L4 n b v1 v2 t) (Mc_lying_L4 N x_b x_v1 x_v2 μ) := by
  intro n
  induction n with
  | zero => intros; exact so_none
  | succ n ih =>
    intro N hN b x_b hb v1 x_v1 hv1 v2 x_v2 hv2 t μ hR
    obtain ⟨M, rfl⟩ : ∃ M, N = M + 1 := ⟨N - 1, by omega⟩
    exact s_Mc_lying_L4_b (k4 := E_Mc_lying_L4 n) (k4x := Mc_lying_L4 M) (fun hb hv1 hv2 hR => ih M (by omega) hb hv1 hv2 hR) hb hv1 hv2 hR
set_option maxRecDepth 20000 in
theorem s_Mc_lying {c : Int} {μ0 : am_M} {b : Nat} {x_b : Int} (hb : vr c b x_b) {t : e_T} {μ : am_M} (hR : e_R c μ0 t μ) : so c μ0 (E_Mc_lying b t) (Mc_lying x_b μ) := by
  unfold E_Mc_lying Mc_lying
  exact s_Mc_lying_L4 4096 am_FU e_FU hb vl_0 vl_0 hR
set_option maxRecDepth 20000 in
theorem s_Mc_lookAtTable {c : Int} {μ0 : am_M} {b : Nat} {x_b : Int} (hb : vr c b x_b) {t : e_T} {μ : am_M} (hR : e_R c μ0 t μ) : so c μ0 (E_Mc_lookAtTable b t) (Mc_lookAtTable x_b μ) := by
  unfold E_Mc_lookAtTable Mc_lookAtTable
  exact so_gd hb <|
    so_bd (s_Mc_lying hb hR) (fun a2 _ t3 _ ha2 hR3 =>
    so_lt (vr_max (vr_rd hR3 hb vl_8) ha2) (fun a4 _ ha4 =>
    so_pf hb vl_8 ha4 hR3 (fun t5 _ hR5 =>
    so_eq (vr_rd hR5 hb vl_1) vl_0 (so_ret vl_0 hR5)
    (so_eq (vr_rd hR5 hb vl_6) vl_1 (so_lec ha2 (vr_rd hR5 hb vl_12) (so_ret vl_0 hR5)
    (so_pf hb vl_6 vl_3 hR5 (fun t6 _ hR6 =>
    so_ret vl_0 hR6)))
    (so_ret vl_0 hR5)))))
set_option maxRecDepth 20000 in
theorem s_Mc_start {c : Int} {μ0 : am_M} {b : Nat} {x_b : Int} (hb : vr c b x_b) {v1 : Nat} {x_v1 : Int} (hv1 : vr c v1 x_v1) {v2 : Nat} {x_v2 : Int} (hv2 : vr c v2 x_v2) {t : e_T} {μ : am_M} (hR : e_R c μ0 t μ) : so c μ0 (E_Mc_start b v1 v2 t) (Mc_start x_b x_v1 x_v2 μ) := by
  unfold E_Mc_start Mc_start
  exact so_gd hb <|
    so_bd (s_Mc_stand hb hR) (fun a2 _ t3 _ ha2 hR3 =>
    so_pf hb vl_6 vl_1 hR3 (fun t4 _ hR4 =>
    so_bd (s_Mc_enter hb hv1 hv2 hR4) (fun a5 _ t6 _ ha5 hR6 =>
    so_bd (s_Mc_lookAtTable hb hR6) (fun a7 _ t8 _ ha7 hR8 =>
    so_ret vl_0 hR8))))
set_option maxRecDepth 20000 in
theorem s_Mc_readSlips {c : Int} {μ0 : am_M} {b : Nat} {x_b : Int} (hb : vr c b x_b) {v1 : Nat} {x_v1 : Int} (hv1 : vr c v1 x_v1) {v2 : Nat} {x_v2 : Int} (hv2 : vr c v2 x_v2) {t : e_T} {μ : am_M} (hR : e_R c μ0 t μ) : so c μ0 (E_Mc_readSlips b v1 v2 t) (Mc_readSlips x_b x_v1 x_v2 μ) := by
  unfold E_Mc_readSlips Mc_readSlips
  exact so_gd hv1 <|
    so_bd (s_Ln_readSet hv1 hv2 hR) (fun a2 _ t3 _ ha2 hR3 =>
    so_gd hb <|
    so_F (vr_of 2 rfl hb) (fun f1 hf1 => so_F (vr_sub (vr_rd hR3 hb vl_5) vl_1) (fun f2 hf2 => so_bd (s_X_at hf1 hf2 hR3) (fun a5 _ t6 _ ha5 hR6 =>
    so_eq (vr_rd hR6 hb vl_1) vl_0 (so_F (vr_of 1 rfl hv1) (fun f3 hf3 => so_bd (s_X_at hf3 hv2 hR6) (fun a7 _ t8 _ ha7 hR8 =>
    so_eq ha7 vl_3 (so_ret vl_1 hR8)
    (so_eq (vr_and ha2 (vr_xor ha5 vl_m1)) vl_0 (so_ret vl_1 hR8)
    (so_ret vl_0 hR8)))))
    (so_bd (s_Ln_timesRead hv1 hv2 hR6) (fun a9 _ t10 _ ha9 hR10 =>
    so_F (vr_add (vr_rd hR6 hb vl_9) ha9) (fun f4 hf4 => so_pf hb vl_9 hf4 hR10 (fun t11 _ hR11 =>
    so_F (vr_of 2 rfl hb) (fun f5 hf5 => so_F (vr_sub (vr_rd hR11 hb vl_5) vl_1) (fun f6 hf6 => so_F (vr_and ha5 (vr_xor ha2 vl_m1)) (fun f7 hf7 => so_bd (s_X_put hf5 hf6 hf7 hR11) (fun a12 _ t13 _ ha12 hR13 =>
    so_ret vl_1 hR13))))))))))))
set_option maxRecDepth 20000 in
theorem s_Rk_joined {c : Int} {μ0 : am_M} {v0 : Nat} {x_v0 : Int} (hv0 : vr c v0 x_v0) {v1 : Nat} {x_v1 : Int} (hv1 : vr c v1 x_v1) {v2 : Nat} {x_v2 : Int} (hv2 : vr c v2 x_v2) {t : e_T} {μ : am_M} (hR : e_R c μ0 t μ) : so c μ0 (E_Rk_joined v0 v1 v2 t) (Rk_joined x_v0 x_v1 x_v2 μ) := by
  unfold E_Rk_joined Rk_joined
  exact so_eq hv0 vl_43 (so_ret (vr_add hv1 hv2) hR)
    (so_eq hv0 vl_45 (so_ret (vr_sub hv1 hv2) hR)
    (so_eq hv0 vl_60 (so_ltc hv1 hv2 (so_ret vl_1 hR)
    (so_ret vl_0 hR))
    (so_eq hv0 vl_61 (so_eq hv1 hv2 (so_ret vl_1 hR)
    (so_ret vl_0 hR))
    (so_eq hv0 vl_115 (so_eq hv1 vl_0 (so_ret vl_0 hR)
    (so_eq hv2 vl_0 (so_ret vl_0 hR)
    (so_ret vl_1 hR)))
    (so_eq hv0 vl_116 (so_eq hv1 vl_0 (so_eq hv2 vl_0 (so_ret vl_0 hR)
    (so_ret vl_1 hR))
    (so_ret vl_1 hR))
    (so_ret (vr_mul hv1 hv2) hR))))))
set_option maxRecDepth 20000 in
theorem s_Rk_reckon_B178 {c : Int} {μ0 : am_M} {k23 : Nat → Nat → Nat → Nat → Nat → Nat → e_T → e_O} {k23x : Int → Int → Int → Int → Int → Int → am_M → am_O} (hk23 : ∀ {u0 : Nat} {x0 : Int} {u1 : Nat} {x1 : Int} {u2 : Nat} {x2 : Int} {u3 : Nat} {x3 : Int} {u4 : Nat} {x4 : Int} {u5 : Nat} {x5 : Int} {t : e_T} {μ : am_M}, vr c u0 x0 → vr c u1 x1 → vr c u2 x2 → vr c u3 x3 → vr c u4 x4 → vr c u5 x5 → e_R c μ0 t μ → so c μ0 (k23 u0 u1 u2 u3 u4 u5 t) (k23x x0 x1 x2 x3 x4 x5 μ)) {v1 : Nat} {x_v1 : Int} (hv1 : vr c v1 x_v1) {v3 : Nat} {x_v3 : Int} (hv3 : vr c v3 x_v3) {v4 : Nat} {x_v4 : Int} (hv4 : vr c v4 x_v4) {v5 : Nat} {x_v5 : Int} (hv5 : vr c v5 x_v5) {v6 : Nat} {x_v6 : Int} (hv6 : vr c v6 x_v6) {v7 : Nat} {x_v7 : Int} (hv7 : vr c v7 x_v7) {t : e_T} {μ : am_M} (hR : e_R c μ0 t μ) : so c μ0 (E_Rk_reckon_B178 k23 v1 v3 v4 v5 v6 v7 t) (Rk_reckon_B178 k23x x_v1 x_v3 x_v4 x_v5 x_v6 x_v7 μ) := by
  unfold E_Rk_reckon_B178 Rk_reckon_B178
  exact so_F (vr_add hv7 vl_1) (fun f1 hf1 => hk23 hv1 hv3 hv4 hv5 hv6 hf1 hR)
set_option maxRecDepth 20000 in
theorem s_Rk_reckon_B133 {c : Int} {μ0 : am_M} {k23 : Nat → Nat → Nat → Nat → Nat → Nat → e_T → e_O} {k23x : Int → Int → Int → Int → Int → Int → am_M → am_O} (hk23 : ∀ {u0 : Nat} {x0 : Int} {u1 : Nat} {x1 : Int} {u2 : Nat} {x2 : Int} {u3 : Nat} {x3 : Int} {u4 : Nat} {x4 : Int} {u5 : Nat} {x5 : Int} {t : e_T} {μ : am_M}, vr c u0 x0 → vr c u1 x1 → vr c u2 x2 → vr c u3 x3 → vr c u4 x4 → vr c u5 x5 → e_R c μ0 t μ → so c μ0 (k23 u0 u1 u2 u3 u4 u5 t) (k23x x0 x1 x2 x3 x4 x5 μ)) {v1 : Nat} {x_v1 : Int} (hv1 : vr c v1 x_v1) {v3 : Nat} {x_v3 : Int} (hv3 : vr c v3 x_v3) {v4 : Nat} {x_v4 : Int} (hv4 : vr c v4 x_v4) {v5 : Nat} {x_v5 : Int} (hv5 : vr c v5 x_v5) {v6 : Nat} {x_v6 : Int} (hv6 : vr c v6 x_v6) {v7 : Nat} {x_v7 : Int} (hv7 : vr c v7 x_v7) {s1 : Nat} {x_s1 : Int} (hs1 : vr c s1 x_s1) {s2 : Nat} {x_s2 : Int} (hs2 : vr c s2 x_s2) {t : e_T} {μ : am_M} (hR : e_R c μ0 t μ) : so c μ0 (E_Rk_reckon_B133 k23 v1 v3 v4 v5 v6 v7 s1 s2 t) (Rk_reckon_B133 k23x x_v1 x_v3 x_v4 x_v5 x_v6 x_v7 x_s1 x_s2 μ) := by
  unfold E_Rk_reckon_B133 Rk_reckon_B133
  exact so_bd (s_X_put vl_41 hs1 hs2 hR) (fun a1 _ t2 _ ha1 hR2 =>
    s_Rk_reckon_B178 hk23 hv1 hv3 hv4 hv5 hv6 hv7 hR2)
set_option maxRecDepth 20000 in
theorem s_Rk_reckon_L23_b {c : Int} {μ0 : am_M} {k23 : Nat → Nat → Nat → Nat → Nat → Nat → e_T → e_O} {k23x : Int → Int → Int → Int → Int → Int → am_M → am_O} (hk23 : ∀ {u0 : Nat} {x0 : Int} {u1 : Nat} {x1 : Int} {u2 : Nat} {x2 : Int} {u3 : Nat} {x3 : Int} {u4 : Nat} {x4 : Int} {u5 : Nat} {x5 : Int} {t : e_T} {μ : am_M}, vr c u0 x0 → vr c u1 x1 → vr c u2 x2 → vr c u3 x3 → vr c u4 x4 → vr c u5 x5 → e_R c μ0 t μ → so c μ0 (k23 u0 u1 u2 u3 u4 u5 t) (k23x x0 x1 x2 x3 x4 x5 μ)) {v1 : Nat} {x_v1 : Int} (hv1 : vr c v1 x_v1) {v3 : Nat} {x_v3 : Int} (hv3 : vr c v3 x_v3) {v4 : Nat} {x_v4 : Int} (hv4 : vr c v4 x_v4) {v5 : Nat} {x_v5 : Int} (hv5 : vr c v5 x_v5) {v6 : Nat} {x_v6 : Int} (hv6 : vr c v6 x_v6) {v7 : Nat} {x_v7 : Int} (hv7 : vr c v7 x_v7) {t : e_T} {μ : am_M} (hR : e_R c μ0 t μ) : so c μ0 (E_Rk_reckon_L23_b k23 v1 v3 v4 v5 v6 v7 t) (Rk_reckon_L23_b k23x x_v1 x_v3 x_v4 x_v5 x_v6 x_v7 μ) := by
  unfold E_Rk_reckon_L23_b Rk_reckon_L23_b
  exact so_ltc hv7 hv6 (so_gd hv1 <|
    so_bd (s_Ln_codeKind hv1 hv7 hR) (fun a4 _ t5 _ ha4 hR5 =>
    so_eq ha4 vl_3 (so_bd (s_Ln_codeNumber hv1 hv7 hR5) (fun a22 _ t23 _ ha22 hR23 =>
    so_bd (s_X_put vl_41 hv5 ha22 hR23) (fun a24 _ t25 _ ha24 hR25 =>
    so_F (vr_add hv5 vl_1) (fun f1 hf1 => s_Rk_reckon_B178 hk23 hv1 hv3 hv4 hf1 hv6 hv7 hR25))))
    (so_eq ha4 vl_2 (so_bd (s_Ln_codeNumber hv1 hv7 hR5) (fun a16 _ t17 _ ha16 hR17 =>
    so_F (vr_add hv4 ha16) (fun f2 hf2 => so_bd (s_X_at hv3 hf2 hR17) (fun a18 _ t19 _ ha18 hR19 =>
    so_bd (s_X_put vl_41 hv5 ha18 hR19) (fun a20 _ t21 _ ha20 hR21 =>
    so_F (vr_add hv5 vl_1) (fun f3 hf3 => s_Rk_reckon_B178 hk23 hv1 hv3 hv4 hf3 hv6 hv7 hR21))))))
    (so_eq ha4 vl_114 (so_F (vr_sub hv5 vl_1) (fun f4 hf4 => so_bd (s_X_at vl_41 hf4 hR5) (fun a14 _ t15 _ ha14 hR15 =>
    so_eq ha14 vl_0 (so_F (vr_sub hv5 vl_1) (fun f5 hf5 => s_Rk_reckon_B133 hk23 hv1 hv3 hv4 hv5 hv6 hv7 hf5 vl_1 hR15))
    (so_F (vr_sub hv5 vl_1) (fun f6 hf6 => s_Rk_reckon_B133 hk23 hv1 hv3 hv4 hv5 hv6 hv7 hf6 vl_0 hR15)))))
    (so_F (vr_sub (vr_add hv5 vl_m1) vl_1) (fun f7 hf7 => so_bd (s_X_at vl_41 hf7 hR5) (fun a6 _ t7 _ ha6 hR7 =>
    so_F (vr_add hv5 vl_m1) (fun f8 hf8 => so_bd (s_X_at vl_41 hf8 hR7) (fun a8 _ t9 _ ha8 hR9 =>
    so_bd (s_Rk_joined ha4 ha6 ha8 hR9) (fun a10 _ t11 _ ha10 hR11 =>
    so_F (vr_sub (vr_add hv5 vl_m1) vl_1) (fun f9 hf9 => so_bd (s_X_put vl_41 hf9 ha10 hR11) (fun a12 _ t13 _ ha12 hR13 =>
    so_F (vr_add hv5 vl_m1) (fun f10 hf10 => s_Rk_reckon_B178 hk23 hv1 hv3 hv4 hf10 hv6 hv7 hR13)))))))))))))
    (so_bd (s_X_at vl_41 vl_0 hR) (fun a1 _ t2 _ ha1 hR2 =>
    so_ret ha1 hR2))
