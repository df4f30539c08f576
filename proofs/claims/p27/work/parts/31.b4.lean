/-! Evaluations: turns of sound. Printed by program (wip/p27/ev7.py). -/
set_option maxRecDepth 100000 in
theorem ck_s_0_200_m1_m1_0 : e_ck (E_L_sound_L4_b (e_k0 9223372036854775815 9223372036854775810) 9223372036854775809 9223372036854775809 (e_un KS_0_200 (e_un KF_0_m1 (e_un KR_0_m1 SK_0_200)))) 9223372036855775809 (Lean.RArray.branch 0 KS_0_200 (Lean.RArray.branch 0 KF_0_0 KR_0_m1)) e_pm = true := by decide +kernel
set_option maxRecDepth 100000 in
theorem ev_s_0_200_m1_m1_0 {μ : am_M} (h1 : eKL 0 μ KS_0_200) (h2 : eKL 0 μ KF_0_m1) (h3 : eKL 0 μ KR_0_m1) (kx : Int → Int → am_M → am_O) : ∃ μ', L_sound_L4_b kx 0 0 μ = kx 6 1 μ' ∧ eKL 0 μ' KS_0_200 ∧ eKL 0 μ' KF_0_0 ∧ eKL 0 μ' KR_0_m1 ∧ FRM μ μ' :=
  ev_snd (nc := 9223372036854775812) (c1 := 9223372036854775809) (c2 := 9223372036854775809) (u1 := 9223372036854775815) (u2 := 9223372036854775810) (vr_k (by decide) (by decide)) (vr_k (by decide) (by decide)) (by decide) (by decide) SK_0_200_e (by decide) (by decide +kernel) (by decide +kernel) (by decide +kernel) ck_s_0_200_m1_m1_0 h1 h2 h3 kx
set_option maxRecDepth 100000 in
theorem ck_s_0_200_0_m1_1 : e_ck (E_L_sound_L4_b (e_k0 9223372036854775830 9223372036854775811) 9223372036854775815 9223372036854775810 (e_un KS_0_200 (e_un KF_0_0 (e_un KR_0_m1 SK_0_200)))) 9223372036855775809 (Lean.RArray.branch 0 KS_0_200 (Lean.RArray.branch 0 KF_0_1 KR_0_m1)) e_pm = true := by decide +kernel
set_option maxRecDepth 100000 in
theorem ev_s_0_200_0_m1_1 {μ : am_M} (h1 : eKL 0 μ KS_0_200) (h2 : eKL 0 μ KF_0_0) (h3 : eKL 0 μ KR_0_m1) (kx : Int → Int → am_M → am_O) : ∃ μ', L_sound_L4_b kx 6 1 μ = kx 21 2 μ' ∧ eKL 0 μ' KS_0_200 ∧ eKL 0 μ' KF_0_1 ∧ eKL 0 μ' KR_0_m1 ∧ FRM μ μ' :=
  ev_snd (nc := 9223372036854775812) (c1 := 9223372036854775815) (c2 := 9223372036854775810) (u1 := 9223372036854775830) (u2 := 9223372036854775811) (vr_k (by decide) (by decide)) (vr_k (by decide) (by decide)) (by decide) (by decide) SK_0_200_e (by decide) (by decide +kernel) (by decide +kernel) (by decide +kernel) ck_s_0_200_0_m1_1 h1 h2 h3 kx
set_option maxRecDepth 100000 in
theorem ck_s_0_200_1_m1_2 : e_ck (E_L_sound_L4_b (e_k0 9223372036854775839 9223372036854775812) 9223372036854775830 9223372036854775811 (e_un KS_0_200 (e_un KF_0_1 (e_un KR_0_m1 SK_0_200)))) 9223372036855775809 (Lean.RArray.branch 0 KS_0_200 (Lean.RArray.branch 0 KF_0_2 KR_0_m1)) e_pm = true := by decide +kernel
set_option maxRecDepth 100000 in
theorem ev_s_0_200_1_m1_2 {μ : am_M} (h1 : eKL 0 μ KS_0_200) (h2 : eKL 0 μ KF_0_1) (h3 : eKL 0 μ KR_0_m1) (kx : Int → Int → am_M → am_O) : ∃ μ', L_sound_L4_b kx 21 2 μ = kx 30 3 μ' ∧ eKL 0 μ' KS_0_200 ∧ eKL 0 μ' KF_0_2 ∧ eKL 0 μ' KR_0_m1 ∧ FRM μ μ' :=
  ev_snd (nc := 9223372036854775812) (c1 := 9223372036854775830) (c2 := 9223372036854775811) (u1 := 9223372036854775839) (u2 := 9223372036854775812) (vr_k (by decide) (by decide)) (vr_k (by decide) (by decide)) (by decide) (by decide) SK_0_200_e (by decide) (by decide +kernel) (by decide +kernel) (by decide +kernel) ck_s_0_200_1_m1_2 h1 h2 h3 kx
set_option maxRecDepth 100000 in
theorem ck_s_0_200_2_m1_0 : e_ck (E_L_sound_L4_b (e_k0 9223372036854775815 9223372036854775810) 9223372036854775809 9223372036854775809 (e_un KS_0_200 (e_un KF_0_2 (e_un KR_0_m1 SK_0_200)))) 9223372036855775809 (Lean.RArray.branch 0 KS_0_200 (Lean.RArray.branch 0 KF_0_0 KR_0_m1)) e_pm = true := by decide +kernel
set_option maxRecDepth 100000 in
theorem ev_s_0_200_2_m1_0 {μ : am_M} (h1 : eKL 0 μ KS_0_200) (h2 : eKL 0 μ KF_0_2) (h3 : eKL 0 μ KR_0_m1) (kx : Int → Int → am_M → am_O) : ∃ μ', L_sound_L4_b kx 0 0 μ = kx 6 1 μ' ∧ eKL 0 μ' KS_0_200 ∧ eKL 0 μ' KF_0_0 ∧ eKL 0 μ' KR_0_m1 ∧ FRM μ μ' :=
  ev_snd (nc := 9223372036854775812) (c1 := 9223372036854775809) (c2 := 9223372036854775809) (u1 := 9223372036854775815) (u2 := 9223372036854775810) (vr_k (by decide) (by decide)) (vr_k (by decide) (by decide)) (by decide) (by decide) SK_0_200_e (by decide) (by decide +kernel) (by decide +kernel) (by decide +kernel) ck_s_0_200_2_m1_0 h1 h2 h3 kx
