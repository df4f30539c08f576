/-! Evaluations: turns of sound. Printed by program (wip/p27/ev7.py). -/
set_option maxRecDepth 100000 in
theorem ck_s_1_200_2_m1_0 : e_ck (E_L_sound_L4_b (e_k0 9223372036854775816 9223372036854775810) 9223372036854775809 9223372036854775809 (e_un KS_1_200 (e_un KF_1_2 (e_un KR_1_m1 SK_1_200)))) 9223372036855775809 (Lean.RArray.branch 0 KS_1_200 (Lean.RArray.branch 0 KF_1_0 KR_1_0)) e_pm = true := by decide +kernel
set_option maxRecDepth 100000 in
theorem ev_s_1_200_2_m1_0 {μ : am_M} (h1 : eKL 0 μ KS_1_200) (h2 : eKL 0 μ KF_1_2) (h3 : eKL 0 μ KR_1_m1) (kx : Int → Int → am_M → am_O) : ∃ μ', L_sound_L4_b kx 0 0 μ = kx 7 1 μ' ∧ eKL 0 μ' KS_1_200 ∧ eKL 0 μ' KF_1_0 ∧ eKL 0 μ' KR_1_0 ∧ FRM μ μ' :=
  ev_snd (nc := 9223372036854775812) (c1 := 9223372036854775809) (c2 := 9223372036854775809) (u1 := 9223372036854775816) (u2 := 9223372036854775810) (vr_k (by decide) (by decide)) (vr_k (by decide) (by decide)) (by decide) (by decide) SK_1_200_e (by decide) (by decide +kernel) (by decide +kernel) (by decide +kernel) ck_s_1_200_2_m1_0 h1 h2 h3 kx
set_option maxRecDepth 100000 in
theorem ck_s_1_200_2_0_0 : e_ck (E_L_sound_L4_b (e_k0 9223372036854775816 9223372036854775810) 9223372036854775809 9223372036854775809 (e_un KS_1_200 (e_un KF_1_2 (e_un KR_1_0 SK_1_200)))) 9223372036855775809 (Lean.RArray.branch 0 KS_1_200 (Lean.RArray.branch 0 KF_1_0 KR_1_0)) e_pm = true := by decide +kernel
set_option maxRecDepth 100000 in
theorem ev_s_1_200_2_0_0 {μ : am_M} (h1 : eKL 0 μ KS_1_200) (h2 : eKL 0 μ KF_1_2) (h3 : eKL 0 μ KR_1_0) (kx : Int → Int → am_M → am_O) : ∃ μ', L_sound_L4_b kx 0 0 μ = kx 7 1 μ' ∧ eKL 0 μ' KS_1_200 ∧ eKL 0 μ' KF_1_0 ∧ eKL 0 μ' KR_1_0 ∧ FRM μ μ' :=
  ev_snd (nc := 9223372036854775812) (c1 := 9223372036854775809) (c2 := 9223372036854775809) (u1 := 9223372036854775816) (u2 := 9223372036854775810) (vr_k (by decide) (by decide)) (vr_k (by decide) (by decide)) (by decide) (by decide) SK_1_200_e (by decide) (by decide +kernel) (by decide +kernel) (by decide +kernel) ck_s_1_200_2_0_0 h1 h2 h3 kx
set_option maxRecDepth 100000 in
theorem ck_s_1_200_2_1_0 : e_ck (E_L_sound_L4_b (e_k0 9223372036854775816 9223372036854775810) 9223372036854775809 9223372036854775809 (e_un KS_1_200 (e_un KF_1_2 (e_un KR_1_1 SK_1_200)))) 9223372036855775809 (Lean.RArray.branch 0 KS_1_200 (Lean.RArray.branch 0 KF_1_0 KR_1_0)) e_pm = true := by decide +kernel
set_option maxRecDepth 100000 in
theorem ev_s_1_200_2_1_0 {μ : am_M} (h1 : eKL 0 μ KS_1_200) (h2 : eKL 0 μ KF_1_2) (h3 : eKL 0 μ KR_1_1) (kx : Int → Int → am_M → am_O) : ∃ μ', L_sound_L4_b kx 0 0 μ = kx 7 1 μ' ∧ eKL 0 μ' KS_1_200 ∧ eKL 0 μ' KF_1_0 ∧ eKL 0 μ' KR_1_0 ∧ FRM μ μ' :=
  ev_snd (nc := 9223372036854775812) (c1 := 9223372036854775809) (c2 := 9223372036854775809) (u1 := 9223372036854775816) (u2 := 9223372036854775810) (vr_k (by decide) (by decide)) (vr_k (by decide) (by decide)) (by decide) (by decide) SK_1_200_e (by decide) (by decide +kernel) (by decide +kernel) (by decide +kernel) ck_s_1_200_2_1_0 h1 h2 h3 kx
set_option maxRecDepth 100000 in
theorem ck_s_1_200_2_2_0 : e_ck (E_L_sound_L4_b (e_k0 9223372036854775816 9223372036854775810) 9223372036854775809 9223372036854775809 (e_un KS_1_200 (e_un KF_1_2 (e_un KR_1_2 SK_1_200)))) 9223372036855775809 (Lean.RArray.branch 0 KS_1_200 (Lean.RArray.branch 0 KF_1_0 KR_1_0)) e_pm = true := by decide +kernel
set_option maxRecDepth 100000 in
theorem ev_s_1_200_2_2_0 {μ : am_M} (h1 : eKL 0 μ KS_1_200) (h2 : eKL 0 μ KF_1_2) (h3 : eKL 0 μ KR_1_2) (kx : Int → Int → am_M → am_O) : ∃ μ', L_sound_L4_b kx 0 0 μ = kx 7 1 μ' ∧ eKL 0 μ' KS_1_200 ∧ eKL 0 μ' KF_1_0 ∧ eKL 0 μ' KR_1_0 ∧ FRM μ μ' :=
  ev_snd (nc := 9223372036854775812) (c1 := 9223372036854775809) (c2 := 9223372036854775809) (u1 := 9223372036854775816) (u2 := 9223372036854775810) (vr_k (by decide) (by decide)) (vr_k (by decide) (by decide)) (by decide) (by decide) SK_1_200_e (by decide) (by decide +kernel) (by decide +kernel) (by decide +kernel) ck_s_1_200_2_2_0 h1 h2 h3 kx
