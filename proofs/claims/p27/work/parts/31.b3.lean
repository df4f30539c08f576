/-! Evaluations: turns of sound. Printed by program (wip/p27/ev7.py). -/
set_option maxRecDepth 100000 in
theorem ck_s_2_100_m1_m1_0 : e_ck (E_L_sound_L4_b (e_k0 9223372036854775810 9223372036854775810) 9223372036854775809 9223372036854775809 (e_un KS_2_100 (e_un KF_2_m1 (e_un KR_2_m1 SK_2_100)))) 9223372036855775809 (Lean.RArray.branch 0 KS_2_100 (Lean.RArray.branch 0 KF_2_0 KR_2_0)) e_pm = true := by decide +kernel
set_option maxRecDepth 100000 in
theorem ev_s_2_100_m1_m1_0 {μ : am_M} (h1 : eKL 0 μ KS_2_100) (h2 : eKL 0 μ KF_2_m1) (h3 : eKL 0 μ KR_2_m1) (kx : Int → Int → am_M → am_O) : ∃ μ', L_sound_L4_b kx 0 0 μ = kx 1 1 μ' ∧ eKL 0 μ' KS_2_100 ∧ eKL 0 μ' KF_2_0 ∧ eKL 0 μ' KR_2_0 ∧ FRM μ μ' :=
  ev_snd (nc := 9223372036854775810) (c1 := 9223372036854775809) (c2 := 9223372036854775809) (u1 := 9223372036854775810) (u2 := 9223372036854775810) (vr_k (by decide) (by decide)) (vr_k (by decide) (by decide)) (by decide) (by decide) SK_2_100_e (by decide) (by decide +kernel) (by decide +kernel) (by decide +kernel) ck_s_2_100_m1_m1_0 h1 h2 h3 kx
set_option maxRecDepth 100000 in
theorem ck_s_2_100_m1_0_0 : e_ck (E_L_sound_L4_b (e_k0 9223372036854775810 9223372036854775810) 9223372036854775809 9223372036854775809 (e_un KS_2_100 (e_un KF_2_m1 (e_un KR_2_0 SK_2_100)))) 9223372036855775809 (Lean.RArray.branch 0 KS_2_100 (Lean.RArray.branch 0 KF_2_0 KR_2_0)) e_pm = true := by decide +kernel
set_option maxRecDepth 100000 in
theorem ev_s_2_100_m1_0_0 {μ : am_M} (h1 : eKL 0 μ KS_2_100) (h2 : eKL 0 μ KF_2_m1) (h3 : eKL 0 μ KR_2_0) (kx : Int → Int → am_M → am_O) : ∃ μ', L_sound_L4_b kx 0 0 μ = kx 1 1 μ' ∧ eKL 0 μ' KS_2_100 ∧ eKL 0 μ' KF_2_0 ∧ eKL 0 μ' KR_2_0 ∧ FRM μ μ' :=
  ev_snd (nc := 9223372036854775810) (c1 := 9223372036854775809) (c2 := 9223372036854775809) (u1 := 9223372036854775810) (u2 := 9223372036854775810) (vr_k (by decide) (by decide)) (vr_k (by decide) (by decide)) (by decide) (by decide) SK_2_100_e (by decide) (by decide +kernel) (by decide +kernel) (by decide +kernel) ck_s_2_100_m1_0_0 h1 h2 h3 kx
set_option maxRecDepth 100000 in
theorem ck_s_2_100_0_m1_0 : e_ck (E_L_sound_L4_b (e_k0 9223372036854775810 9223372036854775810) 9223372036854775809 9223372036854775809 (e_un KS_2_100 (e_un KF_2_0 (e_un KR_2_m1 SK_2_100)))) 9223372036855775809 (Lean.RArray.branch 0 KS_2_100 (Lean.RArray.branch 0 KF_2_0 KR_2_0)) e_pm = true := by decide +kernel
set_option maxRecDepth 100000 in
theorem ev_s_2_100_0_m1_0 {μ : am_M} (h1 : eKL 0 μ KS_2_100) (h2 : eKL 0 μ KF_2_0) (h3 : eKL 0 μ KR_2_m1) (kx : Int → Int → am_M → am_O) : ∃ μ', L_sound_L4_b kx 0 0 μ = kx 1 1 μ' ∧ eKL 0 μ' KS_2_100 ∧ eKL 0 μ' KF_2_0 ∧ eKL 0 μ' KR_2_0 ∧ FRM μ μ' :=
  ev_snd (nc := 9223372036854775810) (c1 := 9223372036854775809) (c2 := 9223372036854775809) (u1 := 9223372036854775810) (u2 := 9223372036854775810) (vr_k (by decide) (by decide)) (vr_k (by decide) (by decide)) (by decide) (by decide) SK_2_100_e (by decide) (by decide +kernel) (by decide +kernel) (by decide +kernel) ck_s_2_100_0_m1_0 h1 h2 h3 kx
set_option maxRecDepth 100000 in
theorem ck_s_2_100_0_0_0 : e_ck (E_L_sound_L4_b (e_k0 9223372036854775810 9223372036854775810) 9223372036854775809 9223372036854775809 (e_un KS_2_100 (e_un KF_2_0 (e_un KR_2_0 SK_2_100)))) 9223372036855775809 (Lean.RArray.branch 0 KS_2_100 (Lean.RArray.branch 0 KF_2_0 KR_2_0)) e_pm = true := by decide +kernel
set_option maxRecDepth 100000 in
theorem ev_s_2_100_0_0_0 {μ : am_M} (h1 : eKL 0 μ KS_2_100) (h2 : eKL 0 μ KF_2_0) (h3 : eKL 0 μ KR_2_0) (kx : Int → Int → am_M → am_O) : ∃ μ', L_sound_L4_b kx 0 0 μ = kx 1 1 μ' ∧ eKL 0 μ' KS_2_100 ∧ eKL 0 μ' KF_2_0 ∧ eKL 0 μ' KR_2_0 ∧ FRM μ μ' :=
  ev_snd (nc := 9223372036854775810) (c1 := 9223372036854775809) (c2 := 9223372036854775809) (u1 := 9223372036854775810) (u2 := 9223372036854775810) (vr_k (by decide) (by decide)) (vr_k (by decide) (by decide)) (by decide) (by decide) SK_2_100_e (by decide) (by decide +kernel) (by decide +kernel) (by decide +kernel) ck_s_2_100_0_0_0 h1 h2 h3 kx
