/-! Evaluations: orders. Printed by program (wip/p27/ev7.py). -/
set_option maxRecDepth 100000 in
theorem ck_o_0_100_m1_0 : e_ck (E_L_act_B602 9223372036854775809 (e_un KS_0_100 (e_un KR_0_m1 SK_0_100))) 9223372036854775810 (Lean.RArray.branch 0 KS_0_100 KR_0_m1) e_po = true := by decide +kernel
set_option maxRecDepth 100000 in
theorem ev_o_0_100_m1_0 {μ : am_M} (h1 : eKL 0 μ KS_0_100) (h3 : eKL 0 μ KR_0_m1) : ∃ μ', L_act_B602 0 μ = some (1, μ') ∧ eKL 0 μ' KS_0_100 ∧ eKL 0 μ' KR_0_m1 ∧ FRM μ μ' ∧ ∀ a i, e_pl e_po a i = false → μ' a i = μ a i :=
  ev_ord (c := 9223372036854775809) (vr_k (by decide) (by decide)) SK_0_100_e (by decide +kernel) (by decide +kernel) ck_o_0_100_m1_0 h1 h3
set_option maxRecDepth 100000 in
theorem ck_o_0_100_m1_1 : e_ck (E_L_act_B602 9223372036854775810 (e_un KS_0_100 (e_un KR_0_m1 SK_0_100))) 9223372036854775810 (Lean.RArray.branch 0 KS_0_100 KR_0_m1) e_po = true := by decide +kernel
set_option maxRecDepth 100000 in
theorem ev_o_0_100_m1_1 {μ : am_M} (h1 : eKL 0 μ KS_0_100) (h3 : eKL 0 μ KR_0_m1) : ∃ μ', L_act_B602 1 μ = some (1, μ') ∧ eKL 0 μ' KS_0_100 ∧ eKL 0 μ' KR_0_m1 ∧ FRM μ μ' ∧ ∀ a i, e_pl e_po a i = false → μ' a i = μ a i :=
  ev_ord (c := 9223372036854775810) (vr_k (by decide) (by decide)) SK_0_100_e (by decide +kernel) (by decide +kernel) ck_o_0_100_m1_1 h1 h3
set_option maxRecDepth 100000 in
theorem ck_o_0_100_m1_2 : e_ck (E_L_act_B602 9223372036854775811 (e_un KS_0_100 (e_un KR_0_m1 SK_0_100))) 9223372036854775810 (Lean.RArray.branch 0 KS_0_100 KR_0_m1) e_po = true := by decide +kernel
set_option maxRecDepth 100000 in
theorem ev_o_0_100_m1_2 {μ : am_M} (h1 : eKL 0 μ KS_0_100) (h3 : eKL 0 μ KR_0_m1) : ∃ μ', L_act_B602 2 μ = some (1, μ') ∧ eKL 0 μ' KS_0_100 ∧ eKL 0 μ' KR_0_m1 ∧ FRM μ μ' ∧ ∀ a i, e_pl e_po a i = false → μ' a i = μ a i :=
  ev_ord (c := 9223372036854775811) (vr_k (by decide) (by decide)) SK_0_100_e (by decide +kernel) (by decide +kernel) ck_o_0_100_m1_2 h1 h3
set_option maxRecDepth 100000 in
theorem ck_o_1_100_m1_0 : e_ck (E_L_act_B602 9223372036854775809 (e_un KS_1_100 (e_un KR_1_m1 SK_1_100))) 9223372036854775810 (Lean.RArray.branch 0 KS_1_100 KR_1_0) e_po = true := by decide +kernel
set_option maxRecDepth 100000 in
theorem ev_o_1_100_m1_0 {μ : am_M} (h1 : eKL 0 μ KS_1_100) (h3 : eKL 0 μ KR_1_m1) : ∃ μ', L_act_B602 0 μ = some (1, μ') ∧ eKL 0 μ' KS_1_100 ∧ eKL 0 μ' KR_1_0 ∧ FRM μ μ' ∧ ∀ a i, e_pl e_po a i = false → μ' a i = μ a i :=
  ev_ord (c := 9223372036854775809) (vr_k (by decide) (by decide)) SK_1_100_e (by decide +kernel) (by decide +kernel) ck_o_1_100_m1_0 h1 h3
set_option maxRecDepth 100000 in
theorem ck_o_1_100_m1_1 : e_ck (E_L_act_B602 9223372036854775810 (e_un KS_1_100 (e_un KR_1_m1 SK_1_100))) 9223372036854775810 (Lean.RArray.branch 0 KS_1_100 KR_1_1) e_po = true := by decide +kernel
set_option maxRecDepth 100000 in
theorem ev_o_1_100_m1_1 {μ : am_M} (h1 : eKL 0 μ KS_1_100) (h3 : eKL 0 μ KR_1_m1) : ∃ μ', L_act_B602 1 μ = some (1, μ') ∧ eKL 0 μ' KS_1_100 ∧ eKL 0 μ' KR_1_1 ∧ FRM μ μ' ∧ ∀ a i, e_pl e_po a i = false → μ' a i = μ a i :=
  ev_ord (c := 9223372036854775810) (vr_k (by decide) (by decide)) SK_1_100_e (by decide +kernel) (by decide +kernel) ck_o_1_100_m1_1 h1 h3
set_option maxRecDepth 100000 in
theorem ck_o_1_100_m1_2 : e_ck (E_L_act_B602 9223372036854775811 (e_un KS_1_100 (e_un KR_1_m1 SK_1_100))) 9223372036854775810 (Lean.RArray.branch 0 KS_1_100 KR_1_2) e_po = true := by decide +kernel
set_option maxRecDepth 100000 in
theorem ev_o_1_100_m1_2 {μ : am_M} (h1 : eKL 0 μ KS_1_100) (h3 : eKL 0 μ KR_1_m1) : ∃ μ', L_act_B602 2 μ = some (1, μ') ∧ eKL 0 μ' KS_1_100 ∧ eKL 0 μ' KR_1_2 ∧ FRM μ μ' ∧ ∀ a i, e_pl e_po a i = false → μ' a i = μ a i :=
  ev_ord (c := 9223372036854775811) (vr_k (by decide) (by decide)) SK_1_100_e (by decide +kernel) (by decide +kernel) ck_o_1_100_m1_2 h1 h3
set_option maxRecDepth 100000 in
theorem ck_o_1_100_0_0 : e_ck (E_L_act_B602 9223372036854775809 (e_un KS_1_100 (e_un KR_1_0 SK_1_100))) 9223372036854775810 (Lean.RArray.branch 0 KS_1_100 KR_1_0) e_po = true := by decide +kernel
set_option maxRecDepth 100000 in
theorem ev_o_1_100_0_0 {μ : am_M} (h1 : eKL 0 μ KS_1_100) (h3 : eKL 0 μ KR_1_0) : ∃ μ', L_act_B602 0 μ = some (1, μ') ∧ eKL 0 μ' KS_1_100 ∧ eKL 0 μ' KR_1_0 ∧ FRM μ μ' ∧ ∀ a i, e_pl e_po a i = false → μ' a i = μ a i :=
  ev_ord (c := 9223372036854775809) (vr_k (by decide) (by decide)) SK_1_100_e (by decide +kernel) (by decide +kernel) ck_o_1_100_0_0 h1 h3
set_option maxRecDepth 100000 in
theorem ck_o_1_100_0_1 : e_ck (E_L_act_B602 9223372036854775810 (e_un KS_1_100 (e_un KR_1_0 SK_1_100))) 9223372036854775810 (Lean.RArray.branch 0 KS_1_100 KR_1_1) e_po = true := by decide +kernel
set_option maxRecDepth 100000 in
theorem ev_o_1_100_0_1 {μ : am_M} (h1 : eKL 0 μ KS_1_100) (h3 : eKL 0 μ KR_1_0) : ∃ μ', L_act_B602 1 μ = some (1, μ') ∧ eKL 0 μ' KS_1_100 ∧ eKL 0 μ' KR_1_1 ∧ FRM μ μ' ∧ ∀ a i, e_pl e_po a i = false → μ' a i = μ a i :=
  ev_ord (c := 9223372036854775810) (vr_k (by decide) (by decide)) SK_1_100_e (by decide +kernel) (by decide +kernel) ck_o_1_100_0_1 h1 h3
set_option maxRecDepth 100000 in
theorem ck_o_1_100_0_2 : e_ck (E_L_act_B602 9223372036854775811 (e_un KS_1_100 (e_un KR_1_0 SK_1_100))) 9223372036854775810 (Lean.RArray.branch 0 KS_1_100 KR_1_2) e_po = true := by decide +kernel
set_option maxRecDepth 100000 in
theorem ev_o_1_100_0_2 {μ : am_M} (h1 : eKL 0 μ KS_1_100) (h3 : eKL 0 μ KR_1_0) : ∃ μ', L_act_B602 2 μ = some (1, μ') ∧ eKL 0 μ' KS_1_100 ∧ eKL 0 μ' KR_1_2 ∧ FRM μ μ' ∧ ∀ a i, e_pl e_po a i = false → μ' a i = μ a i :=
  ev_ord (c := 9223372036854775811) (vr_k (by decide) (by decide)) SK_1_100_e (by decide +kernel) (by decide +kernel) ck_o_1_100_0_2 h1 h3
set_option maxRecDepth 100000 in
theorem ck_o_1_100_1_0 : e_ck (E_L_act_B602 9223372036854775809 (e_un KS_1_100 (e_un KR_1_1 SK_1_100))) 9223372036854775810 (Lean.RArray.branch 0 KS_1_100 KR_1_0) e_po = true := by decide +kernel
set_option maxRecDepth 100000 in
theorem ev_o_1_100_1_0 {μ : am_M} (h1 : eKL 0 μ KS_1_100) (h3 : eKL 0 μ KR_1_1) : ∃ μ', L_act_B602 0 μ = some (1, μ') ∧ eKL 0 μ' KS_1_100 ∧ eKL 0 μ' KR_1_0 ∧ FRM μ μ' ∧ ∀ a i, e_pl e_po a i = false → μ' a i = μ a i :=
  ev_ord (c := 9223372036854775809) (vr_k (by decide) (by decide)) SK_1_100_e (by decide +kernel) (by decide +kernel) ck_o_1_100_1_0 h1 h3
set_option maxRecDepth 100000 in
theorem ck_o_1_100_1_1 : e_ck (E_L_act_B602 9223372036854775810 (e_un KS_1_100 (e_un KR_1_1 SK_1_100))) 9223372036854775810 (Lean.RArray.branch 0 KS_1_100 KR_1_1) e_po = true := by decide +kernel
set_option maxRecDepth 100000 in
theorem ev_o_1_100_1_1 {μ : am_M} (h1 : eKL 0 μ KS_1_100) (h3 : eKL 0 μ KR_1_1) : ∃ μ', L_act_B602 1 μ = some (1, μ') ∧ eKL 0 μ' KS_1_100 ∧ eKL 0 μ' KR_1_1 ∧ FRM μ μ' ∧ ∀ a i, e_pl e_po a i = false → μ' a i = μ a i :=
  ev_ord (c := 9223372036854775810) (vr_k (by decide) (by decide)) SK_1_100_e (by decide +kernel) (by decide +kernel) ck_o_1_100_1_1 h1 h3
set_option maxRecDepth 100000 in
theorem ck_o_1_100_1_2 : e_ck (E_L_act_B602 9223372036854775811 (e_un KS_1_100 (e_un KR_1_1 SK_1_100))) 9223372036854775810 (Lean.RArray.branch 0 KS_1_100 KR_1_2) e_po = true := by decide +kernel
set_option maxRecDepth 100000 in
theorem ev_o_1_100_1_2 {μ : am_M} (h1 : eKL 0 μ KS_1_100) (h3 : eKL 0 μ KR_1_1) : ∃ μ', L_act_B602 2 μ = some (1, μ') ∧ eKL 0 μ' KS_1_100 ∧ eKL 0 μ' KR_1_2 ∧ FRM μ μ' ∧ ∀ a i, e_pl e_po a i = false → μ' a i = μ a i :=
  ev_ord (c := 9223372036854775811) (vr_k (by decide) (by decide)) SK_1_100_e (by decide +kernel) (by decide +kernel) ck_o_1_100_1_2 h1 h3
set_option maxRecDepth 100000 in
theorem ck_o_1_100_2_0 : e_ck (E_L_act_B602 9223372036854775809 (e_un KS_1_100 (e_un KR_1_2 SK_1_100))) 9223372036854775810 (Lean.RArray.branch 0 KS_1_100 KR_1_0) e_po = true := by decide +kernel
set_option maxRecDepth 100000 in
theorem ev_o_1_100_2_0 {μ : am_M} (h1 : eKL 0 μ KS_1_100) (h3 : eKL 0 μ KR_1_2) : ∃ μ', L_act_B602 0 μ = some (1, μ') ∧ eKL 0 μ' KS_1_100 ∧ eKL 0 μ' KR_1_0 ∧ FRM μ μ' ∧ ∀ a i, e_pl e_po a i = false → μ' a i = μ a i :=
  ev_ord (c := 9223372036854775809) (vr_k (by decide) (by decide)) SK_1_100_e (by decide +kernel) (by decide +kernel) ck_o_1_100_2_0 h1 h3
set_option maxRecDepth 100000 in
theorem ck_o_1_100_2_1 : e_ck (E_L_act_B602 9223372036854775810 (e_un KS_1_100 (e_un KR_1_2 SK_1_100))) 9223372036854775810 (Lean.RArray.branch 0 KS_1_100 KR_1_1) e_po = true := by decide +kernel
set_option maxRecDepth 100000 in
theorem ev_o_1_100_2_1 {μ : am_M} (h1 : eKL 0 μ KS_1_100) (h3 : eKL 0 μ KR_1_2) : ∃ μ', L_act_B602 1 μ = some (1, μ') ∧ eKL 0 μ' KS_1_100 ∧ eKL 0 μ' KR_1_1 ∧ FRM μ μ' ∧ ∀ a i, e_pl e_po a i = false → μ' a i = μ a i :=
  ev_ord (c := 9223372036854775810) (vr_k (by decide) (by decide)) SK_1_100_e (by decide +kernel) (by decide +kernel) ck_o_1_100_2_1 h1 h3
set_option maxRecDepth 100000 in
theorem ck_o_1_100_2_2 : e_ck (E_L_act_B602 9223372036854775811 (e_un KS_1_100 (e_un KR_1_2 SK_1_100))) 9223372036854775810 (Lean.RArray.branch 0 KS_1_100 KR_1_2) e_po = true := by decide +kernel
set_option maxRecDepth 100000 in
theorem ev_o_1_100_2_2 {μ : am_M} (h1 : eKL 0 μ KS_1_100) (h3 : eKL 0 μ KR_1_2) : ∃ μ', L_act_B602 2 μ = some (1, μ') ∧ eKL 0 μ' KS_1_100 ∧ eKL 0 μ' KR_1_2 ∧ FRM μ μ' ∧ ∀ a i, e_pl e_po a i = false → μ' a i = μ a i :=
  ev_ord (c := 9223372036854775811) (vr_k (by decide) (by decide)) SK_1_100_e (by decide +kernel) (by decide +kernel) ck_o_1_100_2_2 h1 h3
set_option maxRecDepth 100000 in
theorem ck_o_2_100_m1_0 : e_ck (E_L_act_B602 9223372036854775809 (e_un KS_2_100 (e_un KR_2_m1 SK_2_100))) 9223372036854775810 (Lean.RArray.branch 0 KS_2_100 KR_2_0) e_po = true := by decide +kernel
set_option maxRecDepth 100000 in
theorem ev_o_2_100_m1_0 {μ : am_M} (h1 : eKL 0 μ KS_2_100) (h3 : eKL 0 μ KR_2_m1) : ∃ μ', L_act_B602 0 μ = some (1, μ') ∧ eKL 0 μ' KS_2_100 ∧ eKL 0 μ' KR_2_0 ∧ FRM μ μ' ∧ ∀ a i, e_pl e_po a i = false → μ' a i = μ a i :=
  ev_ord (c := 9223372036854775809) (vr_k (by decide) (by decide)) SK_2_100_e (by decide +kernel) (by decide +kernel) ck_o_2_100_m1_0 h1 h3
set_option maxRecDepth 100000 in
theorem ck_o_2_100_0_0 : e_ck (E_L_act_B602 9223372036854775809 (e_un KS_2_100 (e_un KR_2_0 SK_2_100))) 9223372036854775810 (Lean.RArray.branch 0 KS_2_100 KR_2_0) e_po = true := by decide +kernel
set_option maxRecDepth 100000 in
theorem ev_o_2_100_0_0 {μ : am_M} (h1 : eKL 0 μ KS_2_100) (h3 : eKL 0 μ KR_2_0) : ∃ μ', L_act_B602 0 μ = some (1, μ') ∧ eKL 0 μ' KS_2_100 ∧ eKL 0 μ' KR_2_0 ∧ FRM μ μ' ∧ ∀ a i, e_pl e_po a i = false → μ' a i = μ a i :=
  ev_ord (c := 9223372036854775809) (vr_k (by decide) (by decide)) SK_2_100_e (by decide +kernel) (by decide +kernel) ck_o_2_100_0_0 h1 h3
set_option maxRecDepth 100000 in
theorem ck_o_0_200_m1_0 : e_ck (E_L_act_B602 9223372036854775809 (e_un KS_0_200 (e_un KR_0_m1 SK_0_200))) 9223372036854775810 (Lean.RArray.branch 0 KS_0_200 KR_0_m1) e_po = true := by decide +kernel
set_option maxRecDepth 100000 in
theorem ev_o_0_200_m1_0 {μ : am_M} (h1 : eKL 0 μ KS_0_200) (h3 : eKL 0 μ KR_0_m1) : ∃ μ', L_act_B602 0 μ = some (1, μ') ∧ eKL 0 μ' KS_0_200 ∧ eKL 0 μ' KR_0_m1 ∧ FRM μ μ' ∧ ∀ a i, e_pl e_po a i = false → μ' a i = μ a i :=
  ev_ord (c := 9223372036854775809) (vr_k (by decide) (by decide)) SK_0_200_e (by decide +kernel) (by decide +kernel) ck_o_0_200_m1_0 h1 h3
set_option maxRecDepth 100000 in
theorem ck_o_0_200_m1_1 : e_ck (E_L_act_B602 9223372036854775810 (e_un KS_0_200 (e_un KR_0_m1 SK_0_200))) 9223372036854775810 (Lean.RArray.branch 0 KS_0_200 KR_0_m1) e_po = true := by decide +kernel
set_option maxRecDepth 100000 in
theorem ev_o_0_200_m1_1 {μ : am_M} (h1 : eKL 0 μ KS_0_200) (h3 : eKL 0 μ KR_0_m1) : ∃ μ', L_act_B602 1 μ = some (1, μ') ∧ eKL 0 μ' KS_0_200 ∧ eKL 0 μ' KR_0_m1 ∧ FRM μ μ' ∧ ∀ a i, e_pl e_po a i = false → μ' a i = μ a i :=
  ev_ord (c := 9223372036854775810) (vr_k (by decide) (by decide)) SK_0_200_e (by decide +kernel) (by decide +kernel) ck_o_0_200_m1_1 h1 h3
set_option maxRecDepth 100000 in
theorem ck_o_0_200_m1_2 : e_ck (E_L_act_B602 9223372036854775811 (e_un KS_0_200 (e_un KR_0_m1 SK_0_200))) 9223372036854775810 (Lean.RArray.branch 0 KS_0_200 KR_0_m1) e_po = true := by decide +kernel
set_option maxRecDepth 100000 in
theorem ev_o_0_200_m1_2 {μ : am_M} (h1 : eKL 0 μ KS_0_200) (h3 : eKL 0 μ KR_0_m1) : ∃ μ', L_act_B602 2 μ = some (1, μ') ∧ eKL 0 μ' KS_0_200 ∧ eKL 0 μ' KR_0_m1 ∧ FRM μ μ' ∧ ∀ a i, e_pl e_po a i = false → μ' a i = μ a i :=
  ev_ord (c := 9223372036854775811) (vr_k (by decide) (by decide)) SK_0_200_e (by decide +kernel) (by decide +kernel) ck_o_0_200_m1_2 h1 h3
set_option maxRecDepth 100000 in
theorem ck_o_1_200_m1_0 : e_ck (E_L_act_B602 9223372036854775809 (e_un KS_1_200 (e_un KR_1_m1 SK_1_200))) 9223372036854775810 (Lean.RArray.branch 0 KS_1_200 KR_1_0) e_po = true := by decide +kernel
set_option maxRecDepth 100000 in
theorem ev_o_1_200_m1_0 {μ : am_M} (h1 : eKL 0 μ KS_1_200) (h3 : eKL 0 μ KR_1_m1) : ∃ μ', L_act_B602 0 μ = some (1, μ') ∧ eKL 0 μ' KS_1_200 ∧ eKL 0 μ' KR_1_0 ∧ FRM μ μ' ∧ ∀ a i, e_pl e_po a i = false → μ' a i = μ a i :=
  ev_ord (c := 9223372036854775809) (vr_k (by decide) (by decide)) SK_1_200_e (by decide +kernel) (by decide +kernel) ck_o_1_200_m1_0 h1 h3
set_option maxRecDepth 100000 in
theorem ck_o_1_200_m1_1 : e_ck (E_L_act_B602 9223372036854775810 (e_un KS_1_200 (e_un KR_1_m1 SK_1_200))) 9223372036854775810 (Lean.RArray.branch 0 KS_1_200 KR_1_1) e_po = true := by decide +kernel
set_option maxRecDepth 100000 in
theorem ev_o_1_200_m1_1 {μ : am_M} (h1 : eKL 0 μ KS_1_200) (h3 : eKL 0 μ KR_1_m1) : ∃ μ', L_act_B602 1 μ = some (1, μ') ∧ eKL 0 μ' KS_1_200 ∧ eKL 0 μ' KR_1_1 ∧ FRM μ μ' ∧ ∀ a i, e_pl e_po a i = false → μ' a i = μ a i :=
  ev_ord (c := 9223372036854775810) (vr_k (by decide) (by decide)) SK_1_200_e (by decide +kernel) (by decide +kernel) ck_o_1_200_m1_1 h1 h3
set_option maxRecDepth 100000 in
theorem ck_o_1_200_m1_2 : e_ck (E_L_act_B602 9223372036854775811 (e_un KS_1_200 (e_un KR_1_m1 SK_1_200))) 9223372036854775810 (Lean.RArray.branch 0 KS_1_200 KR_1_2) e_po = true := by decide +kernel
set_option maxRecDepth 100000 in
theorem ev_o_1_200_m1_2 {μ : am_M} (h1 : eKL 0 μ KS_1_200) (h3 : eKL 0 μ KR_1_m1) : ∃ μ', L_act_B602 2 μ = some (1, μ') ∧ eKL 0 μ' KS_1_200 ∧ eKL 0 μ' KR_1_2 ∧ FRM μ μ' ∧ ∀ a i, e_pl e_po a i = false → μ' a i = μ a i :=
  ev_ord (c := 9223372036854775811) (vr_k (by decide) (by decide)) SK_1_200_e (by decide +kernel) (by decide +kernel) ck_o_1_200_m1_2 h1 h3
set_option maxRecDepth 100000 in
theorem ck_o_1_200_0_0 : e_ck (E_L_act_B602 9223372036854775809 (e_un KS_1_200 (e_un KR_1_0 SK_1_200))) 9223372036854775810 (Lean.RArray.branch 0 KS_1_200 KR_1_0) e_po = true := by decide +kernel
set_option maxRecDepth 100000 in
theorem ev_o_1_200_0_0 {μ : am_M} (h1 : eKL 0 μ KS_1_200) (h3 : eKL 0 μ KR_1_0) : ∃ μ', L_act_B602 0 μ = some (1, μ') ∧ eKL 0 μ' KS_1_200 ∧ eKL 0 μ' KR_1_0 ∧ FRM μ μ' ∧ ∀ a i, e_pl e_po a i = false → μ' a i = μ a i :=
  ev_ord (c := 9223372036854775809) (vr_k (by decide) (by decide)) SK_1_200_e (by decide +kernel) (by decide +kernel) ck_o_1_200_0_0 h1 h3
set_option maxRecDepth 100000 in
theorem ck_o_1_200_0_1 : e_ck (E_L_act_B602 9223372036854775810 (e_un KS_1_200 (e_un KR_1_0 SK_1_200))) 9223372036854775810 (Lean.RArray.branch 0 KS_1_200 KR_1_1) e_po = true := by decide +kernel
set_option maxRecDepth 100000 in
theorem ev_o_1_200_0_1 {μ : am_M} (h1 : eKL 0 μ KS_1_200) (h3 : eKL 0 μ KR_1_0) : ∃ μ', L_act_B602 1 μ = some (1, μ') ∧ eKL 0 μ' KS_1_200 ∧ eKL 0 μ' KR_1_1 ∧ FRM μ μ' ∧ ∀ a i, e_pl e_po a i = false → μ' a i = μ a i :=
  ev_ord (c := 9223372036854775810) (vr_k (by decide) (by decide)) SK_1_200_e (by decide +kernel) (by decide +kernel) ck_o_1_200_0_1 h1 h3
set_option maxRecDepth 100000 in
theorem ck_o_1_200_0_2 : e_ck (E_L_act_B602 9223372036854775811 (e_un KS_1_200 (e_un KR_1_0 SK_1_200))) 9223372036854775810 (Lean.RArray.branch 0 KS_1_200 KR_1_2) e_po = true := by decide +kernel
set_option maxRecDepth 100000 in
theorem ev_o_1_200_0_2 {μ : am_M} (h1 : eKL 0 μ KS_1_200) (h3 : eKL 0 μ KR_1_0) : ∃ μ', L_act_B602 2 μ = some (1, μ') ∧ eKL 0 μ' KS_1_200 ∧ eKL 0 μ' KR_1_2 ∧ FRM μ μ' ∧ ∀ a i, e_pl e_po a i = false → μ' a i = μ a i :=
  ev_ord (c := 9223372036854775811) (vr_k (by decide) (by decide)) SK_1_200_e (by decide +kernel) (by decide +kernel) ck_o_1_200_0_2 h1 h3
set_option maxRecDepth 100000 in
theorem ck_o_1_200_1_0 : e_ck (E_L_act_B602 9223372036854775809 (e_un KS_1_200 (e_un KR_1_1 SK_1_200))) 9223372036854775810 (Lean.RArray.branch 0 KS_1_200 KR_1_0) e_po = true := by decide +kernel
set_option maxRecDepth 100000 in
theorem ev_o_1_200_1_0 {μ : am_M} (h1 : eKL 0 μ KS_1_200) (h3 : eKL 0 μ KR_1_1) : ∃ μ', L_act_B602 0 μ = some (1, μ') ∧ eKL 0 μ' KS_1_200 ∧ eKL 0 μ' KR_1_0 ∧ FRM μ μ' ∧ ∀ a i, e_pl e_po a i = false → μ' a i = μ a i :=
  ev_ord (c := 9223372036854775809) (vr_k (by decide) (by decide)) SK_1_200_e (by decide +kernel) (by decide +kernel) ck_o_1_200_1_0 h1 h3
set_option maxRecDepth 100000 in
theorem ck_o_1_200_1_1 : e_ck (E_L_act_B602 9223372036854775810 (e_un KS_1_200 (e_un KR_1_1 SK_1_200))) 9223372036854775810 (Lean.RArray.branch 0 KS_1_200 KR_1_1) e_po = true := by decide +kernel
set_option maxRecDepth 100000 in
theorem ev_o_1_200_1_1 {μ : am_M} (h1 : eKL 0 μ KS_1_200) (h3 : eKL 0 μ KR_1_1) : ∃ μ', L_act_B602 1 μ = some (1, μ') ∧ eKL 0 μ' KS_1_200 ∧ eKL 0 μ' KR_1_1 ∧ FRM μ μ' ∧ ∀ a i, e_pl e_po a i = false → μ' a i = μ a i :=
  ev_ord (c := 9223372036854775810) (vr_k (by decide) (by decide)) SK_1_200_e (by decide +kernel) (by decide +kernel) ck_o_1_200_1_1 h1 h3
set_option maxRecDepth 100000 in
theorem ck_o_1_200_1_2 : e_ck (E_L_act_B602 9223372036854775811 (e_un KS_1_200 (e_un KR_1_1 SK_1_200))) 9223372036854775810 (Lean.RArray.branch 0 KS_1_200 KR_1_2) e_po = true := by decide +kernel
set_option maxRecDepth 100000 in
theorem ev_o_1_200_1_2 {μ : am_M} (h1 : eKL 0 μ KS_1_200) (h3 : eKL 0 μ KR_1_1) : ∃ μ', L_act_B602 2 μ = some (1, μ') ∧ eKL 0 μ' KS_1_200 ∧ eKL 0 μ' KR_1_2 ∧ FRM μ μ' ∧ ∀ a i, e_pl e_po a i = false → μ' a i = μ a i :=
  ev_ord (c := 9223372036854775811) (vr_k (by decide) (by decide)) SK_1_200_e (by decide +kernel) (by decide +kernel) ck_o_1_200_1_2 h1 h3
set_option maxRecDepth 100000 in
theorem ck_o_1_200_2_0 : e_ck (E_L_act_B602 9223372036854775809 (e_un KS_1_200 (e_un KR_1_2 SK_1_200))) 9223372036854775810 (Lean.RArray.branch 0 KS_1_200 KR_1_0) e_po = true := by decide +kernel
set_option maxRecDepth 100000 in
theorem ev_o_1_200_2_0 {μ : am_M} (h1 : eKL 0 μ KS_1_200) (h3 : eKL 0 μ KR_1_2) : ∃ μ', L_act_B602 0 μ = some (1, μ') ∧ eKL 0 μ' KS_1_200 ∧ eKL 0 μ' KR_1_0 ∧ FRM μ μ' ∧ ∀ a i, e_pl e_po a i = false → μ' a i = μ a i :=
  ev_ord (c := 9223372036854775809) (vr_k (by decide) (by decide)) SK_1_200_e (by decide +kernel) (by decide +kernel) ck_o_1_200_2_0 h1 h3
set_option maxRecDepth 100000 in
theorem ck_o_1_200_2_1 : e_ck (E_L_act_B602 9223372036854775810 (e_un KS_1_200 (e_un KR_1_2 SK_1_200))) 9223372036854775810 (Lean.RArray.branch 0 KS_1_200 KR_1_1) e_po = true := by decide +kernel
set_option maxRecDepth 100000 in
theorem ev_o_1_200_2_1 {μ : am_M} (h1 : eKL 0 μ KS_1_200) (h3 : eKL 0 μ KR_1_2) : ∃ μ', L_act_B602 1 μ = some (1, μ') ∧ eKL 0 μ' KS_1_200 ∧ eKL 0 μ' KR_1_1 ∧ FRM μ μ' ∧ ∀ a i, e_pl e_po a i = false → μ' a i = μ a i :=
  ev_ord (c := 9223372036854775810) (vr_k (by decide) (by decide)) SK_1_200_e (by decide +kernel) (by decide +kernel) ck_o_1_200_2_1 h1 h3
set_option maxRecDepth 100000 in
theorem ck_o_1_200_2_2 : e_ck (E_L_act_B602 9223372036854775811 (e_un KS_1_200 (e_un KR_1_2 SK_1_200))) 9223372036854775810 (Lean.RArray.branch 0 KS_1_200 KR_1_2) e_po = true := by decide +kernel
set_option maxRecDepth 100000 in
theorem ev_o_1_200_2_2 {μ : am_M} (h1 : eKL 0 μ KS_1_200) (h3 : eKL 0 μ KR_1_2) : ∃ μ', L_act_B602 2 μ = some (1, μ') ∧ eKL 0 μ' KS_1_200 ∧ eKL 0 μ' KR_1_2 ∧ FRM μ μ' ∧ ∀ a i, e_pl e_po a i = false → μ' a i = μ a i :=
  ev_ord (c := 9223372036854775811) (vr_k (by decide) (by decide)) SK_1_200_e (by decide +kernel) (by decide +kernel) ck_o_1_200_2_2 h1 h3
set_option maxRecDepth 100000 in
theorem ck_o_2_200_m1_0 : e_ck (E_L_act_B602 9223372036854775809 (e_un KS_2_200 (e_un KR_2_m1 SK_2_200))) 9223372036854775810 (Lean.RArray.branch 0 KS_2_200 KR_2_0) e_po = true := by decide +kernel
set_option maxRecDepth 100000 in
theorem ev_o_2_200_m1_0 {μ : am_M} (h1 : eKL 0 μ KS_2_200) (h3 : eKL 0 μ KR_2_m1) : ∃ μ', L_act_B602 0 μ = some (1, μ') ∧ eKL 0 μ' KS_2_200 ∧ eKL 0 μ' KR_2_0 ∧ FRM μ μ' ∧ ∀ a i, e_pl e_po a i = false → μ' a i = μ a i :=
  ev_ord (c := 9223372036854775809) (vr_k (by decide) (by decide)) SK_2_200_e (by decide +kernel) (by decide +kernel) ck_o_2_200_m1_0 h1 h3
set_option maxRecDepth 100000 in
theorem ck_o_2_200_0_0 : e_ck (E_L_act_B602 9223372036854775809 (e_un KS_2_200 (e_un KR_2_0 SK_2_200))) 9223372036854775810 (Lean.RArray.branch 0 KS_2_200 KR_2_0) e_po = true := by decide +kernel
set_option maxRecDepth 100000 in
theorem ev_o_2_200_0_0 {μ : am_M} (h1 : eKL 0 μ KS_2_200) (h3 : eKL 0 μ KR_2_0) : ∃ μ', L_act_B602 0 μ = some (1, μ') ∧ eKL 0 μ' KS_2_200 ∧ eKL 0 μ' KR_2_0 ∧ FRM μ μ' ∧ ∀ a i, e_pl e_po a i = false → μ' a i = μ a i :=
  ev_ord (c := 9223372036854775809) (vr_k (by decide) (by decide)) SK_2_200_e (by decide +kernel) (by decide +kernel) ck_o_2_200_0_0 h1 h3
