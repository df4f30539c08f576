/-! Evaluations: a sound bill to its end. Printed by program (wip/p27/ev9.py). -/
set_option maxRecDepth 100000 in
theorem ck_9_0_100_0_0 : e_ck (E_a9 9223372036854775809 9223372036854775809 2361183241436970090496 (e_un KS_0_100 (e_un RM99 SN_0_100))) 9223372036854775810 KS_0_100 e_p9 = true := by decide +kernel
theorem ev_9_0_100_0_0 {c : Int} (hc : r32 c) {μ : am_M} (h1 : eKL 0 μ KS_0_100) (h2 : μ 300 12 = 99) : ∃ μ', a9 0 0 c μ = some (1, μ') ∧ eKL 0 μ' KS_0_100 ∧ ∀ a i, e_pl e_p9 a i = false → μ' a i = μ a i := ev_a9 hc (vr_k (by decide) (by decide)) (vr_k (by decide) (by decide)) SN_0_100_e KS_0_100_l ck_9_0_100_0_0 h1 h2
set_option maxRecDepth 100000 in
theorem ck_9_0_100_0_1 : e_ck (E_a9 9223372036854775809 9223372036854775810 2361183241436970090496 (e_un KS_0_100 (e_un RM99 SN_0_100))) 9223372036854775810 KS_0_100 e_p9 = true := by decide +kernel
theorem ev_9_0_100_0_1 {c : Int} (hc : r32 c) {μ : am_M} (h1 : eKL 0 μ KS_0_100) (h2 : μ 300 12 = 99) : ∃ μ', a9 0 1 c μ = some (1, μ') ∧ eKL 0 μ' KS_0_100 ∧ ∀ a i, e_pl e_p9 a i = false → μ' a i = μ a i := ev_a9 hc (vr_k (by decide) (by decide)) (vr_k (by decide) (by decide)) SN_0_100_e KS_0_100_l ck_9_0_100_0_1 h1 h2
set_option maxRecDepth 100000 in
theorem ck_9_0_100_0_2 : e_ck (E_a9 9223372036854775809 9223372036854775811 2361183241436970090496 (e_un KS_0_100 (e_un RM99 SN_0_100))) 9223372036854775810 KS_0_100 e_p9 = true := by decide +kernel
theorem ev_9_0_100_0_2 {c : Int} (hc : r32 c) {μ : am_M} (h1 : eKL 0 μ KS_0_100) (h2 : μ 300 12 = 99) : ∃ μ', a9 0 2 c μ = some (1, μ') ∧ eKL 0 μ' KS_0_100 ∧ ∀ a i, e_pl e_p9 a i = false → μ' a i = μ a i := ev_a9 hc (vr_k (by decide) (by decide)) (vr_k (by decide) (by decide)) SN_0_100_e KS_0_100_l ck_9_0_100_0_2 h1 h2
set_option maxRecDepth 100000 in
theorem ck_9_0_100_0_3 : e_ck (E_a9 9223372036854775809 9223372036854775812 2361183241436970090496 (e_un KS_0_100 (e_un RM99 SN_0_100))) 9223372036854775810 KS_0_100 e_p9 = true := by decide +kernel
theorem ev_9_0_100_0_3 {c : Int} (hc : r32 c) {μ : am_M} (h1 : eKL 0 μ KS_0_100) (h2 : μ 300 12 = 99) : ∃ μ', a9 0 3 c μ = some (1, μ') ∧ eKL 0 μ' KS_0_100 ∧ ∀ a i, e_pl e_p9 a i = false → μ' a i = μ a i := ev_a9 hc (vr_k (by decide) (by decide)) (vr_k (by decide) (by decide)) SN_0_100_e KS_0_100_l ck_9_0_100_0_3 h1 h2
set_option maxRecDepth 100000 in
theorem ck_9_0_100_0_4 : e_ck (E_a9 9223372036854775809 9223372036854775813 2361183241436970090496 (e_un KS_0_100 (e_un RM99 SN_0_100))) 9223372036854775810 KS_0_100 e_p9 = true := by decide +kernel
theorem ev_9_0_100_0_4 {c : Int} (hc : r32 c) {μ : am_M} (h1 : eKL 0 μ KS_0_100) (h2 : μ 300 12 = 99) : ∃ μ', a9 0 4 c μ = some (1, μ') ∧ eKL 0 μ' KS_0_100 ∧ ∀ a i, e_pl e_p9 a i = false → μ' a i = μ a i := ev_a9 hc (vr_k (by decide) (by decide)) (vr_k (by decide) (by decide)) SN_0_100_e KS_0_100_l ck_9_0_100_0_4 h1 h2
set_option maxRecDepth 100000 in
theorem ck_9_0_100_0_5 : e_ck (E_a9 9223372036854775809 9223372036854775814 2361183241436970090496 (e_un KS_0_100 (e_un RM99 SN_0_100))) 9223372036854775810 KS_0_100 e_p9 = true := by decide +kernel
theorem ev_9_0_100_0_5 {c : Int} (hc : r32 c) {μ : am_M} (h1 : eKL 0 μ KS_0_100) (h2 : μ 300 12 = 99) : ∃ μ', a9 0 5 c μ = some (1, μ') ∧ eKL 0 μ' KS_0_100 ∧ ∀ a i, e_pl e_p9 a i = false → μ' a i = μ a i := ev_a9 hc (vr_k (by decide) (by decide)) (vr_k (by decide) (by decide)) SN_0_100_e KS_0_100_l ck_9_0_100_0_5 h1 h2
set_option maxRecDepth 100000 in
theorem ck_9_0_100_0_6 : e_ck (E_a9 9223372036854775809 9223372036854775815 2361183241436970090496 (e_un KS_0_100 (e_un RM99 SN_0_100))) 9223372036854775810 KS_0_100 e_p9 = true := by decide +kernel
theorem ev_9_0_100_0_6 {c : Int} (hc : r32 c) {μ : am_M} (h1 : eKL 0 μ KS_0_100) (h2 : μ 300 12 = 99) : ∃ μ', a9 0 6 c μ = some (1, μ') ∧ eKL 0 μ' KS_0_100 ∧ ∀ a i, e_pl e_p9 a i = false → μ' a i = μ a i := ev_a9 hc (vr_k (by decide) (by decide)) (vr_k (by decide) (by decide)) SN_0_100_e KS_0_100_l ck_9_0_100_0_6 h1 h2
set_option maxRecDepth 100000 in
theorem ck_9_0_100_0_7 : e_ck (E_a9 9223372036854775809 9223372036854775816 2361183241436970090496 (e_un KS_0_100 (e_un RM99 SN_0_100))) 9223372036854775810 KS_0_100 e_p9 = true := by decide +kernel
theorem ev_9_0_100_0_7 {c : Int} (hc : r32 c) {μ : am_M} (h1 : eKL 0 μ KS_0_100) (h2 : μ 300 12 = 99) : ∃ μ', a9 0 7 c μ = some (1, μ') ∧ eKL 0 μ' KS_0_100 ∧ ∀ a i, e_pl e_p9 a i = false → μ' a i = μ a i := ev_a9 hc (vr_k (by decide) (by decide)) (vr_k (by decide) (by decide)) SN_0_100_e KS_0_100_l ck_9_0_100_0_7 h1 h2
set_option maxRecDepth 100000 in
theorem ck_9_0_100_0_8 : e_ck (E_a9 9223372036854775809 9223372036854775817 2361183241436970090496 (e_un KS_0_100 (e_un RM99 SN_0_100))) 9223372036854775810 KS_0_100 e_p9 = true := by decide +kernel
theorem ev_9_0_100_0_8 {c : Int} (hc : r32 c) {μ : am_M} (h1 : eKL 0 μ KS_0_100) (h2 : μ 300 12 = 99) : ∃ μ', a9 0 8 c μ = some (1, μ') ∧ eKL 0 μ' KS_0_100 ∧ ∀ a i, e_pl e_p9 a i = false → μ' a i = μ a i := ev_a9 hc (vr_k (by decide) (by decide)) (vr_k (by decide) (by decide)) SN_0_100_e KS_0_100_l ck_9_0_100_0_8 h1 h2
set_option maxRecDepth 100000 in
theorem ck_9_0_100_1_0 : e_ck (E_a9 9223372036854775810 9223372036854775809 2361183241436970090496 (e_un KS_0_100 (e_un RM99 SN_0_100))) 9223372036854775810 KS_0_100 e_p9 = true := by decide +kernel
theorem ev_9_0_100_1_0 {c : Int} (hc : r32 c) {μ : am_M} (h1 : eKL 0 μ KS_0_100) (h2 : μ 300 12 = 99) : ∃ μ', a9 1 0 c μ = some (1, μ') ∧ eKL 0 μ' KS_0_100 ∧ ∀ a i, e_pl e_p9 a i = false → μ' a i = μ a i := ev_a9 hc (vr_k (by decide) (by decide)) (vr_k (by decide) (by decide)) SN_0_100_e KS_0_100_l ck_9_0_100_1_0 h1 h2
set_option maxRecDepth 100000 in
theorem ck_9_0_100_1_1 : e_ck (E_a9 9223372036854775810 9223372036854775810 2361183241436970090496 (e_un KS_0_100 (e_un RM99 SN_0_100))) 9223372036854775810 KS_0_100 e_p9 = true := by decide +kernel
theorem ev_9_0_100_1_1 {c : Int} (hc : r32 c) {μ : am_M} (h1 : eKL 0 μ KS_0_100) (h2 : μ 300 12 = 99) : ∃ μ', a9 1 1 c μ = some (1, μ') ∧ eKL 0 μ' KS_0_100 ∧ ∀ a i, e_pl e_p9 a i = false → μ' a i = μ a i := ev_a9 hc (vr_k (by decide) (by decide)) (vr_k (by decide) (by decide)) SN_0_100_e KS_0_100_l ck_9_0_100_1_1 h1 h2
set_option maxRecDepth 100000 in
theorem ck_9_0_100_1_2 : e_ck (E_a9 9223372036854775810 9223372036854775811 2361183241436970090496 (e_un KS_0_100 (e_un RM99 SN_0_100))) 9223372036854775810 KS_0_100 e_p9 = true := by decide +kernel
theorem ev_9_0_100_1_2 {c : Int} (hc : r32 c) {μ : am_M} (h1 : eKL 0 μ KS_0_100) (h2 : μ 300 12 = 99) : ∃ μ', a9 1 2 c μ = some (1, μ') ∧ eKL 0 μ' KS_0_100 ∧ ∀ a i, e_pl e_p9 a i = false → μ' a i = μ a i := ev_a9 hc (vr_k (by decide) (by decide)) (vr_k (by decide) (by decide)) SN_0_100_e KS_0_100_l ck_9_0_100_1_2 h1 h2
set_option maxRecDepth 100000 in
theorem ck_9_0_100_1_3 : e_ck (E_a9 9223372036854775810 9223372036854775812 2361183241436970090496 (e_un KS_0_100 (e_un RM99 SN_0_100))) 9223372036854775810 KS_0_100 e_p9 = true := by decide +kernel
theorem ev_9_0_100_1_3 {c : Int} (hc : r32 c) {μ : am_M} (h1 : eKL 0 μ KS_0_100) (h2 : μ 300 12 = 99) : ∃ μ', a9 1 3 c μ = some (1, μ') ∧ eKL 0 μ' KS_0_100 ∧ ∀ a i, e_pl e_p9 a i = false → μ' a i = μ a i := ev_a9 hc (vr_k (by decide) (by decide)) (vr_k (by decide) (by decide)) SN_0_100_e KS_0_100_l ck_9_0_100_1_3 h1 h2
set_option maxRecDepth 100000 in
theorem ck_9_0_100_1_4 : e_ck (E_a9 9223372036854775810 9223372036854775813 2361183241436970090496 (e_un KS_0_100 (e_un RM99 SN_0_100))) 9223372036854775810 KS_0_100 e_p9 = true := by decide +kernel
theorem ev_9_0_100_1_4 {c : Int} (hc : r32 c) {μ : am_M} (h1 : eKL 0 μ KS_0_100) (h2 : μ 300 12 = 99) : ∃ μ', a9 1 4 c μ = some (1, μ') ∧ eKL 0 μ' KS_0_100 ∧ ∀ a i, e_pl e_p9 a i = false → μ' a i = μ a i := ev_a9 hc (vr_k (by decide) (by decide)) (vr_k (by decide) (by decide)) SN_0_100_e KS_0_100_l ck_9_0_100_1_4 h1 h2
set_option maxRecDepth 100000 in
theorem ck_9_0_100_1_5 : e_ck (E_a9 9223372036854775810 9223372036854775814 2361183241436970090496 (e_un KS_0_100 (e_un RM99 SN_0_100))) 9223372036854775810 KS_0_100 e_p9 = true := by decide +kernel
theorem ev_9_0_100_1_5 {c : Int} (hc : r32 c) {μ : am_M} (h1 : eKL 0 μ KS_0_100) (h2 : μ 300 12 = 99) : ∃ μ', a9 1 5 c μ = some (1, μ') ∧ eKL 0 μ' KS_0_100 ∧ ∀ a i, e_pl e_p9 a i = false → μ' a i = μ a i := ev_a9 hc (vr_k (by decide) (by decide)) (vr_k (by decide) (by decide)) SN_0_100_e KS_0_100_l ck_9_0_100_1_5 h1 h2
set_option maxRecDepth 100000 in
theorem ck_9_0_100_1_6 : e_ck (E_a9 9223372036854775810 9223372036854775815 2361183241436970090496 (e_un KS_0_100 (e_un RM99 SN_0_100))) 9223372036854775810 KS_0_100 e_p9 = true := by decide +kernel
theorem ev_9_0_100_1_6 {c : Int} (hc : r32 c) {μ : am_M} (h1 : eKL 0 μ KS_0_100) (h2 : μ 300 12 = 99) : ∃ μ', a9 1 6 c μ = some (1, μ') ∧ eKL 0 μ' KS_0_100 ∧ ∀ a i, e_pl e_p9 a i = false → μ' a i = μ a i := ev_a9 hc (vr_k (by decide) (by decide)) (vr_k (by decide) (by decide)) SN_0_100_e KS_0_100_l ck_9_0_100_1_6 h1 h2
set_option maxRecDepth 100000 in
theorem ck_9_0_100_1_7 : e_ck (E_a9 9223372036854775810 9223372036854775816 2361183241436970090496 (e_un KS_0_100 (e_un RM99 SN_0_100))) 9223372036854775810 KS_0_100 e_p9 = true := by decide +kernel
theorem ev_9_0_100_1_7 {c : Int} (hc : r32 c) {μ : am_M} (h1 : eKL 0 μ KS_0_100) (h2 : μ 300 12 = 99) : ∃ μ', a9 1 7 c μ = some (1, μ') ∧ eKL 0 μ' KS_0_100 ∧ ∀ a i, e_pl e_p9 a i = false → μ' a i = μ a i := ev_a9 hc (vr_k (by decide) (by decide)) (vr_k (by decide) (by decide)) SN_0_100_e KS_0_100_l ck_9_0_100_1_7 h1 h2
set_option maxRecDepth 100000 in
theorem ck_9_0_100_1_8 : e_ck (E_a9 9223372036854775810 9223372036854775817 2361183241436970090496 (e_un KS_0_100 (e_un RM99 SN_0_100))) 9223372036854775810 KS_0_100 e_p9 = true := by decide +kernel
theorem ev_9_0_100_1_8 {c : Int} (hc : r32 c) {μ : am_M} (h1 : eKL 0 μ KS_0_100) (h2 : μ 300 12 = 99) : ∃ μ', a9 1 8 c μ = some (1, μ') ∧ eKL 0 μ' KS_0_100 ∧ ∀ a i, e_pl e_p9 a i = false → μ' a i = μ a i := ev_a9 hc (vr_k (by decide) (by decide)) (vr_k (by decide) (by decide)) SN_0_100_e KS_0_100_l ck_9_0_100_1_8 h1 h2
set_option maxRecDepth 100000 in
theorem ck_9_0_100_2_0 : e_ck (E_a9 9223372036854775811 9223372036854775809 2361183241436970090496 (e_un KS_0_100 (e_un RM99 SN_0_100))) 9223372036854775810 KS_0_100 e_p9 = true := by decide +kernel
theorem ev_9_0_100_2_0 {c : Int} (hc : r32 c) {μ : am_M} (h1 : eKL 0 μ KS_0_100) (h2 : μ 300 12 = 99) : ∃ μ', a9 2 0 c μ = some (1, μ') ∧ eKL 0 μ' KS_0_100 ∧ ∀ a i, e_pl e_p9 a i = false → μ' a i = μ a i := ev_a9 hc (vr_k (by decide) (by decide)) (vr_k (by decide) (by decide)) SN_0_100_e KS_0_100_l ck_9_0_100_2_0 h1 h2
set_option maxRecDepth 100000 in
theorem ck_9_0_100_2_1 : e_ck (E_a9 9223372036854775811 9223372036854775810 2361183241436970090496 (e_un KS_0_100 (e_un RM99 SN_0_100))) 9223372036854775810 KS_0_100 e_p9 = true := by decide +kernel
theorem ev_9_0_100_2_1 {c : Int} (hc : r32 c) {μ : am_M} (h1 : eKL 0 μ KS_0_100) (h2 : μ 300 12 = 99) : ∃ μ', a9 2 1 c μ = some (1, μ') ∧ eKL 0 μ' KS_0_100 ∧ ∀ a i, e_pl e_p9 a i = false → μ' a i = μ a i := ev_a9 hc (vr_k (by decide) (by decide)) (vr_k (by decide) (by decide)) SN_0_100_e KS_0_100_l ck_9_0_100_2_1 h1 h2
set_option maxRecDepth 100000 in
theorem ck_9_0_100_2_2 : e_ck (E_a9 9223372036854775811 9223372036854775811 2361183241436970090496 (e_un KS_0_100 (e_un RM99 SN_0_100))) 9223372036854775810 KS_0_100 e_p9 = true := by decide +kernel
theorem ev_9_0_100_2_2 {c : Int} (hc : r32 c) {μ : am_M} (h1 : eKL 0 μ KS_0_100) (h2 : μ 300 12 = 99) : ∃ μ', a9 2 2 c μ = some (1, μ') ∧ eKL 0 μ' KS_0_100 ∧ ∀ a i, e_pl e_p9 a i = false → μ' a i = μ a i := ev_a9 hc (vr_k (by decide) (by decide)) (vr_k (by decide) (by decide)) SN_0_100_e KS_0_100_l ck_9_0_100_2_2 h1 h2
set_option maxRecDepth 100000 in
theorem ck_9_0_100_2_3 : e_ck (E_a9 9223372036854775811 9223372036854775812 2361183241436970090496 (e_un KS_0_100 (e_un RM99 SN_0_100))) 9223372036854775810 KS_0_100 e_p9 = true := by decide +kernel
theorem ev_9_0_100_2_3 {c : Int} (hc : r32 c) {μ : am_M} (h1 : eKL 0 μ KS_0_100) (h2 : μ 300 12 = 99) : ∃ μ', a9 2 3 c μ = some (1, μ') ∧ eKL 0 μ' KS_0_100 ∧ ∀ a i, e_pl e_p9 a i = false → μ' a i = μ a i := ev_a9 hc (vr_k (by decide) (by decide)) (vr_k (by decide) (by decide)) SN_0_100_e KS_0_100_l ck_9_0_100_2_3 h1 h2
set_option maxRecDepth 100000 in
theorem ck_9_0_100_2_4 : e_ck (E_a9 9223372036854775811 9223372036854775813 2361183241436970090496 (e_un KS_0_100 (e_un RM99 SN_0_100))) 9223372036854775810 KS_0_100 e_p9 = true := by decide +kernel
theorem ev_9_0_100_2_4 {c : Int} (hc : r32 c) {μ : am_M} (h1 : eKL 0 μ KS_0_100) (h2 : μ 300 12 = 99) : ∃ μ', a9 2 4 c μ = some (1, μ') ∧ eKL 0 μ' KS_0_100 ∧ ∀ a i, e_pl e_p9 a i = false → μ' a i = μ a i := ev_a9 hc (vr_k (by decide) (by decide)) (vr_k (by decide) (by decide)) SN_0_100_e KS_0_100_l ck_9_0_100_2_4 h1 h2
set_option maxRecDepth 100000 in
theorem ck_9_0_100_2_5 : e_ck (E_a9 9223372036854775811 9223372036854775814 2361183241436970090496 (e_un KS_0_100 (e_un RM99 SN_0_100))) 9223372036854775810 KS_0_100 e_p9 = true := by decide +kernel
theorem ev_9_0_100_2_5 {c : Int} (hc : r32 c) {μ : am_M} (h1 : eKL 0 μ KS_0_100) (h2 : μ 300 12 = 99) : ∃ μ', a9 2 5 c μ = some (1, μ') ∧ eKL 0 μ' KS_0_100 ∧ ∀ a i, e_pl e_p9 a i = false → μ' a i = μ a i := ev_a9 hc (vr_k (by decide) (by decide)) (vr_k (by decide) (by decide)) SN_0_100_e KS_0_100_l ck_9_0_100_2_5 h1 h2
set_option maxRecDepth 100000 in
theorem ck_9_0_100_2_6 : e_ck (E_a9 9223372036854775811 9223372036854775815 2361183241436970090496 (e_un KS_0_100 (e_un RM99 SN_0_100))) 9223372036854775810 KS_0_100 e_p9 = true := by decide +kernel
theorem ev_9_0_100_2_6 {c : Int} (hc : r32 c) {μ : am_M} (h1 : eKL 0 μ KS_0_100) (h2 : μ 300 12 = 99) : ∃ μ', a9 2 6 c μ = some (1, μ') ∧ eKL 0 μ' KS_0_100 ∧ ∀ a i, e_pl e_p9 a i = false → μ' a i = μ a i := ev_a9 hc (vr_k (by decide) (by decide)) (vr_k (by decide) (by decide)) SN_0_100_e KS_0_100_l ck_9_0_100_2_6 h1 h2
set_option maxRecDepth 100000 in
theorem ck_9_0_100_2_7 : e_ck (E_a9 9223372036854775811 9223372036854775816 2361183241436970090496 (e_un KS_0_100 (e_un RM99 SN_0_100))) 9223372036854775810 KS_0_100 e_p9 = true := by decide +kernel
theorem ev_9_0_100_2_7 {c : Int} (hc : r32 c) {μ : am_M} (h1 : eKL 0 μ KS_0_100) (h2 : μ 300 12 = 99) : ∃ μ', a9 2 7 c μ = some (1, μ') ∧ eKL 0 μ' KS_0_100 ∧ ∀ a i, e_pl e_p9 a i = false → μ' a i = μ a i := ev_a9 hc (vr_k (by decide) (by decide)) (vr_k (by decide) (by decide)) SN_0_100_e KS_0_100_l ck_9_0_100_2_7 h1 h2
set_option maxRecDepth 100000 in
theorem ck_9_0_100_2_8 : e_ck (E_a9 9223372036854775811 9223372036854775817 2361183241436970090496 (e_un KS_0_100 (e_un RM99 SN_0_100))) 9223372036854775810 KS_0_100 e_p9 = true := by decide +kernel
theorem ev_9_0_100_2_8 {c : Int} (hc : r32 c) {μ : am_M} (h1 : eKL 0 μ KS_0_100) (h2 : μ 300 12 = 99) : ∃ μ', a9 2 8 c μ = some (1, μ') ∧ eKL 0 μ' KS_0_100 ∧ ∀ a i, e_pl e_p9 a i = false → μ' a i = μ a i := ev_a9 hc (vr_k (by decide) (by decide)) (vr_k (by decide) (by decide)) SN_0_100_e KS_0_100_l ck_9_0_100_2_8 h1 h2
set_option maxRecDepth 100000 in
theorem ck_9_2_100_0_0 : e_ck (E_a9 9223372036854775809 9223372036854775809 2361183241436970090496 (e_un KS_2_100 (e_un RM99 SN_2_100))) 9223372036854775810 KS_2_100 e_p9 = true := by decide +kernel
theorem ev_9_2_100_0_0 {c : Int} (hc : r32 c) {μ : am_M} (h1 : eKL 0 μ KS_2_100) (h2 : μ 300 12 = 99) : ∃ μ', a9 0 0 c μ = some (1, μ') ∧ eKL 0 μ' KS_2_100 ∧ ∀ a i, e_pl e_p9 a i = false → μ' a i = μ a i := ev_a9 hc (vr_k (by decide) (by decide)) (vr_k (by decide) (by decide)) SN_2_100_e KS_2_100_l ck_9_2_100_0_0 h1 h2
set_option maxRecDepth 100000 in
theorem ck_9_2_100_0_1 : e_ck (E_a9 9223372036854775809 9223372036854775810 2361183241436970090496 (e_un KS_2_100 (e_un RM99 SN_2_100))) 9223372036854775810 KS_2_100 e_p9 = true := by decide +kernel
theorem ev_9_2_100_0_1 {c : Int} (hc : r32 c) {μ : am_M} (h1 : eKL 0 μ KS_2_100) (h2 : μ 300 12 = 99) : ∃ μ', a9 0 1 c μ = some (1, μ') ∧ eKL 0 μ' KS_2_100 ∧ ∀ a i, e_pl e_p9 a i = false → μ' a i = μ a i := ev_a9 hc (vr_k (by decide) (by decide)) (vr_k (by decide) (by decide)) SN_2_100_e KS_2_100_l ck_9_2_100_0_1 h1 h2
set_option maxRecDepth 100000 in
theorem ck_9_2_100_0_2 : e_ck (E_a9 9223372036854775809 9223372036854775811 2361183241436970090496 (e_un KS_2_100 (e_un RM99 SN_2_100))) 9223372036854775810 KS_2_100 e_p9 = true := by decide +kernel
theorem ev_9_2_100_0_2 {c : Int} (hc : r32 c) {μ : am_M} (h1 : eKL 0 μ KS_2_100) (h2 : μ 300 12 = 99) : ∃ μ', a9 0 2 c μ = some (1, μ') ∧ eKL 0 μ' KS_2_100 ∧ ∀ a i, e_pl e_p9 a i = false → μ' a i = μ a i := ev_a9 hc (vr_k (by decide) (by decide)) (vr_k (by decide) (by decide)) SN_2_100_e KS_2_100_l ck_9_2_100_0_2 h1 h2
set_option maxRecDepth 100000 in
theorem ck_9_2_100_0_3 : e_ck (E_a9 9223372036854775809 9223372036854775812 2361183241436970090496 (e_un KS_2_100 (e_un RM99 SN_2_100))) 9223372036854775810 KS_2_100 e_p9 = true := by decide +kernel
theorem ev_9_2_100_0_3 {c : Int} (hc : r32 c) {μ : am_M} (h1 : eKL 0 μ KS_2_100) (h2 : μ 300 12 = 99) : ∃ μ', a9 0 3 c μ = some (1, μ') ∧ eKL 0 μ' KS_2_100 ∧ ∀ a i, e_pl e_p9 a i = false → μ' a i = μ a i := ev_a9 hc (vr_k (by decide) (by decide)) (vr_k (by decide) (by decide)) SN_2_100_e KS_2_100_l ck_9_2_100_0_3 h1 h2
set_option maxRecDepth 100000 in
theorem ck_9_2_100_0_4 : e_ck (E_a9 9223372036854775809 9223372036854775813 2361183241436970090496 (e_un KS_2_100 (e_un RM99 SN_2_100))) 9223372036854775810 KS_2_100 e_p9 = true := by decide +kernel
theorem ev_9_2_100_0_4 {c : Int} (hc : r32 c) {μ : am_M} (h1 : eKL 0 μ KS_2_100) (h2 : μ 300 12 = 99) : ∃ μ', a9 0 4 c μ = some (1, μ') ∧ eKL 0 μ' KS_2_100 ∧ ∀ a i, e_pl e_p9 a i = false → μ' a i = μ a i := ev_a9 hc (vr_k (by decide) (by decide)) (vr_k (by decide) (by decide)) SN_2_100_e KS_2_100_l ck_9_2_100_0_4 h1 h2
set_option maxRecDepth 100000 in
theorem ck_9_2_100_0_5 : e_ck (E_a9 9223372036854775809 9223372036854775814 2361183241436970090496 (e_un KS_2_100 (e_un RM99 SN_2_100))) 9223372036854775810 KS_2_100 e_p9 = true := by decide +kernel
theorem ev_9_2_100_0_5 {c : Int} (hc : r32 c) {μ : am_M} (h1 : eKL 0 μ KS_2_100) (h2 : μ 300 12 = 99) : ∃ μ', a9 0 5 c μ = some (1, μ') ∧ eKL 0 μ' KS_2_100 ∧ ∀ a i, e_pl e_p9 a i = false → μ' a i = μ a i := ev_a9 hc (vr_k (by decide) (by decide)) (vr_k (by decide) (by decide)) SN_2_100_e KS_2_100_l ck_9_2_100_0_5 h1 h2
set_option maxRecDepth 100000 in
theorem ck_9_2_100_0_6 : e_ck (E_a9 9223372036854775809 9223372036854775815 2361183241436970090496 (e_un KS_2_100 (e_un RM99 SN_2_100))) 9223372036854775810 KS_2_100 e_p9 = true := by decide +kernel
theorem ev_9_2_100_0_6 {c : Int} (hc : r32 c) {μ : am_M} (h1 : eKL 0 μ KS_2_100) (h2 : μ 300 12 = 99) : ∃ μ', a9 0 6 c μ = some (1, μ') ∧ eKL 0 μ' KS_2_100 ∧ ∀ a i, e_pl e_p9 a i = false → μ' a i = μ a i := ev_a9 hc (vr_k (by decide) (by decide)) (vr_k (by decide) (by decide)) SN_2_100_e KS_2_100_l ck_9_2_100_0_6 h1 h2
set_option maxRecDepth 100000 in
theorem ck_9_2_100_0_7 : e_ck (E_a9 9223372036854775809 9223372036854775816 2361183241436970090496 (e_un KS_2_100 (e_un RM99 SN_2_100))) 9223372036854775810 KS_2_100 e_p9 = true := by decide +kernel
theorem ev_9_2_100_0_7 {c : Int} (hc : r32 c) {μ : am_M} (h1 : eKL 0 μ KS_2_100) (h2 : μ 300 12 = 99) : ∃ μ', a9 0 7 c μ = some (1, μ') ∧ eKL 0 μ' KS_2_100 ∧ ∀ a i, e_pl e_p9 a i = false → μ' a i = μ a i := ev_a9 hc (vr_k (by decide) (by decide)) (vr_k (by decide) (by decide)) SN_2_100_e KS_2_100_l ck_9_2_100_0_7 h1 h2
set_option maxRecDepth 100000 in
theorem ck_9_2_100_0_8 : e_ck (E_a9 9223372036854775809 9223372036854775817 2361183241436970090496 (e_un KS_2_100 (e_un RM99 SN_2_100))) 9223372036854775810 KS_2_100 e_p9 = true := by decide +kernel
theorem ev_9_2_100_0_8 {c : Int} (hc : r32 c) {μ : am_M} (h1 : eKL 0 μ KS_2_100) (h2 : μ 300 12 = 99) : ∃ μ', a9 0 8 c μ = some (1, μ') ∧ eKL 0 μ' KS_2_100 ∧ ∀ a i, e_pl e_p9 a i = false → μ' a i = μ a i := ev_a9 hc (vr_k (by decide) (by decide)) (vr_k (by decide) (by decide)) SN_2_100_e KS_2_100_l ck_9_2_100_0_8 h1 h2
