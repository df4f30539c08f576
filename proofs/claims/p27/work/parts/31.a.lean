/-! Evaluations: feeding and telling. Printed by program (wip/p27/ev7.py). -/
set_option maxRecDepth 100000 in
theorem ck_fd_0 : e_ck (E_L_feed 9223372036854776232 (e_un FW_0 SF_0)) 9223372036854775809 FD_0 e_pf = true := by decide +kernel
theorem ev_fd_0 {μ : am_M} (h : eKL 0 μ FW_0) : ∃ μ', L_feed 423 μ = some (0, μ') ∧ eKL 0 μ' FD_0 ∧ ∀ a i, e_pl e_pf a i = false → μ' a i = μ a i := by
  obtain ⟨y, μ', e, hv, hk, hf⟩ := e_fi (s_L_feed (c := 0) (vr_k (by decide) (by decide) : vr 0 9223372036854776232 423) (eKn_R (eKn_un h (e_em_n SF_0_e)))) ck_fd_0
  have hy := (vr_use hv (by decide) (by decide)).trans (show _ = (0 : Int) by decide)
  subst hy
  exact ⟨μ', e, hk, hf⟩
set_option maxRecDepth 100000 in
theorem ck_tl_0_100 : e_ck (E_L_tells 9223372036854775809 (e_un KX_100 (e_un FD_0 ST_0_100))) 9223372036854775810 (Lean.RArray.branch 0 KS_0_200 KT) e_pt = true := by decide +kernel
theorem ev_tl_0_100 {μ : am_M} (h1 : eKL 0 μ KX_100) (h2 : eKL 0 μ FD_0) : ∃ μ', L_tells 0 μ = some (1, μ') ∧ eKL 0 μ' KS_0_200 ∧ eKL 0 μ' KT ∧ (J4 μ → J4 μ') := by
  obtain ⟨y, μ', e, hv, hk, hf⟩ := e_fi (s_L_tells (c := 0) (vr_k (by decide) (by decide) : vr 0 9223372036854775809 0) (eKn_R (eKn_un h1 (eKn_un h2 (e_em_n ST_0_100_e))))) ck_tl_0_100
  have hy := (vr_use hv (by decide) (by decide)).trans (show _ = (1 : Int) by decide)
  subst hy
  exact ⟨μ', e, hk.1, hk.2, fun hJ j hj => by rw [hf 70 j (pt_70 hj)]; exact hJ j hj⟩
set_option maxRecDepth 100000 in
theorem fr_tl_100 : e_tn e_pf KX_100 = true := by decide +kernel
set_option maxRecDepth 100000 in
theorem ck_tl_0_200 : e_ck (E_L_tells 9223372036854775809 (e_un KX_200 (e_un FD_0 ST_0_200))) 9223372036854775810 (Lean.RArray.branch 0 KS_0_100 KT) e_pt = true := by decide +kernel
theorem ev_tl_0_200 {μ : am_M} (h1 : eKL 0 μ KX_200) (h2 : eKL 0 μ FD_0) : ∃ μ', L_tells 0 μ = some (1, μ') ∧ eKL 0 μ' KS_0_100 ∧ eKL 0 μ' KT ∧ (J4 μ → J4 μ') := by
  obtain ⟨y, μ', e, hv, hk, hf⟩ := e_fi (s_L_tells (c := 0) (vr_k (by decide) (by decide) : vr 0 9223372036854775809 0) (eKn_R (eKn_un h1 (eKn_un h2 (e_em_n ST_0_200_e))))) ck_tl_0_200
  have hy := (vr_use hv (by decide) (by decide)).trans (show _ = (1 : Int) by decide)
  subst hy
  exact ⟨μ', e, hk.1, hk.2, fun hJ j hj => by rw [hf 70 j (pt_70 hj)]; exact hJ j hj⟩
set_option maxRecDepth 100000 in
theorem fr_tl_200 : e_tn e_pf KX_200 = true := by decide +kernel
set_option maxRecDepth 100000 in
theorem ck_fd_1 : e_ck (E_L_feed 9223372036854776056 (e_un FW_1 SF_1)) 9223372036854775809 FD_1 e_pf = true := by decide +kernel
theorem ev_fd_1 {μ : am_M} (h : eKL 0 μ FW_1) : ∃ μ', L_feed 247 μ = some (0, μ') ∧ eKL 0 μ' FD_1 ∧ ∀ a i, e_pl e_pf a i = false → μ' a i = μ a i := by
  obtain ⟨y, μ', e, hv, hk, hf⟩ := e_fi (s_L_feed (c := 0) (vr_k (by decide) (by decide) : vr 0 9223372036854776056 247) (eKn_R (eKn_un h (e_em_n SF_1_e)))) ck_fd_1
  have hy := (vr_use hv (by decide) (by decide)).trans (show _ = (0 : Int) by decide)
  subst hy
  exact ⟨μ', e, hk, hf⟩
set_option maxRecDepth 100000 in
theorem ck_tl_1_100 : e_ck (E_L_tells 9223372036854775810 (e_un KX_100 (e_un FD_1 ST_1_100))) 9223372036854775810 (Lean.RArray.branch 0 KS_1_200 KT) e_pt = true := by decide +kernel
theorem ev_tl_1_100 {μ : am_M} (h1 : eKL 0 μ KX_100) (h2 : eKL 0 μ FD_1) : ∃ μ', L_tells 1 μ = some (1, μ') ∧ eKL 0 μ' KS_1_200 ∧ eKL 0 μ' KT ∧ (J4 μ → J4 μ') := by
  obtain ⟨y, μ', e, hv, hk, hf⟩ := e_fi (s_L_tells (c := 0) (vr_k (by decide) (by decide) : vr 0 9223372036854775810 1) (eKn_R (eKn_un h1 (eKn_un h2 (e_em_n ST_1_100_e))))) ck_tl_1_100
  have hy := (vr_use hv (by decide) (by decide)).trans (show _ = (1 : Int) by decide)
  subst hy
  exact ⟨μ', e, hk.1, hk.2, fun hJ j hj => by rw [hf 70 j (pt_70 hj)]; exact hJ j hj⟩
set_option maxRecDepth 100000 in
theorem ck_tl_1_200 : e_ck (E_L_tells 9223372036854775810 (e_un KX_200 (e_un FD_1 ST_1_200))) 9223372036854775810 (Lean.RArray.branch 0 KS_1_100 KT) e_pt = true := by decide +kernel
theorem ev_tl_1_200 {μ : am_M} (h1 : eKL 0 μ KX_200) (h2 : eKL 0 μ FD_1) : ∃ μ', L_tells 1 μ = some (1, μ') ∧ eKL 0 μ' KS_1_100 ∧ eKL 0 μ' KT ∧ (J4 μ → J4 μ') := by
  obtain ⟨y, μ', e, hv, hk, hf⟩ := e_fi (s_L_tells (c := 0) (vr_k (by decide) (by decide) : vr 0 9223372036854775810 1) (eKn_R (eKn_un h1 (eKn_un h2 (e_em_n ST_1_200_e))))) ck_tl_1_200
  have hy := (vr_use hv (by decide) (by decide)).trans (show _ = (1 : Int) by decide)
  subst hy
  exact ⟨μ', e, hk.1, hk.2, fun hJ j hj => by rw [hf 70 j (pt_70 hj)]; exact hJ j hj⟩
set_option maxRecDepth 100000 in
theorem ck_fd_2 : e_ck (E_L_feed 9223372036854775841 (e_un FW_2 SF_2)) 9223372036854775809 FD_2 e_pf = true := by decide +kernel
theorem ev_fd_2 {μ : am_M} (h : eKL 0 μ FW_2) : ∃ μ', L_feed 32 μ = some (0, μ') ∧ eKL 0 μ' FD_2 ∧ ∀ a i, e_pl e_pf a i = false → μ' a i = μ a i := by
  obtain ⟨y, μ', e, hv, hk, hf⟩ := e_fi (s_L_feed (c := 0) (vr_k (by decide) (by decide) : vr 0 9223372036854775841 32) (eKn_R (eKn_un h (e_em_n SF_2_e)))) ck_fd_2
  have hy := (vr_use hv (by decide) (by decide)).trans (show _ = (0 : Int) by decide)
  subst hy
  exact ⟨μ', e, hk, hf⟩
set_option maxRecDepth 100000 in
theorem ck_tl_2_100 : e_ck (E_L_tells 9223372036854775811 (e_un KX_100 (e_un FD_2 ST_2_100))) 9223372036854775810 (Lean.RArray.branch 0 KS_2_200 KT) e_pt = true := by decide +kernel
theorem ev_tl_2_100 {μ : am_M} (h1 : eKL 0 μ KX_100) (h2 : eKL 0 μ FD_2) : ∃ μ', L_tells 2 μ = some (1, μ') ∧ eKL 0 μ' KS_2_200 ∧ eKL 0 μ' KT ∧ (J4 μ → J4 μ') := by
  obtain ⟨y, μ', e, hv, hk, hf⟩ := e_fi (s_L_tells (c := 0) (vr_k (by decide) (by decide) : vr 0 9223372036854775811 2) (eKn_R (eKn_un h1 (eKn_un h2 (e_em_n ST_2_100_e))))) ck_tl_2_100
  have hy := (vr_use hv (by decide) (by decide)).trans (show _ = (1 : Int) by decide)
  subst hy
  exact ⟨μ', e, hk.1, hk.2, fun hJ j hj => by rw [hf 70 j (pt_70 hj)]; exact hJ j hj⟩
set_option maxRecDepth 100000 in
theorem ck_tl_2_200 : e_ck (E_L_tells 9223372036854775811 (e_un KX_200 (e_un FD_2 ST_2_200))) 9223372036854775810 (Lean.RArray.branch 0 KS_2_100 KT) e_pt = true := by decide +kernel
theorem ev_tl_2_200 {μ : am_M} (h1 : eKL 0 μ KX_200) (h2 : eKL 0 μ FD_2) : ∃ μ', L_tells 2 μ = some (1, μ') ∧ eKL 0 μ' KS_2_100 ∧ eKL 0 μ' KT ∧ (J4 μ → J4 μ') := by
  obtain ⟨y, μ', e, hv, hk, hf⟩ := e_fi (s_L_tells (c := 0) (vr_k (by decide) (by decide) : vr 0 9223372036854775811 2) (eKn_R (eKn_un h1 (eKn_un h2 (e_em_n ST_2_200_e))))) ck_tl_2_200
  have hy := (vr_use hv (by decide) (by decide)).trans (show _ = (1 : Int) by decide)
  subst hy
  exact ⟨μ', e, hk.1, hk.2, fun hJ j hj => by rw [hf 70 j (pt_70 hj)]; exact hJ j hj⟩
