/-! Every entry of every code. Printed by program. -/
theorem w_Bi_empty : am_mw i_Bi_empty := am_mw_of i_Bi_empty rfl (by decide) (by decide) (by decide +kernel) (by decide) (g_mem3 188 rfl) (g_mem1 7 rfl) (by decide)
set_option maxRecDepth 20000 in
theorem c_Bi_empty : am_mc g_mt i_Bi_empty := ⟨fl_0, ml_0, kl_0, kJ_0, fl_0_ok, kl_0_ok, kJ_0_ok, ml_0_ok, List.all_eq_true.mp (by decide +kernel)⟩
theorem w_Bi_has : am_mw i_Bi_has := am_mw_of i_Bi_has rfl (by decide) (by decide) (by decide +kernel) (by decide) (g_mem4 228 rfl) (g_mem1 7 rfl) (by decide)
set_option maxRecDepth 20000 in
theorem c_Bi_has : am_mc g_mt i_Bi_has := ⟨fl_0, ml_0, kl_0, kJ_0, fl_0_ok, kl_0_ok, kJ_0_ok, ml_0_ok, List.all_eq_true.mp (by decide +kernel)⟩
theorem w_Bi_addWall : am_mw i_Bi_addWall := am_mw_of i_Bi_addWall rfl (by decide) (by decide) (by decide +kernel) (by decide) (g_mem4 20 rfl) (g_mem1 7 rfl) (by decide)
set_option maxRecDepth 20000 in
theorem c_Bi_addWall : am_mc g_mt i_Bi_addWall := ⟨fl_0, ml_0, kl_0, kJ_0, fl_0_ok, kl_0_ok, kJ_0_ok, ml_0_ok, List.all_eq_true.mp (by decide +kernel)⟩
theorem w_Bi_addBill : am_mw i_Bi_addBill := am_mw_of i_Bi_addBill rfl (by decide) (by decide) (by decide +kernel) (by decide) (g_mem4 25 rfl) (g_mem1 7 rfl) (by decide)
set_option maxRecDepth 20000 in
theorem c_Bi_addBill : am_mc g_mt i_Bi_addBill := ⟨fl_0, ml_0, kl_0, kJ_0, fl_0_ok, kl_0_ok, kJ_0_ok, ml_0_ok, List.all_eq_true.mp (by decide +kernel)⟩
theorem w_Bi_lineBehind : am_mw i_Bi_lineBehind := am_mw_of i_Bi_lineBehind rfl (by decide) (by decide) (by decide +kernel) (by decide) (g_mem4 139 rfl) (g_mem1 7 rfl) (by decide)
set_option maxRecDepth 20000 in
theorem c_Bi_lineBehind : am_mc g_mt i_Bi_lineBehind := ⟨fl_0, ml_0, kl_0, kJ_0, fl_0_ok, kl_0_ok, kJ_0_ok, ml_0_ok, List.all_eq_true.mp (by decide +kernel)⟩
theorem w_Bi_isPlain : am_mw i_Bi_isPlain := am_mw_of i_Bi_isPlain rfl (by decide) (by decide) (by decide +kernel) (by decide) (g_mem5 95 rfl) (g_mem1 7 rfl) (by decide)
set_option maxRecDepth 20000 in
theorem c_Bi_isPlain : am_mc g_mt i_Bi_isPlain := ⟨fl_0, ml_0, kl_0, kJ_0, fl_0_ok, kl_0_ok, kJ_0_ok, ml_0_ok, List.all_eq_true.mp (by decide +kernel)⟩
theorem w_Ck_checkAll : am_mw i_Ck_checkAll := am_mw_of i_Ck_checkAll rfl (by decide) (by decide) (by decide +kernel) (by decide) (g_mem4 131 rfl) (g_mem1 10 rfl) (by decide)
set_option maxRecDepth 20000 in
theorem c_Ck_checkAll : am_mc g_mt i_Ck_checkAll := ⟨fl_1, ml_1, kl_1, kJ_1, fl_1_ok, kl_1_ok, kJ_1_ok, ml_1_ok, List.all_eq_true.mp (by decide +kernel)⟩
theorem w_Ck_checkBill : am_mw i_Ck_checkBill := am_mw_of i_Ck_checkBill rfl (by decide) (by decide) (by decide +kernel) (by decide) (g_mem4 135 rfl) (g_mem1 10 rfl) (by decide)
set_option maxRecDepth 20000 in
theorem c_Ck_checkBill : am_mc g_mt i_Ck_checkBill := ⟨fl_1, ml_1, kl_1, kJ_1, fl_1_ok, kl_1_ok, kJ_1_ok, ml_1_ok, List.all_eq_true.mp (by decide +kernel)⟩
theorem w_Ck_isSound : am_mw i_Ck_isSound := am_mw_of i_Ck_isSound rfl (by decide) (by decide) (by decide +kernel) (by decide) (g_mem4 182 rfl) (g_mem1 10 rfl) (by decide)
set_option maxRecDepth 20000 in
theorem c_Ck_isSound : am_mc g_mt i_Ck_isSound := ⟨fl_1, ml_1, kl_1, kJ_1, fl_1_ok, kl_1_ok, kJ_1_ok, ml_1_ok, List.all_eq_true.mp (by decide +kernel)⟩
theorem w_Ck_blame : am_mw i_Ck_blame := am_mw_of i_Ck_blame rfl (by decide) (by decide) (by decide +kernel) (by decide) (g_mem4 162 rfl) (g_mem1 10 rfl) (by decide)
set_option maxRecDepth 20000 in
theorem c_Ck_blame : am_mc g_mt i_Ck_blame := ⟨fl_1, ml_1, kl_1, kJ_1, fl_1_ok, kl_1_ok, kJ_1_ok, ml_1_ok, List.all_eq_true.mp (by decide +kernel)⟩
theorem w_Ck_checkLine : am_mw i_Ck_checkLine := am_mw_of i_Ck_checkLine rfl (by decide) (by decide) (by decide +kernel) (by decide) (g_mem4 145 rfl) (g_mem1 10 rfl) (by decide)
set_option maxRecDepth 20000 in
theorem c_Ck_checkLine : am_mc g_mt i_Ck_checkLine := ⟨fl_1, ml_1, kl_1, kJ_1, fl_1_ok, kl_1_ok, kJ_1_ok, ml_1_ok, List.all_eq_true.mp (by decide +kernel)⟩
theorem w_Ck_takeAway : am_mw i_Ck_takeAway := am_mw_of i_Ck_takeAway rfl (by decide) (by decide) (by decide +kernel) (by decide) (g_mem4 149 rfl) (g_mem1 10 rfl) (by decide)
set_option maxRecDepth 20000 in
theorem c_Ck_takeAway : am_mc g_mt i_Ck_takeAway := ⟨fl_1, ml_1, kl_1, kJ_1, fl_1_ok, kl_1_ok, kJ_1_ok, ml_1_ok, List.all_eq_true.mp (by decide +kernel)⟩
theorem w_Ck_lay : am_mw i_Ck_lay := am_mw_of i_Ck_lay rfl (by decide) (by decide) (by decide +kernel) (by decide) (g_mem4 166 rfl) (g_mem1 10 rfl) (by decide)
set_option maxRecDepth 20000 in
theorem c_Ck_lay : am_mc g_mt i_Ck_lay := ⟨fl_1, ml_1, kl_1, kJ_1, fl_1_ok, kl_1_ok, kJ_1_ok, ml_1_ok, List.all_eq_true.mp (by decide +kernel)⟩
theorem w_Ck_turnToElse : am_mw i_Ck_turnToElse := am_mw_of i_Ck_turnToElse rfl (by decide) (by decide) (by decide +kernel) (by decide) (g_mem4 171 rfl) (g_mem1 10 rfl) (by decide)
set_option maxRecDepth 20000 in
theorem c_Ck_turnToElse : am_mc g_mt i_Ck_turnToElse := ⟨fl_1, ml_1, kl_1, kJ_1, fl_1_ok, kl_1_ok, kJ_1_ok, ml_1_ok, List.all_eq_true.mp (by decide +kernel)⟩
theorem w_Ck_joinBranches : am_mw i_Ck_joinBranches := am_mw_of i_Ck_joinBranches rfl (by decide) (by decide) (by decide +kernel) (by decide) (g_mem4 175 rfl) (g_mem1 10 rfl) (by decide)
set_option maxRecDepth 20000 in
theorem c_Ck_joinBranches : am_mc g_mt i_Ck_joinBranches := ⟨fl_1, ml_1, kl_1, kJ_1, fl_1_ok, kl_1_ok, kJ_1_ok, ml_1_ok, List.all_eq_true.mp (by decide +kernel)⟩
theorem w_Ln_empty : am_mw i_Ln_empty := am_mw_of i_Ln_empty rfl (by decide) (by decide) (by decide +kernel) (by decide) (g_mem3 192 rfl) (g_mem1 8 rfl) (by decide)
set_option maxRecDepth 20000 in
theorem c_Ln_empty : am_mc g_mt i_Ln_empty := ⟨fl_2, ml_2, kl_2, kJ_2, fl_2_ok, kl_2_ok, kJ_2_ok, ml_2_ok, List.all_eq_true.mp (by decide +kernel)⟩
theorem w_Ln_add : am_mw i_Ln_add := am_mw_of i_Ln_add rfl (by decide) (by decide) (by decide +kernel) (by decide) (g_mem4 42 rfl) (g_mem1 8 rfl) (by decide)
set_option maxRecDepth 20000 in
theorem c_Ln_add : am_mc g_mt i_Ln_add := ⟨fl_2, ml_2, kl_2, kJ_2, fl_2_ok, kl_2_ok, kJ_2_ok, ml_2_ok, List.all_eq_true.mp (by decide +kernel)⟩
theorem w_Ln_addCode : am_mw i_Ln_addCode := am_mw_of i_Ln_addCode rfl (by decide) (by decide) (by decide +kernel) (by decide) (g_mem4 64 rfl) (g_mem1 8 rfl) (by decide)
set_option maxRecDepth 20000 in
theorem c_Ln_addCode : am_mc g_mt i_Ln_addCode := ⟨fl_2, ml_2, kl_2, kJ_2, fl_2_ok, kl_2_ok, kJ_2_ok, ml_2_ok, List.all_eq_true.mp (by decide +kernel)⟩
theorem w_Ln_codeKind : am_mw i_Ln_codeKind := am_mw_of i_Ln_codeKind rfl (by decide) (by decide) (by decide +kernel) (by decide) (g_mem4 153 rfl) (g_mem1 8 rfl) (by decide)
set_option maxRecDepth 20000 in
theorem c_Ln_codeKind : am_mc g_mt i_Ln_codeKind := ⟨fl_2, ml_2, kl_2, kJ_2, fl_2_ok, kl_2_ok, kJ_2_ok, ml_2_ok, List.all_eq_true.mp (by decide +kernel)⟩
theorem w_Ln_codeNumber : am_mw i_Ln_codeNumber := am_mw_of i_Ln_codeNumber rfl (by decide) (by decide) (by decide +kernel) (by decide) (g_mem4 158 rfl) (g_mem1 8 rfl) (by decide)
set_option maxRecDepth 20000 in
theorem c_Ln_codeNumber : am_mc g_mt i_Ln_codeNumber := ⟨fl_2, ml_2, kl_2, kJ_2, fl_2_ok, kl_2_ok, kJ_2_ok, ml_2_ok, List.all_eq_true.mp (by decide +kernel)⟩
theorem w_Ln_isSlip : am_mw i_Ln_isSlip := am_mw_of i_Ln_isSlip rfl (by decide) (by decide) (by decide +kernel) (by decide) (g_mem5 25 rfl) (g_mem1 8 rfl) (by decide)
set_option maxRecDepth 20000 in
theorem c_Ln_isSlip : am_mc g_mt i_Ln_isSlip := ⟨fl_2, ml_2, kl_2, kJ_2, fl_2_ok, kl_2_ok, kJ_2_ok, ml_2_ok, List.all_eq_true.mp (by decide +kernel)⟩
theorem w_Ln_timesRead : am_mw i_Ln_timesRead := am_mw_of i_Ln_timesRead rfl (by decide) (by decide) (by decide +kernel) (by decide) (g_mem5 1 rfl) (g_mem1 8 rfl) (by decide)
set_option maxRecDepth 20000 in
theorem c_Ln_timesRead : am_mc g_mt i_Ln_timesRead := ⟨fl_2, ml_2, kl_2, kJ_2, fl_2_ok, kl_2_ok, kJ_2_ok, ml_2_ok, List.all_eq_true.mp (by decide +kernel)⟩
theorem w_Ln_timesRead_ : am_mw i_Ln_timesRead_ := am_mw_of i_Ln_timesRead_ rfl (by decide) (by decide) (by decide +kernel) (by decide) (g_mem5 21 rfl) (g_mem1 8 rfl) (by decide)
set_option maxRecDepth 20000 in
theorem c_Ln_timesRead_ : am_mc g_mt i_Ln_timesRead_ := ⟨fl_2, ml_2, kl_2, kJ_2, fl_2_ok, kl_2_ok, kJ_2_ok, ml_2_ok, List.all_eq_true.mp (by decide +kernel)⟩
theorem w_Ln_readSet : am_mw i_Ln_readSet := am_mw_of i_Ln_readSet rfl (by decide) (by decide) (by decide +kernel) (by decide) (g_mem5 101 rfl) (g_mem1 8 rfl) (by decide)
set_option maxRecDepth 20000 in
theorem c_Ln_readSet : am_mc g_mt i_Ln_readSet := ⟨fl_2, ml_2, kl_2, kJ_2, fl_2_ok, kl_2_ok, kJ_2_ok, ml_2_ok, List.all_eq_true.mp (by decide +kernel)⟩
theorem w_Ln_laidSet : am_mw i_Ln_laidSet := am_mw_of i_Ln_laidSet rfl (by decide) (by decide) (by decide +kernel) (by decide) (g_mem5 52 rfl) (g_mem1 8 rfl) (by decide)
set_option maxRecDepth 20000 in
theorem c_Ln_laidSet : am_mc g_mt i_Ln_laidSet := ⟨fl_2, ml_2, kl_2, kJ_2, fl_2_ok, kl_2_ok, kJ_2_ok, ml_2_ok, List.all_eq_true.mp (by decide +kernel)⟩
theorem w_Ln_bit : am_mw i_Ln_bit := am_mw_of i_Ln_bit rfl (by decide) (by decide) (by decide +kernel) (by decide) (g_mem5 55 rfl) (g_mem1 8 rfl) (by decide)
set_option maxRecDepth 20000 in
theorem c_Ln_bit : am_mc g_mt i_Ln_bit := ⟨fl_2, ml_2, kl_2, kJ_2, fl_2_ok, kl_2_ok, kJ_2_ok, ml_2_ok, List.all_eq_true.mp (by decide +kernel)⟩
theorem w_Mc_stand : am_mw i_Mc_stand := am_mw_of i_Mc_stand rfl (by decide) (by decide) (by decide +kernel) (by decide) (g_mem4 186 rfl) (g_mem1 12 rfl) (by decide)
set_option maxRecDepth 20000 in
theorem c_Mc_stand : am_mc g_mt i_Mc_stand := ⟨fl_3, ml_3, kl_3, kJ_3, fl_3_ok, kl_3_ok, kJ_3_ok, ml_3_ok, List.all_eq_true.mp (by decide +kernel)⟩
theorem w_Mc_become : am_mw i_Mc_become := am_mw_of i_Mc_become rfl (by decide) (by decide) (by decide +kernel) (by decide) (g_mem6 43 rfl) (g_mem1 12 rfl) (by decide)
set_option maxRecDepth 20000 in
theorem c_Mc_become : am_mc g_mt i_Mc_become := ⟨fl_3, ml_3, kl_3, kJ_3, fl_3_ok, kl_3_ok, kJ_3_ok, ml_3_ok, List.all_eq_true.mp (by decide +kernel)⟩
theorem w_Mc_take : am_mw i_Mc_take := am_mw_of i_Mc_take rfl (by decide) (by decide) (by decide +kernel) (by decide) (g_mem5 198 rfl) (g_mem1 12 rfl) (by decide)
set_option maxRecDepth 20000 in
theorem c_Mc_take : am_mc g_mt i_Mc_take := ⟨fl_3, ml_3, kl_3, kJ_3, fl_3_ok, kl_3_ok, kJ_3_ok, ml_3_ok, List.all_eq_true.mp (by decide +kernel)⟩
theorem w_Mc_start : am_mw i_Mc_start := am_mw_of i_Mc_start rfl (by decide) (by decide) (by decide +kernel) (by decide) (g_mem5 203 rfl) (g_mem1 12 rfl) (by decide)
set_option maxRecDepth 20000 in
theorem c_Mc_start : am_mc g_mt i_Mc_start := ⟨fl_3, ml_3, kl_3, kJ_3, fl_3_ok, kl_3_ok, kJ_3_ok, ml_3_ok, List.all_eq_true.mp (by decide +kernel)⟩
theorem w_Mc_enter : am_mw i_Mc_enter := am_mw_of i_Mc_enter rfl (by decide) (by decide) (by decide +kernel) (by decide) (g_mem5 208 rfl) (g_mem1 12 rfl) (by decide)
set_option maxRecDepth 20000 in
theorem c_Mc_enter : am_mc g_mt i_Mc_enter := ⟨fl_3, ml_3, kl_3, kJ_3, fl_3_ok, kl_3_ok, kJ_3_ok, ml_3_ok, List.all_eq_true.mp (by decide +kernel)⟩
theorem w_Mc_go : am_mw i_Mc_go := am_mw_of i_Mc_go rfl (by decide) (by decide) (by decide +kernel) (by decide) (g_mem5 221 rfl) (g_mem1 12 rfl) (by decide)
set_option maxRecDepth 20000 in
theorem c_Mc_go : am_mc g_mt i_Mc_go := ⟨fl_3, ml_3, kl_3, kJ_3, fl_3_ok, kl_3_ok, kJ_3_ok, ml_3_ok, List.all_eq_true.mp (by decide +kernel)⟩
theorem w_Mc_tell : am_mw i_Mc_tell := am_mw_of i_Mc_tell rfl (by decide) (by decide) (by decide +kernel) (by decide) (g_mem4 206 rfl) (g_mem1 12 rfl) (by decide)
set_option maxRecDepth 20000 in
theorem c_Mc_tell : am_mc g_mt i_Mc_tell := ⟨fl_3, ml_3, kl_3, kJ_3, fl_3_ok, kl_3_ok, kJ_3_ok, ml_3_ok, List.all_eq_true.mp (by decide +kernel)⟩
theorem w_Mc_lying : am_mw i_Mc_lying := am_mw_of i_Mc_lying rfl (by decide) (by decide) (by decide +kernel) (by decide) (g_mem4 211 rfl) (g_mem1 12 rfl) (by decide)
set_option maxRecDepth 20000 in
theorem c_Mc_lying : am_mc g_mt i_Mc_lying := ⟨fl_3, ml_3, kl_3, kJ_3, fl_3_ok, kl_3_ok, kJ_3_ok, ml_3_ok, List.all_eq_true.mp (by decide +kernel)⟩
theorem w_Mc_lookAtTable : am_mw i_Mc_lookAtTable := am_mw_of i_Mc_lookAtTable rfl (by decide) (by decide) (by decide +kernel) (by decide) (g_mem5 212 rfl) (g_mem1 12 rfl) (by decide)
set_option maxRecDepth 20000 in
theorem c_Mc_lookAtTable : am_mc g_mt i_Mc_lookAtTable := ⟨fl_3, ml_3, kl_3, kJ_3, fl_3_ok, kl_3_ok, kJ_3_ok, ml_3_ok, List.all_eq_true.mp (by decide +kernel)⟩
theorem w_Mc_work : am_mw i_Mc_work := am_mw_of i_Mc_work rfl (by decide) (by decide) (by decide +kernel) (by decide) (g_mem5 225 rfl) (g_mem1 12 rfl) (by decide)
set_option maxRecDepth 20000 in
theorem c_Mc_work : am_mc g_mt i_Mc_work := ⟨fl_3, ml_3, kl_3, kJ_3, fl_3_ok, kl_3_ok, kJ_3_ok, ml_3_ok, List.all_eq_true.mp (by decide +kernel)⟩
theorem w_Mc_readSlips : am_mw i_Mc_readSlips := am_mw_of i_Mc_readSlips rfl (by decide) (by decide) (by decide +kernel) (by decide) (g_mem5 229 rfl) (g_mem1 12 rfl) (by decide)
set_option maxRecDepth 20000 in
theorem c_Mc_readSlips : am_mc g_mt i_Mc_readSlips := ⟨fl_3, ml_3, kl_3, kJ_3, fl_3_ok, kl_3_ok, kJ_3_ok, ml_3_ok, List.all_eq_true.mp (by decide +kernel)⟩
theorem w_Mc_workKind : am_mw i_Mc_workKind := am_mw_of i_Mc_workKind rfl (by decide) (by decide) (by decide +kernel) (by decide) (g_mem5 235 rfl) (g_mem1 12 rfl) (by decide)
set_option maxRecDepth 20000 in
theorem c_Mc_workKind : am_mc g_mt i_Mc_workKind := ⟨fl_3, ml_3, kl_3, kJ_3, fl_3_ok, kl_3_ok, kJ_3_ok, ml_3_ok, List.all_eq_true.mp (by decide +kernel)⟩
theorem w_Mc_reckoned : am_mw i_Mc_reckoned := am_mw_of i_Mc_reckoned rfl (by decide) (by decide) (by decide +kernel) (by decide) (g_mem5 239 rfl) (g_mem1 12 rfl) (by decide)
set_option maxRecDepth 20000 in
theorem c_Mc_reckoned : am_mc g_mt i_Mc_reckoned := ⟨fl_3, ml_3, kl_3, kJ_3, fl_3_ok, kl_3_ok, kJ_3_ok, ml_3_ok, List.all_eq_true.mp (by decide +kernel)⟩
theorem w_Mc_lay : am_mw i_Mc_lay := am_mw_of i_Mc_lay rfl (by decide) (by decide) (by decide +kernel) (by decide) (g_mem6 14 rfl) (g_mem1 12 rfl) (by decide)
set_option maxRecDepth 20000 in
theorem c_Mc_lay : am_mc g_mt i_Mc_lay := ⟨fl_3, ml_3, kl_3, kJ_3, fl_3_ok, kl_3_ok, kJ_3_ok, ml_3_ok, List.all_eq_true.mp (by decide +kernel)⟩
theorem w_Mc_dropGone : am_mw i_Mc_dropGone := am_mw_of i_Mc_dropGone rfl (by decide) (by decide) (by decide +kernel) (by decide) (g_mem6 23 rfl) (g_mem1 12 rfl) (by decide)
set_option maxRecDepth 20000 in
theorem c_Mc_dropGone : am_mc g_mt i_Mc_dropGone := ⟨fl_3, ml_3, kl_3, kJ_3, fl_3_ok, kl_3_ok, kJ_3_ok, ml_3_ok, List.all_eq_true.mp (by decide +kernel)⟩
theorem w_Mc_workCall : am_mw i_Mc_workCall := am_mw_of i_Mc_workCall rfl (by decide) (by decide) (by decide +kernel) (by decide) (g_mem6 18 rfl) (g_mem1 12 rfl) (by decide)
set_option maxRecDepth 20000 in
theorem c_Mc_workCall : am_mc g_mt i_Mc_workCall := ⟨fl_3, ml_3, kl_3, kJ_3, fl_3_ok, kl_3_ok, kJ_3_ok, ml_3_ok, List.all_eq_true.mp (by decide +kernel)⟩
theorem w_Mc_workGive : am_mw i_Mc_workGive := am_mw_of i_Mc_workGive rfl (by decide) (by decide) (by decide +kernel) (by decide) (g_mem6 27 rfl) (g_mem1 12 rfl) (by decide)
set_option maxRecDepth 20000 in
theorem c_Mc_workGive : am_mc g_mt i_Mc_workGive := ⟨fl_3, ml_3, kl_3, kJ_3, fl_3_ok, kl_3_ok, kJ_3_ok, ml_3_ok, List.all_eq_true.mp (by decide +kernel)⟩
theorem w_Or_forget : am_mw i_Or_forget := am_mw_of i_Or_forget rfl (by decide) (by decide) (by decide +kernel) (by decide) (g_mem4 194 rfl) (g_mem1 14 rfl) (by decide)
set_option maxRecDepth 20000 in
theorem c_Or_forget : am_mc g_mt i_Or_forget := ⟨fl_4, ml_4, kl_4, kJ_4, fl_4_ok, kl_4_ok, kJ_4_ok, ml_4_ok, List.all_eq_true.mp (by decide +kernel)⟩
theorem w_Or_prepare : am_mw i_Or_prepare := am_mw_of i_Or_prepare rfl (by decide) (by decide) (by decide +kernel) (by decide) (g_mem5 113 rfl) (g_mem1 14 rfl) (by decide)
set_option maxRecDepth 20000 in
theorem c_Or_prepare : am_mc g_mt i_Or_prepare := ⟨fl_4, ml_4, kl_4, kJ_4, fl_4_ok, kl_4_ok, kJ_4_ok, ml_4_ok, List.all_eq_true.mp (by decide +kernel)⟩
theorem w_Or_slipOf : am_mw i_Or_slipOf := am_mw_of i_Or_slipOf rfl (by decide) (by decide) (by decide +kernel) (by decide) (g_mem5 124 rfl) (g_mem1 14 rfl) (by decide)
set_option maxRecDepth 20000 in
theorem c_Or_slipOf : am_mc g_mt i_Or_slipOf := ⟨fl_4, ml_4, kl_4, kJ_4, fl_4_ok, kl_4_ok, kJ_4_ok, ml_4_ok, List.all_eq_true.mp (by decide +kernel)⟩
theorem w_Or_standing : am_mw i_Or_standing := am_mw_of i_Or_standing rfl (by decide) (by decide) (by decide +kernel) (by decide) (g_mem5 134 rfl) (g_mem1 14 rfl) (by decide)
set_option maxRecDepth 20000 in
theorem c_Or_standing : am_mc g_mt i_Or_standing := ⟨fl_4, ml_4, kl_4, kJ_4, fl_4_ok, kl_4_ok, kJ_4_ok, ml_4_ok, List.all_eq_true.mp (by decide +kernel)⟩
theorem w_Or_countStands : am_mw i_Or_countStands := am_mw_of i_Or_countStands rfl (by decide) (by decide) (by decide +kernel) (by decide) (g_mem5 120 rfl) (g_mem1 14 rfl) (by decide)
set_option maxRecDepth 20000 in
theorem c_Or_countStands : am_mc g_mt i_Or_countStands := ⟨fl_4, ml_4, kl_4, kJ_4, fl_4_ok, kl_4_ok, kJ_4_ok, ml_4_ok, List.all_eq_true.mp (by decide +kernel)⟩
theorem w_Or_findReaders : am_mw i_Or_findReaders := am_mw_of i_Or_findReaders rfl (by decide) (by decide) (by decide +kernel) (by decide) (g_mem5 130 rfl) (g_mem1 14 rfl) (by decide)
set_option maxRecDepth 20000 in
theorem c_Or_findReaders : am_mc g_mt i_Or_findReaders := ⟨fl_4, ml_4, kl_4, kJ_4, fl_4_ok, kl_4_ok, kJ_4_ok, ml_4_ok, List.all_eq_true.mp (by decide +kernel)⟩
theorem w_Or_countLying : am_mw i_Or_countLying := am_mw_of i_Or_countLying rfl (by decide) (by decide) (by decide +kernel) (by decide) (g_mem5 146 rfl) (g_mem1 14 rfl) (by decide)
set_option maxRecDepth 20000 in
theorem c_Or_countLying : am_mc g_mt i_Or_countLying := ⟨fl_4, ml_4, kl_4, kJ_4, fl_4_ok, kl_4_ok, kJ_4_ok, ml_4_ok, List.all_eq_true.mp (by decide +kernel)⟩
theorem w_Or_mayFollow : am_mw i_Or_mayFollow := am_mw_of i_Or_mayFollow rfl (by decide) (by decide) (by decide +kernel) (by decide) (g_mem5 151 rfl) (g_mem1 14 rfl) (by decide)
set_option maxRecDepth 20000 in
theorem c_Or_mayFollow : am_mc g_mt i_Or_mayFollow := ⟨fl_4, ml_4, kl_4, kJ_4, fl_4_ok, kl_4_ok, kJ_4_ok, ml_4_ok, List.all_eq_true.mp (by decide +kernel)⟩
theorem w_Or_allSums : am_mw i_Or_allSums := am_mw_of i_Or_allSums rfl (by decide) (by decide) (by decide +kernel) (by decide) (g_mem5 142 rfl) (g_mem1 14 rfl) (by decide)
set_option maxRecDepth 20000 in
theorem c_Or_allSums : am_mc g_mt i_Or_allSums := ⟨fl_4, ml_4, kl_4, kJ_4, fl_4_ok, kl_4_ok, kJ_4_ok, ml_4_ok, List.all_eq_true.mp (by decide +kernel)⟩
theorem w_Or_findBest : am_mw i_Or_findBest := am_mw_of i_Or_findBest rfl (by decide) (by decide) (by decide +kernel) (by decide) (g_mem5 138 rfl) (g_mem1 14 rfl) (by decide)
set_option maxRecDepth 20000 in
theorem c_Or_findBest : am_mc g_mt i_Or_findBest := ⟨fl_4, ml_4, kl_4, kJ_4, fl_4_ok, kl_4_ok, kJ_4_ok, ml_4_ok, List.all_eq_true.mp (by decide +kernel)⟩
theorem w_Or_least : am_mw i_Or_least := am_mw_of i_Or_least rfl (by decide) (by decide) (by decide +kernel) (by decide) (g_mem5 157 rfl) (g_mem1 14 rfl) (by decide)
set_option maxRecDepth 20000 in
theorem c_Or_least : am_mc g_mt i_Or_least := ⟨fl_4, ml_4, kl_4, kJ_4, fl_4_ok, kl_4_ok, kJ_4_ok, ml_4_ok, List.all_eq_true.mp (by decide +kernel)⟩
theorem w_Or_sumAt : am_mw i_Or_sumAt := am_mw_of i_Or_sumAt rfl (by decide) (by decide) (by decide +kernel) (by decide) (g_mem6 129 rfl) (g_mem1 14 rfl) (by decide)
set_option maxRecDepth 20000 in
theorem c_Or_sumAt : am_mc g_mt i_Or_sumAt := ⟨fl_4, ml_4, kl_4, kJ_4, fl_4_ok, kl_4_ok, kJ_4_ok, ml_4_ok, List.all_eq_true.mp (by decide +kernel)⟩
theorem w_Or_firstFollowing : am_mw i_Or_firstFollowing := am_mw_of i_Or_firstFollowing rfl (by decide) (by decide) (by decide +kernel) (by decide) (g_mem6 133 rfl) (g_mem1 14 rfl) (by decide)
set_option maxRecDepth 20000 in
theorem c_Or_firstFollowing : am_mc g_mt i_Or_firstFollowing := ⟨fl_4, ml_4, kl_4, kJ_4, fl_4_ok, kl_4_ok, kJ_4_ok, ml_4_ok, List.all_eq_true.mp (by decide +kernel)⟩
theorem w_Or_greatestAsTold : am_mw i_Or_greatestAsTold := am_mw_of i_Or_greatestAsTold rfl (by decide) (by decide) (by decide +kernel) (by decide) (g_mem5 165 rfl) (g_mem1 14 rfl) (by decide)
set_option maxRecDepth 20000 in
theorem c_Or_greatestAsTold : am_mc g_mt i_Or_greatestAsTold := ⟨fl_4, ml_4, kl_4, kJ_4, fl_4_ok, kl_4_ok, kJ_4_ok, ml_4_ok, List.all_eq_true.mp (by decide +kernel)⟩
theorem w_Or_howMany : am_mw i_Or_howMany := am_mw_of i_Or_howMany rfl (by decide) (by decide) (by decide +kernel) (by decide) (g_mem5 174 rfl) (g_mem1 14 rfl) (by decide)
set_option maxRecDepth 20000 in
theorem c_Or_howMany : am_mc g_mt i_Or_howMany := ⟨fl_4, ml_4, kl_4, kJ_4, fl_4_ok, kl_4_ok, kJ_4_ok, ml_4_ok, List.all_eq_true.mp (by decide +kernel)⟩
theorem w_Or_countFollowing : am_mw i_Or_countFollowing := am_mw_of i_Or_countFollowing rfl (by decide) (by decide) (by decide +kernel) (by decide) (g_mem5 178 rfl) (g_mem1 14 rfl) (by decide)
set_option maxRecDepth 20000 in
theorem c_Or_countFollowing : am_mc g_mt i_Or_countFollowing := ⟨fl_4, ml_4, kl_4, kJ_4, fl_4_ok, kl_4_ok, kJ_4_ok, ml_4_ok, List.all_eq_true.mp (by decide +kernel)⟩
theorem w_Or_leastCoin : am_mw i_Or_leastCoin := am_mw_of i_Or_leastCoin rfl (by decide) (by decide) (by decide +kernel) (by decide) (g_mem5 186 rfl) (g_mem1 14 rfl) (by decide)
set_option maxRecDepth 20000 in
theorem c_Or_leastCoin : am_mc g_mt i_Or_leastCoin := ⟨fl_4, ml_4, kl_4, kJ_4, fl_4_ok, kl_4_ok, kJ_4_ok, ml_4_ok, List.all_eq_true.mp (by decide +kernel)⟩
theorem w_Rd_readInto : am_mw i_Rd_readInto := am_mw_of i_Rd_readInto rfl (by decide) (by decide) (by decide +kernel) (by decide) (g_mem3 184 rfl) (g_mem1 9 rfl) (by decide)
set_option maxRecDepth 20000 in
theorem c_Rd_readInto : am_mc g_mt i_Rd_readInto := ⟨fl_5, ml_5, kl_5, kJ_5, fl_5_ok, kl_5_ok, kJ_5_ok, ml_5_ok, List.all_eq_true.mp (by decide +kernel)⟩
theorem w_Rd_fail : am_mw i_Rd_fail := am_mw_of i_Rd_fail rfl (by decide) (by decide) (by decide +kernel) (by decide) (g_mem3 234 rfl) (g_mem1 9 rfl) (by decide)
set_option maxRecDepth 20000 in
theorem c_Rd_fail : am_mc g_mt i_Rd_fail := ⟨fl_5, ml_5, kl_5, kJ_5, fl_5_ok, kl_5_ok, kJ_5_ok, ml_5_ok, List.all_eq_true.mp (by decide +kernel)⟩
theorem w_Rd_expect : am_mw i_Rd_expect := am_mw_of i_Rd_expect rfl (by decide) (by decide) (by decide +kernel) (by decide) (g_mem4 12 rfl) (g_mem1 9 rfl) (by decide)
set_option maxRecDepth 20000 in
theorem c_Rd_expect : am_mc g_mt i_Rd_expect := ⟨fl_5, ml_5, kl_5, kJ_5, fl_5_ok, kl_5_ok, kJ_5_ok, ml_5_ok, List.all_eq_true.mp (by decide +kernel)⟩
theorem w_Rd_readHead : am_mw i_Rd_readHead := am_mw_of i_Rd_readHead rfl (by decide) (by decide) (by decide +kernel) (by decide) (g_mem3 230 rfl) (g_mem1 9 rfl) (by decide)
set_option maxRecDepth 20000 in
theorem c_Rd_readHead : am_mc g_mt i_Rd_readHead := ⟨fl_5, ml_5, kl_5, kJ_5, fl_5_ok, kl_5_ok, kJ_5_ok, ml_5_ok, List.all_eq_true.mp (by decide +kernel)⟩
theorem w_Rd_endHead : am_mw i_Rd_endHead := am_mw_of i_Rd_endHead rfl (by decide) (by decide) (by decide +kernel) (by decide) (g_mem4 16 rfl) (g_mem1 9 rfl) (by decide)
set_option maxRecDepth 20000 in
theorem c_Rd_endHead : am_mc g_mt i_Rd_endHead := ⟨fl_5, ml_5, kl_5, kJ_5, fl_5_ok, kl_5_ok, kJ_5_ok, ml_5_ok, List.all_eq_true.mp (by decide +kernel)⟩
theorem w_Rd_readNewName : am_mw i_Rd_readNewName := am_mw_of i_Rd_readNewName rfl (by decide) (by decide) (by decide +kernel) (by decide) (g_mem3 239 rfl) (g_mem1 9 rfl) (by decide)
set_option maxRecDepth 20000 in
theorem c_Rd_readNewName : am_mc g_mt i_Rd_readNewName := ⟨fl_5, ml_5, kl_5, kJ_5, fl_5_ok, kl_5_ok, kJ_5_ok, ml_5_ok, List.all_eq_true.mp (by decide +kernel)⟩
theorem w_Rd_isWall : am_mw i_Rd_isWall := am_mw_of i_Rd_isWall rfl (by decide) (by decide) (by decide +kernel) (by decide) (g_mem4 3 rfl) (g_mem1 9 rfl) (by decide)
set_option maxRecDepth 20000 in
theorem c_Rd_isWall : am_mc g_mt i_Rd_isWall := ⟨fl_5, ml_5, kl_5, kJ_5, fl_5_ok, kl_5_ok, kJ_5_ok, ml_5_ok, List.all_eq_true.mp (by decide +kernel)⟩
theorem w_Rd_isBill : am_mw i_Rd_isBill := am_mw_of i_Rd_isBill rfl (by decide) (by decide) (by decide +kernel) (by decide) (g_mem4 8 rfl) (g_mem1 9 rfl) (by decide)
set_option maxRecDepth 20000 in
theorem c_Rd_isBill : am_mc g_mt i_Rd_isBill := ⟨fl_5, ml_5, kl_5, kJ_5, fl_5_ok, kl_5_ok, kJ_5_ok, ml_5_ok, List.all_eq_true.mp (by decide +kernel)⟩
theorem w_Rd_startLine : am_mw i_Rd_startLine := am_mw_of i_Rd_startLine rfl (by decide) (by decide) (by decide +kernel) (by decide) (g_mem4 29 rfl) (g_mem1 9 rfl) (by decide)
set_option maxRecDepth 20000 in
theorem c_Rd_startLine : am_mc g_mt i_Rd_startLine := ⟨fl_5, ml_5, kl_5, kJ_5, fl_5_ok, kl_5_ok, kJ_5_ok, ml_5_ok, List.all_eq_true.mp (by decide +kernel)⟩
theorem w_Rd_mayStand : am_mw i_Rd_mayStand := am_mw_of i_Rd_mayStand rfl (by decide) (by decide) (by decide +kernel) (by decide) (g_mem4 33 rfl) (g_mem1 9 rfl) (by decide)
set_option maxRecDepth 20000 in
theorem c_Rd_mayStand : am_mc g_mt i_Rd_mayStand := ⟨fl_5, ml_5, kl_5, kJ_5, fl_5_ok, kl_5_ok, kJ_5_ok, ml_5_ok, List.all_eq_true.mp (by decide +kernel)⟩
theorem w_Rd_isTooMany : am_mw i_Rd_isTooMany := am_mw_of i_Rd_isTooMany rfl (by decide) (by decide) (by decide +kernel) (by decide) (g_mem4 38 rfl) (g_mem1 9 rfl) (by decide)
set_option maxRecDepth 20000 in
theorem c_Rd_isTooMany : am_mc g_mt i_Rd_isTooMany := ⟨fl_5, ml_5, kl_5, kJ_5, fl_5_ok, kl_5_ok, kJ_5_ok, ml_5_ok, List.all_eq_true.mp (by decide +kernel)⟩
theorem w_Rd_readRest : am_mw i_Rd_readRest := am_mw_of i_Rd_readRest rfl (by decide) (by decide) (by decide +kernel) (by decide) (g_mem4 48 rfl) (g_mem1 9 rfl) (by decide)
set_option maxRecDepth 20000 in
theorem c_Rd_readRest : am_mc g_mt i_Rd_readRest := ⟨fl_5, ml_5, kl_5, kJ_5, fl_5_ok, kl_5_ok, kJ_5_ok, ml_5_ok, List.all_eq_true.mp (by decide +kernel)⟩
theorem w_Rd_endLine : am_mw i_Rd_endLine := am_mw_of i_Rd_endLine rfl (by decide) (by decide) (by decide +kernel) (by decide) (g_mem4 123 rfl) (g_mem1 9 rfl) (by decide)
set_option maxRecDepth 20000 in
theorem c_Rd_endLine : am_mc g_mt i_Rd_endLine := ⟨fl_5, ml_5, kl_5, kJ_5, fl_5_ok, kl_5_ok, kJ_5_ok, ml_5_ok, List.all_eq_true.mp (by decide +kernel)⟩
theorem w_Rd_isUntaken : am_mw i_Rd_isUntaken := am_mw_of i_Rd_isUntaken rfl (by decide) (by decide) (by decide +kernel) (by decide) (g_mem4 52 rfl) (g_mem1 9 rfl) (by decide)
set_option maxRecDepth 20000 in
theorem c_Rd_isUntaken : am_mc g_mt i_Rd_isUntaken := ⟨fl_5, ml_5, kl_5, kJ_5, fl_5_ok, kl_5_ok, kJ_5_ok, ml_5_ok, List.all_eq_true.mp (by decide +kernel)⟩
theorem w_Rd_readKind : am_mw i_Rd_readKind := am_mw_of i_Rd_readKind rfl (by decide) (by decide) (by decide +kernel) (by decide) (g_mem4 68 rfl) (g_mem1 9 rfl) (by decide)
set_option maxRecDepth 20000 in
theorem c_Rd_readKind : am_mc g_mt i_Rd_readKind := ⟨fl_5, ml_5, kl_5, kJ_5, fl_5_ok, kl_5_ok, kJ_5_ok, ml_5_ok, List.all_eq_true.mp (by decide +kernel)⟩
theorem w_Rd_readSlip : am_mw i_Rd_readSlip := am_mw_of i_Rd_readSlip rfl (by decide) (by decide) (by decide +kernel) (by decide) (g_mem4 56 rfl) (g_mem1 9 rfl) (by decide)
set_option maxRecDepth 20000 in
theorem c_Rd_readSlip : am_mc g_mt i_Rd_readSlip := ⟨fl_5, ml_5, kl_5, kJ_5, fl_5_ok, kl_5_ok, kJ_5_ok, ml_5_ok, List.all_eq_true.mp (by decide +kernel)⟩
theorem w_Rd_slipNamed : am_mw i_Rd_slipNamed := am_mw_of i_Rd_slipNamed rfl (by decide) (by decide) (by decide +kernel) (by decide) (g_mem4 60 rfl) (g_mem1 9 rfl) (by decide)
set_option maxRecDepth 20000 in
theorem c_Rd_slipNamed : am_mc g_mt i_Rd_slipNamed := ⟨fl_5, ml_5, kl_5, kJ_5, fl_5_ok, kl_5_ok, kJ_5_ok, ml_5_ok, List.all_eq_true.mp (by decide +kernel)⟩
theorem w_Rd_readCall : am_mw i_Rd_readCall := am_mw_of i_Rd_readCall rfl (by decide) (by decide) (by decide +kernel) (by decide) (g_mem4 119 rfl) (g_mem1 9 rfl) (by decide)
set_option maxRecDepth 20000 in
theorem c_Rd_readCall : am_mc g_mt i_Rd_readCall := ⟨fl_5, ml_5, kl_5, kJ_5, fl_5_ok, kl_5_ok, kJ_5_ok, ml_5_ok, List.all_eq_true.mp (by decide +kernel)⟩
theorem w_Rd_readSum : am_mw i_Rd_readSum := am_mw_of i_Rd_readSum rfl (by decide) (by decide) (by decide +kernel) (by decide) (g_mem4 72 rfl) (g_mem1 9 rfl) (by decide)
set_option maxRecDepth 20000 in
theorem c_Rd_readSum : am_mc g_mt i_Rd_readSum := ⟨fl_5, ml_5, kl_5, kJ_5, fl_5_ok, kl_5_ok, kJ_5_ok, ml_5_ok, List.all_eq_true.mp (by decide +kernel)⟩
theorem w_Rd_mayBegin : am_mw i_Rd_mayBegin := am_mw_of i_Rd_mayBegin rfl (by decide) (by decide) (by decide +kernel) (by decide) (g_mem4 76 rfl) (g_mem1 9 rfl) (by decide)
set_option maxRecDepth 20000 in
theorem c_Rd_mayBegin : am_mc g_mt i_Rd_mayBegin := ⟨fl_5, ml_5, kl_5, kJ_5, fl_5_ok, kl_5_ok, kJ_5_ok, ml_5_ok, List.all_eq_true.mp (by decide +kernel)⟩
theorem w_Rd_await : am_mw i_Rd_await := am_mw_of i_Rd_await rfl (by decide) (by decide) (by decide +kernel) (by decide) (g_mem4 84 rfl) (g_mem1 9 rfl) (by decide)
set_option maxRecDepth 20000 in
theorem c_Rd_await : am_mc g_mt i_Rd_await := ⟨fl_5, ml_5, kl_5, kJ_5, fl_5_ok, kl_5_ok, kJ_5_ok, ml_5_ok, List.all_eq_true.mp (by decide +kernel)⟩
theorem w_Rd_wrap : am_mw i_Rd_wrap := am_mw_of i_Rd_wrap rfl (by decide) (by decide) (by decide +kernel) (by decide) (g_mem4 80 rfl) (g_mem1 9 rfl) (by decide)
set_option maxRecDepth 20000 in
theorem c_Rd_wrap : am_mc g_mt i_Rd_wrap := ⟨fl_5, ml_5, kl_5, kJ_5, fl_5_ok, kl_5_ok, kJ_5_ok, ml_5_ok, List.all_eq_true.mp (by decide +kernel)⟩
theorem w_Rd_readPart : am_mw i_Rd_readPart := am_mw_of i_Rd_readPart rfl (by decide) (by decide) (by decide +kernel) (by decide) (g_mem4 88 rfl) (g_mem1 9 rfl) (by decide)
set_option maxRecDepth 20000 in
theorem c_Rd_readPart : am_mc g_mt i_Rd_readPart := ⟨fl_5, ml_5, kl_5, kJ_5, fl_5_ok, kl_5_ok, kJ_5_ok, ml_5_ok, List.all_eq_true.mp (by decide +kernel)⟩
theorem w_Rd_unwrap : am_mw i_Rd_unwrap := am_mw_of i_Rd_unwrap rfl (by decide) (by decide) (by decide +kernel) (by decide) (g_mem4 100 rfl) (g_mem1 9 rfl) (by decide)
set_option maxRecDepth 20000 in
theorem c_Rd_unwrap : am_mc g_mt i_Rd_unwrap := ⟨fl_5, ml_5, kl_5, kJ_5, fl_5_ok, kl_5_ok, kJ_5_ok, ml_5_ok, List.all_eq_true.mp (by decide +kernel)⟩
theorem w_Rd_join : am_mw i_Rd_join := am_mw_of i_Rd_join rfl (by decide) (by decide) (by decide +kernel) (by decide) (g_mem4 111 rfl) (g_mem1 9 rfl) (by decide)
set_option maxRecDepth 20000 in
theorem c_Rd_join : am_mc g_mt i_Rd_join := ⟨fl_5, ml_5, kl_5, kJ_5, fl_5_ok, kl_5_ok, kJ_5_ok, ml_5_ok, List.all_eq_true.mp (by decide +kernel)⟩
theorem w_Rd_endSum : am_mw i_Rd_endSum := am_mw_of i_Rd_endSum rfl (by decide) (by decide) (by decide +kernel) (by decide) (g_mem4 115 rfl) (g_mem1 9 rfl) (by decide)
set_option maxRecDepth 20000 in
theorem c_Rd_endSum : am_mc g_mt i_Rd_endSum := ⟨fl_5, ml_5, kl_5, kJ_5, fl_5_ok, kl_5_ok, kJ_5_ok, ml_5_ok, List.all_eq_true.mp (by decide +kernel)⟩
theorem w_Rd_lastWaiting : am_mw i_Rd_lastWaiting := am_mw_of i_Rd_lastWaiting rfl (by decide) (by decide) (by decide +kernel) (by decide) (g_mem4 96 rfl) (g_mem1 9 rfl) (by decide)
set_option maxRecDepth 20000 in
theorem c_Rd_lastWaiting : am_mc g_mt i_Rd_lastWaiting := ⟨fl_5, ml_5, kl_5, kJ_5, fl_5_ok, kl_5_ok, kJ_5_ok, ml_5_ok, List.all_eq_true.mp (by decide +kernel)⟩
theorem w_Rd_codeNots : am_mw i_Rd_codeNots := am_mw_of i_Rd_codeNots rfl (by decide) (by decide) (by decide +kernel) (by decide) (g_mem4 92 rfl) (g_mem1 9 rfl) (by decide)
set_option maxRecDepth 20000 in
theorem c_Rd_codeNots : am_mc g_mt i_Rd_codeNots := ⟨fl_5, ml_5, kl_5, kJ_5, fl_5_ok, kl_5_ok, kJ_5_ok, ml_5_ok, List.all_eq_true.mp (by decide +kernel)⟩
theorem w_Rd_codeFrom : am_mw i_Rd_codeFrom := am_mw_of i_Rd_codeFrom rfl (by decide) (by decide) (by decide +kernel) (by decide) (g_mem4 104 rfl) (g_mem1 9 rfl) (by decide)
set_option maxRecDepth 20000 in
theorem c_Rd_codeFrom : am_mc g_mt i_Rd_codeFrom := ⟨fl_5, ml_5, kl_5, kJ_5, fl_5_ok, kl_5_ok, kJ_5_ok, ml_5_ok, List.all_eq_true.mp (by decide +kernel)⟩
theorem w_Rd_rank : am_mw i_Rd_rank := am_mw_of i_Rd_rank rfl (by decide) (by decide) (by decide +kernel) (by decide) (g_mem4 107 rfl) (g_mem1 9 rfl) (by decide)
set_option maxRecDepth 20000 in
theorem c_Rd_rank : am_mc g_mt i_Rd_rank := ⟨fl_5, ml_5, kl_5, kJ_5, fl_5_ok, kl_5_ok, kJ_5_ok, ml_5_ok, List.all_eq_true.mp (by decide +kernel)⟩
theorem w_Rk_reckon : am_mw i_Rk_reckon := am_mw_of i_Rk_reckon rfl (by decide) (by decide) (by decide +kernel) (by decide) (g_mem6 3 rfl) (g_mem1 11 rfl) (by decide)
set_option maxRecDepth 20000 in
theorem c_Rk_reckon : am_mc g_mt i_Rk_reckon := ⟨fl_6, ml_6, kl_6, kJ_6, fl_6_ok, kl_6_ok, kJ_6_ok, ml_6_ok, List.all_eq_true.mp (by decide +kernel)⟩
theorem w_Rk_joined : am_mw i_Rk_joined := am_mw_of i_Rk_joined rfl (by decide) (by decide) (by decide +kernel) (by decide) (g_mem6 10 rfl) (g_mem1 11 rfl) (by decide)
set_option maxRecDepth 20000 in
theorem c_Rk_joined : am_mc g_mt i_Rk_joined := ⟨fl_6, ml_6, kl_6, kJ_6, fl_6_ok, kl_6_ok, kJ_6_ok, ml_6_ok, List.all_eq_true.mp (by decide +kernel)⟩
theorem w_Tp_clear : am_mw i_Tp_clear := am_mw_of i_Tp_clear rfl (by decide) (by decide) (by decide +kernel) (by decide) (g_mem4 127 rfl) (g_mem1 2 rfl) (by decide)
set_option maxRecDepth 20000 in
theorem c_Tp_clear : am_mc g_mt i_Tp_clear := ⟨fl_7, ml_7, kl_7, kJ_7, fl_7_ok, kl_7_ok, kJ_7_ok, ml_7_ok, List.all_eq_true.mp (by decide +kernel)⟩
theorem w_Tp_append : am_mw i_Tp_append := am_mw_of i_Tp_append rfl (by decide) (by decide) (by decide +kernel) (by decide) (g_mem3 173 rfl) (g_mem1 2 rfl) (by decide)
set_option maxRecDepth 20000 in
theorem c_Tp_append : am_mc g_mt i_Tp_append := ⟨fl_7, ml_7, kl_7, kJ_7, fl_7_ok, kl_7_ok, kJ_7_ok, ml_7_ok, List.all_eq_true.mp (by decide +kernel)⟩
theorem w_Tp_rewind : am_mw i_Tp_rewind := am_mw_of i_Tp_rewind rfl (by decide) (by decide) (by decide +kernel) (by decide) (g_mem3 196 rfl) (g_mem1 2 rfl) (by decide)
set_option maxRecDepth 20000 in
theorem c_Tp_rewind : am_mc g_mt i_Tp_rewind := ⟨fl_7, ml_7, kl_7, kJ_7, fl_7_ok, kl_7_ok, kJ_7_ok, ml_7_ok, List.all_eq_true.mp (by decide +kernel)⟩
theorem w_Tp_advance : am_mw i_Tp_advance := am_mw_of i_Tp_advance rfl (by decide) (by decide) (by decide +kernel) (by decide) (g_mem3 200 rfl) (g_mem1 2 rfl) (by decide)
set_option maxRecDepth 20000 in
theorem c_Tp_advance : am_mc g_mt i_Tp_advance := ⟨fl_7, ml_7, kl_7, kJ_7, fl_7_ok, kl_7_ok, kJ_7_ok, ml_7_ok, List.all_eq_true.mp (by decide +kernel)⟩
theorem w_Tp_readWord : am_mw i_Tp_readWord := am_mw_of i_Tp_readWord rfl (by decide) (by decide) (by decide +kernel) (by decide) (g_mem3 213 rfl) (g_mem1 2 rfl) (by decide)
set_option maxRecDepth 20000 in
theorem c_Tp_readWord : am_mc g_mt i_Tp_readWord := ⟨fl_7, ml_7, kl_7, kJ_7, fl_7_ok, kl_7_ok, kJ_7_ok, ml_7_ok, List.all_eq_true.mp (by decide +kernel)⟩
theorem w_Tp_readNumber : am_mw i_Tp_readNumber := am_mw_of i_Tp_readNumber rfl (by decide) (by decide) (by decide +kernel) (by decide) (g_mem3 223 rfl) (g_mem1 2 rfl) (by decide)
set_option maxRecDepth 20000 in
theorem c_Tp_readNumber : am_mc g_mt i_Tp_readNumber := ⟨fl_7, ml_7, kl_7, kJ_7, fl_7_ok, kl_7_ok, kJ_7_ok, ml_7_ok, List.all_eq_true.mp (by decide +kernel)⟩
theorem w_Tp_withLetter : am_mw i_Tp_withLetter := am_mw_of i_Tp_withLetter rfl (by decide) (by decide) (by decide +kernel) (by decide) (g_mem1 87 rfl) (g_mem1 2 rfl) (by decide)
set_option maxRecDepth 20000 in
theorem c_Tp_withLetter : am_mc g_mt i_Tp_withLetter := ⟨fl_7, ml_7, kl_7, kJ_7, fl_7_ok, kl_7_ok, kJ_7_ok, ml_7_ok, List.all_eq_true.mp (by decide +kernel)⟩
theorem w_Tp_isBlank : am_mw i_Tp_isBlank := am_mw_of i_Tp_isBlank rfl (by decide) (by decide) (by decide +kernel) (by decide) (g_mem3 206 rfl) (g_mem1 2 rfl) (by decide)
set_option maxRecDepth 20000 in
theorem c_Tp_isBlank : am_mc g_mt i_Tp_isBlank := ⟨fl_7, ml_7, kl_7, kJ_7, fl_7_ok, kl_7_ok, kJ_7_ok, ml_7_ok, List.all_eq_true.mp (by decide +kernel)⟩
theorem w_Tp_isLetter : am_mw i_Tp_isLetter := am_mw_of i_Tp_isLetter rfl (by decide) (by decide) (by decide +kernel) (by decide) (g_mem3 209 rfl) (g_mem1 2 rfl) (by decide)
set_option maxRecDepth 20000 in
theorem c_Tp_isLetter : am_mc g_mt i_Tp_isLetter := ⟨fl_7, ml_7, kl_7, kJ_7, fl_7_ok, kl_7_ok, kJ_7_ok, ml_7_ok, List.all_eq_true.mp (by decide +kernel)⟩
theorem w_Tp_isDigit : am_mw i_Tp_isDigit := am_mw_of i_Tp_isDigit rfl (by decide) (by decide) (by decide +kernel) (by decide) (g_mem3 219 rfl) (g_mem1 2 rfl) (by decide)
set_option maxRecDepth 20000 in
theorem c_Tp_isDigit : am_mc g_mt i_Tp_isDigit := ⟨fl_7, ml_7, kl_7, kJ_7, fl_7_ok, kl_7_ok, kJ_7_ok, ml_7_ok, List.all_eq_true.mp (by decide +kernel)⟩
theorem w_Tp_isSign : am_mw i_Tp_isSign := am_mw_of i_Tp_isSign rfl (by decide) (by decide) (by decide +kernel) (by decide) (g_mem3 226 rfl) (g_mem1 2 rfl) (by decide)
set_option maxRecDepth 20000 in
theorem c_Tp_isSign : am_mc g_mt i_Tp_isSign := ⟨fl_7, ml_7, kl_7, kJ_7, fl_7_ok, kl_7_ok, kJ_7_ok, ml_7_ok, List.all_eq_true.mp (by decide +kernel)⟩
theorem w_Wy_forget : am_mw i_Wy_forget := am_mw_of i_Wy_forget rfl (by decide) (by decide) (by decide +kernel) (by decide) (g_mem4 190 rfl) (g_mem1 13 rfl) (by decide)
set_option maxRecDepth 20000 in
theorem c_Wy_forget : am_mc g_mt i_Wy_forget := ⟨fl_8, ml_8, kl_8, kJ_8, fl_8_ok, kl_8_ok, kJ_8_ok, ml_8_ok, List.all_eq_true.mp (by decide +kernel)⟩
theorem w_Wy_howMany : am_mw i_Wy_howMany := am_mw_of i_Wy_howMany rfl (by decide) (by decide) (by decide +kernel) (by decide) (g_mem5 10 rfl) (g_mem1 13 rfl) (by decide)
set_option maxRecDepth 20000 in
theorem c_Wy_howMany : am_mc g_mt i_Wy_howMany := ⟨fl_8, ml_8, kl_8, kJ_8, fl_8_ok, kl_8_ok, kJ_8_ok, ml_8_ok, List.all_eq_true.mp (by decide +kernel)⟩
theorem w_Wy_measure : am_mw i_Wy_measure := am_mw_of i_Wy_measure rfl (by decide) (by decide) (by decide +kernel) (by decide) (g_mem5 17 rfl) (g_mem1 13 rfl) (by decide)
set_option maxRecDepth 20000 in
theorem c_Wy_measure : am_mc g_mt i_Wy_measure := ⟨fl_8, ml_8, kl_8, kJ_8, fl_8_ok, kl_8_ok, kJ_8_ok, ml_8_ok, List.all_eq_true.mp (by decide +kernel)⟩
theorem w_Wy_keep : am_mw i_Wy_keep := am_mw_of i_Wy_keep rfl (by decide) (by decide) (by decide +kernel) (by decide) (g_mem5 30 rfl) (g_mem1 13 rfl) (by decide)
set_option maxRecDepth 20000 in
theorem c_Wy_keep : am_mc g_mt i_Wy_keep := ⟨fl_8, ml_8, kl_8, kJ_8, fl_8_ok, kl_8_ok, kJ_8_ok, ml_8_ok, List.all_eq_true.mp (by decide +kernel)⟩
theorem w_Wy_need : am_mw i_Wy_need := am_mw_of i_Wy_need rfl (by decide) (by decide) (by decide +kernel) (by decide) (g_mem5 44 rfl) (g_mem1 13 rfl) (by decide)
set_option maxRecDepth 20000 in
theorem c_Wy_need : am_mc g_mt i_Wy_need := ⟨fl_8, ml_8, kl_8, kJ_8, fl_8_ok, kl_8_ok, kJ_8_ok, ml_8_ok, List.all_eq_true.mp (by decide +kernel)⟩
theorem w_Wy_prepare : am_mw i_Wy_prepare := am_mw_of i_Wy_prepare rfl (by decide) (by decide) (by decide +kernel) (by decide) (g_mem5 48 rfl) (g_mem1 13 rfl) (by decide)
set_option maxRecDepth 20000 in
theorem c_Wy_prepare : am_mc g_mt i_Wy_prepare := ⟨fl_8, ml_8, kl_8, kJ_8, fl_8_ok, kl_8_ok, kJ_8_ok, ml_8_ok, List.all_eq_true.mp (by decide +kernel)⟩
theorem w_Wy_clearLacks : am_mw i_Wy_clearLacks := am_mw_of i_Wy_clearLacks rfl (by decide) (by decide) (by decide +kernel) (by decide) (g_mem5 63 rfl) (g_mem1 13 rfl) (by decide)
set_option maxRecDepth 20000 in
theorem c_Wy_clearLacks : am_mc g_mt i_Wy_clearLacks := ⟨fl_8, ml_8, kl_8, kJ_8, fl_8_ok, kl_8_ok, kJ_8_ok, ml_8_ok, List.all_eq_true.mp (by decide +kernel)⟩
theorem w_Wy_isAlike : am_mw i_Wy_isAlike := am_mw_of i_Wy_isAlike rfl (by decide) (by decide) (by decide +kernel) (by decide) (g_mem5 59 rfl) (g_mem1 13 rfl) (by decide)
set_option maxRecDepth 20000 in
theorem c_Wy_isAlike : am_mc g_mt i_Wy_isAlike := ⟨fl_8, ml_8, kl_8, kJ_8, fl_8_ok, kl_8_ok, kJ_8_ok, ml_8_ok, List.all_eq_true.mp (by decide +kernel)⟩
theorem w_Wy_weigh : am_mw i_Wy_weigh := am_mw_of i_Wy_weigh rfl (by decide) (by decide) (by decide +kernel) (by decide) (g_mem5 67 rfl) (g_mem1 13 rfl) (by decide)
set_option maxRecDepth 20000 in
theorem c_Wy_weigh : am_mc g_mt i_Wy_weigh := ⟨fl_8, ml_8, kl_8, kJ_8, fl_8_ok, kl_8_ok, kJ_8_ok, ml_8_ok, List.all_eq_true.mp (by decide +kernel)⟩
theorem w_Wy_addLack : am_mw i_Wy_addLack := am_mw_of i_Wy_addLack rfl (by decide) (by decide) (by decide +kernel) (by decide) (g_mem5 73 rfl) (g_mem1 13 rfl) (by decide)
set_option maxRecDepth 20000 in
theorem c_Wy_addLack : am_mc g_mt i_Wy_addLack := ⟨fl_8, ml_8, kl_8, kJ_8, fl_8_ok, kl_8_ok, kJ_8_ok, ml_8_ok, List.all_eq_true.mp (by decide +kernel)⟩
theorem w_Wy_walkAll : am_mw i_Wy_walkAll := am_mw_of i_Wy_walkAll rfl (by decide) (by decide) (by decide +kernel) (by decide) (g_mem5 78 rfl) (g_mem1 13 rfl) (by decide)
set_option maxRecDepth 20000 in
theorem c_Wy_walkAll : am_mc g_mt i_Wy_walkAll := ⟨fl_8, ml_8, kl_8, kJ_8, fl_8_ok, kl_8_ok, kJ_8_ok, ml_8_ok, List.all_eq_true.mp (by decide +kernel)⟩
theorem w_Wy_record : am_mw i_Wy_record := am_mw_of i_Wy_record rfl (by decide) (by decide) (by decide +kernel) (by decide) (g_mem5 83 rfl) (g_mem1 13 rfl) (by decide)
set_option maxRecDepth 20000 in
theorem c_Wy_record : am_mc g_mt i_Wy_record := ⟨fl_8, ml_8, kl_8, kJ_8, fl_8_ok, kl_8_ok, kJ_8_ok, ml_8_ok, List.all_eq_true.mp (by decide +kernel)⟩
theorem w_Wy_turnBack : am_mw i_Wy_turnBack := am_mw_of i_Wy_turnBack rfl (by decide) (by decide) (by decide +kernel) (by decide) (g_mem5 87 rfl) (g_mem1 13 rfl) (by decide)
set_option maxRecDepth 20000 in
theorem c_Wy_turnBack : am_mc g_mt i_Wy_turnBack := ⟨fl_8, ml_8, kl_8, kJ_8, fl_8_ok, kl_8_ok, kJ_8_ok, ml_8_ok, List.all_eq_true.mp (by decide +kernel)⟩
theorem w_X_feed : am_mw i_X_feed := am_mw_of i_X_feed rfl (by decide) (by decide) (by decide +kernel) (by decide) (g_mem3 169 rfl) (g_mem1 1 rfl) (by decide)
set_option maxRecDepth 20000 in
theorem c_X_feed : am_mc g_mt i_X_feed := ⟨fl_9, ml_9, kl_9, kJ_9, fl_9_ok, kl_9_ok, kJ_9_ok, ml_9_ok, List.all_eq_true.mp (by decide +kernel)⟩
theorem w_X_bills : am_mw i_X_bills := am_mw_of i_X_bills rfl (by decide) (by decide) (by decide +kernel) (by decide) (g_mem3 180 rfl) (g_mem1 1 rfl) (by decide)
set_option maxRecDepth 20000 in
theorem c_X_bills : am_mc g_mt i_X_bills := ⟨fl_9, ml_9, kl_9, kJ_9, fl_9_ok, kl_9_ok, kJ_9_ok, ml_9_ok, List.all_eq_true.mp (by decide +kernel)⟩
theorem w_X_bill : am_mw i_X_bill := am_mw_of i_X_bill rfl (by decide) (by decide) (by decide +kernel) (by decide) (g_mem4 224 rfl) (g_mem1 1 rfl) (by decide)
set_option maxRecDepth 20000 in
theorem c_X_bill : am_mc g_mt i_X_bill := ⟨fl_9, ml_9, kl_9, kJ_9, fl_9_ok, kl_9_ok, kJ_9_ok, ml_9_ok, List.all_eq_true.mp (by decide +kernel)⟩
theorem w_X_line : am_mw i_X_line := am_mw_of i_X_line rfl (by decide) (by decide) (by decide +kernel) (by decide) (g_mem4 237 rfl) (g_mem1 1 rfl) (by decide)
set_option maxRecDepth 20000 in
theorem c_X_line : am_mc g_mt i_X_line := ⟨fl_9, ml_9, kl_9, kJ_9, fl_9_ok, kl_9_ok, kJ_9_ok, ml_9_ok, List.all_eq_true.mp (by decide +kernel)⟩
theorem w_X_check : am_mw i_X_check := am_mw_of i_X_check rfl (by decide) (by decide) (by decide +kernel) (by decide) (g_mem4 233 rfl) (g_mem1 1 rfl) (by decide)
set_option maxRecDepth 20000 in
theorem c_X_check : am_mc g_mt i_X_check := ⟨fl_9, ml_9, kl_9, kJ_9, fl_9_ok, kl_9_ok, kJ_9_ok, ml_9_ok, List.all_eq_true.mp (by decide +kernel)⟩
theorem w_X_room : am_mw i_X_room := am_mw_of i_X_room rfl (by decide) (by decide) (by decide +kernel) (by decide) (g_mem6 31 rfl) (g_mem1 1 rfl) (by decide)
set_option maxRecDepth 20000 in
theorem c_X_room : am_mc g_mt i_X_room := ⟨fl_9, ml_9, kl_9, kJ_9, fl_9_ok, kl_9_ok, kJ_9_ok, ml_9_ok, List.all_eq_true.mp (by decide +kernel)⟩
theorem w_X_price : am_mw i_X_price := am_mw_of i_X_price rfl (by decide) (by decide) (by decide +kernel) (by decide) (g_mem6 35 rfl) (g_mem1 1 rfl) (by decide)
set_option maxRecDepth 20000 in
theorem c_X_price : am_mc g_mt i_X_price := ⟨fl_9, ml_9, kl_9, kJ_9, fl_9_ok, kl_9_ok, kJ_9_ok, ml_9_ok, List.all_eq_true.mp (by decide +kernel)⟩
theorem w_X_begin : am_mw i_X_begin := am_mw_of i_X_begin rfl (by decide) (by decide) (by decide +kernel) (by decide) (g_mem5 194 rfl) (g_mem1 1 rfl) (by decide)
set_option maxRecDepth 20000 in
theorem c_X_begin : am_mc g_mt i_X_begin := ⟨fl_9, ml_9, kl_9, kJ_9, fl_9_ok, kl_9_ok, kJ_9_ok, ml_9_ok, List.all_eq_true.mp (by decide +kernel)⟩
theorem w_X_run : am_mw i_X_run := am_mw_of i_X_run rfl (by decide) (by decide) (by decide +kernel) (by decide) (g_mem5 217 rfl) (g_mem1 1 rfl) (by decide)
set_option maxRecDepth 20000 in
theorem c_X_run : am_mc g_mt i_X_run := ⟨fl_9, ml_9, kl_9, kJ_9, fl_9_ok, kl_9_ok, kJ_9_ok, ml_9_ok, List.all_eq_true.mp (by decide +kernel)⟩
theorem w_X_machine : am_mw i_X_machine := am_mw_of i_X_machine rfl (by decide) (by decide) (by decide +kernel) (by decide) (g_mem4 202 rfl) (g_mem1 1 rfl) (by decide)
set_option maxRecDepth 20000 in
theorem c_X_machine : am_mc g_mt i_X_machine := ⟨fl_9, ml_9, kl_9, kJ_9, fl_9_ok, kl_9_ok, kJ_9_ok, ml_9_ok, List.all_eq_true.mp (by decide +kernel)⟩
theorem w_X_given : am_mw i_X_given := am_mw_of i_X_given rfl (by decide) (by decide) (by decide +kernel) (by decide) (g_mem6 50 rfl) (g_mem1 1 rfl) (by decide)
set_option maxRecDepth 20000 in
theorem c_X_given : am_mc g_mt i_X_given := ⟨fl_9, ml_9, kl_9, kJ_9, fl_9_ok, kl_9_ok, kJ_9_ok, ml_9_ok, List.all_eq_true.mp (by decide +kernel)⟩
theorem w_X_free : am_mw i_X_free := am_mw_of i_X_free rfl (by decide) (by decide) (by decide +kernel) (by decide) (g_mem6 119 rfl) (g_mem1 1 rfl) (by decide)
set_option maxRecDepth 20000 in
theorem c_X_free : am_mc g_mt i_X_free := ⟨fl_9, ml_9, kl_9, kJ_9, fl_9_ok, kl_9_ok, kJ_9_ok, ml_9_ok, List.all_eq_true.mp (by decide +kernel)⟩
theorem w_X_ways : am_mw i_X_ways := am_mw_of i_X_ways rfl (by decide) (by decide) (by decide +kernel) (by decide) (g_mem5 6 rfl) (g_mem1 1 rfl) (by decide)
set_option maxRecDepth 20000 in
theorem c_X_ways : am_mc g_mt i_X_ways := ⟨fl_9, ml_9, kl_9, kJ_9, fl_9_ok, kl_9_ok, kJ_9_ok, ml_9_ok, List.all_eq_true.mp (by decide +kernel)⟩
theorem w_X_reads : am_mw i_X_reads := am_mw_of i_X_reads rfl (by decide) (by decide) (by decide +kernel) (by decide) (g_mem5 105 rfl) (g_mem1 1 rfl) (by decide)
set_option maxRecDepth 20000 in
theorem c_X_reads : am_mc g_mt i_X_reads := ⟨fl_9, ml_9, kl_9, kJ_9, fl_9_ok, kl_9_ok, kJ_9_ok, ml_9_ok, List.all_eq_true.mp (by decide +kernel)⟩
theorem w_X_needs : am_mw i_X_needs := am_mw_of i_X_needs rfl (by decide) (by decide) (by decide +kernel) (by decide) (g_mem5 40 rfl) (g_mem1 1 rfl) (by decide)
set_option maxRecDepth 20000 in
theorem c_X_needs : am_mc g_mt i_X_needs := ⟨fl_9, ml_9, kl_9, kJ_9, fl_9_ok, kl_9_ok, kJ_9_ok, ml_9_ok, List.all_eq_true.mp (by decide +kernel)⟩
theorem w_X_plain : am_mw i_X_plain := am_mw_of i_X_plain rfl (by decide) (by decide) (by decide +kernel) (by decide) (g_mem5 91 rfl) (g_mem1 1 rfl) (by decide)
set_option maxRecDepth 20000 in
theorem c_X_plain : am_mc g_mt i_X_plain := ⟨fl_9, ml_9, kl_9, kJ_9, fl_9_ok, kl_9_ok, kJ_9_ok, ml_9_ok, List.all_eq_true.mp (by decide +kernel)⟩
theorem w_X_fewest : am_mw i_X_fewest := am_mw_of i_X_fewest rfl (by decide) (by decide) (by decide +kernel) (by decide) (g_mem5 109 rfl) (g_mem1 1 rfl) (by decide)
set_option maxRecDepth 20000 in
theorem c_X_fewest : am_mc g_mt i_X_fewest := ⟨fl_9, ml_9, kl_9, kJ_9, fl_9_ok, kl_9_ok, kJ_9_ok, ml_9_ok, List.all_eq_true.mp (by decide +kernel)⟩
theorem w_X_order : am_mw i_X_order := am_mw_of i_X_order rfl (by decide) (by decide) (by decide +kernel) (by decide) (g_mem6 125 rfl) (g_mem1 1 rfl) (by decide)
set_option maxRecDepth 20000 in
theorem c_X_order : am_mc g_mt i_X_order := ⟨fl_9, ml_9, kl_9, kJ_9, fl_9_ok, kl_9_ok, kJ_9_ok, ml_9_ok, List.all_eq_true.mp (by decide +kernel)⟩
theorem w_X_asTold : am_mw i_X_asTold := am_mw_of i_X_asTold rfl (by decide) (by decide) (by decide +kernel) (by decide) (g_mem5 161 rfl) (g_mem1 1 rfl) (by decide)
set_option maxRecDepth 20000 in
theorem c_X_asTold : am_mc g_mt i_X_asTold := ⟨fl_9, ml_9, kl_9, kJ_9, fl_9_ok, kl_9_ok, kJ_9_ok, ml_9_ok, List.all_eq_true.mp (by decide +kernel)⟩
theorem w_X_orders : am_mw i_X_orders := am_mw_of i_X_orders rfl (by decide) (by decide) (by decide +kernel) (by decide) (g_mem5 169 rfl) (g_mem1 1 rfl) (by decide)
set_option maxRecDepth 20000 in
theorem c_X_orders : am_mc g_mt i_X_orders := ⟨fl_9, ml_9, kl_9, kJ_9, fl_9_ok, kl_9_ok, kJ_9_ok, ml_9_ok, List.all_eq_true.mp (by decide +kernel)⟩
theorem w_X_cheapest : am_mw i_X_cheapest := am_mw_of i_X_cheapest rfl (by decide) (by decide) (by decide +kernel) (by decide) (g_mem5 182 rfl) (g_mem1 1 rfl) (by decide)
set_option maxRecDepth 20000 in
theorem c_X_cheapest : am_mc g_mt i_X_cheapest := ⟨fl_9, ml_9, kl_9, kJ_9, fl_9_ok, kl_9_ok, kJ_9_ok, ml_9_ok, List.all_eq_true.mp (by decide +kernel)⟩
theorem w_X_mark : am_mw i_X_mark := am_mw_of i_X_mark rfl (by decide) (by decide) (by decide +kernel) (by decide) (g_mem6 39 rfl) (g_mem1 1 rfl) (by decide)
set_option maxRecDepth 20000 in
theorem c_X_mark : am_mc g_mt i_X_mark := ⟨fl_9, ml_9, kl_9, kJ_9, fl_9_ok, kl_9_ok, kJ_9_ok, ml_9_ok, List.all_eq_true.mp (by decide +kernel)⟩
theorem w_X_count : am_mw i_X_count := am_mw_of i_X_count rfl (by decide) (by decide) (by decide +kernel) (by decide) (g_mem4 198 rfl) (g_mem1 1 rfl) (by decide)
set_option maxRecDepth 20000 in
theorem c_X_count : am_mc g_mt i_X_count := ⟨fl_9, ml_9, kl_9, kJ_9, fl_9_ok, kl_9_ok, kJ_9_ok, ml_9_ok, List.all_eq_true.mp (by decide +kernel)⟩
theorem w_X_at : am_mw i_X_at := am_mw_of i_X_at rfl (by decide) (by decide) (by decide +kernel) (by decide) (g_mem3 203 rfl) (g_mem1 1 rfl) (by decide)
set_option maxRecDepth 20000 in
theorem c_X_at : am_mc g_mt i_X_at := ⟨fl_9, ml_9, kl_9, kJ_9, fl_9_ok, kl_9_ok, kJ_9_ok, ml_9_ok, List.all_eq_true.mp (by decide +kernel)⟩
theorem w_X_put : am_mw i_X_put := am_mw_of i_X_put rfl (by decide) (by decide) (by decide +kernel) (by decide) (g_mem3 176 rfl) (g_mem1 1 rfl) (by decide)
set_option maxRecDepth 20000 in
theorem c_X_put : am_mc g_mt i_X_put := ⟨fl_9, ml_9, kl_9, kJ_9, fl_9_ok, kl_9_ok, kJ_9_ok, ml_9_ok, List.all_eq_true.mp (by decide +kernel)⟩
theorem w_X_find : am_mw i_X_find := am_mw_of i_X_find rfl (by decide) (by decide) (by decide +kernel) (by decide) (g_mem3 216 rfl) (g_mem1 1 rfl) (by decide)
set_option maxRecDepth 20000 in
theorem c_X_find : am_mc g_mt i_X_find := ⟨fl_9, ml_9, kl_9, kJ_9, fl_9_ok, kl_9_ok, kJ_9_ok, ml_9_ok, List.all_eq_true.mp (by decide +kernel)⟩
theorem w_L_feed : am_mw i_L_feed := am_mw_of i_L_feed rfl (by decide) (by decide) (by decide +kernel) (by decide) (g_mem3 165 rfl) (g_mem1 0 rfl) (by decide)
set_option maxRecDepth 20000 in
theorem c_L_feed : am_mc g_mt i_L_feed := ⟨fl_10, ml_10, kl_10, kJ_10, fl_10_ok, kl_10_ok, kJ_10_ok, ml_10_ok, List.all_eq_true.mp (by decide +kernel)⟩
theorem w_L_tells : am_mw i_L_tells := am_mw_of i_L_tells rfl (by decide) (by decide) (by decide +kernel) (by decide) (g_mem3 79 rfl) (g_mem1 0 rfl) (by decide)
set_option maxRecDepth 20000 in
theorem c_L_tells : am_mc g_mt i_L_tells := ⟨fl_10, ml_10, kl_10, kJ_10, fl_10_ok, kl_10_ok, kJ_10_ok, ml_10_ok, List.all_eq_true.mp (by decide +kernel)⟩
theorem w_L_sound : am_mw i_L_sound := am_mw_of i_L_sound rfl (by decide) (by decide) (by decide +kernel) (by decide) (g_mem4 220 rfl) (g_mem1 0 rfl) (by decide)
set_option maxRecDepth 20000 in
theorem c_L_sound : am_mc g_mt i_L_sound := ⟨fl_10, ml_10, kl_10, kJ_10, fl_10_ok, kl_10_ok, kJ_10_ok, ml_10_ok, List.all_eq_true.mp (by decide +kernel)⟩
theorem w_L_act : am_mw i_L_act := am_mw_of i_L_act rfl (by decide) (by decide) (by decide +kernel) (by decide) (g_mem5 190 rfl) (g_mem1 0 rfl) (by decide)
set_option maxRecDepth 20000 in
theorem c_L_act : am_mc g_mt i_L_act := ⟨fl_10, ml_10, kl_10, kJ_10, fl_10_ok, kl_10_ok, kJ_10_ok, ml_10_ok, List.all_eq_true.mp (by decide +kernel)⟩
theorem w_JI_bitCount : am_mw i_JI_bitCount := am_mw_of i_JI_bitCount rfl (by decide) (by decide) (by decide +kernel) (by decide) (g_mem4 214 rfl) (g_mem1 15 rfl) (by decide)
set_option maxRecDepth 20000 in
theorem c_JI_bitCount : am_mc g_mt i_JI_bitCount := ⟨fl_11, ml_11, kl_11, kJ_11, fl_11_ok, kl_11_ok, kJ_11_ok, ml_11_ok, List.all_eq_true.mp (by decide +kernel)⟩
theorem w_JI_ntz : am_mw i_JI_ntz := am_mw_of i_JI_ntz rfl (by decide) (by decide) (by decide +kernel) (by decide) (g_mem4 178 rfl) (g_mem1 15 rfl) (by decide)
set_option maxRecDepth 20000 in
theorem c_JI_ntz : am_mc g_mt i_JI_ntz := ⟨fl_11, ml_11, kl_11, kJ_11, fl_11_ok, kl_11_ok, kJ_11_ok, ml_11_ok, List.all_eq_true.mp (by decide +kernel)⟩
set_option maxRecDepth 20000 in
theorem g_mw : ∀ j I, g_mt j = some I → am_mw I := by
  intro j I h
  exact (show ∀ I ∈ g_mtl, am_mw I from (List.forall_mem_cons.mpr ⟨w_Bi_empty, (List.forall_mem_cons.mpr ⟨w_Bi_has, (List.forall_mem_cons.mpr ⟨w_Bi_addWall, (List.forall_mem_cons.mpr ⟨w_Bi_addBill, (List.forall_mem_cons.mpr ⟨w_Bi_lineBehind, (List.forall_mem_cons.mpr ⟨w_Bi_isPlain, (List.forall_mem_cons.mpr ⟨w_Ck_checkAll, (List.forall_mem_cons.mpr ⟨w_Ck_checkBill, (List.forall_mem_cons.mpr ⟨w_Ck_isSound, (List.forall_mem_cons.mpr ⟨w_Ck_blame, (List.forall_mem_cons.mpr ⟨w_Ck_checkLine, (List.forall_mem_cons.mpr ⟨w_Ck_takeAway, (List.forall_mem_cons.mpr ⟨w_Ck_lay, (List.forall_mem_cons.mpr ⟨w_Ck_turnToElse, (List.forall_mem_cons.mpr ⟨w_Ck_joinBranches, (List.forall_mem_cons.mpr ⟨w_Ln_empty, (List.forall_mem_cons.mpr ⟨w_Ln_add, (List.forall_mem_cons.mpr ⟨w_Ln_addCode, (List.forall_mem_cons.mpr ⟨w_Ln_codeKind, (List.forall_mem_cons.mpr ⟨w_Ln_codeNumber, (List.forall_mem_cons.mpr ⟨w_Ln_isSlip, (List.forall_mem_cons.mpr ⟨w_Ln_timesRead, (List.forall_mem_cons.mpr ⟨w_Ln_timesRead_, (List.forall_mem_cons.mpr ⟨w_Ln_readSet, (List.forall_mem_cons.mpr ⟨w_Ln_laidSet, (List.forall_mem_cons.mpr ⟨w_Ln_bit, (List.forall_mem_cons.mpr ⟨w_Mc_stand, (List.forall_mem_cons.mpr ⟨w_Mc_become, (List.forall_mem_cons.mpr ⟨w_Mc_take, (List.forall_mem_cons.mpr ⟨w_Mc_start, (List.forall_mem_cons.mpr ⟨w_Mc_enter, (List.forall_mem_cons.mpr ⟨w_Mc_go, (List.forall_mem_cons.mpr ⟨w_Mc_tell, (List.forall_mem_cons.mpr ⟨w_Mc_lying, (List.forall_mem_cons.mpr ⟨w_Mc_lookAtTable, (List.forall_mem_cons.mpr ⟨w_Mc_work, (List.forall_mem_cons.mpr ⟨w_Mc_readSlips, (List.forall_mem_cons.mpr ⟨w_Mc_workKind, (List.forall_mem_cons.mpr ⟨w_Mc_reckoned, (List.forall_mem_cons.mpr ⟨w_Mc_lay, (List.forall_mem_cons.mpr ⟨w_Mc_dropGone, (List.forall_mem_cons.mpr ⟨w_Mc_workCall, (List.forall_mem_cons.mpr ⟨w_Mc_workGive, (List.forall_mem_cons.mpr ⟨w_Or_forget, (List.forall_mem_cons.mpr ⟨w_Or_prepare, (List.forall_mem_cons.mpr ⟨w_Or_slipOf, (List.forall_mem_cons.mpr ⟨w_Or_standing, (List.forall_mem_cons.mpr ⟨w_Or_countStands, (List.forall_mem_cons.mpr ⟨w_Or_findReaders, (List.forall_mem_cons.mpr ⟨w_Or_countLying, (List.forall_mem_cons.mpr ⟨w_Or_mayFollow, (List.forall_mem_cons.mpr ⟨w_Or_allSums, (List.forall_mem_cons.mpr ⟨w_Or_findBest, (List.forall_mem_cons.mpr ⟨w_Or_least, (List.forall_mem_cons.mpr ⟨w_Or_sumAt, (List.forall_mem_cons.mpr ⟨w_Or_firstFollowing, (List.forall_mem_cons.mpr ⟨w_Or_greatestAsTold, (List.forall_mem_cons.mpr ⟨w_Or_howMany, (List.forall_mem_cons.mpr ⟨w_Or_countFollowing, (List.forall_mem_cons.mpr ⟨w_Or_leastCoin, (List.forall_mem_cons.mpr ⟨w_Rd_readInto, (List.forall_mem_cons.mpr ⟨w_Rd_fail, (List.forall_mem_cons.mpr ⟨w_Rd_expect, (List.forall_mem_cons.mpr ⟨w_Rd_readHead, (List.forall_mem_cons.mpr ⟨w_Rd_endHead, (List.forall_mem_cons.mpr ⟨w_Rd_readNewName, (List.forall_mem_cons.mpr ⟨w_Rd_isWall, (List.forall_mem_cons.mpr ⟨w_Rd_isBill, (List.forall_mem_cons.mpr ⟨w_Rd_startLine, (List.forall_mem_cons.mpr ⟨w_Rd_mayStand, (List.forall_mem_cons.mpr ⟨w_Rd_isTooMany, (List.forall_mem_cons.mpr ⟨w_Rd_readRest, (List.forall_mem_cons.mpr ⟨w_Rd_endLine, (List.forall_mem_cons.mpr ⟨w_Rd_isUntaken, (List.forall_mem_cons.mpr ⟨w_Rd_readKind, (List.forall_mem_cons.mpr ⟨w_Rd_readSlip, (List.forall_mem_cons.mpr ⟨w_Rd_slipNamed, (List.forall_mem_cons.mpr ⟨w_Rd_readCall, (List.forall_mem_cons.mpr ⟨w_Rd_readSum, (List.forall_mem_cons.mpr ⟨w_Rd_mayBegin, (List.forall_mem_cons.mpr ⟨w_Rd_await, (List.forall_mem_cons.mpr ⟨w_Rd_wrap, (List.forall_mem_cons.mpr ⟨w_Rd_readPart, (List.forall_mem_cons.mpr ⟨w_Rd_unwrap, (List.forall_mem_cons.mpr ⟨w_Rd_join, (List.forall_mem_cons.mpr ⟨w_Rd_endSum, (List.forall_mem_cons.mpr ⟨w_Rd_lastWaiting, (List.forall_mem_cons.mpr ⟨w_Rd_codeNots, (List.forall_mem_cons.mpr ⟨w_Rd_codeFrom, (List.forall_mem_cons.mpr ⟨w_Rd_rank, (List.forall_mem_cons.mpr ⟨w_Rk_reckon, (List.forall_mem_cons.mpr ⟨w_Rk_joined, (List.forall_mem_cons.mpr ⟨w_Tp_clear, (List.forall_mem_cons.mpr ⟨w_Tp_append, (List.forall_mem_cons.mpr ⟨w_Tp_rewind, (List.forall_mem_cons.mpr ⟨w_Tp_advance, (List.forall_mem_cons.mpr ⟨w_Tp_readWord, (List.forall_mem_cons.mpr ⟨w_Tp_readNumber, (List.forall_mem_cons.mpr ⟨w_Tp_withLetter, (List.forall_mem_cons.mpr ⟨w_Tp_isBlank, (List.forall_mem_cons.mpr ⟨w_Tp_isLetter, (List.forall_mem_cons.mpr ⟨w_Tp_isDigit, (List.forall_mem_cons.mpr ⟨w_Tp_isSign, (List.forall_mem_cons.mpr ⟨w_Wy_forget, (List.forall_mem_cons.mpr ⟨w_Wy_howMany, (List.forall_mem_cons.mpr ⟨w_Wy_measure, (List.forall_mem_cons.mpr ⟨w_Wy_keep, (List.forall_mem_cons.mpr ⟨w_Wy_need, (List.forall_mem_cons.mpr ⟨w_Wy_prepare, (List.forall_mem_cons.mpr ⟨w_Wy_clearLacks, (List.forall_mem_cons.mpr ⟨w_Wy_isAlike, (List.forall_mem_cons.mpr ⟨w_Wy_weigh, (List.forall_mem_cons.mpr ⟨w_Wy_addLack, (List.forall_mem_cons.mpr ⟨w_Wy_walkAll, (List.forall_mem_cons.mpr ⟨w_Wy_record, (List.forall_mem_cons.mpr ⟨w_Wy_turnBack, (List.forall_mem_cons.mpr ⟨w_X_feed, (List.forall_mem_cons.mpr ⟨w_X_bills, (List.forall_mem_cons.mpr ⟨w_X_bill, (List.forall_mem_cons.mpr ⟨w_X_line, (List.forall_mem_cons.mpr ⟨w_X_check, (List.forall_mem_cons.mpr ⟨w_X_room, (List.forall_mem_cons.mpr ⟨w_X_price, (List.forall_mem_cons.mpr ⟨w_X_begin, (List.forall_mem_cons.mpr ⟨w_X_run, (List.forall_mem_cons.mpr ⟨w_X_machine, (List.forall_mem_cons.mpr ⟨w_X_given, (List.forall_mem_cons.mpr ⟨w_X_free, (List.forall_mem_cons.mpr ⟨w_X_ways, (List.forall_mem_cons.mpr ⟨w_X_reads, (List.forall_mem_cons.mpr ⟨w_X_needs, (List.forall_mem_cons.mpr ⟨w_X_plain, (List.forall_mem_cons.mpr ⟨w_X_fewest, (List.forall_mem_cons.mpr ⟨w_X_order, (List.forall_mem_cons.mpr ⟨w_X_asTold, (List.forall_mem_cons.mpr ⟨w_X_orders, (List.forall_mem_cons.mpr ⟨w_X_cheapest, (List.forall_mem_cons.mpr ⟨w_X_mark, (List.forall_mem_cons.mpr ⟨w_X_count, (List.forall_mem_cons.mpr ⟨w_X_at, (List.forall_mem_cons.mpr ⟨w_X_put, (List.forall_mem_cons.mpr ⟨w_X_find, (List.forall_mem_cons.mpr ⟨w_L_feed, (List.forall_mem_cons.mpr ⟨w_L_tells, (List.forall_mem_cons.mpr ⟨w_L_sound, (List.forall_mem_cons.mpr ⟨w_L_act, (List.forall_mem_cons.mpr ⟨w_JI_bitCount, (List.forall_mem_cons.mpr ⟨w_JI_ntz, (fun _ h => absurd h List.not_mem_nil)⟩)⟩)⟩)⟩)⟩)⟩)⟩)⟩)⟩)⟩)⟩)⟩)⟩)⟩)⟩)⟩)⟩)⟩)⟩)⟩)⟩)⟩)⟩)⟩)⟩)⟩)⟩)⟩)⟩)⟩)⟩)⟩)⟩)⟩)⟩)⟩)⟩)⟩)⟩)⟩)⟩)⟩)⟩)⟩)⟩)⟩)⟩)⟩)⟩)⟩)⟩)⟩)⟩)⟩)⟩)⟩)⟩)⟩)⟩)⟩)⟩)⟩)⟩)⟩)⟩)⟩)⟩)⟩)⟩)⟩)⟩)⟩)⟩)⟩)⟩)⟩)⟩)⟩)⟩)⟩)⟩)⟩)⟩)⟩)⟩)⟩)⟩)⟩)⟩)⟩)⟩)⟩)⟩)⟩)⟩)⟩)⟩)⟩)⟩)⟩)⟩)⟩)⟩)⟩)⟩)⟩)⟩)⟩)⟩)⟩)⟩)⟩)⟩)⟩)⟩)⟩)⟩)⟩)⟩)⟩)⟩)⟩)⟩)⟩)⟩)⟩)⟩)⟩)⟩)⟩)⟩)⟩)⟩)⟩)⟩)⟩)⟩)⟩)⟩)⟩)⟩)⟩)⟩)⟩)⟩)⟩)⟩)⟩)) I (List.mem_of_getElem? h)
set_option maxRecDepth 20000 in
theorem g_mc : ∀ j I, g_mt j = some I → am_mc g_mt I := by
  intro j I h
  exact (show ∀ I ∈ g_mtl, am_mc g_mt I from (List.forall_mem_cons.mpr ⟨c_Bi_empty, (List.forall_mem_cons.mpr ⟨c_Bi_has, (List.forall_mem_cons.mpr ⟨c_Bi_addWall, (List.forall_mem_cons.mpr ⟨c_Bi_addBill, (List.forall_mem_cons.mpr ⟨c_Bi_lineBehind, (List.forall_mem_cons.mpr ⟨c_Bi_isPlain, (List.forall_mem_cons.mpr ⟨c_Ck_checkAll, (List.forall_mem_cons.mpr ⟨c_Ck_checkBill, (List.forall_mem_cons.mpr ⟨c_Ck_isSound, (List.forall_mem_cons.mpr ⟨c_Ck_blame, (List.forall_mem_cons.mpr ⟨c_Ck_checkLine, (List.forall_mem_cons.mpr ⟨c_Ck_takeAway, (List.forall_mem_cons.mpr ⟨c_Ck_lay, (List.forall_mem_cons.mpr ⟨c_Ck_turnToElse, (List.forall_mem_cons.mpr ⟨c_Ck_joinBranches, (List.forall_mem_cons.mpr ⟨c_Ln_empty, (List.forall_mem_cons.mpr ⟨c_Ln_add, (List.forall_mem_cons.mpr ⟨c_Ln_addCode, (List.forall_mem_cons.mpr ⟨c_Ln_codeKind, (List.forall_mem_cons.mpr ⟨c_Ln_codeNumber, (List.forall_mem_cons.mpr ⟨c_Ln_isSlip, (List.forall_mem_cons.mpr ⟨c_Ln_timesRead, (List.forall_mem_cons.mpr ⟨c_Ln_timesRead_, (List.forall_mem_cons.mpr ⟨c_Ln_readSet, (List.forall_mem_cons.mpr ⟨c_Ln_laidSet, (List.forall_mem_cons.mpr ⟨c_Ln_bit, (List.forall_mem_cons.mpr ⟨c_Mc_stand, (List.forall_mem_cons.mpr ⟨c_Mc_become, (List.forall_mem_cons.mpr ⟨c_Mc_take, (List.forall_mem_cons.mpr ⟨c_Mc_start, (List.forall_mem_cons.mpr ⟨c_Mc_enter, (List.forall_mem_cons.mpr ⟨c_Mc_go, (List.forall_mem_cons.mpr ⟨c_Mc_tell, (List.forall_mem_cons.mpr ⟨c_Mc_lying, (List.forall_mem_cons.mpr ⟨c_Mc_lookAtTable, (List.forall_mem_cons.mpr ⟨c_Mc_work, (List.forall_mem_cons.mpr ⟨c_Mc_readSlips, (List.forall_mem_cons.mpr ⟨c_Mc_workKind, (List.forall_mem_cons.mpr ⟨c_Mc_reckoned, (List.forall_mem_cons.mpr ⟨c_Mc_lay, (List.forall_mem_cons.mpr ⟨c_Mc_dropGone, (List.forall_mem_cons.mpr ⟨c_Mc_workCall, (List.forall_mem_cons.mpr ⟨c_Mc_workGive, (List.forall_mem_cons.mpr ⟨c_Or_forget, (List.forall_mem_cons.mpr ⟨c_Or_prepare, (List.forall_mem_cons.mpr ⟨c_Or_slipOf, (List.forall_mem_cons.mpr ⟨c_Or_standing, (List.forall_mem_cons.mpr ⟨c_Or_countStands, (List.forall_mem_cons.mpr ⟨c_Or_findReaders, (List.forall_mem_cons.mpr ⟨c_Or_countLying, (List.forall_mem_cons.mpr ⟨c_Or_mayFollow, (List.forall_mem_cons.mpr ⟨c_Or_allSums, (List.forall_mem_cons.mpr ⟨c_Or_findBest, (List.forall_mem_cons.mpr ⟨c_Or_least, (List.forall_mem_cons.mpr ⟨c_Or_sumAt, (List.forall_mem_cons.mpr ⟨c_Or_firstFollowing, (List.forall_mem_cons.mpr ⟨c_Or_greatestAsTold, (List.forall_mem_cons.mpr ⟨c_Or_howMany, (List.forall_mem_cons.mpr ⟨c_Or_countFollowing, (List.forall_mem_cons.mpr ⟨c_Or_leastCoin, (List.forall_mem_cons.mpr ⟨c_Rd_readInto, (List.forall_mem_cons.mpr ⟨c_Rd_fail, (List.forall_mem_cons.mpr ⟨c_Rd_expect, (List.forall_mem_cons.mpr ⟨c_Rd_readHead, (List.forall_mem_cons.mpr ⟨c_Rd_endHead, (List.forall_mem_cons.mpr ⟨c_Rd_readNewName, (List.forall_mem_cons.mpr ⟨c_Rd_isWall, (List.forall_mem_cons.mpr ⟨c_Rd_isBill, (List.forall_mem_cons.mpr ⟨c_Rd_startLine, (List.forall_mem_cons.mpr ⟨c_Rd_mayStand, (List.forall_mem_cons.mpr ⟨c_Rd_isTooMany, (List.forall_mem_cons.mpr ⟨c_Rd_readRest, (List.forall_mem_cons.mpr ⟨c_Rd_endLine, (List.forall_mem_cons.mpr ⟨c_Rd_isUntaken, (List.forall_mem_cons.mpr ⟨c_Rd_readKind, (List.forall_mem_cons.mpr ⟨c_Rd_readSlip, (List.forall_mem_cons.mpr ⟨c_Rd_slipNamed, (List.forall_mem_cons.mpr ⟨c_Rd_readCall, (List.forall_mem_cons.mpr ⟨c_Rd_readSum, (List.forall_mem_cons.mpr ⟨c_Rd_mayBegin, (List.forall_mem_cons.mpr ⟨c_Rd_await, (List.forall_mem_cons.mpr ⟨c_Rd_wrap, (List.forall_mem_cons.mpr ⟨c_Rd_readPart, (List.forall_mem_cons.mpr ⟨c_Rd_unwrap, (List.forall_mem_cons.mpr ⟨c_Rd_join, (List.forall_mem_cons.mpr ⟨c_Rd_endSum, (List.forall_mem_cons.mpr ⟨c_Rd_lastWaiting, (List.forall_mem_cons.mpr ⟨c_Rd_codeNots, (List.forall_mem_cons.mpr ⟨c_Rd_codeFrom, (List.forall_mem_cons.mpr ⟨c_Rd_rank, (List.forall_mem_cons.mpr ⟨c_Rk_reckon, (List.forall_mem_cons.mpr ⟨c_Rk_joined, (List.forall_mem_cons.mpr ⟨c_Tp_clear, (List.forall_mem_cons.mpr ⟨c_Tp_append, (List.forall_mem_cons.mpr ⟨c_Tp_rewind, (List.forall_mem_cons.mpr ⟨c_Tp_advance, (List.forall_mem_cons.mpr ⟨c_Tp_readWord, (List.forall_mem_cons.mpr ⟨c_Tp_readNumber, (List.forall_mem_cons.mpr ⟨c_Tp_withLetter, (List.forall_mem_cons.mpr ⟨c_Tp_isBlank, (List.forall_mem_cons.mpr ⟨c_Tp_isLetter, (List.forall_mem_cons.mpr ⟨c_Tp_isDigit, (List.forall_mem_cons.mpr ⟨c_Tp_isSign, (List.forall_mem_cons.mpr ⟨c_Wy_forget, (List.forall_mem_cons.mpr ⟨c_Wy_howMany, (List.forall_mem_cons.mpr ⟨c_Wy_measure, (List.forall_mem_cons.mpr ⟨c_Wy_keep, (List.forall_mem_cons.mpr ⟨c_Wy_need, (List.forall_mem_cons.mpr ⟨c_Wy_prepare, (List.forall_mem_cons.mpr ⟨c_Wy_clearLacks, (List.forall_mem_cons.mpr ⟨c_Wy_isAlike, (List.forall_mem_cons.mpr ⟨c_Wy_weigh, (List.forall_mem_cons.mpr ⟨c_Wy_addLack, (List.forall_mem_cons.mpr ⟨c_Wy_walkAll, (List.forall_mem_cons.mpr ⟨c_Wy_record, (List.forall_mem_cons.mpr ⟨c_Wy_turnBack, (List.forall_mem_cons.mpr ⟨c_X_feed, (List.forall_mem_cons.mpr ⟨c_X_bills, (List.forall_mem_cons.mpr ⟨c_X_bill, (List.forall_mem_cons.mpr ⟨c_X_line, (List.forall_mem_cons.mpr ⟨c_X_check, (List.forall_mem_cons.mpr ⟨c_X_room, (List.forall_mem_cons.mpr ⟨c_X_price, (List.forall_mem_cons.mpr ⟨c_X_begin, (List.forall_mem_cons.mpr ⟨c_X_run, (List.forall_mem_cons.mpr ⟨c_X_machine, (List.forall_mem_cons.mpr ⟨c_X_given, (List.forall_mem_cons.mpr ⟨c_X_free, (List.forall_mem_cons.mpr ⟨c_X_ways, (List.forall_mem_cons.mpr ⟨c_X_reads, (List.forall_mem_cons.mpr ⟨c_X_needs, (List.forall_mem_cons.mpr ⟨c_X_plain, (List.forall_mem_cons.mpr ⟨c_X_fewest, (List.forall_mem_cons.mpr ⟨c_X_order, (List.forall_mem_cons.mpr ⟨c_X_asTold, (List.forall_mem_cons.mpr ⟨c_X_orders, (List.forall_mem_cons.mpr ⟨c_X_cheapest, (List.forall_mem_cons.mpr ⟨c_X_mark, (List.forall_mem_cons.mpr ⟨c_X_count, (List.forall_mem_cons.mpr ⟨c_X_at, (List.forall_mem_cons.mpr ⟨c_X_put, (List.forall_mem_cons.mpr ⟨c_X_find, (List.forall_mem_cons.mpr ⟨c_L_feed, (List.forall_mem_cons.mpr ⟨c_L_tells, (List.forall_mem_cons.mpr ⟨c_L_sound, (List.forall_mem_cons.mpr ⟨c_L_act, (List.forall_mem_cons.mpr ⟨c_JI_bitCount, (List.forall_mem_cons.mpr ⟨c_JI_ntz, (fun _ h => absurd h List.not_mem_nil)⟩)⟩)⟩)⟩)⟩)⟩)⟩)⟩)⟩)⟩)⟩)⟩)⟩)⟩)⟩)⟩)⟩)⟩)⟩)⟩)⟩)⟩)⟩)⟩)⟩)⟩)⟩)⟩)⟩)⟩)⟩)⟩)⟩)⟩)⟩)⟩)⟩)⟩)⟩)⟩)⟩)⟩)⟩)⟩)⟩)⟩)⟩)⟩)⟩)⟩)⟩)⟩)⟩)⟩)⟩)⟩)⟩)⟩)⟩)⟩)⟩)⟩)⟩)⟩)⟩)⟩)⟩)⟩)⟩)⟩)⟩)⟩)⟩)⟩)⟩)⟩)⟩)⟩)⟩)⟩)⟩)⟩)⟩)⟩)⟩)⟩)⟩)⟩)⟩)⟩)⟩)⟩)⟩)⟩)⟩)⟩)⟩)⟩)⟩)⟩)⟩)⟩)⟩)⟩)⟩)⟩)⟩)⟩)⟩)⟩)⟩)⟩)⟩)⟩)⟩)⟩)⟩)⟩)⟩)⟩)⟩)⟩)⟩)⟩)⟩)⟩)⟩)⟩)⟩)⟩)⟩)⟩)⟩)⟩)⟩)⟩)⟩)⟩)⟩)⟩)⟩)⟩)⟩)⟩)⟩)⟩)⟩)⟩)) I (List.mem_of_getElem? h)
