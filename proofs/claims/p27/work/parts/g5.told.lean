/-! Telling in any state that the law comes to. -/
def tKX (b : Nat) : e_T := match b with
  | 0 => KX_100
  | _ => KX_200
def TP (b : Nat) (μ : am_M) : Prop := eKL 0 μ (tKX b) ∧ μ 10 2 = 0 ∧ RX μ ∧ J4 μ ∧ am_G μ
noncomputable def tp_ok (KX KS : e_T) : Bool := e_sb KX KS && ((e_kn KS 10 2 && decide (e_v KS 10 2 = 0)) && (gw_rs.all (fun q => decide (0 ≤ q.1) && (e_kn KS q.1.toNat q.2 && (decide (q.2 < 1024) && decide (e_v KS q.1.toNat q.2 < 3000)))) && (List.range 4).all (fun j => e_kn KS 70 j && decide (e_v KS 70 j < 3000))))
theorem tp_s {KX KS : e_T} {μ : am_M} (h : tp_ok KX KS = true) (hS : eKL 0 μ KS) (hJ : J4 μ) : eKL 0 μ KX ∧ μ 10 2 = 0 ∧ RX μ := by
  unfold tp_ok at h
  simp only [Bool.and_eq_true, decide_eq_true_eq, List.all_eq_true] at h
  obtain ⟨h1, ⟨h2, h3⟩, h4, h5⟩ := h
  refine ⟨e_sb_L h1 (eKn_R (eKL_n hS)), (e_v_s hS h2 (by decide) rfl rfl).trans h3, fun q hq => ?_, fun j => ?_⟩
  · obtain ⟨a1, a2, a3, a4⟩ := h4 q hq
    rw [e_v_s hS a2 a3 (show q.1 = (q.1.toNat : Int) by omega) rfl]
    exact a4
  · by_cases q : j < 4
    · obtain ⟨a1, a2⟩ := h5 j (List.mem_range.mpr q)
      rw [e_v_s hS (x := 70) (y := (j : Int)) a1 (by omega) rfl rfl]
      exact a2
    · exact hJ j (by omega)
set_option maxRecDepth 100000 in
theorem inv_tp {A : Int} {μ : am_M} (h : INV A μ) (hG : am_G μ) : ∃ b, b < 2 ∧ TP b μ := by
  obtain ⟨w, b, f, r, hw, hb, -, -, hS, -, -, -, -, hJ⟩ := h
  refine ⟨b, hb, ?_⟩
  have key : tp_ok (tKX b) (tS w b) = true := by
    clear hS
    match w, b, hw, hb with
    | 0, 0, _, _ => exact (by decide +kernel : tp_ok KX_100 KS_0_100 = true)
    | 0, 1, _, _ => exact (by decide +kernel : tp_ok KX_200 KS_0_200 = true)
    | 1, 0, _, _ => exact (by decide +kernel : tp_ok KX_100 KS_1_100 = true)
    | 1, 1, _, _ => exact (by decide +kernel : tp_ok KX_200 KS_1_200 = true)
    | 2, 0, _, _ => exact (by decide +kernel : tp_ok KX_100 KS_2_100 = true)
    | 2, 1, _, _ => exact (by decide +kernel : tp_ok KX_200 KS_2_200 = true)
    | w + 3, _, hw, _ => omega
    | _, b + 2, _, hb => omega
  obtain ⟨a1, a2, a3⟩ := tp_s key hS hJ
  exact ⟨a1, a2, a3, hJ, hG⟩
theorem told_I {w b : Nat} (hw : w < 3) (hb : b < 2) {μ : am_M} (h1 : eKL 0 μ (tS w b)) (h2 : eKL 0 μ KT) (hJ : J4 μ) : INV 0 μ := by
  have v : ∀ (a i : Nat) (x : Int), (e_kn KT a i && (decide (i < 1024) && decide (e_v KT a i = x))) = true → μ (a : Int) (i : Int) = x := fun a i x h => by
    simp only [Bool.and_eq_true, decide_eq_true_eq] at h
    exact (e_v_s h2 h.1 h.2.1 rfl rfl).trans h.2.2
  have m5 : μ 300 5 = 0 := v 300 5 0 (by decide +kernel)
  have m6 : μ 300 6 = 0 := v 300 6 0 (by decide +kernel)
  have m8 : μ 300 8 = 0 := v 300 8 0 (by decide +kernel)
  have m9 : μ 300 9 = 0 := v 300 9 0 (by decide +kernel)
  have m11 : μ 300 11 = 0 := v 300 11 0 (by decide +kernel)
  have m10 : μ 0 10 = 0 := v 0 10 0 (by decide +kernel)
  refine ⟨w, b, 0, 0, hw, hb, by decide, ?_, h1, ?_, ?_, ⟨⟨by omega, by omega⟩, fun z => by omega, fun i p q => by omega, ?_, ⟨by omega, by omega⟩, by rw [m11]; unfold r32; decide⟩, ⟨by omega, by omega⟩, hJ⟩
  · match w, hw with
    | 0, _ => decide
    | 1, _ => decide
    | 2, _ => decide
    | w + 3, hw => omega
  · clear h1
    match w, hw with
    | 0, _ => exact e_sb_L (t1 := KF_0_m1) (by decide +kernel) (eKn_R (eKL_n h2))
    | 1, _ => exact e_sb_L (t1 := KF_1_m1) (by decide +kernel) (eKn_R (eKL_n h2))
    | 2, _ => exact e_sb_L (t1 := KF_2_m1) (by decide +kernel) (eKn_R (eKL_n h2))
    | w + 3, hw => omega
  · clear h1
    match w, hw with
    | 0, _ => exact e_sb_L (t1 := KR_0_m1) (by decide +kernel) (eKn_R (eKL_n h2))
    | 1, _ => exact e_sb_L (t1 := KR_1_m1) (by decide +kernel) (eKn_R (eKL_n h2))
    | 2, _ => exact e_sb_L (t1 := KR_2_m1) (by decide +kernel) (eKn_R (eKL_n h2))
    | w + 3, hw => omega
  · rw [m5, m8]
    exact Int.le_refl 0
set_option maxRecDepth 20000 in
theorem tl_t0_n : tl_t0.length = 423 := by decide +kernel
set_option maxRecDepth 20000 in
theorem tl_t1_n : tl_t1.length = 247 := by decide +kernel
set_option maxRecDepth 20000 in
theorem tl_t2_n : tl_t2.length = 32 := by decide +kernel
theorem tells_t (l : Launch) (dC : Nat → ClassId) (dI : Nat → Nat → Nat) (cT : Nat → ClassId) (ad : Int → Nat) {w b : Nat} (hw : w < 3) (hb : b < 2) {μ : am_M} (h : TP b μ) (sz : Nat) : Met l y_tells (Cond.code y_tells method_4_code 4 (some .boolean) :: am_tG) { frames := 9, cells := 2, slots := 953, locals := 370 } (ct_Pc dC dI cT [.ref (ad 0), .int (Int32.ofInt (w : Int))] (am_wdL st_LX ad cT μ) sz) (va_Qi (fun (r : Int32) (u : (Int → Nat) × am_M) => r = 1 ∧ (∀ y : Int, y < 3000 → u.1 y = ad y) ∧ am_G u.2 ∧ INV 0 u.2) (fun u t => va_P (dC, dI) g_cl (am_wd u.1 cT u.2) t.heap ∧ va_D (va_A (am_wdL st_LX ad cT μ) sz) (am_wd u.1 cT u.2)) (va_A (am_wdL st_LX ad cT μ) sz)) 2 953 (va_A (am_wdL st_LX ad cT μ) sz) := by
  obtain ⟨h1, h2, h3, h4, h5⟩ := h
  match w, b, hw, hb, h1 with
  | 0, 0, _, _, h1 => exact tells_m l dC dI cT ad (w := 0) (KX := KX_100) (FW := FW_0) (FD := FD_0) (PS := INV 0) (Or.inl ⟨rfl, rfl⟩) tl_t0_e (by rw [tl_t0_n]; decide) tl_t0_f (fun μ h => by rw [tl_t0_n]; exact ev_fd_0 h) (fun μ k1 k2 kJ => by
      obtain ⟨μ', e, a, d, f⟩ := ev_tl_0_100 k1 k2
      exact ⟨μ', e, told_I (w := 0) (b := 1) (by decide) (by decide) a d (f kJ)⟩) fr_tl_100 h1 h2 h3 h4 h5 sz
  | 0, 1, _, _, h1 => exact tells_m l dC dI cT ad (w := 0) (KX := KX_200) (FW := FW_0) (FD := FD_0) (PS := INV 0) (Or.inl ⟨rfl, rfl⟩) tl_t0_e (by rw [tl_t0_n]; decide) tl_t0_f (fun μ h => by rw [tl_t0_n]; exact ev_fd_0 h) (fun μ k1 k2 kJ => by
      obtain ⟨μ', e, a, d, f⟩ := ev_tl_0_200 k1 k2
      exact ⟨μ', e, told_I (w := 0) (b := 0) (by decide) (by decide) a d (f kJ)⟩) fr_tl_200 h1 h2 h3 h4 h5 sz
  | 1, 0, _, _, h1 => exact tells_m l dC dI cT ad (w := 1) (KX := KX_100) (FW := FW_1) (FD := FD_1) (PS := INV 0) (Or.inr (Or.inl ⟨rfl, rfl⟩)) tl_t1_e (by rw [tl_t1_n]; decide) tl_t1_f (fun μ h => by rw [tl_t1_n]; exact ev_fd_1 h) (fun μ k1 k2 kJ => by
      obtain ⟨μ', e, a, d, f⟩ := ev_tl_1_100 k1 k2
      exact ⟨μ', e, told_I (w := 1) (b := 1) (by decide) (by decide) a d (f kJ)⟩) fr_tl_100 h1 h2 h3 h4 h5 sz
  | 1, 1, _, _, h1 => exact tells_m l dC dI cT ad (w := 1) (KX := KX_200) (FW := FW_1) (FD := FD_1) (PS := INV 0) (Or.inr (Or.inl ⟨rfl, rfl⟩)) tl_t1_e (by rw [tl_t1_n]; decide) tl_t1_f (fun μ h => by rw [tl_t1_n]; exact ev_fd_1 h) (fun μ k1 k2 kJ => by
      obtain ⟨μ', e, a, d, f⟩ := ev_tl_1_200 k1 k2
      exact ⟨μ', e, told_I (w := 1) (b := 0) (by decide) (by decide) a d (f kJ)⟩) fr_tl_200 h1 h2 h3 h4 h5 sz
  | 2, 0, _, _, h1 => exact tells_m l dC dI cT ad (w := 2) (KX := KX_100) (FW := FW_2) (FD := FD_2) (PS := INV 0) (Or.inr (Or.inr ⟨rfl, rfl⟩)) tl_t2_e (by rw [tl_t2_n]; decide) tl_t2_f (fun μ h => by rw [tl_t2_n]; exact ev_fd_2 h) (fun μ k1 k2 kJ => by
      obtain ⟨μ', e, a, d, f⟩ := ev_tl_2_100 k1 k2
      exact ⟨μ', e, told_I (w := 2) (b := 1) (by decide) (by decide) a d (f kJ)⟩) fr_tl_100 h1 h2 h3 h4 h5 sz
  | 2, 1, _, _, h1 => exact tells_m l dC dI cT ad (w := 2) (KX := KX_200) (FW := FW_2) (FD := FD_2) (PS := INV 0) (Or.inr (Or.inr ⟨rfl, rfl⟩)) tl_t2_e (by rw [tl_t2_n]; decide) tl_t2_f (fun μ h => by rw [tl_t2_n]; exact ev_fd_2 h) (fun μ k1 k2 kJ => by
      obtain ⟨μ', e, a, d, f⟩ := ev_tl_2_200 k1 k2
      exact ⟨μ', e, told_I (w := 2) (b := 0) (by decide) (by decide) a d (f kJ)⟩) fr_tl_200 h1 h2 h3 h4 h5 sz
  | w + 3, _, hw, _, _ => omega
  | _, b + 2, _, hb, _ => omega
