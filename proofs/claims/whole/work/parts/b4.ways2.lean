/-! The promises of ways and reads. -/
theorem ms_P {b F E s d : Int} {μ ν : am_M} (h : WT b F E s μ ν) (m : Nat) : ∀ (n : Nat) (a : Int) (μ1 : am_M), F ≤ a → a + n ≤ E → (∀ l, a ≤ l → l < a + n → ν 1002 l ≠ 5 ∧ ν 1002 l ≠ 6 ∧ ν 1002 l ≠ 7) → MST μ μ1 → (0 ≤ μ1 50 11 ∧ μ1 50 11 + 1001 * n ≤ 500000) → (0 ≤ μ1 50 12 ∧ μ1 50 12 + 1001 * n ≤ 500000) → MSR b F E s d a (a + n) m ν μ1
  | 0, a, μ1, hF, hE, _, _, _, _ => by
    have e : a + ((0 : Nat) : Int) = a := by omega
    have e2 : (a - a).toNat = 0 := by omega
    rw [e]
    exact ⟨μ1, 0, by omega, fun fu => by rw [e2]; rfl, fun _ _ _ => rfl, fun _ _ _ => rfl, by omega, by omega, fun _ _ _ _ => rfl, fun _ _ _ _ _ => rfl⟩
  | n + 1, a, μ1, hF, hE, hk, hμ, hlo, hhi => by
    obtain ⟨k1, k2, k3⟩ := hk a (Int.le_refl _) (by omega)
    obtain ⟨μ3, l1, l2, l3, l4, l5, l6⟩ := ms_line (d := d) (m := m) h ⟨hF, by omega⟩ hμ k1 k2 k3 (by omega) (by omega)
    obtain ⟨μ2, t, t1, t2, t3, t4, t5, t6, t7⟩ := ms_P (d := d) h m n (a + 1) μ3 (by omega) (by omega) (fun l p q => hk l (by omega) (by omega)) (fun c i p q => by rw [l6 c i p, hμ c i p q]) (by omega) (by omega)
    have e : a + ((n + 1 : Nat) : Int) = a + 1 + n := by omega
    rw [e]
    refine ⟨μ2, t + 1, by omega, fun fu => ?_, fun fu v2 hv => ?_, fun fu v2 hv => ?_, by omega, by omega, fun c i p q => by rw [t7.1 c i p q, l6 c i p], fun c i p q r => by rw [t7.2 c i p q r, l6 c i (by omega)]⟩
    · have e3 : fu + (a + 1 + n - a).toNat = fu + (a + 1 + n - (a + 1)).toNat + 1 := by omega
      rw [e3, l1]
      exact t2 fu
    · rw [← t3 fu v2 hv]
      exact l2 (fu + t) v2 (by omega)
    · rw [← t4 fu v2 hv]
      exact l3 (fu + t) v2 (by omega)
theorem measure_s {b B W n k s : Int} {Wn : Int → Int} {μ ν : am_M} (h : TB b B W n Wn μ ν) (hk : 0 ≤ k ∧ k < B) (hs : -1 ≤ s ∧ s < 10) : ∃ lo hi μ', Wy_measure b k s μ = some (0, μ') ∧ μ' 50 11 = lo ∧ μ' 50 12 = hi ∧ M_haveIn 64 (ν 1017 k) (ν 1017 k + ν 1018 k - 1) s 0 ν = some (lo, ν) ∧ M_haveIn 64 (ν 1017 k) (ν 1017 k + ν 1018 k - 1) s 1 ν = some (hi, ν) ∧ MST μ μ' := by
  have hFU := am_FU_ge
  have bi := BI_of h hk
  have hfn := bi.fn
  have htt := bi.tt
  have hB := h.cB
  have hb' : b = 100 ∨ b = 200 := h.bo
  have K := WT_of h hk hs
  obtain ⟨⟨nb, bk⟩, gv⟩ := parts_of h hk
  generalize hF : ν 1017 k = F at *
  generalize hE' : F + ν 1018 k = E at *
  have et : (((ν 1019 k).toNat : Nat) : Int) = ν 1019 k := by omega
  generalize hμ0 : m_st (m_st μ 50 11 0) 50 12 0 = μ0
  have z11 : μ0 50 11 = 0 := by rw [← hμ0]; simp [m_st_d]
  have z12 : μ0 50 12 = 0 := by rw [← hμ0]; simp [m_st_d]
  have f0 : ∀ c i, ¬ (c = 50 ∧ (i = 11 ∨ i = 12)) → μ0 c i = μ c i := fun c i p => by rw [← hμ0, m_st_d, if_neg (by omega), m_st_d, if_neg (by omega)]
  obtain ⟨μ1, t1, p1, p2, p3, p4, p5, p6, p7⟩ := ms_P (d := 0) K 63 (ν 1019 k).toNat F μ0 (Int.le_refl _) (by omega) (fun l p q => by
    have := (bi.tk (l - F) (by omega) (by omega)).1
    have e1 : F + (l - F) = l := by omega
    rw [hF, e1] at this
    omega) (fun c i p q => f0 c i p) (by omega) (by omega)
  rw [et] at p1 p2 p3 p4 p5 p6
  have h1 : MST μ μ1 := fun c i p q => by rw [p7.1 c i p q, f0 c i p]
  obtain ⟨μ2, t2, r1, r2, r3, r4, r5, r6, r7⟩ := ms_B K nb 3 _ _ 63 0 μ1 bk (by decide) (by omega) (by omega) (by omega) (by omega) h1 (by omega) (by omega)
  have h2 : MST μ μ2 := fun c i p q => by rw [r7.1 c i p q, h1 c i p q]
  obtain ⟨μ3, t3, s1, s2, s3, s4, s5, s6, s7⟩ := ms_P (d := 0) K 63 1 (E - 1) μ2 (by omega) (by omega) (fun l p q => by
    have e1 : l = E - 1 := by omega
    rw [e1, gv]; decide) h2 (by omega) (by omega)
  have h3 : MST μ μ3 := fun c i p q => by rw [s7.1 c i p q, h2 c i p q]
  have e1 : E - 1 + ((1 : Nat) : Int) = E := by omega
  rw [e1] at s1 s2 s3 s4
  rw [z11] at p3
  rw [z12] at p4
  have fin : ∀ (v4 v : Int), (∀ (fu : Nat), M_haveIn_L6 (M_haveIn 63) (fu + t1) (E - 1) s v4 0 F ν = M_haveIn_L6 (M_haveIn 63) fu (E - 1) s v4 (if v4 = 0 then μ1 50 11 else μ1 50 12) (F + ν 1019 k) ν) → (∀ (fu : Nat), M_haveIn_L6 (M_haveIn 63) (fu + t2) (E - 1) s v4 (if v4 = 0 then μ1 50 11 else μ1 50 12) (F + ν 1019 k) ν = M_haveIn_L6 (M_haveIn 63) fu (E - 1) s v4 (if v4 = 0 then μ2 50 11 else μ2 50 12) (E - 1) ν) → (∀ (fu : Nat), M_haveIn_L6 (M_haveIn 63) (fu + t3) (E - 1) s v4 (if v4 = 0 then μ2 50 11 else μ2 50 12) (E - 1) ν = M_haveIn_L6 (M_haveIn 63) fu (E - 1) s v4 v E ν) → M_haveIn 64 F (E - 1) s v4 ν = some (v, ν) := by
    intro v4 v g1 g2 g3
    have ef : am_FU = am_FU - t1 - t2 - t3 - 1 + 1 + t3 + t2 + t1 := by omega
    show M_haveIn_L6 (M_haveIn 63) am_FU (E - 1) s v4 0 F ν = _
    rw [ef, g1, g2, g3]
    show M_haveIn_L6_b (M_haveIn 63) _ (E - 1) s v4 v E ν = _
    unfold M_haveIn_L6_b
    rw [if_neg (by omega)]
  refine ⟨μ3 50 11, μ3 50 12, μ3, ?_, rfl, rfl, ?_, ?_, h3⟩
  · have hbh := behind_s bi
    rw [hF, hE'] at hbh
    have bi0 : Bi_lineBehind b k μ0 = some (E, μ0) := by
      have bi0 : BI b B k μ0 ν := (BI.mk (bo := bi.bo) (kk := bi.kk) (r15 := by rw [f0 _ _ (by omega)]; exact bi.r15) (r16 := by rw [f0 _ _ (by omega)]; exact bi.r16) (r17 := by rw [f0 _ _ (by omega)]; exact bi.r17) (r18 := by rw [f0 _ _ (by omega)]; exact bi.r18) (fn := by rw [hF]; omega) (tt := bi.tt) (sx := bi.sx) (tk := bi.tk))
      have := behind_s bi0
      rw [hF, hE'] at this
      exact this
    have ef : am_FU = am_FU - (E - (E - 1)).toNat - (E - 1 - (F + ν 1019 k)).toNat - (F + ν 1019 k - F).toNat - 1 + 1 + (E - (E - 1)).toNat + (E - 1 - (F + ν 1019 k)).toNat + (F + ν 1019 k - F).toNat := by omega
    unfold Wy_measure
    rw [q_pf_d, q_pf_d, hμ0, q_gd_s (bO0 h.bo), bi0, q_bd_s, bat15 h.bo, if_pos (by omega), q_bd_s, f0 _ _ (by omega), bi.r15, hF, ef, p2, r2, s2]
    show Wy_measure_L30_b _ b s 0 E E μ3 = _
    unfold Wy_measure_L30_b
    rw [if_neg (by omega)]
  · exact fin 0 _ (fun fu => by rw [if_pos rfl]; exact p3 fu _ (by omega)) (fun fu => by rw [if_pos rfl, if_pos rfl]; exact r3 fu _ (by omega)) (fun fu => by rw [if_pos rfl]; exact s3 fu _ (by omega))
  · exact fin 1 _ (fun fu => by rw [if_neg (by decide)]; exact p4 fu _ (by omega)) (fun fu => by rw [if_neg (by decide), if_neg (by decide)]; exact r4 fu _ (by omega)) (fun fu => by rw [if_neg (by decide)]; exact s4 fu _ (by omega))
theorem lastL_s {b B k : Int} {μ ν : am_M} (h : BI b B k μ ν) : M_lastLine k ν = some (ν 1017 k + ν 1018 k - 1, ν) := by
  have hk := h.kk
  have hfn := h.fn
  have htt := h.tt
  exact last_s ⟨hk.1, by omega⟩ rfl (by omega)
theorem TB.z {b B W n i v : Int} {Wn : Int → Int} {μ ν : am_M} (h : TB b B W n Wn μ ν) : TB b B W n Wn μ (m_st ν 1000 i v) := h.tf (fun _ _ _ => rfl) (fun x p => funext fun j => m_st_c (by omega))
theorem ways_p {b B W n v f : Int} {Wn : Int → Int} {μ ν : am_M} (h8 : μ 0 8 = b) (h : TB b B W n Wn μ ν) : ∃ r μ', X_ways v f μ = some (r, μ') ∧ M_ways v f ν = some (r, m_st ν 1000 0 0) ∧ MST μ μ' := by
  have hbo := h.bo
  have tb1 := h.z (i := 0) (v := 0)
  have hB := tb1.cB
  unfold X_ways M_ways
  rw [h8, q_gd_s (bO0 hbo), q_pf_d]
  generalize m_st ν 1000 0 0 = ν1 at *
  rw [has_s hbo hB.1, isBill_p hB.2.1, q_bd_s, q_bd_s]
  by_cases c : 0 ≤ v ∧ v < B
  rotate_left
  · rw [if_pos (if_neg c), if_pos (if_neg c)]; exact ⟨_, _, rfl, rfl, fun _ _ _ _ => rfl⟩
  have hz : (if 0 ≤ v ∧ v < B then (1 : Int) else 0) = 1 := if_pos c
  have bi := BI_of tb1 c
  rw [hz, if_neg (show ¬ (1 : Int) = 0 by decide), if_neg (show ¬ (1 : Int) = 0 by decide), within_g, q_bd_s, h8]
  by_cases cf : 0 ≤ f ∧ f ≤ 2
  rotate_left
  · have hw : (if 0 ≤ f ∧ f ≤ 2 then (1 : Int) else 0) = 0 := if_neg cf
    rw [hw, if_pos (show (0 : Int) = 0 from rfl)]
    refine ⟨-1, μ, ?_, rfl, fun _ _ _ _ => rfl⟩
    by_cases c0 : f < 0
    · rw [if_pos c0]
    · rw [if_neg c0, if_neg (by omega)]
  have hw : (if 0 ≤ f ∧ f ≤ 2 then (1 : Int) else 0) = 1 := if_pos cf
  rw [hw, if_neg (show ¬ (1 : Int) = 0 by decide), if_neg (show ¬ f < 0 by omega), if_pos cf.2]
  by_cases f0 : f = 0
  · obtain ⟨y, μ', a1, a2, a3⟩ := howMany_s tb1 c
    rw [if_pos f0, if_pos f0, q_ld_s c.1 (by omega), lastL_s bi, q_bd_s, a1, q_bd_s, a2, q_bd_s]
    exact ⟨y, μ', rfl, rfl, fun c i p q => a3 c i (by omega) (by omega)⟩
  · obtain ⟨lo, hi, μ', a1, a2, a3, a4, a5, a6⟩ := measure_s (s := -1) tb1 c (by omega)
    unfold M_ways_B69
    rw [if_neg f0, if_neg f0, q_ld_s c.1 (by omega), lastL_s bi, q_bd_s, a1, q_bd_s, a4, a5, q_bd_s, q_bd_s, a2, a3]
    by_cases f1 : f = 1
    · rw [if_pos f1, if_pos f1]; exact ⟨hi, μ', rfl, rfl, a6⟩
    · rw [if_neg f1, if_neg f1]; exact ⟨lo, μ', rfl, rfl, a6⟩
theorem isSlip_s {v s S : Int} {ν : am_M} (hv : 0 ≤ v ∧ v < 8) (h : ν 1020 v = S) : M_isSlip v s ν = some (if 0 ≤ s ∧ s < S then 1 else 0, ν) := by
  unfold M_isSlip
  by_cases c0 : s < 0
  · rw [if_pos c0, if_neg (by omega)]
  rw [if_neg c0, q_ld_s hv.1 hv.2, h]
  by_cases c1 : s < S
  · rw [if_pos c1, if_pos (by omega)]
  · rw [if_neg c1, if_neg (by omega)]
theorem reads_p {b B W n v s f : Int} {Wn : Int → Int} {μ ν : am_M} (h8 : μ 0 8 = b) (h : TB b B W n Wn μ ν) : ∃ r μ', X_reads v s f μ = some (r, μ') ∧ M_reads v s f ν = some (r, m_st ν 1000 0 0) ∧ MST μ μ' := by
  have hbo := h.bo
  have tb1 := h.z (i := 0) (v := 0)
  have hB := tb1.cB
  unfold X_reads M_reads
  rw [h8, q_gd_s (bO0 hbo), q_pf_d]
  generalize m_st ν 1000 0 0 = ν1 at *
  rw [has_s hbo hB.1, isBill_p hB.2.1, q_bd_s, q_bd_s]
  by_cases c : 0 ≤ v ∧ v < B
  rotate_left
  · rw [if_pos (if_neg c), if_pos (if_neg c)]; exact ⟨_, _, rfl, rfl, fun _ _ _ _ => rfl⟩
  have hz : (if 0 ≤ v ∧ v < B then (1 : Int) else 0) = 1 := if_pos c
  have bi := BI_of tb1 c
  have hsx := bi.sx
  rw [hz, if_neg (show ¬ (1 : Int) = 0 by decide), if_neg (show ¬ (1 : Int) = 0 by decide), isSlip_s (by omega) rfl, q_bd_s, h8, q_gd_s (bO0 hbo), bat18 hbo, if_pos (show 0 ≤ v ∧ v < 4 by omega), q_bd_s, h8, bi.r18]
  by_cases cs : 0 ≤ s ∧ s < ν1 1020 v
  rotate_left
  · have hw : (if 0 ≤ s ∧ s < ν1 1020 v then (1 : Int) else 0) = 0 := if_neg cs
    rw [hw, if_pos (show (0 : Int) = 0 from rfl)]
    refine ⟨-1, μ, ?_, rfl, fun _ _ _ _ => rfl⟩
    by_cases c0 : f < 0
    · rw [if_pos c0]
    rw [if_neg c0]
    by_cases c1 : f ≤ 1
    · rw [if_pos c1]
      by_cases c2 : s < 0
      · rw [if_pos c2]
      · rw [if_neg c2, if_neg (by omega)]
    · rw [if_neg c1]
  have hw2 : (if 0 ≤ s ∧ s < ν1 1020 v then (1 : Int) else 0) = 1 := if_pos cs
  rw [hw2, if_neg (show ¬ (1 : Int) = 0 by decide), within_g, q_bd_s]
  by_cases cf : 0 ≤ f ∧ f ≤ 1
  rotate_left
  · have hw : (if 0 ≤ f ∧ f ≤ 1 then (1 : Int) else 0) = 0 := if_neg cf
    rw [hw, if_pos (show (0 : Int) = 0 from rfl)]
    refine ⟨-1, μ, ?_, rfl, fun _ _ _ _ => rfl⟩
    by_cases c0 : f < 0
    · rw [if_pos c0]
    · rw [if_neg c0, if_neg (by omega)]
  have hw : (if 0 ≤ f ∧ f ≤ 1 then (1 : Int) else 0) = 1 := if_pos cf
  obtain ⟨lo, hi, μ', a1, a2, a3, a4, a5, a6⟩ := measure_s (s := s) tb1 c (by omega)
  unfold M_reads_B54
  rw [hw, if_neg (show ¬ (1 : Int) = 0 by decide), if_neg (show ¬ f < 0 by omega), if_pos cf.2, if_neg (show ¬ s < 0 by omega), if_pos cs.2, q_ld_s c.1 (by omega), lastL_s bi, q_bd_s, a1, q_bd_s, a4, a5, q_bd_s, q_bd_s, a2, a3]
  by_cases f1 : f = 1
  · rw [if_pos f1, if_pos f1]; exact ⟨hi, μ', rfl, rfl, a6⟩
  · rw [if_neg f1, if_neg f1]; exact ⟨lo, μ', rfl, rfl, a6⟩
