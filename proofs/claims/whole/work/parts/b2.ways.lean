/-! The promise of ways: how many. -/
theorem behind_s {b B k : Int} {μ ν : am_M} (h : BI b B k μ ν) : Bi_lineBehind b k μ = some (ν 1017 k + ν 1018 k, μ) := by
  have hk := h.kk
  have hfn := h.fn
  have htt := h.tt
  unfold Bi_lineBehind
  rw [q_gd_s (bO0 h.bo), bat15 h.bo, if_pos (by omega), q_bd_s, bat16 h.bo, if_pos (by omega), q_bd_s, h.r15, h.r16, w32_i (x := ν 1017 k + ν 1018 k) (by omega) (by omega)]
/-- a bill's lines' kinds, both sides -/
def KD2 (b F E : Int) (μ ν : am_M) : Prop := (bOk b) ∧ (0 ≤ F ∧ E ≤ 60) ∧ (∀ l, F ≤ l → l < E → μ (b + 2) l = ν 1002 l)
theorem KD2.bo {b F E : Int} {μ ν : am_M} (h : KD2 b F E μ ν) : bOk b := h.1
theorem KD2.F0 {b F E : Int} {μ ν : am_M} (h : KD2 b F E μ ν) : 0 ≤ F ∧ E ≤ 60 := h.2.1
theorem KD2.kd {b F E : Int} {μ ν : am_M} (h : KD2 b F E μ ν) : ∀ l, F ≤ l → l < E → μ (b + 2) l = ν 1002 l := h.2.2
theorem KD2.mk {b F E : Int} {μ ν : am_M} (bo : bOk b) (F0 : 0 ≤ F ∧ E ≤ 60) (kd : ∀ l, F ≤ l → l < E → μ (b + 2) l = ν 1002 l) : KD2 b F E μ ν := ⟨bo, F0, kd⟩
theorem KD2_of {b B W n k : Int} {Wn : Int → Int} {μ ν : am_M} (h : TB b B W n Wn μ ν) (hk : 0 ≤ k ∧ k < B) : KD2 b (ν 1017 k) (ν 1017 k + ν 1018 k) μ ν := by
  have bi := BI_of h hk
  have hfn := bi.fn
  have htt := bi.tt
  refine (KD2.mk (bo := h.bo) (F0 := by omega) (kd := fun l p q => ?_))
  obtain ⟨f, m, t, S, σ, e, w⟩ := h.bw k hk.1 hk.2
  have e0 : (0 : Int) + k = k := by omega
  have r15 := w.r15
  have r16 := w.r16
  rw [e0] at r15 r16
  obtain ⟨S', u', a0, a⟩ := h.al l (by omega) (by omega)
  have el : (0 : Int) + l = l := by omega
  have := a.kd
  rw [el] at this
  exact this.1
def WYF (d : Int) (μ μ' : am_M) : Prop := (∀ c i, c ≠ 51 → c ≠ 53 → μ' c i = μ c i) ∧ ∀ c i, (c = 51 ∨ c = 53) → i < d → μ' c i = μ c i
theorem WYF.tr {d d' : Int} {μ μ1 μ2 : am_M} (h : WYF d μ μ1) (h2 : WYF d' μ1 μ2) (hd : d ≤ d') : WYF d μ μ2 := ⟨fun c i p q => by rw [h2.1 c i p q, h.1 c i p q], fun c i p q => by rw [h2.2 c i p (by omega), h.2 c i p q]⟩
theorem hm_line {b F E x d l : Int} {fu : Nat} {μ ν μ1 : am_M} (h : KD2 b F E μ ν) (hl : F ≤ l ∧ l < E) (hm : μ1 (b + 2) l = μ (b + 2) l) (h5 : ν 1002 l ≠ 5) (h6 : ν 1002 l ≠ 6) (h7 : ν 1002 l ≠ 7) : Wy_howMany_L22 (fu + 1) b x d E l μ1 = Wy_howMany_L22 fu b x d E (l + 1) μ1 := by
  have F0 := h.F0
  have e2 : b + 1 + 1 = b + 2 := by omega
  show Wy_howMany_L22_b (Wy_howMany_L22 fu) b x d E l μ1 = _
  unfold Wy_howMany_L22_b Wy_howMany_B123
  rw [if_pos hl.2, q_gd_s (bO0 h.bo), q_gd_s (bO2 h.bo), e2, bat2 h.bo, if_pos (by omega), q_bd_s, hm, h.kd l hl.1 hl.2, if_neg h5, if_neg h6, if_neg h7, w32_i (x := l + 1) (by omega) (by omega)]
theorem wy_B {b F E : Int} {μ ν : am_M} (h : KD2 b F E μ ν) : ∀ (n dd : Nat) (a z : Int) (m : Nat) (x d : Int) (μ1 : am_M), blk (wZ b μ ν) n dd a z → dd ≤ m → F ≤ a → z ≤ E → 0 ≤ d → d + dd ≤ 3 → (∀ c i, c ≠ 51 → c ≠ 53 → μ1 c i = μ c i) → ∃ y μ2, ∃ t : Nat, (t : Int) ≤ z - a ∧ (∀ fu : Nat, Wy_howMany_L22 (fu + (z - a).toNat) b x d E a μ1 = Wy_howMany_L22 fu b y d E z μ2) ∧ (∀ (fu : Nat) v2, z - 1 ≤ v2 → M_waysIn_L5 (M_waysIn m) (fu + t) v2 x a ν = M_waysIn_L5 (M_waysIn m) fu v2 y z ν) ∧ WYF d μ1 μ2
  | 0, dd, a, z, m, x, d, μ1, hb, hm, hF, hz, h0, h3, hμ => by
    have hb : a = z := hb
    subst hb
    have e : (a - a).toNat = 0 := by omega
    exact ⟨x, μ1, 0, by omega, fun fu => by rw [e]; rfl, fun fu v2 _ => rfl, fun _ _ _ _ => rfl, fun _ _ _ _ => rfl⟩
  | n + 1, dd, a, z, m, x, d, μ1, hb, hm, hF, hz, h0, h3, hμ => by
    have hFU := am_FU_ge
    have F0 := h.F0
    have hb' : b = 100 ∨ b = 200 := h.bo
    rcases hb with hb | ⟨b1, b2, b3⟩ | ⟨k5, b2, b3, b4, b5, k6, k7, b8, b9, b10, b11, b12, b13⟩
    · exact wy_B h 0 dd a z m x d μ1 hb hm hF hz h0 h3 hμ
    · have kk : 1 ≤ ν 1002 a ∧ ν 1002 a ≤ 4 := b2
      obtain ⟨y, μ2, t, t1, t2, t3, t4⟩ := wy_B h n dd (a + 1) z m x d μ1 b3 hm (by omega) hz h0 h3 hμ
      refine ⟨y, μ2, t + 1, by omega, fun fu => ?_, fun fu v2 hv => ?_, t4⟩
      · have e : fu + (z - a).toNat = fu + (z - (a + 1)).toNat + 1 := by omega
        rw [e, hm_line h ⟨hF, by omega⟩ (hμ _ _ (by omega) (by omega)) (by omega) (by omega) (by omega)]
        exact t2 fu
      · rw [← t3 fu v2 hv]
        show M_waysIn_L5_b (M_waysIn m) (M_waysIn_L5 (M_waysIn m) (fu + t)) v2 x a ν = _
        unfold M_waysIn_L5_b M_waysIn_B77
        rw [if_pos (by omega), q_ld_s (by omega) (by omega), if_neg (by omega), w32_i (x := a + 1) (by omega) (by omega)]
    · have kk5 : ν 1002 a = 5 := k5
      generalize he : wZ b μ ν 1 a = e at *
      generalize hq : wZ b μ ν 2 a = q at *
      have kk6 : ν 1002 e = 6 := k6
      have kk7 : ν 1002 q = 7 := k7
      have he8 : ν 1008 a = e := he
      have hq9 : ν 1009 a = q := hq
      match m, hm with
      | 0, hm => omega
      | m + 1, hm =>
      -- then
      obtain ⟨y1, μ3, t1, p1, p2, p3, p4⟩ := wy_B h n (dd - 1) (a + 1) e m 1 (d + 1) (m_st μ1 51 d x) b11 (by omega) (by omega) (by omega) (by omega) (by omega) (fun c i u v => by rw [m_st_c u, hμ c i u v])
      -- else
      obtain ⟨y2, μ4, t2, r1, r2, r3, r4⟩ := wy_B h n (dd - 1) (e + 1) q m 1 (d + 1) (m_st μ3 53 d y1) b12 (by omega) (by omega) (by omega) (by omega) (by omega) (fun c i u v => by rw [m_st_c v, p4.1 c i u v, m_st_c u, hμ c i u v])
      have g51 : μ4 51 d = x := by rw [r4.2 _ _ (Or.inl rfl) (by omega), m_st_c (by decide), p4.2 _ _ (Or.inl rfl) (by omega), m_st_d, if_pos ⟨rfl, rfl⟩]
      have g53 : μ4 53 d = y1 := by rw [r4.2 _ _ (Or.inr rfl) (by omega), m_st_d, if_pos ⟨rfl, rfl⟩]
      have hμ4 : ∀ c i, c ≠ 51 → c ≠ 53 → μ4 c i = μ c i := fun c i u v => by rw [r4.1 c i u v, m_st_c v, p4.1 c i u v, m_st_c u, hμ c i u v]
      have hW : WYF d μ1 μ4 := ⟨fun c i u v => by rw [hμ4 c i u v, hμ c i u v], fun c i u v => by
        rw [r4.2 c i u (by omega), m_st_i (by omega), p4.2 c i u (by omega), m_st_i (by omega)]⟩
      -- behind
      obtain ⟨y, μ2, t, s1, s2, s3, s4⟩ := wy_B h n dd (q + 1) z (m + 1) (w32 (x * w32 (y1 + y2))) d μ4 b13 hm (by omega) hz h0 h3 hμ4
      have e2 : b + 1 + 1 = b + 2 := by omega
      refine ⟨y, μ2, t + 1, by omega, fun fu => ?_, fun fu v2 hv => ?_, hW.tr s4 (Int.le_refl _)⟩
      · rw [← s2 fu]
        have eu : fu + (z - a).toNat = fu + (z - (q + 1)).toNat + 1 + (q - (e + 1)).toNat + 1 + (e - (a + 1)).toNat + 1 := by omega
        rw [eu]
        have st1 : ∀ g : Nat, Wy_howMany_L22 (g + 1) b x d E a μ1 = Wy_howMany_L22 g b 1 (d + 1) E (a + 1) (m_st μ1 51 d x) := fun g => by
          show Wy_howMany_L22_b (Wy_howMany_L22 g) b x d E a μ1 = _
          unfold Wy_howMany_L22_b Wy_howMany_B123
          rw [if_pos (by omega), q_gd_s (bO0 h.bo), q_gd_s (bO2 h.bo), e2, bat2 h.bo, if_pos (by omega), q_bd_s, hμ _ _ (by omega) (by omega), h.kd a hF (by omega), if_pos kk5, X_put_51, if_pos (by omega), q_bd_s, w32_i (x := d + 1) (by omega) (by omega), w32_i (x := a + 1) (by omega) (by omega)]
        have st2 : ∀ g : Nat, Wy_howMany_L22 (g + 1) b y1 (d + 1) E e μ3 = Wy_howMany_L22 g b 1 (d + 1) E (e + 1) (m_st μ3 53 d y1) := fun g => by
          have ed : d + 1 - 1 = d := by omega
          show Wy_howMany_L22_b (Wy_howMany_L22 g) b y1 (d + 1) E e μ3 = _
          unfold Wy_howMany_L22_b Wy_howMany_B123
          rw [if_pos (by omega), q_gd_s (bO0 h.bo), q_gd_s (bO2 h.bo), e2, bat2 h.bo, if_pos (by omega), q_bd_s, p4.1 _ _ (by omega) (by omega), m_st_c (by omega), hμ _ _ (by omega) (by omega), h.kd e (by omega) (by omega), if_neg (by omega), if_pos kk6, w32_i (x := d + 1 - 1) (by omega) (by omega), ed, X_put_53, if_pos (by omega), q_bd_s, w32_i (x := e + 1) (by omega) (by omega)]
        have st3 : ∀ g : Nat, Wy_howMany_L22 (g + 1) b y2 (d + 1) E q μ4 = Wy_howMany_L22 g b (w32 (x * w32 (y1 + y2))) d E (q + 1) μ4 := fun g => by
          have ed : d + 1 + -1 = d := by omega
          show Wy_howMany_L22_b (Wy_howMany_L22 g) b y2 (d + 1) E q μ4 = _
          unfold Wy_howMany_L22_b Wy_howMany_B123
          rw [if_pos (by omega), q_gd_s (bO0 h.bo), q_gd_s (bO2 h.bo), e2, bat2 h.bo, if_pos (by omega), q_bd_s, hμ4 _ _ (by omega) (by omega), h.kd q (by omega) (by omega), if_neg (by omega), if_neg (by omega), if_pos kk7, w32_i (x := d + 1 + -1) (by omega) (by omega), ed, X_at_51, if_pos (by omega), q_bd_s, X_at_53, if_pos (by omega), q_bd_s, g51, g53, w32_i (x := q + 1) (by omega) (by omega)]
        rw [st1, p2, st2, r2, st3]
      · rw [← s3 fu v2 hv]
        have rc1 : M_waysIn (m + 1) (a + 1) (e - 1) ν = some (y1, ν) := by
          show M_waysIn_L5 (M_waysIn m) am_FU (e - 1) 1 (a + 1) ν = _
          have ef : am_FU = (am_FU - t1 - 1) + 1 + t1 := by omega
          rw [ef, p3 _ _ (Int.le_refl _)]
          show M_waysIn_L5_b (M_waysIn m) _ (e - 1) y1 e ν = _
          unfold M_waysIn_L5_b
          rw [if_neg (by omega)]
        have rc2 : M_waysIn (m + 1) (e + 1) (q - 1) ν = some (y2, ν) := by
          show M_waysIn_L5 (M_waysIn m) am_FU (q - 1) 1 (e + 1) ν = _
          have ef : am_FU = (am_FU - t2 - 1) + 1 + t2 := by omega
          rw [ef, r3 _ _ (Int.le_refl _)]
          show M_waysIn_L5_b (M_waysIn m) _ (q - 1) y2 q ν = _
          unfold M_waysIn_L5_b
          rw [if_neg (by omega)]
        show M_waysIn_L5_b (M_waysIn (m + 1)) (M_waysIn_L5 (M_waysIn (m + 1)) (fu + t)) v2 x a ν = _
        unfold M_waysIn_L5_b M_waysIn_B77
        rw [if_pos (by omega), q_ld_s (by omega) (by omega), if_pos kk5, q_ld_s (by omega) (by omega), he8, w32_i (x := a + 1) (by omega) (by omega), w32_i (x := e - 1) (by omega) (by omega), rc1, q_bd_s, q_ld_s (by omega) (by omega), he8, q_ld_s (by omega) (by omega), hq9, w32_i (x := e + 1) (by omega) (by omega), w32_i (x := q - 1) (by omega) (by omega), rc2, q_bd_s, q_ld_s (by omega) (by omega), hq9, w32_i (x := q + 1) (by omega) (by omega)]
/-- over lines that are neither if, else nor end -/
theorem wy_P {b F E x d : Int} {μ ν μ1 : am_M} (h : KD2 b F E μ ν) (m : Nat) (hμ : ∀ c i, c ≠ 51 → c ≠ 53 → μ1 c i = μ c i) : ∀ (n : Nat) (a : Int), F ≤ a → a + n ≤ E → (∀ l, a ≤ l → l < a + n → ν 1002 l ≠ 5 ∧ ν 1002 l ≠ 6 ∧ ν 1002 l ≠ 7) → (∀ fu : Nat, Wy_howMany_L22 (fu + n) b x d E a μ1 = Wy_howMany_L22 fu b x d E (a + n) μ1) ∧ (∀ (fu : Nat) v2, a + n - 1 ≤ v2 → M_waysIn_L5 (M_waysIn m) (fu + n) v2 x a ν = M_waysIn_L5 (M_waysIn m) fu v2 x (a + n) ν)
  | 0, a, hF, hE, _ => by
    have e : a + ((0 : Nat) : Int) = a := by omega
    rw [e]
    exact ⟨fun _ => rfl, fun _ _ _ => rfl⟩
  | n + 1, a, hF, hE, hk => by
    have F0 := h.F0
    have hb' : b = 100 ∨ b = 200 := h.bo
    obtain ⟨g1, g2⟩ := wy_P (x := x) (d := d) h m hμ n (a + 1) (by omega) (by omega) (fun l p q => hk l (by omega) (by omega))
    obtain ⟨k1, k2, k3⟩ := hk a (Int.le_refl _) (by omega)
    have e : a + ((n + 1 : Nat) : Int) = a + 1 + n := by omega
    rw [e]
    refine ⟨fun fu => ?_, fun fu v2 hv => ?_⟩
    · rw [← g1 fu]
      exact hm_line (fu := fu + n) h ⟨hF, by omega⟩ (hμ _ _ (by omega) (by omega)) k1 k2 k3
    · rw [← g2 fu v2 hv]
      show M_waysIn_L5_b (M_waysIn m) (M_waysIn_L5 (M_waysIn m) (fu + n)) v2 x a ν = _
      unfold M_waysIn_L5_b M_waysIn_B77
      rw [if_pos (by omega), q_ld_s (by omega) (by omega), if_neg k1, w32_i (x := a + 1) (by omega) (by omega)]
/-- a bill's parts -/
theorem parts_of {b B W n k : Int} {Wn : Int → Int} {μ ν : am_M} (h : TB b B W n Wn μ ν) (hk : 0 ≤ k ∧ k < B) : BL (wZ b μ ν) 3 (ν 1017 k + ν 1019 k) (ν 1017 k + ν 1018 k - 1) ∧ ν 1002 (ν 1017 k + ν 1018 k - 1) = 8 := by
  obtain ⟨f, m, t, S, σ, e, w⟩ := h.bw k hk.1 hk.2
  have e0 : (0 : Int) + k = k := by omega
  have r15 := w.r15
  have r16 := w.r16
  have r17 := w.r17
  rw [e0] at r15 r16 r17
  have gv := w.gv
  have eg : (0 : Int) + (f + m - 1) = f + m - 1 := by omega
  rw [eg] at gv
  rw [r15.2, r16.2, r17.2]
  exact ⟨wZ_of w.bk, gv⟩
theorem howMany_s {b B W n k : Int} {Wn : Int → Int} {μ ν : am_M} (h : TB b B W n Wn μ ν) (hk : 0 ≤ k ∧ k < B) : ∃ y μ', Wy_howMany b k μ = some (y, μ') ∧ M_waysIn 64 (ν 1017 k) (ν 1017 k + ν 1018 k - 1) ν = some (y, ν) ∧ (∀ c i, c ≠ 51 → c ≠ 53 → μ' c i = μ c i) := by
  have hFU := am_FU_ge
  have bi := BI_of h hk
  have hfn := bi.fn
  have htt := bi.tt
  have hB := h.cB
  have K := KD2_of h hk
  obtain ⟨⟨nb, bk⟩, gv⟩ := parts_of h hk
  generalize hF : ν 1017 k = F at *
  generalize hE' : F + ν 1018 k = E at *
  have et : (((ν 1019 k).toNat : Nat) : Int) = ν 1019 k := by omega
  obtain ⟨g1, g2⟩ := wy_P (x := 1) (d := 0) K 63 (fun _ _ _ _ => rfl) (ν 1019 k).toNat F (Int.le_refl _) (by omega) (fun l p q => by
    have := (bi.tk (l - F) (by omega) (by omega)).1
    have e1 : F + (l - F) = l := by omega
    rw [hF, e1] at this
    omega)
  rw [et] at g1 g2
  obtain ⟨y, μ', t, t1, t2, t3, t4⟩ := wy_B K nb 3 _ _ 63 1 0 μ bk (by decide) (by omega) (by omega) (by omega) (by omega) (fun _ _ _ _ => rfl)
  obtain ⟨j1, j2⟩ := wy_P (x := y) (d := 0) (μ1 := μ') K 63 (fun c i p q => t4.1 c i p q) 1 (E - 1) (by omega) (by omega) (fun l p q => by
    have e1 : l = E - 1 := by omega
    rw [e1, gv]; decide)
  have e1 : E - 1 + ((1 : Nat) : Int) = E := by omega
  rw [e1] at j1 j2
  refine ⟨y, μ', ?_, ?_, t4.1⟩
  · have ef : am_FU = (am_FU - 1 - (E - 1 - (F + ν 1019 k)).toNat - (ν 1019 k).toNat - 1 + 1 + 1 + (E - 1 - (F + ν 1019 k)).toNat) + (ν 1019 k).toNat := by omega
    have hbh := behind_s bi
    rw [hF, hE'] at hbh
    unfold Wy_howMany
    rw [q_gd_s (bO0 h.bo), hbh, q_bd_s, bat15 h.bo, if_pos (by omega), q_bd_s, bi.r15, hF, ef, g1, t2, j1]
    show Wy_howMany_L22_b _ b y 0 E E μ' = _
    unfold Wy_howMany_L22_b
    rw [if_neg (by omega)]
  · have ef : am_FU = (am_FU - 1 - t - (ν 1019 k).toNat - 1 + 1 + 1 + t) + (ν 1019 k).toNat := by omega
    show M_waysIn_L5 (M_waysIn 63) am_FU (E - 1) 1 F ν = _
    rw [ef, g2 _ _ (by omega), t3 _ _ (by omega), j2 _ _ (by omega)]
    show M_waysIn_L5_b (M_waysIn 63) _ (E - 1) y E ν = _
    unfold M_waysIn_L5_b
    rw [if_neg (by omega)]
