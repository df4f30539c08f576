/-! The promises of ways and reads: the least and the most of lines, of readings. -/
def MSF (d : Int) (μ μ' : am_M) : Prop := (∀ c i, ¬ (c = 50 ∧ (i = 11 ∨ i = 12)) → ¬ (51 ≤ c ∧ c ≤ 54) → μ' c i = μ c i) ∧ ∀ c i, 51 ≤ c → c ≤ 54 → i < d → μ' c i = μ c i
theorem MSF.tr {d d' : Int} {μ μ1 μ2 : am_M} (h : MSF d μ μ1) (h2 : MSF d' μ1 μ2) (hd : d ≤ d') : MSF d μ μ2 := ⟨fun c i p q => by rw [h2.1 c i p q, h.1 c i p q], fun c i p q r => by rw [h2.2 c i p q (by omega), h.2 c i p q r]⟩
/-- told cells as they were -/
def MST (μ μ' : am_M) : Prop := ∀ c i, ¬ (c = 50 ∧ (i = 11 ∨ i = 12)) → ¬ (51 ≤ c ∧ c ≤ 54) → μ' c i = μ c i
def WTl (b F E s l w : Int) (μ ν : am_M) : Prop := (0 ≤ w ∧ w ≤ 1000) ∧ (∀ (k30 : Int → Int → Int → Int → Int → am_M → am_O) d μ1, MST μ μ1 → Wy_measure_L30_b k30 b s d E l μ1 = Wy_measure_B79 k30 b s d E l (ν 1002 l) w μ1) ∧ (∀ (rec : Int → Int → Int → Int → am_M → am_O) (k6 : Int → Int → Int → Int → Int → am_M → am_O) v2 v4 v5, l ≤ v2 → M_haveIn_L6_b rec k6 v2 s v4 v5 l ν = M_haveIn_B43 rec k6 v2 s v4 l v5 w ν) ∧ (ν 1002 l = 6 ∨ ν 1002 l = 7 → w = if s = -1 then 1 else 0)
def WT (b F E s : Int) (μ ν : am_M) : Prop := (KD2 b F E μ ν) ∧ (-1 ≤ s) ∧ (∀ l, F ≤ l → l < E → ∃ w, WTl b F E s l w μ ν)
theorem WT.kd {b F E s : Int} {μ ν : am_M} (h : WT b F E s μ ν) : KD2 b F E μ ν := h.1
theorem WT.s0 {b F E s : Int} {μ ν : am_M} (h : WT b F E s μ ν) : -1 ≤ s := h.2.1
theorem WT.wt {b F E s : Int} {μ ν : am_M} (h : WT b F E s μ ν) : ∀ l, F ≤ l → l < E → ∃ w, WTl b F E s l w μ ν := h.2.2
theorem WT.mk {b F E s : Int} {μ ν : am_M} (kd : KD2 b F E μ ν) (s0 : -1 ≤ s) (wt : ∀ l, F ≤ l → l < E → ∃ w, WTl b F E s l w μ ν) : WT b F E s μ ν := ⟨kd, s0, wt⟩
theorem WT_of {b B W n k s : Int} {Wn : Int → Int} {μ ν : am_M} (h : TB b B W n Wn μ ν) (hk : 0 ≤ k ∧ k < B) (hs : -1 ≤ s ∧ s < 10) : WT b (ν 1017 k) (ν 1017 k + ν 1018 k) s μ ν := by
  have bi := BI_of h hk
  have hfn := bi.fn
  have htt := bi.tt
  have K := KD2_of h hk
  have hW := h.cW
  have hb' : b = 100 ∨ b = 200 := h.bo
  refine (WT.mk (kd := K) (s0 := hs.1) (wt := fun l l0 l1 => ?_))
  obtain ⟨f, m, t, S, σ, e, w⟩ := h.bw k hk.1 hk.2
  have e0 : (0 : Int) + k = k := by omega
  have r15 := w.r15
  have r16 := w.r16
  rw [e0] at r15 r16
  obtain ⟨S', u', a0, a⟩ := h.al l (by omega) (by omega)
  obtain ⟨r, hr⟩ := CKC_of a (by omega) a0 (by omega) h.wv
  have rl := hr.rl
  have el : (0 : Int) + l = l := by omega
  have ne := a.ne
  rw [el] at ne
  have r0 : ν 1002 l = 0 → r = [] := by
    intro z
    have y1 := (ne (by unfold hE; omega)).1
    have y2 : nS (ν 1002 l) u' = 0 := by unfold nS; rw [if_neg (by omega), if_neg (by omega)]
    obtain ⟨C, d1, d2, d3, -⟩ := rl.cl
    have : C = [] := List.length_eq_zero_iff.mp (by omega)
    rw [this] at d3
    exact d3.symm
  have lr : (r.length : Int) ≤ 1000 := by
    obtain ⟨C, d1, d2, d3, -, d5, d6⟩ := rl.cl
    have := nm_len C
    rw [d3] at this
    omega
  have hl : 0 ≤ l ∧ l < 60 := by omega
  have e2 : b + 1 + 1 = b + 2 := by omega
  have kdl := K.kd l l0 l1
  have cl : ∀ (k30 : Int → Int → Int → Int → Int → am_M → am_O) d μ1, MST μ μ1 → Wy_measure_L30_b k30 b s d (ν 1017 k + ν 1018 k) l μ1 = if s = -1 then (if ν 1002 l = 0 then Wy_measure_B79 k30 b s d (ν 1017 k + ν 1018 k) l (ν 1002 l) 0 μ1 else Wy_measure_B79 k30 b s d (ν 1017 k + ν 1018 k) l (ν 1002 l) 1 μ1) else Wy_measure_B79 k30 b s d (ν 1017 k + ν 1018 k) l (ν 1002 l) (cnt s r) μ1 := by
    intro k30 d μ1 hμ
    have g : ∀ c, b ≤ c → c ≤ b + 22 → μ1 c = μ c := fun c p q => funext fun i => hμ c i (by omega) (by omega)
    have rl1 : RL b l r μ1 ν := rl.cg (fun c p q _ => g c (by omega) (by omega)) (fun _ _ _ => rfl)
    unfold Wy_measure_L30_b
    rw [if_pos l1, q_gd_s (bO0 h.bo), q_gd_s (bO2 h.bo), e2, bat2 h.bo, if_pos hl, q_bd_s, g (b + 2) (by omega) (by omega), kdl, (timesRead_s h.bo rl1 hl).2.2 s, q_bd_s]
  by_cases c : s = -1
  · by_cases z : ν 1002 l = 0
    · refine ⟨0, by omega, fun k30 d μ1 hμ => by rw [cl k30 d μ1 hμ, if_pos c, if_pos z], fun rec k6 v2 v4 v5 hv => ?_, fun y => by omega⟩
      unfold M_haveIn_L6_b
      rw [if_pos hv, q_ld_s (by omega) (by omega), if_pos z]
    · refine ⟨1, by omega, fun k30 d μ1 hμ => by rw [cl k30 d μ1 hμ, if_pos c, if_neg z], fun rec k6 v2 v4 v5 hv => ?_, fun y => by rw [if_pos c]⟩
      unfold M_haveIn_L6_b
      rw [if_pos hv, q_ld_s (by omega) (by omega), if_neg z, if_pos (by omega)]
  · have hc := cnt_r s r
    refine ⟨cnt s r, by omega, fun k30 d μ1 hμ => by rw [cl k30 d μ1 hμ, if_neg c], fun rec k6 v2 v4 v5 hv => ?_, fun y => ?_⟩
    · unfold M_haveIn_L6_b
      rw [if_pos hv, q_ld_s (by omega) (by omega)]
      by_cases z : ν 1002 l = 0
      · rw [if_pos z, r0 z]
        rfl
      · rw [if_neg z, if_neg (by omega), readsOf_s rl hl (by omega), q_bd_s]
    · rw [if_neg c, (hr.n0 y).1]
      rfl
/-- one line that is neither if, else nor end -/
theorem ms_line {b F E s l d : Int} {m : Nat} {μ ν μ1 : am_M} (h : WT b F E s μ ν) (hl : F ≤ l ∧ l < E) (hμ : MST μ μ1) (h5 : ν 1002 l ≠ 5) (h6 : ν 1002 l ≠ 6) (h7 : ν 1002 l ≠ 7) (hlo : 0 ≤ μ1 50 11 ∧ μ1 50 11 ≤ 1000000) (hhi : 0 ≤ μ1 50 12 ∧ μ1 50 12 ≤ 1000000) : ∃ μ2, (∀ fu : Nat, Wy_measure_L30 (fu + 1) b s d E l μ1 = Wy_measure_L30 fu b s d E (l + 1) μ2) ∧ (∀ (fu : Nat) v2, l ≤ v2 → M_haveIn_L6 (M_haveIn m) (fu + 1) v2 s 0 (μ1 50 11) l ν = M_haveIn_L6 (M_haveIn m) fu v2 s 0 (μ2 50 11) (l + 1) ν) ∧ (∀ (fu : Nat) v2, l ≤ v2 → M_haveIn_L6 (M_haveIn m) (fu + 1) v2 s 1 (μ1 50 12) l ν = M_haveIn_L6 (M_haveIn m) fu v2 s 1 (μ2 50 12) (l + 1) ν) ∧ (μ1 50 11 ≤ μ2 50 11 ∧ μ2 50 11 ≤ μ1 50 11 + 1000) ∧ (μ1 50 12 ≤ μ2 50 12 ∧ μ2 50 12 ≤ μ1 50 12 + 1000) ∧ (∀ c i, ¬ (c = 50 ∧ (i = 11 ∨ i = 12)) → μ2 c i = μ1 c i) := by
  have F0 := h.kd.F0
  obtain ⟨w, w0, wc, wr, -⟩ := h.wt l hl.1 hl.2
  have v1 : m_st (m_st μ1 50 11 (μ1 50 11 + w)) 50 12 (μ1 50 12 + w) 50 11 = μ1 50 11 + w := by rw [m_st_i (by decide), m_st_d, if_pos ⟨rfl, rfl⟩]
  have v2' : m_st (m_st μ1 50 11 (μ1 50 11 + w)) 50 12 (μ1 50 12 + w) 50 12 = μ1 50 12 + w := by rw [m_st_d, if_pos ⟨rfl, rfl⟩]
  refine ⟨m_st (m_st μ1 50 11 (μ1 50 11 + w)) 50 12 (μ1 50 12 + w), fun fu => ?_, fun fu v2 hv => ?_, fun fu v2 hv => ?_, by rw [v1]; omega, by rw [v2']; omega, fun c i p => by rw [m_st_d, if_neg (by omega), m_st_d, if_neg (by omega)]⟩
  · show Wy_measure_L30_b (Wy_measure_L30 fu) b s d E l μ1 = _
    rw [wc _ _ _ hμ]
    unfold Wy_measure_B79 Wy_measure_B225
    have e : m_st μ1 50 11 (μ1 50 11 + w) 50 12 = μ1 50 12 := m_st_i (by decide)
    rw [q_pf_d, w32_i (x := μ1 50 11 + w) (by omega) (by omega), q_pf_d, e, w32_i (x := μ1 50 12 + w) (by omega) (by omega), if_neg h5, if_neg h6, if_neg h7, w32_i (x := l + 1) (by omega) (by omega)]
  · show M_haveIn_L6_b (M_haveIn m) (M_haveIn_L6 (M_haveIn m) fu) v2 s 0 (μ1 50 11) l ν = _
    rw [wr _ _ _ _ _ hv, v1]
    unfold M_haveIn_B43 M_haveIn_B155
    rw [q_ld_s (by omega) (by omega), if_neg h5, w32_i (x := μ1 50 11 + w) (by omega) (by omega), w32_i (x := l + 1) (by omega) (by omega)]
  · show M_haveIn_L6_b (M_haveIn m) (M_haveIn_L6 (M_haveIn m) fu) v2 s 1 (μ1 50 12) l ν = _
    rw [wr _ _ _ _ _ hv, v2']
    unfold M_haveIn_B43 M_haveIn_B155
    rw [q_ld_s (by omega) (by omega), if_neg h5, w32_i (x := μ1 50 12 + w) (by omega) (by omega), w32_i (x := l + 1) (by omega) (by omega)]
def MSR (b F E s d a z : Int) (m : Nat) (ν μ1 : am_M) : Prop := ∃ μ2, ∃ t : Nat, (t : Int) ≤ z - a ∧ (∀ fu : Nat, Wy_measure_L30 (fu + (z - a).toNat) b s d E a μ1 = Wy_measure_L30 fu b s d E z μ2) ∧ (∀ (fu : Nat) v2, z - 1 ≤ v2 → M_haveIn_L6 (M_haveIn m) (fu + t) v2 s 0 (μ1 50 11) a ν = M_haveIn_L6 (M_haveIn m) fu v2 s 0 (μ2 50 11) z ν) ∧ (∀ (fu : Nat) v2, z - 1 ≤ v2 → M_haveIn_L6 (M_haveIn m) (fu + t) v2 s 1 (μ1 50 12) a ν = M_haveIn_L6 (M_haveIn m) fu v2 s 1 (μ2 50 12) z ν) ∧ (μ1 50 11 ≤ μ2 50 11 ∧ μ2 50 11 ≤ μ1 50 11 + 1001 * (z - a)) ∧ (μ1 50 12 ≤ μ2 50 12 ∧ μ2 50 12 ≤ μ1 50 12 + 1001 * (z - a)) ∧ MSF d μ1 μ2
theorem ms_B {b F E s : Int} {μ ν : am_M} (h : WT b F E s μ ν) : ∀ (n dd : Nat) (a z : Int) (m : Nat) (d : Int) (μ1 : am_M), blk (wZ b μ ν) n dd a z → dd ≤ m → F ≤ a → z ≤ E → 0 ≤ d → d + dd ≤ 3 → MST μ μ1 → (0 ≤ μ1 50 11 ∧ μ1 50 11 + 1001 * (z - a) ≤ 200000) → (0 ≤ μ1 50 12 ∧ μ1 50 12 + 1001 * (z - a) ≤ 200000) → MSR b F E s d a z m ν μ1
  | 0, dd, a, z, m, d, μ1, hb, hm, hF, hz, h0, h3, hμ, hlo, hhi => by
    have hb : a = z := hb
    subst hb
    have e : (a - a).toNat = 0 := by omega
    exact ⟨μ1, 0, by omega, fun fu => by rw [e]; rfl, fun fu v2 _ => rfl, fun fu v2 _ => rfl, by omega, by omega, fun _ _ _ _ => rfl, fun _ _ _ _ _ => rfl⟩
  | n + 1, dd, a, z, m, d, μ1, hb, hm, hF, hz, h0, h3, hμ, hlo, hhi => by
    have hFU := am_FU_ge
    have F0 := h.kd.F0
    have hs0 := h.s0
    have hb' : b = 100 ∨ b = 200 := h.kd.bo
    rcases hb with hb | ⟨b1, b2, b3⟩ | ⟨k5, b2, b3, b4, b5, k6, k7, b8, b9, b10, b11, b12, b13⟩
    · exact ms_B h 0 dd a z m d μ1 hb hm hF hz h0 h3 hμ hlo hhi
    · have kk : 1 ≤ ν 1002 a ∧ ν 1002 a ≤ 4 := b2
      obtain ⟨μ3, l1, l2, l3, l4, l5, l6⟩ := ms_line (d := d) (m := m) h ⟨hF, by omega⟩ hμ (by omega) (by omega) (by omega) (by omega) (by omega)
      obtain ⟨μ2, t, t1, t2, t3, t4, t5, t6, t7⟩ := ms_B h n dd (a + 1) z m d μ3 b3 hm (by omega) hz h0 h3 (fun c i p q => by rw [l6 c i p, hμ c i p q]) (by omega) (by omega)
      refine ⟨μ2, t + 1, by omega, fun fu => ?_, fun fu v2 hv => ?_, fun fu v2 hv => ?_, by omega, by omega, fun c i p q => by rw [t7.1 c i p q, l6 c i p], fun c i p q r => by rw [t7.2 c i p q r, l6 c i (by omega)]⟩
      · have e : fu + (z - a).toNat = fu + (z - (a + 1)).toNat + 1 := by omega
        rw [e, l1]
        exact t2 fu
      · rw [← t3 fu v2 hv]
        exact l2 (fu + t) v2 (by omega)
      · rw [← t4 fu v2 hv]
        exact l3 (fu + t) v2 (by omega)
    · have kk5 : ν 1002 a = 5 := k5
      generalize he : wZ b μ ν 1 a = e at *
      generalize hq : wZ b μ ν 2 a = q at *
      have kk6 : ν 1002 e = 6 := k6
      have kk7 : ν 1002 q = 7 := k7
      have he8 : ν 1008 a = e := he
      have hq9 : ν 1009 a = q := hq
      match m, hm with
      | 0, hm => omega
      | m + 1, hm =>
      obtain ⟨wa, wa0, wac, war, -⟩ := h.wt a hF (by omega)
      obtain ⟨we, we0, wec, -, weu⟩ := h.wt e (by omega) (by omega)
      obtain ⟨wq, wq0, wqc, -, wqu⟩ := h.wt q (by omega) (by omega)
      have weu := weu (Or.inl kk6)
      have wqu := wqu (Or.inr kk7)
      generalize hu : (if s = -1 then (1 : Int) else 0) = u at *
      have u01 : u = 0 ∨ u = 1 := by rw [← hu]; split; exact Or.inr rfl; exact Or.inl rfl
      rw [weu] at wec
      rw [wqu] at wqc
      generalize hlo1 : μ1 50 11 = lo at *
      generalize hhi1 : μ1 50 12 = hi at *
      -- the if
      generalize hA : m_st (m_st (m_st (m_st (m_st (m_st μ1 50 11 (lo + wa)) 50 12 (hi + wa)) 51 d (lo + wa)) 52 d (hi + wa)) 50 11 0) 50 12 0 = A
      have A11 : A 50 11 = 0 := by rw [← hA]; simp [m_st_d]
      have A12 : A 50 12 = 0 := by rw [← hA]; simp [m_st_d]
      have A51 : A 51 d = lo + wa := by rw [← hA]; simp [m_st_d]
      have A52 : A 52 d = hi + wa := by rw [← hA]; simp [m_st_d]
      have fA : ∀ c i, ¬ (c = 50 ∧ (i = 11 ∨ i = 12)) → ¬ (c = 51 ∧ i = d) → ¬ (c = 52 ∧ i = d) → A c i = μ1 c i := fun c i p q r => by rw [← hA, m_st_d, if_neg (by omega), m_st_d, if_neg (by omega), m_st_d, if_neg (by omega), m_st_d, if_neg (by omega), m_st_d, if_neg (by omega), m_st_d, if_neg (by omega)]
      have keep : ∀ (x y j : Int) (μ0 : am_M), 0 ≤ j → j < 3 → (x = 51 ∧ y = 52) ∨ (x = 53 ∧ y = 54) → Wy_keep x y j μ0 = some (0, m_st (m_st (m_st (m_st μ0 x j (μ0 50 11)) y j (μ0 50 12)) 50 11 0) 50 12 0) := by
        intro x y j μ0 j0 j1 hxy
        unfold Wy_keep
        rcases hxy with ⟨x1, x2⟩ | ⟨x1, x2⟩
        · subst x1; subst x2
          rw [X_put_51, if_pos ⟨j0, j1⟩, q_bd_s, X_put_52, if_pos ⟨j0, j1⟩, q_bd_s, q_pf_d, q_pf_d, m_st_c (by decide)]
        · subst x1; subst x2
          rw [X_put_53, if_pos ⟨j0, j1⟩, q_bd_s, X_put_54, if_pos ⟨j0, j1⟩, q_bd_s, q_pf_d, q_pf_d, m_st_c (by decide)]
      have st1 : ∀ g : Nat, Wy_measure_L30 (g + 1) b s d E a μ1 = Wy_measure_L30 g b s (d + 1) E (a + 1) A := fun g => by
        show Wy_measure_L30_b (Wy_measure_L30 g) b s d E a μ1 = _
        rw [wac _ _ _ hμ]
        have e12 : m_st μ1 50 11 (lo + wa) 50 12 = hi := by rw [m_st_i (by decide)]; exact hhi1
        have g11 : m_st (m_st μ1 50 11 (lo + wa)) 50 12 (hi + wa) 50 11 = lo + wa := by rw [m_st_i (by decide), m_st_d, if_pos ⟨rfl, rfl⟩]
        have g12 : m_st (m_st μ1 50 11 (lo + wa)) 50 12 (hi + wa) 50 12 = hi + wa := by rw [m_st_d, if_pos ⟨rfl, rfl⟩]
        unfold Wy_measure_B79 Wy_measure_B225
        rw [q_pf_d, hlo1, w32_i (x := lo + wa) (by omega) (by omega), q_pf_d, e12, w32_i (x := hi + wa) (by omega) (by omega), if_pos kk5, keep 51 52 d _ h0 (by omega) (Or.inl ⟨rfl, rfl⟩), q_bd_s, g11, g12, hA, w32_i (x := d + 1) (by omega) (by omega), w32_i (x := a + 1) (by omega) (by omega)]
      have hμA : MST μ A := fun c i p q => by rw [fA c i p (by omega) (by omega), hμ c i p q]
      -- then
      obtain ⟨μ3, t1, p1, p2, p3, p4, p5, p6, p7⟩ := ms_B h n (dd - 1) (a + 1) e m (d + 1) A b11 (by omega) (by omega) (by omega) (by omega) (by omega) hμA (by omega) (by omega)
      rw [A11] at p3 p5
      rw [A12] at p4 p6
      generalize hl1 : μ3 50 11 = l1 at *
      generalize hh1 : μ3 50 12 = h1 at *
      have hμ3 : MST μ μ3 := fun c i p q => by rw [p7.1 c i p q, hμA c i p q]
      -- the else
      generalize hC : m_st (m_st (m_st (m_st (m_st (m_st μ3 50 11 (l1 + u)) 50 12 (h1 + u)) 53 d (l1 + u)) 54 d (h1 + u)) 50 11 0) 50 12 0 = C
      have C11 : C 50 11 = 0 := by rw [← hC]; simp [m_st_d]
      have C12 : C 50 12 = 0 := by rw [← hC]; simp [m_st_d]
      have C53 : C 53 d = l1 + u := by rw [← hC]; simp [m_st_d]
      have C54 : C 54 d = h1 + u := by rw [← hC]; simp [m_st_d]
      have fC : ∀ c i, ¬ (c = 50 ∧ (i = 11 ∨ i = 12)) → ¬ (c = 53 ∧ i = d) → ¬ (c = 54 ∧ i = d) → C c i = μ3 c i := fun c i p q r => by rw [← hC, m_st_d, if_neg (by omega), m_st_d, if_neg (by omega), m_st_d, if_neg (by omega), m_st_d, if_neg (by omega), m_st_d, if_neg (by omega), m_st_d, if_neg (by omega)]
      have st2 : ∀ g : Nat, Wy_measure_L30 (g + 1) b s (d + 1) E e μ3 = Wy_measure_L30 g b s (d + 1) E (e + 1) C := fun g => by
        show Wy_measure_L30_b (Wy_measure_L30 g) b s (d + 1) E e μ3 = _
        rw [wec _ _ _ hμ3]
        have ed : d + 1 - 1 = d := by omega
        have e12 : m_st μ3 50 11 (l1 + u) 50 12 = h1 := by rw [m_st_i (by decide)]; exact hh1
        have g11 : m_st (m_st μ3 50 11 (l1 + u)) 50 12 (h1 + u) 50 11 = l1 + u := by rw [m_st_i (by decide), m_st_d, if_pos ⟨rfl, rfl⟩]
        have g12 : m_st (m_st μ3 50 11 (l1 + u)) 50 12 (h1 + u) 50 12 = h1 + u := by rw [m_st_d, if_pos ⟨rfl, rfl⟩]
        unfold Wy_measure_B79 Wy_measure_B225
        rw [q_pf_d, hl1, w32_i (x := l1 + u) (by omega) (by omega), q_pf_d, e12, w32_i (x := h1 + u) (by omega) (by omega), if_neg (by omega), if_pos kk6, w32_i (x := d + 1 - 1) (by omega) (by omega), ed, keep 53 54 d _ h0 (by omega) (Or.inr ⟨rfl, rfl⟩), q_bd_s, g11, g12, hC, w32_i (x := e + 1) (by omega) (by omega)]
      have hμC : MST μ C := fun c i p q => by rw [fC c i p (by omega) (by omega), hμ3 c i p q]
      obtain ⟨μ4, t2, r1, r2, r3, r4, r5, r6, r7⟩ := ms_B h n (dd - 1) (e + 1) q m (d + 1) C b12 (by omega) (by omega) (by omega) (by omega) (by omega) hμC (by omega) (by omega)
      rw [C11] at r3 r5
      rw [C12] at r4 r6
      generalize hl2 : μ4 50 11 = l2 at *
      generalize hh2 : μ4 50 12 = h2 at *
      have hμ4 : MST μ μ4 := fun c i p q => by rw [r7.1 c i p q, hμC c i p q]
      have D51 : μ4 51 d = lo + wa := by rw [r7.2 _ _ (by decide) (by decide) (by omega), fC _ _ (by omega) (by omega) (by omega), p7.2 _ _ (by decide) (by decide) (by omega)]; exact A51
      have D52 : μ4 52 d = hi + wa := by rw [r7.2 _ _ (by decide) (by decide) (by omega), fC _ _ (by omega) (by omega) (by omega), p7.2 _ _ (by decide) (by decide) (by omega)]; exact A52
      have D53 : μ4 53 d = l1 + u := by rw [r7.2 _ _ (by decide) (by decide) (by omega)]; exact C53
      have D54 : μ4 54 d = h1 + u := by rw [r7.2 _ _ (by decide) (by decide) (by omega)]; exact C54
      -- the end
      generalize hmin : (if l1 + u < l2 + u then l1 + u else l2 + u) = mn
      generalize hmax : (if h2 + u < h1 + u then h1 + u else h2 + u) = mx
      have hmn : mn = (if l2 < l1 then l2 else l1) + u := by rw [← hmin]; split <;> split <;> omega
      have hmx : mx = (if h1 < h2 then h2 else h1) + u := by rw [← hmax]; split <;> split <;> omega
      have bmn : 0 ≤ mn ∧ mn ≤ l1 + 1 ∨ 0 ≤ mn ∧ mn ≤ l2 + 1 := by rw [← hmin]; split <;> omega
      have bmx : 0 ≤ mx ∧ (mx ≤ h1 + 1 ∨ mx ≤ h2 + 1) := by rw [← hmax]; split <;> omega
      generalize hD : m_st (m_st (m_st (m_st μ4 50 11 (l2 + u)) 50 12 (h2 + u)) 50 11 (lo + wa + mn)) 50 12 (hi + wa + mx) = D
      have D11 : D 50 11 = lo + wa + mn := by rw [← hD]; simp [m_st_d]
      have D12 : D 50 12 = hi + wa + mx := by rw [← hD]; simp [m_st_d]
      have fD : ∀ c i, ¬ (c = 50 ∧ (i = 11 ∨ i = 12)) → D c i = μ4 c i := fun c i p => by rw [← hD, m_st_d, if_neg (by omega), m_st_d, if_neg (by omega), m_st_d, if_neg (by omega), m_st_d, if_neg (by omega)]
      have ql : ∀ (e : Int) (k : Int → am_O), q_lt e k = k e := fun _ _ => rfl
      have st3 : ∀ g : Nat, Wy_measure_L30 (g + 1) b s (d + 1) E q μ4 = Wy_measure_L30 g b s d E (q + 1) D := fun g => by
        show Wy_measure_L30_b (Wy_measure_L30 g) b s (d + 1) E q μ4 = _
        rw [wqc _ _ _ hμ4]
        have ed : d + 1 + -1 = d := by omega
        have e12 : m_st μ4 50 11 (l2 + u) 50 12 = h2 := by rw [m_st_i (by decide)]; exact hh2
        generalize hM : m_st (m_st μ4 50 11 (l2 + u)) 50 12 (h2 + u) = M at *
        have g11 : M 50 11 = l2 + u := by rw [← hM, m_st_i (by decide), m_st_d, if_pos ⟨rfl, rfl⟩]
        have g12 : M 50 12 = h2 + u := by rw [← hM, m_st_d, if_pos ⟨rfl, rfl⟩]
        have gM : ∀ c, c ≠ 50 → M c d = μ4 c d := fun c p => by rw [← hM, m_st_c p, m_st_c p]
        have j12 : m_st M 50 11 (lo + wa + mn) 50 12 = h2 + u := by rw [m_st_i (by decide)]; exact g12
        have jc : ∀ c, c ≠ 50 → m_st M 50 11 (lo + wa + mn) c d = μ4 c d := fun c p => by rw [m_st_c p]; exact gM c p
        have e52 := X_at_52 d (m_st M 50 11 (lo + wa + mn))
        have e54 := X_at_54 d (m_st M 50 11 (lo + wa + mn))
        unfold Wy_measure_B79 Wy_measure_B225
        rw [q_pf_d, hl2, w32_i (x := l2 + u) (by omega) (by omega), q_pf_d, e12, w32_i (x := h2 + u) (by omega) (by omega), hM, if_neg (by omega), if_neg (by omega), if_pos kk7, w32_i (x := d + 1 + -1) (by omega) (by omega), ed, X_at_51, if_pos (by omega), q_bd_s, X_at_53, if_pos (by omega), q_bd_s, ql, g11, gM 51 (by decide), gM 53 (by decide), D51, D53, hmin, w32_i (x := lo + wa + mn) (by omega) (by omega), q_pf_d, e52, if_pos (by omega), q_bd_s, e54, if_pos (by omega), q_bd_s, ql, j12, jc 52 (by decide), jc 54 (by decide), D52, D54, hmax, w32_i (x := hi + wa + mx) (by omega) (by omega), q_pf_d, hD, w32_i (x := q + 1) (by omega) (by omega)]
      have hμD : MST μ D := fun c i p q => by rw [fD c i p, hμ4 c i p q]
      -- behind
      obtain ⟨μ2, t, s1, s2, s3, s4, s5, s6, s7⟩ := ms_B h n dd (q + 1) z (m + 1) d D b13 hm (by omega) hz h0 h3 hμD (by rw [D11]; omega) (by rw [D12]; omega)
      rw [D11] at s3 s5
      rw [D12] at s4 s6
      have hall : MSF d μ1 D := ⟨fun c i p q => by rw [hμD c i p q, hμ c i p q], fun c i p q r => by rw [fD c i (by omega), r7.2 c i p q (by omega), fC c i (by omega) (by omega) (by omega), p7.2 c i p q (by omega), fA c i (by omega) (by omega) (by omega)]⟩
      have rc : ∀ (v4 x1 x2 : Int), (∀ (fu : Nat) v2, e - 1 ≤ v2 → M_haveIn_L6 (M_haveIn m) (fu + t1) v2 s v4 0 (a + 1) ν = M_haveIn_L6 (M_haveIn m) fu v2 s v4 x1 e ν) → (∀ (fu : Nat) v2, q - 1 ≤ v2 → M_haveIn_L6 (M_haveIn m) (fu + t2) v2 s v4 0 (e + 1) ν = M_haveIn_L6 (M_haveIn m) fu v2 s v4 x2 q ν) → M_haveIn (m + 1) (a + 1) (e - 1) s v4 ν = some (x1, ν) ∧ M_haveIn (m + 1) (e + 1) (q - 1) s v4 ν = some (x2, ν) := by
        intro v4 x1 x2 g1 g2
        constructor
        · show M_haveIn_L6 (M_haveIn m) am_FU (e - 1) s v4 0 (a + 1) ν = _
          have ef : am_FU = (am_FU - t1 - 1) + 1 + t1 := by omega
          rw [ef, g1 _ _ (Int.le_refl _)]
          show M_haveIn_L6_b (M_haveIn m) _ (e - 1) s v4 x1 e ν = _
          unfold M_haveIn_L6_b
          rw [if_neg (by omega)]
        · show M_haveIn_L6 (M_haveIn m) am_FU (q - 1) s v4 0 (e + 1) ν = _
          have ef : am_FU = (am_FU - t2 - 1) + 1 + t2 := by omega
          rw [ef, g2 _ _ (Int.le_refl _)]
          show M_haveIn_L6_b (M_haveIn m) _ (q - 1) s v4 x2 q ν = _
          unfold M_haveIn_L6_b
          rw [if_neg (by omega)]
      obtain ⟨ra1, ra2⟩ := rc 0 l1 l2 p3 r3
      obtain ⟨rb1, rb2⟩ := rc 1 h1 h2 p4 r4
      have b133 : ∀ (v4 x y v2 : Int) (g : Nat), 0 ≤ x → x ≤ 400000 → 0 ≤ y → y ≤ 400000 → M_haveIn_B133 (M_haveIn (m + 1)) (M_haveIn_L6 (M_haveIn (m + 1)) g) v2 s v4 a x y ν = M_haveIn_L6 (M_haveIn (m + 1)) g v2 s v4 (x + (y + u)) (q + 1) ν := by
        intro v4 x y v2 g x0 x1 y0 y1
        unfold M_haveIn_B133 M_haveIn_B142 M_haveIn_B155
        by_cases c : s < 0
        · have : u = 1 := by rw [← hu, if_pos (by omega)]
          rw [if_pos c, this, q_ld_s (by omega) (by omega), hq9, w32_i (x := q + 1) (by omega) (by omega), w32_i (x := y + 1) (by omega) (by omega), w32_i (x := x + (y + 1)) (by omega) (by omega)]
        · have : u = 0 := by rw [← hu, if_neg (by omega)]
          rw [if_neg c, this, q_ld_s (by omega) (by omega), hq9, w32_i (x := q + 1) (by omega) (by omega), w32_i (x := y + 0) (by omega) (by omega), w32_i (x := x + (y + 0)) (by omega) (by omega)]
      refine ⟨μ2, t + 1, by omega, fun fu => ?_, fun fu v2 hv => ?_, fun fu v2 hv => ?_, ?_, ?_, hall.tr s7 (Int.le_refl _)⟩
      · rw [← s2 fu]
        have eu : fu + (z - a).toNat = fu + (z - (q + 1)).toNat + 1 + (q - (e + 1)).toNat + 1 + (e - (a + 1)).toNat + 1 := by omega
        rw [eu, st1, p2, st2, r2, st3]
      · rw [← s3 fu v2 hv]
        show M_haveIn_L6_b (M_haveIn (m + 1)) (M_haveIn_L6 (M_haveIn (m + 1)) (fu + t)) v2 s 0 (μ1 50 11) a ν = _
        rw [hlo1, war _ _ _ _ _ (by omega)]
        unfold M_haveIn_B43
        rw [q_ld_s (by omega) (by omega), if_pos kk5, q_ld_s (by omega) (by omega), he8, w32_i (x := a + 1) (by omega) (by omega), w32_i (x := e - 1) (by omega) (by omega), ra1, q_bd_s, q_ld_s (by omega) (by omega), he8, q_ld_s (by omega) (by omega), hq9, w32_i (x := e + 1) (by omega) (by omega), w32_i (x := q - 1) (by omega) (by omega), ra2, q_bd_s, if_pos rfl, ql, w32_i (x := lo + wa) (by omega) (by omega), b133 _ _ _ _ _ (by omega) (by omega) (by split <;> omega) (by split <;> omega), ← hmn]
      · rw [← s4 fu v2 hv]
        show M_haveIn_L6_b (M_haveIn (m + 1)) (M_haveIn_L6 (M_haveIn (m + 1)) (fu + t)) v2 s 1 (μ1 50 12) a ν = _
        rw [hhi1, war _ _ _ _ _ (by omega)]
        unfold M_haveIn_B43
        rw [q_ld_s (by omega) (by omega), if_pos kk5, q_ld_s (by omega) (by omega), he8, w32_i (x := a + 1) (by omega) (by omega), w32_i (x := e - 1) (by omega) (by omega), rb1, q_bd_s, q_ld_s (by omega) (by omega), he8, q_ld_s (by omega) (by omega), hq9, w32_i (x := e + 1) (by omega) (by omega), w32_i (x := q - 1) (by omega) (by omega), rb2, q_bd_s, if_neg (by decide), ql, w32_i (x := hi + wa) (by omega) (by omega), b133 _ _ _ _ _ (by omega) (by omega) (by split <;> omega) (by split <;> omega), ← hmx]
      · rw [hlo1]; omega
      · rw [hhi1]; omega
