/-! The promise of feed. -/
theorem l255 (X : Int) : lAnd X 255 = X % 256 := by
  have h : (Int64.ofInt X &&& Int64.ofInt 255).toBitVec = BitVec.ofNat 64 (X % 256).toNat := by
    rw [Int64.toBitVec_and]
    apply BitVec.eq_of_toNat_eq
    rw [BitVec.toNat_and]
    show (BitVec.ofInt 64 X).toNat &&& 255 = _
    rw [show (255 : Nat) = 2 ^ 8 - 1 from rfl, Nat.and_two_pow_sub_one_eq_mod, BitVec.toNat_ofInt, BitVec.toNat_ofNat]
    omega
  show (Int64.ofInt X &&& Int64.ofInt 255).toBitVec.toInt = _
  rw [h, BitVec.toInt_eq_toNat_of_lt, BitVec.toNat_ofNat]
  · omega
  · rw [BitVec.toNat_ofNat]; omega
theorem a2k (X : Int) (k : Nat) (hk : k ≤ 8) : aAnd X ((2 ^ k - 1 : Nat) : Int) = X % ((2 ^ k : Nat) : Int) := by
  have hp : 2 ^ k ≤ 2 ^ 8 := Nat.pow_le_pow_right (by decide) hk
  have h1 : 0 < 2 ^ k := Nat.pow_pos (by decide)
  have hd : (2 ^ k) ∣ 2 ^ 32 := Nat.pow_dvd_pow 2 (by omega)
  have h : (Int32.ofInt X &&& Int32.ofInt ((2 ^ k - 1 : Nat) : Int)).toBitVec = BitVec.ofNat 32 (X % ((2 ^ k : Nat) : Int)).toNat := by
    rw [Int32.toBitVec_and]
    apply BitVec.eq_of_toNat_eq
    rw [BitVec.toNat_and]
    show (BitVec.ofInt 32 X).toNat &&& (BitVec.ofInt 32 ((2 ^ k - 1 : Nat) : Int)).toNat = _
    have e1 : (BitVec.ofInt 32 ((2 ^ k - 1 : Nat) : Int)).toNat = 2 ^ k - 1 := by
      rw [BitVec.toNat_ofInt]
      have : 2 ^ k ≤ 256 := hp
      omega
    rw [e1, Nat.and_two_pow_sub_one_eq_mod, BitVec.toNat_ofInt, BitVec.toNat_ofNat]
    have e2 : ((X % ((2 ^ 32 : Nat) : Int)).toNat % 2 ^ k : Nat) = (X % ((2 ^ k : Nat) : Int)).toNat := by
      apply Int.ofNat_inj.mp
      rw [Int.natCast_emod, Int.toNat_of_nonneg (Int.emod_nonneg _ (by decide)), Int.toNat_of_nonneg (Int.emod_nonneg _ (by omega)), Int.emod_emod_of_dvd _ (Int.natCast_dvd_natCast.mpr hd)]
    rw [e2]
    have h3 : X % ((2 ^ k : Nat) : Int) < ((2 ^ k : Nat) : Int) := Int.emod_lt_of_pos _ (by omega)
    have : 2 ^ k ≤ 256 := hp
    omega
  have h3 : X % ((2 ^ k : Nat) : Int) < ((2 ^ k : Nat) : Int) := Int.emod_lt_of_pos _ (by omega)
  have h4 : 0 ≤ X % ((2 ^ k : Nat) : Int) := Int.emod_nonneg _ (by omega)
  have : 2 ^ k ≤ 256 := hp
  show (Int32.ofInt X &&& Int32.ofInt ((2 ^ k - 1 : Nat) : Int)).toBitVec.toInt = _
  rw [h, BitVec.toInt_eq_toNat_of_lt, BitVec.toNat_ofNat]
  · omega
  · rw [BitVec.toNat_ofNat]; omega
theorem a255 (X : Int) : aAnd X 255 = X % 256 := a2k X 8 (by decide)
theorem a7 (X : Int) : aAnd X 7 = X % 8 := a2k X 3 (by decide)
/-- both sides read the same byte -/
theorem byte_s (Y : Int) : aAnd (w32 Y) 255 = Y % 256 ∧ w32 (lAnd Y 255) = Y % 256 := by
  rw [a255, l255]
  unfold w32
  omega
def FFC (μ μ' : am_M) : Prop := ∀ c i, ¬ ((c = 10 ∧ i = 2) ∨ c = 11) → μ' c i = μ c i
def FFR (ν ν' : am_M) : Prop := ∀ c i, ¬ ((c = 1000 ∧ i = 1) ∨ c = 1001) → ν' c i = ν c i
theorem TI.add {μ ν : am_M} {v : Int} (h : TI μ ν) (hn : μ 10 2 < 1000) : TI (m_st (m_st μ 11 (μ 10 2) v) 10 2 (μ 10 2 + 1)) (m_st (m_st ν 1001 (μ 10 2) v) 1000 1 (μ 10 2 + 1)) := by
  have h0 := h.n0
  have e : m_st (m_st μ 11 (μ 10 2) v) 10 2 (μ 10 2 + 1) 10 2 = μ 10 2 + 1 := by rw [m_st_d, if_pos ⟨rfl, rfl⟩]
  refine (TI.mk (n0 := by rw [e]; omega) (n1 := by rw [e]; omega) (tp := by rw [e, m_st_d, if_pos ⟨rfl, rfl⟩]) (row := funext fun i => ?_) (res := fun i p q => by rw [m_st_c (by decide), m_st_c (by decide)]; exact h.res i p q))
  refine (m_st_c (by decide)).trans (Eq.trans ?_ (m_st_c (by decide)).symm)
  rw [m_st_d, m_st_d, h.row]
  by_cases z : i = μ 10 2
  · rw [if_pos ⟨rfl, z⟩, if_pos ⟨rfl, z⟩]
  · rw [if_neg (fun y => z y.2), if_neg (fun y => z y.2)]
/-- a word's eight bytes -/
theorem feed_8 {v1 v3 v5 w o : Int} (ho : 0 ≤ o ∧ o ≤ 16) (h8 : o % 8 = 0) (hw : ∀ v, o ≤ v → v < o + 8 → ∀ (g : Nat) (ν : am_M), M_feed_L8 (g + 1) v1 v3 v5 v ν = M_feed_B39 (M_feed_L8 g) v1 v3 v5 v w ν) : ∀ (n f g : Nat) (i : Int) (μ ν : am_M), i + n = 8 → 0 ≤ i → n < f → n ≤ g → TI μ ν → ∃ μ' ν' , ∃ g' : Nat, g ≤ g' + n ∧ Tp_append_L3 f w (56 - 8 * i) μ = some (0, μ') ∧ M_feed_L8 g v1 v3 v5 (o + i) ν = M_feed_L8 g' v1 v3 v5 (o + 8) ν' ∧ TI μ' ν' ∧ FFC μ μ' ∧ FFR ν ν'
  | n, 0, _, _, _, _, _, _, h, _, _ => by omega
  | n + 1, _ + 1, 0, _, _, _, _, _, _, h, _ => by omega
  | 0, f + 1, g, i, μ, ν, hi, h0, _, _, t => by
    have e : i = 8 := by omega
    subst e
    refine ⟨μ, ν, g, by omega, ?_, rfl, t, fun _ _ _ => rfl, fun _ _ _ => rfl⟩
    show Tp_append_L3_b (Tp_append_L3 f) w _ μ = _
    unfold Tp_append_L3_b
    rw [if_pos (by omega)]
  | n + 1, f + 1, g + 1, i, μ, ν, hi, h0, hf, hg, t => by
    have ih := fun (μ1 ν1 : am_M) (t1 : TI μ1 ν1) => feed_8 ho h8 hw n f g (i + 1) μ1 ν1 (by omega) (by omega) (by omega) (by omega) t1
    have e1 : 56 - 8 * (i + 1) = 56 - 8 * i + -8 := by omega
    have e2 : o + (i + 1) = o + i + 1 := by omega
    rw [e1, e2] at ih
    obtain ⟨b1, b2⟩ := byte_s (lUshr w (56 - 8 * i))
    have e0 : Tp_append_L3 (f + 1) w (56 - 8 * i) μ = Tp_append_L3_b (Tp_append_L3 f) w (56 - 8 * i) μ := rfl
    have e3 : (o + i) % 8 = i := by omega
    rw [e0, hw (o + i) (by omega) (by omega)]
    unfold Tp_append_L3_b Tp_append_B38 Tp_append_B42 Tp_append_B43 Tp_append_B85 M_feed_B39 M_feed_B93 M_feed_B114
    rw [if_neg (show ¬ 56 - 8 * i < 0 by omega), a7, e3, w32_i (x := 8 * i) (by omega) (by omega), w32_i (x := 56 - 8 * i) (by omega) (by omega), b1, b2, w32_i (x := 56 - 8 * i + -8) (by omega) (by omega), w32_i (x := o + i + 1) (by omega) (by omega)]
    generalize lUshr w (56 - 8 * i) % 256 = v
    have tn := t.n0
    have tp := t.tp
    have skip : ∃ μ' ν' , ∃ g' : Nat, g + 1 ≤ g' + (n + 1) ∧ Tp_append_L3 f w (56 - 8 * i + -8) μ = some (0, μ') ∧ M_feed_L8 g v1 v3 v5 (o + i + 1) ν = M_feed_L8 g' v1 v3 v5 (o + 8) ν' ∧ TI μ' ν' ∧ FFC μ μ' ∧ FFR ν ν' := by
      obtain ⟨μ', ν', g', a1, a2, a3, a4, a5, a6⟩ := ih μ ν t
      exact ⟨μ', ν', g', by omega, a2, a3, a4, a5, a6⟩
    have ql : ∀ (e : Int) (k : Int → am_O), q_lt e k = k e := fun _ _ => rfl
    rw [ql]
    by_cases full : μ 10 2 < 1000
    · have add : ∃ μ' ν' , ∃ g' : Nat, g + 1 ≤ g' + (n + 1) ∧ (q_bd (X_put 11 (μ 10 2) v μ) fun _ μ2 => q_pf 10 2 (w32 ((μ2 10 2) + 1)) μ2 fun μ3 => Tp_append_L3 f w (56 - 8 * i + -8) μ3) = some (0, μ') ∧ (q_st 1000 1001 (ν 1000 1) v ν fun μ1 => q_pf 1000 1 (w32 ((μ1 1000 1) + 1)) μ1 fun μ2 => M_feed_L8 g v1 v3 v5 (o + i + 1) μ2) = M_feed_L8 g' v1 v3 v5 (o + 8) ν' ∧ TI μ' ν' ∧ FFC μ μ' ∧ FFR ν ν' := by
        obtain ⟨μ', ν', g', a1, a2, a3, a4, a5, a6⟩ := ih _ _ (t.add (v := v) full)
        have q1 : m_st μ 11 (μ 10 2) v 10 2 = μ 10 2 := m_st_c (by decide)
        have q2 : m_st ν 1001 (μ 10 2) v 1000 1 = μ 10 2 := by rw [m_st_c (by decide)]; exact tp
        refine ⟨μ', ν', g', by omega, ?_, ?_, a4, fun c x z => by rw [a5 c x z, m_st_d, if_neg (by omega), m_st_d, if_neg (by omega)], fun c x z => by rw [a6 c x z, m_st_d, if_neg (by omega), m_st_d, if_neg (by omega)]⟩
        · rw [X_put_s (n := 1000) _ _ _ rfl rfl (by decide), if_pos ⟨tn, full⟩, q_bd_s, q1, w32_i (x := μ 10 2 + 1) (by omega) (by omega), q_pf_d, a2]
        · rw [tp, q_st_s tn full, q2, w32_i (x := μ 10 2 + 1) (by omega) (by omega), q_pf_d, a3]
      rw [if_pos full, if_neg (show ¬ (1 : Int) = 0 by decide), if_pos (show (0 : Int) = 0 from rfl), if_pos (show ν 1000 1 < 1000 by omega)]
      by_cases c1 : v = 10
      · rw [if_pos c1, if_pos c1]; exact add
      rw [if_neg c1, if_neg c1]
      by_cases c2 : v < 32
      · rw [if_pos c2, if_pos c2]; exact skip
      rw [if_neg c2, if_neg c2]
      by_cases c3 : v ≤ 126
      · rw [if_pos c3, if_pos c3]; exact add
      · rw [if_neg c3, if_neg c3]; exact skip
    · rw [if_neg full, if_neg (show ¬ (1 : Int) = 0 by decide), if_pos (show (0 : Int) = 0 from rfl), if_neg (show ¬ ν 1000 1 < 1000 by omega)]
      by_cases c1 : v = 10
      · rw [if_pos c1]; exact skip
      rw [if_neg c1]
      by_cases c2 : v < 32
      · rw [if_pos c2]; exact skip
      rw [if_neg c2]
      by_cases c3 : v ≤ 126
      · rw [if_pos c3]; exact skip
      · rw [if_neg c3]; exact skip
theorem feed_p {v1 v3 v5 : Int} {μ ν : am_M} (t : TI μ ν) : ∃ r μ' ν', X_feed v1 v3 v5 μ = some (r, μ') ∧ M_feed v1 v3 v5 ν = some (r, ν') ∧ TI μ' ν' ∧ FFC μ μ' ∧ FFR (m_st ν 1000 0 0) ν' := by
  have hF := am_FU_ge
  have t0 : TI μ (m_st ν 1000 0 0) := (TI.mk (n0 := t.n0) (n1 := t.n1) (tp := by rw [m_st_i (by decide)]; exact t.tp) (row := by rw [← t.row]; rfl) (res := t.res))
  have un : ∀ v (g : Nat) (ν : am_M), v < 24 → M_feed_L8 (g + 1) v1 v3 v5 v ν = (if v < 8 then (M_feed_B39 (M_feed_L8 g) v1 v3 v5 v v1 ν) else (if v < 16 then (M_feed_B39 (M_feed_L8 g) v1 v3 v5 v v3 ν) else (M_feed_B39 (M_feed_L8 g) v1 v3 v5 v v5 ν))) := fun v g ν z => by
    show M_feed_L8_b (M_feed_L8 g) v1 v3 v5 v ν = _
    unfold M_feed_L8_b
    rw [if_pos z]
  obtain ⟨μ1, ν1, g1, a1, a2, a3, a4, a5, a6⟩ := feed_8 (v1 := v1) (v3 := v3) (v5 := v5) (w := v1) (o := 0) (by omega) (by decide) (fun v p q g ν => by rw [un v g ν (by omega), if_pos (by omega)]) 8 am_FU am_FU 0 μ _ (by omega) (by omega) (by omega) (by omega) t0
  obtain ⟨μ2, ν2, g2, b1, b2, b3, b4, b5, b6⟩ := feed_8 (v1 := v1) (v3 := v3) (v5 := v5) (w := v3) (o := 8) (by omega) (by decide) (fun v p q g ν => by rw [un v g ν (by omega), if_neg (by omega), if_pos (by omega)]) 8 am_FU g1 0 μ1 ν1 (by omega) (by omega) (by omega) (by omega) a4
  obtain ⟨μ3, ν3, g3, c1, c2, c3, c4, c5, c6⟩ := feed_8 (v1 := v1) (v3 := v3) (v5 := v5) (w := v5) (o := 16) (by omega) (by decide) (fun v p q g ν => by rw [un v g ν (by omega), if_neg (by omega), if_neg (by omega)]) 8 am_FU g2 0 μ2 ν2 (by omega) (by omega) (by omega) (by omega) b4
  refine ⟨μ3 10 2, μ3, ν3, ?_, ?_, c4, fun c i z => by rw [c5 c i z, b5 c i z, a5 c i z], fun c i z => by rw [c6 c i z, b6 c i z, a6 c i z]⟩
  · have z : ∀ w μ μ', Tp_append_L3 am_FU w (56 - 8 * 0) μ = some (0, μ') → Tp_append w μ = some (0, μ') := fun w μ μ' h => h
    unfold X_feed
    rw [z _ _ _ a2, q_bd_s, z _ _ _ b2, q_bd_s, z _ _ _ c2, q_bd_s]
  · have e : M_feed_L8 am_FU v1 v3 v5 0 (m_st ν 1000 0 0) = M_feed_L8 g3 v1 v3 v5 24 ν3 := by
      have x1 : (0 : Int) + 0 = 0 := rfl
      have x2 : (0 : Int) + 8 = 8 + 0 := rfl
      have x3 : (8 : Int) + 8 = 16 + 0 := rfl
      have x4 : (16 : Int) + 8 = 24 := rfl
      rw [x1, x2] at a3
      rw [x3] at b3
      rw [x4] at c3
      rw [a3, b3, c3]
    unfold M_feed
    rw [q_pf_d, e]
    cases g3 with
    | zero => omega
    | succ g3 =>
      show M_feed_L8_b (M_feed_L8 g3) v1 v3 v5 24 ν3 = _
      unfold M_feed_L8_b
      rw [if_neg (by decide), c4.tp]
