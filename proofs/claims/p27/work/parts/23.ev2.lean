/-! The evaluator's operations, further on; its memory; its steps. -/
theorem sh_32 {n : Nat} (h : n ≤ 31) : (Int32.ofInt (n : Int) &&& 31).toBitVec.smod 32 = BitVec.ofNat 32 n := by
  have : ∀ i : Fin 32, (Int32.ofInt (i.val : Int) &&& 31).toBitVec.smod 32 = BitVec.ofNat 32 i.val := by decide +kernel
  exact this ⟨n, by omega⟩
theorem sh_64 {n : Nat} (h : n ≤ 63) : ((Int32.ofInt (n : Int)).toInt64 &&& 63).toBitVec.smod 64 = BitVec.ofNat 64 n := by
  have : ∀ i : Fin 64, ((Int32.ofInt (i.val : Int)).toInt64 &&& 63).toBitVec.smod 64 = BitVec.ofNat 64 i.val := by decide +kernel
  exact this ⟨n, by omega⟩
theorem of_32 {m : Nat} (h : m < 4294967296) : (Int32.ofInt (m : Int)).toBitVec.toNat = m := by
  show (BitVec.ofInt 32 (m : Int)).toNat = m
  rw [BitVec.toNat_ofInt]
  omega
theorem of_64 {m : Nat} (h : m < 18446744073709551616) : (Int64.ofInt (m : Int)).toBitVec.toNat = m := by
  show (BitVec.ofInt 64 (m : Int)).toNat = m
  rw [BitVec.toNat_ofInt]
  omega
theorem eI6_s {z : Int64} {n : Nat} (h : z.toBitVec.toNat = n) : z.toInt = w64 (n : Int) := by
  show z.toBitVec.toInt = _
  have h2 := z.toBitVec.isLt
  rw [BitVec.toInt_eq_toNat_cond, h]
  rw [h] at h2
  unfold w64
  split <;> omega
theorem shl_s {m n : Nat} (hm : m < 2147483648) (hn : n ≤ 31) : aShl (m : Int) (n : Int) = w32 (((m <<< n) % 4294967296 : Nat) : Int) := by
  refine eI_s ?_
  rw [Int32.toBitVec_shiftLeft, sh_32 hn, BitVec.shiftLeft_eq', BitVec.toNat_shiftLeft, of_32 (by omega), BitVec.toNat_ofNat, Nat.mod_eq_of_lt (show n < 2 ^ 32 by omega)]
theorem shr_s {m n : Nat} (hm : m < 2147483648) (hn : n ≤ 31) : aShr (m : Int) (n : Int) = ((m >>> n : Nat) : Int) := by
  show (Int32.ofInt (m : Int) >>> (Int32.ofInt (n : Int) &&& 31)).toBitVec.toInt = _
  rw [Int32.toBitVec_shiftRight, sh_32 hn, BitVec.sshiftRight', BitVec.toInt_sshiftRight, BitVec.toNat_ofNat, Nat.mod_eq_of_lt (show n < 2 ^ 32 by omega)]
  have : (Int32.ofInt (m : Int)).toBitVec.toInt = (m : Int) := r32_to (x := (m : Int)) (by unfold r32; omega)
  rw [this]
  rfl
theorem vr_shl {c x y : Int} {a b : Nat} (ha : vr c a x) (hb : vr c b y) : vr c (eShl a b) (aShl x y) := by
  unfold eShl
  cases h : eN2 a b with
  | false => exact vr_0
  | true =>
    rw [eB_t rfl]
    obtain ⟨m, n, rfl, rfl, hm, hn, rfl, rfl⟩ := eN2_s h ha hb
    rw [eOfs, eOfs]
    cases h2 : Nat.ble n 31 with
    | false => exact vr_0
    | true =>
      rw [eB_t rfl, shl_s hm (Nat.le_of_ble_eq_true h2)]
      refine Or.inr (eW_s ?_)
      show ((m <<< n + 2147483648 : Nat) : Int) % 4294967296 = _
      omega
theorem vr_shr {c x y : Int} {a b : Nat} (ha : vr c a x) (hb : vr c b y) : vr c (eShr a b) (aShr x y) := by
  unfold eShr
  cases h : eN2 a b with
  | false => exact vr_0
  | true =>
    rw [eB_t rfl]
    obtain ⟨m, n, rfl, rfl, hm, hn, rfl, rfl⟩ := eN2_s h ha hb
    rw [eOfs, eOfs]
    cases h2 : Nat.ble n 31 with
    | false => exact vr_0
    | true =>
      rw [eB_t rfl, shr_s hm (Nat.le_of_ble_eq_true h2)]
      have : m >>> n ≤ m := Nat.shiftRight_le m n
      refine vr_k ?_ ?_
      · show m >>> n + 9223372036854775809 < _
        omega
      · show _ = ((m >>> n + 9223372036854775809 : Nat) : Int) - _
        omega
theorem ushr_s {m n : Nat} (hm : m < 2147483648) (hn : n ≤ 31) : aUshr (m : Int) (n : Int) = ((m >>> n : Nat) : Int) := by
  have e1 : (Int32.ofInt (m : Int)).toUInt32.toNat = m := of_32 (by omega)
  have e2 : ((Int32.ofInt (n : Int)).toUInt32 &&& Int32.toUInt32 31).toNat = n := by
    have : ∀ i : Fin 32, ((Int32.ofInt (i.val : Int)).toUInt32 &&& Int32.toUInt32 31).toNat = i.val := by decide +kernel
    exact this ⟨n, by omega⟩
  have e3 : ((Int32.ofInt (m : Int)).toUInt32 >>> ((Int32.ofInt (n : Int)).toUInt32 &&& Int32.toUInt32 31)).toNat = m >>> n := by
    rw [UInt32.toNat_shiftRight, e1, e2, Nat.mod_eq_of_lt (show n < 32 by omega)]
  have : m >>> n ≤ m := Nat.shiftRight_le m n
  refine (eI_s (n := m >>> n) e3).trans ?_
  exact w32_id (by unfold r32; omega)
theorem vr_ushr {c x y : Int} {a b : Nat} (ha : vr c a x) (hb : vr c b y) : vr c (eShr a b) (aUshr x y) := by
  unfold eShr
  cases h : eN2 a b with
  | false => exact vr_0
  | true =>
    rw [eB_t rfl]
    obtain ⟨m, n, rfl, rfl, hm, hn, rfl, rfl⟩ := eN2_s h ha hb
    rw [eOfs, eOfs]
    cases h2 : Nat.ble n 31 with
    | false => exact vr_0
    | true =>
      rw [eB_t rfl, ushr_s hm (Nat.le_of_ble_eq_true h2)]
      have : m >>> n ≤ m := Nat.shiftRight_le m n
      refine vr_k ?_ ?_
      · show m >>> n + 9223372036854775809 < _
        omega
      · show _ = ((m >>> n + 9223372036854775809 : Nat) : Int) - _
        omega
theorem bm32 {q : Int} (h : r32 q) : q.bmod (2 ^ 32) = q := by
  have e := r32_to h
  rw [Int32.toInt_ofInt] at e
  exact e
theorem div_s {m n : Nat} (hm : m < 2147483648) (hn : n < 2147483648) : aDiv (m : Int) (n : Int) = ((m / n : Nat) : Int) := by
  unfold aDiv
  rw [Int32.toInt_div, r32_to (by unfold r32; omega), r32_to (by unfold r32; omega), Int.tdiv_eq_ediv_of_nonneg (by omega), ← Int.natCast_ediv]
  have h1 : m / n ≤ m := Nat.div_le_self m n
  generalize m / n = q at h1 ⊢
  exact bm32 (by unfold r32; omega)
theorem rem_s {m n : Nat} (hm : m < 2147483648) (hn : n < 2147483648) : aRem (m : Int) (n : Int) = ((m % n : Nat) : Int) := by
  have hd := div_s hm hn
  unfold aDiv at hd
  unfold aRem
  rw [Int32.toInt_sub, Int32.toInt_mul, hd, r32_to (by unfold r32; omega), r32_to (by unfold r32; omega)]
  have h1 : m / n * n + m % n = m := Nat.div_add_mod' m n
  have h2 : ((m / n : Nat) : Int) * (n : Int) = ((m / n * n : Nat) : Int) := (Int.natCast_mul _ _).symm
  have h3 : m / n * n ≤ m := Nat.div_mul_le_self m n
  have h4 : m % n ≤ m := Nat.mod_le m n
  rw [h2]
  generalize m / n * n = p at h1 h3 ⊢
  generalize m % n = r at h1 h4 ⊢
  rw [bm32 (q := (p : Int)) (by unfold r32; omega), bm32 (by unfold r32; omega)]
  omega
noncomputable def eDiv (a b : Nat) : Nat := eB (eN2 a b) (Nat.add (Nat.div (Nat.sub a 9223372036854775809) (Nat.sub b 9223372036854775809)) 9223372036854775809) 0
noncomputable def eRem (a b : Nat) : Nat := eB (eN2 a b) (Nat.add (Nat.mod (Nat.sub a 9223372036854775809) (Nat.sub b 9223372036854775809)) 9223372036854775809) 0
theorem vr_div {c x y : Int} {a b : Nat} (ha : vr c a x) (hb : vr c b y) : vr c (eDiv a b) (aDiv x y) := by
  unfold eDiv
  cases h : eN2 a b with
  | false => exact vr_0
  | true =>
    rw [eB_t rfl]
    obtain ⟨m, n, rfl, rfl, hm, hn, rfl, rfl⟩ := eN2_s h ha hb
    rw [eOfs, eOfs, div_s hm hn]
    have : m / n ≤ m := Nat.div_le_self m n
    refine vr_k ?_ ?_
    · show m / n + 9223372036854775809 < _
      omega
    · show _ = ((m / n + 9223372036854775809 : Nat) : Int) - _
      omega
theorem vr_rem {c x y : Int} {a b : Nat} (ha : vr c a x) (hb : vr c b y) : vr c (eRem a b) (aRem x y) := by
  unfold eRem
  cases h : eN2 a b with
  | false => exact vr_0
  | true =>
    rw [eB_t rfl]
    obtain ⟨m, n, rfl, rfl, hm, hn, rfl, rfl⟩ := eN2_s h ha hb
    rw [eOfs, eOfs, rem_s hm hn]
    have : m % n ≤ m := Nat.mod_le m n
    refine vr_k ?_ ?_
    · show m % n + 9223372036854775809 < _
      omega
    · show _ = ((m % n + 9223372036854775809 : Nat) : Int) - _
      omega
/-! longs, not below 0 -/
noncomputable def eN6 (a b : Nat) : Bool := eB (eB (Nat.ble 9223372036854775809 a) (Nat.ble a 18446744073709551616) false) (eB (Nat.ble 9223372036854775809 b) (Nat.ble b 18446744073709551616) false) false
theorem eN6_s {c x y : Int} {a b : Nat} (h : eN6 a b = true) (ha : vr c a x) (hb : vr c b y) : ∃ m n : Nat, a = m + 9223372036854775809 ∧ b = n + 9223372036854775809 ∧ m < 9223372036854775808 ∧ n < 9223372036854775808 ∧ x = (m : Int) ∧ y = (n : Int) := by
  obtain ⟨h1, h2⟩ := eB_and h
  obtain ⟨h1, h3⟩ := eB_and h1
  obtain ⟨h2, h4⟩ := eB_and h2
  have h1 := Nat.le_of_ble_eq_true h1
  have h2 := Nat.le_of_ble_eq_true h2
  have h3 := Nat.le_of_ble_eq_true h3
  have h4 := Nat.le_of_ble_eq_true h4
  have e1 := vr_use ha (by omega) (by omega)
  have e2 := vr_use hb (by omega) (by omega)
  exact ⟨a - 9223372036854775809, b - 9223372036854775809, by omega, by omega, by omega, by omega, by omega, by omega⟩
noncomputable def eOr6 (a b : Nat) : Nat := eB (eN6 a b) (Nat.add (Nat.mod (Nat.add (Nat.lor (Nat.sub a 9223372036854775809) (Nat.sub b 9223372036854775809)) 9223372036854775808) 18446744073709551616) 1) 0
noncomputable def eShl6 (a b : Nat) : Nat := eB (eN6 a b) (eB (Nat.ble (Nat.sub b 9223372036854775809) 63) (Nat.add (Nat.mod (Nat.add (Nat.shiftLeft (Nat.sub a 9223372036854775809) (Nat.sub b 9223372036854775809)) 9223372036854775808) 18446744073709551616) 1) 0) 0
noncomputable def eShr6 (a b : Nat) : Nat := eB (eN6 a b) (eB (Nat.ble (Nat.sub b 9223372036854775809) 63) (Nat.add (Nat.shiftRight (Nat.sub a 9223372036854775809) (Nat.sub b 9223372036854775809)) 9223372036854775809) 0) 0
theorem vr_or6 {c x y : Int} {a b : Nat} (ha : vr c a x) (hb : vr c b y) : vr c (eOr6 a b) (lOr x y) := by
  unfold eOr6
  cases h : eN6 a b with
  | false => exact vr_0
  | true =>
    rw [eB_t rfl]
    obtain ⟨m, n, rfl, rfl, hm, hn, rfl, rfl⟩ := eN6_s h ha hb
    rw [eOfs, eOfs]
    have e : lOr (m : Int) (n : Int) = w64 ((m ||| n : Nat) : Int) := by
      refine eI6_s ?_
      rw [Int64.toBitVec_or, BitVec.toNat_or, of_64 (by omega), of_64 (by omega)]
    rw [e]
    refine Or.inr (eW6_s ?_)
    show (((m ||| n) + 9223372036854775808 : Nat) : Int) % 18446744073709551616 = _
    omega
theorem vr_shl6 {c x y : Int} {a b : Nat} (ha : vr c a x) (hb : vr c b y) : vr c (eShl6 a b) (lShl x y) := by
  unfold eShl6
  cases h : eN6 a b with
  | false => exact vr_0
  | true =>
    rw [eB_t rfl]
    obtain ⟨m, n, rfl, rfl, hm, hn, rfl, rfl⟩ := eN6_s h ha hb
    rw [eOfs, eOfs]
    cases h2 : Nat.ble n 63 with
    | false => exact vr_0
    | true =>
      have hn' := Nat.le_of_ble_eq_true h2
      have e : lShl (m : Int) (n : Int) = w64 (((m <<< n) % 18446744073709551616 : Nat) : Int) := by
        refine eI6_s ?_
        rw [Int64.toBitVec_shiftLeft, sh_64 hn', BitVec.shiftLeft_eq', BitVec.toNat_shiftLeft, of_64 (by omega), BitVec.toNat_ofNat, Nat.mod_eq_of_lt (show n < 2 ^ 64 by omega)]
      rw [eB_t rfl, e]
      refine Or.inr (eW6_s ?_)
      show ((m <<< n + 9223372036854775808 : Nat) : Int) % 18446744073709551616 = _
      omega
theorem vr_shr6 {c x y : Int} {a b : Nat} (ha : vr c a x) (hb : vr c b y) : vr c (eShr6 a b) (lUshr x y) := by
  unfold eShr6
  cases h : eN6 a b with
  | false => exact vr_0
  | true =>
    rw [eB_t rfl]
    obtain ⟨m, n, rfl, rfl, hm, hn, rfl, rfl⟩ := eN6_s h ha hb
    rw [eOfs, eOfs]
    cases h2 : Nat.ble n 63 with
    | false => exact vr_0
    | true =>
      have hn' := Nat.le_of_ble_eq_true h2
      have e1 : (Int64.ofInt (m : Int)).toUInt64.toNat = m := of_64 (by omega)
      have e2 : ((Int32.ofInt (n : Int)).toInt64.toUInt64 &&& Int64.toUInt64 63).toNat = n := by
        have : ∀ i : Fin 64, ((Int32.ofInt (i.val : Int)).toInt64.toUInt64 &&& Int64.toUInt64 63).toNat = i.val := by decide +kernel
        exact this ⟨n, by omega⟩
      have e3 : ((Int64.ofInt (m : Int)).toUInt64 >>> ((Int32.ofInt (n : Int)).toInt64.toUInt64 &&& Int64.toUInt64 63)).toNat = m >>> n := by
        rw [UInt64.toNat_shiftRight, e1, e2, Nat.mod_eq_of_lt (show n < 64 by omega)]
      have h5 : m >>> n ≤ m := Nat.shiftRight_le m n
      have e : lUshr (m : Int) (n : Int) = ((m >>> n : Nat) : Int) := (eI6_s (n := m >>> n) e3).trans (w64_id (by unfold r64; omega))
      rw [eB_t rfl, e]
      refine vr_k ?_ ?_
      · show m >>> n + 9223372036854775809 < _
        omega
      · show _ = ((m >>> n + 9223372036854775809 : Nat) : Int) - _
        omega
noncomputable def eCmp (a b : Nat) : Nat := eB (eK2 a b) (eB (Nat.ble (Nat.succ a) b) 9223372036854775808 (eB (Nat.beq a b) 9223372036854775809 9223372036854775810)) 0
theorem vr_cmp {c x y : Int} {a b : Nat} (ha : vr c a x) (hb : vr c b y) : vr c (eCmp a b) (lCmp x y) := by
  unfold eCmp
  cases h : eK2 a b with
  | false => exact vr_0
  | true =>
    rw [eB_t rfl]
    obtain ⟨⟨h1, h2⟩, h3, h4⟩ := eK2_s h
    have e1 := vr_use ha h1 h2
    have e2 := vr_use hb h3 h4
    unfold lCmp
    cases q : Nat.ble (Nat.succ a) b with
    | true =>
      have := Nat.le_of_ble_eq_true q
      rw [eB_t rfl, if_pos (by omega)]
      exact vr_k (by decide) (by decide)
    | false =>
      have hlt : ¬ x < y := fun z => by
        have : Nat.ble (Nat.succ a) b = true := Nat.ble_eq_true_of_le (by omega)
        rw [q] at this; cases this
      rw [eB_f rfl, if_neg hlt]
      cases r : Nat.beq a b with
      | true =>
        have := Nat.eq_of_beq_eq_true r
        rw [eB_t rfl, if_pos (by omega)]
        exact vr_k (by decide) (by decide)
      | false =>
        have := Nat.ne_of_beq_eq_false r
        rw [eB_f rfl, if_neg (by omega)]
        exact vr_k (by decide) (by decide)
/-- the greater, the lesser -/
noncomputable def eMax (a b : Nat) : Nat := eB (eK2 a b) (eB (Nat.ble (Nat.succ a) b) b a) 0
noncomputable def eMin (a b : Nat) : Nat := eB (eK2 a b) (eB (Nat.ble (Nat.succ b) a) b a) 0
theorem vr_max {c x y : Int} {a b : Nat} (ha : vr c a x) (hb : vr c b y) : vr c (eMax a b) (if x < y then y else x) := by
  unfold eMax
  cases h : eK2 a b with
  | false => exact vr_0
  | true =>
    rw [eB_t rfl]
    obtain ⟨⟨h1, h2⟩, h3, h4⟩ := eK2_s h
    have e1 := vr_use ha h1 h2
    have e2 := vr_use hb h3 h4
    cases q : Nat.ble (Nat.succ a) b with
    | true =>
      have := Nat.le_of_ble_eq_true q
      rw [eB_t rfl, if_pos (by omega)]
      exact hb
    | false =>
      have hlt : ¬ x < y := fun z => by
        have : Nat.ble (Nat.succ a) b = true := Nat.ble_eq_true_of_le (by omega)
        rw [q] at this; cases this
      rw [eB_f rfl, if_neg hlt]
      exact ha
theorem vr_min {c x y : Int} {a b : Nat} (ha : vr c a x) (hb : vr c b y) : vr c (eMin a b) (if y < x then y else x) := by
  unfold eMin
  cases h : eK2 a b with
  | false => exact vr_0
  | true =>
    rw [eB_t rfl]
    obtain ⟨⟨h1, h2⟩, h3, h4⟩ := eK2_s h
    have e1 := vr_use ha h1 h2
    have e2 := vr_use hb h3 h4
    cases q : Nat.ble (Nat.succ b) a with
    | true =>
      have := Nat.le_of_ble_eq_true q
      rw [eB_t rfl, if_pos (by omega)]
      exact hb
    | false =>
      have hlt : ¬ y < x := fun z => by
        have : Nat.ble (Nat.succ b) a = true := Nat.ble_eq_true_of_le (by omega)
        rw [q] at this; cases this
      rw [eB_f rfl, if_neg hlt]
      exact ha
noncomputable def eOf (a n : Nat) : Nat := eB (Nat.ble 1 a) (eB (Nat.ble (Nat.add a n) 1180591620717411303423) (Nat.add a n) 0) 0
theorem vr_of (n : Nat) {c x m : Int} {a : Nat} (hm : m = (n : Int)) (ha : vr c a x) : vr c (eOf a n) (x + m) := by
  unfold eOf
  cases h : Nat.ble 1 a with
  | false => exact vr_0
  | true =>
    rw [eB_t rfl]
    cases h2 : Nat.ble (Nat.add a n) 1180591620717411303423 with
    | false => exact vr_0
    | true =>
      rw [eB_t rfl]
      have h3 := Nat.le_of_ble_eq_true h
      have h4 := Nat.le_of_ble_eq_true h2
      have h4 : a + n ≤ 1180591620717411303423 := h4
      have e1 := vr_use ha (by omega) (by omega)
      refine vr_k (show a + n < _ by omega) ?_
      show _ = ((a + n : Nat) : Int) - _
      omega
