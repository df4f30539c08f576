/-! Sets as bits. -/
def tb (x s : Int) : Bool := (Int32.ofInt x).toBitVec.getLsbD s.toNat
theorem tb_and (x y s : Int) : tb (aAnd x y) s = (tb x s && tb y s) := by
  unfold tb aAnd
  rw [Int32.ofInt_toInt, Int32.toBitVec_and, BitVec.getLsbD_and]
theorem tb_or (x y s : Int) : tb (aOr x y) s = (tb x s || tb y s) := by
  unfold tb aOr
  rw [Int32.ofInt_toInt, Int32.toBitVec_or, BitVec.getLsbD_or]
theorem tb_xor (x y s : Int) : tb (aXor x y) s = (tb x s ^^ tb y s) := by
  unfold tb aXor
  rw [Int32.ofInt_toInt, Int32.toBitVec_xor, BitVec.getLsbD_xor]
theorem tb_m1 {s : Int} (h0 : 0 ≤ s) (h : s < 32) : tb (-1) s = true := by
  have : ∀ n : Fin 32, (Int32.ofInt (-1)).toBitVec.getLsbD n.val = true := by decide
  have := this ⟨s.toNat, by omega⟩
  exact this
theorem tb_not {x s : Int} (h0 : 0 ≤ s) (h : s < 32) : tb (aXor x (-1)) s = !tb x s := by
  rw [tb_xor, tb_m1 h0 h, Bool.xor_true]
theorem tb_shl {v s : Int} (hv : 0 ≤ v) (hv2 : v < 31) (h0 : 0 ≤ s) (h : s < 32) : tb (aShl 1 v) s = decide (s = v) := by
  have : ∀ n : Fin 31, ∀ m : Fin 32, tb (aShl 1 (n.val : Int)) (m.val : Int) = decide (m.val = n.val) := by decide +kernel
  have := this ⟨v.toNat, by omega⟩ ⟨s.toNat, by omega⟩
  have e1 : ((v.toNat : Nat) : Int) = v := by omega
  have e2 : ((s.toNat : Nat) : Int) = s := by omega
  simp only [e1, e2] at this
  rw [this]
  exact decide_eq_decide.mpr (by omega)
theorem tb_0 (s : Int) : tb 0 s = false := by
  unfold tb
  have : (Int32.ofInt 0).toBitVec = 0#32 := rfl
  rw [this, BitVec.getLsbD_zero]
theorem tb_ext {x y : Int} (hx : r32 x) (hy : r32 y) (h : ∀ s : Int, 0 ≤ s → s < 32 → tb x s = tb y s) : x = y := by
  have e : Int32.ofInt x = Int32.ofInt y := by
    apply Int32.toBitVec_inj.mp
    apply BitVec.eq_of_getLsbD_eq
    intro i hi
    have := h (i : Int) (by omega) (by omega)
    unfold tb at this
    have e : ((i : Int)).toNat = i := by omega
    rw [e] at this
    exact this
  have := congrArg Int32.toInt e
  rw [r32_to hx, r32_to hy] at this
  exact this
theorem aAnd_r (x y : Int) : r32 (aAnd x y) := r32_i _
theorem aOr_r (x y : Int) : r32 (aOr x y) := r32_i _
theorem aXor_r (x y : Int) : r32 (aXor x y) := r32_i _
theorem aShl_r (x y : Int) : r32 (aShl x y) := r32_i _
/-- a set of ten -/
def S10 (x : Int) : Prop := 0 ≤ x ∧ x < 1024
theorem S10_r {x : Int} (h : S10 x) : r32 x := ⟨by have := h.1; omega, by have := h.2; omega⟩
theorem tb_nat {x s : Int} (h : S10 x) : tb x s = x.toNat.testBit s.toNat := by
  obtain ⟨h0, h1⟩ := h
  unfold tb
  have e : (Int32.ofInt x).toBitVec.toNat = x.toNat := by
    have e1 : ((x.toNat : Nat) : Int) = x := by omega
    rw [← e1]
    show (BitVec.ofInt 32 ((x.toNat : Nat) : Int)).toNat = _
    rw [BitVec.toNat_ofInt]
    omega
  rw [BitVec.getLsbD, e]
theorem S10_of {x : Int} (hx : r32 x) (h : ∀ s : Int, 10 ≤ s → s < 32 → tb x s = false) : S10 x := by
  have e : x = ((x.toNat % 1024 : Nat) : Int) ∨ True := Or.inr trivial
  -- x is the number of its ten lower bits
  let y : Int := (((Int32.ofInt x).toBitVec.toNat % 1024 : Nat) : Int)
  have hy : S10 y := ⟨by show 0 ≤ (((Int32.ofInt x).toBitVec.toNat % 1024 : Nat) : Int); omega, by show (((Int32.ofInt x).toBitVec.toNat % 1024 : Nat) : Int) < 1024; omega⟩
  have : x = y := by
    refine tb_ext hx (S10_r hy) (fun s h0 h1 => ?_)
    rw [tb_nat hy]
    have ey : y.toNat = (Int32.ofInt x).toBitVec.toNat % 2 ^ 10 := by show (((Int32.ofInt x).toBitVec.toNat % 1024 : Nat) : Int).toNat = _; omega
    rw [ey, Nat.testBit_mod_two_pow]
    by_cases c : s < 10
    · have : s.toNat < 10 := by omega
      rw [decide_eq_true this, Bool.true_and]
      rfl
    · have : ¬ s.toNat < 10 := by omega
      rw [decide_eq_false this, Bool.false_and]
      exact h s (by omega) h1
  rw [this]; exact hy
theorem S10_hi {x s : Int} (h : S10 x) (hs : 10 ≤ s) : tb x s = false := by
  rw [tb_nat h]
  apply Nat.testBit_lt_two_pow
  have : x.toNat < 2 ^ 10 := by have := h.2; omega
  exact Nat.lt_of_lt_of_le this (Nat.pow_le_pow_right (by decide) (by omega))
theorem S10_ext {x y : Int} (hx : S10 x) (hy : S10 y) (h : ∀ s : Int, 0 ≤ s → s < 10 → tb x s = tb y s) : x = y := by
  refine tb_ext (S10_r hx) (S10_r hy) (fun s h0 h1 => ?_)
  by_cases c : s < 10
  · exact h s h0 c
  · rw [S10_hi hx (by omega), S10_hi hy (by omega)]
theorem S10_and {x y : Int} (h : S10 x) : S10 (aAnd x y) := S10_of (aAnd_r _ _) (fun s h0 h1 => by rw [tb_and, S10_hi h h0, Bool.false_and])
theorem S10_or {x y : Int} (h : S10 x) (h' : S10 y) : S10 (aOr x y) := S10_of (aOr_r _ _) (fun s h0 h1 => by rw [tb_or, S10_hi h h0, S10_hi h' h0]; rfl)
theorem S10_xor {x y : Int} (h : S10 x) (h' : S10 y) : S10 (aXor x y) := S10_of (aXor_r _ _) (fun s h0 h1 => by rw [tb_xor, S10_hi h h0, S10_hi h' h0]; rfl)
theorem S10_shl {v : Int} (h0 : 0 ≤ v) (h1 : v < 10) : S10 (aShl 1 v) := S10_of (aShl_r _ _) (fun s a b => by rw [tb_shl h0 (by omega) (by omega) b]; exact decide_eq_false (by omega))
theorem S10_0 : S10 0 := ⟨by decide, by decide⟩
/-- a test of one bit -/
theorem bit_1 {x v : Int} (hv : 0 ≤ v) (hv2 : v < 31) : aAnd (aShr x v) 1 = if tb x v = true then 1 else 0 := by
  have hs : ∀ n : Nat, n < 31 → ∀ b : Int32, b >>> (Int32.ofInt (n : Int) &&& 31) = b >>> (Int32.ofInt (n : Int)) := by
    intro n hn b
    have : Int32.ofInt (n : Int) &&& 31 = Int32.ofInt (n : Int) := by
      have : ∀ n : Fin 31, Int32.ofInt (n.val : Int) &&& 31 = Int32.ofInt (n.val : Int) := by decide +kernel
      exact this ⟨n, hn⟩
    rw [this]
  refine tb_ext (aAnd_r _ _) (by split <;> (unfold r32; omega)) (fun s h0 h1 => ?_)
  rw [tb_and]
  have e1 : tb 1 s = decide (s = 0) := by
    have : ∀ m : Fin 32, tb 1 (m.val : Int) = decide (m.val = 0) := by decide +kernel
    have := this ⟨s.toNat, by omega⟩
    have e2 : ((s.toNat : Nat) : Int) = s := by omega
    simp only [e2] at this
    rw [this]
    exact decide_eq_decide.mpr (by omega)
  by_cases c : s = 0
  · subst c
    rw [e1]
    have e3 : tb (aShr x v) 0 = tb x v := by
      unfold tb aShr
      rw [Int32.ofInt_toInt]
      have ev : ((v.toNat : Nat) : Int) = v := by omega
      have hsv := hs v.toNat (by omega) (Int32.ofInt x)
      rw [ev] at hsv
      rw [hsv, Int32.toBitVec_shiftRight]
      have em : (Int32.ofInt v).toBitVec.smod 32 = BitVec.ofNat 32 v.toNat := by
        have : ∀ n : Fin 31, (Int32.ofInt (n.val : Int)).toBitVec.smod 32 = BitVec.ofNat 32 n.val := by decide +kernel
        have := this ⟨v.toNat, by omega⟩
        simp only [ev] at this
        exact this
      rw [em]
      show (BitVec.sshiftRight (Int32.ofInt x).toBitVec (BitVec.ofNat 32 v.toNat).toNat).getLsbD (Int.toNat 0) = _
      rw [BitVec.getLsbD_sshiftRight]
      have e5 : (BitVec.ofNat 32 v.toNat).toNat = v.toNat := by rw [BitVec.toNat_ofNat]; omega
      rw [e5]
      have e6 : (Int.toNat 0) = 0 := rfl
      rw [e6]
      have e7 : ¬ (32 ≤ 0) := by decide
      simp [show v.toNat < 32 by omega]
    rw [e3, decide_eq_true rfl, Bool.and_true]
    cases hb : tb x v with
    | true => rw [if_pos rfl]; rfl
    | false => rw [if_neg (by decide), tb_0]
  · rw [e1, decide_eq_false c, Bool.and_false]
    split
    · rw [e1, decide_eq_false c]
    · rw [tb_0]
theorem bit_0 {x v : Int} (hv : 0 ≤ v) (hv2 : v < 31) : aAnd (aShr x v) 1 = 0 ↔ tb x v = false := by
  rw [bit_1 hv hv2]
  cases hb : tb x v with
  | true => rw [if_pos rfl]; simp
  | false => rw [if_neg (by decide)]; simp
theorem S10_zero {x : Int} (h : S10 x) : x = 0 ↔ ∀ s : Int, 0 ≤ s → s < 10 → tb x s = false := by
  constructor
  · intro z s _ _; rw [z, tb_0]
  · intro z; exact S10_ext h S10_0 (fun s a b => by rw [z s a b, tb_0])
