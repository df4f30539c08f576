/-! An evaluator: numbers as codes (0: not known; below 2^70: known; from there on: linear in one unknown, modulo 2^32), memory as a tree of what is known. What it says holds of the functions. -/
abbrev e_T : Type := Lean.RArray Nat
abbrev e_O : Type := Option (Nat × e_T)
noncomputable def eB {α : Type} (c : Bool) (a b : α) : α := Bool.rec b a c
noncomputable def eF (n : Nat) (f : Nat → e_O) : e_O := Nat.rec (f 0) (fun m _ => f (Nat.succ m)) n
noncomputable def e_bd (r : e_O) (k : Nat → e_T → e_O) : e_O := Option.rec none (fun q => eF q.1 (fun v => k v q.2)) r
theorem eB_t {α : Type} {c : Bool} {a b : α} (h : c = true) : eB c a b = a := by subst h; rfl
theorem eB_f {α : Type} {c : Bool} {a b : α} (h : c = false) : eB c a b = b := by subst h; rfl
theorem eF_d (n : Nat) (f : Nat → e_O) : eF n f = f n := by cases n <;> rfl
theorem eB_and {a b : Bool} (h : eB a b false = true) : a = true ∧ b = true := by
  cases a with
  | false => cases h
  | true => exact ⟨rfl, h⟩
theorem eB_some {c : Bool} {A : e_O} {q : Nat × e_T} (h : eB c A none = some q) : c = true ∧ A = some q := by
  cases c with
  | false => cases h
  | true => exact ⟨rfl, h⟩
/-- what a code stands for -/
def eD (c : Int) (a : Nat) : Int := if a < 1180591620717411303424 then (a : Int) - 9223372036854775809 else w32 ((((a / 1180591620717411303424 : Nat) : Int) - 1) * c + ((a % 1180591620717411303424 : Nat) : Int) - 2147483648)
def vr (c : Int) (a : Nat) (x : Int) : Prop := a = 0 ∨ x = eD c a
theorem vr_0 {c x : Int} : vr c 0 x := Or.inl rfl
theorem eD_k {c : Int} {a : Nat} (h : a < 1180591620717411303424) : eD c a = (a : Int) - 9223372036854775809 := if_pos h
theorem vr_k {c : Int} {a : Nat} {x : Int} (h : a < 1180591620717411303424) (hx : x = (a : Int) - 9223372036854775809) : vr c a x := Or.inr (by rw [eD_k h]; exact hx)
theorem vr_use {c : Int} {a : Nat} {x : Int} (h : vr c a x) (h0 : 0 < a) (h1 : a < 1180591620717411303424) : x = (a : Int) - 9223372036854775809 := by
  rcases h with h | h
  · omega
  · rw [h, eD_k h1]
noncomputable def eK1 (a : Nat) : Bool := eB (Nat.ble 1 a) (Nat.ble a 1180591620717411303423) false
noncomputable def eK2 (a b : Nat) : Bool := eB (Nat.ble 1 (Nat.mul a b)) (Nat.ble (Nat.add a b) 1180591620717411303423) false
theorem eK1_s {a : Nat} (h : eK1 a = true) : 0 < a ∧ a < 1180591620717411303424 := by
  obtain ⟨h1, h2⟩ := eB_and h
  have h1 := Nat.le_of_ble_eq_true h1
  have h2 := Nat.le_of_ble_eq_true h2
  omega
theorem eM_s {a b : Nat} (h : Nat.ble 1 (Nat.mul a b) = true) : 0 < a ∧ 0 < b := by
  have h1 := Nat.le_of_ble_eq_true h
  have h1 : 1 ≤ a * b := h1
  constructor
  · cases a with
    | zero => rw [Nat.zero_mul] at h1; omega
    | succ n => omega
  · cases b with
    | zero => rw [Nat.mul_zero] at h1; omega
    | succ n => omega
theorem eK2_s {a b : Nat} (h : eK2 a b = true) : (0 < a ∧ a < 1180591620717411303424) ∧ 0 < b ∧ b < 1180591620717411303424 := by
  obtain ⟨h1, h2⟩ := eB_and h
  have h2 := Nat.le_of_ble_eq_true h2
  have h2 : a + b ≤ 1180591620717411303423 := h2
  have := eM_s h1
  omega
theorem eW_s {c : Int} {n : Nat} {z : Int} (h : ((n : Nat) : Int) % 4294967296 = (z + 2147483648) % 4294967296) : w32 z = eD c (Nat.add (Nat.mod n 4294967296) 9223372034707292161) := by
  show w32 z = eD c (n % 4294967296 + 9223372034707292161)
  rw [eD_k (by omega)]
  unfold w32
  omega
theorem eW6_s {c : Int} {n : Nat} {z : Int} (h : ((n : Nat) : Int) % 18446744073709551616 = (z + 9223372036854775808) % 18446744073709551616) : w64 z = eD c (Nat.add (Nat.mod n 18446744073709551616) 1) := by
  show w64 z = eD c (n % 18446744073709551616 + 1)
  rw [eD_k (by omega)]
  unfold w64
  omega
theorem w32_c {x y k : Int} (h : x = y + 4294967296 * k) : w32 x = w32 y := by
  unfold w32
  omega
theorem w32_ex (x : Int) : ∃ k : Int, w32 x = x + 4294967296 * k := ⟨-((x + 2147483648) / 4294967296), by unfold w32; omega⟩
/-! linear codes -/
noncomputable def ePA (a : Nat) : Nat := eB (Nat.ble a 1180591620717411303423) 0 (Nat.sub (Nat.div a 1180591620717411303424) 1)
noncomputable def ePB (a : Nat) : Nat := eB (Nat.ble a 1180591620717411303423) (Nat.mod (Nat.add a 2147483647) 4294967296) (Nat.mod a 1180591620717411303424)
noncomputable def eMk (p q : Nat) : Nat := Nat.add (Nat.mul (Nat.add (Nat.mod p 4294967296) 1) 1180591620717411303424) (Nat.mod q 4294967296)
theorem eP_s {c x : Int} {a : Nat} (h : vr c a x) (h0 : 0 < a) : ∃ k : Int, x = (ePA a : Int) * c + (ePB a : Int) - 2147483648 + 4294967296 * k := by
  have hx : x = eD c a := h.resolve_left (by omega)
  unfold ePA ePB
  by_cases q : a ≤ 1180591620717411303423
  · rw [eB_t (Nat.ble_eq_true_of_le q), eB_t (Nat.ble_eq_true_of_le q)]
    rw [eD_k (by omega)] at hx
    refine ⟨(x - (((a + 2147483647) % 4294967296 : Nat) : Int) + 2147483648) / 4294967296, ?_⟩
    show x = ((0 : Nat) : Int) * c + (((a + 2147483647) % 4294967296 : Nat) : Int) - 2147483648 + _
    rw [show ((0 : Nat) : Int) * c = 0 from Int.zero_mul c]
    omega
  · have hb : Nat.ble a 1180591620717411303423 = false := by
      cases e : Nat.ble a 1180591620717411303423 with
      | false => rfl
      | true => exact absurd (Nat.le_of_ble_eq_true e) q
    rw [eB_f hb, eB_f hb]
    unfold eD at hx
    rw [if_neg (by omega)] at hx
    obtain ⟨k, hk⟩ := w32_ex ((((a / 1180591620717411303424 : Nat) : Int) - 1) * c + ((a % 1180591620717411303424 : Nat) : Int) - 2147483648)
    refine ⟨k, ?_⟩
    rw [hx, hk]
    have : ((Nat.sub (Nat.div a 1180591620717411303424) 1 : Nat) : Int) = ((a / 1180591620717411303424 : Nat) : Int) - 1 := by
      show ((a / 1180591620717411303424 - 1 : Nat) : Int) = _
      omega
    rw [this]
    rfl
theorem eMk_s {c x k : Int} {p q : Nat} (h : x = (p : Int) * c + (q : Int) - 2147483648 + 4294967296 * k) : w32 x = eD c (eMk p q) := by
  have e0 : eMk p q = (p % 4294967296 + 1) * 1180591620717411303424 + q % 4294967296 := rfl
  have d1 : eMk p q / 1180591620717411303424 = p % 4294967296 + 1 := by rw [e0]; omega
  have d2 : eMk p q % 1180591620717411303424 = q % 4294967296 := by rw [e0]; omega
  unfold eD
  rw [if_neg (by rw [e0]; omega), d1, d2]
  have ep : ((p % 4294967296 + 1 : Nat) : Int) - 1 = (p : Int) - 4294967296 * ((p / 4294967296 : Nat) : Int) := by omega
  have eq : ((q % 4294967296 : Nat) : Int) = (q : Int) - 4294967296 * ((q / 4294967296 : Nat) : Int) := by omega
  rw [ep, eq]
  refine w32_c (k := k + ((p / 4294967296 : Nat) : Int) * c + ((q / 4294967296 : Nat) : Int)) ?_
  rw [h, Int.sub_mul, Int.mul_add, Int.mul_add, Int.mul_assoc]
  omega
noncomputable def eAdd (a b : Nat) : Nat := eB (eK2 a b) (Nat.add (Nat.mod (Nat.add (Nat.add a b) 2147483646) 4294967296) 9223372034707292161) (eB (Nat.ble 1 (Nat.mul a b)) (eMk (Nat.add (ePA a) (ePA b)) (Nat.add (Nat.add (ePB a) (ePB b)) 2147483648)) 0)
noncomputable def eSub (a b : Nat) : Nat := eB (eK2 a b) (Nat.add (Nat.mod (Nat.sub (Nat.add a 1180591620719558787072) b) 4294967296) 9223372034707292161) (eB (Nat.ble 1 (Nat.mul a b)) (eMk (Nat.add (ePA a) (Nat.mul 4294967295 (ePA b))) (Nat.add (Nat.add (ePB a) (Nat.mul 4294967295 (ePB b))) 2147483648)) 0)
noncomputable def eMul (a b : Nat) : Nat := eB (eK2 a b) (Nat.add (Nat.mod (Nat.add (Nat.mul (Nat.add a 4294967295) (Nat.add b 4294967295)) 2147483648) 4294967296) 9223372034707292161) (eB (eK1 b) (eB (Nat.ble 1 a) (eMk (Nat.mul (ePA a) (Nat.add b 4294967295)) (Nat.add (Nat.mul (Nat.add (ePB a) 2147483648) (Nat.add b 4294967295)) 2147483648)) 0) 0)
theorem vr_add {c x y : Int} {a b : Nat} (ha : vr c a x) (hb : vr c b y) : vr c (eAdd a b) (w32 (x + y)) := by
  unfold eAdd
  cases h : eK2 a b with
  | true =>
    rw [eB_t rfl]
    obtain ⟨⟨h1, h2⟩, h3, h4⟩ := eK2_s h
    have e1 := vr_use ha h1 h2
    have e2 := vr_use hb h3 h4
    refine Or.inr (eW_s ?_)
    show ((a + b + 2147483646 : Nat) : Int) % 4294967296 = _
    omega
  | false =>
    rw [eB_f rfl]
    cases h2 : Nat.ble 1 (Nat.mul a b) with
    | false => exact vr_0
    | true =>
      rw [eB_t rfl]
      obtain ⟨p1, p2⟩ := eM_s h2
      obtain ⟨k1, e1⟩ := eP_s ha p1
      obtain ⟨k2, e2⟩ := eP_s hb p2
      refine Or.inr (eMk_s (k := k1 + k2 - 1) ?_)
      show x + y = ((ePA a + ePA b : Nat) : Int) * c + ((ePB a + ePB b + 2147483648 : Nat) : Int) - 2147483648 + 4294967296 * (k1 + k2 - 1)
      rw [e1, e2, Int.natCast_add, Int.add_mul]
      omega
theorem vr_sub {c x y : Int} {a b : Nat} (ha : vr c a x) (hb : vr c b y) : vr c (eSub a b) (w32 (x - y)) := by
  unfold eSub
  cases h : eK2 a b with
  | true =>
    rw [eB_t rfl]
    obtain ⟨⟨h1, h2⟩, h3, h4⟩ := eK2_s h
    have e1 := vr_use ha h1 h2
    have e2 := vr_use hb h3 h4
    refine Or.inr (eW_s ?_)
    show ((a + 1180591620719558787072 - b : Nat) : Int) % 4294967296 = _
    omega
  | false =>
    rw [eB_f rfl]
    cases h2 : Nat.ble 1 (Nat.mul a b) with
    | false => exact vr_0
    | true =>
      rw [eB_t rfl]
      obtain ⟨p1, p2⟩ := eM_s h2
      obtain ⟨k1, e1⟩ := eP_s ha p1
      obtain ⟨k2, e2⟩ := eP_s hb p2
      refine Or.inr (eMk_s (k := k1 - k2 - (ePA b : Int) * c - (ePB b : Int)) ?_)
      show x - y = ((ePA a + 4294967295 * ePA b : Nat) : Int) * c + ((ePB a + 4294967295 * ePB b + 2147483648 : Nat) : Int) - 2147483648 + 4294967296 * (k1 - k2 - (ePA b : Int) * c - (ePB b : Int))
      rw [e1, e2, Int.natCast_add, Int.natCast_mul, Int.add_mul, Int.mul_assoc]
      omega
theorem w32_mul (A B t : Int) : w32 ((A - 4294967296 * t) * (B - 4294967296 * t)) = w32 (A * B) := by
  refine w32_c (k := 4294967296 * (t * t) - t * B - t * A) ?_
  grind
theorem vr_mul {c x y : Int} {a b : Nat} (ha : vr c a x) (hb : vr c b y) : vr c (eMul a b) (w32 (x * y)) := by
  unfold eMul
  cases h : eK2 a b with
  | true =>
    rw [eB_t rfl]
    obtain ⟨⟨h1, h2⟩, h3, h4⟩ := eK2_s h
    have e1 := vr_use ha h1 h2
    have e2 := vr_use hb h3 h4
    have f1 : x = ((a + 4294967295 : Nat) : Int) - 4294967296 * 2147483649 := by omega
    have f2 : y = ((b + 4294967295 : Nat) : Int) - 4294967296 * 2147483649 := by omega
    rw [f1, f2, w32_mul]
    refine Or.inr (eW_s ?_)
    show (((a + 4294967295) * (b + 4294967295) + 2147483648 : Nat) : Int) % 4294967296 = _
    rw [Int.natCast_add, Int.natCast_mul]
    rfl
  | false =>
    rw [eB_f rfl]
    cases h2 : eK1 b with
    | false => exact vr_0
    | true =>
      rw [eB_t rfl]
      cases h3 : Nat.ble 1 a with
      | false => exact vr_0
      | true =>
        rw [eB_t rfl]
        have p1 : 0 < a := Nat.le_of_ble_eq_true h3
        obtain ⟨p2, p3⟩ := eK1_s h2
        obtain ⟨k1, e1⟩ := eP_s ha p1
        have e2 := vr_use hb p2 p3
        have f2 : y = ((b + 4294967295 : Nat) : Int) - 4294967296 * 2147483649 := by omega
        obtain ⟨B, hB⟩ : ∃ B : Nat, B = b + 4294967295 := ⟨_, rfl⟩
        rw [← hB] at f2
        show vr c (eMk (ePA a * (b + 4294967295)) ((ePB a + 2147483648) * (b + 4294967295) + 2147483648)) (w32 (x * y))
        rw [← hB]
        refine Or.inr (eMk_s (k := k1 * y - 2147483649 * ((ePA a : Int) * c) - 2147483649 * (ePB a : Int) + 2147483649 * 2147483648 - (B : Int)) ?_)
        have q1 : ((ePA a * B : Nat) : Int) = (ePA a : Int) * (B : Int) := Int.natCast_mul _ _
        have q2 : (((ePB a + 2147483648) * B + 2147483648 : Nat) : Int) = ((ePB a : Int) + 2147483648) * (B : Int) + 2147483648 := by rw [Int.natCast_add, Int.natCast_mul, Int.natCast_add]; rfl
        rw [q1, q2, e1, f2]
        generalize (ePA a : Int) = pa
        generalize (ePB a : Int) = pb
        generalize (B : Int) = w
        grind
noncomputable def eW32 (a : Nat) : Nat := eB (eK1 a) (Nat.add (Nat.mod (Nat.add a 2147483647) 4294967296) 9223372034707292161) 0
theorem vr_w32 {c x : Int} {a : Nat} (ha : vr c a x) : vr c (eW32 a) (w32 x) := by
  unfold eW32
  cases h : eK1 a with
  | false => exact vr_0
  | true =>
    rw [eB_t rfl]
    obtain ⟨h1, h2⟩ := eK1_s h
    have e1 := vr_use ha h1 h2
    refine Or.inr (eW_s ?_)
    show ((a + 2147483647 : Nat) : Int) % 4294967296 = _
    omega
noncomputable def eAdd6 (a b : Nat) : Nat := eB (eK2 a b) (Nat.add (Nat.mod (Nat.add (Nat.add a b) 9223372036854775806) 18446744073709551616) 1) 0
noncomputable def eSub6 (a b : Nat) : Nat := eB (eK2 a b) (Nat.add (Nat.mod (Nat.sub (Nat.add a 1189814992754266079232) b) 18446744073709551616) 1) 0
noncomputable def eMul6 (a b : Nat) : Nat := eB (eK2 a b) (Nat.add (Nat.mod (Nat.add (Nat.mul (Nat.add a 9223372036854775807) (Nat.add b 9223372036854775807)) 9223372036854775808) 18446744073709551616) 1) 0
theorem vr_add6 {c x y : Int} {a b : Nat} (ha : vr c a x) (hb : vr c b y) : vr c (eAdd6 a b) (w64 (x + y)) := by
  unfold eAdd6
  cases h : eK2 a b with
  | false => exact vr_0
  | true =>
    rw [eB_t rfl]
    obtain ⟨⟨h1, h2⟩, h3, h4⟩ := eK2_s h
    have e1 := vr_use ha h1 h2
    have e2 := vr_use hb h3 h4
    refine Or.inr (eW6_s ?_)
    show ((a + b + 9223372036854775806 : Nat) : Int) % 18446744073709551616 = _
    omega
theorem vr_sub6 {c x y : Int} {a b : Nat} (ha : vr c a x) (hb : vr c b y) : vr c (eSub6 a b) (w64 (x - y)) := by
  unfold eSub6
  cases h : eK2 a b with
  | false => exact vr_0
  | true =>
    rw [eB_t rfl]
    obtain ⟨⟨h1, h2⟩, h3, h4⟩ := eK2_s h
    have e1 := vr_use ha h1 h2
    have e2 := vr_use hb h3 h4
    refine Or.inr (eW6_s ?_)
    show ((a + 1189814992754266079232 - b : Nat) : Int) % 18446744073709551616 = _
    omega
theorem vr_mul6 {c x y : Int} {a b : Nat} (ha : vr c a x) (hb : vr c b y) : vr c (eMul6 a b) (w64 (x * y)) := by
  unfold eMul6
  cases h : eK2 a b with
  | false => exact vr_0
  | true =>
    rw [eB_t rfl]
    obtain ⟨⟨h1, h2⟩, h3, h4⟩ := eK2_s h
    have e1 := vr_use ha h1 h2
    have e2 := vr_use hb h3 h4
    refine Or.inr (eW6_s ?_)
    show (((a + 9223372036854775807) * (b + 9223372036854775807) + 9223372036854775808 : Nat) : Int) % 18446744073709551616 = _
    have q2 : (((a + 9223372036854775807) * (b + 9223372036854775807) + 9223372036854775808 : Nat) : Int) = ((a : Int) + 9223372036854775807) * ((b : Int) + 9223372036854775807) + 9223372036854775808 := by rw [Int.natCast_add, Int.natCast_mul, Int.natCast_add, Int.natCast_add]; rfl
    rw [e1, e2, q2]
    generalize (a : Int) = u
    generalize (b : Int) = w
    have : (u + 9223372036854775807) * (w + 9223372036854775807) + 9223372036854775808 = (u - 9223372036854775809) * (w - 9223372036854775809) + 9223372036854775808 + 18446744073709551616 * (u + w - 2) := by grind
    rw [this]
    omega
/-! bits: of what is not below 0, and not too large -/
noncomputable def eU (a : Nat) : Nat := Nat.mod (Nat.add a 4294967295) 4294967296
theorem eU_s {x : Int} {a : Nat} (h : x = (a : Int) - 9223372036854775809) : (Int32.ofInt x).toBitVec.toNat = eU a := by
  show (BitVec.ofInt 32 x).toNat = (a + 4294967295) % 4294967296
  rw [BitVec.toNat_ofInt]
  omega
theorem eI_s {z : Int32} {n : Nat} (h : z.toBitVec.toNat = n) : z.toInt = w32 (n : Int) := by
  show z.toBitVec.toInt = _
  have h2 := z.toBitVec.isLt
  rw [BitVec.toInt_eq_toNat_cond, h]
  rw [h] at h2
  unfold w32
  split <;> omega
theorem eUc {c : Int} {n : Nat} {z : Int} (h : z = w32 (n : Int)) : vr c (Nat.add (Nat.mod (Nat.add n 2147483648) 4294967296) 9223372034707292161) z := by
  rw [h]
  refine Or.inr (eW_s ?_)
  show ((n + 2147483648 : Nat) : Int) % 4294967296 = _
  omega
noncomputable def eAnd (a b : Nat) : Nat := eB (eK2 a b) (Nat.add (Nat.mod (Nat.add (Nat.land (eU a) (eU b)) 2147483648) 4294967296) 9223372034707292161) 0
noncomputable def eOr (a b : Nat) : Nat := eB (eK2 a b) (Nat.add (Nat.mod (Nat.add (Nat.lor (eU a) (eU b)) 2147483648) 4294967296) 9223372034707292161) 0
noncomputable def eXor (a b : Nat) : Nat := eB (eK2 a b) (Nat.add (Nat.mod (Nat.add (Nat.xor (eU a) (eU b)) 2147483648) 4294967296) 9223372034707292161) 0
theorem vr_and {c x y : Int} {a b : Nat} (ha : vr c a x) (hb : vr c b y) : vr c (eAnd a b) (aAnd x y) := by
  unfold eAnd
  cases h : eK2 a b with
  | false => exact vr_0
  | true =>
    rw [eB_t rfl]
    obtain ⟨⟨h1, h2⟩, h3, h4⟩ := eK2_s h
    refine eUc (eI_s ?_)
    rw [Int32.toBitVec_and, BitVec.toNat_and, eU_s (vr_use ha h1 h2), eU_s (vr_use hb h3 h4)]
    rfl
theorem vr_or {c x y : Int} {a b : Nat} (ha : vr c a x) (hb : vr c b y) : vr c (eOr a b) (aOr x y) := by
  unfold eOr
  cases h : eK2 a b with
  | false => exact vr_0
  | true =>
    rw [eB_t rfl]
    obtain ⟨⟨h1, h2⟩, h3, h4⟩ := eK2_s h
    refine eUc (eI_s ?_)
    rw [Int32.toBitVec_or, BitVec.toNat_or, eU_s (vr_use ha h1 h2), eU_s (vr_use hb h3 h4)]
    rfl
theorem vr_xor {c x y : Int} {a b : Nat} (ha : vr c a x) (hb : vr c b y) : vr c (eXor a b) (aXor x y) := by
  unfold eXor
  cases h : eK2 a b with
  | false => exact vr_0
  | true =>
    rw [eB_t rfl]
    obtain ⟨⟨h1, h2⟩, h3, h4⟩ := eK2_s h
    refine eUc (eI_s ?_)
    rw [Int32.toBitVec_xor, BitVec.toNat_xor, eU_s (vr_use ha h1 h2), eU_s (vr_use hb h3 h4)]
    rfl
/-- both known, neither below 0 nor of more than 31 bits -/
noncomputable def eN2 (a b : Nat) : Bool := eB (eB (Nat.ble 9223372036854775809 a) (Nat.ble a 9223372039002259456) false) (eB (Nat.ble 9223372036854775809 b) (Nat.ble b 9223372039002259456) false) false
theorem eN2_s {c x y : Int} {a b : Nat} (h : eN2 a b = true) (ha : vr c a x) (hb : vr c b y) : ∃ m n : Nat, a = m + 9223372036854775809 ∧ b = n + 9223372036854775809 ∧ m < 2147483648 ∧ n < 2147483648 ∧ x = (m : Int) ∧ y = (n : Int) := by
  obtain ⟨h1, h2⟩ := eB_and h
  obtain ⟨h1, h3⟩ := eB_and h1
  obtain ⟨h2, h4⟩ := eB_and h2
  have h1 := Nat.le_of_ble_eq_true h1
  have h2 := Nat.le_of_ble_eq_true h2
  have h3 := Nat.le_of_ble_eq_true h3
  have h4 := Nat.le_of_ble_eq_true h4
  have e1 := vr_use ha (by omega) (by omega)
  have e2 := vr_use hb (by omega) (by omega)
  exact ⟨a - 9223372036854775809, b - 9223372036854775809, by omega, by omega, by omega, by omega, by omega, by omega⟩
theorem eOfs {n : Nat} : Nat.sub (n + 9223372036854775809) 9223372036854775809 = n := by show n + 9223372036854775809 - 9223372036854775809 = n; omega
noncomputable def eShl (a b : Nat) : Nat := eB (eN2 a b) (eB (Nat.ble (Nat.sub b 9223372036854775809) 31) (Nat.add (Nat.mod (Nat.add (Nat.shiftLeft (Nat.sub a 9223372036854775809) (Nat.sub b 9223372036854775809)) 2147483648) 4294967296) 9223372034707292161) 0) 0
noncomputable def eShr (a b : Nat) : Nat := eB (eN2 a b) (eB (Nat.ble (Nat.sub b 9223372036854775809) 31) (Nat.add (Nat.shiftRight (Nat.sub a 9223372036854775809) (Nat.sub b 9223372036854775809)) 9223372036854775809) 0) 0
