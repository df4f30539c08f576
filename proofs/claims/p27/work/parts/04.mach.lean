/-! Shapes, fields, locals, one simple step, and runs as the least relation closed under the rules. -/
def am_find : List (Int × Nat × Nat) → Int → Option (Nat × Nat)
  | [], _ => none
  | (a, k) :: r, c => if a = c then some k else am_find r c
def am_shp (c : Int) : Option (Nat × Nat) := am_find g_lay c
def am_fld (ci k : Nat) : Option (Nat × Int) := (g_ft[ci]?).bind (fun l => l[k]?)
def m_st (μ : am_M) (c i v : Int) : am_M := fun c' i' => if c' = c ∧ i' = i then v else μ c' i'
def am_get : am_L → Nat → Option am_V
  | [], _ => none
  | (j, v) :: r, i => bif Nat.beq j i then some v else am_get r i
def am_rm1 (i : Nat) : am_L → am_L
  | [] => []
  | (j, v) :: r => bif Nat.beq j i || (Nat.beq (j + 1) i && Nat.beq v.1 1) then am_rm1 i r else (j, v) :: am_rm1 i r
def am_rm2 (i : Nat) : am_L → am_L
  | [] => []
  | (j, v) :: r => bif Nat.beq j i || (Nat.beq j (i + 1) || (Nat.beq (j + 1) i && Nat.beq v.1 1)) then am_rm2 i r else (j, v) :: am_rm2 i r
def am_ld (ls : am_L) (i t : Nat) (st : am_S) : Option (am_L × am_S) := match am_get ls i with
  | some v => bif Nat.beq v.1 t then some (ls, v :: st) else none
  | none => none
def am_lda (ls : am_L) (i : Nat) (st : am_S) : Option (am_L × am_S) := match am_get ls i with
  | some v => bif Nat.ble 2 v.1 then some (ls, v :: st) else none
  | none => none
def am_so1 (nL : Nat) (ls : am_L) (i t : Nat) (st : am_S) : Option (am_L × am_S) := match st with
  | v :: r => bif Nat.beq v.1 t && Nat.blt i nL then some ((i, v) :: am_rm1 i ls, r) else none
  | _ => none
def am_so2 (nL : Nat) (ls : am_L) (i : Nat) (st : am_S) : Option (am_L × am_S) := match st with
  | v :: r => bif Nat.beq v.1 1 && Nat.blt (i + 1) nL then some ((i, v) :: am_rm2 i ls, r) else none
  | _ => none
def am_inc (nL : Nat) (ls : am_L) (i : Nat) (n : Int) (st : am_S) : Option (am_L × am_S) := match am_get ls i with
  | some v => bif Nat.beq v.1 0 && Nat.blt i nL then some ((i, (0, w32 (v.2 + n))) :: am_rm1 i ls, st) else none
  | none => none
/-- two of a kind to one -/
def am_b2 (ta tb tr : Nat) (f : Int → Int → Int) (ls : am_L) (st : am_S) : Option (am_L × am_S) := match st with
  | y :: x :: r => bif Nat.beq x.1 ta && Nat.beq y.1 tb then some (ls, (tr, f x.2 y.2) :: r) else none
  | _ => none
def am_dv (f : Int → Int → Int) (ls : am_L) (st : am_S) : Option (am_L × am_S) := match st with
  | y :: x :: r => bif Nat.beq x.1 0 && (Nat.beq y.1 0 && (!decide (y.2 = 0) && (decide (-2147483648 ≤ y.2) && decide (y.2 < 2147483648)))) then some (ls, (0, f x.2 y.2) :: r) else none
  | _ => none
def am_b1 (ta tr : Nat) (f : Int → Int) (ls : am_L) (st : am_S) : Option (am_L × am_S) := match st with
  | x :: r => bif Nat.beq x.1 ta then some (ls, (tr, f x.2) :: r) else none
  | _ => none
def am_dup (ls : am_L) (st : am_S) : Option (am_L × am_S) := match st with
  | x :: r => bif Nat.beq x.1 1 then none else some (ls, x :: x :: r)
  | _ => none
def am_dup2 (ls : am_L) (st : am_S) : Option (am_L × am_S) := match st with
  | y :: x :: r => bif Nat.beq x.1 1 || Nat.beq y.1 1 then none else some (ls, y :: x :: y :: x :: r)
  | _ => none
def am_pop (ls : am_L) (st : am_S) : Option (am_L × am_S) := match st with
  | x :: r => bif Nat.beq x.1 1 then none else some (ls, r)
  | _ => none
def am_fv (μ : am_M) (c : Int) (k : Nat) (f : Nat × Int) : am_V := match f.1 with
  | 0 => (0, μ c k)
  | 1 => (1, μ c k)
  | 2 => (0, μ c k)
  | 3 => (2, μ c k)
  | 4 => (2, c + f.2)
  | _ => (2, f.2)
def am_isO (c : Int) (ci : Nat) : Bool := match am_shp c with
  | some k => Nat.beq k.1 (10 + ci)
  | none => false
def am_gf (ci k : Nat) (μ : am_M) (ls : am_L) (st : am_S) : Option (am_L × am_S) := match st with
  | x :: r => bif Nat.beq x.1 2 && am_isO x.2 ci then (match am_fld ci k with
    | some f => some (ls, am_fv μ x.2 k f :: r)
    | none => none) else none
  | _ => none
abbrev am_X : Type := Option (Nat × (Nat → Int32))
def am_len (X : am_X) (ls : am_L) (st : am_S) : Option (am_L × am_S) := match st with
  | x :: r => bif Nat.beq x.1 2 then (match am_shp x.2 with
      | some k => bif Nat.blt k.1 10 then some (ls, (0, (k.2 : Int)) :: r) else none
      | none => none)
    else bif Nat.beq x.1 3 then (match X with
      | some q => some (ls, (0, (q.1 : Int)) :: r)
      | none => none) else none
  | _ => none
/-- a step that neither writes memory nor branches nor may fail for its numbers -/
def am_sl (X : am_X) (nL : Nat) (e : am_E) (ls : am_L) (st : am_S) (μ : am_M) : Option (am_L × am_S) := match e.2.1 with
  | .iload_n k => am_ld ls k.val 0 st
  | .iload k => am_ld ls k 0 st
  | .lload_n k => am_ld ls k.val 1 st
  | .lload k => am_ld ls k 1 st
  | .aload_n k => am_lda ls k.val st
  | .aload k => am_lda ls k st
  | .istore_n k => am_so1 nL ls k.val 0 st
  | .istore k => am_so1 nL ls k 0 st
  | .lstore_n k => am_so2 nL ls k.val st
  | .lstore k => am_so2 nL ls k st
  | .astore_n k => am_so1 nL ls k.val 2 st
  | .astore k => am_so1 nL ls k 2 st
  | .iinc k n => am_inc nL ls k n st
  | .iconst _ => some (ls, (0, e.2.2.2.2.2) :: st)
  | .bipush _ => some (ls, (0, e.2.2.2.2.2) :: st)
  | .sipush _ => some (ls, (0, e.2.2.2.2.2) :: st)
  | .ldc _ => some (ls, (0, e.2.2.2.2.2) :: st)
  | .ldc_w _ => some (ls, (0, e.2.2.2.2.2) :: st)
  | .lconst _ => some (ls, (1, e.2.2.2.2.2) :: st)
  | .ldc2_w _ => some (ls, (1, e.2.2.2.2.2) :: st)
  | .iadd => am_b2 0 0 0 (fun x y => w32 (x + y)) ls st
  | .isub => am_b2 0 0 0 (fun x y => w32 (x - y)) ls st
  | .imul => am_b2 0 0 0 (fun x y => w32 (x * y)) ls st
  | .ineg => am_b1 0 0 (fun x => w32 (-x)) ls st
  | .iand => am_b2 0 0 0 aAnd ls st
  | .ior => am_b2 0 0 0 aOr ls st
  | .ixor => am_b2 0 0 0 aXor ls st
  | .ishl => am_b2 0 0 0 aShl ls st
  | .ishr => am_b2 0 0 0 aShr ls st
  | .iushr => am_b2 0 0 0 aUshr ls st
  | .idiv => am_dv aDiv ls st
  | .irem => am_dv aRem ls st
  | .ladd => am_b2 1 1 1 (fun x y => w64 (x + y)) ls st
  | .lsub => am_b2 1 1 1 (fun x y => w64 (x - y)) ls st
  | .lmul => am_b2 1 1 1 (fun x y => w64 (x * y)) ls st
  | .land => am_b2 1 1 1 lAnd ls st
  | .lor => am_b2 1 1 1 lOr ls st
  | .lshl => am_b2 1 0 1 lShl ls st
  | .lushr => am_b2 1 0 1 lUshr ls st
  | .lcmp => am_b2 1 1 0 lCmp ls st
  | .i2l => am_b1 0 1 (fun x => x) ls st
  | .l2i => am_b1 1 0 w32 ls st
  | .dup => am_dup ls st
  | .dup2 => am_dup2 ls st
  | .pop => am_pop ls st
  | .getfield _ => am_gf e.2.2.2.1 e.2.2.2.2.1 μ ls st
  | .arraylength => am_len X ls st
  | _ => none
def am_at : List am_E → Nat → Option am_E
  | [], _ => none
  | e :: r, pc => bif Nat.beq e.1 pc then some e else am_at r pc
def am_tgt (e : am_E) (o : Int) : Nat := ((e.1 : Int) + o).toNat
def am_cnd (c : ClassFile.Cond) (x y : Int) : Prop := match c with
  | .eq => x = y
  | .ne => x ≠ y
  | .lt => x < y
  | .ge => y ≤ x
  | .gt => y < x
  | .le => x ≤ y

/-- a method: its name, bytes, how many locals, what it returns, its code, how many arguments ('this' too), whether it is static -/
abbrev am_I : Type := MethodName × ByteArray × Nat × Option FieldType × List am_E × Nat × Bool
def am_cat : am_S → Nat
  | [] => 0
  | v :: r => (bif Nat.beq v.1 1 then 2 else 1) + am_cat r
def am_args : Nat → am_S → am_L
  | _, [] => []
  | i, v :: r => (i, v) :: am_args (i + (bif Nat.beq v.1 1 then 2 else 1)) r
def am_psh : Option am_V → am_S → am_S
  | none, r => r
  | some v, r => v :: r
def am_cpy (μ : am_M) (c0 sp c1 dp n : Int) : am_M := fun c i => if c = c1 ∧ dp ≤ i ∧ i < dp + n then μ c0 (sp + (i - dp)) else μ c i
/-- where a switch goes -/
def am_lsw (e : am_E) (d : Int) : List (Int × Int) → Int → Nat
  | [], _ => am_tgt e d
  | (k, o) :: r, x => if x = k then am_tgt e o else am_lsw e d r x
def am_tsw (e : am_E) (d : Int) : Int → List Int → Int → Nat
  | _, [], _ => am_tgt e d
  | lo, o :: r, x => if x = lo then am_tgt e o else am_tsw e d (lo + 1) r x
abbrev am_CR : Type := Nat → am_S → am_M → am_R → Prop
abbrev am_P : Type := Nat → am_L → am_S → am_M → Prop
def am_inv (e : am_E) (b : Nat) : Prop := e.2.2.2.2.1 = b ∧ ((∃ k, e.2.1 = .invokevirtual k ∧ b < 2) ∨ (∃ k, e.2.1 = .invokestatic k ∧ 2 ≤ b))
/-- what a set of places of one run is closed under -/
def am_rul (X : am_X) (CR : am_CR) (nL : Nat) (rt : Option FieldType) (C : List am_E) (res : am_R) (P : am_P) : Prop :=
  (∀ e pc ls st μ ls' st', am_at C pc = some e → am_sl X nL e ls st μ = some (ls', st') → P (pc + e.2.2.1) ls' st' μ → P pc ls st μ) ∧
  (∀ e pc ls r μ c i n, am_at C pc = some e → e.2.1 = .iaload → am_shp c = some (0, n) → 0 ≤ i → i < (n : Int) → P (pc + 1) ls ((0, μ c i) :: r) μ → P pc ls ((0, i) :: (2, c) :: r) μ) ∧
  (∀ e pc ls r μ c i n, am_at C pc = some e → e.2.1 = .laload → am_shp c = some (1, n) → 0 ≤ i → i < (n : Int) → P (pc + 1) ls ((1, μ c i) :: r) μ → P pc ls ((0, i) :: (2, c) :: r) μ) ∧
  (∀ e pc ls r μ c i n, am_at C pc = some e → e.2.1 = .baload → am_shp c = some (2, n) → 0 ≤ i → i < (n : Int) → P (pc + 1) ls ((0, μ c i) :: r) μ → P pc ls ((0, i) :: (2, c) :: r) μ) ∧
  (∀ e pc ls r μ c i n, am_at C pc = some e → e.2.1 = .aaload → am_shp c = some (3, n) → 0 ≤ i → i < (n : Int) → P (pc + 1) ls ((2, μ c i) :: r) μ → P pc ls ((0, i) :: (2, c) :: r) μ) ∧
  (∀ e pc ls r μ w i L xs, am_at C pc = some e → e.2.1 = .iaload → X = some (L, xs) → 0 ≤ i → i < (L : Int) → P (pc + 1) ls ((0, (xs i.toNat).toInt) :: r) μ → P pc ls ((0, i) :: (3, w) :: r) μ) ∧
  (∀ e pc ls r μ c i n v, am_at C pc = some e → e.2.1 = .iastore → am_shp c = some (0, n) → 0 ≤ i → i < (n : Int) → P (pc + 1) ls r (m_st μ c i v) → P pc ls ((0, v) :: (0, i) :: (2, c) :: r) μ) ∧
  (∀ e pc ls r μ c i n v, am_at C pc = some e → e.2.1 = .lastore → am_shp c = some (1, n) → 0 ≤ i → i < (n : Int) → P (pc + 1) ls r (m_st μ c i v) → P pc ls ((1, v) :: (0, i) :: (2, c) :: r) μ) ∧
  (∀ e pc ls r μ c i n v, am_at C pc = some e → e.2.1 = .bastore → am_shp c = some (2, n) → 0 ≤ i → i < (n : Int) → (v = 0 ∨ v = 1) → P (pc + 1) ls r (m_st μ c i v) → P pc ls ((0, v) :: (0, i) :: (2, c) :: r) μ) ∧
  (∀ e k pc ls r μ c v f, am_at C pc = some e → e.2.1 = .putfield k → am_isO c e.2.2.2.1 = true → am_fld e.2.2.2.1 e.2.2.2.2.1 = some f → ((f.1 = 0 ∧ v.1 = 0) ∨ (f.1 = 1 ∧ v.1 = 1) ∨ (f.1 = 2 ∧ v.1 = 0 ∧ (v.2 = 0 ∨ v.2 = 1)) ∨ (f.1 = 3 ∧ v.1 = 2)) → P (pc + 3) ls r (m_st μ c (e.2.2.2.2.1 : Int) v.2) → P pc ls (v :: (2, c) :: r) μ) ∧
  (∀ e pc ls r μ cd o x, am_at C pc = some e → e.2.1 = .ifCond cd o → (am_cnd cd x 0 → P (am_tgt e o) ls r μ) → (¬ am_cnd cd x 0 → P (pc + 3) ls r μ) → P pc ls ((0, x) :: r) μ) ∧
  (∀ e pc ls r μ cd o x y, am_at C pc = some e → e.2.1 = .if_icmp cd o → (am_cnd cd x y → P (am_tgt e o) ls r μ) → (¬ am_cnd cd x y → P (pc + 3) ls r μ) → P pc ls ((0, y) :: (0, x) :: r) μ) ∧
  (∀ e pc ls r μ o, am_at C pc = some e → e.2.1 = .goto o → P (am_tgt e o) ls r μ → P pc ls r μ) ∧
  (∀ e pc ls r μ o x, am_at C pc = some e → e.2.1 = .ifnull o → (x < 0 → P (am_tgt e o) ls r μ) → (¬ x < 0 → P (pc + 3) ls r μ) → P pc ls ((2, x) :: r) μ) ∧
  (∀ e pc ls r μ d lo hi os x, am_at C pc = some e → e.2.1 = .tableswitch d lo hi os → P (am_tsw e d lo os.toList x) ls r μ → P pc ls ((0, x) :: r) μ) ∧
  (∀ e pc ls r μ d ps x, am_at C pc = some e → e.2.1 = .lookupswitch d ps → P (am_lsw e d ps.toList x) ls r μ → P pc ls ((0, x) :: r) μ) ∧
  (∀ e b pc ls st r μ as rv μ', am_at C pc = some e → am_inv e b → b < 5 → (b < 2 → ∃ c, as.head? = some (2, c) ∧ am_isO c e.2.2.2.2.2.toNat = true) → CR e.2.2.2.1 as μ (rv, μ') → st = as.reverse ++ r → am_cat r ≤ 8 → P (pc + 3) ls (am_psh rv r) μ' → P pc ls st μ) ∧
  (∀ e pc ls r μ x y, am_at C pc = some e → am_inv e 5 → e.2.2.2.1 = 0 → am_cat r ≤ 8 → P (pc + 3) ls ((0, if x < y then y else x) :: r) μ → P pc ls ((0, y) :: (0, x) :: r) μ) ∧
  (∀ e pc ls r μ x y, am_at C pc = some e → am_inv e 5 → e.2.2.2.1 = 1 → am_cat r ≤ 8 → P (pc + 3) ls ((0, if y < x then y else x) :: r) μ → P pc ls ((0, y) :: (0, x) :: r) μ) ∧
  (∀ e pc ls r μ x y, am_at C pc = some e → am_inv e 5 → e.2.2.2.1 = 2 → am_cat r ≤ 8 → P (pc + 3) ls ((1, if y < x then y else x) :: r) μ → P pc ls ((1, y) :: (1, x) :: r) μ) ∧
  (∀ e pc ls r μ n dp c1 sp c0 n0 n1, am_at C pc = some e → am_inv e 6 → am_shp c0 = some (0, n0) → am_shp c1 = some (0, n1) → 0 ≤ sp → 0 ≤ dp → 0 ≤ n → sp + n ≤ (n0 : Int) → dp + n ≤ (n1 : Int) → am_cat r ≤ 8 → P (pc + 3) ls r (am_cpy μ c0 sp c1 dp n) → P pc ls ((0, n) :: (0, dp) :: (2, c1) :: (0, sp) :: (2, c0) :: r) μ) ∧
  (∀ e pc ls μ v, am_at C pc = some e → e.2.1 = .ireturn → (rt = some .int ∨ (rt = some .boolean ∧ (v = 0 ∨ v = 1))) → res = (some (0, v), μ) → P pc ls [(0, v)] μ) ∧
  (∀ e pc ls μ v, am_at C pc = some e → e.2.1 = .lreturn → rt = some .long → res = (some (1, v), μ) → P pc ls [(1, v)] μ) ∧
  (∀ e pc ls μ, am_at C pc = some e → e.2.1 = .return_ → rt = none → res = (none, μ) → P pc ls [] μ) ∧
  (∀ pc ls ls' st μ, (∀ q ∈ ls', q ∈ ls) → P pc ls' st μ → P pc ls st μ)
def am_run (X : am_X) (CR : am_CR) (nL : Nat) (rt : Option FieldType) (C : List am_E) (pc : Nat) (ls : am_L) (st : am_S) (μ : am_M) (res : am_R) : Prop := ∀ P : am_P, am_rul X CR nL rt C res P → P pc ls st μ
/-- a method comes back with res, by calls at most d deep -/
def am_ar (mt : Nat → Option am_I) : Nat → am_CR
  | 0 => fun _ _ _ _ => False
  | d + 1 => fun j as μ res => ∃ I, mt j = some I ∧ as.length = I.2.2.2.2.2.1 ∧ am_cat as ≤ I.2.2.1 ∧ am_run none (am_ar mt d) I.2.2.1 I.2.2.2.1 I.2.2.2.2.1 0 (am_args 0 as) [] μ res
