/-! What is checked of each method's code, and what its links say. -/
def am_lenOf : Instr → Nat
  | .iload _ => 2
  | .lload _ => 2
  | .aload _ => 2
  | .istore _ => 2
  | .lstore _ => 2
  | .astore _ => 2
  | .iinc _ _ => 3
  | .bipush _ => 2
  | .sipush _ => 3
  | .ldc _ => 2
  | .ldc_w _ => 3
  | .ldc2_w _ => 3
  | .getfield _ => 3
  | .putfield _ => 3
  | .invokevirtual _ => 3
  | .invokestatic _ => 3
  | .ifCond _ _ => 3
  | .if_icmp _ _ => 3
  | .goto _ => 3
  | .ifnull _ => 3
  | .tableswitch _ _ _ _ => 0
  | .lookupswitch _ _ => 0
  | _ => 1
abbrev am_FL : Type := List (Nat × Nat × Nat × Bool)
abbrev am_ML : Type := List (Nat × Nat × Nat × Nat)
abbrev am_KL : Type := List (Nat × Int)
def am_b32 (d : Int) : Bool := decide (-2147483648 ≤ d) && decide (d < 2147483648)
def am_b64 (d : Int) : Bool := decide (-9223372036854775808 ≤ d) && decide (d < 9223372036854775808)
def am_tgo (pc : Nat) (o : Int) : Bool := decide (0 ≤ (pc : Int) + o)
def am_nf (ci k : Nat) : Bool := match g_cl[ci]? with
  | some q => !(q.2.1 k).2.2.2
  | none => true
/-- an entry of a method's code, by its class's links and constants -/
def am_okI (fl : am_FL) (ml : am_ML) (kl kL : am_KL) (e : am_E) : Bool := match e.2.1 with
  | .iconst n => decide (Int32.ofInt n = Int32.ofInt e.2.2.2.2.2) && am_b32 e.2.2.2.2.2
  | .bipush n => decide ((Int8.ofInt n).toInt32 = Int32.ofInt e.2.2.2.2.2) && am_b32 e.2.2.2.2.2
  | .sipush n => decide ((Int16.ofInt n).toInt32 = Int32.ofInt e.2.2.2.2.2) && am_b32 e.2.2.2.2.2
  | .ldc k => decide ((k, e.2.2.2.2.2) ∈ kl) && am_b32 e.2.2.2.2.2
  | .ldc_w k => decide ((k, e.2.2.2.2.2) ∈ kl) && am_b32 e.2.2.2.2.2
  | .lconst n => decide (Int64.ofNat (n : Nat) = Int64.ofInt e.2.2.2.2.2) && am_b64 e.2.2.2.2.2
  | .ldc2_w k => decide ((k, e.2.2.2.2.2) ∈ kL) && am_b64 e.2.2.2.2.2
  | .getfield k => decide ((k, e.2.2.2.1, e.2.2.2.2.1, true) ∈ fl) || decide ((k, e.2.2.2.1, e.2.2.2.2.1, false) ∈ fl)
  | .putfield k => (decide ((k, e.2.2.2.1, e.2.2.2.2.1, true) ∈ fl) || decide ((k, e.2.2.2.1, e.2.2.2.2.1, false) ∈ fl)) && am_nf e.2.2.2.1 e.2.2.2.2.1
  | .invokevirtual k => decide ((k, e.2.2.2.1, e.2.2.2.2.1, e.2.2.2.2.2.toNat) ∈ ml)
  | .invokestatic k => decide ((k, e.2.2.2.1, e.2.2.2.2.1, e.2.2.2.2.2.toNat) ∈ ml)
  | .ifCond _ o => am_tgo e.1 o
  | .if_icmp _ o => am_tgo e.1 o
  | .goto o => am_tgo e.1 o
  | .ifnull o => am_tgo e.1 o
  | .tableswitch d lo hi os => am_tgo e.1 d && (os.toList.all (am_tgo e.1) && (decide (hi = lo + (os.toList.length : Int) - 1) && (am_b32 lo && am_b32 hi)))
  | .lookupswitch d ps => am_tgo e.1 d && (ps.toList.all (fun q => am_tgo e.1 q.2 && am_b32 q.1) && (ps.toList.zip (ps.toList.drop 1)).all (fun (a, next) => a.1 < next.1))
  | _ => true
def am_okE (fl : am_FL) (ml : am_ML) (kl kL : am_KL) (cc : ByteArray) (e : am_E) : Bool := decide (decode cc e.1 = .ok (e.2.1, e.2.2.1)) && (decide (am_lenOf e.2.1 = 0 ∨ am_lenOf e.2.1 = e.2.2.1) && am_okI fl ml kl kL e)
/-- a field's link -/
def am_flw (own : String) (q : Nat × Nat × Nat × Bool) : Prop := ∃ c : vw_C, g_cl[q.2.1]? = some c ∧ q.2.2.1 < c.2.2 ∧ (c.2.1 q.2.2.1).1 = c.1 ∧ (if q.2.2.2 = true then Cond.fieldLinkNest own q.1 c.1 (c.2.1 q.2.2.1).2.1 (c.2.1 q.2.2.1).2.2.1 "BurningSlips" ∈ am_nest else Cond.fieldLink own q.1 c.1 (c.2.1 q.2.2.1).2.1 (c.2.1 q.2.2.1).2.2.1 ∈ am_tG)
theorem am_get_mem : ∀ {ls : am_L} {i : Nat} {v : am_V}, am_get ls i = some v → (i, v) ∈ ls
  | [], _, _, h => by cases h
  | (j, w) :: r, i, v, h => by
    unfold am_get at h
    cases e : Nat.beq j i with
    | true =>
      rw [e] at h
      cases h
      rw [Nat.eq_of_beq_eq_true e]
      exact List.mem_cons_self
    | false =>
      rw [e] at h
      exact List.mem_cons_of_mem _ (am_get_mem h)
theorem am_get_at {ad : Int → Nat} {sb nL : Nat} {larr : Array Slot} {ls : am_L} {i : Nat} {v : am_V} (hl : lv_has larr nL (ls.map (am_cvq ad sb))) (h : am_get ls i = some v) : larr[i]? = some (.val (am_cv ad sb v)) :=
  hl.2.2 (i, am_cv ad sb v) (List.mem_map_of_mem (f := am_cvq ad sb) (am_get_mem h))
theorem am_cv0 {ad : Int → Nat} {sb : Nat} {v : am_V} (h : v.1 = 0) : am_cv ad sb v = .int (Int32.ofInt v.2) := by
  obtain ⟨t, x⟩ := v; simp only at h; subst h; rfl
theorem am_cv1 {ad : Int → Nat} {sb : Nat} {v : am_V} (h : v.1 = 1) : am_cv ad sb v = .long (Int64.ofInt v.2) := by
  obtain ⟨t, x⟩ := v; simp only at h; subst h; rfl
theorem am_cv2 {ad : Int → Nat} {sb : Nat} {v : am_V} (h : v.1 = 2) : am_cv ad sb v = if v.2 < 0 then .null else .ref (ad v.2) := by
  obtain ⟨t, x⟩ := v; simp only at h; subst h; rfl
theorem am_cvr {ad : Int → Nat} {sb : Nat} {v : am_V} (h : 2 ≤ v.1) : am_cv ad sb v = .null ∨ ∃ a, am_cv ad sb v = .ref a := by
  obtain ⟨t, x⟩ := v
  match t, h with
  | 2, _ =>
    rw [am_cv2 rfl]
    by_cases q : x < 0
    · exact Or.inl (if_pos q)
    · exact Or.inr ⟨_, if_neg q⟩
  | n + 3, _ => exact Or.inr ⟨sb, rfl⟩
theorem am_cat1 {ad : Int → Nat} {sb : Nat} {v : am_V} (h : v.1 ≠ 1) : (am_cv ad sb v).category = 1 := by
  rcases Nat.lt_or_ge v.1 2 with q | q
  · rw [am_cv0 (by omega)]; rfl
  · rcases am_cvr (ad := ad) (sb := sb) q with e | ⟨a, e⟩ <;> rw [e] <;> rfl
theorem am_cat2 {ad : Int → Nat} {sb : Nat} {v : am_V} (h : v.1 = 1) : (am_cv ad sb v).category = 2 := by rw [am_cv1 h]; rfl
theorem am_catb {ad : Int → Nat} {sb : Nat} {v : am_V} : ((am_cv ad sb v).category == 2) = Nat.beq v.1 1 := by
  by_cases h : v.1 = 1
  · rw [am_cat2 h, h]; rfl
  · rw [am_cat1 h]
    cases e : Nat.beq v.1 1 with
    | true => exact absurd (Nat.eq_of_beq_eq_true e) h
    | false => rfl
theorem am_beq (a b : Nat) : (a == b) = Nat.beq a b := by
  cases e : Nat.beq a b with
  | true => rw [Nat.eq_of_beq_eq_true e]; exact beq_self_eq_true b
  | false => exact beq_eq_false_iff_ne.mpr (Nat.ne_of_beq_eq_false e)
theorem am_catB {ad : Int → Nat} {sb : Nat} {v : am_V} : Nat.beq (am_cv ad sb v).category 2 = Nat.beq v.1 1 := by rw [← am_beq]; exact am_catb
theorem am_rm1_map {ad : Int → Nat} {sb i : Nat} : ∀ (ls : am_L), (am_rm1 i ls).map (am_cvq ad sb) = (ls.map (am_cvq ad sb)).filter (fun q => !(q.1 == i) && !(q.1 + 1 == i && q.2.category == 2))
  | [] => rfl
  | (j, v) :: r => by
    rw [List.map_cons, List.filter_cons, ← am_rm1_map r]
    have e : (am_cvq ad sb (j, v)) = (j, am_cv ad sb v) := rfl
    rw [e]
    simp only [am_beq, am_catB]
    rw [show am_rm1 i ((j, v) :: r) = (bif Nat.beq j i || (Nat.beq (j + 1) i && Nat.beq v.1 1) then am_rm1 i r else (j, v) :: am_rm1 i r) from rfl]
    cases Nat.beq j i <;> cases Nat.beq (j + 1) i <;> cases Nat.beq v.1 1 <;> rfl
theorem am_rm2_map {ad : Int → Nat} {sb i : Nat} : ∀ (ls : am_L), (am_rm2 i ls).map (am_cvq ad sb) = (ls.map (am_cvq ad sb)).filter (fun q => !(q.1 == i) && (!(q.1 == i + 1) && !(q.1 + 1 == i && q.2.category == 2)))
  | [] => rfl
  | (j, v) :: r => by
    rw [List.map_cons, List.filter_cons, ← am_rm2_map r]
    have e : (am_cvq ad sb (j, v)) = (j, am_cv ad sb v) := rfl
    rw [e]
    simp only [am_beq, am_catB]
    rw [show am_rm2 i ((j, v) :: r) = (bif Nat.beq j i || (Nat.beq j (i + 1) || (Nat.beq (j + 1) i && Nat.beq v.1 1)) then am_rm2 i r else (j, v) :: am_rm2 i r) from rfl]
    cases Nat.beq j i <;> cases Nat.beq j (i + 1) <;> cases Nat.beq (j + 1) i <;> cases Nat.beq v.1 1 <;> rfl
theorem am_rm1_sub {i : Nat} : ∀ {ls : am_L} {q : Nat × am_V}, q ∈ am_rm1 i ls → q ∈ ls
  | [], _, h => h
  | (j, v) :: r, q, h => by
    unfold am_rm1 at h
    cases e : (Nat.beq j i || (Nat.beq (j + 1) i && Nat.beq v.1 1)) with
    | true => rw [e] at h; exact List.mem_cons_of_mem _ (am_rm1_sub h)
    | false =>
      rw [e] at h
      rcases List.mem_cons.mp h with h | h
      · rw [h]; exact List.mem_cons_self
      · exact List.mem_cons_of_mem _ (am_rm1_sub h)
theorem am_rm2_sub {i : Nat} : ∀ {ls : am_L} {q : Nat × am_V}, q ∈ am_rm2 i ls → q ∈ ls
  | [], _, h => h
  | (j, v) :: r, q, h => by
    unfold am_rm2 at h
    cases e : (Nat.beq j i || (Nat.beq j (i + 1) || (Nat.beq (j + 1) i && Nat.beq v.1 1))) with
    | true => rw [e] at h; exact List.mem_cons_of_mem _ (am_rm2_sub h)
    | false =>
      rw [e] at h
      rcases List.mem_cons.mp h with h | h
      · rw [h]; exact List.mem_cons_self
      · exact List.mem_cons_of_mem _ (am_rm2_sub h)
theorem am_ld_inv {ls ls' : am_L} {i t : Nat} {st st' : am_S} (h : am_ld ls i t st = some (ls', st')) : ∃ v, am_get ls i = some v ∧ v.1 = t ∧ ls' = ls ∧ st' = v :: st := by
  unfold am_ld at h
  cases hg : am_get ls i with
  | none => rw [hg] at h; cases h
  | some v =>
    rw [hg] at h
    cases e : Nat.beq v.1 t with
    | false => simp only [e] at h; cases h
    | true => simp only [e] at h; cases h; exact ⟨v, rfl, Nat.eq_of_beq_eq_true e, rfl, rfl⟩
theorem am_lda_inv {ls ls' : am_L} {i : Nat} {st st' : am_S} (h : am_lda ls i st = some (ls', st')) : ∃ v, am_get ls i = some v ∧ 2 ≤ v.1 ∧ ls' = ls ∧ st' = v :: st := by
  unfold am_lda at h
  cases hg : am_get ls i with
  | none => rw [hg] at h; cases h
  | some v =>
    rw [hg] at h
    cases e : Nat.ble 2 v.1 with
    | false => simp only [e] at h; cases h
    | true => simp only [e] at h; cases h; exact ⟨v, rfl, Nat.le_of_ble_eq_true e, rfl, rfl⟩
theorem am_so1_inv {nL : Nat} {ls ls' : am_L} {i t : Nat} {st st' : am_S} (h : am_so1 nL ls i t st = some (ls', st')) : ∃ v, st = v :: st' ∧ v.1 = t ∧ i < nL ∧ ls' = (i, v) :: am_rm1 i ls := by
  unfold am_so1 at h
  cases st with
  | nil => cases h
  | cons v r =>
    cases e : (Nat.beq v.1 t && Nat.blt i nL) with
    | false => simp only [e] at h; cases h
    | true =>
      simp only [e] at h
      cases h
      rw [Bool.and_eq_true] at e
      exact ⟨v, rfl, Nat.eq_of_beq_eq_true e.1, Nat.le_of_ble_eq_true e.2, rfl⟩
theorem am_so2_inv {nL : Nat} {ls ls' : am_L} {i : Nat} {st st' : am_S} (h : am_so2 nL ls i st = some (ls', st')) : ∃ v, st = v :: st' ∧ v.1 = 1 ∧ i + 1 < nL ∧ ls' = (i, v) :: am_rm2 i ls := by
  unfold am_so2 at h
  cases st with
  | nil => cases h
  | cons v r =>
    cases e : (Nat.beq v.1 1 && Nat.blt (i + 1) nL) with
    | false => simp only [e] at h; cases h
    | true =>
      simp only [e] at h
      cases h
      rw [Bool.and_eq_true] at e
      exact ⟨v, rfl, Nat.eq_of_beq_eq_true e.1, Nat.le_of_ble_eq_true e.2, rfl⟩
theorem am_inc_inv {nL : Nat} {ls ls' : am_L} {i : Nat} {n : Int} {st st' : am_S} (h : am_inc nL ls i n st = some (ls', st')) : ∃ x, am_get ls i = some (0, x) ∧ i < nL ∧ ls' = (i, (0, w32 (x + n))) :: am_rm1 i ls ∧ st' = st := by
  unfold am_inc at h
  cases hg : am_get ls i with
  | none => rw [hg] at h; cases h
  | some v =>
    rw [hg] at h
    obtain ⟨t, x⟩ := v
    cases e : (Nat.beq t 0 && Nat.blt i nL) with
    | false => simp only [e] at h; cases h
    | true =>
      simp only [e] at h
      cases h
      rw [Bool.and_eq_true] at e
      have e1 := Nat.eq_of_beq_eq_true e.1
      subst e1
      exact ⟨x, rfl, Nat.le_of_ble_eq_true e.2, rfl, rfl⟩
theorem am_b2_inv {ta tb tr : Nat} {f : Int → Int → Int} {ls ls' : am_L} {st st' : am_S} (h : am_b2 ta tb tr f ls st = some (ls', st')) : ∃ x y r, st = (tb, y) :: (ta, x) :: r ∧ ls' = ls ∧ st' = (tr, f x y) :: r := by
  unfold am_b2 at h
  match st, h with
  | [], h => cases h
  | [_], h => cases h
  | (t1, y) :: (t2, x) :: r, h =>
    cases e : (Nat.beq t2 ta && Nat.beq t1 tb) with
    | false => simp only [e] at h; cases h
    | true =>
      simp only [e] at h
      cases h
      rw [Bool.and_eq_true] at e
      have e1 := Nat.eq_of_beq_eq_true e.1
      have e2 := Nat.eq_of_beq_eq_true e.2
      subst e1; subst e2
      exact ⟨x, y, r, rfl, rfl, rfl⟩
theorem am_b1_inv {ta tr : Nat} {f : Int → Int} {ls ls' : am_L} {st st' : am_S} (h : am_b1 ta tr f ls st = some (ls', st')) : ∃ x r, st = (ta, x) :: r ∧ ls' = ls ∧ st' = (tr, f x) :: r := by
  unfold am_b1 at h
  match st, h with
  | [], h => cases h
  | (t2, x) :: r, h =>
    cases e : Nat.beq t2 ta with
    | false => simp only [e] at h; cases h
    | true =>
      simp only [e] at h
      cases h
      have e1 := Nat.eq_of_beq_eq_true e
      subst e1
      exact ⟨x, r, rfl, rfl, rfl⟩
