/-! Simple steps, all of them. Printed by program. -/
theorem am_dv_inv {f : Int → Int → Int} {ls ls' : am_L} {st st' : am_S} (h : am_dv f ls st = some (ls', st')) : ∃ x y r, st = (0, y) :: (0, x) :: r ∧ y ≠ 0 ∧ r32 y ∧ ls' = ls ∧ st' = (0, f x y) :: r := by
  unfold am_dv at h
  match st, h with
  | [], h => cases h
  | [_], h => cases h
  | (t1, y) :: (t2, x) :: r, h =>
    cases e : (Nat.beq t2 0 && (Nat.beq t1 0 && (!decide (y = 0) && (decide (-2147483648 ≤ y) && decide (y < 2147483648))))) with
    | false => simp only [e] at h; cases h
    | true =>
      simp only [e] at h
      cases h
      simp only [Bool.and_eq_true, Bool.not_eq_true', decide_eq_false_iff_not, decide_eq_true_eq] at e
      obtain ⟨e1, e2, e3, e4⟩ := e
      have e1 := Nat.eq_of_beq_eq_true e1
      have e2 := Nat.eq_of_beq_eq_true e2
      subst e1; subst e2
      exact ⟨x, y, r, rfl, e3, e4, rfl, rfl⟩
theorem am_dup_inv {ls ls' : am_L} {st st' : am_S} (h : am_dup ls st = some (ls', st')) : ∃ x r, st = x :: r ∧ x.1 ≠ 1 ∧ ls' = ls ∧ st' = x :: x :: r := by
  unfold am_dup at h
  match st, h with
  | [], h => cases h
  | x :: r, h =>
    cases e : Nat.beq x.1 1 with
    | true => simp only [e] at h; cases h
    | false => simp only [e] at h; cases h; exact ⟨x, r, rfl, Nat.ne_of_beq_eq_false e, rfl, rfl⟩
theorem am_dup2_inv {ls ls' : am_L} {st st' : am_S} (h : am_dup2 ls st = some (ls', st')) : ∃ y x r, st = y :: x :: r ∧ x.1 ≠ 1 ∧ y.1 ≠ 1 ∧ ls' = ls ∧ st' = y :: x :: y :: x :: r := by
  unfold am_dup2 at h
  match st, h with
  | [], h => cases h
  | [_], h => cases h
  | y :: x :: r, h =>
    cases e : (Nat.beq x.1 1 || Nat.beq y.1 1) with
    | true => simp only [e] at h; cases h
    | false =>
      simp only [e] at h
      cases h
      rw [Bool.or_eq_false_iff] at e
      exact ⟨y, x, r, rfl, Nat.ne_of_beq_eq_false e.1, Nat.ne_of_beq_eq_false e.2, rfl, rfl⟩
theorem am_pop_inv {ls ls' : am_L} {st st' : am_S} (h : am_pop ls st = some (ls', st')) : ∃ x, st = x :: st' ∧ x.1 ≠ 1 ∧ ls' = ls := by
  unfold am_pop at h
  match st, h with
  | [], h => cases h
  | x :: r, h =>
    cases e : Nat.beq x.1 1 with
    | true => simp only [e] at h; cases h
    | false => simp only [e] at h; cases h; exact ⟨x, rfl, Nat.ne_of_beq_eq_false e, rfl⟩
theorem am_gf_inv {ci k : Nat} {μ : am_M} {ls ls' : am_L} {st st' : am_S} (h : am_gf ci k μ ls st = some (ls', st')) : ∃ x r f, st = (2, x) :: r ∧ am_isO x ci = true ∧ am_fld ci k = some f ∧ ls' = ls ∧ st' = am_fv μ x k f :: r := by
  unfold am_gf at h
  match st, h with
  | [], h => cases h
  | (t, x) :: r, h =>
    cases e : (Nat.beq t 2 && am_isO x ci) with
    | false => simp only [e] at h; cases h
    | true =>
      simp only [e] at h
      rw [Bool.and_eq_true] at e
      have e1 := Nat.eq_of_beq_eq_true e.1
      subst e1
      cases hf : am_fld ci k with
      | none => rw [hf] at h; cases h
      | some f => rw [hf] at h; cases h; exact ⟨x, r, f, rfl, e.2, rfl, rfl, rfl⟩
theorem am_len_inv {X : am_X} {ls ls' : am_L} {st st' : am_S} (h : am_len X ls st = some (ls', st')) : (∃ x k r, st = (2, x) :: r ∧ am_shp x = some k ∧ k.1 < 10 ∧ ls' = ls ∧ st' = (0, (k.2 : Int)) :: r) ∨ (∃ x q r, st = (3, x) :: r ∧ X = some q ∧ ls' = ls ∧ st' = (0, (q.1 : Int)) :: r) := by
  unfold am_len at h
  match st, h with
  | [], h => cases h
  | (t, x) :: r, h =>
    cases e : Nat.beq t 2 with
    | true =>
      simp only [e] at h
      have e1 := Nat.eq_of_beq_eq_true e
      subst e1
      cases hs : am_shp x with
      | none => rw [hs] at h; cases h
      | some k =>
        rw [hs] at h
        cases e2 : Nat.blt k.1 10 with
        | false => simp only [e2] at h; cases h
        | true => simp only [e2] at h; cases h; exact Or.inl ⟨x, k, r, rfl, hs, Nat.le_of_ble_eq_true e2, rfl, rfl⟩
    | false =>
      simp only [e] at h
      cases e2 : Nat.beq t 3 with
      | false => simp only [e2] at h; cases h
      | true =>
        simp only [e2] at h
        have e1 := Nat.eq_of_beq_eq_true e2
        subst e1
        cases X with
        | none => cases h
        | some q => cases h; exact Or.inr ⟨x, q, r, rfl, rfl, rfl, rfl⟩
theorem am_e_iand (x y : Int) : Int32.ofInt x &&& Int32.ofInt y = Int32.ofInt (aAnd x y) := (Int32.ofInt_toInt _).symm
theorem am_e_ior (x y : Int) : Int32.ofInt x ||| Int32.ofInt y = Int32.ofInt (aOr x y) := (Int32.ofInt_toInt _).symm
theorem am_e_ixor (x y : Int) : Int32.ofInt x ^^^ Int32.ofInt y = Int32.ofInt (aXor x y) := (Int32.ofInt_toInt _).symm
theorem am_e_ishl (x y : Int) : Int32.ofInt x <<< (Int32.ofInt y &&& 31) = Int32.ofInt (aShl x y) := (Int32.ofInt_toInt _).symm
theorem am_e_ishr (x y : Int) : Int32.ofInt x >>> (Int32.ofInt y &&& 31) = Int32.ofInt (aShr x y) := (Int32.ofInt_toInt _).symm
theorem am_e_land (x y : Int) : Int64.ofInt x &&& Int64.ofInt y = Int64.ofInt (lAnd x y) := (Int64.ofInt_toInt _).symm
theorem am_e_lor (x y : Int) : Int64.ofInt x ||| Int64.ofInt y = Int64.ofInt (lOr x y) := (Int64.ofInt_toInt _).symm
theorem am_at_pc : ∀ {C : List am_E} {pc : Nat} {e : am_E}, am_at C pc = some e → e ∈ C ∧ e.1 = pc
  | [], _, _, h => by cases h
  | a :: r, pc, e, h => by
    unfold am_at at h
    cases q : Nat.beq a.1 pc with
    | true =>
      rw [q] at h
      cases h
      exact ⟨List.mem_cons_self, Nat.eq_of_beq_eq_true q⟩
    | false =>
      rw [q] at h
      obtain ⟨h1, h2⟩ := am_at_pc (C := r) h
      exact ⟨List.mem_cons_of_mem _ h1, h2⟩
theorem am_b32_r {d : Int} (h : am_b32 d = true) : r32 d := by
  unfold am_b32 at h
  simp only [Bool.and_eq_true, decide_eq_true_eq] at h
  exact h
theorem am_b64_r {d : Int} (h : am_b64 d = true) : r64 d := by
  unfold am_b64 at h
  simp only [Bool.and_eq_true, decide_eq_true_eq] at h
  exact h
theorem am_len_r {c : Int} {k : Nat × Nat} (h : am_shp c = some k) : r32 (k.2 : Int) := by
  obtain ⟨i, hi⟩ := am_find_at _ _ _ h
  have h1 := List.all_eq_true.mp (show g_lay.all (fun q => decide (q.2.2 < 100000)) = true by decide +kernel) _ (List.mem_of_getElem? hi)
  simp only [decide_eq_true_eq] at h1
  unfold r32
  omega
theorem am_fv_in {μ : am_M} (hG : am_G μ) {c : Int} {ci n k : Nat} {f : Nat × Int} (h : am_shp c = some (10 + ci, n)) (hf : am_fld ci k = some f) : am_in (am_fv μ c k f) := by
  obtain ⟨g1, g2, g3⟩ := (hG c _ h).2.2.2 ci rfl k f hf
  obtain ⟨t, d⟩ := f
  match t, g1, g2, g3 with
  | 0, g1, _, _ => exact am_in0 (g1 rfl)
  | 1, _, g2, _ => exact am_in1 (g2 rfl)
  | 2, _, _, g3 => exact am_in0 (by rcases g3 rfl with q | q <;> (rw [q]; unfold r32; omega))
  | 3, _, _, _ => exact am_in2 (by omega)
  | 4, _, _, _ => exact am_in2 (by omega)
  | n + 5, _, _, _ => exact am_in2 (by omega)
theorem am_sl_in {X : am_X} {nL : Nat} {e : am_E} {ls ls' : am_L} {st st' : am_S} {μ : am_M} {fl : am_FL} {ml : am_ML} {kl kL : am_KL} (hok : am_okI fl ml kl kL e = true) (hXl : ∀ L xs, X = some (L, xs) → L < 2147483648) (hG : am_G μ) (hls : ∀ q ∈ ls, am_in q.2) (hst : ∀ v ∈ st, am_in v) (he : am_sl X nL e ls st μ = some (ls', st')) : (∀ q ∈ ls', am_in q.2) ∧ ∀ v ∈ st', am_in v := by
  have one : ∀ {v : am_V} {r : am_S}, am_in v → (∀ w ∈ r, am_in w) → ∀ w ∈ v :: r, am_in w := fun h1 h2 w hw => (List.mem_cons.mp hw).elim (fun z => z ▸ h1) (h2 w)
  have oneq : ∀ {i : Nat} {v : am_V} {r : am_L}, am_in v → (∀ w ∈ r, am_in w.2) → ∀ w ∈ (i, v) :: r, am_in w.2 := fun h1 h2 w hw => (List.mem_cons.mp hw).elim (fun z => by rw [z]; exact h1) (h2 w)
  obtain ⟨pc, i, len, a, b, d⟩ := e
  cases i with
  | iload_n k =>
    obtain ⟨v, h1, h2, rfl, rfl⟩ := am_ld_inv he
    exact ⟨hls, one (hls _ (am_get_mem h1)) hst⟩
  | iload k =>
    obtain ⟨v, h1, h2, rfl, rfl⟩ := am_ld_inv he
    exact ⟨hls, one (hls _ (am_get_mem h1)) hst⟩
  | lload_n k =>
    obtain ⟨v, h1, h2, rfl, rfl⟩ := am_ld_inv he
    exact ⟨hls, one (hls _ (am_get_mem h1)) hst⟩
  | lload k =>
    obtain ⟨v, h1, h2, rfl, rfl⟩ := am_ld_inv he
    exact ⟨hls, one (hls _ (am_get_mem h1)) hst⟩
  | aload_n k =>
    obtain ⟨v, h1, h2, rfl, rfl⟩ := am_lda_inv he
    exact ⟨hls, one (hls _ (am_get_mem h1)) hst⟩
  | aload k =>
    obtain ⟨v, h1, h2, rfl, rfl⟩ := am_lda_inv he
    exact ⟨hls, one (hls _ (am_get_mem h1)) hst⟩
  | istore_n k =>
    obtain ⟨v, rfl, h2, h3, rfl⟩ := am_so1_inv he
    exact ⟨oneq (hst _ List.mem_cons_self) (fun w hw => hls w (am_rm1_sub hw)), fun w hw => hst w (List.mem_cons_of_mem _ hw)⟩
  | istore k =>
    obtain ⟨v, rfl, h2, h3, rfl⟩ := am_so1_inv he
    exact ⟨oneq (hst _ List.mem_cons_self) (fun w hw => hls w (am_rm1_sub hw)), fun w hw => hst w (List.mem_cons_of_mem _ hw)⟩
  | astore_n k =>
    obtain ⟨v, rfl, h2, h3, rfl⟩ := am_so1_inv he
    exact ⟨oneq (hst _ List.mem_cons_self) (fun w hw => hls w (am_rm1_sub hw)), fun w hw => hst w (List.mem_cons_of_mem _ hw)⟩
  | astore k =>
    obtain ⟨v, rfl, h2, h3, rfl⟩ := am_so1_inv he
    exact ⟨oneq (hst _ List.mem_cons_self) (fun w hw => hls w (am_rm1_sub hw)), fun w hw => hst w (List.mem_cons_of_mem _ hw)⟩
  | lstore_n k =>
    obtain ⟨v, rfl, h2, h3, rfl⟩ := am_so2_inv he
    exact ⟨oneq (hst _ List.mem_cons_self) (fun w hw => hls w (am_rm2_sub hw)), fun w hw => hst w (List.mem_cons_of_mem _ hw)⟩
  | lstore k =>
    obtain ⟨v, rfl, h2, h3, rfl⟩ := am_so2_inv he
    exact ⟨oneq (hst _ List.mem_cons_self) (fun w hw => hls w (am_rm2_sub hw)), fun w hw => hst w (List.mem_cons_of_mem _ hw)⟩
  | iinc k n =>
    obtain ⟨x, h1, h2, rfl, rfl⟩ := am_inc_inv he
    exact ⟨oneq (am_in0 (w32_r _)) (fun w hw => hls w (am_rm1_sub hw)), hst⟩
  | iconst n =>
    cases he
    simp only [am_okI, Bool.and_eq_true] at hok
    exact ⟨hls, one (am_in0 (am_b32_r hok.2)) hst⟩
  | bipush n =>
    cases he
    simp only [am_okI, Bool.and_eq_true] at hok
    exact ⟨hls, one (am_in0 (am_b32_r hok.2)) hst⟩
  | sipush n =>
    cases he
    simp only [am_okI, Bool.and_eq_true] at hok
    exact ⟨hls, one (am_in0 (am_b32_r hok.2)) hst⟩
  | ldc k =>
    cases he
    simp only [am_okI, Bool.and_eq_true] at hok
    exact ⟨hls, one (am_in0 (am_b32_r hok.2)) hst⟩
  | ldc_w k =>
    cases he
    simp only [am_okI, Bool.and_eq_true] at hok
    exact ⟨hls, one (am_in0 (am_b32_r hok.2)) hst⟩
  | lconst n =>
    cases he
    simp only [am_okI, Bool.and_eq_true] at hok
    exact ⟨hls, one (am_in1 (am_b64_r hok.2)) hst⟩
  | ldc2_w k =>
    cases he
    simp only [am_okI, Bool.and_eq_true] at hok
    exact ⟨hls, one (am_in1 (am_b64_r hok.2)) hst⟩
  | iadd =>
    obtain ⟨x, y, r, rfl, rfl, rfl⟩ := am_b2_inv (by simpa only [am_sl] using he)
    exact ⟨hls, one (am_in0 (w32_r _)) (fun w hw => hst w (List.mem_cons_of_mem _ (List.mem_cons_of_mem _ hw)))⟩
  | isub =>
    obtain ⟨x, y, r, rfl, rfl, rfl⟩ := am_b2_inv (by simpa only [am_sl] using he)
    exact ⟨hls, one (am_in0 (w32_r _)) (fun w hw => hst w (List.mem_cons_of_mem _ (List.mem_cons_of_mem _ hw)))⟩
  | imul =>
    obtain ⟨x, y, r, rfl, rfl, rfl⟩ := am_b2_inv (by simpa only [am_sl] using he)
    exact ⟨hls, one (am_in0 (w32_r _)) (fun w hw => hst w (List.mem_cons_of_mem _ (List.mem_cons_of_mem _ hw)))⟩
  | iand =>
    obtain ⟨x, y, r, rfl, rfl, rfl⟩ := am_b2_inv (by simpa only [am_sl] using he)
    exact ⟨hls, one (am_in0 (r32_i _)) (fun w hw => hst w (List.mem_cons_of_mem _ (List.mem_cons_of_mem _ hw)))⟩
  | ior =>
    obtain ⟨x, y, r, rfl, rfl, rfl⟩ := am_b2_inv (by simpa only [am_sl] using he)
    exact ⟨hls, one (am_in0 (r32_i _)) (fun w hw => hst w (List.mem_cons_of_mem _ (List.mem_cons_of_mem _ hw)))⟩
  | ixor =>
    obtain ⟨x, y, r, rfl, rfl, rfl⟩ := am_b2_inv (by simpa only [am_sl] using he)
    exact ⟨hls, one (am_in0 (r32_i _)) (fun w hw => hst w (List.mem_cons_of_mem _ (List.mem_cons_of_mem _ hw)))⟩
  | ishl =>
    obtain ⟨x, y, r, rfl, rfl, rfl⟩ := am_b2_inv (by simpa only [am_sl] using he)
    exact ⟨hls, one (am_in0 (r32_i _)) (fun w hw => hst w (List.mem_cons_of_mem _ (List.mem_cons_of_mem _ hw)))⟩
  | ishr =>
    obtain ⟨x, y, r, rfl, rfl, rfl⟩ := am_b2_inv (by simpa only [am_sl] using he)
    exact ⟨hls, one (am_in0 (r32_i _)) (fun w hw => hst w (List.mem_cons_of_mem _ (List.mem_cons_of_mem _ hw)))⟩
  | ladd =>
    obtain ⟨x, y, r, rfl, rfl, rfl⟩ := am_b2_inv (by simpa only [am_sl] using he)
    exact ⟨hls, one (am_in1 (w64_r _)) (fun w hw => hst w (List.mem_cons_of_mem _ (List.mem_cons_of_mem _ hw)))⟩
  | lsub =>
    obtain ⟨x, y, r, rfl, rfl, rfl⟩ := am_b2_inv (by simpa only [am_sl] using he)
    exact ⟨hls, one (am_in1 (w64_r _)) (fun w hw => hst w (List.mem_cons_of_mem _ (List.mem_cons_of_mem _ hw)))⟩
  | lmul =>
    obtain ⟨x, y, r, rfl, rfl, rfl⟩ := am_b2_inv (by simpa only [am_sl] using he)
    exact ⟨hls, one (am_in1 (w64_r _)) (fun w hw => hst w (List.mem_cons_of_mem _ (List.mem_cons_of_mem _ hw)))⟩
  | land =>
    obtain ⟨x, y, r, rfl, rfl, rfl⟩ := am_b2_inv (by simpa only [am_sl] using he)
    exact ⟨hls, one (am_in1 (r64_i _)) (fun w hw => hst w (List.mem_cons_of_mem _ (List.mem_cons_of_mem _ hw)))⟩
  | lor =>
    obtain ⟨x, y, r, rfl, rfl, rfl⟩ := am_b2_inv (by simpa only [am_sl] using he)
    exact ⟨hls, one (am_in1 (r64_i _)) (fun w hw => hst w (List.mem_cons_of_mem _ (List.mem_cons_of_mem _ hw)))⟩
  | iushr =>
    obtain ⟨x, y, r, rfl, rfl, rfl⟩ := am_b2_inv (by simpa only [am_sl] using he)
    exact ⟨hls, one (am_in0 (r32_i _)) (fun w hw => hst w (List.mem_cons_of_mem _ (List.mem_cons_of_mem _ hw)))⟩
  | lshl =>
    obtain ⟨x, y, r, rfl, rfl, rfl⟩ := am_b2_inv (by simpa only [am_sl] using he)
    exact ⟨hls, one (am_in1 (r64_i _)) (fun w hw => hst w (List.mem_cons_of_mem _ (List.mem_cons_of_mem _ hw)))⟩
  | lushr =>
    obtain ⟨x, y, r, rfl, rfl, rfl⟩ := am_b2_inv (by simpa only [am_sl] using he)
    exact ⟨hls, one (am_in1 (r64_i _)) (fun w hw => hst w (List.mem_cons_of_mem _ (List.mem_cons_of_mem _ hw)))⟩
  | lcmp =>
    obtain ⟨x, y, r, rfl, rfl, rfl⟩ := am_b2_inv (by simpa only [am_sl] using he)
    exact ⟨hls, one (am_in0 (lCmp_r _ _)) (fun w hw => hst w (List.mem_cons_of_mem _ (List.mem_cons_of_mem _ hw)))⟩
  | idiv =>
    obtain ⟨x, y, r, rfl, hy, hy2, rfl, rfl⟩ := am_dv_inv he
    exact ⟨hls, one (am_in0 (r32_i _)) (fun w hw => hst w (List.mem_cons_of_mem _ (List.mem_cons_of_mem _ hw)))⟩
  | irem =>
    obtain ⟨x, y, r, rfl, hy, hy2, rfl, rfl⟩ := am_dv_inv he
    exact ⟨hls, one (am_in0 (r32_i _)) (fun w hw => hst w (List.mem_cons_of_mem _ (List.mem_cons_of_mem _ hw)))⟩
  | ineg =>
    obtain ⟨x, r, rfl, rfl, rfl⟩ := am_b1_inv (by simpa only [am_sl] using he)
    exact ⟨hls, one (am_in0 (w32_r _)) (fun w hw => hst w (List.mem_cons_of_mem _ hw))⟩
  | i2l =>
    obtain ⟨x, r, rfl, rfl, rfl⟩ := am_b1_inv (by simpa only [am_sl] using he)
    have h := (hst _ List.mem_cons_self).1 rfl
    exact ⟨hls, one (am_in1 (by unfold r32 at h; unfold r64; simp only at h; omega)) (fun w hw => hst w (List.mem_cons_of_mem _ hw))⟩
  | l2i =>
    obtain ⟨x, r, rfl, rfl, rfl⟩ := am_b1_inv (by simpa only [am_sl] using he)
    exact ⟨hls, one (am_in0 (w32_r _)) (fun w hw => hst w (List.mem_cons_of_mem _ hw))⟩
  | dup =>
    obtain ⟨x, r, rfl, h1, rfl, rfl⟩ := am_dup_inv he
    exact ⟨hls, one (hst _ List.mem_cons_self) hst⟩
  | dup2 =>
    obtain ⟨y, x, r, rfl, h1, h2, rfl, rfl⟩ := am_dup2_inv he
    exact ⟨hls, one (hst _ List.mem_cons_self) (one (hst _ (List.mem_cons_of_mem _ List.mem_cons_self)) hst)⟩
  | pop =>
    obtain ⟨x, rfl, h1, rfl⟩ := am_pop_inv he
    exact ⟨hls, fun w hw => hst w (List.mem_cons_of_mem _ hw)⟩
  | getfield k =>
    obtain ⟨x, r, f, rfl, h1, h2, rfl, rfl⟩ := am_gf_inv he
    obtain ⟨n, hn⟩ := am_isO_inv h1
    exact ⟨hls, one (am_fv_in hG hn h2) (fun w hw => hst w (List.mem_cons_of_mem _ hw))⟩
  | arraylength =>
    rcases am_len_inv he with ⟨x, k, r, rfl, h1, h2, rfl, rfl⟩ | ⟨x, q, r, rfl, h1, rfl, rfl⟩
    · exact ⟨hls, one (am_in0 (am_len_r h1)) (fun w hw => hst w (List.mem_cons_of_mem _ hw))⟩
    · have := hXl q.1 q.2 h1
      exact ⟨hls, one (am_in0 (by unfold r32; omega)) (fun w hw => hst w (List.mem_cons_of_mem _ hw))⟩
  | _ => cases he
theorem am_noK {c : Int} {n m : Nat} (h : n + 4 < 10) : ¬ am_shp c = some (n + 4, m) := by
  intro h1
  obtain ⟨i, hi⟩ := am_find_at _ _ _ h1
  have h2 := List.all_eq_true.mp (show g_lay.all (fun q => decide (q.2.1 < 4 ∨ 10 ≤ q.2.1)) = true by decide +kernel) _ (List.mem_of_getElem? hi)
  simp only [decide_eq_true_eq] at h2
  omega
section AMT
variable {p : Program} {l : Launch} {e : Env} {R : Room} {s : State} {m : MethodId} {args : Array Value} {below : List Frame} {meth : Method} {c : Code} {H : Heap} {locs : List Loc} {cells slots : Nat} {Q : State → Prop}
variable {cc : ByteArray} {own : String} {nL : Nat} {fl : am_FL} {ml : am_ML} {kl kL : am_KL} {dC : Nat → ClassId} {dI : Nat → Nat → Nat} {cT : Nat → ClassId} {ad : Int → Nat} {sb : Nat} {A : Nat → Prop} {H0 : Heap}
theorem am_sl_W (C0 : am_cx p s m args c cc nL own fl kl kL dC dI cT) {X : am_X} (hX : am_Xok X sb s A H0) (hS : va_S A H0 H locs) {μ : am_M} (hP : va_P (dC, dI) g_cl (am_wd ad cT μ) H) {en : am_E} {larr : Array Slot} {ls ls' : am_L} {st st' : am_S} (hl : lv_has larr nL (ls.map (am_cvq ad sb))) (hls : ∀ q ∈ ls, am_in q.2) (hst : ∀ v ∈ st, am_in v) (hok : am_okE fl ml kl kL cc en = true) (he : am_sl X nL en ls st μ = some (ls', st'))
    (kk : ∀ larr' : Array Slot, lv_has larr' nL (ls'.map (am_cvq ad sb)) → W p l e R s m args below meth c H locs cells slots Q (F0 m (en.1 + en.2.2.1) larr' (st'.map (am_cv ad sb)))) : W p l e R s m args below meth c H locs cells slots Q (F0 m en.1 larr (st.map (am_cv ad sb))) := by
  have C1 := C0
  obtain ⟨hx, hb, hml, hown, hts, hNW, hK, hfl, hkl, hkL⟩ := C1
  obtain ⟨pc, i, len, a, b, d⟩ := en
  unfold am_okE at hok
  rw [Bool.and_eq_true, Bool.and_eq_true] at hok
  obtain ⟨hd, hlen, hok⟩ := hok
  have hd := of_decide_eq_true hd
  have hlen := of_decide_eq_true hlen
  simp only at hd
  cases i with
  | iload_n k =>
    have hlen : 1 = len := by simpa [am_lenOf] using hlen
    subst hlen
    obtain ⟨v, h1, h2, rfl, rfl⟩ := am_ld_inv he
    have h3 := am_get_at hl h1
    rw [am_cv0 h2] at h3
    refine lv_iload_n (k := k) hx hb hd rfl h3 ?_
    have kk := kk larr hl
    rw [List.map_cons, am_cv0 h2] at kk
    exact kk
  | iload k =>
    have hlen : 2 = len := by simpa [am_lenOf] using hlen
    subst hlen
    obtain ⟨v, h1, h2, rfl, rfl⟩ := am_ld_inv he
    have h3 := am_get_at hl h1
    rw [am_cv0 h2] at h3
    refine lv_iload hx hb hd h3 ?_
    have kk := kk larr hl
    rw [List.map_cons, am_cv0 h2] at kk
    exact kk
  | lload_n k =>
    have hlen : 1 = len := by simpa [am_lenOf] using hlen
    subst hlen
    obtain ⟨v, h1, h2, rfl, rfl⟩ := am_ld_inv he
    have h3 := am_get_at hl h1
    rw [am_cv1 h2] at h3
    refine lv_lload_n (k := k) hx hb hd rfl h3 ?_
    have kk := kk larr hl
    rw [List.map_cons, am_cv1 h2] at kk
    exact kk
  | lload k =>
    have hlen : 2 = len := by simpa [am_lenOf] using hlen
    subst hlen
    obtain ⟨v, h1, h2, rfl, rfl⟩ := am_ld_inv he
    have h3 := am_get_at hl h1
    rw [am_cv1 h2] at h3
    refine lv_lload hx hb hd h3 ?_
    have kk := kk larr hl
    rw [List.map_cons, am_cv1 h2] at kk
    exact kk
  | aload_n k =>
    have hlen : 1 = len := by simpa [am_lenOf] using hlen
    subst hlen
    obtain ⟨v, h1, h2, rfl, rfl⟩ := am_lda_inv he
    have h3 := am_get_at hl h1
    have kk := kk larr hl
    rw [List.map_cons] at kk
    rcases am_cvr (ad := ad) (sb := sb) h2 with q | ⟨y, q⟩
    · rw [q] at h3 kk
      exact lv_aload_nN (k := k) hx hb hd rfl h3 kk
    · rw [q] at h3 kk
      exact lv_aload_n (k := k) hx hb hd rfl h3 kk
  | aload k =>
    have hlen : 2 = len := by simpa [am_lenOf] using hlen
    subst hlen
    obtain ⟨v, h1, h2, rfl, rfl⟩ := am_lda_inv he
    have h3 := am_get_at hl h1
    have kk := kk larr hl
    rw [List.map_cons] at kk
    rcases am_cvr (ad := ad) (sb := sb) h2 with q | ⟨y, q⟩
    · rw [q] at h3 kk
      exact lv_aloadN hx hb hd h3 kk
    · rw [q] at h3 kk
      exact lv_aload hx hb hd h3 kk
  | istore_n k =>
    have hlen : 1 = len := by simpa [am_lenOf] using hlen
    subst hlen
    obtain ⟨v, rfl, h2, h3, rfl⟩ := am_so1_inv he
    rw [List.map_cons, am_cv0 h2]
    refine lv_istore_n (k := k) (i := k.val) hx hb hd rfl hl h3 rfl (fun larr' hl' => kk larr' ?_)
    rw [List.map_cons, am_rm1_map]
    show lv_has larr' nL ((_, am_cv ad sb v) :: _)
    rw [am_cv0 h2]
    exact hl'
  | istore k =>
    have hlen : 2 = len := by simpa [am_lenOf] using hlen
    subst hlen
    obtain ⟨v, rfl, h2, h3, rfl⟩ := am_so1_inv he
    rw [List.map_cons, am_cv0 h2]
    refine lv_istore (i := k) hx hb hd hl h3 rfl (fun larr' hl' => kk larr' ?_)
    rw [List.map_cons, am_rm1_map]
    show lv_has larr' nL ((_, am_cv ad sb v) :: _)
    rw [am_cv0 h2]
    exact hl'
  | lstore_n k =>
    have hlen : 1 = len := by simpa [am_lenOf] using hlen
    subst hlen
    obtain ⟨v, rfl, h2, h3, rfl⟩ := am_so2_inv he
    rw [List.map_cons, am_cv1 h2]
    refine lv_lstore_n (k := k) (i := k.val) hx hb hd rfl hl h3 rfl (fun larr' hl' => kk larr' ?_)
    rw [List.map_cons, am_rm2_map]
    show lv_has larr' nL ((_, am_cv ad sb v) :: _)
    rw [am_cv1 h2]
    exact hl'
  | lstore k =>
    have hlen : 2 = len := by simpa [am_lenOf] using hlen
    subst hlen
    obtain ⟨v, rfl, h2, h3, rfl⟩ := am_so2_inv he
    rw [List.map_cons, am_cv1 h2]
    refine lv_lstore (i := k) hx hb hd hl h3 rfl (fun larr' hl' => kk larr' ?_)
    rw [List.map_cons, am_rm2_map]
    show lv_has larr' nL ((_, am_cv ad sb v) :: _)
    rw [am_cv1 h2]
    exact hl'
  | astore_n k =>
    have hlen : 1 = len := by simpa [am_lenOf] using hlen
    subst hlen
    obtain ⟨v, rfl, h2, h3, rfl⟩ := am_so1_inv he
    have kk' : ∀ larr' : Array Slot, lv_has larr' nL ((_, am_cv ad sb v) :: (ls.map (am_cvq ad sb)).filter (fun q => !(q.1 == _) && !(q.1 + 1 == _ && q.2.category == 2))) → _ := fun larr' hl' => kk larr' (by rw [List.map_cons, am_rm1_map]; exact hl')
    rw [List.map_cons]
    rcases am_cvr (ad := ad) (sb := sb) (v := v) (by omega) with q | ⟨y, q⟩
    · rw [q] at kk' ⊢
      exact lv_astore_nN (k := k) (i := k.val) hx hb hd rfl hl h3 rfl kk'
    · rw [q] at kk' ⊢
      exact lv_astore_n (k := k) (i := k.val) hx hb hd rfl hl h3 rfl kk'
  | astore k =>
    have hlen : 2 = len := by simpa [am_lenOf] using hlen
    subst hlen
    obtain ⟨v, rfl, h2, h3, rfl⟩ := am_so1_inv he
    have kk' : ∀ larr' : Array Slot, lv_has larr' nL ((_, am_cv ad sb v) :: (ls.map (am_cvq ad sb)).filter (fun q => !(q.1 == _) && !(q.1 + 1 == _ && q.2.category == 2))) → _ := fun larr' hl' => kk larr' (by rw [List.map_cons, am_rm1_map]; exact hl')
    rw [List.map_cons]
    rcases am_cvr (ad := ad) (sb := sb) (v := v) (by omega) with q | ⟨y, q⟩
    · rw [q] at kk' ⊢
      exact lv_astoreN (i := k) hx hb hd hl h3 rfl kk'
    · rw [q] at kk' ⊢
      exact lv_astore (i := k) hx hb hd hl h3 rfl kk'
  | iinc k n =>
    have hlen : 3 = len := by simpa [am_lenOf] using hlen
    subst hlen
    obtain ⟨x, h1, h2, rfl, rfl⟩ := am_inc_inv he
    obtain ⟨j, hj⟩ := List.getElem?_of_mem (List.mem_map_of_mem (f := am_cvq ad sb) (am_get_mem h1))
    refine lv_iinc hx hb hd hl (k := j) hj (v := Int32.ofInt (w32 (x + n))) (am_e_add x n) h2 rfl (fun larr' hl' => kk larr' ?_)
    rw [List.map_cons, am_rm1_map]
    exact hl'
  | iconst n =>
    have hlen : 1 = len := by simpa [am_lenOf] using hlen
    subst hlen
    cases he
    unfold am_okI at hok
    rw [Bool.and_eq_true] at hok
    exact lv_iconst hx hb hd (of_decide_eq_true hok.1) (kk larr hl)
  | bipush n =>
    have hlen : 2 = len := by simpa [am_lenOf] using hlen
    subst hlen
    cases he
    unfold am_okI at hok
    rw [Bool.and_eq_true] at hok
    exact lv_bipush hx hb hd (of_decide_eq_true hok.1) (kk larr hl)
  | sipush n =>
    have hlen : 3 = len := by simpa [am_lenOf] using hlen
    subst hlen
    cases he
    unfold am_okI at hok
    rw [Bool.and_eq_true] at hok
    exact lv_sipush hx hb hd (of_decide_eq_true hok.1) (kk larr hl)
  | lconst n =>
    have hlen : 1 = len := by simpa [am_lenOf] using hlen
    subst hlen
    cases he
    unfold am_okI at hok
    rw [Bool.and_eq_true] at hok
    exact lv_lconst hx hb hd (of_decide_eq_true hok.1) (kk larr hl)
  | ldc k =>
    have hlen : 2 = len := by simpa [am_lenOf] using hlen
    subst hlen
    cases he
    unfold am_okI at hok
    rw [Bool.and_eq_true] at hok
    exact lv_ldc hx hb hown (hts _ (hkl _ (of_decide_eq_true hok.1))) hd (kk larr hl)
  | ldc_w k =>
    have hlen : 3 = len := by simpa [am_lenOf] using hlen
    subst hlen
    cases he
    unfold am_okI at hok
    rw [Bool.and_eq_true] at hok
    exact lv_ldcw hx hb hown (hts _ (hkl _ (of_decide_eq_true hok.1))) hd (kk larr hl)
  | ldc2_w k =>
    have hlen : 3 = len := by simpa [am_lenOf] using hlen
    subst hlen
    cases he
    unfold am_okI at hok
    rw [Bool.and_eq_true] at hok
    exact lv_ldc2 hx hb hown (hts _ (hkL _ (of_decide_eq_true hok.1))) hd (kk larr hl)
  | iadd =>
    have hlen : 1 = len := by simpa [am_lenOf] using hlen
    subst hlen
    obtain ⟨x, y, r, rfl, rfl, rfl⟩ := am_b2_inv (by simpa only [am_sl] using he)
    refine lv_iadd hx hb hd ?_
    have kk := kk larr hl
    rw [am_e_add x y]
    exact kk
  | isub =>
    have hlen : 1 = len := by simpa [am_lenOf] using hlen
    subst hlen
    obtain ⟨x, y, r, rfl, rfl, rfl⟩ := am_b2_inv (by simpa only [am_sl] using he)
    refine lv_isub hx hb hd ?_
    have kk := kk larr hl
    rw [am_e_sub x y]
    exact kk
  | imul =>
    have hlen : 1 = len := by simpa [am_lenOf] using hlen
    subst hlen
    obtain ⟨x, y, r, rfl, rfl, rfl⟩ := am_b2_inv (by simpa only [am_sl] using he)
    refine lv_imul hx hb hd ?_
    have kk := kk larr hl
    rw [am_e_mul x y]
    exact kk
  | iand =>
    have hlen : 1 = len := by simpa [am_lenOf] using hlen
    subst hlen
    obtain ⟨x, y, r, rfl, rfl, rfl⟩ := am_b2_inv (by simpa only [am_sl] using he)
    refine lv_iand hx hb hd ?_
    have kk := kk larr hl
    rw [am_e_iand x y]
    exact kk
  | ior =>
    have hlen : 1 = len := by simpa [am_lenOf] using hlen
    subst hlen
    obtain ⟨x, y, r, rfl, rfl, rfl⟩ := am_b2_inv (by simpa only [am_sl] using he)
    refine lv_ior hx hb hd ?_
    have kk := kk larr hl
    rw [am_e_ior x y]
    exact kk
  | ixor =>
    have hlen : 1 = len := by simpa [am_lenOf] using hlen
    subst hlen
    obtain ⟨x, y, r, rfl, rfl, rfl⟩ := am_b2_inv (by simpa only [am_sl] using he)
    refine lv_ixor hx hb hd ?_
    have kk := kk larr hl
    rw [am_e_ixor x y]
    exact kk
  | ishl =>
    have hlen : 1 = len := by simpa [am_lenOf] using hlen
    subst hlen
    obtain ⟨x, y, r, rfl, rfl, rfl⟩ := am_b2_inv (by simpa only [am_sl] using he)
    refine lv_ishl hx hb hd ?_
    have kk := kk larr hl
    rw [am_e_ishl x y]
    exact kk
  | ishr =>
    have hlen : 1 = len := by simpa [am_lenOf] using hlen
    subst hlen
    obtain ⟨x, y, r, rfl, rfl, rfl⟩ := am_b2_inv (by simpa only [am_sl] using he)
    refine lv_ishr hx hb hd ?_
    have kk := kk larr hl
    rw [am_e_ishr x y]
    exact kk
  | ladd =>
    have hlen : 1 = len := by simpa [am_lenOf] using hlen
    subst hlen
    obtain ⟨x, y, r, rfl, rfl, rfl⟩ := am_b2_inv (by simpa only [am_sl] using he)
    refine lv_ladd hx hb hd ?_
    have kk := kk larr hl
    rw [am_f_add x y]
    exact kk
  | lsub =>
    have hlen : 1 = len := by simpa [am_lenOf] using hlen
    subst hlen
    obtain ⟨x, y, r, rfl, rfl, rfl⟩ := am_b2_inv (by simpa only [am_sl] using he)
    refine lv_lsub hx hb hd ?_
    have kk := kk larr hl
    rw [am_f_sub x y]
    exact kk
  | lmul =>
    have hlen : 1 = len := by simpa [am_lenOf] using hlen
    subst hlen
    obtain ⟨x, y, r, rfl, rfl, rfl⟩ := am_b2_inv (by simpa only [am_sl] using he)
    refine lv_lmul hx hb hd ?_
    have kk := kk larr hl
    rw [am_f_mul x y]
    exact kk
  | land =>
    have hlen : 1 = len := by simpa [am_lenOf] using hlen
    subst hlen
    obtain ⟨x, y, r, rfl, rfl, rfl⟩ := am_b2_inv (by simpa only [am_sl] using he)
    refine lv_land hx hb hd ?_
    have kk := kk larr hl
    rw [am_e_land x y]
    exact kk
  | lor =>
    have hlen : 1 = len := by simpa [am_lenOf] using hlen
    subst hlen
    obtain ⟨x, y, r, rfl, rfl, rfl⟩ := am_b2_inv (by simpa only [am_sl] using he)
    refine lv_lor hx hb hd ?_
    have kk := kk larr hl
    rw [am_e_lor x y]
    exact kk
  | iushr =>
    have hlen : 1 = len := by simpa [am_lenOf] using hlen
    subst hlen
    obtain ⟨x, y, r, rfl, rfl, rfl⟩ := am_b2_inv (by simpa only [am_sl] using he)
    exact lv_iushr hx hb hd (Int32.ofInt_toInt _).symm (kk larr hl)
  | lshl =>
    have hlen : 1 = len := by simpa [am_lenOf] using hlen
    subst hlen
    obtain ⟨x, y, r, rfl, rfl, rfl⟩ := am_b2_inv (by simpa only [am_sl] using he)
    exact lv_lshl hx hb hd (Int64.ofInt_toInt _).symm (kk larr hl)
  | lushr =>
    have hlen : 1 = len := by simpa [am_lenOf] using hlen
    subst hlen
    obtain ⟨x, y, r, rfl, rfl, rfl⟩ := am_b2_inv (by simpa only [am_sl] using he)
    exact lv_lushr hx hb hd (Int64.ofInt_toInt _).symm (kk larr hl)
  | idiv =>
    have hlen : 1 = len := by simpa [am_lenOf] using hlen
    subst hlen
    obtain ⟨x, y, r, rfl, hy, hy2, rfl, rfl⟩ := am_dv_inv he
    have hne : ¬ Int32.ofInt y = 0 := fun z => hy ((am_e_eq hy2 (by unfold r32; omega)).mp (z.trans (rfl : (0 : Int32) = Int32.ofInt 0)))
    refine lv_idiv hx hb hd hne ?_
    have kk := kk larr hl
    rw [List.map_cons, am_cv0 rfl] at kk
    have e1 : Int32.ofInt (aDiv x y) = _ := Int32.ofInt_toInt _
    rw [e1] at kk
    exact kk
  | irem =>
    have hlen : 1 = len := by simpa [am_lenOf] using hlen
    subst hlen
    obtain ⟨x, y, r, rfl, hy, hy2, rfl, rfl⟩ := am_dv_inv he
    have hne : ¬ Int32.ofInt y = 0 := fun z => hy ((am_e_eq hy2 (by unfold r32; omega)).mp (z.trans (rfl : (0 : Int32) = Int32.ofInt 0)))
    refine lv_irem hx hb hd hne ?_
    have kk := kk larr hl
    rw [List.map_cons, am_cv0 rfl] at kk
    have e1 : Int32.ofInt (aRem x y) = _ := Int32.ofInt_toInt _
    rw [e1] at kk
    exact kk
  | lcmp =>
    have hlen : 1 = len := by simpa [am_lenOf] using hlen
    subst hlen
    obtain ⟨x, y, r, rfl, rfl, rfl⟩ := am_b2_inv (by simpa only [am_sl] using he)
    refine W.lcmp hx hb hd ?_
    rw [am_f_cmp ((hst _ (List.mem_cons_of_mem _ List.mem_cons_self)).2 rfl) ((hst _ List.mem_cons_self).2 rfl)]
    exact kk larr hl
  | ineg =>
    have hlen : 1 = len := by simpa [am_lenOf] using hlen
    subst hlen
    obtain ⟨x, r, rfl, rfl, rfl⟩ := am_b1_inv (by simpa only [am_sl] using he)
    refine lv_ineg hx hb hd ?_
    rw [am_e_neg]
    exact kk larr hl
  | i2l =>
    have hlen : 1 = len := by simpa [am_lenOf] using hlen
    subst hlen
    obtain ⟨x, r, rfl, rfl, rfl⟩ := am_b1_inv (by simpa only [am_sl] using he)
    exact lv_i2l hx hb hd (am_e_l ((hst _ List.mem_cons_self).1 rfl)) (kk larr hl)
  | l2i =>
    have hlen : 1 = len := by simpa [am_lenOf] using hlen
    subst hlen
    obtain ⟨x, r, rfl, rfl, rfl⟩ := am_b1_inv (by simpa only [am_sl] using he)
    exact lv_l2i hx hb hd am_f_i (kk larr hl)
  | dup =>
    have hlen : 1 = len := by simpa [am_lenOf] using hlen
    subst hlen
    obtain ⟨x, r, rfl, h1, rfl, rfl⟩ := am_dup_inv he
    exact lv_dup hx hb hd (am_cat1 h1) (kk larr hl)
  | dup2 =>
    have hlen : 1 = len := by simpa [am_lenOf] using hlen
    subst hlen
    obtain ⟨y, x, r, rfl, h1, h2, rfl, rfl⟩ := am_dup2_inv he
    exact lv_dup2_11 hx hb hd (am_cat1 h2) (am_cat1 h1) (kk larr hl)
  | pop =>
    have hlen : 1 = len := by simpa [am_lenOf] using hlen
    subst hlen
    obtain ⟨x, rfl, h1, rfl⟩ := am_pop_inv he
    exact lv_pop hx hb hd (am_cat1 h1) (kk larr hl)
  | getfield k =>
    have hlen : 3 = len := by simpa [am_lenOf] using hlen
    subst hlen
    obtain ⟨x, r, f, rfl, h1, h2, rfl, rfl⟩ := am_gf_inv he
    unfold am_okI at hok
    rw [Bool.or_eq_true] at hok
    exact am_W_get C0 hP (hok.imp (fun z => of_decide_eq_true z) (fun z => of_decide_eq_true z)) hd h1 h2 (kk larr hl)
  | arraylength =>
    have hlen : 1 = len := by simpa [am_lenOf] using hlen
    subst hlen
    rcases am_len_inv he with ⟨x, k, r, rfl, h1, h2, rfl, rfl⟩ | ⟨x, q, r, rfl, h1, rfl, rfl⟩
    · obtain ⟨i, hi, hw⟩ := am_wd_at (ad := ad) (cT := cT) (μ := μ) h1
      have hx0 : am_cv ad sb (2, x) = .ref (ad x) := by rw [am_cv2 rfl]; exact if_neg (am_shp_pos h1)
      rw [List.map_cons, hx0]
      have kk := kk larr hl
      obtain ⟨kn, n⟩ := k
      match kn, h2 with
      | 0, _ => exact va_alen hx hb hK hP i 0 hw (ty := .int) rfl rfl hd kk
      | 1, _ => exact va_alen hx hb hK hP i 1 hw (ty := .long) rfl rfl hd kk
      | 2, _ => exact va_alen hx hb hK hP i 2 hw (ty := .int) rfl rfl hd kk
      | 3, _ => exact va_alen hx hb hK hP i 3 hw (ty := .object "BurningSlips$Machine") rfl rfl hd kk
      | n + 4, h => exact absurd h1 (am_noK h)
    · obtain ⟨L, xs⟩ := q
      obtain ⟨hL, hXX, hbl, hbA⟩ := hX L xs h1
      exact va_slen hx hb hXX hbl hbA hS hd (kk larr hl)
  | _ => cases he
end AMT
