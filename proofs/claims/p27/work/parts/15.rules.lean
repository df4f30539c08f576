/-! Rules for runs, in the form in which decompiled text is read. -/
abbrev am_O : Type := Option (Int × am_M)
def am_res (t : Nat) (q : Int × am_M) : am_R := match t with
  | 2 => (none, q.2)
  | _ => (some (t, q.1), q.2)
def q_ld (n c i : Int) (μ : am_M) (k : Int → am_O) : am_O := if 0 ≤ i ∧ i < n then k (μ c i) else none
def q_st (n c i v : Int) (μ : am_M) (k : am_M → am_O) : am_O := if 0 ≤ i ∧ i < n then k (m_st μ c i v) else none
def q_stb (n c i v : Int) (μ : am_M) (k : am_M → am_O) : am_O := if (0 ≤ i ∧ i < n) ∧ (v = 0 ∨ v = 1) then k (m_st μ c i v) else none
/-- the length of a row of a kind, by its number; -1: it is none -/
def am_lenK (kd : Nat) (c : Int) : Int := match am_shp c with
  | some k => if k.1 = kd then (k.2 : Int) else -1
  | none => -1
def am_lenA (c : Int) : Int := match am_shp c with
  | some k => if k.1 < 10 then (k.2 : Int) else -1
  | none => -1
def q_len (c : Int) (k : Int → am_O) : am_O := if 0 ≤ am_lenA c then k (am_lenA c) else none
def q_pf (c i v : Int) (μ : am_M) (k : am_M → am_O) : am_O := k (m_st μ c i v)
def q_pfb (c i v : Int) (μ : am_M) (k : am_M → am_O) : am_O := if v = 0 ∨ v = 1 then k (m_st μ c i v) else none
def q_gd (ci : Nat) (c : Int) (k : am_O) : am_O := if am_isO c ci = true then k else none
def q_lt (e : Int) (k : Int → am_O) : am_O := k e
def q_bd (x : am_O) (k : Int → am_M → am_O) : am_O := match x with
  | some q => k q.1 q.2
  | none => none
def q_rb (v : Int) (x : am_O) : am_O := if v = 0 ∨ v = 1 then x else none
def q_nz (y : Int) (x : am_O) : am_O := if y ≠ 0 ∧ (-2147483648 ≤ y ∧ y < 2147483648) then x else none
def q_cp (c0 sp c1 dp n : Int) (μ : am_M) (k : am_M → am_O) : am_O := if 0 ≤ sp ∧ 0 ≤ dp ∧ 0 ≤ n ∧ sp + n ≤ am_lenK 0 c0 ∧ dp + n ≤ am_lenK 0 c1 then k (am_cpy μ c0 sp c1 dp n) else none
theorem am_FU_ex : ∃ n : Nat, 1000000000 ≤ n := ⟨1000000000, Nat.le_refl _⟩
noncomputable def am_FU : Nat := Classical.choose am_FU_ex
theorem am_FU_ge : 1000000000 ≤ am_FU := Classical.choose_spec am_FU_ex
theorem am_lenK_of {kd : Nat} {c n : Int} (h : am_lenK kd c = n) (hn : 0 ≤ n) : ∃ N : Nat, am_shp c = some (kd, N) ∧ (N : Int) = n := by
  unfold am_lenK at h
  cases e : am_shp c with
  | none => rw [e] at h; simp only at h; omega
  | some k =>
    obtain ⟨a, N⟩ := k
    rw [e] at h
    simp only at h
    by_cases q : a = kd
    · rw [if_pos q] at h
      exact ⟨N, by rw [q], h⟩
    · rw [if_neg q] at h
      omega
section RN
variable {X : am_X} {CR : am_CR} {nL : Nat} {rt : Option FieldType} {C : List am_E} {pc : Nat} {ls : am_L} {st r : am_S} {μ : am_M} {res : am_R} {e : am_E} {q : Int × am_M}
def am_sls (X : am_X) (nL : Nat) (C : List am_E) : Nat → Nat → am_L → am_S → am_M → Option (Nat × am_L × am_S)
  | 0, pc, ls, st, _ => some (pc, ls, st)
  | n + 1, pc, ls, st, μ => match am_at C pc with
    | some e => (match am_sl X nL e ls st μ with
      | some x => am_sls X nL C n (pc + e.2.2.1) x.1 x.2 μ
      | none => none)
    | none => none
theorem rn_sls : ∀ (n : Nat) {pc pc' : Nat} {ls ls' : am_L} {st st' : am_S}, am_sls X nL C n pc ls st μ = some (pc', ls', st') → am_run X CR nL rt C pc' ls' st' μ res → am_run X CR nL rt C pc ls st μ res
  | 0, pc, pc', ls, ls', st, st', h, k => by cases h; exact k
  | n + 1, pc, pc', ls, ls', st, st', h, k => by
    unfold am_sls at h
    cases he : am_at C pc with
    | none => rw [he] at h; cases h
    | some e =>
      rw [he] at h
      simp only at h
      cases hs : am_sl X nL e ls st μ with
      | none => rw [hs] at h; cases h
      | some x =>
        rw [hs] at h
        exact fun P hP => hP.1 e pc ls st μ x.1 x.2 he hs (rn_sls n h k P hP)
theorem rn_sub (ks : List Nat) {ls' : am_L} (h : ks.filterMap (fun k => ls[k]?) = ls') (k : am_run X CR nL rt C pc ls' st μ res) : am_run X CR nL rt C pc ls st μ res := fun P hP => hP.2.2.2.2.2.2.2.2.2.2.2.2.2.2.2.2.2.2.2.2.2.2.2.2 pc ls ls' st μ (fun q hq => by
  rw [← h] at hq
  obtain ⟨i, -, hi⟩ := List.mem_filterMap.mp hq
  exact List.mem_of_getElem? hi) (k P hP)
theorem rn_iald {c i n : Int} {k : Int → am_O} (he : am_at C pc = some e) (hi : e.2.1 = .iaload) (hn : am_lenK 0 c = n) (h : q_ld n c i μ k = some q) (K : ∀ v, k v = some q → am_run X CR nL rt C (pc + 1) ls ((0, v) :: r) μ res) : am_run X CR nL rt C pc ls ((0, i) :: (2, c) :: r) μ res := by
  unfold q_ld at h
  by_cases z : 0 ≤ i ∧ i < n
  · rw [if_pos z] at h
    obtain ⟨N, h1, h2⟩ := am_lenK_of hn (by omega)
    exact fun P hP => hP.2.1 e pc ls r μ c i N he hi h1 z.1 (by omega) (K _ h P hP)
  · rw [if_neg z] at h; cases h
theorem rn_lald {c i n : Int} {k : Int → am_O} (he : am_at C pc = some e) (hi : e.2.1 = .laload) (hn : am_lenK 1 c = n) (h : q_ld n c i μ k = some q) (K : ∀ v, k v = some q → am_run X CR nL rt C (pc + 1) ls ((1, v) :: r) μ res) : am_run X CR nL rt C pc ls ((0, i) :: (2, c) :: r) μ res := by
  unfold q_ld at h
  by_cases z : 0 ≤ i ∧ i < n
  · rw [if_pos z] at h
    obtain ⟨N, h1, h2⟩ := am_lenK_of hn (by omega)
    exact fun P hP => hP.2.2.1 e pc ls r μ c i N he hi h1 z.1 (by omega) (K _ h P hP)
  · rw [if_neg z] at h; cases h
theorem rn_bald {c i n : Int} {k : Int → am_O} (he : am_at C pc = some e) (hi : e.2.1 = .baload) (hn : am_lenK 2 c = n) (h : q_ld n c i μ k = some q) (K : ∀ v, k v = some q → am_run X CR nL rt C (pc + 1) ls ((0, v) :: r) μ res) : am_run X CR nL rt C pc ls ((0, i) :: (2, c) :: r) μ res := by
  unfold q_ld at h
  by_cases z : 0 ≤ i ∧ i < n
  · rw [if_pos z] at h
    obtain ⟨N, h1, h2⟩ := am_lenK_of hn (by omega)
    exact fun P hP => hP.2.2.2.1 e pc ls r μ c i N he hi h1 z.1 (by omega) (K _ h P hP)
  · rw [if_neg z] at h; cases h
theorem rn_aald {c i n : Int} {k : Int → am_O} (he : am_at C pc = some e) (hi : e.2.1 = .aaload) (hn : am_lenK 3 c = n) (h : q_ld n c i μ k = some q) (K : ∀ v, k v = some q → am_run X CR nL rt C (pc + 1) ls ((2, v) :: r) μ res) : am_run X CR nL rt C pc ls ((0, i) :: (2, c) :: r) μ res := by
  unfold q_ld at h
  by_cases z : 0 ≤ i ∧ i < n
  · rw [if_pos z] at h
    obtain ⟨N, h1, h2⟩ := am_lenK_of hn (by omega)
    exact fun P hP => hP.2.2.2.2.1 e pc ls r μ c i N he hi h1 z.1 (by omega) (K _ h P hP)
  · rw [if_neg z] at h; cases h
theorem rn_iast {c i n v : Int} {k : am_M → am_O} (he : am_at C pc = some e) (hi : e.2.1 = .iastore) (hn : am_lenK 0 c = n) (h : q_st n c i v μ k = some q) (K : ∀ μ1, k μ1 = some q → am_run X CR nL rt C (pc + 1) ls r μ1 res) : am_run X CR nL rt C pc ls ((0, v) :: (0, i) :: (2, c) :: r) μ res := by
  unfold q_st at h
  by_cases z : 0 ≤ i ∧ i < n
  · rw [if_pos z] at h
    obtain ⟨N, h1, h2⟩ := am_lenK_of hn (by omega)
    exact fun P hP => hP.2.2.2.2.2.2.1 e pc ls r μ c i N v he hi h1 z.1 (by omega) (K _ h P hP)
  · rw [if_neg z] at h; cases h
theorem rn_last {c i n v : Int} {k : am_M → am_O} (he : am_at C pc = some e) (hi : e.2.1 = .lastore) (hn : am_lenK 1 c = n) (h : q_st n c i v μ k = some q) (K : ∀ μ1, k μ1 = some q → am_run X CR nL rt C (pc + 1) ls r μ1 res) : am_run X CR nL rt C pc ls ((1, v) :: (0, i) :: (2, c) :: r) μ res := by
  unfold q_st at h
  by_cases z : 0 ≤ i ∧ i < n
  · rw [if_pos z] at h
    obtain ⟨N, h1, h2⟩ := am_lenK_of hn (by omega)
    exact fun P hP => hP.2.2.2.2.2.2.2.1 e pc ls r μ c i N v he hi h1 z.1 (by omega) (K _ h P hP)
  · rw [if_neg z] at h; cases h
theorem rn_bast {c i n v : Int} {k : am_M → am_O} (he : am_at C pc = some e) (hi : e.2.1 = .bastore) (hn : am_lenK 2 c = n) (h : q_stb n c i v μ k = some q) (K : ∀ μ1, k μ1 = some q → am_run X CR nL rt C (pc + 1) ls r μ1 res) : am_run X CR nL rt C pc ls ((0, v) :: (0, i) :: (2, c) :: r) μ res := by
  unfold q_stb at h
  by_cases z : (0 ≤ i ∧ i < n) ∧ (v = 0 ∨ v = 1)
  · rw [if_pos z] at h
    obtain ⟨N, h1, h2⟩ := am_lenK_of hn (by omega)
    exact fun P hP => hP.2.2.2.2.2.2.2.2.1 e pc ls r μ c i N v he hi h1 z.1.1 (by omega) z.2 (K _ h P hP)
  · rw [if_neg z] at h; cases h
theorem rn_put {kk : Nat} {c i v : Int} {t : Nat} {f : Nat × Int} {k : am_M → am_O} (he : am_at C pc = some e) (hi : e.2.1 = .putfield kk) (ho : am_isO c e.2.2.2.1 = true) (hf : am_fld e.2.2.2.1 e.2.2.2.2.1 = some f) (hv : (f.1 = 0 ∧ t = 0) ∨ (f.1 = 1 ∧ t = 1) ∨ (f.1 = 3 ∧ t = 2)) (hj : (e.2.2.2.2.1 : Int) = i) (h : q_pf c i v μ k = some q) (K : ∀ μ1, k μ1 = some q → am_run X CR nL rt C (pc + 3) ls r μ1 res) : am_run X CR nL rt C pc ls ((t, v) :: (2, c) :: r) μ res :=
  fun P hP => hP.2.2.2.2.2.2.2.2.2.1 e kk pc ls r μ c (t, v) f he hi ho hf (by
    rcases hv with z | z | z
    · exact Or.inl z
    · exact Or.inr (Or.inl z)
    · exact Or.inr (Or.inr (Or.inr z))) (by rw [hj]; exact K _ h P hP)
theorem rn_putb {kk : Nat} {c i v : Int} {f : Nat × Int} {k : am_M → am_O} (he : am_at C pc = some e) (hi : e.2.1 = .putfield kk) (ho : am_isO c e.2.2.2.1 = true) (hf : am_fld e.2.2.2.1 e.2.2.2.2.1 = some f) (hv : f.1 = 2) (hj : (e.2.2.2.2.1 : Int) = i) (h : q_pfb c i v μ k = some q) (K : ∀ μ1, k μ1 = some q → am_run X CR nL rt C (pc + 3) ls r μ1 res) : am_run X CR nL rt C pc ls ((0, v) :: (2, c) :: r) μ res := by
  unfold q_pfb at h
  by_cases z : v = 0 ∨ v = 1
  · rw [if_pos z] at h
    exact fun P hP => hP.2.2.2.2.2.2.2.2.2.1 e kk pc ls r μ c (0, v) f he hi ho hf (Or.inr (Or.inr (Or.inl ⟨hv, rfl, z⟩))) (by rw [hj]; exact K _ h P hP)
  · rw [if_neg z] at h; cases h
theorem rn_if {cd : ClassFile.Cond} {o x : Int} {t : Nat} {c : Prop} {dc : Decidable c} {A B : am_O} (he : am_at C pc = some e) (hi : e.2.1 = .ifCond cd o) (ht : am_tgt e o = t) (hc : am_cnd cd x 0 = c) (h : (@ite _ c dc A B) = some q) (K1 : A = some q → am_run X CR nL rt C t ls r μ res) (K2 : B = some q → am_run X CR nL rt C (pc + 3) ls r μ res) : am_run X CR nL rt C pc ls ((0, x) :: r) μ res := by
  subst ht; subst hc
  refine fun P hP => hP.2.2.2.2.2.2.2.2.2.2.1 e pc ls r μ cd o x he hi (fun z => ?_) (fun z => ?_)
  · rw [if_pos z] at h; exact K1 h P hP
  · rw [if_neg z] at h; exact K2 h P hP
theorem rn_icmp {cd : ClassFile.Cond} {o x y : Int} {t : Nat} {c : Prop} {dc : Decidable c} {A B : am_O} (he : am_at C pc = some e) (hi : e.2.1 = .if_icmp cd o) (ht : am_tgt e o = t) (hc : am_cnd cd x y = c) (h : (@ite _ c dc A B) = some q) (K1 : A = some q → am_run X CR nL rt C t ls r μ res) (K2 : B = some q → am_run X CR nL rt C (pc + 3) ls r μ res) : am_run X CR nL rt C pc ls ((0, y) :: (0, x) :: r) μ res := by
  subst ht; subst hc
  refine fun P hP => hP.2.2.2.2.2.2.2.2.2.2.2.1 e pc ls r μ cd o x y he hi (fun z => ?_) (fun z => ?_)
  · rw [if_pos z] at h; exact K1 h P hP
  · rw [if_neg z] at h; exact K2 h P hP
def am_cdi : ClassFile.Cond → ClassFile.Cond
  | .eq => .ne
  | .ne => .eq
  | .lt => .ge
  | .ge => .lt
  | .gt => .le
  | .le => .gt
theorem am_cnd_i (cd : ClassFile.Cond) (x y : Int) : am_cnd cd x y ↔ ¬ am_cnd (am_cdi cd) x y := by
  cases cd <;> (unfold am_cdi am_cnd; simp only [] ; try omega)
theorem rn_ifn {cd : ClassFile.Cond} {o x : Int} {t : Nat} {c : Prop} {dc : Decidable c} {A B : am_O} (he : am_at C pc = some e) (hi : e.2.1 = .ifCond cd o) (ht : am_tgt e o = t) (hc : am_cnd (am_cdi cd) x 0 = c) (h : (@ite _ c dc B A) = some q) (K2 : B = some q → am_run X CR nL rt C (pc + 3) ls r μ res) (K1 : A = some q → am_run X CR nL rt C t ls r μ res) : am_run X CR nL rt C pc ls ((0, x) :: r) μ res := by
  subst ht; subst hc
  refine fun P hP => hP.2.2.2.2.2.2.2.2.2.2.1 e pc ls r μ cd o x he hi (fun z => ?_) (fun z => ?_)
  · rw [am_cnd_i] at z; rw [if_neg z] at h; exact K1 h P hP
  · rw [am_cnd_i] at z; rw [if_pos (Classical.not_not.mp z)] at h; exact K2 h P hP
theorem rn_icmpn {cd : ClassFile.Cond} {o x y : Int} {t : Nat} {c : Prop} {dc : Decidable c} {A B : am_O} (he : am_at C pc = some e) (hi : e.2.1 = .if_icmp cd o) (ht : am_tgt e o = t) (hc : am_cnd (am_cdi cd) x y = c) (h : (@ite _ c dc B A) = some q) (K2 : B = some q → am_run X CR nL rt C (pc + 3) ls r μ res) (K1 : A = some q → am_run X CR nL rt C t ls r μ res) : am_run X CR nL rt C pc ls ((0, y) :: (0, x) :: r) μ res := by
  subst ht; subst hc
  refine fun P hP => hP.2.2.2.2.2.2.2.2.2.2.2.1 e pc ls r μ cd o x y he hi (fun z => ?_) (fun z => ?_)
  · rw [am_cnd_i] at z; rw [if_neg z] at h; exact K1 h P hP
  · rw [am_cnd_i] at z; rw [if_pos (Classical.not_not.mp z)] at h; exact K2 h P hP
theorem rn_goto {o : Int} {t : Nat} (he : am_at C pc = some e) (hi : e.2.1 = .goto o) (ht : am_tgt e o = t) (K : am_run X CR nL rt C t ls r μ res) : am_run X CR nL rt C pc ls r μ res := by
  subst ht
  exact fun P hP => hP.2.2.2.2.2.2.2.2.2.2.2.2.1 e pc ls r μ o he hi (K P hP)
theorem rn_ifnull {o x : Int} {t : Nat} {A B : am_O} (he : am_at C pc = some e) (hi : e.2.1 = .ifnull o) (ht : am_tgt e o = t) (h : (if x < 0 then A else B) = some q) (K1 : A = some q → am_run X CR nL rt C t ls r μ res) (K2 : B = some q → am_run X CR nL rt C (pc + 3) ls r μ res) : am_run X CR nL rt C pc ls ((2, x) :: r) μ res := by
  subst ht
  refine fun P hP => hP.2.2.2.2.2.2.2.2.2.2.2.2.2.1 e pc ls r μ o x he hi (fun z => ?_) (fun z => ?_)
  · rw [if_pos z] at h; exact K1 h P hP
  · rw [if_neg z] at h; exact K2 h P hP
theorem rn_tsw {d lo hi : Int} {os : Array Int} {x : Int} (he : am_at C pc = some e) (hi0 : e.2.1 = .tableswitch d lo hi os) (K : am_run X CR nL rt C (am_tsw e d lo os.toList x) ls r μ res) : am_run X CR nL rt C pc ls ((0, x) :: r) μ res :=
  fun P hP => hP.2.2.2.2.2.2.2.2.2.2.2.2.2.2.1 e pc ls r μ d lo hi os x he hi0 (K P hP)
theorem rn_lsw {d : Int} {ps : Array (Int × Int)} {x : Int} (he : am_at C pc = some e) (hi0 : e.2.1 = .lookupswitch d ps) (K : am_run X CR nL rt C (am_lsw e d ps.toList x) ls r μ res) : am_run X CR nL rt C pc ls ((0, x) :: r) μ res :=
  fun P hP => hP.2.2.2.2.2.2.2.2.2.2.2.2.2.2.2.1 e pc ls r μ d ps x he hi0 (K P hP)
/-- a switch by its cases: one case, the others -/
theorem rn_swc {lo : Int} {os : List Int} {o d x : Int} {t : Nat} {A B : am_O} (ht : am_tgt e o = t) (h : (if x = lo then A else B) = some q) (K1 : A = some q → am_run X CR nL rt C t ls r μ res) (K2 : B = some q → am_run X CR nL rt C (am_tsw e d (lo + 1) os x) ls r μ res) : am_run X CR nL rt C (am_tsw e d lo (o :: os) x) ls r μ res := by
  unfold am_tsw
  by_cases z : x = lo
  · rw [if_pos z] at h ⊢; rw [ht]; exact K1 h
  · rw [if_neg z] at h ⊢; exact K2 h
theorem rn_sw0 {lo : Int} {d x : Int} {t : Nat} (ht : am_tgt e d = t) (K : am_run X CR nL rt C t ls r μ res) : am_run X CR nL rt C (am_tsw e d lo [] x) ls r μ res := by
  unfold am_tsw; rw [ht]; exact K
theorem rn_lwc {k : Int} {ps : List (Int × Int)} {o d x : Int} {t : Nat} {A B : am_O} (ht : am_tgt e o = t) (h : (if x = k then A else B) = some q) (K1 : A = some q → am_run X CR nL rt C t ls r μ res) (K2 : B = some q → am_run X CR nL rt C (am_lsw e d ps x) ls r μ res) : am_run X CR nL rt C (am_lsw e d ((k, o) :: ps) x) ls r μ res := by
  unfold am_lsw
  by_cases z : x = k
  · rw [if_pos z] at h ⊢; rw [ht]; exact K1 h
  · rw [if_neg z] at h ⊢; exact K2 h
theorem rn_lw0 {d x : Int} {t : Nat} (ht : am_tgt e d = t) (K : am_run X CR nL rt C t ls r μ res) : am_run X CR nL rt C (am_lsw e d [] x) ls r μ res := by
  unfold am_lsw; rw [ht]; exact K
theorem rn_call (b t : Nat) {j : Nat} (as : am_S) {x : am_O} {k : Int → am_M → am_O} (he : am_at C pc = some e) (hi : am_inv e b) (hb : b < 5) (hr : b < 2 → ∃ c, as.head? = some (2, c) ∧ am_isO c e.2.2.2.2.2.toNat = true) (hj : e.2.2.2.1 = j) (hst : st = as.reverse ++ r) (hcat : am_cat r ≤ 8) (h : q_bd x k = some q) (hc : ∀ w, x = some w → CR j as μ (am_res t w)) (K : ∀ v μ1, k v μ1 = some q → am_run X CR nL rt C (pc + 3) ls (am_psh (am_res t (v, μ1)).1 r) μ1 res) : am_run X CR nL rt C pc ls st μ res := by
  unfold q_bd at h
  cases hx : x with
  | none => rw [hx] at h; cases h
  | some w =>
    rw [hx] at h
    obtain ⟨v, μ1⟩ := w
    have h2 := hc _ hx
    have e2 : (am_res t (v, μ1)).2 = μ1 := by unfold am_res; split <;> rfl
    refine fun P hP => hP.2.2.2.2.2.2.2.2.2.2.2.2.2.2.2.2.1 e b pc ls st r μ as (am_res t (v, μ1)).1 μ1 he hi hb hr ?_ hst hcat (K v μ1 h P hP)
    rw [hj]
    have h3 : am_res t (v, μ1) = ((am_res t (v, μ1)).1, μ1) := by
      have : am_res t (v, μ1) = ((am_res t (v, μ1)).1, (am_res t (v, μ1)).2) := rfl
      rw [e2] at this
      exact this
    rw [← h3]
    exact h2
theorem rn_max {x y : Int} (he : am_at C pc = some e) (hi : am_inv e 5) (hj : e.2.2.2.1 = 0) (hcat : am_cat r ≤ 8) (K : am_run X CR nL rt C (pc + 3) ls ((0, if x < y then y else x) :: r) μ res) : am_run X CR nL rt C pc ls ((0, y) :: (0, x) :: r) μ res :=
  fun P hP => hP.2.2.2.2.2.2.2.2.2.2.2.2.2.2.2.2.2.1 e pc ls r μ x y he hi hj hcat (K P hP)
theorem rn_min {x y : Int} (he : am_at C pc = some e) (hi : am_inv e 5) (hj : e.2.2.2.1 = 1) (hcat : am_cat r ≤ 8) (K : am_run X CR nL rt C (pc + 3) ls ((0, if y < x then y else x) :: r) μ res) : am_run X CR nL rt C pc ls ((0, y) :: (0, x) :: r) μ res :=
  fun P hP => hP.2.2.2.2.2.2.2.2.2.2.2.2.2.2.2.2.2.2.1 e pc ls r μ x y he hi hj hcat (K P hP)
theorem rn_minL {x y : Int} (he : am_at C pc = some e) (hi : am_inv e 5) (hj : e.2.2.2.1 = 2) (hcat : am_cat r ≤ 8) (K : am_run X CR nL rt C (pc + 3) ls ((1, if y < x then y else x) :: r) μ res) : am_run X CR nL rt C pc ls ((1, y) :: (1, x) :: r) μ res :=
  fun P hP => hP.2.2.2.2.2.2.2.2.2.2.2.2.2.2.2.2.2.2.2.1 e pc ls r μ x y he hi hj hcat (K P hP)
theorem rn_cpy {n dp c1 sp c0 : Int} {k : am_M → am_O} (he : am_at C pc = some e) (hi : am_inv e 6) (hcat : am_cat r ≤ 8) (h : q_cp c0 sp c1 dp n μ k = some q) (K : ∀ μ1, k μ1 = some q → am_run X CR nL rt C (pc + 3) ls r μ1 res) : am_run X CR nL rt C pc ls ((0, n) :: (0, dp) :: (2, c1) :: (0, sp) :: (2, c0) :: r) μ res := by
  unfold q_cp at h
  by_cases z : 0 ≤ sp ∧ 0 ≤ dp ∧ 0 ≤ n ∧ sp + n ≤ am_lenK 0 c0 ∧ dp + n ≤ am_lenK 0 c1
  · rw [if_pos z] at h
    obtain ⟨a0, a1, a2, a3, a4⟩ := z
    obtain ⟨N0, h1, h2⟩ := am_lenK_of (kd := 0) (c := c0) rfl (by omega)
    obtain ⟨N1, h3, h4⟩ := am_lenK_of (kd := 0) (c := c1) rfl (by omega)
    exact fun P hP => hP.2.2.2.2.2.2.2.2.2.2.2.2.2.2.2.2.2.2.2.2.1 e pc ls r μ n dp c1 sp c0 N0 N1 he hi h1 h3 a0 a1 a2 (by omega) (by omega) hcat (K _ h P hP)
  · rw [if_neg z] at h; cases h
theorem rn_ireti {v : Int} (he : am_at C pc = some e) (hi : e.2.1 = .ireturn) (hr : rt = some .int) (h : some (v, μ) = some q) (hres : res = am_res 0 q) : am_run X CR nL rt C pc ls [(0, v)] μ res := by
  cases h
  exact fun P hP => hP.2.2.2.2.2.2.2.2.2.2.2.2.2.2.2.2.2.2.2.2.2.1 e pc ls μ v he hi (Or.inl hr) hres
theorem rn_iretb {v : Int} (he : am_at C pc = some e) (hi : e.2.1 = .ireturn) (hr : rt = some .boolean) (hv : v = 0 ∨ v = 1) (h : some (v, μ) = some q) (hres : res = am_res 0 q) : am_run X CR nL rt C pc ls [(0, v)] μ res := by
  cases h
  exact fun P hP => hP.2.2.2.2.2.2.2.2.2.2.2.2.2.2.2.2.2.2.2.2.2.1 e pc ls μ v he hi (Or.inr ⟨hr, hv⟩) hres
theorem rn_iretB {v : Int} (he : am_at C pc = some e) (hi : e.2.1 = .ireturn) (hr : rt = some .boolean) (h : q_rb v (some (v, μ)) = some q) (hres : res = am_res 0 q) : am_run X CR nL rt C pc ls [(0, v)] μ res := by
  unfold q_rb at h
  by_cases z : v = 0 ∨ v = 1
  · rw [if_pos z] at h
    exact rn_iretb he hi hr z h hres
  · rw [if_neg z] at h; cases h
theorem rn_lret {v : Int} (he : am_at C pc = some e) (hi : e.2.1 = .lreturn) (hr : rt = some .long) (h : some (v, μ) = some q) (hres : res = am_res 1 q) : am_run X CR nL rt C pc ls [(1, v)] μ res := by
  cases h
  exact fun P hP => hP.2.2.2.2.2.2.2.2.2.2.2.2.2.2.2.2.2.2.2.2.2.2.1 e pc ls μ v he hi hr hres
theorem rn_ret {v : Int} (he : am_at C pc = some e) (hi : e.2.1 = .return_) (hr : rt = none) (h : some (v, μ) = some q) (hres : res = am_res 2 q) : am_run X CR nL rt C pc ls [] μ res := by
  cases h
  exact fun P hP => hP.2.2.2.2.2.2.2.2.2.2.2.2.2.2.2.2.2.2.2.2.2.2.2.1 e pc ls μ he hi hr hres
theorem rn_gd {ci : Nat} {c : Int} {x : am_O} (h : q_gd ci c x = some q) (K : am_isO c ci = true → x = some q → am_run X CR nL rt C pc ls st μ res) : am_run X CR nL rt C pc ls st μ res := by
  unfold q_gd at h
  by_cases z : am_isO c ci = true
  · rw [if_pos z] at h; exact K z h
  · rw [if_neg z] at h; cases h
theorem rn_get {kk : Nat} {c : Int} {f : Nat × Int} (ho : am_isO c e.2.2.2.1 = true) (he : am_at C pc = some e) (hi : e.2.1 = .getfield kk) (hf : am_fld e.2.2.2.1 e.2.2.2.2.1 = some f) (K : am_run X CR nL rt C (pc + e.2.2.1) ls (am_fv μ c e.2.2.2.2.1 f :: r) μ res) : am_run X CR nL rt C pc ls ((2, c) :: r) μ res := by
  refine fun P hP => hP.1 e pc ls _ μ ls (am_fv μ c e.2.2.2.2.1 f :: r) he ?_ (K P hP)
  obtain ⟨p1, i1, l1, a1, b1, d1⟩ := e
  simp only at hi ho hf
  subst hi
  show am_gf a1 b1 μ ls ((2, c) :: r) = _
  unfold am_gf
  simp only [ho, hf]
  rfl
theorem rn_len {c : Int} {k : Int → am_O} (he : am_at C pc = some e) (hi : e.2.1 = .arraylength) (hl : e.2.2.1 = 1) (h : q_len c k = some q) (K : ∀ v, k v = some q → am_run X CR nL rt C (pc + 1) ls ((0, v) :: r) μ res) : am_run X CR nL rt C pc ls ((2, c) :: r) μ res := by
  unfold q_len at h
  by_cases z : 0 ≤ am_lenA c
  · rw [if_pos z] at h
    refine fun P hP => hP.1 e pc ls _ μ ls ((0, am_lenA c) :: r) he ?_ (by rw [hl]; exact K _ h P hP)
    obtain ⟨p1, i1, l1, a1, b1, d1⟩ := e
    simp only at hi
    subst hi
    show am_len X ls ((2, c) :: r) = _
    unfold am_len am_lenA at *
    cases hs : am_shp c with
    | none => rw [hs] at z; simp only at z; omega
    | some k0 =>
      rw [hs] at z
      simp only at z
      by_cases q9 : k0.1 < 10
      · have : Nat.blt k0.1 10 = true := Nat.ble_eq_true_of_le q9
        simp only [hs, this, if_pos q9]
        rfl
      · rw [if_neg q9] at z; omega
  · rw [if_neg z] at h; cases h
/-- a value gets a name -/
theorem rn_dv {x y : Int} {x0 : am_O} (h : q_nz y x0 = some q) (K : am_dv aRem ls ((0, y) :: (0, x) :: r) = some (ls, (0, aRem x y) :: r) → x0 = some q → am_run X CR nL rt C pc ls st μ res) : am_run X CR nL rt C pc ls st μ res := by
  unfold q_nz at h
  by_cases z : y ≠ 0 ∧ (-2147483648 ≤ y ∧ y < 2147483648)
  · rw [if_pos z] at h
    refine K ?_ h
    unfold am_dv
    obtain ⟨z1, z2, z3⟩ := z
    simp [z1, z2, z3]
  · rw [if_neg z] at h; cases h
theorem rn_irem {x y : Int} (hd : am_dv aRem ls ((0, y) :: (0, x) :: r) = some (ls, (0, aRem x y) :: r)) (he : am_at C pc = some e) (hi : e.2.1 = .irem) (hl : e.2.2.1 = 1) (K : am_run X CR nL rt C (pc + 1) ls ((0, aRem x y) :: r) μ res) : am_run X CR nL rt C pc ls ((0, y) :: (0, x) :: r) μ res := fun P hP => by
  have h1 := hP.1 e pc ls ((0, y) :: (0, x) :: r) μ ls ((0, aRem x y) :: r) he (by unfold am_sl; rw [hi]; exact hd)
  rw [hl] at h1
  exact h1 (K P hP)
theorem rn_nm {x : Int} {k : Int → am_O} {ls : Int → am_L} {st : Int → am_S} (h : q_lt x k = some q) (K : ∀ v, k v = some q → am_run X CR nL rt C pc (ls v) (st v) μ res) : am_run X CR nL rt C pc (ls x) (st x) μ res := K x h
end RN
theorem am_ar_of {mt : Nat → Option am_I} {d j : Nat} {as : am_S} {μ : am_M} {res : am_R} (I : am_I) (h1 : mt j = some I) (h2 : as.length = I.2.2.2.2.2.1) (h3 : am_cat as ≤ I.2.2.1) (h : am_run none (am_ar mt d) I.2.2.1 I.2.2.2.1 I.2.2.2.2.1 0 (am_args 0 as) [] μ res) : am_ar mt (d + 1) j as μ res := ⟨I, h1, h2, h3, h⟩
theorem am_run_mono0 {X : am_X} {CR CR' : am_CR} {nL : Nat} {rt : Option FieldType} {C : List am_E} {pc : Nat} {ls : am_L} {st : am_S} {μ : am_M} {res : am_R} (hh : ∀ j as μ res, CR j as μ res → CR' j as μ res) (h : am_run X CR nL rt C pc ls st μ res) : am_run X CR' nL rt C pc ls st μ res := by
  intro P hP
  refine h P ?_
  obtain ⟨h1, h2, h3, h4, h5, h6, h7, h8, h9, h10, h11, h12, h13, h14, h15, h16, h17, h18⟩ := hP
  exact ⟨h1, h2, h3, h4, h5, h6, h7, h8, h9, h10, h11, h12, h13, h14, h15, h16, fun e b pc ls st r μ as rv μ' he hi hb hr hc => h17 e b pc ls st r μ as rv μ' he hi hb hr (hh _ _ _ _ hc), h18⟩
theorem am_ar_succ {mt : Nat → Option am_I} : ∀ {d j : Nat} {as : am_S} {μ : am_M} {res : am_R}, am_ar mt d j as μ res → am_ar mt (d + 1) j as μ res
  | 0, _, _, _, _, h => h.elim
  | d + 1, j, as, μ, res, h => by
    obtain ⟨I, h1, h2, h3, h4⟩ := h
    exact ⟨I, h1, h2, h3, am_run_mono0 (fun _ _ _ _ q => am_ar_succ q) h4⟩
theorem am_ar_mono {mt : Nat → Option am_I} {d d' j : Nat} {as : am_S} {μ : am_M} {res : am_R} (hd : d ≤ d') (h : am_ar mt d j as μ res) : am_ar mt d' j as μ res := by
  induction hd with
  | refl => exact h
  | step _ ih => exact am_ar_succ ih
theorem am_run_mono {X : am_X} {mt : Nat → Option am_I} {d d' nL : Nat} {rt : Option FieldType} {C : List am_E} {pc : Nat} {ls : am_L} {st : am_S} {μ : am_M} {res : am_R} (hd : d ≤ d') (h : am_run X (am_ar mt d) nL rt C pc ls st μ res) : am_run X (am_ar mt d') nL rt C pc ls st μ res := am_run_mono0 (fun _ _ _ _ q => am_ar_mono hd q) h
