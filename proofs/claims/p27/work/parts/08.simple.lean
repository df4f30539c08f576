/-! One simple step of the abstract machine is one step of the machine. -/
theorem am_inr {v : am_V} (h : am_in v) (h0 : v.1 = 0) : r32 v.2 := h.1 h0
theorem am_in0 {x : Int} (h : r32 x) : am_in (0, x) := ⟨fun _ => h, fun q => by cases q⟩
theorem am_in1 {x : Int} (h : r64 x) : am_in (1, x) := ⟨fun q => (by cases q), fun _ => h⟩
theorem am_in2 {t : Nat} {x : Int} (h : 2 ≤ t) : am_in (t, x) := ⟨fun q => by simp only at q; omega, fun q => by simp only at q; omega⟩
theorem am_e_add (x y : Int) : Int32.ofInt x + Int32.ofInt y = Int32.ofInt (w32 (x + y)) := by rw [w32_of, Int32.ofInt_add]
theorem am_e_sub (x y : Int) : Int32.ofInt x - Int32.ofInt y = Int32.ofInt (w32 (x - y)) := by rw [w32_of, Int32.ofInt_sub]
theorem am_e_mul (x y : Int) : Int32.ofInt x * Int32.ofInt y = Int32.ofInt (w32 (x * y)) := by rw [w32_of, Int32.ofInt_mul]
theorem am_e_neg (x : Int) : - Int32.ofInt x = Int32.ofInt (w32 (-x)) := by rw [w32_of, Int32.ofInt_neg]
theorem am_f_add (x y : Int) : Int64.ofInt x + Int64.ofInt y = Int64.ofInt (w64 (x + y)) := by rw [w64_of, Int64.ofInt_add]
theorem am_f_sub (x y : Int) : Int64.ofInt x - Int64.ofInt y = Int64.ofInt (w64 (x - y)) := by rw [w64_of, Int64.ofInt_sub]
theorem am_f_mul (x y : Int) : Int64.ofInt x * Int64.ofInt y = Int64.ofInt (w64 (x * y)) := by rw [w64_of, Int64.ofInt_mul]
theorem am_e_lt {x y : Int} (hx : r32 x) (hy : r32 y) : Int32.ofInt x < Int32.ofInt y ↔ x < y := by rw [Int32.lt_iff_toInt_lt, r32_to hx, r32_to hy]
theorem am_e_le {x y : Int} (hx : r32 x) (hy : r32 y) : Int32.ofInt x ≤ Int32.ofInt y ↔ x ≤ y := by rw [Int32.le_iff_toInt_le, r32_to hx, r32_to hy]
theorem am_e_eq {x y : Int} (hx : r32 x) (hy : r32 y) : Int32.ofInt x = Int32.ofInt y ↔ x = y := by rw [← Int32.toInt_inj, r32_to hx, r32_to hy]
theorem am_f_lt {x y : Int} (hx : r64 x) (hy : r64 y) : Int64.ofInt x < Int64.ofInt y ↔ x < y := by rw [Int64.lt_iff_toInt_lt, r64_to hx, r64_to hy]
theorem am_f_eq {x y : Int} (hx : r64 x) (hy : r64 y) : Int64.ofInt x = Int64.ofInt y ↔ x = y := by rw [← Int64.toInt_inj, r64_to hx, r64_to hy]
theorem am_f_cmp {x y : Int} (hx : r64 x) (hy : r64 y) : lg_cmp (Int64.ofInt x) (Int64.ofInt y) = Int32.ofInt (lCmp x y) := by
  unfold lg_cmp lCmp
  by_cases h1 : x < y
  · have n1 : ¬ y < x := by omega
    have n2 : ¬ x = y := by omega
    simp [am_f_lt hx hy, am_f_lt hy hx, am_f_eq hx hy, h1, n1, n2]
  · by_cases h2 : x = y
    · simp [h2]
    · have n1 : y < x := by omega
      simp [am_f_lt hx hy, am_f_lt hy hx, am_f_eq hx hy, h1, n1, h2]
theorem am_e_l {x : Int} (hx : r32 x) : (Int32.ofInt x).toInt64 = Int64.ofInt x := by
  apply Int64.toInt_inj.mp
  rw [Int32.toInt_toInt64, r32_to hx, r64_to]
  unfold r32 at hx
  unfold r64
  omega
theorem am_f_i {x : Int} : (Int64.ofInt x).toInt32 = Int32.ofInt (w32 x) := by
  rw [w32_of]
  apply Int32.toInt_inj.mp
  rw [Int64.toInt_toInt32, Int64.toInt_ofInt, Int32.toInt_ofInt]
  have e1 : ((Int64.size : Nat) : Int) = 18446744073709551616 := rfl
  have e2 : ((Int32.size : Nat) : Int) = 4294967296 := rfl
  simp only [Int.bmod_def, e1, e2]
  omega
theorem lCmp_r (x y : Int) : r32 (lCmp x y) := by
  unfold lCmp r32
  split
  · omega
  · split <;> omega
/-- the fixed things of a method's run -/
def am_cx (p : Program) (s : State) (m : MethodId) (args : Array Value) (c : Code) (cc : ByteArray) (nL : Nat) (own : String) (fl : am_FL) (kl kL : am_KL) (dC : Nat → ClassId) (dI : Nat → Nat → Nat) (cT : Nat → ClassId) : Prop :=
  p.tables.exec = Jvm.exec ∧ c.code = cc ∧ c.maxLocals = nL ∧ s.vm.findClass own = some m.cls ∧ (∀ w ∈ am_tG, w.before args s = true) ∧ (∀ w ∈ am_nest, va_Nw w s) ∧ va_K (dC, dI) g_cl (am_tys cT) s ∧ (∀ q ∈ fl, am_flw own q) ∧ (∀ q ∈ kl, Cond.constant own q.1 (Int32.ofInt q.2) ∈ am_tG) ∧ (∀ q ∈ kL, Cond.constantLong own q.1 (Int64.ofInt q.2) ∈ am_tG)
def am_Xok (X : am_X) (sb : Nat) (s : State) (A : Nat → Prop) (H0 : Heap) : Prop := ∀ L xs, X = some (L, xs) → L < 2147483648 ∧ va_X sb L xs s H0 ∧ sb < H0.size ∧ ¬ A sb
theorem am_isO_inv {c : Int} {ci : Nat} (h : am_isO c ci = true) : ∃ n, am_shp c = some (10 + ci, n) := by
  unfold am_isO at h
  cases e : am_shp c with
  | none => rw [e] at h; cases h
  | some k =>
    rw [e] at h
    obtain ⟨a, n⟩ := k
    have h2 : a = 10 + ci := Nat.eq_of_beq_eq_true h
    exact ⟨n, by rw [h2]⟩
theorem g_pos : g_lay.all (fun q => decide (0 ≤ q.1)) = true := by decide +kernel
theorem am_shp_pos {c : Int} {k : Nat × Nat} (h : am_shp c = some k) : ¬ c < 0 := by
  obtain ⟨i, hi⟩ := am_find_at _ _ _ h
  have h1 := List.all_eq_true.mp g_pos _ (List.mem_of_getElem? hi)
  simp only [decide_eq_true_eq] at h1
  omega
theorem am_cellO (ad : Int → Nat) (cT : Nat → ClassId) (μ : am_M) (c : Int) (ci n : Nat) : am_cell ad cT μ c (10 + ci, n) = .inr (ci, am_fls ad μ c ci) := by
  have e : 10 + ci - 10 = ci := by omega
  have h : am_cell ad cT μ c (10 + ci, n) = .inr (10 + ci - 10, am_fls ad μ c (10 + ci - 10)) := by
    rw [Nat.add_comm 10 ci]
    rfl
  rw [h, e]
theorem am_fls_at {ad : Int → Nat} {μ : am_M} {c : Int} {ci k : Nat} {f : Nat × Int} (h : am_fld ci k = some f) : (am_fls ad μ c ci)[k]? = some (am_cv ad 0 (am_fv μ c k f)) := by
  unfold am_fls
  unfold am_fld at h
  cases e : g_ft[ci]? with
  | none => rw [e] at h; cases h
  | some l =>
    rw [e] at h
    have h : l[k]? = some f := h
    show (l.mapIdx _)[k]? = _
    rw [List.getElem?_mapIdx, h]
    rfl
theorem am_fv_t {μ : am_M} {c : Int} {k : Nat} {f : Nat × Int} : (am_fv μ c k f).1 < 3 := by
  obtain ⟨t, d⟩ := f
  match t with
  | 0 => show 0 < 3; omega
  | 1 => show 1 < 3; omega
  | 2 => show 0 < 3; omega
  | 3 => show 2 < 3; omega
  | 4 => show 2 < 3; omega
  | n + 5 => show 2 < 3; omega
theorem am_cvs {ad : Int → Nat} {v : am_V} (h : v.1 < 3) (sb : Nat) : am_cv ad 0 v = am_cv ad sb v := by
  obtain ⟨t, x⟩ := v
  match t, h with
  | 0, _ => rfl
  | 1, _ => rfl
  | 2, _ => rfl
  | n + 3, h => exact absurd h (by simp only; omega)
section AMS
variable {p : Program} {l : Launch} {e : Env} {R : Room} {s : State} {m : MethodId} {args : Array Value} {below : List Frame} {meth : Method} {c : Code} {H : Heap} {locs : List Loc} {cells slots : Nat} {Q : State → Prop}
variable {cc : ByteArray} {own : String} {nL : Nat} {fl : am_FL} {ml : am_ML} {kl kL : am_KL} {dC : Nat → ClassId} {dI : Nat → Nat → Nat} {cT : Nat → ClassId} {ad : Int → Nat} {sb : Nat} {A : Nat → Prop} {H0 : Heap}
theorem am_W_get (C0 : am_cx p s m args c cc nL own fl kl kL dC dI cT) {μ : am_M} (hP : va_P (dC, dI) g_cl (am_wd ad cT μ) H) {k ci fk : Nat} (hf : (k, ci, fk, true) ∈ fl ∨ (k, ci, fk, false) ∈ fl) {pc : Nat} (hd : decode cc pc = .ok (.getfield k, 3)) {larr : Array Slot} {rest : List Value} {x : Int} (ho : am_isO x ci = true) {f : Nat × Int} (hfd : am_fld ci fk = some f)
    (kk : W p l e R s m args below meth c H locs cells slots Q (F0 m (pc + 3) larr (am_cv ad sb (am_fv μ x fk f) :: rest))) : W p l e R s m args below meth c H locs cells slots Q (F0 m pc larr (am_cv ad sb (2, x) :: rest)) := by
  obtain ⟨hx, hb, hml, hown, hts, hNW, hK, hfl, -⟩ := C0
  obtain ⟨n, hn⟩ := am_isO_inv ho
  obtain ⟨i, hi, hw⟩ := am_wd_at (ad := ad) (cT := cT) (μ := μ) hn
  rw [am_cellO] at hw
  have hx0 : am_cv ad sb (2, x) = .ref (ad x) := by rw [am_cv2 rfl]; exact if_neg (am_shp_pos hn)
  rw [hx0]
  have hv := am_fls_at (ad := ad) (μ := μ) (c := x) hfd
  rw [am_cvs am_fv_t sb] at hv
  rcases hf with hf | hf
  · obtain ⟨q, h1, h2, h3, h4⟩ := hfl _ hf
    obtain ⟨C, T, N⟩ := q
    have h4 : Cond.fieldLinkNest own k C (T fk).2.1 (T fk).2.2.1 "BurningSlips" ∈ am_nest := h4
    exact va_getN hx hb hts (g_cls _ _ h1).1 hown hK hP i hw h1 fk h2 (va_Nw.use rfl (hNW _ h4)) (fun y hy => by rw [← hy, show (T fk).1 = C from h3]) hv hd kk
  · obtain ⟨q, h1, h2, h3, h4⟩ := hfl _ hf
    obtain ⟨C, T, N⟩ := q
    have h4 : Cond.fieldLink own k C (T fk).2.1 (T fk).2.2.1 ∈ am_tG := h4
    exact va_get hx hb hts (g_cls _ _ h1).1 hown hK hP i hw h1 fk h2 (hts _ h4) (fun y hy => by rw [← hy, show (T fk).1 = C from h3]) hv hd kk
end AMS
