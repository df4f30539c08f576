/-! How constructors go: the memory's cells come one by one. -/
def am_wdL (L : List (Int × Nat × Nat)) (ad : Int → Nat) (cT : Nat → ClassId) (μ : am_M) : va_W := L.map (fun q => (ad q.1, am_cell ad cT μ q.1 q.2))
/-- where a field points -/
def ct_tg (μ : am_M) (c : Int) (k : Nat) (f : Nat × Int) : Option Int := match f.1 with
  | 0 => none
  | 1 => none
  | 2 => none
  | 3 => if μ c k < 0 then none else some (μ c k)
  | 4 => some (c + f.2)
  | _ => some f.2
theorem ct_cv {ad ad' : Int → Nat} {μ : am_M} {c : Int} {k : Nat} {f : Nat × Int} (h : ∀ y, ct_tg μ c k f = some y → ad' y = ad y) : am_cv ad' 0 (am_fv μ c k f) = am_cv ad 0 (am_fv μ c k f) := by
  obtain ⟨t, d⟩ := f
  match t, h with
  | 0, _ => rfl
  | 1, _ => rfl
  | 2, _ => rfl
  | 3, h =>
    show (if μ c k < 0 then Value.null else .ref (ad' (μ c k))) = (if μ c k < 0 then Value.null else .ref (ad (μ c k)))
    by_cases q : μ c k < 0
    · rw [if_pos q, if_pos q]
    · rw [if_neg q, if_neg q, h _ (if_neg q)]
  | 4, h =>
    show (if c + d < 0 then Value.null else .ref (ad' (c + d))) = (if c + d < 0 then Value.null else .ref (ad (c + d)))
    rw [h _ rfl]
  | n + 5, h =>
    show (if d < 0 then Value.null else .ref (ad' d)) = (if d < 0 then Value.null else .ref (ad d))
    rw [h _ rfl]
def ct_rf (μ : am_M) (c : Int) (k : Nat × Nat) : List Int := if k.1 < 10 then [] else (((g_ft[k.1 - 10]?).getD []).mapIdx (fun j f => ct_tg μ c j f)).filterMap id
theorem ct_cell {ad ad' : Int → Nat} {cT : Nat → ClassId} {μ : am_M} {c : Int} {k : Nat × Nat} (h3 : k.1 < 3 ∨ 10 ≤ k.1) (h : ∀ y ∈ ct_rf μ c k, ad' y = ad y) : am_cell ad' cT μ c k = am_cell ad cT μ c k := by
  obtain ⟨t, n⟩ := k
  rcases h3 with h3 | h3
  · have h3 : t < 3 := h3
    match t, h3 with
    | 0, _ => rfl
    | 1, _ => rfl
    | 2, _ => rfl
  · have h3 : 10 ≤ t := h3
    obtain ⟨ci, rfl⟩ : ∃ ci, t = 10 + ci := ⟨t - 10, by omega⟩
    rw [am_cellO, am_cellO]
    have e : am_fls ad' μ c ci = am_fls ad μ c ci := by
      apply List.ext_getElem?
      intro j
      unfold am_fls
      rw [List.getElem?_mapIdx, List.getElem?_mapIdx]
      cases hj : ((g_ft[ci]?).getD [])[j]? with
      | none => rfl
      | some f =>
        show some (am_cv ad' 0 (am_fv μ c j f)) = some (am_cv ad 0 (am_fv μ c j f))
        rw [ct_cv (fun y hy => h y (by
          unfold ct_rf
          rw [if_neg (show ¬ 10 + ci < 10 by omega), show 10 + ci - 10 = ci by omega]
          refine List.mem_filterMap.mpr ⟨some y, List.mem_of_getElem? (i := j) ?_, rfl⟩
          rw [List.getElem?_mapIdx, hj]
          exact congrArg some hy))]
    rw [e]
def ct_okL (μ : am_M) (L : List (Int × Nat × Nat)) (xs : List Int) : Bool := L.all (fun e => (decide (e.2.1 < 3) || decide (10 ≤ e.2.1)) && (!(decide (e.1 ∈ xs)) && (ct_rf μ e.1 e.2).all (fun y => !(decide (y ∈ xs)))))
theorem ct_wdL {ad ad' : Int → Nat} {cT : Nat → ClassId} {μ : am_M} {L : List (Int × Nat × Nat)} {xs : List Int} (h : ct_okL μ L xs = true) (ha : ∀ y, y ∉ xs → ad' y = ad y) : am_wdL L ad' cT μ = am_wdL L ad cT μ := by
  unfold am_wdL
  refine List.map_congr_left (fun e he => ?_)
  have h1 := List.all_eq_true.mp h e he
  simp only [Bool.and_eq_true, Bool.or_eq_true, decide_eq_true_eq, Bool.not_eq_true', decide_eq_false_iff_not, List.all_eq_true] at h1
  rw [ha _ h1.2.1, ct_cell h1.1 (fun y hy => ha y (h1.2.2 y hy))]
theorem ct_wdL_app {ad : Int → Nat} {cT : Nat → ClassId} {μ : am_M} {L L2 : List (Int × Nat × Nat)} : am_wdL (L ++ L2) ad cT μ = am_wdL L ad cT μ ++ am_wdL L2 ad cT μ := List.map_append
def ct_dv (t : Nat) : Value := match t with
  | 0 => .int 0
  | 1 => .long 0
  | 2 => .int 0
  | _ => .null
/-- an object's fields, those in pd not yet set -/
def ct_fp (ad : Int → Nat) (μ : am_M) (c : Int) (ci : Nat) (pd : List Nat) : List Value := ((g_ft[ci]?).getD []).mapIdx (fun k f => if k ∈ pd then ct_dv f.1 else am_cv ad 0 (am_fv μ c k f))
def ct_okF (μ : am_M) (c : Int) (ci : Nat) (pd : List Nat) (xs : List Int) : Bool := (((g_ft[ci]?).getD []).mapIdx (fun k f => decide (k ∈ pd) || (match ct_tg μ c k f with
  | some y => !(decide (y ∈ xs))
  | none => true))).all id
theorem ct_fpC {ad ad' : Int → Nat} {μ : am_M} {c : Int} {ci : Nat} {pd : List Nat} {xs : List Int} (h : ct_okF μ c ci pd xs = true) (ha : ∀ y, y ∉ xs → ad' y = ad y) : ct_fp ad' μ c ci pd = ct_fp ad μ c ci pd := by
  apply List.ext_getElem?
  intro j
  unfold ct_fp
  rw [List.getElem?_mapIdx, List.getElem?_mapIdx]
  cases hj : ((g_ft[ci]?).getD [])[j]? with
  | none => rfl
  | some f =>
    show some (if j ∈ pd then ct_dv f.1 else am_cv ad' 0 (am_fv μ c j f)) = some (if j ∈ pd then ct_dv f.1 else am_cv ad 0 (am_fv μ c j f))
    by_cases q : j ∈ pd
    · rw [if_pos q, if_pos q]
    · rw [if_neg q, if_neg q, ct_cv (fun y hy => ha y (fun hm => ?_))]
      have h1 := List.all_eq_true.mp h _ (List.mem_of_getElem? (i := j) (by rw [List.getElem?_mapIdx, hj]; rfl))
      simp only [id, hy, decide_eq_false q, Bool.false_or, Bool.not_eq_true', decide_eq_false_iff_not] at h1
      exact h1 hm
theorem ct_fp_set {ad : Int → Nat} {μ : am_M} {c : Int} {ci k : Nat} {pd pd' : List Nat} {f : Nat × Int} {v : Value} (hf : am_fld ci k = some f) (hv : v = am_cv ad 0 (am_fv μ c k f)) (hpd : pd.filter (fun j => decide (j ≠ k)) = pd') : (ct_fp ad μ c ci pd).set k v = ct_fp ad μ c ci pd' := by
  subst hv; subst hpd
  apply List.ext_getElem?
  intro j
  have hlen : k < (ct_fp ad μ c ci pd).length := by
    unfold ct_fp
    rw [List.length_mapIdx]
    exact am_fld_lt hf
  by_cases e : j = k
  · subst e
    rw [List.getElem?_set_self hlen]
    unfold ct_fp
    rw [List.getElem?_mapIdx]
    unfold am_fld at hf
    cases hg : g_ft[ci]? with
    | none => rw [hg] at hf; cases hf
    | some l =>
      rw [hg] at hf
      have hf : l[j]? = some f := hf
      show _ = (l[j]?).map _
      rw [hf]
      show _ = some (if j ∈ pd.filter (fun i => decide (i ≠ j)) then ct_dv f.1 else am_cv ad 0 (am_fv μ c j f))
      rw [if_neg (fun h => by simp at h)]
  · rw [List.getElem?_set_ne (Ne.symm e)]
    unfold ct_fp
    rw [List.getElem?_mapIdx, List.getElem?_mapIdx]
    cases hj : ((g_ft[ci]?).getD [])[j]? with
    | none => rfl
    | some g =>
      show some (if j ∈ pd then ct_dv g.1 else am_cv ad 0 (am_fv μ c j g)) = some (if j ∈ pd.filter (fun i => decide (i ≠ k)) then ct_dv g.1 else am_cv ad 0 (am_fv μ c j g))
      by_cases q : j ∈ pd
      · rw [if_pos q, if_pos (List.mem_filter.mpr ⟨q, decide_eq_true e⟩)]
      · rw [if_neg q, if_neg (fun h => q (List.mem_filter.mp h).1)]
theorem ct_fp_nil {ad : Int → Nat} {μ : am_M} {c : Int} {ci : Nat} : ct_fp ad μ c ci [] = am_fls ad μ c ci := by
  unfold ct_fp am_fls
  simp only [List.not_mem_nil, if_false]
theorem ct_fp_len {ad : Int → Nat} {μ : am_M} {c : Int} {ci : Nat} {pd : List Nat} {q : vw_C} (h : g_cl[ci]? = some q) : (ct_fp ad μ c ci pd).length = q.2.2 := by
  unfold ct_fp
  rw [List.length_mapIdx]
  exact (g_cls _ _ h).2.2.2
def ct_f0 (ci : Nat) : List Value := ((g_ft[ci]?).getD []).map (fun f => ct_dv f.1)
def ct_okN (μ : am_M) (c : Int) (ci : Nat) (pd : List Nat) : Bool := (((g_ft[ci]?).getD []).mapIdx (fun k f => decide (k ∈ pd) || (match f.1 with
  | 0 => decide (μ c k = 0)
  | 1 => decide (μ c k = 0)
  | 2 => decide (μ c k = 0)
  | 3 => decide (μ c k < 0)
  | _ => false))).all id
theorem ct_fp_new {ad : Int → Nat} {μ : am_M} {c : Int} {ci : Nat} {pd : List Nat} (h : ct_okN μ c ci pd = true) : ct_f0 ci = ct_fp ad μ c ci pd := by
  apply List.ext_getElem?
  intro j
  unfold ct_f0 ct_fp
  rw [List.getElem?_map, List.getElem?_mapIdx]
  cases hj : ((g_ft[ci]?).getD [])[j]? with
  | none => rfl
  | some f =>
    show some (ct_dv f.1) = some (if j ∈ pd then ct_dv f.1 else am_cv ad 0 (am_fv μ c j f))
    by_cases q : j ∈ pd
    · rw [if_pos q]
    · rw [if_neg q]
      have h1 := List.all_eq_true.mp h _ (List.mem_of_getElem? (i := j) (by rw [List.getElem?_mapIdx, hj]; rfl))
      obtain ⟨t, d⟩ := f
      simp only [id, decide_eq_false q, Bool.false_or] at h1
      match t, h1 with
      | 0, h1 =>
        show some (Value.int 0) = some (.int (Int32.ofInt (μ c j)))
        rw [of_decide_eq_true h1]; rfl
      | 1, h1 =>
        show some (Value.long 0) = some (.long (Int64.ofInt (μ c j)))
        rw [of_decide_eq_true h1]; rfl
      | 2, h1 =>
        show some (Value.int 0) = some (.int (Int32.ofInt (μ c j)))
        rw [of_decide_eq_true h1]; rfl
      | 3, h1 =>
        show some Value.null = some (if μ c j < 0 then .null else .ref (ad (μ c j)))
        rw [if_pos (of_decide_eq_true h1)]
      | 4, h1 => cases h1
      | n + 5, h1 => cases h1
/-- behind a call: what the caller keeps, and what came back -/
theorem ct_join {A0 : Nat → Prop} {D : va_G} {cl : List vw_C} {wr wc w1 : va_W} {H H1 : Heap} (hP : va_P D cl (wr ++ wc) H) (hD : va_D A0 (wr ++ wc)) (hk : ∀ q : Nat, q < H.size → ¬ va_A wc H.size q → H1[q]? = H[q]?) (hF : ∀ q, va_A wc H.size q → A0 q) (hP1 : va_P D cl w1 H1) (hD1 : va_D (va_A wc H.size) w1) : va_P D cl (wr ++ w1) H1 ∧ va_D A0 (wr ++ w1) := by
  have hr : ∀ (k : Nat) (q : Nat × va_E), wr[k]? = some q → (wr ++ wc)[k]? = some q := fun k q h => by
    rw [List.getElem?_append_left (List.getElem?_eq_some_iff.mp h).1]; exact h
  have hc : ∀ (k : Nat) (q : Nat × va_E), wc[k]? = some q → (wr ++ wc)[wr.length + k]? = some q := fun k q h => by
    rw [List.getElem?_append_right (Nat.le_add_right _ _), Nat.add_sub_cancel_left]; exact h
  have hap : ∀ (k : Nat) (q : Nat × va_E), wr[k]? = some q → q.1 < H.size ∧ ¬ va_A wc H.size q.1 := fun k q h => by
    have hlt := (hP k q (hr k q h)).lt
    refine ⟨hlt, fun z => ?_⟩
    rcases z with ⟨j, e, hj⟩ | z
    · have e1 := hD.1 k (wr.length + j) q (q.1, e) (hr k q h) (hc j _ hj) rfl
      have := (List.getElem?_eq_some_iff.mp h).1
      omega
    · omega
  refine ⟨(va_P.kept (fun k q h => hP k q (hr k q h)) (fun k q h => hk q.1 (hap k q h).1 (hap k q h).2)).app hP1, va_D.app ⟨fun i j p q h1 h2 => hD.1 i j p q (hr i p h1) (hr j q h2), fun k q h => hD.2 k q (hr k q h)⟩ (hD1.weaken (fun k q _ h => hF _ h)) (fun i j p q h1 h2 e => ?_)⟩
  exact (hap i p h1).2 (by rw [e]; exact hD1.2 j q h2)
def ct_zero (t N : Nat) : vp_A := match t with
  | 1 => (N, .inr (.inl (fun _ => 0)))
  | _ => (N, .inl (fun _ => 0))
theorem ct_zcell {ad : Int → Nat} {cT : Nat → ClassId} {μ : am_M} {x : Int} {t N : Nat} (ht : t < 3) (hz : ∀ j : Nat, μ x j = 0) : am_cell ad cT μ x (t, N) = .inl (cT t, ct_zero t N) := by
  have e32 : (fun j : Nat => Int32.ofInt (μ x j)) = fun _ => 0 := funext fun j => by rw [hz]; rfl
  have e64 : (fun j : Nat => Int64.ofInt (μ x j)) = fun _ => 0 := funext fun j => by rw [hz]; rfl
  match t, ht with
  | 0, _ =>
    show Sum.inl (cT 0, (N, Sum.inl (fun j : Nat => Int32.ofInt (μ x j)))) = _
    rw [e32]; rfl
  | 1, _ =>
    show Sum.inl (cT 1, (N, Sum.inr (Sum.inl (fun j : Nat => Int64.ofInt (μ x j))))) = _
    rw [e64]; rfl
  | 2, _ =>
    show Sum.inl (cT 2, (N, Sum.inl (fun j : Nat => Int32.ofInt (μ x j)))) = _
    rw [e32]; rfl
/-- a number pushed -/
def ct_psh (i : Instr) (ln N : Nat) : Bool := match i with
  | .iconst n => decide (ln = 1) && decide (Int32.ofInt n = Int32.ofInt (N : Int))
  | .bipush n => decide (ln = 2) && decide ((Int8.ofInt n).toInt32 = Int32.ofInt (N : Int))
  | .sipush n => decide (ln = 3) && decide ((Int16.ofInt n).toInt32 = Int32.ofInt (N : Int))
  | _ => false
def ct_Pc (dC : Nat → ClassId) (dI : Nat → Nat → Nat) (cT : Nat → ClassId) (avs : List Value) (G : va_W) (sz : Nat) : Array Value → State → Prop := va_Pc avs (fun U => U.heap.size = sz ∧ (va_P (dC, dI) g_cl G U.heap ∧ va_K (dC, dI) g_cl (am_tys cT) U ∧ va_D (fun _ => True) G) ∧ ∀ w ∈ am_nest, va_Nw w U)
def ct_Qc (dC : Nat → ClassId) (dI : Nat → Nat → Nat) (cT : Nat → ClassId) (μ : am_M) (ad : Int → Nat) (L : List (Int × Nat × Nat)) (xs : List Int) (A : Nat → Prop) : Array Value → State → Outcome → State → Prop := va_Qv (fun ad' : Int → Nat => ∀ y, y ∉ xs → ad' y = ad y) (fun ad' t => va_P (dC, dI) g_cl (am_wdL L ad' cT μ) t.heap ∧ va_K (dC, dI) g_cl (am_tys cT) t ∧ va_D A (am_wdL L ad' cT μ)) A
theorem ct_blind {dC : Nat → ClassId} {dI : Nat → Nat → Nat} {cT : Nat → ClassId} {avs : List Value} {G : va_W} {sz : Nat} : FrameBlind (ct_Pc dC dI cT avs G sz) := by
  intro a U g mk q
  obtain ⟨q0, q1, ⟨qP, qK, qD⟩, qN⟩ := q
  exact ⟨q0, q1, ⟨qP, va_K.moved (u := U) (U := U.calling g mk a) (Vm.Alike.refl U.vm) qK, qD⟩, fun w hw => va_Nw.same (am_nest_tab hw) (rfl : U.vm = (U.calling g mk a).vm) (qN w hw)⟩
theorem ct_met (l : Launch) (dC : Nat → ClassId) (dI : Nat → Nat → Nat) (cT : Nat → ClassId) {y : MethodName} {bytes : ByteArray} {maxL : Nat} (hp : plainName y.cls = true) (hnm : y.name = "<init>") {avs : List Value} {G : va_W} {L : List (Int × Nat × Nat)} {xs : List Int} {ad : Int → Nat} {μ : am_M} (hcat : (lg_sl avs).length ≤ maxL) (rm : Room) (sz : Nat)
    (body : ∀ (p : Program) (e : Env) (s : State) (m : MethodId) (args : Array Value) (below : List Frame) (meth : Method) (c : Code) (A : Nat → Prop) (larr : Array Slot), am_cx p s m args c bytes maxL y.cls [] [] [] dC dI cT → meth.name = "<init>" → meth.sig.returnType = none → meth.locks = false → (∀ q : Nat, s.heap.size ≤ q → A q) → va_P (dC, dI) g_cl G s.heap → va_D A G → lv_has larr maxL (lv_args 0 avs) → W p l e (headSpec (Cond.code y bytes maxL none :: am_tG) rm).room s m args below meth c s.heap [] 0 0 (MQ below (ct_Qc dC dI cT μ ad L xs A) args s rm.cells rm.slots A) (F0 m 0 larr [])) :
    Met l y (Cond.code y bytes maxL none :: am_tG) rm (ct_Pc dC dI cT avs G sz) (ct_Qc dC dI cT μ ad L xs (va_A G sz)) rm.cells rm.slots (va_A G sz) := by
  refine Met.ofW (cc := bytes) (maxL := maxL) (ret := none) hp rfl ?_
  intro p e s m args below meth c s₁ B hmx hv
  obtain ⟨rfl, hsz, ⟨hP, hK, hD0⟩, hN⟩ := hv
  have hts0 := atoms_spec (ws := Cond.code y bytes maxL none :: am_tG) B.pre
  subst hsz
  have hl2 := lv_entry avs (n := maxL) hcat
  rw [lg_entry_eq]
  generalize (lg_sl avs ++ List.replicate (maxL - (lg_sl avs).length) Slot.unset).toArray = larr at hl2 ⊢
  exact body p e s m avs.toArray below meth c _ larr ⟨B.exec, B.bytes, hmx, findClass_of_methodNamed B.named, fun w hw => hts0 w (List.mem_cons_of_mem _ hw), hN, hK, fun _ h => absurd h List.not_mem_nil, fun _ h => absurd h List.not_mem_nil, fun _ h => absurd h List.not_mem_nil⟩ ((name_of_methodNamed B.named B.method).1.trans hnm) B.returns B.notSynchronized (fun q h => Or.inr h) hP (hD0.self (sz := s.heap.size)) hl2
section CT
variable {p : Program} {l : Launch} {e : Env} {R : Room} {s : State} {m : MethodId} {args : Array Value} {below : List Frame} {meth : Method} {c : Code} {H : Heap} {locs : List Loc} {cells slots : Nat} {Q : State → Prop}
variable {cc : ByteArray} {own : String} {nL : Nat} {dC : Nat → ClassId} {dI : Nat → Nat → Nat} {cT : Nat → ClassId} {A : Nat → Prop} {H0 : Heap}
theorem ct_push (C0 : am_cx p s m args c cc nL own [] [] [] dC dI cT) {i : Instr} {ln N pc : Nat} {larr : Array Slot} {rest : List Value} (hd : decode cc pc = .ok (i, ln)) (hi : ct_psh i ln N = true) (kk : W p l e R s m args below meth c H locs cells slots Q (F0 m (pc + ln) larr (.int (Int32.ofInt (N : Int)) :: rest))) : W p l e R s m args below meth c H locs cells slots Q (F0 m pc larr rest) := by
  obtain ⟨hx, hb, -⟩ := C0
  cases i with
  | iconst n =>
    simp only [ct_psh, Bool.and_eq_true, decide_eq_true_eq] at hi
    obtain ⟨rfl, h2⟩ := hi
    exact lv_iconst hx hb hd h2 kk
  | bipush n =>
    simp only [ct_psh, Bool.and_eq_true, decide_eq_true_eq] at hi
    obtain ⟨rfl, h2⟩ := hi
    exact lv_bipush hx hb hd h2 kk
  | sipush n =>
    simp only [ct_psh, Bool.and_eq_true, decide_eq_true_eq] at hi
    obtain ⟨rfl, h2⟩ := hi
    exact lv_sipush hx hb hd h2 kk
  | _ => cases hi
theorem ct_put (C0 : am_cx p s m args c cc nL own [] [] [] dC dI cT) (hnm : meth.name = "<init>") {h0 ci : Nat} {fs : List Value} {G : va_W} (hP : va_P (dC, dI) g_cl ((h0, .inr (ci, fs)) :: G) H) (hD : va_D A ((h0, .inr (ci, fs)) :: G)) (hS : va_S A H0 H locs) {k idx pc NF : Nat} {CN : String} {TN : u_T} (hc : g_cl[ci]? = some (CN, TN, NF)) (hk : k < NF) (hlk : Cond.fieldLink own idx CN (TN k).2.1 (TN k).2.2.1 ∈ am_tG) (hdc : (TN k).1 = CN) (how : CN = own) {ty : FieldType} {v : Value} (hd : parseFieldDescriptor (TN k).2.2.1 = some ty) (hn : narrow ty v = v) (hfit : fits ty v = true) (hlen : fs.length = NF) (hdg : decode cc pc = .ok (.putfield idx, 3)) {larr : Array Slot} {rest : List Value}
    (kk : ∀ (H1 : Heap) (locs1 : List Loc), va_P (dC, dI) g_cl ((h0, .inr (ci, fs.set k v)) :: G) H1 → va_D A ((h0, .inr (ci, fs.set k v)) :: G) → va_S A H0 H1 locs1 → W p l e R s m args below meth c H1 locs1 cells slots Q (F0 m (pc + 3) larr rest)) : W p l e R s m args below meth c H locs cells slots Q (F0 m pc larr (v :: .ref h0 :: rest)) := by
  obtain ⟨hx, hb, hmx, hown, hts, hNW, hK, -⟩ := C0
  obtain ⟨hin, ⟨ty0, hty, -⟩, hap, -⟩ := g_cls _ _ hc
  have he : ((h0, Sum.inr (ci, fs)) :: G : va_W)[0]? = some (h0, .inr (ci, fs)) := rfl
  cases hfin : (TN k).2.2.2 with
  | true => exact va_putF hx hb hts hin ty0 hty hap hown hK hP hD hS 0 he hc k hk (hts _ hlk) (fun y hy => by rw [← hy, hdc]) hfin hnm (hdc.trans how) hd hn hfit (by rw [hlen]; exact hk) hdg kk
  | false => exact va_put hx hb hts hin ty0 hty hap hown hK hP hD hS 0 he hc k hk (hts _ hlk) (fun y hy => by rw [← hy, hdc]) hfin hd hn hfit (by rw [hlen]; exact hk) hdg kk
theorem ct_newa (C0 : am_cx p s m args c cc nL own [] [] [] dC dI cT) (hA : ∀ q : Nat, H0.size ≤ q → A q) {G : va_W} (hP : va_P (dC, dI) g_cl G H) (hD : va_D A G) (hS : va_S A H0 H locs) {t N : Nat} {atype : ArrayType} (hat : (t = 0 ∧ atype = .int) ∨ (t = 1 ∧ atype = .long) ∨ False) (hN : N < 100000) (hcells : cells + 1 ≤ R.cells) (hslots : slots + N ≤ R.slots) {pc : Nat} (hdg : decode cc pc = .ok (.newarray atype, 2)) {larr : Array Slot} {rest : List Value}
    (kk : ∀ (q : Nat) (H1 : Heap), va_P (dC, dI) g_cl (G ++ [(q, .inl (cT t, ct_zero t N))]) H1 → va_D A (G ++ [(q, .inl (cT t, ct_zero t N))]) → va_S A H0 H1 locs → W p l e R s m args below meth c H1 locs (cells + 1) (slots + N) Q (F0 m (pc + 2) larr (.ref q :: rest))) : W p l e R s m args below meth c H locs cells slots Q (F0 m pc larr (.int (Int32.ofInt (N : Int)) :: rest)) := by
  obtain ⟨hx, hb, hmx, hown, hts, hNW, hK, -⟩ := C0
  have hcl := am_clamp (i := (N : Int)) (by omega) (by omega)
  have hN2 : (Int32.ofInt (N : Int)).toNatClampNeg = N := by rw [hcl]; omega
  have hneg : ¬ (Int32.ofInt (N : Int)) < 0 := by
    rw [show (0 : Int32) = Int32.ofInt 0 from rfl, am_e_lt (by unfold r32; omega) (by unfold r32; omega)]
    omega
  rcases hat with ⟨rfl, rfl⟩ | ⟨rfl, rfl⟩ | hF
  rotate_left 2
  · exact hF.elim
  · refine va_newa (atype := .int) (a0 := ct_zero 0 N) hx hb (hts (.arrayClass .int) (am_mem_t (by decide +kernel) rfl)) (ty := .int) rfl hK hP hD hS hA (fun cA => rfl) hneg hN2 (show N * 4 ≤ 536870912 by omega) hcells hslots hdg (fun q cA H1 hK1 hP1 hD1 hS1 => ?_)
    have e1 : s.vm.findClass ("[" ++ FieldType.int.toString) = some cA := (hK1.2 4 (cA, .int) rfl).2
    have e2 : s.vm.findClass ("[" ++ FieldType.int.toString) = some (cT 0) := (hK.2 0 (cT 0, .int) rfl).2
    have e3 : cA = cT 0 := Option.some.inj (e1.symm.trans e2)
    subst e3
    exact kk q H1 hP1 hD1 hS1
  · refine va_newa (atype := .long) (a0 := ct_zero 1 N) hx hb (hts (.arrayClass .long) (am_mem_t (by decide +kernel) rfl)) (ty := .long) rfl hK hP hD hS hA (fun cA => rfl) hneg hN2 (show N * 8 ≤ 536870912 by omega) hcells hslots hdg (fun q cA H1 hK1 hP1 hD1 hS1 => ?_)
    have e1 : s.vm.findClass ("[" ++ FieldType.long.toString) = some cA := (hK1.2 4 (cA, .long) rfl).2
    have e2 : s.vm.findClass ("[" ++ FieldType.long.toString) = some (cT 1) := (hK.2 1 (cT 1, .long) rfl).2
    have e3 : cA = cT 1 := Option.some.inj (e1.symm.trans e2)
    subst e3
    exact kk q H1 hP1 hD1 hS1
/-- this.f = new ..[N] -/
theorem ct_arr (C0 : am_cx p s m args c cc nL own [] [] [] dC dI cT) (hnm : meth.name = "<init>") (hA : ∀ q : Nat, H0.size ≤ q → A q) {μ : am_M} {ad : Int → Nat} {o : Int} {ci h0 : Nat} {pd pd' : List Nat} {dn dn' : List (Int × Nat × Nat)} (hP : va_P (dC, dI) g_cl ((h0, .inr (ci, ct_fp ad μ o ci pd)) :: am_wdL dn ad cT μ) H) (hD : va_D A ((h0, .inr (ci, ct_fp ad μ o ci pd)) :: am_wdL dn ad cT μ)) (hS : va_S A H0 H locs) {larr : Array Slot} (hl0 : larr[0]? = some (.val (.ref h0)))
    {k idx pc NF t N ln : Nat} {x : Int} {off : Int} {i : Instr} {atype : ArrayType} {CN : String} {TN : u_T} (hc : g_cl[ci]? = some (CN, TN, NF)) (hk : k < NF) (hlk : Cond.fieldLink own idx CN (TN k).2.1 (TN k).2.2.1 ∈ am_tG) (hdc : (TN k).1 = CN) (how : CN = own) {et : FieldType} (hd : parseFieldDescriptor (TN k).2.2.1 = some (.array et)) (hf : am_fld ci k = some (4, off)) (hox : o + off = x) (hx0 : ¬ x < 0) (hat : (t = 0 ∧ atype = .int) ∨ (t = 1 ∧ atype = .long) ∨ False) (hN : N < 100000) (hz : ∀ j : Nat, μ x j = 0) (okL : ct_okL μ dn [x] = true) (okF : ct_okF μ o ci pd [x] = true) (hpd : pd.filter (fun j => decide (j ≠ k)) = pd') (hdn : dn ++ [(x, t, N)] = dn') (hpsh : ct_psh i ln N = true)
    (d0 : decode cc pc = .ok (.aload_n 0, 1)) (d1 : decode cc (pc + 1) = .ok (i, ln)) (d2 : decode cc (pc + 1 + ln) = .ok (.newarray atype, 2)) (d3 : decode cc (pc + 1 + ln + 2) = .ok (.putfield idx, 3)) (hcells : cells + 1 ≤ R.cells) (hslots : slots + N ≤ R.slots) {rest : List Value}
    (kk : ∀ (H1 : Heap) (locs1 : List Loc) (ad' : Int → Nat), (∀ y, y ∉ [x] → ad' y = ad y) → va_P (dC, dI) g_cl ((h0, .inr (ci, ct_fp ad' μ o ci pd')) :: am_wdL dn' ad' cT μ) H1 → va_D A ((h0, .inr (ci, ct_fp ad' μ o ci pd')) :: am_wdL dn' ad' cT μ) → va_S A H0 H1 locs1 → W p l e R s m args below meth c H1 locs1 (cells + 1) (slots + N) Q (F0 m (pc + 1 + ln + 2 + 3) larr rest)) : W p l e R s m args below meth c H locs cells slots Q (F0 m pc larr rest) := by
  obtain ⟨hx, hb, -⟩ := id C0
  refine lv_aload_n hx hb d0 rfl hl0 ?_
  refine ct_push C0 d1 hpsh ?_
  refine ct_newa C0 hA hP hD hS hat hN hcells hslots d2 (fun q H1 hP1 hD1 hS1 => ?_)
  have hP1 : va_P (dC, dI) g_cl ((h0, .inr (ci, ct_fp ad μ o ci pd)) :: (am_wdL dn ad cT μ ++ [(q, .inl (cT t, ct_zero t N))])) H1 := hP1
  have hD1 : va_D A ((h0, .inr (ci, ct_fp ad μ o ci pd)) :: (am_wdL dn ad cT μ ++ [(q, .inl (cT t, ct_zero t N))])) := hD1
  refine ct_put C0 hnm hP1 hD1 hS1 hc hk hlk hdc how hd (v := .ref q) rfl rfl (ct_fp_len hc) d3 (fun H2 locs2 hP2 hD2 hS2 => ?_)
  obtain ⟨ad', hax, hay⟩ : ∃ ad' : Int → Nat, ad' x = q ∧ ∀ y, y ∉ [x] → ad' y = ad y := ⟨fun y => if y = x then q else ad y, if_pos rfl, fun y hy => if_neg (fun z => hy (List.mem_singleton.mpr z))⟩
  have ht : t < 3 := by
    rcases hat with ⟨h, -⟩ | ⟨h, -⟩ | h
    · omega
    · omega
    · exact h.elim
  have e1 : (ct_fp ad μ o ci pd).set k (.ref q) = ct_fp ad' μ o ci pd' := by
    rw [← ct_fpC okF hay]
    refine ct_fp_set hf ?_ hpd
    show Value.ref q = (if o + off < 0 then .null else .ref (ad' (o + off)))
    rw [hox, if_neg hx0, hax]
  have e2 : am_wdL dn ad cT μ ++ [(q, .inl (cT t, ct_zero t N))] = am_wdL dn' ad' cT μ := by
    rw [← hdn, ct_wdL_app, ct_wdL okL hay]
    show _ = am_wdL dn ad cT μ ++ [(ad' x, am_cell ad' cT μ x (t, N))]
    rw [ct_zcell ht hz, hax]
  rw [e1, e2] at hP2 hD2
  exact kk H2 locs2 ad' hay hP2 hD2 hS2
/-- this.f = .. -/
theorem ct_set (C0 : am_cx p s m args c cc nL own [] [] [] dC dI cT) (hnm : meth.name = "<init>") {μ : am_M} {ad : Int → Nat} {o : Int} {ci h0 : Nat} {pd pd' : List Nat} {G : va_W} (hP : va_P (dC, dI) g_cl ((h0, .inr (ci, ct_fp ad μ o ci pd)) :: G) H) (hD : va_D A ((h0, .inr (ci, ct_fp ad μ o ci pd)) :: G)) (hS : va_S A H0 H locs) {k idx pc NF : Nat} {CN : String} {TN : u_T} (hc : g_cl[ci]? = some (CN, TN, NF)) (hk : k < NF) (hlk : Cond.fieldLink own idx CN (TN k).2.1 (TN k).2.2.1 ∈ am_tG) (hdc : (TN k).1 = CN) (how : CN = own) {ty : FieldType} {v : Value} (hd : parseFieldDescriptor (TN k).2.2.1 = some ty) (hn : narrow ty v = v) (hfit : fits ty v = true) {f : Nat × Int} (hf : am_fld ci k = some f) (hv : v = am_cv ad 0 (am_fv μ o k f)) (hpd : pd.filter (fun j => decide (j ≠ k)) = pd') (hdg : decode cc pc = .ok (.putfield idx, 3)) {larr : Array Slot} {rest : List Value}
    (kk : ∀ (H1 : Heap) (locs1 : List Loc), va_P (dC, dI) g_cl ((h0, .inr (ci, ct_fp ad μ o ci pd')) :: G) H1 → va_D A ((h0, .inr (ci, ct_fp ad μ o ci pd')) :: G) → va_S A H0 H1 locs1 → W p l e R s m args below meth c H1 locs1 cells slots Q (F0 m (pc + 3) larr rest)) : W p l e R s m args below meth c H locs cells slots Q (F0 m pc larr (v :: .ref h0 :: rest)) := by
  refine ct_put C0 hnm hP hD hS hc hk hlk hdc how hd hn hfit (ct_fp_len hc) hdg (fun H2 locs2 hP2 hD2 hS2 => ?_)
  rw [ct_fp_set hf hv hpd] at hP2 hD2
  exact kk H2 locs2 hP2 hD2 hS2
/-- the end of a constructor -/
theorem ct_end (C0 : am_cx p s m args c cc nL own [] [] [] dC dI cT) (hr : meth.sig.returnType = none) (hlocks : meth.locks = false) {μ : am_M} {ad0 ad : Int → Nat} {o : Int} {ci h0 : Nat} {dn L : List (Int × Nat × Nat)} {xs : List Int} (e0 : ad o = h0) (hay : ∀ y, y ∉ xs → ad y = ad0 y) (hL : (o, 10 + ci, 0) :: dn = L) (hP : va_P (dC, dI) g_cl ((h0, .inr (ci, ct_fp ad μ o ci [])) :: am_wdL dn ad cT μ) H) (hD : va_D A ((h0, .inr (ci, ct_fp ad μ o ci [])) :: am_wdL dn ad cT μ)) (hS : va_S A s.heap H locs) {pc : Nat} (hdg : decode cc pc = .ok (.return_, 1)) {larr : Array Slot} : W p l e R s m args below meth c H locs cells slots (MQ below (ct_Qc dC dI cT μ ad0 L xs A) args s cells slots A) (F0 m pc larr []) := by
  obtain ⟨hx, hb, hmx, hown, hts, hNW, hK, -⟩ := C0
  have e : ((h0, .inr (ci, ct_fp ad μ o ci [])) :: am_wdL dn ad cT μ : va_W) = am_wdL L ad cT μ := by
    rw [← hL, ct_fp_nil]
    show _ = (ad o, am_cell ad cT μ o (10 + ci, 0)) :: am_wdL dn ad cT μ
    rw [am_cellO, e0]
  rw [e] at hP hD
  exact W.vret hx hb hr (fun t ht hW => ⟨⟨ad, rfl, hay, by rw [ht]; exact hP, va_K.moved hW.alike hK, hD⟩, hS.F ht⟩) hS.2.2 hdg hlocks
end CT
