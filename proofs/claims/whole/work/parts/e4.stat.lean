/-! The law's own methods around given, slip, free: they return. -/
def am_rx : am_CR := fun j as μ res => ∃ I, g_mx j = some I ∧ as.length = I.2.2.2.2.2.1 ∧ am_cat as ≤ I.2.2.1 ∧ am_run none (am_ar g_mt 40) I.2.2.1 I.2.2.2.1 I.2.2.2.2.1 0 (am_args 0 as) [] μ res
theorem thr_L : Cond.classLink "BurningSlipsLaw" 13 am_NS ∈ am_tG := am_mem_t (by decide +kernel) rfl
theorem g_mx_c {j : Nat} {I : am_I} (h : g_mx j = some I) : (j = 300 ∧ I = i_X_given) ∨ (j = 301 ∧ I = i_X_slip) ∨ (j = 302 ∧ I = i_X_free) := by
  unfold g_mx at h
  by_cases c : j = 300
  · rw [if_pos c] at h; cases h; exact Or.inl ⟨c, rfl⟩
  · rw [if_neg c] at h
    by_cases c : j = 301
    · rw [if_pos c] at h; cases h; exact Or.inr (Or.inl ⟨c, rfl⟩)
    · rw [if_neg c] at h
      by_cases c : j = 302
      · rw [if_pos c] at h; cases h; exact Or.inr (Or.inr ⟨c, rfl⟩)
      · rw [if_neg c] at h; cases h
theorem g_mxw : ∀ j I, g_mx j = some I → am_mw I := by
  intro j I h
  rcases g_mx_c h with ⟨-, h⟩ | ⟨-, h⟩ | ⟨-, h⟩ <;> subst h
  · exact w_X_given
  · exact w_X_slip
  · exact w_X_free
theorem g_mxc : ∀ j I, g_mx j = some I → am_mc g_mt I := by
  intro j I h
  rcases g_mx_c h with ⟨-, h⟩ | ⟨-, h⟩ | ⟨-, h⟩ <;> subst h
  · exact c_X_given
  · exact c_X_slip
  · exact c_X_free
theorem am_rx_ok (l : Launch) (R : Room) (hf : 60 ≤ R.frames) (hl : 64 * 60 ≤ R.locals) (dC : Nat → ClassId) (dI : Nat → Nat → Nat) (ad : Int → Nat) (cT : Nat → ClassId) (sb : Nat) : am_CRok g_mx l R dC dI ad cT sb (fun _ => 0) (fun _ => 0) am_rx := by
  intro j as μ res h1 h2 h3 h4 h5
  obtain ⟨I, hI, hlen, hcat, hrun⟩ := h1
  obtain ⟨q1, hM⟩ := am_metI l dC dI ad cT sb (g_mxw _ _ hI) (g_mxc _ _ hI) hlen hcat hrun h2 h3
  have h8 := (g_mxw _ _ hI).2.2.2.2.2.2.2
  exact ⟨q1, ⟨Nat.zero_le _, Nat.zero_le _⟩, I, _, 0, 0, hI, hlen, rfl, rfl, (show 40 + 1 + 1 ≤ R.frames by omega), (show 8 + (I.2.2.1 + 11) + (64 * (40 + 1) + 64) ≤ R.locals by omega), rfl, rfl, hM⟩
/-- .. it comes to a return of its own -/
theorem am_lawR (l : Launch) (dC : Nat → ClassId) (dI : Nat → Nat → Nat) (ad : Int → Nat) (cT : Nat → ClassId) (sb : Nat) (sa : Nat → Nat) {y : MethodName} {bytes : ByteArray} {maxL : Nat} {hh : List (Nat × Nat × Nat × Nat)} (hp : plainName y.cls = true) (hy : y.cls = "BurningSlipsLaw") {as : am_S} {μ μ' : am_M} (hcat : am_cat as ≤ maxL) {C : List am_E} (hC : ∀ en ∈ C, am_okE [] ml_Y [] [] bytes en = true) {v : Int} {pcr : Nat}
    (hth : ∀ P : am_P, am_rul none am_rx maxL (some .int) C (none, fun _ _ => 0) P → (∀ ls, P pcr ls [(0, v)] μ') → P 0 (am_args 0 as) [] μ) (dr : decode bytes pcr = .ok (.ireturn, 1)) (hin : ∀ v ∈ as, am_in v) (hG : am_G μ) (sz : Nat) :
    Met l y (Cond.codeWith y bytes maxL (some .int) hh :: am_tG) { frames := 61, cells := 1, slots := 6, locals := 4000 } (am_PcX dC dI ad cT sb sa as sz μ) (am_Qc dC dI ad cT sb (va_A (am_wd ad cT μ) sz) (some (0, v), μ')) 1 6 (va_A (am_wd ad cT μ) sz) := by
  refine va_MetW (cc := bytes) (maxL := maxL) (ret := some .int) hp rfl ?_
  intro p e s m args below meth c s₁ B hmx hv
  obtain ⟨rfl, hsz, ⟨hP, hK, hD0⟩, hN, hZ⟩ := hv
  have hx := B.exec
  have hb := B.bytes
  have hr := B.returns
  have hts0 := atoms_spec (ws := Cond.codeWith y bytes maxL (some .int) hh :: am_tG) B.pre
  have hts : ∀ w ∈ am_tG, w.before (as.map (am_cv ad sb)).toArray s = true := fun w hw => hts0 w (List.mem_cons_of_mem _ hw)
  have hown : s.vm.findClass "BurningSlipsLaw" = some m.cls := by rw [← hy]; exact findClass_of_methodNamed B.named
  have hlocks := B.notSynchronized
  subst hsz
  have hD := hD0.self (sz := s.heap.size)
  have hA : ∀ q : Nat, s.heap.size ≤ q → va_A (am_wd ad cT μ) s.heap.size q := fun q h => Or.inr h
  have hS : va_S (va_A (am_wd ad cT μ) s.heap.size) s.heap s.heap [] := va_S.rf
  have hl2 := lv_entry (as.map (am_cv ad sb)) (n := maxL) (by rw [am_slLen]; exact hcat)
  rw [lg_entry_eq]
  generalize (lg_sl (as.map (am_cv ad sb)) ++ List.replicate (maxL - (lg_sl (as.map (am_cv ad sb))).length) Slot.unset).toArray = larr at hl2 ⊢
  rw [am_argsMap] at hl2
  have C0 : am_cx p s m (as.map (am_cv ad sb)).toArray c bytes maxL "BurningSlipsLaw" [] [] [] dC dI cT := ⟨hx, hb, hmx, hown, hts, hN, hK, fun _ h => absurd h List.not_mem_nil, fun _ h => absurd h List.not_mem_nil, fun _ h => absurd h List.not_mem_nil⟩
  have hR := am_simG (l := l) (R := (headSpec (Cond.codeWith y bytes maxL (some .int) hh :: am_tG) { frames := 61, cells := 1, slots := 6, locals := 4000 }).room) (below := below) (meth := meth) (e := e) (sb := sb) (ad := ad) (Q := MQ below (am_Qc dC dI ad cT sb (va_A (am_wd ad cT μ) s.heap.size) (some (0, v), μ')) (as.map (am_cv ad sb)).toArray s 1 6 (va_A (am_wd ad cT μ) s.heap.size)) C0 ml_Y_ok g_mxw hA (cs := fun _ => 0) (ss := fun _ => 0) (fun _ _ _ => ⟨rfl, rfl⟩) (CR := am_rx) (am_rx_ok l _ (show 60 ≤ 61 by decide) (show 64 * 60 ≤ 4000 by decide) dC dI ad cT sb) hC (X := none) (fun L xs q => by cases q) (show 1 ≤ 61 by decide) (show 60 ≤ 4000 by decide) (rt := some .int) (res := (none, fun _ _ => 0)) rfl rfl
  refine hth _ hR ?_ s.heap [] larr hl2 (am_args_in _ _ hin) (fun v hv => by cases hv) hG hP hD hS (Nat.zero_le _) (Nat.zero_le _)
  intro ls H locs larr' hl' hls hst hG' hP' hD' hS' hc1 hs1
  refine W.widen (k := 1) (n := 6) (Nat.zero_le _) (Nat.zero_le _) ?_
  exact W.iret hx hb hr (fun t ht hW => ⟨⟨rfl, by rw [ht]; exact hP', va_K.moved hW.alike hK, hD'⟩, hS'.F ht⟩) hS'.2.2 dr hlocks
/-- .. what it calls throws, and it catches -/
theorem am_lawT (l : Launch) (dC : Nat → ClassId) (dI : Nat → Nat → Nat) (ad : Int → Nat) (cT : Nat → ClassId) (sb : Nat) (sa : Nat → Nat) {y : MethodName} {bytes : ByteArray} {maxL hs he hp : Nat} (hpl : plainName y.cls = true) (hy : y.cls = "BurningSlipsLaw") {as : am_S} {μ μ' : am_M} (hcat : am_cat as ≤ maxL) {C : List am_E} (hC : ∀ en ∈ C, am_okE [] ml_Y [] [] bytes en = true) {j idx pcc pc2 : Nat} {I : am_I} (hI : g_mx j = some I) (hml : (idx, j, 0, 9) ∈ ml_Y) {as2 r : am_S}
    (hth : ∀ P : am_P, am_rul none am_rx maxL (some .int) C (none, fun _ _ => 0) P → P pcc (am_args 0 as) (as2.reverse ++ r) μ → P 0 (am_args 0 as) [] μ) (hhd : as2.head? = some (2, 0)) (hlen : as2.length = I.2.2.2.2.2.1) (hr8 : am_cat r ≤ 8) (dcall : decode bytes pcc = .ok (.invokevirtual idx, 3)) (hcov : covers ⟨hs, he, hp, 13⟩ pcc = true)
    (hM : ∀ sz, vx_Met l I.1 (Cond.code I.1 I.2.1 I.2.2.1 I.2.2.2.1 :: am_tG) { frames := 50, cells := 1, slots := 6, locals := 64 * (40 + 1) + 200 } (am_PcX dC dI ad cT sb sa as2 sz μ) (fun _ _ _ _ => False) (am_XC dC dI ad cT (va_A (am_wd ad cT μ) sz) μ') 1 6 (va_A (am_wd ad cT μ) sz))
    (hst : ∀ (p : Program) (e : Env) (R : Room) (s : State) (m : MethodId) (args : Array Value) (below : List Frame) (meth : Method) (c : Code) (H : Heap) (locs : List Loc) (cells slots : Nat) (Q : State → Prop) (larr : Array Slot) (q : Nat), p.tables.exec = Jvm.exec → c.code = bytes → lv_has larr maxL [] → (∀ larr' : Array Slot, W p l e R s m args below meth c H locs cells slots Q (F0 m pc2 larr' [.int 1])) → W p l e R s m args below meth c H locs cells slots Q (F0 m hp larr [.ref q])) (dr : decode bytes pc2 = .ok (.ireturn, 1)) (hin : ∀ v ∈ as, am_in v) (hG : am_G μ) (sz : Nat) :
    Met l y (Cond.codeWith y bytes maxL (some .int) [(hs, he, hp, 13)] :: am_tG) { frames := 61, cells := 1, slots := 6, locals := 4000 } (am_PcX dC dI ad cT sb sa as sz μ) (am_Qc dC dI ad cT sb (va_A (am_wd ad cT μ) sz) (some (0, 1), μ')) 1 6 (va_A (am_wd ad cT μ) sz) := by
  refine va_MetW (cc := bytes) (maxL := maxL) (ret := some .int) hpl rfl ?_
  intro p e s m args below meth c s₁ B hmx hv
  obtain ⟨rfl, hsz, ⟨hP, hK, hD0⟩, hN, hZ⟩ := hv
  have hx := B.exec
  have hb := B.bytes
  have hr := B.returns
  have hts0 := atoms_spec (ws := Cond.codeWith y bytes maxL (some .int) [(hs, he, hp, 13)] :: am_tG) B.pre
  have hts : ∀ w ∈ am_tG, w.before (as.map (am_cv ad sb)).toArray s = true := fun w hw => hts0 w (List.mem_cons_of_mem _ hw)
  have htb := vx_table (x := y) B (hts0 _ List.mem_cons_self)
  have hown : s.vm.findClass "BurningSlipsLaw" = some m.cls := by rw [← hy]; exact findClass_of_methodNamed B.named
  have hlocks := B.notSynchronized
  subst hsz
  have hD := hD0.self (sz := s.heap.size)
  have hA : ∀ q : Nat, s.heap.size ≤ q → va_A (am_wd ad cT μ) s.heap.size q := fun q h => Or.inr h
  have hS : va_S (va_A (am_wd ad cT μ) s.heap.size) s.heap s.heap [] := va_S.rf
  have hl2 := lv_entry (as.map (am_cv ad sb)) (n := maxL) (by rw [am_slLen]; exact hcat)
  rw [lg_entry_eq]
  generalize (lg_sl (as.map (am_cv ad sb)) ++ List.replicate (maxL - (lg_sl (as.map (am_cv ad sb))).length) Slot.unset).toArray = larr at hl2 ⊢
  rw [am_argsMap] at hl2
  have C0 : am_cx p s m (as.map (am_cv ad sb)).toArray c bytes maxL "BurningSlipsLaw" [] [] [] dC dI cT := ⟨hx, hb, hmx, hown, hts, hN, hK, fun _ h => absurd h List.not_mem_nil, fun _ h => absurd h List.not_mem_nil, fun _ h => absurd h List.not_mem_nil⟩
  have hR := am_simG (l := l) (R := (headSpec (Cond.codeWith y bytes maxL (some .int) [(hs, he, hp, 13)] :: am_tG) { frames := 61, cells := 1, slots := 6, locals := 4000 }).room) (below := below) (meth := meth) (e := e) (sb := sb) (ad := ad) (Q := MQ below (am_Qc dC dI ad cT sb (va_A (am_wd ad cT μ) s.heap.size) (some (0, 1), μ')) (as.map (am_cv ad sb)).toArray s 1 6 (va_A (am_wd ad cT μ) s.heap.size)) C0 ml_Y_ok g_mxw hA (cs := fun _ => 0) (ss := fun _ => 0) (fun _ _ _ => ⟨rfl, rfl⟩) (CR := am_rx) (am_rx_ok l _ (show 60 ≤ 61 by decide) (show 64 * 60 ≤ 4000 by decide) dC dI ad cT sb) hC (X := none) (fun L xs q => by cases q) (show 1 ≤ 61 by decide) (show 60 ≤ 4000 by decide) (rt := some .int) (res := (none, fun _ _ => 0)) rfl rfl
  refine hth _ hR ?_ s.heap [] larr hl2 (am_args_in _ _ hin) (fun v hv => by cases hv) hG hP hD hS (Nat.zero_le _) (Nat.zero_le _)
  intro H locs larr' hl' hls hst' hG' hP' hD' hS' hc1 hs1
  cases as2 with
  | nil => cases hhd
  | cons a0 As =>
    have ha0 : a0 = (2, 0) := Option.some.inj hhd
    subst ha0
    have hsh : am_shp 0 = some (10 + 9, 0) := rfl
    obtain ⟨w1, w2, w3, w4, w5, w6, w7, w8⟩ := g_mxw _ _ hI
    obtain ⟨I', hI', hsta, ⟨rr, hrr, hrn⟩, l1, l2, l3⟩ := ml_Y_ok _ hml
    have : I' = I := Option.some.inj (hI'.symm.trans hI)
    subst this
    rw [hsta] at w4
    obtain ⟨ix, hix, hw⟩ := am_wd_at (ad := ad) (cT := cT) (μ := μ) hsh
    rw [am_cellO] at hw
    have hst2 : ((((2, 0) :: As).reverse ++ r).map (am_cv ad sb)) = (As.map (am_cv ad sb)).reverse ++ .ref (ad 0) :: r.map (am_cv ad sb) := by
      rw [List.reverse_cons, List.append_assoc, List.map_append, List.map_reverse]
      show _ ++ (am_cv ad sb (2, 0) :: r.map (am_cv ad sb)) = _
      rw [am_ref hsh]
    have hargs : (((2, 0) :: As).map (am_cv ad sb)) = .ref (ad 0) :: As.map (am_cv ad sb) := by rw [List.map_cons, am_ref hsh]
    have hll : (As.map (am_cv ad sb)).length = I'.2.2.2.2.2.1 - 1 := by rw [List.length_map, ← hlen]; rfl
    have hwA : ∀ q, va_A (am_wd ad cT μ) H.size q → va_A (am_wd ad cT μ) s.heap.size q := fun q h => by
      rcases h with h | h
      · exact Or.inl h
      · exact Or.inr (Nat.le_trans hS'.1 h)
    have hpre : ∀ U : State, U.heap = H → s.WarmedH U.vm → am_PcX dC dI ad cT sb sa ((2, 0) :: As) H.size μ (Value.ref (ad 0) :: As.map (am_cv ad sb)).toArray U := fun U hU hW => ⟨by rw [hargs], by rw [hU], ⟨by rw [hU]; exact hP', va_K.moved hW.alike hK, hD'.weaken (fun _ _ _ _ => trivial)⟩, fun w hw => am_nest_warm hw hW (hN w hw), by rw [hU]; exact hZ.go hW hS'.2.1 hwA⟩
    have hrw : (2 * (F0 m pcc larr' ((((2, 0) :: As).reverse ++ r).map (am_cv ad sb))).monitorRoom + ((r.map (am_cv ad sb)).map fun v => v.category).sum ≤ 8) := lv_room (by rw [am_catS]; exact hr8)
    have h7 := va_recv hK hP' hrr hw
    rw [hrn] at h7
    have run := vx_runV (p := p) (l := l) (e := e) (R := (headSpec (Cond.codeWith y bytes maxL (some .int) [(hs, he, hp, 13)] :: am_tG) { frames := 61, cells := 1, slots := 6, locals := 4000 }).room) (below := below) (meth := meth) (locs := locs) (cells := 0) (slots := 0) (C := I'.1.cls) (As := As.map (am_cv ad sb)) (rest := r.map (am_cv ad sb)) (g := F0 m pcc larr' ((((2, 0) :: As).reverse ++ r).map (am_cv ad sb))) ⟨hx, hb, hmx, hown, hts⟩ (hM H.size) ⟨callB_of (I'.2.2.2.2.2.1 - 1) hts (am_good w6) rfl rfl rfl (hts _ w7) (hts _ l1) ⟨w2, w3, w4⟩ ⟨(show 50 + 1 ≤ 61 by decide), (show 8 + (I'.2.2.1 + 11) + (64 * (40 + 1) + 200) ≤ 4000 by omega)⟩, hts _ l2, hts _ l3⟩ ⟨am_blindX, h7, hpre⟩ rfl hll hl'.1 hst2 hrw dcall ⟨Nat.le_refl 1, Nat.le_refl 6⟩
    intro T hT X
    rcases run T hT X with ⟨v, st₀, t, T', L, h0, X', hL, e1, e2, hF, st⟩ | ⟨q, st₀, t, T', L, E, ce, h0, X', hL, e1, e2, ⟨hE, ⟨hPx, -, -⟩, hz, hk⟩, hce, hcv, hcl, st⟩
    · exact hF.elim
    · subst hE
      rw [h0] at hz hk
      have hS2 : va_S (va_A (am_wd ad cT μ) s.heap.size) s.heap T'.heap (locs ++ L) := ⟨Nat.le_trans hS'.1 (by rw [e1]; exact hz), fun q h1 h2 => by rw [e1, hk q (Nat.lt_of_lt_of_le h1 hS'.1) (fun z => h2 (hwA q z))]; exact hS'.2.1 q h1 h2, fun q hq => by
        rcases List.mem_append.mp hq with h | h
        · exact hS'.2.2 q h
        · exact hwA _ (hL q h)⟩
      have hD2 : va_D (va_A (am_wd ad cT μ) s.heap.size) (am_wd ad cT μ') := am_D_same hD'
      have hcs : (Cond.castable am_NS am_NS).before (as.map (am_cv ad sb)).toArray s = true := thr_at hZ.2.2.2 _ (by decide +kernel)
      have kk := vx_catch (p := p) (l := l) (e := e) (R := (headSpec (Cond.codeWith y bytes maxL (some .int) [(hs, he, hp, 13)] :: am_tG) { frames := 61, cells := 1, slots := 6, locals := 4000 }).room) (below := below) (meth := meth) (locs := locs ++ L) (cells := 0 + 1) (slots := 0 + 6) (Q := MQ below (am_Qc dC dI ad cT sb (va_A (am_wd ad cT μ) s.heap.size) (some (0, 1), μ')) (as.map (am_cv ad sb)).toArray s 1 6 (va_A (am_wd ad cT μ) s.heap.size)) (own := "BurningSlipsLaw") (name := am_NS) (E := am_NS) (H := T'.heap) (pc := pcc) (ls := larr') (rest := r.map (am_cv ad sb)) hown [] ⟨hs, he, hp, 13⟩ [] htb (fun z hz => nomatch hz) hcov (show 13 ≠ 0 by decide) (hts _ thr_L) hcs (by rw [e1]; exact hce) hcv hcl (hst p e _ s m _ below meth c _ _ _ _ _ larr' q hx hb ⟨hl'.1, hl'.2.1, fun _ h => absurd h List.not_mem_nil⟩ (fun larr2 => W.iret hx hb hr (fun t2 ht hW => ⟨⟨rfl, by rw [ht, e1]; exact hPx, va_K.moved hW.alike hK, hD2⟩, hS2.F ht⟩) hS2.2.2 dr hlocks))
      obtain ⟨t2, a1, b1⟩ := kk T' rfl X'
      exact ⟨t2, st.trans a1, b1⟩
