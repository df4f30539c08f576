/-! Contracts of methods that return, or throw. am_metI: out of part 14 by program (wip/whole/e3.py). -/
theorem am_metI (l : Launch) (dC : Nat → ClassId) (dI : Nat → Nat → Nat) (ad : Int → Nat) (cT : Nat → ClassId) (sb : Nat) {I : am_I} (hw : am_mw I) (hc : am_mc g_mt I) {d : Nat} {as : am_S} {μ : am_M} {res : am_R} (hlen : as.length = I.2.2.2.2.2.1) (hcat : am_cat as ≤ I.2.2.1) (hrun : am_run none (am_ar g_mt d) I.2.2.1 I.2.2.2.1 I.2.2.2.2.1 0 (am_args 0 as) [] μ res) (hin : ∀ v ∈ as, am_in v) (hG : am_G μ) : (am_G res.2 ∧ ∀ v, res.1 = some v → am_in v) ∧ ∀ sz, Met l I.1 (Cond.code I.1 I.2.1 I.2.2.1 I.2.2.2.1 :: am_tG) { frames := d + 1, cells := 0, slots := 0, locals := 64 * (d + 1) + 64 } (am_Pc dC dI ad cT sb as sz μ) (am_Qc dC dI ad cT sb (va_A (am_wd ad cT μ) sz) res) 0 0 (va_A (am_wd ad cT μ) sz) := by
  obtain ⟨w1, w2, w3, w4, w5, w6, w7, w8⟩ := hw
  obtain ⟨fl, ml, kl, kL, hfl, hkl, hkL, hml, hC⟩ := hc
  have ih := fun j as μ res => am_met g_mw g_mc l dC dI ad cT sb d j as μ res
  have hCRin : am_CRin (am_ar g_mt d) := fun j as μ res h1 h2 h3 => (ih j as μ res h1 h2 h3).1
  refine ⟨am_run_in hC (fun L xs q => by cases q) hCRin hrun (am_args_in _ _ hin) (fun v hv => by cases hv) hG, fun sz => ?_⟩
  refine Met.ofW (cc := I.2.1) (maxL := I.2.2.1) (ret := I.2.2.2.1) w1 rfl ?_
  intro p e s m args below meth c s₁ B hmx hv
  obtain ⟨rfl, hsz, ⟨hP, hK, hD0⟩, hN⟩ := hv
  have hx := B.exec
  have hb := B.bytes
  have hr := B.returns
  have hts0 := atoms_spec (ws := Cond.code I.1 I.2.1 I.2.2.1 I.2.2.2.1 :: am_tG) B.pre
  have hts : ∀ w ∈ am_tG, w.before (as.map (am_cv ad sb)).toArray s = true := fun w hw => hts0 w (List.mem_cons_of_mem _ hw)
  have hown : s.vm.findClass I.1.cls = some m.cls := findClass_of_methodNamed B.named
  have hlocks := B.notSynchronized
  subst hsz
  have hD := hD0.self (sz := s.heap.size)
  have hA : ∀ q : Nat, s.heap.size ≤ q → va_A (am_wd ad cT μ) s.heap.size q := fun q h => Or.inr h
  have hS : va_S (va_A (am_wd ad cT μ) s.heap.size) s.heap s.heap [] := va_S.rf
  have hl := lv_entry (as.map (am_cv ad sb)) (n := I.2.2.1) (by rw [am_slLen]; exact hcat)
  rw [lg_entry_eq]
  generalize (lg_sl (as.map (am_cv ad sb)) ++ List.replicate (I.2.2.1 - (lg_sl (as.map (am_cv ad sb))).length) Slot.unset).toArray = larr at hl ⊢
  rw [am_argsMap] at hl
  have C0 : am_cx p s m (as.map (am_cv ad sb)).toArray c I.2.1 I.2.2.1 I.1.cls fl kl kL dC dI cT := ⟨hx, hb, hmx, hown, hts, hN, hK, hfl, hkl, hkL⟩
  have hq : ∀ (v : Option Value) (H : Heap) (locs : List Loc), v = res.1.map (am_cv ad sb) → va_P (dC, dI) g_cl (am_wd ad cT res.2) H → va_D (va_A (am_wd ad cT μ) s.heap.size) (am_wd ad cT res.2) → va_S (va_A (am_wd ad cT μ) s.heap.size) s.heap H locs → ∀ t : State, t.heap = H → s.WarmedH t.vm → am_Qc dC dI ad cT sb (va_A (am_wd ad cT μ) s.heap.size) res (as.map (am_cv ad sb)).toArray s (.returned v) t :=
    fun v H locs hv hP1 hD1 hS1 t ht hW => ⟨⟨by rw [hv], by rw [ht]; exact hP1, va_K.moved hW.alike hK, hD1⟩, hS1.F ht⟩
  refine am_sim (l := l) (R := (headSpec (Cond.code I.1 I.2.1 I.2.2.1 I.2.2.2.1 :: am_tG) { frames := d + 1, cells := 0, slots := 0, locals := 64 * (d + 1) + 64 }).room) C0 hml g_mw hA (cs := fun _ => 0) (ss := fun _ => 0) (fun _ _ _ => ⟨rfl, rfl⟩) (CR := am_ar g_mt d) ?_ hC (X := none) (fun L xs q => by cases q) (Nat.le_add_left 1 d) (show 60 ≤ 64 * (d + 1) + 64 by omega) (rt := I.2.2.2.1) (res := res) ?_ ?_ ?_ hrun hl (am_args_in _ _ hin) (fun v hv => by cases hv) hG hP hD hS (Nat.zero_le _) (Nat.zero_le _)
  · intro j as μ res h1 h2 h3 h4 h5
    obtain ⟨q1, I', hI', hlen', hM⟩ := ih j as μ res h1 h2 h3
    have hm8 := (g_mw _ _ hI').2.2.2.2.2.2.2
    exact ⟨q1, ⟨Nat.zero_le _, Nat.zero_le _⟩, I', _, 0, 0, hI', hlen', rfl, rfl, Nat.le_refl _, (show 8 + (I'.2.2.1 + 11) + (64 * d + 64) ≤ 64 * (d + 1) + 64 by omega), rfl, rfl, hM⟩
  · intro v H locs larr pc hd hrt hres hP1 hD1 hS1 hc1 hs1
    have hq1 := hq (some (.int (Int32.ofInt v))) H locs (by rw [hres]; rfl) hP1 hD1 hS1
    rcases hrt with hrt | ⟨hrt, hv⟩
    · exact W.iret hx hb (hr.trans hrt) hq1 hS1.2.2 hd hlocks
    · refine W.zret hx hb (hr.trans hrt) ?_ hq1 hS1.2.2 hd hlocks
      rcases hv with hv | hv <;> (subst hv; rfl)
  · intro v H locs larr pc hd hrt hres hP1 hD1 hS1 hc1 hs1
    exact W.lret hx hb (hr.trans hrt) (hq (some (.long (Int64.ofInt v))) H locs (by rw [hres]; rfl) hP1 hD1 hS1) hS1.2.2 hd hlocks
  · intro H locs larr pc hd hrt hres hP1 hD1 hS1 hc1 hs1
    exact W.vret hx hb (hr.trans hrt) (hq none H locs (by rw [hres]; rfl) hP1 hD1 hS1) hS1.2.2 hd hlocks
/-! What is carried to methods that may throw. -/
def am_thr : List Cond := nx_L.filter vx_no
set_option maxRecDepth 20000 in
theorem thr_kind : ∀ w ∈ am_thr, (w.onTables && (goodWord w || w.faceAtom)) = true := List.all_eq_true.mp (by decide +kernel)
set_option maxRecDepth 20000 in
theorem thr_ot : ∀ w ∈ Cond.classLink "BurningSlips" 186 am_NS :: Cond.initialized am_NS :: am_thr, vx_ot w = true := List.all_eq_true.mp (by decide +kernel)
set_option maxRecDepth 20000 in
theorem thr_in : ∀ w ∈ am_thr, w ∈ lw_tbl := by decide +kernel
theorem thr_k : Cond.classLink "BurningSlips" 186 am_NS ∈ am_tG := am_mem_t (by decide +kernel) rfl
theorem thr_i : Cond.initialized am_NS ∈ am_tG := am_mem_t (by decide +kernel) rfl
theorem thr_at {s : State} {a a' : Array Value} (h : ∀ w ∈ am_thr, w.before a s = true) : ∀ w ∈ am_thr, w.before a' s = true := fun w hw => va_tabs ((Bool.and_eq_true _ _).mp (thr_kind w hw)).1 rfl (h w hw)
theorem thr_warm {s U : State} (hW : s.WarmedH U.vm) (h : ∀ w ∈ am_thr, w.before #[] s = true) : ∀ w ∈ am_thr, w.before #[] U = true := by
  intro w hw
  have hk := thr_kind w hw
  rw [Bool.and_eq_true, Bool.or_eq_true] at hk
  rcases hk.2 with hg | hg
  · exact word_at hW (good_of_word hg) (h w hw)
  · exact va_tabs hk.1 (show (s.setVm U.vm).vm = U.vm from rfl) (Cond.faceAtom_setVm hW.alike w hg (h w hw))
def am_tx : Nat → Nat × String := fun i => match i with
  | 0 => (188, "nothing is given yet")
  | 1 => (199, "no such slip on the table")
  | 2 => (204, "no such bill")
  | _ => (206, "the bill gives nothing")
/-- what a throw needs of the start: two statics, four texts, the tables' words -/
def am_Z (sa : Nat → Nat) (A : Nat → Prop) (U : State) (H : Heap) : Prop := vx_Zq Bundle.tN "UNASSIGNED_STACK" Bundle.steD A U H ∧ vx_Zq Bundle.tN "SUPPRESSED_SENTINEL" Bundle.listD A U H ∧ (∀ i, i < 4 → vk_R "BurningSlips" (am_tx i).1 (am_tx i).2 (sa i) U) ∧ ∀ w ∈ am_thr, w.before #[] U = true
theorem am_Z.go {sa : Nat → Nat} {A B : Nat → Prop} {s U : State} {H0 H : Heap} (h : am_Z sa A s H0) (hW : s.WarmedH U.vm) (hk : ∀ a : Nat, a < H0.size → ¬ A a → H[a]? = H0[a]?) (hAB : ∀ q, B q → A q) : am_Z sa B U H :=
  ⟨((h.1.moved hW.alike).kept hk).narrow hAB, ((h.2.1.moved hW.alike).kept hk).narrow hAB, fun i hi => vk_R.warm hW (h.2.2.1 i hi), thr_warm hW h.2.2.2⟩
theorem am_Z.vm {sa : Nat → Nat} {A : Nat → Prop} {U U' : State} {H : Heap} (hv : U'.vm = U.vm) (h : am_Z sa A U H) : am_Z sa A U' H :=
  ⟨h.1.moved (by rw [hv]; exact Vm.Alike.refl _), h.2.1.moved (by rw [hv]; exact Vm.Alike.refl _), fun i hi => vk_R.same hv (h.2.2.1 i hi), fun w hw => va_tabs ((Bool.and_eq_true _ _).mp (thr_kind w hw)).1 hv.symm (h.2.2.2 w hw)⟩
def am_PcX (dC : Nat → ClassId) (dI : Nat → Nat → Nat) (ad : Int → Nat) (cT : Nat → ClassId) (sb : Nat) (sa : Nat → Nat) (as : am_S) (sz : Nat) (μ : am_M) : Array Value → State → Prop := va_Pc (as.map (am_cv ad sb)) (fun U => U.heap.size = sz ∧ am_B dC dI ad cT (fun _ => True) μ U ∧ (∀ w ∈ am_nest, va_Nw w U) ∧ am_Z sa (va_A (am_wd ad cT μ) sz) U U.heap)
theorem am_blindX {dC : Nat → ClassId} {dI : Nat → Nat → Nat} {ad : Int → Nat} {cT : Nat → ClassId} {sb : Nat} {sa : Nat → Nat} {as : am_S} {sz : Nat} {μ : am_M} : FrameBlind (am_PcX dC dI ad cT sb sa as sz μ) := by
  intro a U g mk q
  obtain ⟨q0, q1, ⟨qP, qK, qD⟩, qN, qZ⟩ := q
  exact ⟨q0, q1, ⟨qP, va_K.moved (u := U) (U := U.calling g mk a) (Vm.Alike.refl U.vm) qK, qD⟩, fun w hw => va_Nw.same (am_nest_tab hw) (rfl : U.vm = (U.calling g mk a).vm) (qN w hw), am_Z.vm (U := U) (U' := U.calling g mk a) rfl qZ⟩
def am_XC (dC : Nat → ClassId) (dI : Nat → Nat → Nat) (ad : Int → Nat) (cT : Nat → ClassId) (A : Nat → Prop) (μ : am_M) : String → State → State → Prop := fun E st t => E = am_NS ∧ am_B dC dI ad cT A μ t ∧ va_F A st t
/-- a method of the class that throws, by the way that it goes there -/
theorem am_thrG (l : Launch) (hl : l.stackTraces = false) (dC : Nat → ClassId) (dI : Nat → Nat → Nat) (ad : Int → Nat) (cT : Nat → ClassId) (sb : Nat) (sa : Nat → Nat) {I : am_I} (hw : am_mw I) (hc : am_mc g_mt I) (hown0 : I.1.cls = "BurningSlips") (hrt : I.2.2.2.1 = some .int) {d : Nat} {as : am_S} {μ μ' : am_M} (hcat : am_cat as ≤ I.2.2.1) {i pct : Nat} (hi : i < 4)
    (hth : ∀ P : am_P, am_rul none (am_ar g_mt d) I.2.2.1 (some .int) I.2.2.2.2.1 (none, fun _ _ => 0) P → (∀ ls, P pct ls [] μ') → P 0 (am_args 0 as) [] μ)
    (d0 : decode I.2.1 pct = .ok (.new 186, 3)) (d3 : decode I.2.1 (pct + 3) = .ok (.dup, 1)) (d4 : decode I.2.1 (pct + 4) = .ok (.ldc (am_tx i).1, 2)) (d6 : decode I.2.1 (pct + 6) = .ok (.invokespecial 190, 3)) (d9 : decode I.2.1 (pct + 9) = .ok (.athrow, 1))
    (hin : ∀ v ∈ as, am_in v) (hG : am_G μ) (sz : Nat) : vx_Met l I.1 (Cond.code I.1 I.2.1 I.2.2.1 I.2.2.2.1 :: am_tG) { frames := d + 10, cells := 1, slots := 6, locals := 64 * (d + 1) + 200 } (am_PcX dC dI ad cT sb sa as sz μ) (fun _ _ _ _ => False) (am_XC dC dI ad cT (va_A (am_wd ad cT μ) sz) μ') 1 6 (va_A (am_wd ad cT μ) sz) := by
  obtain ⟨w1, w2, w3, w4, w5, w6, w7, w8⟩ := hw
  obtain ⟨fl, ml, kl, kL, hfl, hkl, hkL, hml, hC⟩ := hc
  refine vx_ofW (cc := I.2.1) (maxL := I.2.2.1) (ret := I.2.2.2.1) w1 rfl ?_
  intro p e s m args below meth c s₁ B hmx hnt hv
  obtain ⟨rfl, hsz, ⟨hP, hK, hD0⟩, hN, hZ⟩ := hv
  have hx := B.exec
  have hb := B.bytes
  have hr := B.returns
  have hts0 := atoms_spec (ws := Cond.code I.1 I.2.1 I.2.2.1 I.2.2.2.1 :: am_tG) B.pre
  have hts : ∀ w ∈ am_tG, w.before (as.map (am_cv ad sb)).toArray s = true := fun w hw => hts0 w (List.mem_cons_of_mem _ hw)
  have hown : s.vm.findClass I.1.cls = some m.cls := findClass_of_methodNamed B.named
  have hlocks := B.notSynchronized
  subst hsz
  have hD := hD0.self (sz := s.heap.size)
  have hA : ∀ q : Nat, s.heap.size ≤ q → va_A (am_wd ad cT μ) s.heap.size q := fun q h => Or.inr h
  have hS : va_S (va_A (am_wd ad cT μ) s.heap.size) s.heap s.heap [] := va_S.rf
  have hl2 := lv_entry (as.map (am_cv ad sb)) (n := I.2.2.1) (by rw [am_slLen]; exact hcat)
  rw [lg_entry_eq]
  generalize (lg_sl (as.map (am_cv ad sb)) ++ List.replicate (I.2.2.1 - (lg_sl (as.map (am_cv ad sb))).length) Slot.unset).toArray = larr at hl2 ⊢
  rw [am_argsMap] at hl2
  have C0 : am_cx p s m (as.map (am_cv ad sb)).toArray c I.2.1 I.2.2.1 I.1.cls fl kl kL dC dI cT := ⟨hx, hb, hmx, hown, hts, hN, hK, hfl, hkl, hkL⟩
  have hR := am_simG (l := l) (R := (headSpec (Cond.code I.1 I.2.1 I.2.2.1 I.2.2.2.1 :: am_tG) { frames := d + 10, cells := 1, slots := 6, locals := 64 * (d + 1) + 200 }).room) (below := below) (meth := meth) (e := e) (sb := sb) (ad := ad) (Q := vx_MQ below (fun _ _ _ _ => False) (am_XC dC dI ad cT (va_A (am_wd ad cT μ) s.heap.size) μ') (as.map (am_cv ad sb)).toArray s 1 6 (va_A (am_wd ad cT μ) s.heap.size)) C0 hml g_mw hA (cs := fun _ => 0) (ss := fun _ => 0) (fun _ _ _ => ⟨rfl, rfl⟩) (CR := am_ar g_mt d) (by
    intro j as μ res h1 h2 h3 h4 h5
    obtain ⟨q1, I', hI', hlen', hM⟩ := am_met g_mw g_mc l dC dI ad cT sb d j as μ res h1 h2 h3
    have hm8 := (g_mw _ _ hI').2.2.2.2.2.2.2
    exact ⟨q1, ⟨Nat.zero_le _, Nat.zero_le _⟩, I', _, 0, 0, hI', hlen', rfl, rfl, (show d + 1 ≤ d + 10 by omega), (show 8 + (I'.2.2.1 + 11) + (64 * d + 64) ≤ 64 * (d + 1) + 200 by omega), rfl, rfl, hM⟩) hC (X := none) (fun L xs q => by cases q) (show 1 ≤ d + 10 by omega) (show 60 ≤ 64 * (d + 1) + 200 by omega) (rt := some .int) (res := (none, fun _ _ => 0)) rfl rfl
  refine hth _ hR ?_ s.heap [] larr hl2 (am_args_in _ _ hin) (fun v hv => by cases hv) hG hP hD hS (Nat.zero_le _) (Nat.zero_le _)
  intro ls H locs larr' hl' hls hst hG' hP' hD' hS' hc1 hs1
  have ho : s.vm.findClass "BurningSlips" = some m.cls := by rw [← hown0]; exact hown
  exact nx_throw (text := (am_tx i).2) (is := (am_tx i).1) (sa := sa i) (A := va_A (am_wd ad cT μ) s.heap.size) hx hb hl ho (hts _ thr_k) (hts _ thr_i) (hZ.2.2.1 i hi) (thr_at hZ.2.2.2) thr_ot hZ.1 hZ.2.1 hS' (hl'.1.trans hmx.symm) d0 d3 d4 d6 d9 (fun x hx => (hnt x hx).elim) (show 2 + 3 < d + 10 by omega) (show 0 + (13 * (2 + 1) + 43) ≤ 64 * (d + 1) + 200 by omega) (Nat.le_refl 1) (Nat.le_refl 6) hlocks
    (fun t hal hsz1 hkeep => ⟨rfl, ⟨hP'.kept (fun k q hk => hkeep _ (hP' k q hk).lt), va_K.moved hal hK, hD'⟩, Nat.le_trans hS'.1 hsz1, fun q h1 h2 => by rw [hkeep q (Nat.lt_of_lt_of_le h1 hS'.1)]; exact hS'.2.1 q h1 h2⟩) hS'.2.2 (Nat.le_refl 1) (Nat.le_refl 6)
