/-! The JDK's own methods over the one text that a constructor reads. -/
def js_by : List Int32 := [116, 97, 107, 101, 108, 101, 116, 32, 116, 119, 105, 110, 98, 117, 114, 110, 99, 97, 108, 108, 105, 102, 32, 32, 101, 108, 115, 101, 101, 110, 100, 32, 103, 105, 118, 101, 119, 97, 108, 108, 98, 105, 108, 108, 111, 110, 99, 101, 109, 111, 115, 116, 97, 115, 32, 32, 110, 111, 116, 32, 97, 110, 100, 32, 111, 114, 32, 32]
def js_tx : String := "takelet twinburncallif  elseend givewallbilloncemostas  not and or  "
/-- the text, and two statics -/
def js_S (sa sv : Nat) (A : Nat → Prop) (U : State) (H : Heap) : Prop := vk_R "BurningSlips$Tape" 15 js_tx sa U ∧ va_O "java/lang/String" sa A U H ∧ va_OF "java/lang/String" "coder" "B" (.int 0) sa A U H ∧ va_OF "java/lang/String" "value" "[B" (.ref sv) sa A U H ∧ va_T .byte sv 68 (fun j => .int (js_by.getD j 0)) A U H ∧ va_Z "java/lang/String" "COMPACT_STRINGS" "Z" (.int 1) A U H ∧ va_Zq "jdk/internal/util/Preconditions" "SIOOBE_FORMATTER" "Ljava/util/function/BiFunction;" A U H
theorem js_S.go {sa sv : Nat} {A B : Nat → Prop} {s U : State} {H0 H : Heap} (h : js_S sa sv A s H0) (hW : s.WarmedH U.vm) (hk : ∀ a : Nat, a < H0.size → ¬ A a → H[a]? = H0[a]?) (hAB : ∀ q, B q → A q) : js_S sa sv B U H := by
  obtain ⟨h1, h2, h3, h4, h5, h6, h7⟩ := h
  exact ⟨vk_R.warm hW h1, ((va_O.moved hW.alike h2).kept hk).narrow hAB, ((va_OF.moved hW.alike h3).kept hk).narrow hAB, ((va_OF.moved hW.alike h4).kept hk).narrow hAB, ((va_T.moved hW.alike h5).kept hk).narrow hAB, ((va_Z.moved hW.alike h6).kept hk).narrow hAB, ((va_Zq.moved hW.alike h7).kept hk).narrow hAB⟩
theorem js_S.vm {sa sv : Nat} {A : Nat → Prop} {U U' : State} {H : Heap} (hv : U'.vm = U.vm) (h : js_S sa sv A U H) : js_S sa sv A U' H := by
  obtain ⟨h1, h2, h3, h4, h5, h6, h7⟩ := h
  have ha : U.vm.Alike U'.vm := by rw [hv]; exact Vm.Alike.refl _
  exact ⟨vk_R.same hv h1, va_O.moved ha h2, va_OF.moved ha h3, va_OF.moved ha h4, va_T.moved ha h5, va_Z.moved ha h6, va_Zq.moved ha h7⟩
def js_Pc (avs : List Value) (sa sv sz : Nat) : Array Value → State → Prop := va_Pc avs (fun U => U.heap.size = sz ∧ js_S sa sv (fun q => sz ≤ q) U U.heap)
theorem js_blind {avs : List Value} {sa sv sz : Nat} : FrameBlind (js_Pc avs sa sv sz) := by
  intro a U g mk q
  obtain ⟨q0, q1, qZ⟩ := q
  exact ⟨q0, q1, js_S.vm (U := U) (U' := U.calling g mk a) rfl qZ⟩
theorem js_met (l : Launch) {y : MethodName} {bytes : ByteArray} {maxL : Nat} {ret : Option FieldType} (hp : plainName y.cls = true) {avs : List Value} (hcat : (lg_sl avs).length ≤ maxL) {sa sv : Nat} {Qc : Array Value → State → Outcome → State → Prop} (rm : Room) (sz : Nat)
    (body : ∀ (p : Program) (e : Env) (s : State) (m : MethodId) (args : Array Value) (below : List Frame) (meth : Method) (c : Code) (larr : Array Slot), sz = s.heap.size → p.tables.exec = Jvm.exec → c.code = bytes → c.maxLocals = maxL → s.vm.findClass y.cls = some m.cls → (∀ w ∈ am_tG, w.before args s = true) → meth.sig.returnType = ret → meth.locks = false → js_S sa sv (fun q => s.heap.size ≤ q) s s.heap → lv_has larr maxL (lv_args 0 avs) → W p l e (headSpec (Cond.code y bytes maxL ret :: am_tG) rm).room s m args below meth c s.heap [] 0 0 (MQ below Qc args s 0 0 (fun q => s.heap.size ≤ q)) (F0 m 0 larr [])) :
    Met l y (Cond.code y bytes maxL ret :: am_tG) rm (js_Pc avs sa sv sz) Qc 0 0 (fun q => sz ≤ q) := by
  refine Met.ofW (cc := bytes) (maxL := maxL) (ret := ret) hp rfl ?_
  intro p e s m args below meth c s₁ B hmx hv
  obtain ⟨rfl, hsz, hZ⟩ := hv
  have hts0 := atoms_spec (ws := Cond.code y bytes maxL ret :: am_tG) B.pre
  subst hsz
  have hl2 := lv_entry avs (n := maxL) hcat
  rw [lg_entry_eq]
  generalize (lg_sl avs ++ List.replicate (maxL - (lg_sl avs).length) Slot.unset).toArray = larr at hl2 ⊢
  exact body p e s m avs.toArray below meth c larr rfl B.exec B.bytes hmx (findClass_of_methodNamed B.named) (fun w hw => hts0 w (List.mem_cons_of_mem _ hw)) B.returns B.notSynchronized hZ hl2
def js_Qi (v : Int32) (sz : Nat) : Array Value → State → Outcome → State → Prop := va_Qi (fun (r : Int32) (_ : Unit) => r = v) (fun _ _ => True) (fun q => sz ≤ q)
def js_Qv (sz : Nat) : Array Value → State → Outcome → State → Prop := va_Qv (fun (_ : Unit) => True) (fun _ _ => True) (fun q => sz ≤ q)
section JS
variable {p : Program} {l : Launch} {e : Env} {R : Room} {s : State} {m : MethodId} {args : Array Value} {below : List Frame} {meth : Method} {c : Code} {H : Heap} {locs : List Loc} {cells slots : Nat} {Q : State → Prop}
variable {cc : ByteArray} {own : String} {nL : Nat} {A : Nat → Prop} {H0 : Heap}
theorem js_good {y : MethodName} {bytes : ByteArray} {maxL : Nat} {ret : Option FieldType} (hcode : Cond.code y bytes maxL ret ∈ am_tG) : GoodIn am_tG (Cond.code y bytes maxL ret :: am_tG) := fun w hw => by
  have h1 : w ∈ am_tG := (List.mem_cons.mp hw).elim (fun z => z ▸ hcode) id
  exact ⟨h1, good_of_word (List.mem_filter.mp h1).2⟩
/-- an int comes back, and nothing old was written -/
theorem js_backi {a : Array Value} {pc : Nat} {larr : Array Slot} {st0 rest : List Value} {v : Int32} (hr : va_Run p l e R s m args below meth c H locs cells slots 0 0 (F0 m pc larr st0) rest (js_Qi v H.size a) (fun q => H.size ≤ q)) (hS : va_S A H0 H locs) (hA : ∀ q : Nat, H0.size ≤ q → A q)
    (kk : ∀ (H1 : Heap) (locs1 : List Loc), H.size ≤ H1.size → (∀ q : Nat, q < H.size → H1[q]? = H[q]?) → va_S A H0 H1 locs1 → W p l e R s m args below meth c H1 locs1 cells slots Q (F0 m (pc + 3) larr (.int v :: rest))) : W p l e R s m args below meth c H locs cells slots Q (F0 m pc larr st0) := by
  refine va_calli hr hS (fun q h1 h2 => absurd h2 (Nat.not_le.mpr h1)) (fun q h => hA q (Nat.le_trans hS.1 h)) (fun r u t H1 locs1 ht hvm hw hB hz1 hk1 hS1 => ?_)
  subst hw
  exact kk H1 locs1 hz1 (fun q hq => hk1 q hq (Nat.not_le.mpr hq)) hS1
theorem js_backv {a : Array Value} {pc : Nat} {larr : Array Slot} {st0 rest : List Value} (hr : va_Run p l e R s m args below meth c H locs cells slots 0 0 (F0 m pc larr st0) rest (js_Qv H.size a) (fun q => H.size ≤ q)) (hS : va_S A H0 H locs) (hA : ∀ q : Nat, H0.size ≤ q → A q)
    (kk : ∀ (H1 : Heap) (locs1 : List Loc), H.size ≤ H1.size → (∀ q : Nat, q < H.size → H1[q]? = H[q]?) → va_S A H0 H1 locs1 → W p l e R s m args below meth c H1 locs1 cells slots Q (F0 m (pc + 3) larr rest)) : W p l e R s m args below meth c H locs cells slots Q (F0 m pc larr st0) := by
  refine va_callv hr hS (fun q h1 h2 => absurd h2 (Nat.not_le.mpr h1)) (fun q h => hA q (Nat.le_trans hS.1 h)) (fun u t H1 locs1 ht hvm hw hB hz1 hk1 hS1 => ?_)
  exact kk H1 locs1 hz1 (fun q hq => hk1 q hq (Nat.not_le.mpr hq)) hS1
/-- a call on the text -/
theorem js_callV (S : CallFix p m c cc nL s args am_tG own) (hA : ∀ q : Nat, s.heap.size ≤ q → A q) (hS : va_S A s.heap H locs) {sa sv : Nat} (hZ : js_S sa sv A s s.heap) {y : MethodName} {bytes : ByteArray} {maxL : Nat} {ret : Option FieldType} {rm : Room} {v : Int32} {As : List Value} (hM : Met l y (Cond.code y bytes maxL ret :: am_tG) rm (js_Pc (.ref sa :: As) sa sv H.size) (js_Qi v H.size) 0 0 (fun q => H.size ≤ q)) (hrc : rm.cells = 0 ∧ rm.slots = 0) {idx pc n : Nat} (hcls : y.cls = "java/lang/String") (hcode : Cond.code y bytes maxL ret ∈ am_tG) (hlk : Cond.methodLink own idx y ∈ am_tG) (hinst : Cond.instanceMethod y ∈ am_tG) (hsel : Cond.selects y.cls y y ∈ am_tG) (hd : (parseMethodDescriptor y.desc).map (fun d => d.parameters.length) = some n) (hn : As.length = n) (hR : rm.frames + 1 ≤ R.frames ∧ 8 + (maxL + 11) + rm.locals ≤ R.locals) (hroom : cells ≤ R.cells ∧ slots ≤ R.slots) (hdg : decode cc pc = .ok (.invokevirtual idx, 3)) {larr : Array Slot} (hsz : larr.size = nL) {st rest : List Value} (hst : st = As.reverse ++ .ref sa :: rest) (hcat : (rest.map fun v => v.category).sum ≤ 8)
    (kk : ∀ (H1 : Heap) (locs1 : List Loc), H.size ≤ H1.size → (∀ q : Nat, q < H.size → H1[q]? = H[q]?) → va_S A s.heap H1 locs1 → W p l e R s m args below meth c H1 locs1 cells slots Q (F0 m (pc + 3) larr (.int v :: rest))) : W p l e R s m args below meth c H locs cells slots Q (F0 m pc larr st) := by
  subst hst
  have hts := S.2.2.2.2
  have h7 : ∃ cell : Cell, H[sa]? = some cell ∧ cell.vm.isStatics = false ∧ s.vm.findClass y.cls = some cell.cls := by
    obtain ⟨cell, h1, h2, h3, -⟩ := hZ.2.1.kept hS.2.1
    exact ⟨cell, h1, h2, by rw [hcls]; exact h3⟩
  refine js_backi (va_runV (C := y.cls) (As := As) (rest := rest) S hM ⟨callB_of n hts (js_good hcode) rfl hrc.1 hrc.2 (hts _ (by rw [hcls]; exact am_mem_t (by decide +kernel) rfl)) (hts _ hlk) ⟨by rw [hcls]; decide, by rw [hcls]; decide, hd⟩ hR, hts _ hinst, hts _ hsel⟩ ⟨js_blind, h7, fun U hU hW => ⟨rfl, by rw [hU], by rw [hU]; exact hZ.go hW hS.2.1 (fun q h => hA q (Nat.le_trans hS.1 h))⟩⟩ rfl hn hsz rfl (lv_room hcat) hdg hroom) hS hA kk
theorem js_callS (S : CallFix p m c cc nL s args am_tG own) (hA : ∀ q : Nat, s.heap.size ≤ q → A q) (hS : va_S A s.heap H locs) {sa sv : Nat} (hZ : js_S sa sv A s s.heap) {y : MethodName} {bytes : ByteArray} {maxL : Nat} {ret : Option FieldType} {rm : Room} {v : Int32} {As : List Value} (hM : Met l y (Cond.code y bytes maxL ret :: am_tG) rm (js_Pc As sa sv H.size) (js_Qi v H.size) 0 0 (fun q => H.size ≤ q)) (hrc : rm.cells = 0 ∧ rm.slots = 0) {idx pc n : Nat} (hcls : y.cls ≠ "java/lang/invoke/MethodHandle" ∧ y.cls ≠ "java/lang/invoke/VarHandle") (hini : Cond.initialized y.cls ∈ am_tG) (hcode : Cond.code y bytes maxL ret ∈ am_tG) (hlk : Cond.methodLink own idx y ∈ am_tG) (hstt : Cond.static y ∈ am_tG) (hd : (parseMethodDescriptor y.desc).map (fun d => d.parameters.length) = some n) (hn : As.length = n) (hR : rm.frames + 1 ≤ R.frames ∧ 8 + (maxL + 11) + rm.locals ≤ R.locals) (hroom : cells ≤ R.cells ∧ slots ≤ R.slots) (hdg : decode cc pc = .ok (.invokestatic idx, 3)) {larr : Array Slot} (hsz : larr.size = nL) {st rest : List Value} (hst : st = As.reverse ++ rest) (hcat : (rest.map fun v => v.category).sum ≤ 8)
    (kk : ∀ (H1 : Heap) (locs1 : List Loc), H.size ≤ H1.size → (∀ q : Nat, q < H.size → H1[q]? = H[q]?) → va_S A s.heap H1 locs1 → W p l e R s m args below meth c H1 locs1 cells slots Q (F0 m (pc + 3) larr (.int v :: rest))) : W p l e R s m args below meth c H locs cells slots Q (F0 m pc larr st) := by
  subst hst
  have hts := S.2.2.2.2
  exact js_backi (va_runS (As := As) (rest := rest) S hM ⟨callB_of n hts (js_good hcode) rfl hrc.1 hrc.2 (hts _ hini) (hts _ hlk) ⟨hcls.1, hcls.2, hd⟩ hR, hts _ hstt⟩ ⟨js_blind, fun U hU hW => ⟨rfl, by rw [hU], by rw [hU]; exact hZ.go hW hS.2.1 (fun q h => hA q (Nat.le_trans hS.1 h))⟩⟩ rfl hn hsz rfl (lv_room hcat) hdg hroom) hS hA kk
theorem js_callSv (S : CallFix p m c cc nL s args am_tG own) (hA : ∀ q : Nat, s.heap.size ≤ q → A q) (hS : va_S A s.heap H locs) {sa sv : Nat} (hZ : js_S sa sv A s s.heap) {y : MethodName} {bytes : ByteArray} {maxL : Nat} {ret : Option FieldType} {rm : Room} {As : List Value} (hM : Met l y (Cond.code y bytes maxL ret :: am_tG) rm (js_Pc As sa sv H.size) (js_Qv H.size) 0 0 (fun q => H.size ≤ q)) (hrc : rm.cells = 0 ∧ rm.slots = 0) {idx pc n : Nat} (hcls : y.cls ≠ "java/lang/invoke/MethodHandle" ∧ y.cls ≠ "java/lang/invoke/VarHandle") (hini : Cond.initialized y.cls ∈ am_tG) (hcode : Cond.code y bytes maxL ret ∈ am_tG) (hlk : Cond.methodLink own idx y ∈ am_tG) (hstt : Cond.static y ∈ am_tG) (hd : (parseMethodDescriptor y.desc).map (fun d => d.parameters.length) = some n) (hn : As.length = n) (hR : rm.frames + 1 ≤ R.frames ∧ 8 + (maxL + 11) + rm.locals ≤ R.locals) (hroom : cells ≤ R.cells ∧ slots ≤ R.slots) (hdg : decode cc pc = .ok (.invokestatic idx, 3)) {larr : Array Slot} (hsz : larr.size = nL) {st rest : List Value} (hst : st = As.reverse ++ rest) (hcat : (rest.map fun v => v.category).sum ≤ 8)
    (kk : ∀ (H1 : Heap) (locs1 : List Loc), H.size ≤ H1.size → (∀ q : Nat, q < H.size → H1[q]? = H[q]?) → va_S A s.heap H1 locs1 → W p l e R s m args below meth c H1 locs1 cells slots Q (F0 m (pc + 3) larr rest)) : W p l e R s m args below meth c H locs cells slots Q (F0 m pc larr st) := by
  subst hst
  have hts := S.2.2.2.2
  exact js_backv (va_runS (As := As) (rest := rest) S hM ⟨callB_of n hts (js_good hcode) rfl hrc.1 hrc.2 (hts _ hini) (hts _ hlk) ⟨hcls.1, hcls.2, hd⟩ hR, hts _ hstt⟩ ⟨js_blind, fun U hU hW => ⟨rfl, by rw [hU], by rw [hU]; exact hZ.go hW hS.2.1 (fun q h => hA q (Nat.le_trans hS.1 h))⟩⟩ rfl hn hsz rfl (lv_room hcat) hdg hroom) hS hA kk
end JS
def y_coder : MethodName := ⟨"java/lang/String", "coder", "()B"⟩
def y_length : MethodName := ⟨"java/lang/String", "length", "()I"⟩
def y_latin : MethodName := ⟨"java/lang/String", "isLatin1", "()Z"⟩
def y_chk : MethodName := ⟨"java/lang/String", "checkIndex", "(II)V"⟩
def y_chk0 : MethodName := ⟨"jdk/internal/util/Preconditions", "checkIndex", "(IILjava/util/function/BiFunction;)I"⟩
def y_chL : MethodName := ⟨"java/lang/StringLatin1", "charAt", "([BI)C"⟩
def y_char : MethodName := ⟨"java/lang/String", "charAt", "(I)C"⟩
set_option maxRecDepth 20000 in
theorem js_tG (w : Cond) (h : w ∈ lw_tbl) (hg : goodWord w = true) : w ∈ am_tG := List.mem_filter.mpr ⟨h, hg⟩
theorem js_coder (l : Launch) (sa sv sz : Nat) : Met l y_coder (Cond.code y_coder prog_20_method_152_code 1 (some .byte) :: am_tG) { frames := 1, cells := 0, slots := 0, locals := 40 } (js_Pc [.ref sa] sa sv sz) (js_Qi 0 sz) 0 0 (fun q => sz ≤ q) := by
  refine js_met l (by decide) (Nat.le_of_ble_eq_true rfl) _ sz ?_
  intro p e s m args below meth c larr hsz hx hb hmx hown hts hr hlocks hZ hl
  subst hsz
  have hS : va_S (fun q : Nat => s.heap.size ≤ q) s.heap s.heap [] := va_S.rf
  obtain ⟨hstr, hO, hco, hva, hT, hcs, hzq⟩ := hZ
  refine va_gets hx hb hcs hS hown (hts (.fieldLink "java/lang/String" 38 "java/lang/String" "COMPACT_STRINGS" "Z") (js_tG _ (by decide +kernel) rfl)) (fun x h => h) (index := 38) (by decide +kernel) ?_
  refine lv_if_eq (off := 10) (tgt := 13) hx hb (by decide +kernel) (by decide) (fun h => absurd h (by decide)) (fun _ => ?_)
  refine lv_aload_n (k := 0) hx hb (by decide +kernel) rfl (lv_at hl 0 rfl) ?_
  refine vk_getf (index := 15) hx hb hco hS hown (hts (.fieldLink "java/lang/String" 15 "java/lang/String" "coder" "B") (js_tG _ (by decide +kernel) rfl)) (fun x h => h) (by decide +kernel) ?_
  refine lv_goto (off := 4) (tgt := 14) hx hb (by decide +kernel) (by decide) ?_
  exact W.zret hx hb hr rfl (fun t ht hW => ⟨⟨0, (), rfl, rfl, trivial⟩, hS.F ht⟩) hS.2.2 (by decide +kernel) hlocks
theorem js_length (l : Launch) (sa sv sz : Nat) : Met l y_length (Cond.code y_length prog_20_method_54_code 1 (some .int) :: am_tG) { frames := 2, cells := 0, slots := 0, locals := 80 } (js_Pc [.ref sa] sa sv sz) (js_Qi 68 sz) 0 0 (fun q => sz ≤ q) := by
  refine js_met l (by decide) (Nat.le_of_ble_eq_true rfl) _ sz ?_
  intro p e s m args below meth c larr hsz hx hb hmx hown hts hr hlocks hZ hl
  subst hsz
  have hA : ∀ q : Nat, s.heap.size ≤ q → (fun q : Nat => s.heap.size ≤ q) q := fun _ h => h
  have hS : va_S (fun q : Nat => s.heap.size ≤ q) s.heap s.heap [] := va_S.rf
  obtain ⟨hstr, hO, hco, hva, hT, hcs, hzq⟩ := id hZ
  refine lv_aload_n (k := 0) hx hb (by decide +kernel) rfl (lv_at hl 0 rfl) ?_
  refine vk_getf (index := 9) hx hb hva hS hown (hts (.fieldLink "java/lang/String" 9 "java/lang/String" "value" "[B") (js_tG _ (by decide +kernel) rfl)) (fun x h => h) (by decide +kernel) ?_
  refine va_tlen (v := 68) hx hb hT hS rfl (by decide +kernel) ?_
  refine lv_aload_n (k := 0) hx hb (by decide +kernel) rfl (lv_at hl 0 rfl) ?_
  refine js_callV (n := 0) (idx := 335) (As := []) (rest := [.int 68]) ⟨hx, hb, hmx, hown, hts⟩ hA hS hZ (js_coder l sa sv s.heap.size) ⟨rfl, rfl⟩ rfl (js_tG _ (by decide +kernel) rfl) (js_tG _ (by decide +kernel) rfl) (js_tG _ (by decide +kernel) rfl) (js_tG _ (by decide +kernel) rfl) (by decide +kernel) rfl ⟨Nat.le_of_ble_eq_true rfl, Nat.le_of_ble_eq_true rfl⟩ ⟨Nat.zero_le _, Nat.zero_le _⟩ (by decide +kernel) hl.1 rfl (Nat.le_of_ble_eq_true rfl) (fun H1 locs1 hz hk hS1 => ?_)
  refine lv_ishr hx hb (by decide +kernel) ?_
  exact W.iret hx hb hr (fun t ht hW => ⟨⟨_, (), rfl, by decide, trivial⟩, hS1.F ht⟩) hS1.2.2 (by decide +kernel) hlocks
theorem js_latin (l : Launch) (sa sv sz : Nat) : Met l y_latin (Cond.code y_latin prog_20_method_154_code 1 (some .boolean) :: am_tG) { frames := 1, cells := 0, slots := 0, locals := 40 } (js_Pc [.ref sa] sa sv sz) (js_Qi 1 sz) 0 0 (fun q => sz ≤ q) := by
  refine js_met l (by decide) (Nat.le_of_ble_eq_true rfl) _ sz ?_
  intro p e s m args below meth c larr hsz hx hb hmx hown hts hr hlocks hZ hl
  subst hsz
  have hS : va_S (fun q : Nat => s.heap.size ≤ q) s.heap s.heap [] := va_S.rf
  obtain ⟨hstr, hO, hco, hva, hT, hcs, hzq⟩ := hZ
  refine va_gets hx hb hcs hS hown (hts (.fieldLink "java/lang/String" 38 "java/lang/String" "COMPACT_STRINGS" "Z") (js_tG _ (by decide +kernel) rfl)) (fun x h => h) (index := 38) (by decide +kernel) ?_
  refine lv_if_eq (off := 14) (tgt := 17) hx hb (by decide +kernel) (by decide) (fun h => absurd h (by decide)) (fun _ => ?_)
  refine lv_aload_n (k := 0) hx hb (by decide +kernel) rfl (lv_at hl 0 rfl) ?_
  refine vk_getf (index := 15) hx hb hco hS hown (hts (.fieldLink "java/lang/String" 15 "java/lang/String" "coder" "B") (js_tG _ (by decide +kernel) rfl)) (fun x h => h) (by decide +kernel) ?_
  refine lv_if_ne (off := 7) (tgt := 17) hx hb (by decide +kernel) (by decide) (fun h => absurd rfl h) (fun _ => ?_)
  refine lv_iconst (n := 1) (v := 1) hx hb (by decide +kernel) rfl ?_
  refine lv_goto (off := 4) (tgt := 18) hx hb (by decide +kernel) (by decide) ?_
  exact W.zret hx hb hr rfl (fun t ht hW => ⟨⟨1, (), rfl, rfl, trivial⟩, hS.F ht⟩) hS.2.2 (by decide +kernel) hlocks
theorem js_chk0 (l : Launch) (sa sv sz : Nat) (i n : Int32) (h0 : ¬ i < 0) (h1 : i < n) (v : Value) (hv : v = .null ∨ ∃ t, v = .ref t) : Met l y_chk0 (Cond.code y_chk0 prog_28_method_11_code 3 (some .int) :: am_tG) { frames := 1, cells := 0, slots := 0, locals := 40 } (js_Pc [.int i, .int n, v] sa sv sz) (js_Qi i sz) 0 0 (fun q => sz ≤ q) := by
  have hcat : (lg_sl [.int i, .int n, v]).length ≤ 3 := by
    rcases hv with hv | ⟨t, hv⟩ <;> (subst hv; exact Nat.le_of_ble_eq_true rfl)
  refine js_met l (by decide) hcat _ sz ?_
  intro p e s m args below meth c larr hsz hx hb hmx hown hts hr hlocks hZ hl
  subst hsz
  have hS : va_S (fun q : Nat => s.heap.size ≤ q) s.heap s.heap [] := va_S.rf
  refine lv_iload_n (k := 0) hx hb (by decide +kernel) rfl (lv_at hl 0 rfl) ?_
  refine lv_if_lt (off := 8) (tgt := 9) hx hb (by decide +kernel) (by decide) (fun h => absurd h h0) (fun _ => ?_)
  refine lv_iload_n (k := 0) hx hb (by decide +kernel) rfl (lv_at hl 0 rfl) ?_
  refine lv_iload_n (k := 1) hx hb (by decide +kernel) rfl (lv_at hl 1 rfl) ?_
  refine lv_icmp_lt (off := 10) (tgt := 16) hx hb (by decide +kernel) (by decide) (fun _ => ?_) (fun h => absurd h1 h)
  refine lv_iload_n (k := 0) hx hb (by decide +kernel) rfl (lv_at hl 0 rfl) ?_
  exact W.iret hx hb hr (fun t ht hW => ⟨⟨i, (), rfl, rfl, trivial⟩, hS.F ht⟩) hS.2.2 (by decide +kernel) hlocks
theorem js_chk (l : Launch) (sa sv sz : Nat) (i n : Int32) (h0 : ¬ i < 0) (h1 : i < n) : Met l y_chk (Cond.code y_chk prog_20_method_155_code 2 none :: am_tG) { frames := 2, cells := 0, slots := 0, locals := 80 } (js_Pc [.int i, .int n] sa sv sz) (js_Qv sz) 0 0 (fun q => sz ≤ q) := by
  refine js_met l (by decide) (Nat.le_of_ble_eq_true rfl) _ sz ?_
  intro p e s m args below meth c larr hsz hx hb hmx hown hts hr hlocks hZ hl
  subst hsz
  have hA : ∀ q : Nat, s.heap.size ≤ q → (fun q : Nat => s.heap.size ≤ q) q := fun _ h => h
  have hS : va_S (fun q : Nat => s.heap.size ≤ q) s.heap s.heap [] := va_S.rf
  obtain ⟨hstr, hO, hco, hva, hT, hcs, hzq⟩ := id hZ
  refine lv_iload_n (k := 0) hx hb (by decide +kernel) rfl (lv_at hl 0 rfl) ?_
  refine lv_iload_n (k := 1) hx hb (by decide +kernel) rfl (lv_at hl 1 rfl) ?_
  have key : ∀ v : Value, (v = .null ∨ ∃ t, v = .ref t) → va_Z "jdk/internal/util/Preconditions" "SIOOBE_FORMATTER" "Ljava/util/function/BiFunction;" v (fun q : Nat => s.heap.size ≤ q) s s.heap → W p l e (headSpec (Cond.code y_chk prog_20_method_155_code 2 none :: am_tG) { frames := 2, cells := 0, slots := 0, locals := 80 }).room s m args below meth c s.heap [] 0 0 (MQ below (js_Qv s.heap.size) args s 0 0 (fun q => s.heap.size ≤ q)) (F0 m (0 + 1 + 1) larr [.int n, .int i]) := by
    intro v hv hz
    refine va_gets hx hb hz hS hown (hts (.fieldLink "java/lang/String" 1053 "jdk/internal/util/Preconditions" "SIOOBE_FORMATTER" "Ljava/util/function/BiFunction;") (js_tG _ (by decide +kernel) rfl)) (fun x h => h) (index := 1053) (by decide +kernel) ?_
    refine js_callS (n := 3) (idx := 1059) (As := [.int i, .int n, v]) (rest := []) ⟨hx, hb, hmx, hown, hts⟩ hA hS hZ (js_chk0 l sa sv s.heap.size i n h0 h1 v hv) ⟨rfl, rfl⟩ (by decide) (js_tG _ (by decide +kernel) rfl) (js_tG _ (by decide +kernel) rfl) (js_tG _ (by decide +kernel) rfl) (js_tG _ (by decide +kernel) rfl) (by decide +kernel) rfl ⟨Nat.le_of_ble_eq_true rfl, Nat.le_of_ble_eq_true rfl⟩ ⟨Nat.zero_le _, Nat.zero_le _⟩ (by decide +kernel) hl.1 rfl (Nat.le_of_ble_eq_true rfl) (fun H1 locs1 hz hk hS1 => ?_)
    refine lv_pop hx hb (by decide +kernel) rfl ?_
    exact W.vret hx hb hr (fun t ht hW => ⟨⟨(), rfl, trivial, trivial⟩, hS1.F ht⟩) hS1.2.2 (by decide +kernel) hlocks
  rcases hzq with hz | ⟨t, hz⟩
  · exact key .null (Or.inl rfl) hz
  · exact key (.ref t) (Or.inr ⟨t, rfl⟩) hz
theorem js_chL (l : Launch) (sa sv sz : Nat) (i : Int32) (h0 : ¬ i < 0) (h1 : i < 68) (hc : (((js_by.getD i.toNatClampNeg 0) &&& 255).toUInt32 % 65536).toInt32 = js_by.getD i.toNatClampNeg 0) (hn : narrow .char (.int (js_by.getD i.toNatClampNeg 0)) = .int (js_by.getD i.toNatClampNeg 0)) : Met l y_chL (Cond.code y_chL prog_21_method_2_code 2 (some .char) :: am_tG) { frames := 3, cells := 0, slots := 0, locals := 120 } (js_Pc [.ref sv, .int i] sa sv sz) (js_Qi (js_by.getD i.toNatClampNeg 0) sz) 0 0 (fun q => sz ≤ q) := by
  refine js_met l (by decide) (Nat.le_of_ble_eq_true rfl) _ sz ?_
  intro p e s m args below meth c larr hsz hx hb hmx hown hts hr hlocks hZ hl
  subst hsz
  have hA : ∀ q : Nat, s.heap.size ≤ q → (fun q : Nat => s.heap.size ≤ q) q := fun _ h => h
  have hS : va_S (fun q : Nat => s.heap.size ≤ q) s.heap s.heap [] := va_S.rf
  obtain ⟨hstr, hO, hco, hva, hT, hcs, hzq⟩ := id hZ
  refine lv_iload_n (k := 1) hx hb (by decide +kernel) rfl (lv_at hl 1 rfl) ?_
  refine lv_aload_n (k := 0) hx hb (by decide +kernel) rfl (lv_at hl 0 rfl) ?_
  refine va_tlen (v := 68) hx hb hT hS rfl (by decide +kernel) ?_
  refine js_callSv (n := 2) (idx := 9) (As := [.int i, .int 68]) (rest := []) ⟨hx, hb, hmx, hown, hts⟩ hA hS hZ (js_chk l sa sv s.heap.size i 68 h0 h1) ⟨rfl, rfl⟩ (by decide) (js_tG _ (by decide +kernel) rfl) (js_tG _ (by decide +kernel) rfl) (js_tG _ (by decide +kernel) rfl) (js_tG _ (by decide +kernel) rfl) (by decide +kernel) rfl ⟨Nat.le_of_ble_eq_true rfl, Nat.le_of_ble_eq_true rfl⟩ ⟨Nat.zero_le _, Nat.zero_le _⟩ (by decide +kernel) hl.1 rfl (Nat.le_of_ble_eq_true rfl) (fun H1 locs1 hz hk hS1 => ?_)
  refine lv_aload_n (k := 0) hx hb (by decide +kernel) rfl (lv_at hl 0 rfl) ?_
  refine lv_iload_n (k := 1) hx hb (by decide +kernel) rfl (lv_at hl 1 rfl) ?_
  have hin : vp_in i 68 := by
    rw [vp_in_iff]
    rw [Int32.lt_iff_toInt_lt] at h0 h1
    have e1 : (0 : Int32).toInt = 0 := rfl
    have e2 : (68 : Int32).toInt = 68 := rfl
    omega
  refine va_tb (v := .int (js_by.getD i.toNatClampNeg 0)) hx hb hT hS1 hin rfl (by decide +kernel) ?_
  refine lv_sipush (n := 255) (v := 255) hx hb (by decide +kernel) (by decide) ?_
  refine lv_iand hx hb (by decide +kernel) ?_
  refine lv_i2c hx hb (by decide +kernel) hc ?_
  exact W.zret hx hb hr hn (fun t ht hW => ⟨⟨_, (), rfl, rfl, trivial⟩, hS1.F ht⟩) hS1.2.2 (by decide +kernel) hlocks
theorem js_char (l : Launch) (sa sv sz : Nat) (i : Int32) (h0 : ¬ i < 0) (h1 : i < 68) (hc : (((js_by.getD i.toNatClampNeg 0) &&& 255).toUInt32 % 65536).toInt32 = js_by.getD i.toNatClampNeg 0) (hn : narrow .char (.int (js_by.getD i.toNatClampNeg 0)) = .int (js_by.getD i.toNatClampNeg 0)) : Met l y_char (Cond.code y_char prog_20_method_56_code 2 (some .char) :: am_tG) { frames := 4, cells := 0, slots := 0, locals := 160 } (js_Pc [.ref sa, .int i] sa sv sz) (js_Qi (js_by.getD i.toNatClampNeg 0) sz) 0 0 (fun q => sz ≤ q) := by
  refine js_met l (by decide) (Nat.le_of_ble_eq_true rfl) _ sz ?_
  intro p e s m args below meth c larr hsz hx hb hmx hown hts hr hlocks hZ hl
  subst hsz
  have hA : ∀ q : Nat, s.heap.size ≤ q → (fun q : Nat => s.heap.size ≤ q) q := fun _ h => h
  have hS : va_S (fun q : Nat => s.heap.size ≤ q) s.heap s.heap [] := va_S.rf
  obtain ⟨hstr, hO, hco, hva, hT, hcs, hzq⟩ := id hZ
  refine lv_aload_n (k := 0) hx hb (by decide +kernel) rfl (lv_at hl 0 rfl) ?_
  refine js_callV (n := 0) (idx := 492) (As := []) (rest := []) ⟨hx, hb, hmx, hown, hts⟩ hA hS hZ (js_latin l sa sv s.heap.size) ⟨rfl, rfl⟩ rfl (js_tG _ (by decide +kernel) rfl) (js_tG _ (by decide +kernel) rfl) (js_tG _ (by decide +kernel) rfl) (js_tG _ (by decide +kernel) rfl) (by decide +kernel) rfl ⟨Nat.le_of_ble_eq_true rfl, Nat.le_of_ble_eq_true rfl⟩ ⟨Nat.zero_le _, Nat.zero_le _⟩ (by decide +kernel) hl.1 rfl (Nat.le_of_ble_eq_true rfl) (fun H1 locs1 hz hk hS1 => ?_)
  refine lv_if_eq (off := 12) (tgt := 16) hx hb (by decide +kernel) (by decide) (fun h => absurd h (by decide)) (fun _ => ?_)
  refine lv_aload_n (k := 0) hx hb (by decide +kernel) rfl (lv_at hl 0 rfl) ?_
  refine vk_getf (index := 9) hx hb hva hS1 hown (hts (.fieldLink "java/lang/String" 9 "java/lang/String" "value" "[B") (js_tG _ (by decide +kernel) rfl)) (fun x h => h) (by decide +kernel) ?_
  refine lv_iload_n (k := 1) hx hb (by decide +kernel) rfl (lv_at hl 1 rfl) ?_
  refine js_callS (n := 2) (idx := 495) (As := [.ref sv, .int i]) (rest := []) ⟨hx, hb, hmx, hown, hts⟩ hA hS1 hZ (js_chL l sa sv H1.size i h0 h1 hc hn) ⟨rfl, rfl⟩ (by decide) (js_tG _ (by decide +kernel) rfl) (js_tG _ (by decide +kernel) rfl) (js_tG _ (by decide +kernel) rfl) (js_tG _ (by decide +kernel) rfl) (by decide +kernel) rfl ⟨Nat.le_of_ble_eq_true rfl, Nat.le_of_ble_eq_true rfl⟩ ⟨Nat.zero_le _, Nat.zero_le _⟩ (by decide +kernel) hl.1 rfl (Nat.le_of_ble_eq_true rfl) (fun H2 locs2 hz2 hk2 hS2 => ?_)
  exact W.zret hx hb hr hn (fun t ht hW => ⟨⟨_, (), rfl, rfl, trivial⟩, hS2.F ht⟩) hS2.2.2 (by decide +kernel) hlocks
