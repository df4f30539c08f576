/-! Constructors that make other objects. -/
theorem ct_P_iff {D : va_G} {cl : List vw_C} {ws : va_W} {H : Heap} : va_P D cl ws H ↔ ∀ q ∈ ws, va_at D cl q H := ⟨fun h q hq => by
  obtain ⟨k, hk⟩ := List.mem_iff_getElem?.mp hq
  exact h k q hk, fun h k q hk => h q (List.mem_of_getElem? hk)⟩
theorem ct_D_iff {A : Nat → Prop} {ws : va_W} : va_D A ws ↔ (ws.map (fun q => q.1)).Nodup ∧ ∀ q ∈ ws, A q.1 := by
  constructor
  · intro h
    refine ⟨?_, fun q hq => ?_⟩
    · show List.Pairwise (fun a b => a ≠ b) (ws.map (fun q => q.1))
      rw [List.pairwise_map, List.pairwise_iff_getElem]
      intro i j hi hj hij z
      have := h.1 i j ws[i] ws[j] (List.getElem?_eq_getElem hi) (List.getElem?_eq_getElem hj) z
      omega
    · obtain ⟨k, hk⟩ := List.mem_iff_getElem?.mp hq
      exact h.2 k q hk
  · intro h
    refine ⟨fun i j p q hi hj e => ?_, fun k q hk => h.2 q (List.mem_of_getElem? hk)⟩
    have e1 : (ws.map (fun q => q.1))[i]? = some p.1 := by rw [List.getElem?_map, hi]; rfl
    have e2 : (ws.map (fun q => q.1))[j]? = some p.1 := by rw [List.getElem?_map, hj, e]; rfl
    have hl : i < (ws.map (fun q => q.1)).length := (List.getElem?_eq_some_iff.mp e1).1
    exact (List.getElem?_inj hl h.1).mp (e1.trans e2.symm)
theorem ct_P_perm {D : va_G} {cl : List vw_C} {ws ws' : va_W} {H : Heap} (hp : ws.Perm ws') (h : va_P D cl ws H) : va_P D cl ws' H := ct_P_iff.mpr (fun q hq => ct_P_iff.mp h q (hp.mem_iff.mpr hq))
theorem ct_D_perm {A : Nat → Prop} {ws ws' : va_W} (hp : ws.Perm ws') (h : va_D A ws) : va_D A ws' := by
  rw [ct_D_iff] at h ⊢
  exact ⟨(hp.map _).nodup_iff.mp h.1, fun q hq => h.2 q (hp.mem_iff.mpr hq)⟩
theorem ct_vpV {fs : List Value} {ty : Nat → FieldType} {N : Nat} (h : (List.range N).map (fun j => defaultValue (ty j)) = fs) : ∀ j, j < N → defaultValue (ty j) = vp_V fs j := by
  intro j hj
  subst h
  unfold vp_V
  rw [List.getD_eq_getElem?_getD, List.getElem?_map, List.getElem?_range hj]
  rfl
section CO
variable {p : Program} {l : Launch} {e : Env} {R : Room} {s : State} {m : MethodId} {args : Array Value} {below : List Frame} {meth : Method} {c : Code} {H : Heap} {locs : List Loc} {cells slots : Nat} {Q : State → Prop}
variable {cc : ByteArray} {own : String} {nL : Nat} {dC : Nat → ClassId} {dI : Nat → Nat → Nat} {cT : Nat → ClassId} {A : Nat → Prop} {H0 : Heap}
/-- super() -/
theorem ct_sup (C0 : am_cx p s m args c cc nL own [] [] [] dC dI cT) {idx pc : Nat} {larr : Array Slot} (hsz : larr.size = nL) {h0 : Nat} (hl0 : larr[0]? = some (.val (.ref h0))) (hlk : Cond.methodLink own idx Lib.objectInit ∈ am_tG) (d0 : decode cc pc = .ok (.aload_n 0, 1)) (d1 : decode cc (pc + 1) = .ok (.invokespecial idx, 3)) (hf : 1 ≤ R.frames) (hlo : 12 ≤ R.locals) (kk : W p l e R s m args below meth c H locs cells slots Q (F0 m (pc + 1 + 3) larr [])) : W p l e R s m args below meth c H locs cells slots Q (F0 m pc larr []) := by
  obtain ⟨hx, hb, hmx, hown, hts, hNW, hK, -⟩ := C0
  refine lv_aload_n hx hb d0 rfl hl0 ?_
  exact W.objInit hx hb hown (hts _ hlk) (hts _ (am_mem_t (by decide +kernel) rfl)) (hts _ (am_mem_t (by decide +kernel) rfl)) rfl (by rw [hmx]; exact hsz) rfl d1 hf (show 2 * 0 + 0 + 12 ≤ R.locals by omega) kk
/-- new C; dup -/
theorem ct_new (C0 : am_cx p s m args c cc nL own [] [] [] dC dI cT) (hA : ∀ q : Nat, H0.size ≤ q → A q) {μ : am_M} {ad : Int → Nat} {o x : Int} {ci h0 c2 : Nat} {pd : List Nat} {dn : List (Int × Nat × Nat)} {E : va_W} (hP : va_P (dC, dI) g_cl ((h0, .inr (ci, ct_fp ad μ o ci pd)) :: (am_wdL dn ad cT μ ++ E)) H) (hD : va_D A ((h0, .inr (ci, ct_fp ad μ o ci pd)) :: (am_wdL dn ad cT μ ++ E))) (hS : va_S A H0 H locs) {CN : String} {TN : u_T} {NF idx pc : Nat} (hc : g_cl[c2]? = some (CN, TN, NF)) (ty : Nat → FieldType) (hty : ∀ k, k < NF → parseFieldDescriptor (TN k).2.2.1 = some (ty k)) (hdf : (List.range NF).map (fun j => defaultValue (ty j)) = ct_f0 c2) (hcl : Cond.classLink own idx CN ∈ am_tG) (hinst : Cond.instantiable CN NF ∈ am_tG) (hini : Cond.initialized CN ∈ am_tG) (okL : ct_okL μ dn [x] = true) (okF : ct_okF μ o ci pd [x] = true) (d0 : decode cc pc = .ok (.new idx, 3)) (d1 : decode cc (pc + 3) = .ok (.dup, 1)) (hcells : cells + 1 ≤ R.cells) (hslots : slots + NF ≤ R.slots) {larr : Array Slot} {rest : List Value}
    (kk : ∀ (H1 : Heap) (ad' : Int → Nat), (∀ y, y ∉ [x] → ad' y = ad y) → va_P (dC, dI) g_cl ((h0, .inr (ci, ct_fp ad' μ o ci pd)) :: ((am_wdL dn ad' cT μ ++ E) ++ [(ad' x, .inr (c2, ct_f0 c2))])) H1 → va_D A ((h0, .inr (ci, ct_fp ad' μ o ci pd)) :: ((am_wdL dn ad' cT μ ++ E) ++ [(ad' x, .inr (c2, ct_f0 c2))])) → va_S A H0 H1 locs → W p l e R s m args below meth c H1 locs (cells + 1) (slots + NF) Q (F0 m (pc + 3 + 1) larr (.ref (ad' x) :: .ref (ad' x) :: rest))) : W p l e R s m args below meth c H locs cells slots Q (F0 m pc larr rest) := by
  obtain ⟨hx, hb, hmx, hown, hts, hNW, hK, -⟩ := C0
  obtain ⟨hin, -, -, -⟩ := g_cls _ _ hc
  refine va_new (ci := c2) (fs := ct_f0 c2) (C := CN) (T := TN) (N := NF) hx hb hts hin ty hty hown (hts _ hcl) (hts _ hinst) (hts _ hini) hK hP hD hS hA hc (ct_vpV hdf) hcells hslots d0 (fun q H1 hP1 hD1 hS1 => ?_)
  refine lv_dup hx hb d1 rfl ?_
  obtain ⟨ad', hax, hay⟩ : ∃ ad' : Int → Nat, ad' x = q ∧ ∀ y, y ∉ [x] → ad' y = ad y := ⟨fun y => if y = x then q else ad y, if_pos rfl, fun y hy => if_neg (fun z => hy (List.mem_singleton.mpr z))⟩
  subst hax
  rw [← ct_fpC okF hay, ← ct_wdL okL hay] at hP1 hD1
  exact kk H1 ad' hay hP1 hD1 hS1
/-- a constructor is called -/
theorem ct_call (C0 : am_cx p s m args c cc nL own [] [] [] dC dI cT) (hA : ∀ q : Nat, H0.size ≤ q → A q) {wr wc : va_W} (hP : va_P (dC, dI) g_cl (wr ++ wc) H) (hD : va_D A (wr ++ wc)) (hS : va_S A H0 H locs) {y : MethodName} {bytes : ByteArray} {maxL : Nat} {b : Nat} {As : List Value} {L : List (Int × Nat × Nat)} {xs : List Int} {ad : Int → Nat} {μ : am_M} {rm : Room} {Pc : Array Value → State → Prop} (hM : Met l y (Cond.code y bytes maxL none :: am_tG) rm Pc (ct_Qc dC dI cT μ ad L xs (va_A wc H.size)) rm.cells rm.slots (va_A wc H.size)) (hbl : FrameBlind Pc) (hpre : ∀ U : State, U.heap = H → s.WarmedH U.vm → Pc (Value.ref b :: As).toArray U)
    {idx pc n : Nat} (hlk : Cond.methodLink own idx y ∈ am_tG ∨ Cond.methodLinkNest own idx y "BurningSlips" ∈ am_nest) (hcode : Cond.code y bytes maxL none ∈ am_tG) (hini : Cond.initialized y.cls ∈ am_tG) (hinst : Cond.instanceMethod y ∈ am_tG) (hy1 : y.name = "<init>") (hd : y.cls ≠ "java/lang/invoke/MethodHandle" ∧ y.cls ≠ "java/lang/invoke/VarHandle" ∧ (parseMethodDescriptor y.desc).map (fun d => d.parameters.length) = some n) (hn : As.length = n) (hR : rm.frames + 1 ≤ R.frames ∧ 8 + (maxL + 11) + rm.locals ≤ R.locals) (hroom : cells + rm.cells ≤ R.cells ∧ slots + rm.slots ≤ R.slots) (hdg : decode cc pc = .ok (.invokespecial idx, 3)) {larr : Array Slot} (hsz : larr.size = nL) {st rest : List Value} (hst : st = As.reverse ++ .ref b :: rest) (hcat : (rest.map fun v => v.category).sum ≤ 8)
    (kk : ∀ (H1 : Heap) (locs1 : List Loc) (ad' : Int → Nat), (∀ y, y ∉ xs → ad' y = ad y) → va_P (dC, dI) g_cl (wr ++ am_wdL L ad' cT μ) H1 → va_D A (wr ++ am_wdL L ad' cT μ) → va_S A H0 H1 locs1 → (∀ q : Nat, q < H.size → ¬ va_A wc H.size q → H1[q]? = H[q]?) → W p l e R s m args below meth c H1 locs1 (cells + rm.cells) (slots + rm.slots) Q (F0 m (pc + 3) larr rest)) : W p l e R s m args below meth c H locs cells slots Q (F0 m pc larr st) := by
  obtain ⟨hx, hb, hmx, hown, hts, hNW, hK, -⟩ := C0
  subst hst
  have hwA : ∀ q, va_A wc H.size q → A q := fun q h => by
    rcases h with ⟨k, e', h⟩ | h
    · exact (ct_D_iff.mp hD).2 _ (List.mem_append_right _ (List.mem_of_getElem? h))
    · exact hA q (Nat.le_trans hS.1 h)
  have hGo : GoodIn am_tG (Cond.code y bytes maxL none :: am_tG) := fun w hw => by
    have h1 : w ∈ am_tG := (List.mem_cons.mp hw).elim (fun z => z ▸ hcode) id
    exact ⟨h1, good_of_word (List.mem_filter.mp h1).2⟩
  have hW9 : 2 * (F0 m pc larr (As.reverse ++ .ref b :: rest)).monitorRoom + (rest.map fun v => v.category).sum ≤ 8 := lv_room hcat
  have fin : va_Run p l e R s m args below meth c H locs cells slots rm.cells rm.slots (F0 m pc larr (As.reverse ++ .ref b :: rest)) rest (ct_Qc dC dI cT μ ad L xs (va_A wc H.size) (Value.ref b :: As).toArray) (va_A wc H.size) → W p l e R s m args below meth c H locs cells slots Q (F0 m pc larr (As.reverse ++ .ref b :: rest)) := by
    intro hr
    refine va_callv hr hS (fun q _ h => hwA q h) hwA (fun ad' t H1 locs1 ht hvm hw hB hz1 hk1 hS1 => ?_)
    obtain ⟨hP1, hK1, hD1⟩ := hB
    rw [ht] at hP1
    obtain ⟨hP2, hD2⟩ := ct_join hP hD hk1 hwA hP1 hD1
    exact kk H1 locs1 ad' hw hP2 hD2 hS1 hk1
  rcases hlk with hlk | hlk
  · exact fin (va_runI (rest := rest) ⟨hx, hb, hmx, hown, hts⟩ hM (cwI n hts hGo rfl rfl rfl (hts _ hini) (hts _ hlk) (hts _ hinst) hy1 hd hR) ⟨hbl, hpre⟩ rfl hn hsz rfl hW9 hdg hroom)
  · exact fin (va_runIN (rest := rest) ⟨hx, hb, hmx, hown, hts⟩ hM ⟨va_cnB n hts hGo rfl rfl rfl (hNW _ hlk) (hts _ hini) hd hR, hy1, hts _ hinst⟩ ⟨hbl, hpre⟩ rfl hn hsz rfl hW9 hdg hroom)
/-- .. of a fresh object x, with other cells that it looks at -/
theorem ct_sub (C0 : am_cx p s m args c cc nL own [] [] [] dC dI cT) (hA : ∀ q : Nat, H0.size ≤ q → A q) {μ : am_M} {ad : Int → Nat} {o x : Int} {ci h0 c2 : Nat} {pd : List Nat} {dn dn0 dn' Lc : List (Int × Nat × Nat)} {E : va_W} (hP : va_P (dC, dI) g_cl ((h0, .inr (ci, ct_fp ad μ o ci pd)) :: ((am_wdL dn ad cT μ ++ E) ++ [(ad x, .inr (c2, ct_f0 c2))])) H) (hD : va_D A ((h0, .inr (ci, ct_fp ad μ o ci pd)) :: ((am_wdL dn ad cT μ ++ E) ++ [(ad x, .inr (c2, ct_f0 c2))]))) (hS : va_S A H0 H locs) (hdn : dn.Perm (dn0 ++ Lc))
    {y : MethodName} {bytes : ByteArray} {maxL : Nat} {As : List Value} {L : List (Int × Nat × Nat)} {xs : List Int} {rm : Room} {Pc : Array Value → State → Prop} (hM : Met l y (Cond.code y bytes maxL none :: am_tG) rm Pc (ct_Qc dC dI cT μ ad L xs (va_A ((ad x, .inr (c2, ct_f0 c2)) :: am_wdL Lc ad cT μ) H.size)) rm.cells rm.slots (va_A ((ad x, .inr (c2, ct_f0 c2)) :: am_wdL Lc ad cT μ) H.size)) (hbl : FrameBlind Pc) (hpre : ∀ U : State, U.heap = H → s.WarmedH U.vm → va_P (dC, dI) g_cl ((ad x, .inr (c2, ct_f0 c2)) :: am_wdL Lc ad cT μ) U.heap ∧ va_K (dC, dI) g_cl (am_tys cT) U ∧ va_D (fun _ => True) ((ad x, .inr (c2, ct_f0 c2)) :: am_wdL Lc ad cT μ) → Pc (Value.ref (ad x) :: As).toArray U)
    {idx pc n : Nat} (hlk : Cond.methodLink own idx y ∈ am_tG ∨ Cond.methodLinkNest own idx y "BurningSlips" ∈ am_nest) (hcode : Cond.code y bytes maxL none ∈ am_tG) (hini : Cond.initialized y.cls ∈ am_tG) (hinst : Cond.instanceMethod y ∈ am_tG) (hy1 : y.name = "<init>") (hd : y.cls ≠ "java/lang/invoke/MethodHandle" ∧ y.cls ≠ "java/lang/invoke/VarHandle" ∧ (parseMethodDescriptor y.desc).map (fun d => d.parameters.length) = some n) (hn : As.length = n) (hR : rm.frames + 1 ≤ R.frames ∧ 8 + (maxL + 11) + rm.locals ≤ R.locals) (hroom : cells + rm.cells ≤ R.cells ∧ slots + rm.slots ≤ R.slots) (hdg : decode cc pc = .ok (.invokespecial idx, 3)) {larr : Array Slot} (hsz : larr.size = nL) {st rest : List Value} (hst : st = As.reverse ++ .ref (ad x) :: rest) (hcat : (rest.map fun v => v.category).sum ≤ 8)
    (okL : ct_okL μ dn0 xs = true) (okF : ct_okF μ o ci pd xs = true) (hdn' : (dn0 ++ L).Perm dn')
    (kk : ∀ (H1 : Heap) (locs1 : List Loc) (ad' : Int → Nat), (∀ y, y ∉ xs → ad' y = ad y) → va_P (dC, dI) g_cl ((h0, .inr (ci, ct_fp ad' μ o ci pd)) :: (am_wdL dn' ad' cT μ ++ E)) H1 → va_D A ((h0, .inr (ci, ct_fp ad' μ o ci pd)) :: (am_wdL dn' ad' cT μ ++ E)) → va_S A H0 H1 locs1 → W p l e R s m args below meth c H1 locs1 (cells + rm.cells) (slots + rm.slots) Q (F0 m (pc + 3) larr rest)) : W p l e R s m args below meth c H locs cells slots Q (F0 m pc larr st) := by
  obtain ⟨hx, hb, hmx, hown, hts, hNW, hK, -⟩ := id C0
  have hp1 : ((h0, .inr (ci, ct_fp ad μ o ci pd)) :: ((am_wdL dn ad cT μ ++ E) ++ [(ad x, .inr (c2, ct_f0 c2))]) : va_W).Perm (((h0, .inr (ci, ct_fp ad μ o ci pd)) :: (am_wdL dn0 ad cT μ ++ E)) ++ ((ad x, .inr (c2, ct_f0 c2)) :: am_wdL Lc ad cT μ)) := by
    have h1 : (am_wdL dn ad cT μ).Perm (am_wdL dn0 ad cT μ ++ am_wdL Lc ad cT μ) := by
      rw [← ct_wdL_app]
      exact hdn.map _
    refine List.Perm.cons _ ?_
    refine ((h1.append_right E).append_right _).trans ?_
    have h2 : (am_wdL dn0 ad cT μ ++ am_wdL Lc ad cT μ ++ E).Perm (am_wdL dn0 ad cT μ ++ E ++ am_wdL Lc ad cT μ) := by
      rw [List.append_assoc, List.append_assoc]
      exact List.Perm.append_left _ List.perm_append_comm
    refine (h2.append_right _).trans ?_
    rw [List.append_assoc]
    exact List.Perm.append_left _ List.perm_append_comm
  have hP1 := ct_P_perm hp1 hP
  have hD1 := ct_D_perm hp1 hD
  have hPc := ct_P_iff.mpr (fun q hq => ct_P_iff.mp hP1 q (List.mem_append_right _ hq))
  have hDc : va_D (fun _ => True) ((ad x, .inr (c2, ct_f0 c2)) :: am_wdL Lc ad cT μ) := by
    have h := (ct_D_iff.mp hD1).1
    rw [List.map_append, List.nodup_append] at h
    exact ct_D_iff.mpr ⟨h.2.1, fun _ _ => trivial⟩
  refine ct_call C0 hA hP1 hD1 hS hM hbl (fun U hU hW => hpre U hU hW ⟨by rw [hU]; exact hPc, va_K.moved hW.alike hK, hDc⟩) hlk hcode hini hinst hy1 hd hn hR hroom hdg hsz hst hcat (fun H1 locs1 ad' hay hP2 hD2 hS2 _ => ?_)
  have hp2 : (((h0, .inr (ci, ct_fp ad μ o ci pd)) :: (am_wdL dn0 ad cT μ ++ E)) ++ am_wdL L ad' cT μ : va_W).Perm ((h0, .inr (ci, ct_fp ad' μ o ci pd)) :: (am_wdL dn' ad' cT μ ++ E)) := by
    rw [ct_fpC okF hay]
    refine List.Perm.cons _ ?_
    have h1 : (am_wdL dn0 ad' cT μ ++ am_wdL L ad' cT μ).Perm (am_wdL dn' ad' cT μ) := by
      rw [← ct_wdL_app]
      exact hdn'.map _
    rw [ct_wdL okL hay] at h1
    refine List.Perm.trans ?_ (h1.append_right E)
    show (am_wdL dn0 ad cT μ ++ E ++ am_wdL L ad' cT μ).Perm _
    rw [List.append_assoc, List.append_assoc]
    exact List.Perm.append_left _ List.perm_append_comm
  exact kk H1 locs1 ad' hay (ct_P_perm hp2 hP2) (ct_D_perm hp2 hD2) hS2
end CO
