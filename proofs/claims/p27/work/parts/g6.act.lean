/-! Acts that tell; calls of methods of the abstract machine. -/
def y_act : MethodName := ⟨"BurningSlipsLaw", "act", "(LBurningSlips;I)Z"⟩
theorem d_act_114 : decode method_6_code 114 = .ok (.invokestatic 232, 3) := by decide +kernel
theorem d_act_117 : decode method_6_code 117 = .ok (.ifCond .eq 7, 3) := by decide +kernel
theorem d_act_120 : decode method_6_code 120 = .ok (.iconst 1, 1) := by decide +kernel
theorem d_act_121 : decode method_6_code 121 = .ok (.goto 4, 3) := by decide +kernel
theorem d_act_124 : decode method_6_code 124 = .ok (.iconst 0, 1) := by decide +kernel
theorem d_act_125 : decode method_6_code 125 = .ok (.ireturn, 1) := by decide +kernel
theorem act_114 {x : Int} (h0 : aAnd x 15 = 0) (h7 : aAnd (aUshr x 4) 63 ≤ 7) {μ : am_M} {w : Nat} (hw : w < 3) (hc : X_count 1 μ = some ((wC w : Int), μ)) : ∀ P : am_P, am_rul none (am_ar g_mt 8) 10 (some .int) k_L_act (none, μ) P → P 114 [(5, (0, (aRem (aAnd (aUshr x 4) 63) (wC w : Int)))), (4, (0, (aAnd (aUshr x 16) 63))), (3, (0, (aAnd (aUshr x 10) 63))), (2, (0, (aAnd (aUshr x 4) 63))), (0, (2, 0)), (1, (0, x))] [(0, aRem (aAnd (aUshr x 10) 63) 3), (2, 0)] μ → P 0 [(0, (2, 0)), (1, (0, x))] [] μ := by
  intro P hP K
  have hdv : ∀ (ls : am_L) (a : Int), am_dv aRem ls [(0, (wC w : Int)), (0, a)] = some (ls, [(0, aRem a (wC w : Int))]) := fun ls a => by
    clear hc K
    match w, hw with
    | 0, _ => rfl
    | 1, _ => rfl
    | 2, _ => rfl
    | w + 3, hw => omega
  refine ru_sls hP 21 (pc' := 27) (ls' := [(4, (0, (aAnd (aUshr x 16) 63))), (3, (0, (aAnd (aUshr x 10) 63))), (2, (0, (aAnd (aUshr x 4) 63))), (0, (2, 0)), (1, (0, x))]) (st' := [(0, 1), (2, 0), (0, (aAnd (aUshr x 4) 63))]) rfl ?_
  refine ru_call hP 0 [(2, 0), (0, 1)] (r := [(0, (aAnd (aUshr x 4) 63))]) (rv := some (0, (wC w : Int))) (μ' := μ) rfl ⟨rfl, Or.inl ⟨_, rfl, by decide⟩⟩ (by decide) (fun _ => ⟨_, rfl, rfl⟩) rfl rfl (Nat.le_of_ble_eq_true rfl) (t_X_count 7 1 μ ((wC w : Int), μ) hc) ?_
  refine hP.1 _ 30 _ _ μ _ _ rfl (hdv _ _) ?_
  refine ru_sls hP 4 (pc' := 37) (ls' := [(5, (0, (aRem (aAnd (aUshr x 4) 63) (wC w : Int)))), (4, (0, (aAnd (aUshr x 16) 63))), (3, (0, (aAnd (aUshr x 10) 63))), (2, (0, (aAnd (aUshr x 4) 63))), (0, (2, 0)), (1, (0, x))]) (st' := [(0, (aAnd x 15))]) rfl ?_
  rw [h0]
  refine ru_tsw hP rfl rfl ?_
  refine ru_sls hP 2 (pc := 104) (pc' := 107) (ls' := [(5, (0, (aRem (aAnd (aUshr x 4) 63) (wC w : Int)))), (4, (0, (aAnd (aUshr x 16) 63))), (3, (0, (aAnd (aUshr x 10) 63))), (2, (0, (aAnd (aUshr x 4) 63))), (0, (2, 0)), (1, (0, x))]) (st' := [(0, 7), (0, (aAnd (aUshr x 4) 63))]) rfl ?_
  refine ru_icF hP rfl rfl (show ¬ (7 < aAnd (aUshr x 4) 63) by omega) ?_
  refine ru_sls hP 3 (pc := 110) (pc' := 113) (ls' := [(5, (0, (aRem (aAnd (aUshr x 4) 63) (wC w : Int)))), (4, (0, (aAnd (aUshr x 16) 63))), (3, (0, (aAnd (aUshr x 10) 63))), (2, (0, (aAnd (aUshr x 4) 63))), (0, (2, 0)), (1, (0, x))]) (st' := [(0, 3), (0, (aAnd (aUshr x 10) 63)), (2, 0)]) rfl ?_
  exact ru_sls hP 1 (pc := 113) (pc' := 114) (ls' := [(5, (0, (aRem (aAnd (aUshr x 4) 63) (wC w : Int)))), (4, (0, (aAnd (aUshr x 16) 63))), (3, (0, (aAnd (aUshr x 10) 63))), (2, (0, (aAnd (aUshr x 4) 63))), (0, (2, 0)), (1, (0, x))]) (st' := [(0, aRem (aAnd (aUshr x 10) 63) 3), (2, 0)]) rfl K
theorem st_perm2 : (([(3000, 0, 950), (3010, 1, 3)] : List (Int × Nat × Nat)) ++ st_LX).Perm g_lay := List.isPerm_iff.mp (by decide +kernel)
/-- the cells apart from the last text -/
theorem wd_split {dC : Nat → ClassId} {dI : Nat → Nat → Nat} {cT : Nat → ClassId} {ad : Int → Nat} {μ : am_M} {A : Nat → Prop} {H : Heap} (hP : va_P (dC, dI) g_cl (am_wd ad cT μ) H) (hD : va_D A (am_wd ad cT μ)) : va_P (dC, dI) g_cl (am_wdL [(3000, 0, 950), (3010, 1, 3)] ad cT μ ++ am_wdL st_LX ad cT μ) H ∧ va_D A (am_wdL [(3000, 0, 950), (3010, 1, 3)] ad cT μ ++ am_wdL st_LX ad cT μ) := by
  rw [← ct_wdL_app]
  exact ⟨ct_P_perm (st_perm2.symm.map _) hP, ct_D_perm (st_perm2.symm.map _) hD⟩
theorem wd_drop {dC : Nat → ClassId} {dI : Nat → Nat → Nat} {A : Nat → Prop} {wr w : va_W} {H : Heap} (hP : va_P (dC, dI) g_cl (wr ++ w) H) (hD : va_D A (wr ++ w)) : va_P (dC, dI) g_cl w H ∧ va_D A w := by
  refine ⟨ct_P_iff.mpr (fun q hq => ct_P_iff.mp hP q (List.mem_append_right _ hq)), ?_⟩
  obtain ⟨h1, h2⟩ := ct_D_iff.mp hD
  rw [List.map_append, List.nodup_append] at h1
  exact ct_D_iff.mpr ⟨h1.2.1, fun q hq => h2 q (List.mem_append_right _ hq)⟩
set_option maxHeartbeats 2000000 in
set_option maxRecDepth 20000 in
theorem act_tell (l : Launch) (dC : Nat → ClassId) (dI : Nat → Nat → Nat) (cT : Nat → ClassId) (ad : Int → Nat) {x : Int} (hxr : r32 x) (h0 : aAnd x 15 = 0) (h7 : aAnd (aUshr x 4) 63 ≤ 7) {AA : Int} {μ : am_M} (hI : INV AA μ) (hG : am_G μ) (sz : Nat) : Met l y_act (Cond.code y_act method_6_code 10 (some .boolean) :: am_tG) { frames := 10, cells := 2, slots := 953, locals := 393 } (ct_Pc dC dI cT [.ref (ad 0), .int (Int32.ofInt x)] (am_wd ad cT μ) sz) (va_Qi (fun (r : Int32) (u : (Int → Nat) × am_M) => r = 1 ∧ (∀ y : Int, y < 3000 → u.1 y = ad y) ∧ am_G u.2 ∧ INV 0 u.2) (fun u t => va_P (dC, dI) g_cl (am_wd u.1 cT u.2) t.heap ∧ va_D (va_A (am_wd ad cT μ) sz) (am_wd u.1 cT u.2)) (va_A (am_wd ad cT μ) sz)) 2 953 (va_A (am_wd ad cT μ) sz) := by
  obtain ⟨b, hb2, hTP⟩ := inv_tp hI hG
  obtain ⟨w, b0, f, rr, i1, i2, i3, i4, i5⟩ := hI
  have hI : IV w b0 f rr AA μ := ⟨⟨i1, i2, i3, i4⟩, i5⟩
  have hc := cnt_t hI.o
  obtain ⟨w2, hw2, e2⟩ : ∃ w2 : Nat, w2 < 3 ∧ aRem (aAnd (aUshr x 10) 63) 3 = (w2 : Int) := by
    have ha : 0 ≤ aAnd (aUshr x 10) 63 ∧ aAnd (aUshr x 10) 63 < 64 := by rw [a63]; omega
    have e := rem_s (m := (aAnd (aUshr x 10) 63).toNat) (n := 3) (by omega) (by decide)
    have e1 : (((aAnd (aUshr x 10) 63).toNat : Nat) : Int) = aAnd (aUshr x 10) 63 := by omega
    rw [e1] at e
    exact ⟨_, Nat.mod_lt _ (by decide), e⟩
  refine Met.ofW (cc := method_6_code) (maxL := 10) (ret := some .boolean) (by decide) rfl ?_
  intro p e s m args below meth c s₁ B hmx hv
  obtain ⟨rfl, hsz, ⟨hP, hK, hD0⟩, hN⟩ := hv
  have hts0 := atoms_spec (ws := Cond.code y_act method_6_code 10 (some .boolean) :: am_tG) B.pre
  subst hsz
  have hl := lv_entry ([.ref (ad 0), .int (Int32.ofInt x)]) (n := 10) (Nat.le_of_ble_eq_true rfl)
  rw [lg_entry_eq]
  generalize (lg_sl [.ref (ad 0), .int (Int32.ofInt x)] ++ List.replicate (10 - (lg_sl [.ref (ad 0), .int (Int32.ofInt x)]).length) Slot.unset).toArray = larr at hl ⊢
  have hl : lv_has larr 10 [(0, .ref (ad 0)), (1, .int (Int32.ofInt x))] := hl
  have C1 : am_cx p s m [.ref (ad 0), .int (Int32.ofInt x)].toArray c method_6_code 10 "BurningSlipsLaw" fl_10 kl_10 kJ_10 dC dI cT := ⟨B.exec, B.bytes, hmx, findClass_of_methodNamed B.named, fun w hw => hts0 w (List.mem_cons_of_mem _ hw), hN, hK, fl_10_ok, kl_10_ok, kJ_10_ok⟩
  have hx := B.exec
  have hb := B.bytes
  have hr := B.returns
  have hlocks := B.notSynchronized
  have hD := hD0.self (sz := s.heap.size)
  generalize hwA : va_A (am_wd ad cT μ) s.heap.size = A at hD ⊢
  have hA : ∀ q : Nat, s.heap.size ≤ q → A q := fun q h => by rw [← hwA]; exact Or.inr h
  have hS : va_S A s.heap s.heap [] := va_S.rf
  have hCk : ∀ en ∈ k_L_act, am_okE fl_10 ml_10 kl_10 kJ_10 method_6_code en = true := List.all_eq_true.mp (by decide +kernel)
  have hin : ∀ z ∈ ([(0, (2, 0)), (1, (0, x))] : am_L), am_in z.2 := by
    intro z hz
    simp only [List.mem_cons, List.not_mem_nil, or_false] at hz
    rcases hz with h | h <;> subst h
    · exact am_in2 (by decide)
    · exact am_in0 hxr
  refine act_114 h0 h7 i1 hc _ (am_simG (l := l) C1 ml_10_ok g_mw hA (cs := fun _ => 0) (ss := fun _ => 0) (fun _ _ _ => ⟨rfl, rfl⟩) (ad := ad) (sb := 0) (gs_CR (d := 8) (Nat.le_of_ble_eq_true rfl) (Nat.le_of_ble_eq_true rfl) 0 0) hCk (X := none) (fun L xs q => by cases q) (Nat.le_of_ble_eq_true rfl) (Nat.le_of_ble_eq_true rfl) (rt := some .int) (res := (none, μ)) rfl rfl) ?_ s.heap [] larr (lv_sub hl [0, 1] rfl) hin (fun v hv => by cases hv) hG hP hD hS (Nat.le_of_ble_eq_true rfl) (Nat.le_of_ble_eq_true rfl)
  intro H locs larr hl _ _ hG hP hD hS _ _
  obtain ⟨hP, hD⟩ := wd_split hP hD
  rw [e2]
  show W p l e _ s m _ below meth c H locs 0 0 _ (F0 m 114 larr [.int (Int32.ofInt (w2 : Int)), .ref (ad 0)])
  refine gs_calli C1 hA (wo := fun u : (Int → Nat) × am_M => am_wd u.1 cT u.2) hP hD hS (tells_t l dC dI cT ad hw2 hb2 hTP H.size) (idx := 232) (n := 2) (am_mem_t (g_mem3 77 rfl) rfl) (am_mem_t (g_mem3 78 rfl) rfl) (am_mem_t (g_mem3 79 rfl) rfl) (am_mem_t (g_mem1 0 rfl) rfl) ⟨by decide, by decide, by decide +kernel⟩ rfl ⟨(Nat.le_of_ble_eq_true rfl), (Nat.le_of_ble_eq_true rfl)⟩ ⟨(Nat.le_of_ble_eq_true rfl), (Nat.le_of_ble_eq_true rfl)⟩ d_act_114 hl.1 rfl (Nat.le_of_ble_eq_true rfl) (fun H locs r u hp hP hD hS => ?_)
  obtain ⟨ad2, μ2⟩ := u
  obtain ⟨rfl, ha2, hG2, hI2⟩ := hp
  obtain ⟨hP, hD⟩ := wd_drop hP hD
  refine lv_if_eq (tgt := 124) hx hb d_act_117 (by decide) (fun h => absurd h (by decide)) (fun _ => ?_)
  refine lv_iconst (v := Int32.ofInt 1) hx hb d_act_120 (by decide) ?_
  refine lv_goto (tgt := 125) hx hb d_act_121 (by decide) ?_
  refine W.zret hx hb hr ?_ (fun t ht hW => ⟨⟨Int32.ofInt 1, (ad2, μ2), rfl, ⟨by decide, ha2, hG2, hI2⟩, by rw [ht]; exact hP, hD⟩, hS.F ht⟩) hS.2.2 d_act_125 hlocks
  rfl
section GA
variable {p : Program} {l : Launch} {e : Env} {R : Room} {s : State} {m : MethodId} {args : Array Value} {below : List Frame} {meth : Method} {c : Code} {H : Heap} {locs : List Loc} {cells slots : Nat} {Q : State → Prop}
variable {cc : ByteArray} {own : String} {nL : Nat} {fl : am_FL} {kl kL : am_KL} {dC : Nat → ClassId} {dI : Nat → Nat → Nat} {cT : Nat → ClassId} {ad : Int → Nat} {A : Nat → Prop} {H0 : Heap}
theorem gs_callA (C0 : am_cx p s m args c cc nL own fl kl kL dC dI cT) (hA : ∀ q : Nat, H0.size ≤ q → A q) {μ : am_M} (hP : va_P (dC, dI) g_cl (am_wd ad cT μ) H) (hD : va_D A (am_wd ad cT μ)) (hS : va_S A H0 H locs) {d j : Nat} {as : am_S} {res : am_R} (hc : am_ar g_mt d j as μ res) {I : am_I} (hI : g_mt j = some I) (hsta : I.2.2.2.2.2.2 = true) (hin : ∀ v ∈ as, am_in v) (hG : am_G μ) {idx pc : Nat} (hlk : Cond.methodLink own idx I.1 ∈ am_tG) (hst : Cond.static I.1 ∈ am_tG) (hR : d + 1 ≤ R.frames ∧ 8 + (15 + 11) + (34 * d + 64) ≤ R.locals) (hroom : cells ≤ R.cells ∧ slots ≤ R.slots) (hdg : decode cc pc = .ok (.invokestatic idx, 3)) {larr : Array Slot} (hsz : larr.size = nL) {st rest : List Value} (hstk : st = (as.map (am_cv ad 0)).reverse ++ rest) (hcat : (rest.map fun v => v.category).sum ≤ 8)
    (kk : ∀ (H1 : Heap) (locs1 : List Loc), am_G res.2 → va_P (dC, dI) g_cl (am_wd ad cT res.2) H1 → va_D A (am_wd ad cT res.2) → va_S A H0 H1 locs1 → W p l e R s m args below meth c H1 locs1 cells slots Q (F0 m (pc + 3) larr ((res.1.map (am_cv ad 0)).toList ++ rest))) : W p l e R s m args below meth c H locs cells slots Q (F0 m pc larr st) := by
  obtain ⟨hx, hb, hmx, hown, hts, hNW, hK, -⟩ := C0
  subst hstk
  obtain ⟨⟨g1, g2⟩, I', hI', hlen, hM⟩ := am_met g_mw g_mc l dC dI ad cT 0 d j as μ res hc hin hG
  have : I' = I := Option.some.inj (hI'.symm.trans hI)
  subst this
  obtain ⟨w1, w2, w3, w4, w5, w6, w7, w8⟩ := g_mw _ _ hI
  rw [hsta] at w4
  have hwA : ∀ q, va_A (am_wd ad cT μ) H.size q → A q := fun q h => by
    rcases h with ⟨k, e', h⟩ | h
    · exact hD.2 k _ h
    · exact hA q (Nat.le_trans hS.1 h)
  have hpre : ∀ U : State, U.heap = H → s.WarmedH U.vm → am_Pc dC dI ad cT 0 as H.size μ (as.map (am_cv ad 0)).toArray U := fun U hU hW => ⟨rfl, by rw [hU], ⟨by rw [hU]; exact hP, va_K.moved hW.alike hK, hD.weaken (fun _ _ _ _ => trivial)⟩, fun w hw => am_nest_warm hw hW (hNW w hw)⟩
  have hrw : 2 * (F0 m pc larr ((as.map (am_cv ad 0)).reverse ++ rest)).monitorRoom + (rest.map fun v => v.category).sum ≤ 8 := lv_room hcat
  refine am_W_call (va_runS (As := as.map (am_cv ad 0)) (rest := rest) ⟨hx, hb, hmx, hown, hts⟩ (hM H.size) ⟨callB_of I'.2.2.2.2.2.1 hts (am_good w6) rfl rfl rfl (hts _ w7) (hts _ hlk) ⟨w2, w3, w4⟩ ⟨hR.1, show 8 + (I'.2.2.1 + 11) + (34 * d + 64) ≤ R.locals by omega⟩, hts _ hst⟩ ⟨am_blind, hpre⟩ rfl (by rw [List.length_map, hlen]) hsz rfl hrw hdg hroom) hS (fun q _ h => hwA q h) hwA (fun H1 locs1 hP1 hS1 => ?_)
  exact kk H1 locs1 g1 hP1 (am_D_same hD) hS1
end GA
