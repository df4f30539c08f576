/-! A run of the abstract machine is a walk of the machine. -/
theorem am_nest_warm {w : Cond} (h : w ∈ am_nest) {s U : State} (hW : s.WarmedH U.vm) (hZ : va_Nw w s) : va_Nw w U := by
  have h1 := (List.mem_filter.mp h).2
  cases w with
  | fieldLinkNest a i b n d h => exact va_Nw.warmF hW hZ
  | methodLinkNest a i x h => exact va_Nw.warmM hW hZ
  | _ => cases h1
theorem am_nest_tab {w : Cond} (h : w ∈ am_nest) : w.onTables = true := by
  have h1 := (List.mem_filter.mp h).2
  cases w with
  | fieldLinkNest a i b n d h => rfl
  | methodLinkNest a i x h => rfl
  | _ => cases h1
theorem am_good {I : am_I} (h : Cond.code I.1 I.2.1 I.2.2.1 I.2.2.2.1 ∈ am_tG) : GoodIn am_tG (Cond.code I.1 I.2.1 I.2.2.1 I.2.2.2.1 :: am_tG) := by
  intro w hw
  have h1 : w ∈ am_tG := (List.mem_cons.mp hw).elim (fun z => z ▸ h) id
  exact ⟨h1, good_of_word (List.mem_filter.mp h1).2⟩
theorem am_catS {ad : Int → Nat} {sb : Nat} : ∀ (r : am_S), ((r.map (am_cv ad sb)).map fun v => v.category).sum = am_cat r
  | [] => rfl
  | v :: r => by
    rw [List.map_cons, List.map_cons, List.sum_cons, am_catS r]
    show _ = (bif Nat.beq v.1 1 then 2 else 1) + am_cat r
    cases e : Nat.beq v.1 1 with
    | true => rw [am_cat2 (Nat.eq_of_beq_eq_true e)]; rfl
    | false => rw [am_cat1 (Nat.ne_of_beq_eq_false e)]; rfl
theorem am_D_same {A : Nat → Prop} {ad : Int → Nat} {cT : Nat → ClassId} {μ μ' : am_M} (h : va_D A (am_wd ad cT μ)) : va_D A (am_wd ad cT μ') := by
  have key : ∀ (k : Nat) (q : Nat × va_E), (am_wd ad cT μ')[k]? = some q → ∃ q0, (am_wd ad cT μ)[k]? = some q0 ∧ q0.1 = q.1 := by
    intro k q hk
    unfold am_wd at hk ⊢
    rw [List.getElem?_map] at hk ⊢
    cases e : g_lay[k]? with
    | none => rw [e] at hk; cases hk
    | some c => rw [e] at hk; cases hk; exact ⟨_, rfl, rfl⟩
  refine ⟨fun i j p q hi hj hpq => ?_, fun k q hk => ?_⟩
  · obtain ⟨p0, h1, h2⟩ := key i p hi
    obtain ⟨q0, h3, h4⟩ := key j q hj
    exact h.1 i j p0 q0 h1 h3 (h2.trans (hpq.trans h4.symm))
  · obtain ⟨q0, h1, h2⟩ := key k q hk
    rw [← h2]
    exact h.2 k q0 h1
theorem am_blind {dC : Nat → ClassId} {dI : Nat → Nat → Nat} {ad : Int → Nat} {cT : Nat → ClassId} {sb : Nat} {as : am_S} {sz : Nat} {μ : am_M} : FrameBlind (am_Pc dC dI ad cT sb as sz μ) := by
  intro a U g mk q
  obtain ⟨q0, q1, ⟨qP, qK, qD⟩, qN⟩ := q
  exact ⟨q0, q1, ⟨qP, va_K.moved (u := U) (U := U.calling g mk a) (Vm.Alike.refl U.vm) qK, qD⟩, fun w hw => va_Nw.same (am_nest_tab hw) (rfl : U.vm = (U.calling g mk a).vm) (qN w hw)⟩
theorem am_W_same {p : Program} {l : Launch} {e : Env} {R : Room} {s : State} {m : MethodId} {args : Array Value} {below : List Frame} {meth : Method} {c : Code} {H : Heap} {locs : List Loc} {cells slots cells' slots' : Nat} {Q : State → Prop} {g : JFrame} (h1 : cells = cells') (h2 : slots = slots') (h : W p l e R s m args below meth c H locs cells slots Q g) : W p l e R s m args below meth c H locs cells' slots' Q g := by
  subst h1; subst h2; exact h
section AMV
variable {p : Program} {l : Launch} {e : Env} {R : Room} {s : State} {m : MethodId} {args : Array Value} {below : List Frame} {meth : Method} {c : Code} {H : Heap} {locs : List Loc} {cells slots : Nat} {Q : State → Prop}
variable {cc : ByteArray} {own : String} {nL : Nat} {fl : am_FL} {ml : am_ML} {kl kL : am_KL} {dC : Nat → ClassId} {dI : Nat → Nat → Nat} {cT : Nat → ClassId} {ad : Int → Nat} {sb : Nat} {A : Nat → Prop} {H0 : Heap}
/-- behind a call -/
theorem am_W_call {pc : Nat} {larr : Array Slot} {st0 rest : List Value} {a : Array Value} {mc ms : Nat} {A1 free : Nat → Prop} {res : am_R} (hr : va_Run p l e R s m args below meth c H locs cells slots mc ms (F0 m pc larr st0) rest (am_Qc dC dI ad cT sb A1 res a) free) (hS : va_S A H0 H locs) (hA : ∀ q, q < H.size → A1 q → A q) (hf : ∀ q, free q → A q)
    (kk : ∀ (H1 : Heap) (locs1 : List Loc), va_P (dC, dI) g_cl (am_wd ad cT res.2) H1 → va_S A H0 H1 locs1 → W p l e R s m args below meth c H1 locs1 (cells + mc) (slots + ms) Q (F0 m (pc + 3) larr ((res.1.map (am_cv ad sb)).toList ++ rest))) : W p l e R s m args below meth c H locs cells slots Q (F0 m pc larr st0) := by
  intro T hT X
  obtain ⟨v, st₀, t, T', L, h0, X', hL, e1, e2, ⟨⟨hv, hP, -, -⟩, hz, hk⟩, st⟩ := hr T hT X
  have hv : v = res.1.map (am_cv ad sb) := by injection hv
  subst hv
  rw [h0] at hz hk
  obtain ⟨t2, a1, b1⟩ := kk T'.heap (locs ++ L) (by rw [e1]; exact hP)
    ⟨Nat.le_trans hS.1 (by rw [e1]; exact hz), fun q h1 h2 => by rw [e1, hk q (Nat.lt_of_lt_of_le h1 hS.1) (fun z => h2 (hA q (Nat.lt_of_lt_of_le h1 hS.1) z))]; exact hS.2.1 q h1 h2, fun q hq => by
      rcases List.mem_append.mp hq with h | h
      · exact hS.2.2 q h
      · exact hf _ (hL q h)⟩ T' rfl X'
  exact ⟨t2, st t2 a1, b1⟩
/-- what a called method must bring -/
def am_CRok (mt : Nat → Option am_I) (l : Launch) (R : Room) (dC : Nat → ClassId) (dI : Nat → Nat → Nat) (ad : Int → Nat) (cT : Nat → ClassId) (sb : Nat) (cs ss : am_M → Nat) (CR : am_CR) : Prop := ∀ j as μ res, CR j as μ res → (∀ v ∈ as, am_in v) → am_G μ → cs μ ≤ R.cells → ss μ ≤ R.slots → (am_G res.2 ∧ ∀ v, res.1 = some v → am_in v) ∧ (cs res.2 ≤ R.cells ∧ ss res.2 ≤ R.slots) ∧
  ∃ I rm mc ms, mt j = some I ∧ as.length = I.2.2.2.2.2.1 ∧ rm.cells = mc ∧ rm.slots = ms ∧ rm.frames + 1 ≤ R.frames ∧ 8 + (I.2.2.1 + 11) + rm.locals ≤ R.locals ∧ cs res.2 = cs μ + mc ∧ ss res.2 = ss μ + ms ∧
  ∀ sz, Met l I.1 (Cond.code I.1 I.2.1 I.2.2.1 I.2.2.2.1 :: am_tG) rm (am_Pc dC dI ad cT sb as sz μ) (am_Qc dC dI ad cT sb (va_A (am_wd ad cT μ) sz) res) mc ms (va_A (am_wd ad cT μ) sz)
theorem am_sim_call (C0 : am_cx p s m args c cc nL own fl kl kL dC dI cT) {mt : Nat → Option am_I} (hml : ∀ q ∈ ml, am_mlw mt own q) (hmw : ∀ j I, mt j = some I → am_mw I) (hA : ∀ q, H0.size ≤ q → A q) {cs ss : am_M → Nat} {CR : am_CR} (hCR : am_CRok mt l R dC dI ad cT sb cs ss CR)
    {en : am_E} {b : Nat} {larr : Array Slot} {st r as : am_S} {μ μ' : am_M} {rv : Option am_V} (hd : decode cc en.1 = .ok (en.2.1, 3)) (hok : am_okI fl ml kl kL en = true) (hi : am_inv en b) (hb : b < 5) (hr : b < 2 → ∃ c, as.head? = some (2, c) ∧ am_isO c en.2.2.2.2.2.toNat = true) (hc : CR en.2.2.2.1 as μ (rv, μ')) (hst : st = as.reverse ++ r) (hcat : am_cat r ≤ 8)
    (hsz : larr.size = nL) (hin : ∀ v ∈ st, am_in v) (hG : am_G μ) (hP : va_P (dC, dI) g_cl (am_wd ad cT μ) H) (hD : va_D A (am_wd ad cT μ)) (hS : va_S A H0 H locs) (hc1 : cs μ ≤ R.cells) (hs1 : ss μ ≤ R.slots)
    (kk : ∀ (H1 : Heap) (locs1 : List Loc), am_G μ' → (∀ v, rv = some v → am_in v) → va_P (dC, dI) g_cl (am_wd ad cT μ') H1 → va_D A (am_wd ad cT μ') → va_S A H0 H1 locs1 → cs μ' ≤ R.cells → ss μ' ≤ R.slots → W p l e R s m args below meth c H1 locs1 (cs μ') (ss μ') Q (F0 m (en.1 + 3) larr ((am_psh rv r).map (am_cv ad sb)))) :
    W p l e R s m args below meth c H locs (cs μ) (ss μ) Q (F0 m en.1 larr (st.map (am_cv ad sb))) := by
  obtain ⟨hx, hcb, hmx, hown, hts, hNW, hK, hfl, -⟩ := C0
  subst hst
  obtain ⟨i1, i2⟩ := am_in_app hin
  obtain ⟨⟨g1, g2⟩, ⟨q1, q2⟩, I, rm, mc, ms, hI, hlen, hrc, hrs, hfr, hlo, e1, e2, hM⟩ := hCR _ _ _ _ hc (fun v hv => i1 v (List.mem_reverse.mpr hv)) hG hc1 hs1
  obtain ⟨w1, w2, w3, w4, w5, w6, w7, w8⟩ := hmw _ _ hI
  have hwA : ∀ q, va_A (am_wd ad cT μ) H.size q → A q := fun q h => by
    rcases h with ⟨k, e', h⟩ | h
    · exact hD.2 k _ h
    · exact hA q (Nat.le_trans hS.1 h)
  have hcb0 : ∀ (n : Nat), n = I.2.2.2.2.2.1 - (bif I.2.2.2.2.2.2 then 0 else 1) → I.1.cls ≠ "java/lang/invoke/MethodHandle" ∧ I.1.cls ≠ "java/lang/invoke/VarHandle" ∧ (parseMethodDescriptor I.1.desc).map (fun d => d.parameters.length) = some n := fun n h => ⟨w2, w3, by rw [h]; exact w4⟩
  have hfin : W p l e R s m args below meth c H locs (cs μ) (ss μ) Q (F0 m en.1 larr ((as.reverse ++ r).map (am_cv ad sb))) ∨ True := Or.inr trivial
  have hpre : ∀ U : State, U.heap = H → s.WarmedH U.vm → am_Pc dC dI ad cT sb as H.size μ (as.map (am_cv ad sb)).toArray U := fun U hU hW => ⟨rfl, by rw [hU], ⟨by rw [hU]; exact hP, va_K.moved hW.alike hK, hD.weaken (fun _ _ _ _ => trivial)⟩, fun w hw => am_nest_warm hw hW (hNW w hw)⟩
  have hrw : (2 * (F0 m en.1 larr ((as.reverse ++ r).map (am_cv ad sb))).monitorRoom + ((r.map (am_cv ad sb)).map fun v => v.category).sum ≤ 8) := lv_room (by rw [am_catS]; exact hcat)
  have hroom : cs μ + mc ≤ R.cells ∧ ss μ + ms ≤ R.slots := ⟨by rw [← e1]; exact q1, by rw [← e2]; exact q2⟩
  have hGo := am_good w6
  have done : ∀ (hrun : va_Run p l e R s m args below meth c H locs (cs μ) (ss μ) mc ms (F0 m en.1 larr ((as.reverse ++ r).map (am_cv ad sb))) (r.map (am_cv ad sb)) (am_Qc dC dI ad cT sb (va_A (am_wd ad cT μ) H.size) (rv, μ') (as.map (am_cv ad sb)).toArray) (va_A (am_wd ad cT μ) H.size)), W p l e R s m args below meth c H locs (cs μ) (ss μ) Q (F0 m en.1 larr ((as.reverse ++ r).map (am_cv ad sb))) := by
    intro hrun
    refine am_W_call hrun hS (fun q _ h => hwA q h) hwA (fun H1 locs1 hP1 hS1 => ?_)
    have h9 := kk H1 locs1 g1 g2 hP1 (am_D_same hD) hS1 q1 q2
    rw [show cs μ + mc = cs μ' from e1.symm, show ss μ + ms = ss μ' from e2.symm]
    cases rv with
    | none => exact h9
    | some v => exact h9
  obtain ⟨hib, hiv | hiv⟩ := hi
  · obtain ⟨k, hk, hb2⟩ := hiv
    obtain ⟨cI, hhd, hO⟩ := hr hb2
    rw [hk] at hd
    unfold am_okI at hok
    rw [hk] at hok
    have hmem := hml _ (of_decide_eq_true hok)
    obtain ⟨nn, hn⟩ := am_isO_inv hO
    obtain ⟨ix, hix, hw⟩ := am_wd_at (ad := ad) (cT := cT) (μ := μ) hn
    rw [am_cellO] at hw
    cases as with
    | nil => cases hhd
    | cons a0 As =>
      have ha0 : a0 = (2, cI) := Option.some.inj hhd
      subst ha0
      have hst2 : ((((2, cI) :: As).reverse ++ r).map (am_cv ad sb)) = (As.map (am_cv ad sb)).reverse ++ .ref (ad cI) :: r.map (am_cv ad sb) := by
        rw [List.reverse_cons, List.append_assoc, List.map_append, List.map_reverse]
        show _ ++ (am_cv ad sb (2, cI) :: r.map (am_cv ad sb)) = _
        rw [am_ref hn]
      have hargs : (((2, cI) :: As).map (am_cv ad sb)) = .ref (ad cI) :: As.map (am_cv ad sb) := by rw [List.map_cons, am_ref hn]
      rw [hargs] at done hpre
      have hll : (As.map (am_cv ad sb)).length = I.2.2.2.2.2.1 - 1 := by rw [List.length_map, ← hlen]; rfl
      have hbc : b = 0 ∨ b = 1 := by omega
      rcases hbc with hb0 | hb0
      · rw [hib, hb0] at hmem
        obtain ⟨I', hI', hsta, ⟨rr, hrr, hrn⟩, l1, l2, l3⟩ := hmem
        have : I' = I := Option.some.inj (hI'.symm.trans hI)
        subst this
        rw [hsta] at hcb0
        refine done (va_runV (C := I'.1.cls) (As := As.map (am_cv ad sb)) (rest := r.map (am_cv ad sb)) ⟨hx, hcb, hmx, hown, hts⟩ (hM H.size) ⟨callB_of (I'.2.2.2.2.2.1 - 1) hts hGo rfl hrc hrs (hts _ w7) (hts _ l1) (hcb0 _ rfl) ⟨hfr, hlo⟩, hts _ l2, hts _ l3⟩ ⟨am_blind, ?_, hpre⟩ rfl hll hsz hst2 hrw hd hroom)
        have h7 := va_recv hK hP hrr hw
        rw [hrn] at h7
        exact h7
      · rw [hib, hb0] at hmem
        obtain ⟨I', hI', hsta, ⟨rr, hrr, hrn⟩, l1, l2, l3⟩ := hmem
        have : I' = I := Option.some.inj (hI'.symm.trans hI)
        subst this
        rw [hsta] at hcb0
        refine done (va_runVN (C := I'.1.cls) (As := As.map (am_cv ad sb)) (rest := r.map (am_cv ad sb)) ⟨hx, hcb, hmx, hown, hts⟩ (hM H.size) ⟨va_cnB (I'.2.2.2.2.2.1 - 1) hts hGo rfl hrc hrs (hNW _ l1) (hts _ w7) (hcb0 _ rfl) ⟨hfr, hlo⟩, hts _ l2, hts _ l3⟩ ⟨am_blind, ?_, hpre⟩ rfl hll hsz hst2 hrw hd hroom)
        have h7 := va_recv hK hP hrr hw
        rw [hrn] at h7
        exact h7
  · obtain ⟨k, hk, hb2⟩ := hiv
    rw [hk] at hd
    unfold am_okI at hok
    rw [hk] at hok
    have hmem := hml _ (of_decide_eq_true hok)
    have hst2 : ((as.reverse ++ r).map (am_cv ad sb)) = (as.map (am_cv ad sb)).reverse ++ r.map (am_cv ad sb) := by rw [List.map_append, List.map_reverse]
    have hbc : b = 2 ∨ b = 3 ∨ b = 4 := by omega
    rcases hbc with hb0 | hb0 | hb0
    · rw [hib, hb0] at hmem
      obtain ⟨I', hI', hsta, l1, l2⟩ := hmem
      have : I' = I := Option.some.inj (hI'.symm.trans hI)
      subst this
      rw [hsta] at hcb0
      have hll : (as.map (am_cv ad sb)).length = I'.2.2.2.2.2.1 := by rw [List.length_map, hlen]
      exact done (va_runS (As := as.map (am_cv ad sb)) (rest := r.map (am_cv ad sb)) ⟨hx, hcb, hmx, hown, hts⟩ (hM H.size) ⟨callB_of I'.2.2.2.2.2.1 hts hGo rfl hrc hrs (hts _ w7) (hts _ l1) (hcb0 _ rfl) ⟨hfr, hlo⟩, hts _ l2⟩ ⟨am_blind, hpre⟩ rfl hll hsz hst2 hrw hd hroom)
    · rw [hib, hb0] at hmem
      obtain ⟨I', hI', hsta, l1, l2⟩ := hmem
      have : I' = I := Option.some.inj (hI'.symm.trans hI)
      subst this
      rw [hsta] at hcb0
      have hll : (as.map (am_cv ad sb)).length = I'.2.2.2.2.2.1 := by rw [List.length_map, hlen]
      exact done (va_runSN (As := as.map (am_cv ad sb)) (rest := r.map (am_cv ad sb)) ⟨hx, hcb, hmx, hown, hts⟩ (hM H.size) ⟨va_cnB I'.2.2.2.2.2.1 hts hGo rfl hrc hrs (hNW _ l1) (hts _ w7) (hcb0 _ rfl) ⟨hfr, hlo⟩, hts _ l2, trivial⟩ ⟨am_blind, hpre⟩ rfl hll hsz hst2 hrw hd hroom)
    · rw [hib, hb0] at hmem
      exact hmem.elim
end AMV
