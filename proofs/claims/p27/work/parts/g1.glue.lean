/-! What the law's own calls need: cells kept aside, addresses that change. -/
def gw_rs : List (Int × Nat) := [(0, 8), (0, 9), (20, 4), (20, 5)]
def gw_f (c : Int) (j : Nat) (f : Nat × Int) : Bool := match f.1 with
  | 0 => true
  | 1 => true
  | 2 => true
  | 3 => decide ((c, j) ∈ gw_rs)
  | 4 => decide (c + f.2 < 3000)
  | _ => decide (f.2 < 3000)
def gw_ok (L : List (Int × Nat × Nat)) : Bool := L.all (fun e => decide (e.1 < 3000) && (decide (e.2.1 < 3) || (decide (10 ≤ e.2.1) && ((((g_ft[e.2.1 - 10]?).getD []).mapIdx (fun j f => gw_f e.1 j f)).all id))))
theorem gw_tg {μ : am_M} {c y : Int} {j : Nat} {f : Nat × Int} (h4 : gw_f c j f = true) (hr : ∀ q ∈ gw_rs, μ q.1 q.2 < 3000) (hj : ct_tg μ c j f = some y) : y < 3000 := by
  obtain ⟨t, d⟩ := f
  match t, hj, h4 with
  | 0, hj, _ => cases hj
  | 1, hj, _ => cases hj
  | 2, hj, _ => cases hj
  | 3, hj, h4 =>
    have h4 : (c, j) ∈ gw_rs := of_decide_eq_true h4
    have h5 := hr _ h4
    have hj : (if μ c j < 0 then none else some (μ c j)) = some y := hj
    split at hj
    · cases hj
    · cases hj; exact h5
  | 4, hj, h4 =>
    have h4 : c + d < 3000 := of_decide_eq_true h4
    have hj : some (c + d) = some y := hj
    cases hj; exact h4
  | t + 5, hj, h4 =>
    have h4 : d < 3000 := of_decide_eq_true h4
    have hj : some d = some y := hj
    cases hj; exact h4
theorem gw_wd {ad ad' : Int → Nat} {cT : Nat → ClassId} {μ : am_M} {L : List (Int × Nat × Nat)} (h : gw_ok L = true) (hr : ∀ q ∈ gw_rs, μ q.1 q.2 < 3000) (ha : ∀ y : Int, y < 3000 → ad' y = ad y) : am_wdL L ad' cT μ = am_wdL L ad cT μ := by
  unfold am_wdL
  refine List.map_congr_left (fun e he => ?_)
  have h1 := List.all_eq_true.mp h e he
  simp only [Bool.and_eq_true, Bool.or_eq_true, decide_eq_true_eq] at h1
  rw [ha _ h1.1]
  rcases h1.2 with h2 | ⟨h2, h3⟩
  · have e0 : ct_rf μ e.1 e.2 = [] := if_pos (by omega)
    have e1 : am_cell ad' cT μ e.1 e.2 = am_cell ad cT μ e.1 e.2 := ct_cell (Or.inl h2) (fun y hy => absurd (e0 ▸ hy) List.not_mem_nil)
    rw [e1]
  · rw [ct_cell (Or.inr h2) (fun y hy => by
      refine ha y ?_
      unfold ct_rf at hy
      rw [if_neg (by omega)] at hy
      obtain ⟨o, ho, hoy⟩ := List.mem_filterMap.mp hy
      have hoy : o = some y := hoy
      subst hoy
      obtain ⟨j, hj⟩ := List.mem_iff_getElem?.mp ho
      rw [List.getElem?_mapIdx] at hj
      cases hf : ((g_ft[e.2.1 - 10]?).getD [])[j]? with
      | none => rw [hf] at hj; cases hj
      | some f =>
        rw [hf] at hj
        have hj : ct_tg μ e.1 j f = some y := Option.some.inj hj
        have h4 := List.all_eq_true.mp h3 (gw_f e.1 j f) (List.mem_of_getElem? (i := j) (by rw [List.getElem?_mapIdx, hf]; rfl))
        exact gw_tg h4 hr hj)]
def st_L0 : List (Int × Nat × Nat) := [(0, 19, 0), (10, 17, 0), (11, 0, 1000), (12, 1, 17), (100, 10, 0), (101, 12, 0), (102, 0, 60), (103, 0, 60), (104, 0, 60), (105, 0, 60), (106, 0, 60), (107, 0, 60), (108, 0, 60), (109, 0, 60), (110, 0, 60), (111, 0, 1000), (112, 1, 4), (113, 0, 4), (114, 1, 4), (115, 0, 4), (116, 0, 4), (117, 0, 4), (118, 0, 4), (119, 0, 4), (120, 0, 4), (121, 0, 4), (122, 0, 4), (201, 12, 0), (202, 0, 60), (203, 0, 60), (204, 0, 60), (205, 0, 60), (206, 0, 60), (207, 0, 60), (208, 0, 60), (209, 0, 60), (210, 0, 60), (211, 0, 1000), (212, 1, 4), (213, 0, 4), (214, 1, 4), (215, 0, 4), (216, 0, 4), (217, 0, 4), (218, 0, 4), (219, 0, 4), (220, 0, 4), (221, 0, 4), (222, 0, 4), (20, 15, 0), (200, 10, 0), (21, 1, 10), (22, 0, 3), (23, 0, 64), (30, 11, 0), (31, 0, 3), (32, 0, 3), (33, 0, 3), (34, 0, 3), (35, 0, 3), (40, 16, 0), (41, 0, 64), (300, 13, 0), (301, 0, 16), (302, 0, 16), (303, 0, 160), (310, 13, 0), (311, 0, 16), (312, 0, 16), (313, 0, 160), (320, 13, 0), (321, 0, 16), (322, 0, 16), (323, 0, 160), (330, 13, 0), (331, 0, 16), (332, 0, 16), (333, 0, 160), (340, 13, 0), (341, 0, 16), (342, 0, 16), (343, 0, 160), (350, 13, 0), (351, 0, 16), (352, 0, 16), (353, 0, 160), (50, 18, 0), (51, 0, 3), (52, 0, 3), (53, 0, 3), (54, 0, 3), (55, 0, 10), (56, 0, 60), (57, 0, 60), (58, 0, 4), (60, 14, 0), (61, 0, 110), (62, 0, 10), (63, 0, 10), (64, 0, 10), (65, 0, 1024), (66, 0, 1024), (67, 1, 1024)]
def st_LX : List (Int × Nat × Nat) := st_L0 ++ [(70, 3, 4)]
/-- where the references of a table point -/
def RX (μ : am_M) : Prop := (∀ q ∈ gw_rs, μ q.1 q.2 < 3000) ∧ ∀ j : Nat, μ 70 j < 3000
theorem st_gw : gw_ok st_L0 = true := by decide +kernel
theorem gw_X {ad ad' : Int → Nat} {cT : Nat → ClassId} {μ : am_M} (h : RX μ) (ha : ∀ y : Int, y < 3000 → ad' y = ad y) : am_wdL st_LX ad' cT μ = am_wdL st_LX ad cT μ := by
  unfold st_LX
  rw [ct_wdL_app, ct_wdL_app, gw_wd st_gw h.1 ha]
  refine congrArg (fun z => am_wdL st_L0 ad cT μ ++ z) ?_
  show [(ad' 70, Sum.inl (cT 3, (4, Sum.inr (Sum.inr (Sum.inr (Sum.inr (fun j : Nat => if μ 70 j < 0 then none else some (ad' (μ 70 j)))))))))] = [(ad 70, (Sum.inl (cT 3, (4, Sum.inr (Sum.inr (Sum.inr (Sum.inr (fun j : Nat => if μ 70 j < 0 then none else some (ad (μ 70 j)))))))) : va_E))]
  have e : (fun j : Nat => if μ 70 j < 0 then none else some (ad' (μ 70 j))) = fun j : Nat => if μ 70 j < 0 then none else some (ad (μ 70 j)) := by
    funext j
    rw [ha _ (h.2 j)]
  rw [e, ha 70 (by decide)]
/-- other numbers elsewhere -/
theorem gw_mu {ad : Int → Nat} {cT : Nat → ClassId} {μ μ' : am_M} {L : List (Int × Nat × Nat)} (h : ∀ e ∈ L, μ' e.1 = μ e.1) : am_wdL L ad cT μ' = am_wdL L ad cT μ := by
  unfold am_wdL
  refine List.map_congr_left (fun e he => ?_)
  have h1 := h e he
  unfold am_cell am_fls am_fv
  rw [h1]
theorem st_lo : st_LX.all (fun e => decide (e.1 < 3000)) = true := by decide +kernel
theorem gw_muX {ad : Int → Nat} {cT : Nat → ClassId} {μ μ' : am_M} (h : ∀ c : Int, c < 3000 → μ' c = μ c) : am_wdL st_LX ad cT μ' = am_wdL st_LX ad cT μ := gw_mu (fun e he => h _ (of_decide_eq_true (List.all_eq_true.mp st_lo e he)))
theorem st_perm : ((st_LX ++ [(3000, 0, 950)]) ++ [(3010, 1, 3)]).Perm g_lay := List.isPerm_iff.mp (by decide +kernel)
section GS
variable {p : Program} {l : Launch} {e : Env} {R : Room} {s : State} {m : MethodId} {args : Array Value} {below : List Frame} {meth : Method} {c : Code} {H : Heap} {locs : List Loc} {cells slots : Nat} {Q : State → Prop}
variable {cc : ByteArray} {own : String} {nL : Nat} {fl : am_FL} {kl kL : am_KL} {dC : Nat → ClassId} {dI : Nat → Nat → Nat} {cT : Nat → ClassId} {A : Nat → Prop} {H0 : Heap}
theorem gs_calli (C0 : am_cx p s m args c cc nL own fl kl kL dC dI cT) (hA : ∀ q : Nat, H0.size ≤ q → A q) {wr wc : va_W} (hP : va_P (dC, dI) g_cl (wr ++ wc) H) (hD : va_D A (wr ++ wc)) (hS : va_S A H0 H locs) {y : MethodName} {bytes : ByteArray} {maxL : Nat} {ret : Option FieldType} {As : List Value} {U : Type} {post : Int32 → U → Prop} {wo : U → va_W} {rm : Room} (hM : Met l y (Cond.code y bytes maxL ret :: am_tG) rm (ct_Pc dC dI cT As wc H.size) (va_Qi post (fun u t => va_P (dC, dI) g_cl (wo u) t.heap ∧ va_D (va_A wc H.size) (wo u)) (va_A wc H.size)) rm.cells rm.slots (va_A wc H.size))
    {idx pc n : Nat} (hlk : Cond.methodLink own idx y ∈ am_tG) (hst : Cond.static y ∈ am_tG) (hcode : Cond.code y bytes maxL ret ∈ am_tG) (hini : Cond.initialized y.cls ∈ am_tG) (hd : y.cls ≠ "java/lang/invoke/MethodHandle" ∧ y.cls ≠ "java/lang/invoke/VarHandle" ∧ (parseMethodDescriptor y.desc).map (fun d => d.parameters.length) = some n) (hn : As.length = n) (hR : rm.frames + 1 ≤ R.frames ∧ 8 + (maxL + 11) + rm.locals ≤ R.locals) (hroom : cells + rm.cells ≤ R.cells ∧ slots + rm.slots ≤ R.slots) (hdg : decode cc pc = .ok (.invokestatic idx, 3)) {larr : Array Slot} (hsz : larr.size = nL) {st rest : List Value} (hstk : st = As.reverse ++ rest) (hcat : (rest.map fun v => v.category).sum ≤ 8)
    (kk : ∀ (H1 : Heap) (locs1 : List Loc) (r : Int32) (u : U), post r u → va_P (dC, dI) g_cl (wr ++ wo u) H1 → va_D A (wr ++ wo u) → va_S A H0 H1 locs1 → W p l e R s m args below meth c H1 locs1 (cells + rm.cells) (slots + rm.slots) Q (F0 m (pc + 3) larr (.int r :: rest))) : W p l e R s m args below meth c H locs cells slots Q (F0 m pc larr st) := by
  obtain ⟨hx, hb, hmx, hown, hts, hNW, hK, -⟩ := C0
  subst hstk
  have hwA : ∀ q, va_A wc H.size q → A q := fun q h => by
    rcases h with ⟨k, e', h⟩ | h
    · exact (ct_D_iff.mp hD).2 _ (List.mem_append_right _ (List.mem_of_getElem? h))
    · exact hA q (Nat.le_trans hS.1 h)
  have hGo : GoodIn am_tG (Cond.code y bytes maxL ret :: am_tG) := fun w hw => by
    have h1 : w ∈ am_tG := (List.mem_cons.mp hw).elim (fun z => z ▸ hcode) id
    exact ⟨h1, good_of_word (List.mem_filter.mp h1).2⟩
  have hW9 : 2 * (F0 m pc larr (As.reverse ++ rest)).monitorRoom + (rest.map fun v => v.category).sum ≤ 8 := lv_room hcat
  have hDc : va_D (fun _ => True) wc := by
    have h := (ct_D_iff.mp hD).1
    rw [List.map_append, List.nodup_append] at h
    exact ct_D_iff.mpr ⟨h.2.1, fun _ _ => trivial⟩
  have hpre : ∀ V : State, V.heap = H → s.WarmedH V.vm → ct_Pc dC dI cT As wc H.size As.toArray V := fun V hV hW => ⟨rfl, by rw [hV], ⟨by rw [hV]; exact ct_P_iff.mpr (fun q hq => ct_P_iff.mp hP q (List.mem_append_right _ hq)), va_K.moved hW.alike hK, hDc⟩, fun w hw => am_nest_warm hw hW (hNW w hw)⟩
  refine va_calli (va_runS (rest := rest) ⟨hx, hb, hmx, hown, hts⟩ hM ⟨callB_of n hts hGo rfl rfl rfl (hts _ hini) (hts _ hlk) hd hR, hts _ hst⟩ ⟨ct_blind, hpre⟩ rfl hn hsz rfl hW9 hdg hroom) hS (fun q _ h => hwA q h) hwA (fun r u t H1 locs1 ht hvm hw hB hz1 hk1 hS1 => ?_)
  obtain ⟨hP1, hD1⟩ := hB
  rw [ht] at hP1
  obtain ⟨hP2, hD2⟩ := ct_join hP hD hk1 hwA hP1 hD1
  exact kk H1 locs1 r u hw hP2 hD2 hS1
theorem gs_callv (C0 : am_cx p s m args c cc nL own fl kl kL dC dI cT) (hA : ∀ q : Nat, H0.size ≤ q → A q) {wr wc : va_W} (hP : va_P (dC, dI) g_cl (wr ++ wc) H) (hD : va_D A (wr ++ wc)) (hS : va_S A H0 H locs) {y : MethodName} {bytes : ByteArray} {maxL : Nat} {ret : Option FieldType} {As : List Value} {U : Type} {post : U → Prop} {wo : U → va_W} {rm : Room} (hM : Met l y (Cond.code y bytes maxL ret :: am_tG) rm (ct_Pc dC dI cT As wc H.size) (va_Qv post (fun u t => va_P (dC, dI) g_cl (wo u) t.heap ∧ va_D (va_A wc H.size) (wo u)) (va_A wc H.size)) rm.cells rm.slots (va_A wc H.size))
    {idx pc n : Nat} (hlk : Cond.methodLink own idx y ∈ am_tG) (hst : Cond.static y ∈ am_tG) (hcode : Cond.code y bytes maxL ret ∈ am_tG) (hini : Cond.initialized y.cls ∈ am_tG) (hd : y.cls ≠ "java/lang/invoke/MethodHandle" ∧ y.cls ≠ "java/lang/invoke/VarHandle" ∧ (parseMethodDescriptor y.desc).map (fun d => d.parameters.length) = some n) (hn : As.length = n) (hR : rm.frames + 1 ≤ R.frames ∧ 8 + (maxL + 11) + rm.locals ≤ R.locals) (hroom : cells + rm.cells ≤ R.cells ∧ slots + rm.slots ≤ R.slots) (hdg : decode cc pc = .ok (.invokestatic idx, 3)) {larr : Array Slot} (hsz : larr.size = nL) {st rest : List Value} (hstk : st = As.reverse ++ rest) (hcat : (rest.map fun v => v.category).sum ≤ 8)
    (kk : ∀ (H1 : Heap) (locs1 : List Loc) (u : U), post u → va_P (dC, dI) g_cl (wr ++ wo u) H1 → va_D A (wr ++ wo u) → va_S A H0 H1 locs1 → W p l e R s m args below meth c H1 locs1 (cells + rm.cells) (slots + rm.slots) Q (F0 m (pc + 3) larr rest)) : W p l e R s m args below meth c H locs cells slots Q (F0 m pc larr st) := by
  obtain ⟨hx, hb, hmx, hown, hts, hNW, hK, -⟩ := C0
  subst hstk
  have hwA : ∀ q, va_A wc H.size q → A q := fun q h => by
    rcases h with ⟨k, e', h⟩ | h
    · exact (ct_D_iff.mp hD).2 _ (List.mem_append_right _ (List.mem_of_getElem? h))
    · exact hA q (Nat.le_trans hS.1 h)
  have hGo : GoodIn am_tG (Cond.code y bytes maxL ret :: am_tG) := fun w hw => by
    have h1 : w ∈ am_tG := (List.mem_cons.mp hw).elim (fun z => z ▸ hcode) id
    exact ⟨h1, good_of_word (List.mem_filter.mp h1).2⟩
  have hW9 : 2 * (F0 m pc larr (As.reverse ++ rest)).monitorRoom + (rest.map fun v => v.category).sum ≤ 8 := lv_room hcat
  have hDc : va_D (fun _ => True) wc := by
    have h := (ct_D_iff.mp hD).1
    rw [List.map_append, List.nodup_append] at h
    exact ct_D_iff.mpr ⟨h.2.1, fun _ _ => trivial⟩
  have hpre : ∀ V : State, V.heap = H → s.WarmedH V.vm → ct_Pc dC dI cT As wc H.size As.toArray V := fun V hV hW => ⟨rfl, by rw [hV], ⟨by rw [hV]; exact ct_P_iff.mpr (fun q hq => ct_P_iff.mp hP q (List.mem_append_right _ hq)), va_K.moved hW.alike hK, hDc⟩, fun w hw => am_nest_warm hw hW (hNW w hw)⟩
  refine va_callv (va_runS (rest := rest) ⟨hx, hb, hmx, hown, hts⟩ hM ⟨callB_of n hts hGo rfl rfl rfl (hts _ hini) (hts _ hlk) hd hR, hts _ hst⟩ ⟨ct_blind, hpre⟩ rfl hn hsz rfl hW9 hdg hroom) hS (fun q _ h => hwA q h) hwA (fun u t H1 locs1 ht hvm hw hB hz1 hk1 hS1 => ?_)
  obtain ⟨hP1, hD1⟩ := hB
  rw [ht] at hP1
  obtain ⟨hP2, hD2⟩ := ct_join hP hD hk1 hwA hP1 hD1
  exact kk H1 locs1 u hw hP2 hD2 hS1
/-- an abstract run's end is a contract's -/
theorem gs_CR {ad : Int → Nat} {sb d : Nat} {R : Room} (hf : d + 1 ≤ R.frames) (hl : 8 + (15 + 11) + (34 * d + 64) ≤ R.locals) (N M : Nat) : am_CRok g_mt l R dC dI ad cT sb (fun _ => N) (fun _ => M) (am_ar g_mt d) := by
  intro j as μ res h1 h2 h3 h4 h5
  obtain ⟨q1, I', hI', hlen', hM⟩ := am_met g_mw g_mc l dC dI ad cT sb d j as μ res h1 h2 h3
  have hm8 := (g_mw _ _ hI').2.2.2.2.2.2.2
  exact ⟨q1, ⟨h4, h5⟩, I', _, 0, 0, hI', hlen', rfl, rfl, hf, (show 8 + (I'.2.2.1 + 11) + (34 * d + 64) ≤ R.locals by omega), rfl, rfl, hM⟩
end GS
