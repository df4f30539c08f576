/-! A method that comes back on the abstract machine has its contract. -/
theorem am_slLen {ad : Int → Nat} {sb : Nat} : ∀ (as : am_S), (lg_sl (as.map (am_cv ad sb))).length = am_cat as
  | [] => rfl
  | v :: r => by
    rw [List.map_cons]
    show ((if (am_cv ad sb v).category = 2 then [Slot.val (am_cv ad sb v), Slot.second] else [Slot.val (am_cv ad sb v)]) ++ lg_sl (r.map (am_cv ad sb))).length = (bif Nat.beq v.1 1 then 2 else 1) + am_cat r
    rw [List.length_append, am_slLen r]
    cases e : Nat.beq v.1 1 with
    | true => rw [if_pos (am_cat2 (Nat.eq_of_beq_eq_true e))]; rfl
    | false => rw [if_neg (by rw [am_cat1 (Nat.ne_of_beq_eq_false e)]; decide)]; rfl
theorem am_argsMap {ad : Int → Nat} {sb : Nat} : ∀ (as : am_S) (i : Nat), lv_args i (as.map (am_cv ad sb)) = (am_args i as).map (am_cvq ad sb)
  | [], _ => rfl
  | v :: r, i => by
    rw [List.map_cons]
    show (i, am_cv ad sb v) :: lv_args (if (am_cv ad sb v).category = 2 then i + 2 else i + 1) (r.map (am_cv ad sb)) = (i, am_cv ad sb v) :: (am_args (i + (bif Nat.beq v.1 1 then 2 else 1)) r).map (am_cvq ad sb)
    cases e : Nat.beq v.1 1 with
    | true => rw [if_pos (am_cat2 (Nat.eq_of_beq_eq_true e)), am_argsMap r]; rfl
    | false => rw [if_neg (by rw [am_cat1 (Nat.ne_of_beq_eq_false e)]; decide), am_argsMap r]; rfl
theorem am_args_in : ∀ (as : am_S) (i : Nat), (∀ v ∈ as, am_in v) → ∀ q ∈ am_args i as, am_in q.2
  | [], _, _, _, h => by cases h
  | v :: r, i, h, q, hq => by
    rcases List.mem_cons.mp hq with hq | hq
    · rw [hq]; exact h _ List.mem_cons_self
    · exact am_args_in r _ (fun w hw => h w (List.mem_cons_of_mem _ hw)) q hq
theorem am_met {mt : Nat → Option am_I} (hmw : ∀ j I, mt j = some I → am_mw I) (hmc : ∀ j I, mt j = some I → am_mc mt I) (l : Launch) (dC : Nat → ClassId) (dI : Nat → Nat → Nat) (ad : Int → Nat) (cT : Nat → ClassId) (sb : Nat) :
    ∀ (d j : Nat) (as : am_S) (μ : am_M) (res : am_R), am_ar mt d j as μ res → (∀ v ∈ as, am_in v) → am_G μ → (am_G res.2 ∧ ∀ v, res.1 = some v → am_in v) ∧ ∃ I, mt j = some I ∧ as.length = I.2.2.2.2.2.1 ∧ ∀ sz, Met l I.1 (Cond.code I.1 I.2.1 I.2.2.1 I.2.2.2.1 :: am_tG) { frames := d, cells := 0, slots := 0, locals := 34 * d + 64 } (am_Pc dC dI ad cT sb as sz μ) (am_Qc dC dI ad cT sb (va_A (am_wd ad cT μ) sz) res) 0 0 (va_A (am_wd ad cT μ) sz) := by
  intro d
  induction d with
  | zero => intro j as μ res h; exact h.elim
  | succ d ih =>
    intro j as μ res h hin hG
    obtain ⟨I, hI, hlen, hcat, hrun⟩ := h
    obtain ⟨w1, w2, w3, w4, w5, w6, w7, w8⟩ := hmw _ _ hI
    obtain ⟨fl, ml, kl, kL, hfl, hkl, hkL, hml, hC⟩ := hmc _ _ hI
    have hCRin : am_CRin (am_ar mt d) := fun j as μ res h1 h2 h3 => (ih j as μ res h1 h2 h3).1
    refine ⟨am_run_in hC (fun L xs q => by cases q) hCRin hrun (am_args_in _ _ hin) (fun v hv => by cases hv) hG, I, hI, hlen, fun sz => ?_⟩
    refine Met.ofW (cc := I.2.1) (maxL := I.2.2.1) (ret := I.2.2.2.1) w1 rfl ?_
    intro p e s m args below meth c s₁ B hmx hv
    obtain ⟨rfl, hsz, ⟨hP, hK, hD0⟩, hN⟩ := hv
    have hx := B.exec
    have hb := B.bytes
    have hr := B.returns
    have hts0 := atoms_spec (ws := Cond.code I.1 I.2.1 I.2.2.1 I.2.2.2.1 :: am_tG) B.pre
    have hts : ∀ w ∈ am_tG, w.before (as.map (am_cv ad sb)).toArray s = true := fun w hw => hts0 w (List.mem_cons_of_mem _ hw)
    have hown : s.vm.findClass I.1.cls = some m.cls := findClass_of_methodNamed B.named
    have hlocks := B.notSynchronized
    subst hsz
    have hD := hD0.self (sz := s.heap.size)
    have hA : ∀ q : Nat, s.heap.size ≤ q → va_A (am_wd ad cT μ) s.heap.size q := fun q h => Or.inr h
    have hS : va_S (va_A (am_wd ad cT μ) s.heap.size) s.heap s.heap [] := va_S.rf
    have hl := lv_entry (as.map (am_cv ad sb)) (n := I.2.2.1) (by rw [am_slLen]; exact hcat)
    rw [lg_entry_eq]
    generalize (lg_sl (as.map (am_cv ad sb)) ++ List.replicate (I.2.2.1 - (lg_sl (as.map (am_cv ad sb))).length) Slot.unset).toArray = larr at hl ⊢
    rw [am_argsMap] at hl
    have C0 : am_cx p s m (as.map (am_cv ad sb)).toArray c I.2.1 I.2.2.1 I.1.cls fl kl kL dC dI cT := ⟨hx, hb, hmx, hown, hts, hN, hK, hfl, hkl, hkL⟩
    have hq : ∀ (v : Option Value) (H : Heap) (locs : List Loc), v = res.1.map (am_cv ad sb) → va_P (dC, dI) g_cl (am_wd ad cT res.2) H → va_D (va_A (am_wd ad cT μ) s.heap.size) (am_wd ad cT res.2) → va_S (va_A (am_wd ad cT μ) s.heap.size) s.heap H locs → ∀ t : State, t.heap = H → s.WarmedH t.vm → am_Qc dC dI ad cT sb (va_A (am_wd ad cT μ) s.heap.size) res (as.map (am_cv ad sb)).toArray s (.returned v) t :=
      fun v H locs hv hP1 hD1 hS1 t ht hW => ⟨⟨by rw [hv], by rw [ht]; exact hP1, va_K.moved hW.alike hK, hD1⟩, hS1.F ht⟩
    refine am_sim (l := l) (R := (headSpec (Cond.code I.1 I.2.1 I.2.2.1 I.2.2.2.1 :: am_tG) { frames := d + 1, cells := 0, slots := 0, locals := 34 * (d + 1) + 64 }).room) C0 hml hmw hA (cs := fun _ => 0) (ss := fun _ => 0) (fun _ _ _ => ⟨rfl, rfl⟩) (CR := am_ar mt d) ?_ hC (X := none) (fun L xs q => by cases q) (Nat.le_add_left 1 d) (show 60 ≤ 34 * (d + 1) + 64 by omega) (rt := I.2.2.2.1) (res := res) ?_ ?_ ?_ hrun hl (am_args_in _ _ hin) (fun v hv => by cases hv) hG hP hD hS (Nat.zero_le _) (Nat.zero_le _)
    · intro j as μ res h1 h2 h3 h4 h5
      obtain ⟨q1, I', hI', hlen', hM⟩ := ih j as μ res h1 h2 h3
      have hm8 := (hmw _ _ hI').2.2.2.2.2.2.2
      exact ⟨q1, ⟨Nat.zero_le _, Nat.zero_le _⟩, I', _, 0, 0, hI', hlen', rfl, rfl, Nat.le_refl _, (show 8 + (I'.2.2.1 + 11) + (34 * d + 64) ≤ 34 * (d + 1) + 64 by omega), rfl, rfl, hM⟩
    · intro v H locs larr pc hd hrt hres hP1 hD1 hS1 hc1 hs1
      have hq1 := hq (some (.int (Int32.ofInt v))) H locs (by rw [hres]; rfl) hP1 hD1 hS1
      rcases hrt with hrt | ⟨hrt, hv⟩
      · exact W.iret hx hb (hr.trans hrt) hq1 hS1.2.2 hd hlocks
      · refine W.zret hx hb (hr.trans hrt) ?_ hq1 hS1.2.2 hd hlocks
        rcases hv with hv | hv <;> (subst hv; rfl)
    · intro v H locs larr pc hd hrt hres hP1 hD1 hS1 hc1 hs1
      exact W.lret hx hb (hr.trans hrt) (hq (some (.long (Int64.ofInt v))) H locs (by rw [hres]; rfl) hP1 hD1 hS1) hS1.2.2 hd hlocks
    · intro H locs larr pc hd hrt hres hP1 hD1 hS1 hc1 hs1
      exact W.vret hx hb (hr.trans hrt) (hq none H locs (by rw [hres]; rfl) hP1 hD1 hS1) hS1.2.2 hd hlocks
