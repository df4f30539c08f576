/-! Feeding and telling. -/
def y_feed : MethodName := ⟨"BurningSlipsLaw", "feed", "(LBurningSlips;[II)V"⟩
def y_tells : MethodName := ⟨"BurningSlipsLaw", "tells", "(LBurningSlips;I)Z"⟩
theorem d_feed_0 : decode method_2_code 0 = .ok (.iconst 3, 1) := by decide +kernel
theorem d_feed_1 : decode method_2_code 1 = .ok (.newarray .long, 2) := by decide +kernel
theorem d_feed_3 : decode method_2_code 3 = .ok (.astore_n 3, 1) := by decide +kernel
theorem d_tells_0 : decode method_4_code 0 = .ok (.sipush 950, 3) := by decide +kernel
theorem d_tells_3 : decode method_4_code 3 = .ok (.newarray .int, 2) := by decide +kernel
theorem d_tells_5 : decode method_4_code 5 = .ok (.astore_n 2, 1) := by decide +kernel
theorem d_tells_6 : decode method_4_code 6 = .ok (.iconst 0, 1) := by decide +kernel
theorem d_tells_7 : decode method_4_code 7 = .ok (.istore_n 3, 1) := by decide +kernel
theorem d_tells_8 : decode method_4_code 8 = .ok (.iload_n 1, 1) := by decide +kernel
theorem d_tells_9 : decode method_4_code 9 = .ok (.ifCond .ne 483, 3) := by decide +kernel
theorem d_tells_489 : decode method_4_code 489 = .ok (.goto 326, 3) := by decide +kernel
theorem d_tells_492 : decode method_4_code 492 = .ok (.iload_n 1, 1) := by decide +kernel
theorem d_tells_493 : decode method_4_code 493 = .ok (.iconst 1, 1) := by decide +kernel
theorem d_tells_494 : decode method_4_code 494 = .ok (.if_icmp .ne 285, 3) := by decide +kernel
theorem d_tells_776 : decode method_4_code 776 = .ok (.goto 39, 3) := by decide +kernel
theorem d_tells_815 : decode method_4_code 815 = .ok (.aload_n 0, 1) := by decide +kernel
theorem d_tells_816 : decode method_4_code 816 = .ok (.aload_n 2, 1) := by decide +kernel
theorem d_tells_817 : decode method_4_code 817 = .ok (.iload_n 3, 1) := by decide +kernel
theorem d_tells_818 : decode method_4_code 818 = .ok (.invokestatic 179, 3) := by decide +kernel
theorem pf_70 (j : Int) : e_pl e_pf 70 j = false := by
  unfold e_pl
  by_cases q : 0 ≤ (70 : Int) ∧ 0 ≤ j ∧ j < 1024
  · rw [decide_eq_true q, Bool.true_and]
    have e : (70 : Int).toNat * 1024 + j.toNat = 71680 + j.toNat := rfl
    unfold e_pf
    rw [e, eB_f (c := eB (Nat.ble 10242 _) _ _)]
    · cases r : Nat.ble 3072000 (71680 + j.toNat) with
      | false => rfl
      | true => have := Nat.le_of_ble_eq_true r; omega
    · cases r : eB (Nat.ble 10242 (71680 + j.toNat)) (Nat.ble (71680 + j.toNat) 12287) false with
      | false => rfl
      | true => have := ble_and r; omega
  · rw [decide_eq_false q, Bool.false_and]
theorem feed_m (l : Launch) (dC : Nat → ClassId) (dI : Nat → Nat → Nat) (cT : Nat → ClassId) (ad : Int → Nat) {FW FD : e_T} {n : Int} (hn : r32 n) (hev : ∀ μ : am_M, eKL 0 μ FW → ∃ μ', L_feed n μ = some (0, μ') ∧ eKL 0 μ' FD ∧ ∀ a i, e_pl e_pf a i = false → μ' a i = μ a i) {μ : am_M} (hW : eKL 0 μ FW) (hG : am_G μ) (hX : RX μ) (hz : ∀ j : Nat, μ 3010 j = 0) (sz : Nat) : Met l y_feed (Cond.code y_feed method_2_code 7 none :: am_tG) { frames := 4, cells := 1, slots := 3, locals := 200 } (ct_Pc dC dI cT [.ref (ad 0), .ref (ad 3000), .int (Int32.ofInt n)] (am_wdL (st_LX ++ [(3000, 0, 950)]) ad cT μ) sz) (va_Qv (fun u : (Int → Nat) × am_M => (∀ y : Int, y < 3000 → u.1 y = ad y) ∧ am_G u.2 ∧ eKL 0 u.2 FD ∧ ∀ a i, e_pl e_pf a i = false → u.2 a i = μ a i) (fun u t => va_P (dC, dI) g_cl (am_wd u.1 cT u.2) t.heap ∧ va_D (va_A (am_wdL (st_LX ++ [(3000, 0, 950)]) ad cT μ) sz) (am_wd u.1 cT u.2)) (va_A (am_wdL (st_LX ++ [(3000, 0, 950)]) ad cT μ) sz)) 1 3 (va_A (am_wdL (st_LX ++ [(3000, 0, 950)]) ad cT μ) sz) := by
  obtain ⟨μ', hfe, hFD, hfr⟩ := hev μ hW
  refine Met.ofW (cc := method_2_code) (maxL := 7) (ret := none) (by decide) rfl ?_
  intro p e s m args below meth c s₁ B hmx hv
  obtain ⟨rfl, hsz, ⟨hP, hK, hD0⟩, hN⟩ := hv
  have hts0 := atoms_spec (ws := Cond.code y_feed method_2_code 7 none :: am_tG) B.pre
  subst hsz
  have hl := lv_entry ([.ref (ad 0), .ref (ad 3000), .int (Int32.ofInt n)]) (n := 7) (Nat.le_of_ble_eq_true rfl)
  rw [lg_entry_eq]
  generalize (lg_sl [.ref (ad 0), .ref (ad 3000), .int (Int32.ofInt n)] ++ List.replicate (7 - (lg_sl [.ref (ad 0), .ref (ad 3000), .int (Int32.ofInt n)]).length) Slot.unset).toArray = larr at hl ⊢
  have hl : lv_has larr 7 [(0, .ref (ad 0)), (1, .ref (ad 3000)), (2, .int (Int32.ofInt n))] := hl
  have C0 : am_cx p s m [.ref (ad 0), .ref (ad 3000), .int (Int32.ofInt n)].toArray c method_2_code 7 "BurningSlipsLaw" [] [] [] dC dI cT := ⟨B.exec, B.bytes, hmx, findClass_of_methodNamed B.named, fun w hw => hts0 w (List.mem_cons_of_mem _ hw), hN, hK, fun _ h => absurd h List.not_mem_nil, fun _ h => absurd h List.not_mem_nil, fun _ h => absurd h List.not_mem_nil⟩
  have C1 : am_cx p s m [.ref (ad 0), .ref (ad 3000), .int (Int32.ofInt n)].toArray c method_2_code 7 "BurningSlipsLaw" fl_10 kl_10 kJ_10 dC dI cT := ⟨B.exec, B.bytes, hmx, findClass_of_methodNamed B.named, fun w hw => hts0 w (List.mem_cons_of_mem _ hw), hN, hK, fl_10_ok, kl_10_ok, kJ_10_ok⟩
  have hx := B.exec
  have hb := B.bytes
  have hr := B.returns
  have hlocks := B.notSynchronized
  have hD := hD0.self (sz := s.heap.size)
  generalize hwA : va_A (am_wdL (st_LX ++ [(3000, 0, 950)]) ad cT μ) s.heap.size = A at hD ⊢
  have hA : ∀ q : Nat, s.heap.size ≤ q → A q := fun q h => by rw [← hwA]; exact Or.inr h
  have hS : va_S A s.heap s.heap [] := va_S.rf
  refine lv_iconst (v := Int32.ofInt ((3 : Nat) : Int)) hx hb d_feed_0 (by decide) ?_
  refine ct_newa C0 hA hP hD hS (t := 1) (N := 3) (Or.inr (Or.inl ⟨rfl, rfl⟩)) (by decide) (Nat.le_of_ble_eq_true rfl) (Nat.le_of_ble_eq_true rfl) d_feed_1 (fun q H hP hD hS => ?_)
  obtain ⟨ad2, hq, ha⟩ : ∃ ad2 : Int → Nat, ad2 3010 = q ∧ ∀ y, y ≠ 3010 → ad2 y = ad y := ⟨fun y => if y = 3010 then q else ad y, if_pos rfl, fun y hy => if_neg hy⟩
  subst hq
  have hw : am_wdL (st_LX ++ [(3000, 0, 950)]) ad cT μ ++ [(ad2 3010, .inl (cT 1, ct_zero 1 3))] = am_wdL ((st_LX ++ [(3000, 0, 950)]) ++ [(3010, 1, 3)]) ad2 cT μ := by
    have e1 : am_wdL st_LX ad2 cT μ = am_wdL st_LX ad cT μ := gw_X hX (fun y hy => ha y (by omega))
    have e2 : am_wdL [(3000, 0, 950)] ad2 cT μ = am_wdL [(3000, 0, 950)] ad cT μ := by
      show [(ad2 3000, am_cell ad2 cT μ 3000 (0, 950))] = [(ad 3000, am_cell ad cT μ 3000 (0, 950))]
      rw [ha 3000 (by decide)]
      rfl
    have e3 : am_wdL [(3010, 1, 3)] ad2 cT μ = [(ad2 3010, .inl (cT 1, ct_zero 1 3))] := by
      show [(ad2 3010, am_cell ad2 cT μ 3010 (1, 3))] = _
      rw [ct_zcell (by decide) hz]
    rw [ct_wdL_app (L := st_LX ++ [(3000, 0, 950)]), ct_wdL_app (L := st_LX) (ad := ad2), ct_wdL_app (L := st_LX) (ad := ad), e1, e2, e3]
  rw [hw] at hP hD
  have hP : va_P (dC, dI) g_cl (am_wd ad2 cT μ) H := ct_P_perm (st_perm.map _) hP
  have hD : va_D A (am_wd ad2 cT μ) := ct_D_perm (st_perm.map _) hD
  refine lv_astore_n hx hb d_feed_3 rfl hl (by decide) rfl (fun larr hl => ?_)
  rw [← ha 0 (by decide), ← ha 3000 (by decide)] at hl
  have hrun := t_L_feed 0 n μ (0, μ') hfe
  have hin : ∀ q ∈ ([(0, (2, 0)), (1, (2, 3000)), (2, (0, n)), (3, (2, 3010))] : am_L), am_in q.2 := by
    intro q hq
    simp only [List.mem_cons, List.not_mem_nil, or_false] at hq
    rcases hq with h | h | h | h <;> subst h
    · exact am_in2 (by decide)
    · exact am_in2 (by decide)
    · exact am_in0 hn
    · exact am_in2 (by decide)
  have hCk : ∀ en ∈ k_L_feed, am_okE fl_10 ml_10 kl_10 kJ_10 method_2_code en = true := List.all_eq_true.mp (by decide +kernel)
  have hG2 : am_G μ' := (am_run_in hCk (fun L xs q => by cases q) (fun j as μ res h1 h2 h3 => (am_met g_mw g_mc l dC dI ad2 cT 0 3 j as μ res h1 h2 h3).1) hrun hin (fun v hv => by cases hv) hG).1
  refine am_sim (l := l) C1 ml_10_ok g_mw hA (cs := fun _ => 1) (ss := fun _ => 3) (fun _ _ _ => ⟨rfl, rfl⟩) (sb := 0) (gs_CR (d := 3) (Nat.le_of_ble_eq_true rfl) (Nat.le_of_ble_eq_true rfl) 1 3) hCk (X := none) (fun L xs q => by cases q) (Nat.le_of_ble_eq_true rfl) (Nat.le_of_ble_eq_true rfl) (rt := none) (res := am_res 2 (0, μ')) ?_ ?_ ?_ hrun (lv_sub hl [1, 2, 3, 0] rfl) hin (fun v hv => by cases hv) hG hP hD hS (Nat.le_of_ble_eq_true rfl) (Nat.le_of_ble_eq_true rfl)
  · intro v H locs larr pc hd hrt
    rcases hrt with h | ⟨h, -⟩ <;> cases h
  · intro v H locs larr pc hd hrt
    cases hrt
  · intro H locs larr pc hd hrt hres hP1 hD1 hS1 hc1 hs1
    exact W.vret hx hb hr (fun t ht hW => ⟨⟨(ad2, μ'), rfl, ⟨fun y hy => ha y (by omega), hG2, hFD, hfr⟩, by rw [ht]; exact hP1, hD1⟩, hS1.F ht⟩) hS1.2.2 hd hlocks
