/-! The contract of telling. -/
theorem pf_low {k : Nat} (h : e_pf k = false) : k < 3072000 := by
  unfold e_pf at h
  rcases eB_cases h with ⟨z, -⟩ | ⟨-, z⟩
  · have := ble_and z
    omega
  · rcases Nat.lt_or_ge k 3072000 with q | q
    · exact q
    · rw [Nat.ble_eq_true_of_le q] at z
      cases z
theorem r32_of (v : Int32) : r32 v.toInt := by
  have h1 := v.toInt_lt
  have h2 := v.le_toInt
  unfold r32
  omega
/-- the numbers with a text in the row of signs -/
def tl_mu (μ : am_M) (F : Nat → Int32) : am_M := fun c i => if c = 3000 then (F i.toNat).toInt else if c = 3010 then 0 else μ c i
theorem tl_low {μ : am_M} {F : Nat → Int32} {c : Int} (h : c < 3000) : tl_mu μ F c = μ c := by
  funext i
  unfold tl_mu
  rw [if_neg (by omega), if_neg (by omega)]
theorem tl_G {μ : am_M} {F : Nat → Int32} (h : am_G μ) : am_G (tl_mu μ F) := by
  intro c k hk
  by_cases q : c = 3000
  · subst q
    have e : am_shp 3000 = some (0, 950) := by decide +kernel
    rw [e] at hk
    cases hk
    exact ⟨fun _ i _ _ => by unfold tl_mu; rw [if_pos rfl]; exact r32_of _, fun z => absurd z (by decide), fun z => absurd z (by decide), fun ci z => by have z : (0 : Nat) = 10 + ci := z; omega⟩
  by_cases q2 : c = 3010
  · subst q2
    have e : am_shp 3010 = some (1, 3) := by decide +kernel
    rw [e] at hk
    cases hk
    exact ⟨fun z => absurd z (by decide), fun _ i _ _ => by unfold tl_mu; rw [if_neg (by decide), if_pos rfl]; unfold r64; decide, fun z => absurd z (by decide), fun ci z => by have z : (1 : Nat) = 10 + ci := z; omega⟩
  have e : tl_mu μ F c = μ c := by
    funext i
    unfold tl_mu
    rw [if_neg q, if_neg q2]
  rw [e]
  exact h c k hk
set_option maxHeartbeats 2000000 in
set_option maxRecDepth 20000 in
theorem tells_m (l : Launch) (dC : Nat → ClassId) (dI : Nat → Nat → Nat) (cT : Nat → ClassId) (ad : Int → Nat) {w : Nat} {rows : List (Nat × Int64)} {T : List Int32} {KX FW FD : e_T} {PS : am_M → Prop} (hrow : (w = 0 ∧ rows = tl_r0) ∨ (w = 1 ∧ rows = tl_r1) ∨ (w = 2 ∧ rows = tl_r2)) (hTx : tl_txt rows = T) (hTn : T.length ≤ 950) (hfw : fw_ok T FW = true) (hfeed : ∀ μ : am_M, eKL 0 μ FW → ∃ μ', L_feed (T.length : Int) μ = some (0, μ') ∧ eKL 0 μ' FD ∧ ∀ a i, e_pl e_pf a i = false → μ' a i = μ a i) (htl : ∀ μ : am_M, eKL 0 μ KX → eKL 0 μ FD → J4 μ → ∃ μ', L_tells (w : Int) μ = some (1, μ') ∧ PS μ') (hKp : e_tn e_pf KX = true) {μ : am_M} (hKX : eKL 0 μ KX) (h102 : μ 10 2 = 0) (hX : RX μ) (hJ : J4 μ) (hG : am_G μ) (sz : Nat) : Met l y_tells (Cond.code y_tells method_4_code 4 (some .boolean) :: am_tG) { frames := 9, cells := 2, slots := 953, locals := 370 } (ct_Pc dC dI cT [.ref (ad 0), .int (Int32.ofInt (w : Int))] (am_wdL st_LX ad cT μ) sz) (va_Qi (fun (r : Int32) (u : (Int → Nat) × am_M) => r = 1 ∧ (∀ y : Int, y < 3000 → u.1 y = ad y) ∧ am_G u.2 ∧ PS u.2) (fun u t => va_P (dC, dI) g_cl (am_wd u.1 cT u.2) t.heap ∧ va_D (va_A (am_wdL st_LX ad cT μ) sz) (am_wd u.1 cT u.2)) (va_A (am_wdL st_LX ad cT μ) sz)) 2 953 (va_A (am_wdL st_LX ad cT μ) sz) := by
  have hw3 : w < 3 := by
    rcases hrow with ⟨h, -⟩ | ⟨h, -⟩ | ⟨h, -⟩ <;> omega
  refine Met.ofW (cc := method_4_code) (maxL := 4) (ret := some .boolean) (by decide) rfl ?_
  intro p e s m args below meth c s₁ B hmx hv
  obtain ⟨rfl, hsz, ⟨hP, hK, hD0⟩, hN⟩ := hv
  have hts0 := atoms_spec (ws := Cond.code y_tells method_4_code 4 (some .boolean) :: am_tG) B.pre
  subst hsz
  have hl := lv_entry ([.ref (ad 0), .int (Int32.ofInt (w : Int))]) (n := 4) (Nat.le_of_ble_eq_true rfl)
  rw [lg_entry_eq]
  generalize (lg_sl [.ref (ad 0), .int (Int32.ofInt (w : Int))] ++ List.replicate (4 - (lg_sl [.ref (ad 0), .int (Int32.ofInt (w : Int))]).length) Slot.unset).toArray = larr at hl ⊢
  have hl : lv_has larr 4 [(0, .ref (ad 0)), (1, .int (Int32.ofInt (w : Int)))] := hl
  have C0 : am_cx p s m [.ref (ad 0), .int (Int32.ofInt (w : Int))].toArray c method_4_code 4 "BurningSlipsLaw" [] [] [] dC dI cT := ⟨B.exec, B.bytes, hmx, findClass_of_methodNamed B.named, fun w hw => hts0 w (List.mem_cons_of_mem _ hw), hN, hK, fun _ h => absurd h List.not_mem_nil, fun _ h => absurd h List.not_mem_nil, fun _ h => absurd h List.not_mem_nil⟩
  have C1 : am_cx p s m [.ref (ad 0), .int (Int32.ofInt (w : Int))].toArray c method_4_code 4 "BurningSlipsLaw" fl_10 kl_10 kJ_10 dC dI cT := ⟨B.exec, B.bytes, hmx, findClass_of_methodNamed B.named, fun w hw => hts0 w (List.mem_cons_of_mem _ hw), hN, hK, fl_10_ok, kl_10_ok, kJ_10_ok⟩
  have hx := B.exec
  have hb := B.bytes
  have hr := B.returns
  have hlocks := B.notSynchronized
  have hD := hD0.self (sz := s.heap.size)
  generalize hwA : va_A (am_wdL st_LX ad cT μ) s.heap.size = A at hD ⊢
  have hA : ∀ q : Nat, s.heap.size ≤ q → A q := fun q h => by rw [← hwA]; exact Or.inr h
  have hS : va_S A s.heap s.heap [] := va_S.rf
  refine lv_sipush (v := Int32.ofInt ((950 : Nat) : Int)) hx hb d_tells_0 (by decide) ?_
  refine ct_newa C0 hA hP hD hS (t := 0) (N := 950) (Or.inl ⟨rfl, rfl⟩) (by decide) (Nat.le_of_ble_eq_true rfl) (Nat.le_of_ble_eq_true rfl) d_tells_3 (fun q H hP hD hS => ?_)
  have hP : va_P (dC, dI) g_cl (am_wdL st_LX ad cT μ ++ [(q, .inl (cT 0, (950, .inl (fun _ => 0))))]) H := hP
  have hD : va_D A (am_wdL st_LX ad cT μ ++ [(q, .inl (cT 0, (950, .inl (fun _ => 0))))]) := hD
  refine lv_astore_n hx hb d_tells_5 rfl hl (by decide) rfl (fun larr hl => ?_)
  refine lv_iconst (v := Int32.ofInt 0) hx hb d_tells_6 (by decide) ?_
  refine lv_istore_n hx hb d_tells_7 rfl hl (by decide) rfl (fun larr hl => ?_)
  refine lv_iload_n hx hb d_tells_8 rfl (lv_at hl 3 rfl) ?_
  have hT0 : PT [] (fun _ => (0 : Int32)) := fun i hi => absurd hi (Nat.not_lt_zero i)
  have hl : lv_has larr 4 [(3, .int (Int32.ofInt ((([] : List Int32).length : Nat) : Int))), (2, .ref q), (0, .ref (ad 0)), (1, .int (Int32.ofInt (w : Int)))] := hl
  have hCk : ∀ en ∈ k_L_tells, am_okE fl_10 ml_10 kl_10 kJ_10 method_4_code en = true := List.all_eq_true.mp (by decide +kernel)
  have hin : ∀ z ∈ ([(0, (2, 0)), (1, (0, (w : Int)))] : am_L), am_in z.2 := by
    intro z hz
    simp only [List.mem_cons, List.not_mem_nil, or_false] at hz
    rcases hz with h | h <;> subst h
    · exact am_in2 (by decide)
    · exact am_in0 (by unfold r32; omega)
  have tail : ∀ (F : Nat → Int32) (H : Heap) (locs : List Loc) (larr : Array Slot), PT T F → va_P (dC, dI) g_cl (am_wdL st_LX ad cT μ ++ [(q, .inl (cT 0, (950, .inl F)))]) H → va_D A (am_wdL st_LX ad cT μ ++ [(q, .inl (cT 0, (950, .inl F)))]) → va_S A s.heap H locs → lv_has larr 4 [(3, .int (Int32.ofInt (T.length : Int))), (2, .ref q), (0, .ref (ad 0)), (1, .int (Int32.ofInt (w : Int)))] → W p l e { frames := 9, cells := 2, slots := 953, locals := 370 } s m [.ref (ad 0), .int (Int32.ofInt (w : Int))].toArray below meth c H locs (0 + 1) (0 + 950) (MQ below (va_Qi (fun (r : Int32) (u : (Int → Nat) × am_M) => r = 1 ∧ (∀ y : Int, y < 3000 → u.1 y = ad y) ∧ am_G u.2 ∧ PS u.2) (fun u t => va_P (dC, dI) g_cl (am_wd u.1 cT u.2) t.heap ∧ va_D A (am_wd u.1 cT u.2)) A) [.ref (ad 0), .int (Int32.ofInt (w : Int))].toArray s 2 953 A) (F0 m 815 larr []) := by
    intro F H locs larr hT hP hD hS hl
    obtain ⟨ad1, hq, ha⟩ : ∃ ad1 : Int → Nat, ad1 3000 = q ∧ ∀ y, y ≠ 3000 → ad1 y = ad y := ⟨fun y => if y = 3000 then q else ad y, if_pos rfl, fun y hy => if_neg hy⟩
    subst hq
    have m3 : ∀ i : Nat, tl_mu μ F 3000 i = (F i).toInt := fun i => by
      unfold tl_mu
      rw [if_pos rfl]
      rfl
    have hw : am_wdL st_LX ad cT μ ++ [(ad1 3000, .inl (cT 0, (950, .inl F)))] = [] ++ am_wdL (st_LX ++ [(3000, 0, 950)]) ad1 cT (tl_mu μ F) := by
      have e1 : am_wdL st_LX ad1 cT (tl_mu μ F) = am_wdL st_LX ad cT μ := (gw_muX (fun c hc => tl_low hc)).trans (gw_X hX (fun y hy => ha y (by omega)))
      have e2 : am_wdL [(3000, 0, 950)] ad1 cT (tl_mu μ F) = [(ad1 3000, .inl (cT 0, (950, .inl F)))] := by
        show [(ad1 3000, Sum.inl (cT 0, (950, Sum.inl (fun j : Nat => Int32.ofInt (tl_mu μ F 3000 j)))))] = _
        have e3 : (fun j : Nat => Int32.ofInt (tl_mu μ F 3000 j)) = F := funext fun j => by rw [m3 j, Int32.ofInt_toInt]
        rw [e3]
      rw [List.nil_append, ct_wdL_app, e1, e2]
    rw [hw] at hP hD
    have hKX1 : eKL 0 (tl_mu μ F) KX := eKL_fk hKX hKp (fun k hk => by rw [tl_low (by have := pf_low hk; omega)])
    have hX1 : RX (tl_mu μ F) := ⟨fun z hz => by rw [tl_low ((by decide : ∀ z ∈ gw_rs, z.1 < 3000) z hz)]; exact hX.1 z hz, fun j => by rw [tl_low (by decide)]; exact hX.2 j⟩
    have hF1 : eKL 0 (tl_mu μ F) FW := fw_s hT (by rw [tl_low (by decide)]; exact h102) m3 (fun i => by unfold tl_mu; rw [if_neg (by decide), if_pos rfl]) FW hfw
    rw [← ha 0 (by decide)] at hl
    refine lv_aload_n hx hb d_tells_815 rfl (lv_at hl 2 rfl) ?_
    refine lv_aload_n hx hb d_tells_816 rfl (lv_at hl 1 rfl) ?_
    refine lv_iload_n hx hb d_tells_817 rfl (lv_at hl 0 rfl) ?_
    refine gs_callv C0 hA (wo := fun u : (Int → Nat) × am_M => am_wd u.1 cT u.2) hP hD hS (feed_m l dC dI cT ad1 (n := (T.length : Int)) (by unfold r32; omega) hfeed hF1 (tl_G hG) hX1 (fun i => by unfold tl_mu; rw [if_neg (by decide), if_pos rfl]) H.size) (idx := 179) (n := 3) (am_mem_t (g_mem3 163 rfl) rfl) (am_mem_t (g_mem3 164 rfl) rfl) (am_mem_t (g_mem3 165 rfl) rfl) (am_mem_t (g_mem1 0 rfl) rfl) ⟨by decide, by decide, by decide +kernel⟩ rfl ⟨(Nat.le_of_ble_eq_true rfl), (Nat.le_of_ble_eq_true rfl)⟩ ⟨(Nat.le_of_ble_eq_true rfl), (Nat.le_of_ble_eq_true rfl)⟩ d_tells_818 hl.1 rfl (Nat.le_of_ble_eq_true rfl) (fun H locs u hp hP hD hS => ?_)
    obtain ⟨ad2, μ2⟩ := u
    obtain ⟨ha2, hG2, hFD, hfr⟩ := hp
    have hP : va_P (dC, dI) g_cl (am_wd ad2 cT μ2) H := hP
    have hD : va_D A (am_wd ad2 cT μ2) := hD
    have ha2 : ∀ y : Int, y < 3000 → ad2 y = ad1 y := ha2
    have hG2 : am_G μ2 := hG2
    have hfr : ∀ a i, e_pl e_pf a i = false → μ2 a i = tl_mu μ F a i := hfr
    have hFD : eKL 0 μ2 FD := hFD
    obtain ⟨μ3, e3, hps⟩ := htl μ2 (eKL_fr hKX1 hKp hfr) hFD (fun j hj => by rw [hfr 70 j (pf_70 j), tl_low (by decide)]; exact hJ j hj)
    have hrun := t_L_tells 0 (w : Int) μ2 (1, μ3) e3
    have hG3 : am_G μ3 := (am_run_in hCk (fun L xs q => by cases q) (fun j as μ res h1 h2 h3 => (am_met g_mw g_mc l dC dI ad2 cT 0 8 j as μ res h1 h2 h3).1) hrun hin (fun v hv => by cases hv) hG2).1
    rw [← ha2 0 (by decide)] at hl
    refine am_sim (l := l) C1 ml_10_ok g_mw hA (cs := fun _ => 2) (ss := fun _ => 953) (fun _ _ _ => ⟨rfl, rfl⟩) (sb := 0) (gs_CR (d := 8) (Nat.le_of_ble_eq_true rfl) (Nat.le_of_ble_eq_true rfl) 2 953) hCk (X := none) (fun L xs q => by cases q) (Nat.le_of_ble_eq_true rfl) (Nat.le_of_ble_eq_true rfl) (rt := some .boolean) (res := am_res 0 (1, μ3)) ?_ ?_ ?_ hrun (lv_sub hl [2, 3] rfl) hin (fun v hv => by cases hv) hG2 hP hD hS (Nat.le_of_ble_eq_true rfl) (Nat.le_of_ble_eq_true rfl)
    · intro v H locs larr pc hd hrt hres hP1 hD1 hS1 hc1 hs1
      have hv : (1 : Int) = v := congrArg Prod.snd (Option.some.inj hres)
      subst hv
      refine W.zret hx hb hr ?_ (fun t ht hW => ⟨⟨Int32.ofInt 1, (ad2, μ3), rfl, ⟨by decide, fun y hy => (ha2 y hy).trans (ha y (by omega)), hG3, hps⟩, by rw [ht]; exact hP1, hD1⟩, hS1.F ht⟩) hS1.2.2 hd hlocks
      rfl
    · intro v H locs larr pc hd hrt
      cases hrt
    · intro H locs larr pc hd hrt
      cases hrt
  have hR : ∀ (R : Room), R = { frames := 9, cells := 2, slots := 953, locals := 370 } → 2 ≤ R.frames ∧ 66 ≤ R.locals ∧ 0 + 1 ≤ R.cells ∧ 0 + 950 ≤ R.slots := fun R h => by
    subst h
    exact ⟨(Nat.le_of_ble_eq_true rfl), (Nat.le_of_ble_eq_true rfl), (Nat.le_of_ble_eq_true rfl), (Nat.le_of_ble_eq_true rfl)⟩
  rcases hrow with ⟨rfl, rfl⟩ | ⟨rfl, rfl⟩ | ⟨rfl, rfl⟩
  · refine lv_if_ne (tgt := 492) hx hb d_tells_9 (by decide) (fun hne => absurd (by decide) hne) (fun _ => ?_)
    refine tl_walk C0 hA (hR _ rfl) tl_r0 12 [] _ H [] larr tl_r0_o tl_r0_c (by decide) hT0 hP hD hS hl (fun F H locs larr hT hP hD hS hl => ?_)
    rw [List.nil_append, hTx] at hT hl
    rw [show 12 + 9 * tl_r0.length = 489 from rfl]
    exact lv_goto (tgt := 815) hx hb d_tells_489 (by decide) (tail F H locs larr hT hP hD hS hl)
  · refine lv_if_ne (tgt := 492) hx hb d_tells_9 (by decide) (fun _ => ?_) (fun hz => absurd hz (by decide))
    refine lv_iload_n hx hb d_tells_492 rfl (lv_at hl 3 rfl) ?_
    refine lv_iconst (v := Int32.ofInt 1) hx hb d_tells_493 (by decide) ?_
    refine lv_icmp_ne (tgt := 779) hx hb d_tells_494 (by decide) (fun hne => absurd (by decide) hne) (fun _ => ?_)
    refine tl_walk C0 hA (hR _ rfl) tl_r1 497 [] _ H [] larr tl_r1_o tl_r1_c (by decide) hT0 hP hD hS hl (fun F H locs larr hT hP hD hS hl => ?_)
    rw [List.nil_append, hTx] at hT hl
    rw [show 497 + 9 * tl_r1.length = 776 from rfl]
    exact lv_goto (tgt := 815) hx hb d_tells_776 (by decide) (tail F H locs larr hT hP hD hS hl)
  · refine lv_if_ne (tgt := 492) hx hb d_tells_9 (by decide) (fun _ => ?_) (fun hz => absurd hz (by decide))
    refine lv_iload_n hx hb d_tells_492 rfl (lv_at hl 3 rfl) ?_
    refine lv_iconst (v := Int32.ofInt 1) hx hb d_tells_493 (by decide) ?_
    refine lv_icmp_ne (tgt := 779) hx hb d_tells_494 (by decide) (fun _ => ?_) (fun hz => absurd hz (by decide))
    refine tl_walk C0 hA (hR _ rfl) tl_r2 779 [] _ H [] larr tl_r2_o tl_r2_c (by decide) hT0 hP hD hS hl (fun F H locs larr hT hP hD hS hl => ?_)
    rw [List.nil_append, hTx] at hT hl
    rw [show 779 + 9 * tl_r2.length = 815 from rfl]
    exact tail F H locs larr hT hP hD hS hl
