/-! The start: what the launch gives, the table's constructor, the law's own row. -/
theorem st_js {b : Nat} {s : State} (hts : ∀ w ∈ lw_tbl, w.before #[Value.ref b] s = true) (hgv : (Jvm.Cond.and given_1 narrow_1).before #[Value.ref b] s = true) {A : Nat → Prop} (hA : ∀ a : Nat, a < s.heap.size → ¬ A a) : ∃ sa sv : Nat, js_S sa sv A s s.heap := by
  have hq := flat_of_before _ hgv
  obtain ⟨a, c, cA, kA, q1, q2, q3, q4, q5, q6, -⟩ := Cond.exactly_spec (args := #[Value.ref b]) (first := s) (o := none) (s := s) (idx := []) (t := (.string "BurningSlips$Tape" 15)) (cls := "java/lang/String") (hq (.exactly (.string "BurningSlips$Tape" 15) "java/lang/String") (by decide +kernel))
  have hel : ∀ j : Fin 68, Cond.eq (.elem (.field (.string "BurningSlips$Tape" 15) "java/lang/String" "value" "[B") (.int (Int32.ofNat j.val))) (.int (js_by.getD j.val 0)) ∈ flatC (Jvm.Cond.and given_1 narrow_1) := by decide +kernel
  obtain ⟨t, ht, hT⟩ := va_Tof (tm := (.field (.string "BurningSlips$Tape" 15) "java/lang/String" "value" "[B")) (ty := .byte) (N := 68) (f := fun j => .int (js_by.getD j 0)) (A := A) (by decide) (hq (.arrayOf (.field (.string "BurningSlips$Tape" 15) "java/lang/String" "value" "[B") .byte) (by decide +kernel)) (va_eqt (hq (.eq (.length (.field (.string "BurningSlips$Tape" 15) "java/lang/String" "value" "[B")) (.int 68)) (by decide +kernel))) (fun j hj => va_eqt (hq _ (hel ⟨j, hj⟩))) hA
  exact ⟨a, t, vk_R.of (hts (.stringRef "BurningSlips$Tape" 15 js_tx) (g_mem1 36 rfl)) q1, ⟨cA, q3, q5, by rw [q6]; exact q2, hA a (Array.getElem?_eq_some_iff.mp q3).1⟩, vk_OFof q1 (va_eqt (hq (.eq (.field (.string "BurningSlips$Tape" 15) "java/lang/String" "coder" "B") (.int 0)) (by decide +kernel))) hA, vk_OFof q1 ht hA, hT, va_Zof (hts _ (g_mem1 46 rfl)) (hts _ (g_mem1 3 rfl)) (va_eqi (hq (.eq (.static "java/lang/String" "COMPACT_STRINGS" "Z") (.int 1)) (by decide +kernel))) hA, va_Zqof (hts _ (g_mem1 62 rfl)) (hts _ (g_mem1 5 rfl)) (hq (.isRef (.static "jdk/internal/util/Preconditions" "SIOOBE_FORMATTER" "Ljava/util/function/BiFunction;")) (by decide +kernel)) hA⟩
theorem st_K {b : Nat} {s : State} (hts : ∀ w ∈ lw_tbl, w.before #[Value.ref b] s = true) : ∃ (dC : Nat → ClassId) (dI : Nat → Nat → Nat) (cT : Nat → ClassId), va_K (dC, dI) g_cl (am_tys cT) s := by
  have htg : ∀ w ∈ am_tG, w.before #[Value.ref b] s = true := fun w hw => hts w (List.mem_filter.mp hw).1
  have h1 : ∀ (k : Nat) (q : vw_C), g_cl[k]? = some q → ∃ (cC : ClassId) (iS : Nat → Nat), u_Kn s q.1 q.2.1 q.2.2 cC iS := by
    intro k q hq
    match k, hq with
    | 0, hq => cases hq; exact u_known (C := g_R0) (T := g_T0) (N := 14) (n := 14) htg g_w0 (htg _ (am_mem_t (g_mem1 123 rfl) rfl))
    | 1, hq => cases hq; exact u_known (C := g_R1) (T := g_T1) (N := 10) (n := 10) htg g_w1 (htg _ (am_mem_t (g_mem2 98 rfl) rfl))
    | 2, hq => cases hq; exact u_known (C := g_R2) (T := g_T2) (N := 12) (n := 12) htg g_w2 (htg _ (am_mem_t (g_mem1 129 rfl) rfl))
    | 3, hq => cases hq; exact u_known (C := g_R3) (T := g_T3) (N := 14) (n := 14) htg g_w3 (htg _ (am_mem_t (g_mem2 145 rfl) rfl))
    | 4, hq => cases hq; exact u_known (C := g_R4) (T := g_T4) (N := 10) (n := 10) htg g_w4 (htg _ (am_mem_t (g_mem3 7 rfl) rfl))
    | 5, hq => cases hq; exact u_known (C := g_R5) (T := g_T5) (N := 14) (n := 14) htg g_w5 (htg _ (am_mem_t (g_mem2 49 rfl) rfl))
    | 6, hq => cases hq; exact u_known (C := g_R6) (T := g_T6) (N := 1) (n := 1) htg g_w6 (htg _ (am_mem_t (g_mem2 135 rfl) rfl))
    | 7, hq => cases hq; exact u_known (C := g_R7) (T := g_T7) (N := 8) (n := 8) htg g_w7 (htg _ (am_mem_t (g_mem1 31 rfl) rfl))
    | 8, hq => cases hq; exact u_known (C := g_R8) (T := g_T8) (N := 13) (n := 13) htg g_w8 (htg _ (am_mem_t (g_mem2 199 rfl) rfl))
    | 9, hq => cases hq; exact u_known (C := g_R9) (T := g_T9) (N := 11) (n := 11) htg g_w9 (htg _ (am_mem_t (g_mem1 23 rfl) rfl))
    | k + 10, hq => simp [g_cl] at hq
  have h0 : ∀ k : Nat, ∃ z : ClassId × (Nat → Nat), ∀ q : vw_C, g_cl[k]? = some q → u_Kn s q.1 q.2.1 q.2.2 z.1 z.2 := by
    intro k
    cases hk : g_cl[k]? with
    | none => exact ⟨(0, fun _ => 0), fun q h => by cases h⟩
    | some q =>
      obtain ⟨cC, iS, h⟩ := h1 k q hk
      exact ⟨(cC, iS), fun q' h' => by cases h'; exact h⟩
  obtain ⟨f, hf⟩ := Classical.axiomOfChoice h0
  obtain ⟨ci, ki, pi, i1, i2, i3⟩ := Cond.arrayClass_spec (args := #[Value.ref b]) (first := s) (o := none) (s := s) (idx := []) (hts (.arrayClass .int) (g_mem1 119 rfl))
  obtain ⟨cl, kl, pl, l1, l2, l3⟩ := Cond.arrayClass_spec (args := #[Value.ref b]) (first := s) (o := none) (s := s) (idx := []) (hts (.arrayClass .long) (g_mem1 121 rfl))
  obtain ⟨po, co, ko, o1, o2, o3, o4, o5⟩ := Cond.arrayOver_spec (args := #[Value.ref b]) (first := s) (o := none) (s := s) (idx := []) (hts (.arrayOver (.object "BurningSlips$Machine")) (g_mem2 197 rfl))
  refine ⟨fun k => (f k).1, fun k => (f k).2, fun t => match t with
    | 0 => ci
    | 1 => cl
    | 2 => ci
    | _ => co, fun k q hq => hf k q hq, ?_⟩
  intro k q hq
  match k, hq with
  | 0, hq => cases hq; exact ⟨fun N z => ⟨(fun k h => by cases h), ki, i2, pi, i3⟩, i1⟩
  | 1, hq => cases hq; exact ⟨fun N z => ⟨(fun k h => by cases h), kl, l2, pl, l3⟩, l1⟩
  | 2, hq => cases hq; exact ⟨fun N z => ⟨(fun k h => by cases h), ki, i2, pi, i3⟩, i1⟩
  | 3, hq => cases hq; exact ⟨fun N z => ⟨(fun k h => by cases h), ko, o3, po, o4⟩, ko, po, o3, o4, o1, o5⟩
  | k + 4, hq => simp [am_tys] at hq
theorem rsv_bd (i : Int) : 0 ≤ rsv i ∧ rsv i ≤ 1000000 := by
  unfold rsv
  repeat' split
  all_goals omega
theorem i0_bd (c i : Int) : -1 ≤ am_i0 c i ∧ am_i0 c i ≤ 1000000 := by
  have h := rsv_bd i
  unfold am_i0
  repeat' split
  all_goals omega
theorem i0_b : g_lay.all (fun q => decide (q.2.1 ≠ 2) || decide (q.1 ∉ ([0, 12, 20, 50, 60, 70, 310, 300, 320, 330, 340, 350, 1000] : List Int))) = true := by decide +kernel
theorem i0_f : g_lay.all (fun q => decide (q.2.1 < 10) || ((((g_ft[q.2.1 - 10]?).getD []).mapIdx (fun j f => decide (f.1 ≠ 2) || decide (am_i0 q.1 j = 0 ∨ am_i0 q.1 j = 1))).all id)) = true := by decide +kernel
theorem G_i0 : am_G am_i0 := by
  intro c k hk
  obtain ⟨ix, hix⟩ := am_find_at g_lay c k hk
  have hm : (c, k) ∈ g_lay := List.mem_of_getElem? hix
  have b32 : ∀ i : Int, r32 (am_i0 c i) := fun i => by have := i0_bd c i; unfold r32; omega
  have b64 : ∀ i : Int, r64 (am_i0 c i) := fun i => by have := i0_bd c i; unfold r64; omega
  refine ⟨fun _ i _ _ => b32 i, fun _ i _ _ => b64 i, fun h2 i _ _ => ?_, fun ci hci j f hf => ⟨fun _ => b32 _, fun _ => b64 _, fun h2 => ?_⟩⟩
  · have h := List.all_eq_true.mp i0_b _ hm
    simp only [Bool.or_eq_true, decide_eq_true_eq] at h
    rcases h with h | h
    · exact absurd h2 h
    · exact Or.inl (i0_z c h i)
  · have h := List.all_eq_true.mp i0_f _ hm
    simp only [Bool.or_eq_true, decide_eq_true_eq] at h
    rcases h with h | h
    · have h : k.1 < 10 := h
      omega
    · have e : k.1 - 10 = ci := by omega
      have h : ((((g_ft[k.1 - 10]?).getD []).mapIdx (fun j f => decide (f.1 ≠ 2) || decide (am_i0 c j = 0 ∨ am_i0 c j = 1))).all id) = true := h
      rw [e] at h
      unfold am_fld at hf
      cases hg : g_ft[ci]? with
      | none => rw [hg] at hf; cases hf
      | some l =>
        rw [hg] at hf h
        have hf : l[j]? = some f := hf
        have h9 := List.all_eq_true.mp h (decide (f.1 ≠ 2) || decide (am_i0 c j = 0 ∨ am_i0 c j = 1)) (List.mem_of_getElem? (i := j) (by
          show (l.mapIdx _)[j]? = _
          rw [List.getElem?_mapIdx, hf]
          rfl))
        simp only [id, Bool.or_eq_true, decide_eq_true_eq] at h9
        rcases h9 with h9 | h9
        · exact absurd h2 h9
        · exact h9
def i0_ok : e_T → Bool
  | .leaf x => decide (x % 340282366920938463463374607431768211456 = 0) || (decide (0 < x % 340282366920938463463374607431768211456 ∧ x % 340282366920938463463374607431768211456 < 1180591620717411303424) && decide (((x % 340282366920938463463374607431768211456 : Nat) : Int) = 9223372036854775810 + am_i0 ((x / 340282366920938463463374607431768211456 / 1024 : Nat) : Int) ((x / 340282366920938463463374607431768211456 % 1024 : Nat) : Int)))
  | .branch _ a b => i0_ok a && i0_ok b
theorem i0_s : ∀ t : e_T, i0_ok t = true → eKL 0 am_i0 t
  | .leaf x, h => by
    unfold i0_ok at h
    simp only [Bool.and_eq_true, Bool.or_eq_true, decide_eq_true_eq] at h
    show x % 340282366920938463463374607431768211456 = 0 ∨ vr 0 (x % 340282366920938463463374607431768211456 - 1) (am_i0 ((x / 340282366920938463463374607431768211456 / 1024 : Nat) : Int) ((x / 340282366920938463463374607431768211456 % 1024 : Nat) : Int))
    rcases h with h | ⟨⟨p0, p1⟩, p2⟩
    · exact Or.inl h
    · refine Or.inr (vr_k (by omega) ?_)
      omega
  | .branch _ a b, h => by
    unfold i0_ok at h
    rw [Bool.and_eq_true] at h
    exact ⟨i0_s a h.1, i0_s b h.2⟩
theorem J4_i0 : J4 am_i0 := fun j hj => by
  unfold am_i0
  rw [if_neg (by decide), if_neg (by decide), if_neg (by decide), if_neg (by decide), if_neg (by decide), if_pos rfl, if_neg (by omega)]
  decide
theorem TP_i0 : TP 0 am_i0 := by
  refine ⟨i0_s KX_100 (by decide +kernel), i0_z 10 (by decide) 2, ⟨by decide, fun j => ?_⟩, J4_i0, G_i0⟩
  by_cases h : j < 4
  · have : j = 0 ∨ j = 1 ∨ j = 2 ∨ j = 3 := by omega
    rcases this with h | h | h | h <;> subst h <;> decide
  · exact J4_i0 j (by omega)
theorem d_law_0 : decode code 0 = .ok (.new 8, 3) := by decide +kernel
theorem d_law_3 : decode code 3 = .ok (.dup, 1) := by decide +kernel
theorem d_law_4 : decode code 4 = .ok (.invokespecial 264, 3) := by decide +kernel
theorem d_law_7 : decode code 7 = .ok (.astore_n 1, 1) := by decide +kernel
theorem d_law_8 : decode code 8 = .ok (.aload_n 1, 1) := by decide +kernel
theorem d_law_9 : decode code 9 = .ok (.iconst 0, 1) := by decide +kernel
theorem d_law_10 : decode code 10 = .ok (.invokestatic 232, 3) := by decide +kernel
theorem d_law_13 : decode code 13 = .ok (.ifCond .eq 10, 3) := by decide +kernel
theorem d_law_16 : decode code 16 = .ok (.aload_n 1, 1) := by decide +kernel
theorem d_law_17 : decode code 17 = .ok (.invokestatic 265, 3) := by decide +kernel
theorem d_law_20 : decode code 20 = .ok (.ifCond .ne 5, 3) := by decide +kernel
theorem d_law_23 : decode code 23 = .ok (.iconst 0, 1) := by decide +kernel
theorem d_law_24 : decode code 24 = .ok (.ireturn, 1) := by decide +kernel
theorem d_law_25 : decode code 25 = .ok (.iconst 0, 1) := by decide +kernel
theorem d_law_26 : decode code 26 = .ok (.istore_n 2, 1) := by decide +kernel
theorem d_law_27 : decode code 27 = .ok (.iload_n 2, 1) := by decide +kernel
theorem d_law_28 : decode code 28 = .ok (.aload_n 0, 1) := by decide +kernel
theorem d_law_29 : decode code 29 = .ok (.arraylength, 1) := by decide +kernel
theorem d_law_30 : decode code 30 = .ok (.if_icmp .ge 45, 3) := by decide +kernel
theorem d_law_33 : decode code 33 = .ok (.iload_n 2, 1) := by decide +kernel
theorem d_law_34 : decode code 34 = .ok (.bipush 30, 2) := by decide +kernel
theorem d_law_36 : decode code 36 = .ok (.if_icmp .ge 39, 3) := by decide +kernel
theorem d_law_39 : decode code 39 = .ok (.aload_n 1, 1) := by decide +kernel
theorem d_law_40 : decode code 40 = .ok (.aload_n 0, 1) := by decide +kernel
theorem d_law_41 : decode code 41 = .ok (.iload_n 2, 1) := by decide +kernel
theorem d_law_42 : decode code 42 = .ok (.iaload, 1) := by decide +kernel
theorem d_law_43 : decode code 43 = .ok (.invokestatic 269, 3) := by decide +kernel
theorem d_law_46 : decode code 46 = .ok (.ifCond .ne 5, 3) := by decide +kernel
theorem d_law_49 : decode code 49 = .ok (.iconst 0, 1) := by decide +kernel
theorem d_law_50 : decode code 50 = .ok (.ireturn, 1) := by decide +kernel
theorem d_law_51 : decode code 51 = .ok (.iload_n 2, 1) := by decide +kernel
theorem d_law_52 : decode code 52 = .ok (.bipush 10, 2) := by decide +kernel
theorem d_law_54 : decode code 54 = .ok (.irem, 1) := by decide +kernel
theorem d_law_55 : decode code 55 = .ok (.bipush 9, 2) := by decide +kernel
theorem d_law_57 : decode code 57 = .ok (.if_icmp .ne 12, 3) := by decide +kernel
theorem d_law_60 : decode code 60 = .ok (.aload_n 1, 1) := by decide +kernel
theorem d_law_61 : decode code 61 = .ok (.invokestatic 265, 3) := by decide +kernel
theorem d_law_64 : decode code 64 = .ok (.ifCond .ne 5, 3) := by decide +kernel
theorem d_law_67 : decode code 67 = .ok (.iconst 0, 1) := by decide +kernel
theorem d_law_68 : decode code 68 = .ok (.ireturn, 1) := by decide +kernel
theorem d_law_69 : decode code 69 = .ok (.iinc 2 1, 3) := by decide +kernel
theorem d_law_72 : decode code 72 = .ok (.goto (-45), 3) := by decide +kernel
theorem d_law_75 : decode code 75 = .ok (.aload_n 1, 1) := by decide +kernel
theorem d_law_76 : decode code 76 = .ok (.invokestatic 265, 3) := by decide +kernel
theorem d_law_79 : decode code 79 = .ok (.ireturn, 1) := by decide +kernel
section LW
variable {p : Program} {l : Launch} {e : Env} {s : State} {m : MethodId} {below : List Frame} {meth : Method} {c : Code} {b L : Nat} {xs : Nat → Int32}
variable {dC : Nat → ClassId} {dI : Nat → Nat → Nat} {cT : Nat → ClassId}
theorem law_end (C0 : lw_At p s m meth c b L xs) {N M : Nat} {H : Heap} {locs : List Loc} {larr : Array Slot} (hN : N ≤ 600074) (hM : M ≤ 7301550) (hS : va_S (fun q : Nat => s.heap.size ≤ q) s.heap H locs) : W p l e room_1 s m #[Value.ref b] below meth c H locs N M (lw_Z below #[Value.ref b] s) (F0 m 79 larr [.int (Int32.ofInt 1)]) := by
  obtain ⟨hx, hb, hr, hml, hown, hts, hX, hbl, hlocks, hgv⟩ := id C0
  refine va_forget (fun q hq => hS.2.2 q hq) ?_
  refine W.widen (k := 600074) (n := 7301550) hN hM ?_
  rw [show Int32.ofInt 1 = 1 from by decide]
  exact lw_ret hx hb hr hlocks d_law_79
theorem law_sound (C1 : am_cx p s m #[Value.ref b] c code 3 "BurningSlipsLaw" [] [] [] dC dI cT) {Q : State → Prop} {AA : Int} {ad : Int → Nat} {μ : am_M} (hI : INV AA μ) (hG : am_G μ) {N M : Nat} {H : Heap} {locs : List Loc} (hP : va_P (dC, dI) g_cl (am_wd ad cT μ) H) (hD : va_D (fun q : Nat => s.heap.size ≤ q) (am_wd ad cT μ)) (hS : va_S (fun q : Nat => s.heap.size ≤ q) s.heap H locs) (hN : N ≤ 600074) (hM : M ≤ 7301550) {pc : Nat} (hdg : decode code pc = .ok (.invokestatic 265, 3)) {larr : Array Slot} (hsz : larr.size = 3)
    (kk : ∀ (H : Heap) (locs : List Loc) (μ : am_M), INV AA μ → am_G μ → va_P (dC, dI) g_cl (am_wd ad cT μ) H → va_D (fun q : Nat => s.heap.size ≤ q) (am_wd ad cT μ) → va_S (fun q : Nat => s.heap.size ≤ q) s.heap H locs → W p l e room_1 s m #[Value.ref b] below meth c H locs N M Q (F0 m (pc + 3) larr [.int (Int32.ofInt 1)])) : W p l e room_1 s m #[Value.ref b] below meth c H locs N M Q (F0 m pc larr [.ref (ad 0)]) := by
  obtain ⟨μ', e1, hI'⟩ := sound_t hI
  refine gs_callA C1 (fun q h => h) hP hD hS (t_L_sound 0 μ (1, μ') e1) (I := i_L_sound) rfl rfl (fun v hv => ?_) hG (idx := 265) (am_mem_t (g_mem4 218 rfl) rfl) (am_mem_t (g_mem4 219 rfl) rfl) ⟨(Nat.le_of_ble_eq_true rfl), (Nat.le_of_ble_eq_true rfl)⟩ ⟨hN, hM⟩ hdg hsz rfl (Nat.le_of_ble_eq_true rfl) (fun H locs hG' hP hD hS => kk H locs μ' hI' hG' hP hD hS)
  cases hv with
  | head => exact am_in2 (by decide)
  | tail _ h => cases h
set_option maxRecDepth 20000 in
theorem law_loop (l : Launch) (hL : L ≤ 260) (C0 : lw_At p s m meth c b L xs) (C1 : am_cx p s m #[Value.ref b] c code 3 "BurningSlipsLaw" [] [] [] dC dI cT) : ∀ (n i : Nat), i + n = 30 → ∀ (N M : Nat) (ad : Int → Nat) (μ : am_M) (H : Heap) (locs : List Loc) (larr : Array Slot), N ≤ 110 + 2 * i → M ≤ 10100 + 953 * i → INV (3000000 * (i : Int)) μ → am_G μ → va_P (dC, dI) g_cl (am_wd ad cT μ) H → va_D (fun q : Nat => s.heap.size ≤ q) (am_wd ad cT μ) → va_S (fun q : Nat => s.heap.size ≤ q) s.heap H locs → lv_has larr 3 [(2, .int (Int32.ofInt (i : Int))), (1, .ref (ad 0)), (0, .ref b)] → W p l e room_1 s m #[Value.ref b] below meth c H locs N M (lw_Z below #[Value.ref b] s) (F0 m 27 larr []) := by
  obtain ⟨hx, hb, hr, hml, hown, hts, hX, hbl, hlocks, hgv⟩ := id C0
  have hbA : ¬ (fun q : Nat => s.heap.size ≤ q) b := Nat.not_le.mpr hbl
  have eL : Int32.ofNat L = Int32.ofInt (L : Int) := by
    rw [← Int32.toInt_inj, r32_to (by unfold r32; omega), Int32.toInt_ofNat_of_lt (by omega)]
  intro n
  induction n with
  | zero =>
    intro i hi N M ad μ H locs larr hN hM hI hG hP hD hS hl
    have hi : i = 30 := hi
    subst hi
    have fin : W p l e room_1 s m #[Value.ref b] below meth c H locs N M (lw_Z below #[Value.ref b] s) (F0 m 75 larr []) := by
      refine lv_aload_n hx hb d_law_75 rfl (lv_at hl 1 rfl) ?_
      exact law_sound C1 hI hG hP hD hS (by omega) (by omega) d_law_76 hl.1 (fun H locs μ hI hG hP hD hS => law_end C0 (by omega) (by omega) hS)
    refine lv_iload_n hx hb d_law_27 rfl (lv_at hl 0 rfl) ?_
    refine lv_aload_n hx hb d_law_28 rfl (lv_at hl 2 rfl) ?_
    refine va_slen hx hb hX hbl hbA hS d_law_29 ?_
    refine lv_icmp_ge (tgt := 75) hx hb d_law_30 (by decide) (fun _ => fin) (fun _ => ?_)
    refine lv_iload_n hx hb d_law_33 rfl (lv_at hl 0 rfl) ?_
    refine lv_bipush (v := 30) hx hb d_law_34 (by decide) ?_
    exact lv_icmp_ge (tgt := 75) hx hb d_law_36 (by decide) (fun _ => fin) (fun h => absurd (by decide) h)
  | succ n ih =>
    intro i hi N M ad μ H locs larr hN hM hI hG hP hD hS hl
    have ri : r32 (i : Int) := by unfold r32; omega
    have fin : W p l e room_1 s m #[Value.ref b] below meth c H locs N M (lw_Z below #[Value.ref b] s) (F0 m 75 larr []) := by
      refine lv_aload_n hx hb d_law_75 rfl (lv_at hl 1 rfl) ?_
      exact law_sound C1 hI hG hP hD hS (by omega) (by omega) d_law_76 hl.1 (fun H locs μ hI hG hP hD hS => law_end C0 (by omega) (by omega) hS)
    refine lv_iload_n hx hb d_law_27 rfl (lv_at hl 0 rfl) ?_
    refine lv_aload_n hx hb d_law_28 rfl (lv_at hl 2 rfl) ?_
    refine va_slen hx hb hX hbl hbA hS d_law_29 ?_
    refine lv_icmp_ge (tgt := 75) hx hb d_law_30 (by decide) (fun _ => fin) (fun hlt => ?_)
    rw [eL, am_e_le (by unfold r32; omega) ri] at hlt
    refine lv_iload_n hx hb d_law_33 rfl (lv_at hl 0 rfl) ?_
    refine lv_bipush (v := 30) hx hb d_law_34 (by decide) ?_
    refine lv_icmp_ge (tgt := 75) hx hb d_law_36 (by decide) (fun _ => fin) (fun _ => ?_)
    refine lv_aload_n hx hb d_law_39 rfl (lv_at hl 1 rfl) ?_
    refine lv_aload_n hx hb d_law_40 rfl (lv_at hl 2 rfl) ?_
    refine lv_iload_n hx hb d_law_41 rfl (lv_at hl 0 rfl) ?_
    refine va_sld hx hb hX hbl hbA hS (am_ix (by omega) (show (i : Int) < ((L : Nat) : Int) by omega) (by omega)) d_law_42 ?_
    generalize xs (Int32.ofInt (i : Int)).toNatClampNeg = v
    obtain ⟨x, hxr, rfl⟩ : ∃ x : Int, r32 x ∧ v = Int32.ofInt x := ⟨v.toInt, r32_of v, (Int32.ofInt_toInt v).symm⟩
    have rest : ∀ (N M : Nat) (ad : Int → Nat) (μ : am_M) (H : Heap) (locs : List Loc), N ≤ 110 + 2 * (i + 1) → M ≤ 10100 + 953 * (i + 1) → INV (3000000 * ((i + 1 : Nat) : Int)) μ → am_G μ → va_P (dC, dI) g_cl (am_wd ad cT μ) H → va_D (fun q : Nat => s.heap.size ≤ q) (am_wd ad cT μ) → va_S (fun q : Nat => s.heap.size ≤ q) s.heap H locs → lv_has larr 3 [(2, .int (Int32.ofInt (i : Int))), (1, .ref (ad 0)), (0, .ref b)] → W p l e room_1 s m #[Value.ref b] below meth c H locs N M (lw_Z below #[Value.ref b] s) (F0 m 46 larr [.int (Int32.ofInt 1)]) := by
      intro N M ad μ H locs hN hM hI hG hP hD hS hl
      have hi30 : i < 30 := by omega
      have hN9 : N ≤ 600074 := by omega
      have hM9 : M ≤ 7301550 := by omega
      have r69 : ∀ (μ : am_M) (H : Heap) (locs : List Loc), INV (3000000 * ((i + 1 : Nat) : Int)) μ → am_G μ → va_P (dC, dI) g_cl (am_wd ad cT μ) H → va_D (fun q : Nat => s.heap.size ≤ q) (am_wd ad cT μ) → va_S (fun q : Nat => s.heap.size ≤ q) s.heap H locs → W p l e room_1 s m #[Value.ref b] below meth c H locs N M (lw_Z below #[Value.ref b] s) (F0 m 69 larr []) := by
        intro μ H locs hI hG hP hD hS
        refine lv_iinc hx hb d_law_69 hl (k := 0) rfl (wd_inc i) (by decide) rfl (fun larr hl => ?_)
        refine lv_goto (tgt := 27) hx hb d_law_72 (by decide) ?_
        exact ih (i + 1) (by omega) N M ad μ H locs larr hN hM hI hG hP hD hS hl
      refine lv_if_ne (tgt := 51) hx hb d_law_46 (by decide) (fun _ => ?_) (fun h => absurd h (by decide))
      refine lv_iload_n hx hb d_law_51 rfl (lv_at hl 0 rfl) ?_
      refine lv_bipush (v := 10) hx hb d_law_52 (by decide) ?_
      refine lv_irem hx hb d_law_54 (by decide) ?_
      refine lv_bipush (v := 9) hx hb d_law_55 (by decide) ?_
      refine lv_icmp_ne (tgt := 69) hx hb d_law_57 (by decide) (fun _ => r69 μ H locs hI hG hP hD hS) (fun _ => ?_)
      refine lv_aload_n hx hb d_law_60 rfl (lv_at hl 1 rfl) ?_
      refine law_sound C1 hI hG hP hD hS hN9 hM9 d_law_61 hl.1 (fun H locs μ hI hG hP hD hS => ?_)
      exact lv_if_ne (tgt := 69) hx hb d_law_64 (by decide) (fun _ => r69 μ H locs hI hG hP hD hS) (fun h => absurd h (by decide))
    by_cases ht : aAnd x 15 = 0 ∧ aAnd (aUshr x 4) 63 ≤ 7
    · refine gs_calli C1 (fun q h => h) (wr := []) (wc := am_wd ad cT μ) (wo := fun u : (Int → Nat) × am_M => am_wd u.1 cT u.2) hP hD hS (act_tell l dC dI cT ad hxr ht.1 ht.2 hI hG H.size) (idx := 269) (n := 2) (am_mem_t (g_mem5 188 rfl) rfl) (am_mem_t (g_mem5 189 rfl) rfl) (am_mem_t (g_mem5 190 rfl) rfl) (am_mem_t (g_mem1 0 rfl) rfl) ⟨by decide, by decide, by decide +kernel⟩ rfl ⟨(Nat.le_of_ble_eq_true rfl), (Nat.le_of_ble_eq_true rfl)⟩ ⟨show N + 2 ≤ 600074 by omega, show M + 953 ≤ 7301550 by omega⟩ d_law_43 hl.1 rfl (Nat.le_of_ble_eq_true rfl) (fun H locs r u hp hP hD hS => ?_)
      obtain ⟨ad2, μ2⟩ := u
      obtain ⟨rfl, ha2, hG2, hI2⟩ := hp
      have ha2 : ∀ y : Int, y < 3000 → ad2 y = ad y := ha2
      rw [← ha2 0 (by decide)] at hl
      have := rest (N + 2) (M + 953) ad2 μ2 H locs (by omega) (by omega) (hI2.w (by omega)) hG2 hP hD hS hl
      rw [show Int32.ofInt 1 = 1 from by decide] at this
      exact this
    · obtain ⟨μ', e1, hI'⟩ := act_t hI (x := x) ⟨by omega, by omega⟩ (fun h0 h1 => ht ⟨h0, h1⟩)
      refine gs_callA C1 (fun q h => h) hP hD hS (t_L_act 0 x μ (1, μ') e1) (I := i_L_act) rfl rfl (fun v hv => ?_) hG (idx := 269) (am_mem_t (g_mem5 188 rfl) rfl) (am_mem_t (g_mem5 189 rfl) rfl) ⟨(Nat.le_of_ble_eq_true rfl), (Nat.le_of_ble_eq_true rfl)⟩ ⟨show N ≤ 600074 by omega, show M ≤ 7301550 by omega⟩ d_law_43 hl.1 rfl (Nat.le_of_ble_eq_true rfl) (fun H locs hG' hP hD hS => rest N M ad μ' H locs (by omega) (by omega) (hI'.w (by omega)) hG' hP hD hS hl)
      cases hv with
      | head => exact am_in2 (by decide)
      | tail _ h =>
        cases h with
        | head => exact am_in0 hxr
        | tail _ h => cases h
end LW
set_option maxHeartbeats 4000000 in
set_option maxRecDepth 20000 in
theorem whole_start {p : Program} {e : Env} {s : State} {m : MethodId} {below : List Frame} {meth : Method} {c : Code} (l : Launch) (hflags : l.flags = flags0) {b L : Nat} {xs : Nat → Int32} (hL : L ≤ 260) (C0 : lw_At p s m meth c b L xs) : W p l e room_1 s m #[Value.ref b] below meth c s.heap [] 0 0 (lw_Z below #[Value.ref b] s) (entryFrame m ([Value.ref b] : List Value).toArray 3) := by
  obtain ⟨hx, hb, hr, hml, hown, hts, hX, hbl, hlocks, hgv⟩ := id C0
  have hown : s.vm.findClass "BurningSlipsLaw" = some m.cls := hown
  have hA : ∀ q : Nat, s.heap.size ≤ q → (fun q : Nat => s.heap.size ≤ q) q := fun _ h => h
  have hA0 : ∀ a : Nat, a < s.heap.size → ¬ (fun q : Nat => s.heap.size ≤ q) a := fun a h => Nat.not_le.mpr h
  have htg : ∀ w ∈ am_tG, w.before #[Value.ref b] s = true := fun w hw => hts w (List.mem_filter.mp hw).1
  have hNW : ∀ w ∈ am_nest, va_Nw w s := fun w hw => va_Nw.of (am_nest_tab hw) (hts w (List.mem_filter.mp hw).1)
  obtain ⟨sa, sv, hjs⟩ := st_js hts hgv hA0
  have hAO : va_AO "BurningSlips$Machine" s := va_AO.of (hts (.arrayOver (.object "BurningSlips$Machine")) (g_mem2 197 rfl))
  obtain ⟨dC, dI, cT, hK⟩ := st_K hts
  have C1 : am_cx p s m #[Value.ref b] c code 3 "BurningSlipsLaw" [] [] [] dC dI cT := ⟨hx, hb, hml, hown, htg, hNW, hK, fun _ h => absurd h List.not_mem_nil, fun _ h => absurd h List.not_mem_nil, fun _ h => absurd h List.not_mem_nil⟩
  have hS : va_S (fun q : Nat => s.heap.size ≤ q) s.heap s.heap [] := va_S.rf
  have hP : va_P (dC, dI) g_cl [] s.heap := fun k q h => by simp at h
  have hD : va_D (fun q : Nat => s.heap.size ≤ q) [] := ⟨fun i j p q h => by simp at h, fun k q h => by simp at h⟩
  have hl := lv_entry ([.ref b]) (n := 3) (Nat.le_of_ble_eq_true rfl)
  rw [lg_entry_eq]
  generalize (lg_sl ([.ref b]) ++ List.replicate (3 - (lg_sl ([.ref b])).length) Slot.unset).toArray = ls at hl ⊢
  have hl : lv_has ls 3 [(0, .ref b)] := hl
  refine va_new (ci := 9) (fs := ct_f0 9) (C := g_R9) (T := g_T9) (N := 11) hx hb htg g_w9 g_t9 g_p9 hown (htg _ (am_mem_t (g_mem1 22 rfl) rfl)) (htg _ (am_mem_t (g_mem1 23 rfl) rfl)) (htg _ (am_mem_t (g_mem1 1 rfl) rfl)) hK hP hD hS hA rfl (ct_vpV rfl) (Nat.le_of_ble_eq_true rfl) (Nat.le_of_ble_eq_true rfl) d_law_0 (fun q0 H hP hD hS => ?_)
  obtain ⟨ad0, had0⟩ : ∃ ad0 : Int → Nat, ad0 0 = q0 := ⟨fun _ => q0, rfl⟩
  subst had0
  have hP : va_P (dC, dI) g_cl ([] ++ [(ad0 0, .inr (9, ct_f0 9))]) H := hP
  have hD : va_D (fun q : Nat => s.heap.size ≤ q) ([] ++ [(ad0 0, .inr (9, ct_f0 9))]) := hD
  refine lv_dup hx hb d_law_3 rfl ?_
  refine ct_call C1 hA (wr := []) (wc := [(ad0 0, .inr (9, ct_f0 9))]) (b := ad0 0) (As := []) hP hD hS (rm := ({ frames := 10, cells := 103, slots := 9047, locals := 300 } : Room)) (L := st_LX) (xs := [10, 11, 12, 100, 101, 102, 103, 104, 105, 106, 107, 108, 109, 110, 111, 112, 113, 114, 115, 116, 117, 118, 119, 120, 121, 122, 200, 201, 202, 203, 204, 205, 206, 207, 208, 209, 210, 211, 212, 213, 214, 215, 216, 217, 218, 219, 220, 221, 222, 20, 21, 22, 23, 30, 31, 32, 33, 34, 35, 40, 41, 300, 301, 302, 303, 310, 311, 312, 313, 70, 320, 321, 322, 323, 330, 331, 332, 333, 340, 341, 342, 343, 350, 351, 352, 353, 50, 51, 52, 53, 54, 55, 56, 57, 58, 60, 61, 62, 63, 64, 65, 66, 67]) (k_X l dC dI cT sa sv ad0 H.size) (ct_blindE (fun A U U' h1 h2 h => ⟨by rw [h2]; exact js_S.vm h1 h.1, va_AO.moved (by rw [h1]; exact Vm.Alike.refl _) h.2⟩)) (fun U hU hW => ⟨⟨rfl, by rw [hU], ⟨by rw [hU]; exact hP, va_K.moved hW.alike hK, hD.weaken (fun _ _ _ _ => trivial)⟩, fun w hw => am_nest_warm hw hW (hNW w hw)⟩, ⟨by show js_S sa sv (va_A _ H.size) U U.heap; rw [hU]; exact hjs.go hW hS.2.1 (fun q h => by
    rcases h with ⟨k, e', h⟩ | h
    · exact (ct_D_iff.mp hD).2 _ (List.mem_of_getElem? h)
    · exact Nat.le_trans hS.1 h), va_AO.moved hW.alike hAO⟩⟩) (idx := 264) (pc := 4) (n := 0) (Or.inl (am_mem_t (g_mem1 24 rfl) rfl)) (am_mem_t (g_mem1 26 rfl) rfl) (am_mem_t (g_mem1 1 rfl) rfl) (am_mem_t (g_mem1 25 rfl) rfl) rfl ⟨by decide, by decide, by decide +kernel⟩ rfl ⟨(Nat.le_of_ble_eq_true rfl), (Nat.le_of_ble_eq_true rfl)⟩ ⟨(Nat.le_of_ble_eq_true rfl), (Nat.le_of_ble_eq_true rfl)⟩ d_law_4 hl.1 rfl (Nat.le_of_ble_eq_true rfl) (fun H locs ad1 ha1 hP hD hS _ => ?_)
  have hP : va_P (dC, dI) g_cl ([] ++ am_wdL st_LX ad1 cT am_i0) H := hP
  have hD : va_D (fun q : Nat => s.heap.size ≤ q) ([] ++ am_wdL st_LX ad1 cT am_i0) := hD
  rw [show ad0 0 = ad1 0 from (ha1 0 (by decide)).symm]
  refine lv_astore_n hx hb d_law_7 rfl hl (by decide) rfl (fun ls hl => ?_)
  refine lv_aload_n hx hb d_law_8 rfl (lv_at hl 0 rfl) ?_
  refine lv_iconst (v := Int32.ofInt ((0 : Nat) : Int)) hx hb d_law_9 (by decide) ?_
  refine gs_calli C1 hA (wo := fun u : (Int → Nat) × am_M => am_wd u.1 cT u.2) hP hD hS (tells_t l dC dI cT ad1 (w := 0) (b := 0) (by decide) (by decide) TP_i0 H.size) (idx := 232) (n := 2) (am_mem_t (g_mem3 77 rfl) rfl) (am_mem_t (g_mem3 78 rfl) rfl) (am_mem_t (g_mem3 79 rfl) rfl) (am_mem_t (g_mem1 0 rfl) rfl) ⟨by decide, by decide, by decide +kernel⟩ rfl ⟨(Nat.le_of_ble_eq_true rfl), (Nat.le_of_ble_eq_true rfl)⟩ ⟨(Nat.le_of_ble_eq_true rfl), (Nat.le_of_ble_eq_true rfl)⟩ d_law_10 hl.1 rfl (Nat.le_of_ble_eq_true rfl) (fun H locs r u hp hP hD hS => ?_)
  obtain ⟨ad2, μ2⟩ := u
  obtain ⟨rfl, ha2, hG2, hI2⟩ := hp
  have ha2 : ∀ y : Int, y < 3000 → ad2 y = ad1 y := ha2
  rw [← ha2 0 (by decide)] at hl
  refine lv_if_eq (tgt := 23) hx hb d_law_13 (by decide) (fun h => absurd h (by decide)) (fun _ => ?_)
  refine lv_aload_n hx hb d_law_16 rfl (lv_at hl 0 rfl) ?_
  refine law_sound C1 hI2 hG2 hP hD hS (Nat.le_of_ble_eq_true rfl) (Nat.le_of_ble_eq_true rfl) d_law_17 hl.1 (fun H locs μ hI hG hP hD hS => ?_)
  refine lv_if_ne (tgt := 25) hx hb d_law_20 (by decide) (fun _ => ?_) (fun h => absurd h (by decide))
  refine lv_iconst (v := Int32.ofInt ((0 : Nat) : Int)) hx hb d_law_25 (by decide) ?_
  refine lv_istore_n hx hb d_law_26 rfl hl (by decide) rfl (fun ls hl => ?_)
  exact law_loop l hL C0 C1 30 0 rfl _ _ ad2 μ H locs ls (Nat.le_of_ble_eq_true rfl) (Nat.le_of_ble_eq_true rfl) (hI.w (by decide)) hG hP hD hS hl
