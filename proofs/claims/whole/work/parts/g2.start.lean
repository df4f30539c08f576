/-! The start: what the launch gives, both constructors, the law's own row; then the loop. -/
theorem st_js {b : Nat} {s : State} (hts : ∀ w ∈ lw_tbl, w.before #[Value.ref b] s = true) (hgv : (Jvm.Cond.and given_1 narrow_1).before #[Value.ref b] s = true) {A : Nat → Prop} (hA : ∀ a : Nat, a < s.heap.size → ¬ A a) : ∃ sa sv : Nat, js_S sa sv A s s.heap := by
  have hq := flat_of_before _ hgv
  obtain ⟨a, c, cA, kA, q1, q2, q3, q4, q5, q6, -⟩ := Cond.exactly_spec (args := #[Value.ref b]) (first := s) (o := none) (s := s) (idx := []) (t := (.string "BurningSlips$Tape" 15)) (cls := "java/lang/String") (hq (.exactly (.string "BurningSlips$Tape" 15) "java/lang/String") (by decide +kernel))
  have hel : ∀ j : Fin 68, Cond.eq (.elem (.field (.string "BurningSlips$Tape" 15) "java/lang/String" "value" "[B") (.int (Int32.ofNat j.val))) (.int (js_by.getD j.val 0)) ∈ flatC (Jvm.Cond.and given_1 narrow_1) := by decide +kernel
  obtain ⟨t, ht, hT⟩ := va_Tof (tm := (.field (.string "BurningSlips$Tape" 15) "java/lang/String" "value" "[B")) (ty := .byte) (N := 68) (f := fun j => .int (js_by.getD j 0)) (A := A) (by decide) (hq (.arrayOf (.field (.string "BurningSlips$Tape" 15) "java/lang/String" "value" "[B") .byte) (by decide +kernel)) (va_eqt (hq (.eq (.length (.field (.string "BurningSlips$Tape" 15) "java/lang/String" "value" "[B")) (.int 68)) (by decide +kernel))) (fun j hj => va_eqt (hq _ (hel ⟨j, hj⟩))) hA
  exact ⟨a, t, vk_R.of (hts (.stringRef "BurningSlips$Tape" 15 js_tx) (g_mem1 37 rfl)) q1, ⟨cA, q3, q5, by rw [q6]; exact q2, hA a (Array.getElem?_eq_some_iff.mp q3).1⟩, vk_OFof q1 (va_eqt (hq (.eq (.field (.string "BurningSlips$Tape" 15) "java/lang/String" "coder" "B") (.int 0)) (by decide +kernel))) hA, vk_OFof q1 ht hA, hT, va_Zof (hts _ (g_mem1 47 rfl)) (hts _ (g_mem1 3 rfl)) (va_eqi (hq (.eq (.static "java/lang/String" "COMPACT_STRINGS" "Z") (.int 1)) (by decide +kernel))) hA, va_Zqof (hts _ (g_mem1 63 rfl)) (hts _ (g_mem1 5 rfl)) (hq (.isRef (.static "jdk/internal/util/Preconditions" "SIOOBE_FORMATTER" "Ljava/util/function/BiFunction;")) (by decide +kernel)) hA⟩
theorem st_Z {b : Nat} {s : State} (hts : ∀ w ∈ lw_tbl, w.before #[Value.ref b] s = true) (hgv : (Jvm.Cond.and given_1 narrow_1).before #[Value.ref b] s = true) {A : Nat → Prop} (hA : ∀ a : Nat, a < s.heap.size → ¬ A a) : ∃ sa : Nat → Nat, am_Z sa A s s.heap := by
  have hq := flat_of_before _ hgv
  have one : ∀ (k : Nat) (tx : String), Cond.exactly (.string "BurningSlips" k) "java/lang/String" ∈ flatC (Jvm.Cond.and given_1 narrow_1) → Cond.stringRef "BurningSlips" k tx ∈ lw_tbl → ∃ a : Nat, vk_R "BurningSlips" k tx a s := fun k tx h1 h2 => by
    obtain ⟨a, c, cA, kA, q1, -⟩ := Cond.exactly_spec (args := #[Value.ref b]) (first := s) (o := none) (s := s) (idx := []) (t := .string "BurningSlips" k) (cls := "java/lang/String") (hq _ h1)
    exact ⟨a, vk_R.of (hts _ h2) q1⟩
  obtain ⟨a0, h0⟩ := one 188 "nothing is given yet" (by decide +kernel) (g_mem6 12 rfl)
  obtain ⟨a1, h1⟩ := one 199 "no such slip on the table" (by decide +kernel) (g_mem6 49 rfl)
  obtain ⟨a2, h2⟩ := one 204 "no such bill" (by decide +kernel) (g_mem6 61 rfl)
  obtain ⟨a3, h3⟩ := one 206 "the bill gives nothing" (by decide +kernel) (g_mem6 62 rfl)
  refine ⟨fun i => match i with
    | 0 => a0
    | 1 => a1
    | 2 => a2
    | _ => a3, vx_Zqof (hts _ (g_mem6 0 rfl)) (hts _ (g_mem1 18 rfl)) (hq (.isRef (.static "java/lang/Throwable" "UNASSIGNED_STACK" "[Ljava/lang/StackTraceElement;")) (by decide +kernel)) hA, vx_Zqof (hts _ (g_mem6 2 rfl)) (hts _ (g_mem1 18 rfl)) (hq (.isRef (.static "java/lang/Throwable" "SUPPRESSED_SENTINEL" "Ljava/util/List;")) (by decide +kernel)) hA, ?_, thr_at (a := #[Value.ref b]) (fun w hw => hts w (thr_in w hw))⟩
  intro i hi
  match i, hi with
  | 0, _ => exact h0
  | 1, _ => exact h1
  | 2, _ => exact h2
  | 3, _ => exact h3
  | i + 4, hi => omega
theorem st_K {b : Nat} {s : State} (hts : ∀ w ∈ lw_tbl, w.before #[Value.ref b] s = true) : ∃ (dC : Nat → ClassId) (dI : Nat → Nat → Nat) (cT : Nat → ClassId), va_K (dC, dI) g_cl (am_tys cT) s := by
  have htg : ∀ w ∈ am_tG, w.before #[Value.ref b] s = true := fun w hw => hts w (List.mem_filter.mp hw).1
  have h1 : ∀ (k : Nat) (q : vw_C), g_cl[k]? = some q → ∃ (cC : ClassId) (iS : Nat → Nat), u_Kn s q.1 q.2.1 q.2.2 cC iS := by
    intro k q hq
    match k, hq with
    | 0, hq => cases hq; exact u_known (C := g_R0) (T := g_T0) (N := 14) (n := 14) htg g_w0 (htg _ (am_mem_t (g_mem1 124 rfl) rfl))
    | 1, hq => cases hq; exact u_known (C := g_R1) (T := g_T1) (N := 10) (n := 10) htg g_w1 (htg _ (am_mem_t (g_mem2 99 rfl) rfl))
    | 2, hq => cases hq; exact u_known (C := g_R2) (T := g_T2) (N := 12) (n := 12) htg g_w2 (htg _ (am_mem_t (g_mem1 130 rfl) rfl))
    | 3, hq => cases hq; exact u_known (C := g_R3) (T := g_T3) (N := 14) (n := 14) htg g_w3 (htg _ (am_mem_t (g_mem2 146 rfl) rfl))
    | 4, hq => cases hq; exact u_known (C := g_R4) (T := g_T4) (N := 10) (n := 10) htg g_w4 (htg _ (am_mem_t (g_mem3 8 rfl) rfl))
    | 5, hq => cases hq; exact u_known (C := g_R5) (T := g_T5) (N := 14) (n := 14) htg g_w5 (htg _ (am_mem_t (g_mem2 50 rfl) rfl))
    | 6, hq => cases hq; exact u_known (C := g_R6) (T := g_T6) (N := 1) (n := 1) htg g_w6 (htg _ (am_mem_t (g_mem2 136 rfl) rfl))
    | 7, hq => cases hq; exact u_known (C := g_R7) (T := g_T7) (N := 8) (n := 8) htg g_w7 (htg _ (am_mem_t (g_mem1 32 rfl) rfl))
    | 8, hq => cases hq; exact u_known (C := g_R8) (T := g_T8) (N := 13) (n := 13) htg g_w8 (htg _ (am_mem_t (g_mem2 200 rfl) rfl))
    | 9, hq => cases hq; exact u_known (C := g_R9) (T := g_T9) (N := 11) (n := 11) htg g_w9 (htg _ (am_mem_t (g_mem1 24 rfl) rfl))
    | 10, hq => cases hq; exact u_known (C := g_R10) (T := g_T10) (N := 91) (n := 91) htg g_w10 (htg _ (am_mem_t (g_mem6 64 rfl) rfl))
    | k + 11, hq => simp [g_cl] at hq
  have h0 : ∀ k : Nat, ∃ z : ClassId × (Nat → Nat), ∀ q : vw_C, g_cl[k]? = some q → u_Kn s q.1 q.2.1 q.2.2 z.1 z.2 := by
    intro k
    cases hk : g_cl[k]? with
    | none => exact ⟨(0, fun _ => 0), fun q h => by cases h⟩
    | some q =>
      obtain ⟨cC, iS, h⟩ := h1 k q hk
      exact ⟨(cC, iS), fun q' h' => by cases h'; exact h⟩
  obtain ⟨f, hf⟩ := Classical.axiomOfChoice h0
  obtain ⟨ci, ki, pi, i1, i2, i3⟩ := Cond.arrayClass_spec (args := #[Value.ref b]) (first := s) (o := none) (s := s) (idx := []) (hts (.arrayClass .int) (g_mem1 120 rfl))
  obtain ⟨cl, kl, pl, l1, l2, l3⟩ := Cond.arrayClass_spec (args := #[Value.ref b]) (first := s) (o := none) (s := s) (idx := []) (hts (.arrayClass .long) (g_mem1 122 rfl))
  obtain ⟨cb, kb, pb, b1, b2, b3⟩ := Cond.arrayClass_spec (args := #[Value.ref b]) (first := s) (o := none) (s := s) (idx := []) (hts (.arrayClass .boolean) (g_mem7 103 rfl))
  obtain ⟨po, co, ko, o1, o2, o3, o4, o5⟩ := Cond.arrayOver_spec (args := #[Value.ref b]) (first := s) (o := none) (s := s) (idx := []) (hts (.arrayOver (.object "BurningSlips$Machine")) (g_mem2 198 rfl))
  refine ⟨fun k => (f k).1, fun k => (f k).2, fun t => match t with
    | 0 => ci
    | 1 => cl
    | 2 => cb
    | _ => co, fun k q hq => hf k q hq, ?_⟩
  intro k q hq
  match k, hq with
  | 0, hq => cases hq; exact ⟨fun N z => ⟨(fun k h => by cases h), ki, i2, pi, i3⟩, i1⟩
  | 1, hq => cases hq; exact ⟨fun N z => ⟨(fun k h => by cases h), kl, l2, pl, l3⟩, l1⟩
  | 2, hq => cases hq; exact ⟨fun N z => ⟨(fun k h => by cases h), kb, b2, pb, b3⟩, b1⟩
  | 3, hq => cases hq; exact ⟨fun N z => ⟨(fun k h => by cases h), ko, o3, po, o4⟩, ko, po, o3, o4, o1, o5⟩
  | k + 4, hq => simp [am_tys] at hq
theorem rsv_bd (i : Int) : 0 ≤ rsv i ∧ rsv i ≤ 1000000 := by
  unfold rsv
  repeat' split
  all_goals omega
theorem i0_bd (c i : Int) : -1 ≤ am_i0 c i ∧ am_i0 c i ≤ 1000000 := by
  have h := rsv_bd i
  unfold am_i0
  repeat' split
  all_goals omega
theorem i0_b : g_lay.all (fun q => decide (q.2.1 ≠ 2) || decide (q.1 ∉ ([0, 12, 20, 50, 60, 70, 310, 300, 320, 330, 340, 350, 1000] : List Int))) = true := by decide +kernel
theorem i0_f : g_lay.all (fun q => decide (q.2.1 < 10) || ((((g_ft[q.2.1 - 10]?).getD []).mapIdx (fun j f => decide (f.1 ≠ 2) || decide (am_i0 q.1 j = 0 ∨ am_i0 q.1 j = 1))).all id)) = true := by decide +kernel
theorem G_i0 : am_G am_i0 := by
  intro c k hk
  obtain ⟨ix, hix⟩ := am_find_at g_lay c k hk
  have hm : (c, k) ∈ g_lay := List.mem_of_getElem? hix
  have b32 : ∀ i : Int, r32 (am_i0 c i) := fun i => by have := i0_bd c i; unfold r32; omega
  have b64 : ∀ i : Int, r64 (am_i0 c i) := fun i => by have := i0_bd c i; unfold r64; omega
  refine ⟨fun _ i _ _ => b32 i, fun _ i _ _ => b64 i, fun h2 i _ _ => ?_, fun ci hci j f hf => ⟨fun _ => b32 _, fun _ => b64 _, fun h2 => ?_⟩⟩
  · have h := List.all_eq_true.mp i0_b _ hm
    simp only [Bool.or_eq_true, decide_eq_true_eq] at h
    rcases h with h | h
    · exact absurd h2 h
    · exact Or.inl (i0_z c h i)
  · have h := List.all_eq_true.mp i0_f _ hm
    simp only [Bool.or_eq_true, decide_eq_true_eq] at h
    rcases h with h | h
    · have h : k.1 < 10 := h
      omega
    · have e : k.1 - 10 = ci := by omega
      have h : ((((g_ft[k.1 - 10]?).getD []).mapIdx (fun j f => decide (f.1 ≠ 2) || decide (am_i0 c j = 0 ∨ am_i0 c j = 1))).all id) = true := h
      rw [e] at h
      unfold am_fld at hf
      cases hg : g_ft[ci]? with
      | none => rw [hg] at hf; cases hf
      | some l =>
        rw [hg] at hf h
        have hf : l[j]? = some f := hf
        have h9 := List.all_eq_true.mp h (decide (f.1 ≠ 2) || decide (am_i0 c j = 0 ∨ am_i0 c j = 1)) (List.mem_of_getElem? (i := j) (by
          show (l.mapIdx _)[j]? = _
          rw [List.getElem?_mapIdx, hf]
          rfl))
        simp only [id, Bool.or_eq_true, decide_eq_true_eq] at h9
        rcases h9 with h9 | h9
        · exact absurd h2 h9
        · exact h9
theorem IN_i0 : IN am_i0 := by
  have k4 : ∀ k : Int, 0 ≤ k → k < 4 → k = 0 ∨ k = 1 ∨ k = 2 ∨ k = 3 := fun k p q => by omega
  refine IN.mk (t2 := i0_z 10 (by decide) 2) (tp := by decide) (row := ?_) (res := ?_) (s8 := by decide) (s9 := by decide) (s10 := by decide) (b13 := i0_z 100 (by decide) 13) (b12 := i0_z 100 (by decide) 12) (l10 := i0_z 101 (by decide) 10) (nu := fun i _ _ => i0_z 1013 (by decide) i) (m0 := ?_) (rm := by decide) (pr := by decide) (m1 := by decide) (f1 := by decide) (r57 := by decide) (r58 := by decide) (m70 := ?_) (mb := ?_) (r62 := fun i _ _ => i0_z 1062 (by decide) i) (wy := by decide) (w57 := fun i _ _ => i0_z 57 (by decide) i) (od := by decide)
  · funext i
    rw [i0_z 1001 (by decide), i0_z 11 (by decide)]
  · intro i p q
    unfold am_i0
    rw [if_neg (by decide), if_pos rfl, if_pos ⟨p, q⟩]
  · intro i p q
    have : i = 5 ∨ i = 6 ∨ i = 7 ∨ i = 8 ∨ i = 9 ∨ i = 10 ∨ i = 11 := by omega
    rcases this with h | h | h | h | h | h | h <;> subst h <;> decide
  · intro k p q
    rcases k4 k p q with h | h | h | h <;> subst h <;> decide
  · intro k p q
    rcases k4 k p q with h | h | h | h <;> subst h <;> decide
def st_L0 : List (Int × Nat × Nat) := [(0, 19, 0), (10, 17, 0), (11, 0, 1000), (12, 1, 17), (100, 10, 0), (101, 12, 0), (102, 0, 60), (103, 0, 60), (104, 0, 60), (105, 0, 60), (106, 0, 60), (107, 0, 60), (108, 0, 60), (109, 0, 60), (110, 0, 60), (111, 0, 1000), (112, 1, 4), (113, 0, 4), (114, 1, 4), (115, 0, 4), (116, 0, 4), (117, 0, 4), (118, 0, 4), (119, 0, 4), (120, 0, 4), (121, 0, 4), (122, 0, 4), (201, 12, 0), (202, 0, 60), (203, 0, 60), (204, 0, 60), (205, 0, 60), (206, 0, 60), (207, 0, 60), (208, 0, 60), (209, 0, 60), (210, 0, 60), (211, 0, 1000), (212, 1, 4), (213, 0, 4), (214, 1, 4), (215, 0, 4), (216, 0, 4), (217, 0, 4), (218, 0, 4), (219, 0, 4), (220, 0, 4), (221, 0, 4), (222, 0, 4), (20, 15, 0), (200, 10, 0), (21, 1, 10), (22, 0, 3), (23, 0, 64), (30, 11, 0), (31, 0, 3), (32, 0, 3), (33, 0, 3), (34, 0, 3), (35, 0, 3), (40, 16, 0), (41, 0, 64), (300, 13, 0), (301, 0, 16), (302, 0, 16), (303, 0, 160), (310, 13, 0), (311, 0, 16), (312, 0, 16), (313, 0, 160), (320, 13, 0), (321, 0, 16), (322, 0, 16), (323, 0, 160), (330, 13, 0), (331, 0, 16), (332, 0, 16), (333, 0, 160), (340, 13, 0), (341, 0, 16), (342, 0, 16), (343, 0, 160), (350, 13, 0), (351, 0, 16), (352, 0, 16), (353, 0, 160), (50, 18, 0), (51, 0, 3), (52, 0, 3), (53, 0, 3), (54, 0, 3), (55, 0, 10), (56, 0, 60), (57, 0, 60), (58, 0, 4), (60, 14, 0), (61, 0, 110), (62, 0, 10), (63, 0, 10), (64, 0, 10), (65, 0, 1024), (66, 0, 1024), (67, 1, 1024)]
def st_LX : List (Int × Nat × Nat) := st_L0 ++ [(70, 3, 4)]
def st_LM : List (Int × Nat × Nat) := [(1000, 20, 0), (1001, 0, 1000), (1002, 0, 120), (1003, 0, 120), (1004, 0, 120), (1005, 0, 120), (1006, 0, 120), (1007, 0, 480), (1008, 0, 120), (1009, 0, 120), (1010, 0, 120), (1011, 0, 120), (1012, 0, 2000), (1013, 0, 6), (1014, 1, 4), (1015, 0, 8), (1016, 1, 4), (1017, 0, 8), (1018, 0, 8), (1019, 0, 8), (1020, 0, 8), (1021, 1, 10), (1022, 0, 7), (1023, 2, 7), (1024, 0, 7), (1025, 0, 7), (1026, 0, 7), (1027, 0, 7), (1028, 0, 7), (1029, 0, 7), (1030, 0, 7), (1031, 0, 7), (1032, 0, 7), (1033, 0, 20), (1034, 0, 3), (1035, 2, 3), (1036, 0, 10), (1037, 0, 30), (1038, 0, 30), (1039, 0, 4), (1040, 0, 4), (1041, 0, 4), (1042, 0, 60), (1043, 0, 16), (1044, 0, 16), (1045, 0, 16), (1046, 0, 160), (1047, 0, 4), (1048, 0, 16), (1049, 0, 16), (1050, 0, 16), (1051, 0, 160), (1052, 0, 10), (1053, 2, 10), (1054, 0, 60), (1055, 0, 12), (1056, 0, 10), (1057, 2, 10), (1058, 0, 10), (1059, 0, 4096), (1060, 1, 4096), (1061, 1, 10), (1062, 2, 4), (1063, 0, 960)]
theorem i0_70 (j : Nat) : am_i0 70 j < 0 ∨ am_i0 70 j = 320 ∨ am_i0 70 j = 330 ∨ am_i0 70 j = 340 ∨ am_i0 70 j = 350 := by
  by_cases h : j < 4
  · have : j = 0 ∨ j = 1 ∨ j = 2 ∨ j = 3 := by omega
    rcases this with h | h | h | h <;> subst h <;> decide
  · refine Or.inl ?_
    unfold am_i0
    rw [if_neg (by decide), if_neg (by decide), if_neg (by decide), if_neg (by decide), if_neg (by decide), if_pos rfl, if_neg (by omega)]
    decide
theorem st_wd {ad ad' : Int → Nat} {cT : Nat → ClassId} {xs : List Int} (h0 : ct_okL am_i0 st_L0 xs = true) (h1 : 70 ∉ xs ∧ 320 ∉ xs ∧ 330 ∉ xs ∧ 340 ∉ xs ∧ 350 ∉ xs) (ha : ∀ y, y ∉ xs → ad' y = ad y) : am_wdL st_LX ad' cT am_i0 = am_wdL st_LX ad cT am_i0 := by
  unfold st_LX
  rw [ct_wdL_app, ct_wdL_app, ct_wdL h0 ha]
  refine congrArg (fun z => am_wdL st_L0 ad cT am_i0 ++ z) ?_
  show [(ad' 70, Sum.inl (cT 3, (4, Sum.inr (Sum.inr (Sum.inr (Sum.inr (fun j : Nat => if am_i0 70 j < 0 then none else some (ad' (am_i0 70 j)))))))))] = [(ad 70, (Sum.inl (cT 3, (4, Sum.inr (Sum.inr (Sum.inr (Sum.inr (fun j : Nat => if am_i0 70 j < 0 then none else some (ad (am_i0 70 j)))))))) : va_E))]
  have e : (fun j : Nat => if am_i0 70 j < 0 then none else some (ad' (am_i0 70 j))) = fun j : Nat => if am_i0 70 j < 0 then none else some (ad (am_i0 70 j)) := by
    funext j
    rcases i0_70 j with h | h | h | h | h
    · rw [if_pos h, if_pos h]
    · rw [h, ha 320 h1.2.1]
    · rw [h, ha 330 h1.2.2.1]
    · rw [h, ha 340 h1.2.2.2.1]
    · rw [h, ha 350 h1.2.2.2.2]
  rw [e, ha 70 h1.1]
theorem st_ok1 : ct_okL am_i0 st_L0 [1000] = true := by decide +kernel
theorem st_ok2 : ct_okL am_i0 st_L0 [1001, 1002, 1003, 1004, 1005, 1006, 1007, 1008, 1009, 1010, 1011, 1012, 1013, 1014, 1015, 1016, 1017, 1018, 1019, 1020, 1021, 1022, 1023, 1024, 1025, 1026, 1027, 1028, 1029, 1030, 1031, 1032, 1033, 1034, 1035, 1036, 1037, 1038, 1039, 1040, 1041, 1042, 1043, 1044, 1045, 1046, 1047, 1048, 1049, 1050, 1051, 1052, 1053, 1054, 1055, 1056, 1057, 1058, 1059, 1060, 1061, 1062, 1063] = true := by decide +kernel
theorem st_ok3 : ct_okL am_i0 st_L0 [2000] = true := by decide +kernel
theorem st_ok4 : ct_okL am_i0 st_LM [2000] = true := by decide +kernel
theorem st_wd2 {ad ad' : Int → Nat} {cT : Nat → ClassId} (ha : ∀ y, y ∉ [2000] → ad' y = ad y) : am_wdL (st_LX ++ st_LM) ad' cT am_i0 = am_wdL (st_LX ++ st_LM) ad cT am_i0 := by
  rw [ct_wdL_app, ct_wdL_app, st_wd st_ok3 (by decide) ha, ct_wdL st_ok4 ha]
theorem st_perm : ((st_LX ++ st_LM) ++ [(2000, 1, 1)]).Perm g_lay := List.isPerm_iff.mp (by decide +kernel)
set_option maxHeartbeats 4000000 in
set_option maxRecDepth 20000 in
theorem whole_start {p : Program} {e : Env} {s : State} {m : MethodId} {below : List Frame} {meth : Method} {c : Code} (l : Launch) (hflags : l.flags = flags0) {b L : Nat} {xs : Nat → Int32} (hL : L ≤ 3584) (C0 : lw_At p s m meth c b L xs) : W p l e room_1 s m #[Value.ref b] below meth c s.heap [] 0 0 (lw_Z below #[Value.ref b] s) (entryFrame m ([Value.ref b] : List Value).toArray 7) := by
  obtain ⟨hx, hb, hr, hml, hown, hts, hX, hbl, hlocks, hgv⟩ := id C0
  have hown : s.vm.findClass "BurningSlipsLaw" = some m.cls := hown
  have hst : l.stackTraces = false := by unfold Launch.stackTraces; rw [hflags]; decide +kernel
  have hA : ∀ q : Nat, s.heap.size ≤ q → (fun q : Nat => s.heap.size ≤ q) q := fun _ h => h
  have hA0 : ∀ a : Nat, a < s.heap.size → ¬ (fun q : Nat => s.heap.size ≤ q) a := fun a h => Nat.not_le.mpr h
  have htg : ∀ w ∈ am_tG, w.before #[Value.ref b] s = true := fun w hw => hts w (List.mem_filter.mp hw).1
  have hNW : ∀ w ∈ am_nest, va_Nw w s := fun w hw => va_Nw.of (am_nest_tab hw) (hts w (List.mem_filter.mp hw).1)
  obtain ⟨sa, sv, hjs⟩ := st_js hts hgv hA0
  obtain ⟨sz, hZ⟩ := st_Z hts hgv hA0
  have hAO : va_AO "BurningSlips$Machine" s := va_AO.of (hts (.arrayOver (.object "BurningSlips$Machine")) (g_mem2 198 rfl))
  obtain ⟨dC, dI, cT, hK⟩ := st_K hts
  have C1 : am_cx p s m #[Value.ref b] c code 7 "BurningSlipsLaw" [] [] [] dC dI cT := ⟨hx, hb, hml, hown, htg, hNW, hK, fun _ h => absurd h List.not_mem_nil, fun _ h => absurd h List.not_mem_nil, fun _ h => absurd h List.not_mem_nil⟩
  have C2 : am_cx p s m #[Value.ref b] c code 7 "BurningSlipsLaw" [] [] kJ_L dC dI cT := ⟨hx, hb, hml, hown, htg, hNW, hK, fun _ h => absurd h List.not_mem_nil, fun _ h => absurd h List.not_mem_nil, kJ_L_ok⟩
  have hS : va_S (fun q : Nat => s.heap.size ≤ q) s.heap s.heap [] := va_S.rf
  have hP : va_P (dC, dI) g_cl [] s.heap := fun k q h => by simp at h
  have hD : va_D (fun q : Nat => s.heap.size ≤ q) [] := ⟨fun i j p q h => by simp at h, fun k q h => by simp at h⟩
  have hl := lv_entry ([.ref b]) (n := 7) (Nat.le_of_ble_eq_true rfl)
  rw [lg_entry_eq]
  generalize (lg_sl ([.ref b]) ++ List.replicate (7 - (lg_sl ([.ref b])).length) Slot.unset).toArray = ls at hl ⊢
  have hl : lv_has ls 7 [(0, .ref b)] := hl
  refine va_new (ci := 9) (fs := ct_f0 9) (C := g_R9) (T := g_T9) (N := 11) hx hb htg g_w9 g_t9 g_p9 hown (htg _ (am_mem_t (g_mem1 23 rfl) rfl)) (htg _ (am_mem_t (g_mem1 24 rfl) rfl)) (htg _ (am_mem_t (g_mem1 1 rfl) rfl)) hK hP hD hS hA rfl (ct_vpV rfl) (Nat.le_of_ble_eq_true rfl) (Nat.le_of_ble_eq_true rfl) d_law_0 (fun q0 H hP hD hS => ?_)
  obtain ⟨ad0, had0⟩ : ∃ ad0 : Int → Nat, ad0 0 = q0 := ⟨fun _ => q0, rfl⟩
  subst had0
  have hP : va_P (dC, dI) g_cl ([] ++ [(ad0 0, .inr (9, ct_f0 9))]) H := hP
  have hD : va_D (fun q : Nat => s.heap.size ≤ q) ([] ++ [(ad0 0, .inr (9, ct_f0 9))]) := hD
  refine lv_dup hx hb d_law_3 rfl ?_
  refine ct_call C1 hA (wr := []) (wc := [(ad0 0, .inr (9, ct_f0 9))]) (b := ad0 0) (As := []) hP hD hS (rm := ({ frames := 20, cells := 103, slots := 9047, locals := 1000 } : Room)) (L := st_LX) (xs := [10, 11, 12, 100, 101, 102, 103, 104, 105, 106, 107, 108, 109, 110, 111, 112, 113, 114, 115, 116, 117, 118, 119, 120, 121, 122, 200, 201, 202, 203, 204, 205, 206, 207, 208, 209, 210, 211, 212, 213, 214, 215, 216, 217, 218, 219, 220, 221, 222, 20, 21, 22, 23, 30, 31, 32, 33, 34, 35, 40, 41, 300, 301, 302, 303, 310, 311, 312, 313, 70, 320, 321, 322, 323, 330, 331, 332, 333, 340, 341, 342, 343, 350, 351, 352, 353, 50, 51, 52, 53, 54, 55, 56, 57, 58, 60, 61, 62, 63, 64, 65, 66, 67]) (k_X l dC dI cT sa sv ad0 H.size) (ct_blindE (fun A U U' h1 h2 h => ⟨by rw [h2]; exact js_S.vm h1 h.1, va_AO.moved (by rw [h1]; exact Vm.Alike.refl _) h.2⟩)) (fun U hU hW => ⟨⟨rfl, by rw [hU], ⟨by rw [hU]; exact hP, va_K.moved hW.alike hK, hD.weaken (fun _ _ _ _ => trivial)⟩, fun w hw => am_nest_warm hw hW (hNW w hw)⟩, ⟨by show js_S sa sv (va_A _ H.size) U U.heap; rw [hU]; exact hjs.go hW hS.2.1 (fun q h => by
    rcases h with ⟨k, e', h⟩ | h
    · exact (ct_D_iff.mp hD).2 _ (List.mem_of_getElem? h)
    · exact Nat.le_trans hS.1 h), va_AO.moved hW.alike hAO⟩⟩) (idx := 23) (pc := 4) (n := 0) (Or.inl (am_mem_t (g_mem1 25 rfl) rfl)) (am_mem_t (g_mem1 27 rfl) rfl) (am_mem_t (g_mem1 1 rfl) rfl) (am_mem_t (g_mem1 26 rfl) rfl) rfl ⟨by decide, by decide, by decide +kernel⟩ rfl ⟨(Nat.le_of_ble_eq_true rfl), (Nat.le_of_ble_eq_true rfl)⟩ ⟨(Nat.le_of_ble_eq_true rfl), (Nat.le_of_ble_eq_true rfl)⟩ d_law_4 hl.1 rfl (Nat.le_of_ble_eq_true rfl) (fun H locs ad1 ha1 hP hD hS _ => ?_)
  have hP : va_P (dC, dI) g_cl (am_wdL st_LX ad1 cT am_i0) H := hP
  have hD : va_D (fun q : Nat => s.heap.size ≤ q) (am_wdL st_LX ad1 cT am_i0) := hD
  rw [show ad0 0 = ad1 0 from (ha1 0 (by decide)).symm]
  refine lv_astore_n hx hb d_law_7 rfl hl (by decide) rfl (fun ls hl => ?_)
  refine va_new (ci := 10) (fs := ct_f0 10) (C := g_R10) (T := g_T10) (N := 91) hx hb htg g_w10 g_t10 g_p10 hown (htg _ (am_mem_t (g_mem6 63 rfl) rfl)) (htg _ (am_mem_t (g_mem6 64 rfl) rfl)) (htg _ (am_mem_t (g_mem1 15 rfl) rfl)) hK hP hD hS hA rfl (ct_vpV rfl) (Nat.le_of_ble_eq_true rfl) (Nat.le_of_ble_eq_true rfl) d_law_8 (fun q1 H hP hD hS => ?_)
  obtain ⟨ad2, hq1, ha2⟩ : ∃ ad2 : Int → Nat, ad2 1000 = q1 ∧ ∀ y, y ∉ [1000] → ad2 y = ad1 y := ⟨fun y => if y = 1000 then q1 else ad1 y, if_pos rfl, fun y hy => if_neg (fun z => hy (List.mem_singleton.mpr z))⟩
  subst hq1
  rw [← st_wd st_ok1 (by decide) ha2] at hP hD
  refine lv_dup hx hb d_law_11 rfl ?_
  refine ct_call C1 hA (wr := am_wdL st_LX ad2 cT am_i0) (wc := [(ad2 1000, .inr (10, ct_f0 10))]) (b := ad2 1000) (As := []) hP hD hS (rm := ({ frames := 4, cells := 63, slots := 14577, locals := 60 } : Room)) (L := st_LM) (xs := [1001, 1002, 1003, 1004, 1005, 1006, 1007, 1008, 1009, 1010, 1011, 1012, 1013, 1014, 1015, 1016, 1017, 1018, 1019, 1020, 1021, 1022, 1023, 1024, 1025, 1026, 1027, 1028, 1029, 1030, 1031, 1032, 1033, 1034, 1035, 1036, 1037, 1038, 1039, 1040, 1041, 1042, 1043, 1044, 1045, 1046, 1047, 1048, 1049, 1050, 1051, 1052, 1053, 1054, 1055, 1056, 1057, 1058, 1059, 1060, 1061, 1062, 1063]) (k_Model l dC dI cT ad2 H.size) ct_blind (fun U hU hW => ⟨rfl, by rw [hU], ⟨by rw [hU]; exact ct_P_iff.mpr (fun q hq => ct_P_iff.mp hP q (List.mem_append_right _ hq)), va_K.moved hW.alike hK, ct_D_iff.mpr ⟨by simp, fun _ _ => trivial⟩⟩, fun w hw => am_nest_warm hw hW (hNW w hw)⟩) (idx := 26) (pc := 12) (n := 0) (Or.inl (am_mem_t (g_mem6 65 rfl) rfl)) (am_mem_t (g_mem6 67 rfl) rfl) (am_mem_t (g_mem1 15 rfl) rfl) (am_mem_t (g_mem6 66 rfl) rfl) rfl ⟨by decide, by decide, by decide +kernel⟩ rfl ⟨(Nat.le_of_ble_eq_true rfl), (Nat.le_of_ble_eq_true rfl)⟩ ⟨(Nat.le_of_ble_eq_true rfl), (Nat.le_of_ble_eq_true rfl)⟩ d_law_12 hl.1 rfl (Nat.le_of_ble_eq_true rfl) (fun H locs ad3 ha3 hP hD hS _ => ?_)
  rw [← st_wd st_ok2 (by decide) ha3, ← ct_wdL_app] at hP hD
  rw [show ad2 1000 = ad3 1000 from (ha3 1000 (by decide)).symm]
  refine lv_astore_n hx hb d_law_15 rfl hl (by decide) rfl (fun ls hl => ?_)
  refine lv_iconst (v := Int32.ofInt ((1 : Nat) : Int)) hx hb d_law_16 (by decide) ?_
  refine ct_newa C1 hA hP hD hS (t := 1) (N := 1) (Or.inr (Or.inl ⟨rfl, rfl⟩)) (by decide) (Nat.le_of_ble_eq_true rfl) (Nat.le_of_ble_eq_true rfl) d_law_17 (fun q2 H hP hD hS => ?_)
  obtain ⟨ad4, hq2, ha4⟩ : ∃ ad4 : Int → Nat, ad4 2000 = q2 ∧ ∀ y, y ∉ [2000] → ad4 y = ad3 y := ⟨fun y => if y = 2000 then q2 else ad3 y, if_pos rfl, fun y hy => if_neg (fun z => hy (List.mem_singleton.mpr z))⟩
  subst hq2
  rw [← st_wd2 ha4, ← ct_zcell (ad := ad4) (μ := am_i0) (x := 2000) (by decide) (fun j => i0_z 2000 (by decide) j)] at hP hD
  have hP : va_P (dC, dI) g_cl (am_wdL (st_LX ++ st_LM) ad4 cT am_i0 ++ am_wdL [(2000, 1, 1)] ad4 cT am_i0) H := hP
  have hD : va_D (fun q : Nat => s.heap.size ≤ q) (am_wdL (st_LX ++ st_LM) ad4 cT am_i0 ++ am_wdL [(2000, 1, 1)] ad4 cT am_i0) := hD
  rw [← ct_wdL_app] at hP hD
  have hP := ct_P_perm (st_perm.map _) hP
  have hD := ct_D_perm (st_perm.map _) hD
  refine lv_astore_n hx hb d_law_19 rfl hl (by decide) rfl (fun ls hl => ?_)
  refine lv_iconst (v := Int32.ofInt 0) hx hb d_law_20 (by decide) ?_
  refine lv_istore hx hb d_law_21 hl (by decide) rfl (fun ls hl => ?_)
  have e0 : ad4 0 = ad1 0 := (ha4 0 (by decide)).trans ((ha3 0 (by decide)).trans (ha2 0 (by decide)))
  have e1 : ad4 1000 = ad3 1000 := ha4 1000 (by decide)
  rw [← e0, ← e1] at hl
  have hend : ∀ (N M : Nat) (H : Heap) (locs : List Loc) (larr : Array Slot), N ≤ 601024 → M ≤ 7293034 → va_S (fun q : Nat => s.heap.size ≤ q) s.heap H locs → W p l e room_1 s m #[Value.ref b] below meth c H locs N M (lw_Z below #[Value.ref b] s) (F0 m 1208 larr [.int (Int32.ofInt 1)]) := by
    intro N M H locs larr hN hM hS
    refine va_forget (fun q hq => hS.2.2 q hq) ?_
    refine W.widen (k := 601024) (n := 7293034) hN hM ?_
    rw [show Int32.ofInt 1 = 1 from by decide]
    exact lw_ret hx hb hr hlocks d_law_1208
  have hXo : am_Xok (some (L, xs)) b s (fun q : Nat => s.heap.size ≤ q) s.heap := by
    intro L' xs' h
    cases h
    exact ⟨by omega, hX, hbl, Nat.not_le.mpr hbl⟩
  have hin0 : ∀ q ∈ ([(0, (3, 0)), (1, (2, 0)), (2, (2, 1000)), (3, (2, 2000)), (4, (0, 0))] : am_L), am_in q.2 := by
    intro q hq
    simp only [List.mem_cons, List.not_mem_nil, or_false] at hq
    rcases hq with h | h | h | h | h <;> subst h
    · exact am_in2 (by decide)
    · exact am_in2 (by decide)
    · exact am_in2 (by decide)
    · exact am_in2 (by decide)
    · exact am_in0 (by unfold r32; decide)
  show W p l e room_1 s m #[Value.ref b] below meth c H locs 169 23727 (lw_Z below #[Value.ref b] s) (F0 m 23 ls [])
  exact lw_loop C2 hA hXo hZ ⟨(Nat.le_of_ble_eq_true rfl), (Nat.le_of_ble_eq_true rfl)⟩ hst hL ⟨(Nat.le_of_ble_eq_true rfl), (Nat.le_of_ble_eq_true rfl)⟩ hend 513 169 23727 0 am_i0 (GR_0 IN_i0) (by decide) (by omega) (by omega) (by decide) (by decide) H locs ls (lv_sub hl [4, 3, 2, 1, 0] rfl) hin0 (fun v hv => by cases hv) G_i0 hP hD hS (Nat.le_of_ble_eq_true rfl) (Nat.le_of_ble_eq_true rfl)
