/-! Telling: the words, then feeding, then the answer. -/
def tl_txt : List (Nat × Int64) → List Int32
  | [] => []
  | q :: r => wl q.2 ++ tl_txt r
def tl_ok (pc : Nat) : List (Nat × Int64) → Bool
  | [] => true
  | q :: r => decide (decode method_4_code pc = .ok (.aload_n 2, 1)) && (decide (decode method_4_code (pc + 1) = .ok (.iload_n 3, 1)) && (decide (decode method_4_code (pc + 2) = .ok (.ldc2_w q.1, 3)) && (decide (decode method_4_code (pc + 5) = .ok (.invokestatic 17, 3)) && (decide (decode method_4_code (pc + 8) = .ok (.istore_n 3, 1)) && tl_ok (pc + 9) r))))
def tl_r0 : List (Nat × Int64) := [(15, 8602275974911303735), (23, 4260536507807047798), (25, 3467836723351350380), (27, 7358946801700924261), (29, 8656041003710750779), (31, 127961762439289), (33, 120325445787707), (35, 465558577267), (37, 8029464471635763243), (39, 8583925900347140462), (41, 8295737660709806193), (43, 4260513504063004784), (45, 4260518950148055153), (47, 11857348681998457), (49, 4260513452422602855), (51, 4260533209254928506), (53, 122519904657467), (55, 127961762439275), (33, 120325445787707), (57, 7594793530505830519), (59, 16642673556594785), (61, 7885648415146319931), (63, 111516466880571), (65, 465558577249), (67, 7885648415142715451), (69, 465558577261), (71, 7885648415142518843), (73, 115887352193083), (75, 7094702605308076091), (63, 111516466880571), (77, 435643752507), (77, 435643752507), (79, 465558577250), (81, 8029464471631372347), (83, 7161124094151630945), (85, 7070758562065162299), (87, 7451617235169321005), (89, 3684009505465134188), (91, 7503061989776780133), (93, 7935465063331471419), (95, 128056218755182), (97, 7021991901363380283), (99, 115887351734331), (101, 465558577262), (103, 8029464471635107885), (105, 3539894317405531244), (107, 7503118064552190068), (109, 4260516763959369787), (111, 465558577268), (113, 8029464471635107899), (77, 435643752507), (115, 7451617235169452075), (117, 3219515)]
theorem tl_r0_c : ∀ z ∈ tl_r0, Cond.constantLong "BurningSlipsLaw" z.1 z.2 ∈ am_tG := List.forall_mem_cons.mpr ⟨(am_mem_t (g_mem3 80 rfl) rfl), List.forall_mem_cons.mpr ⟨(am_mem_t (g_mem3 85 rfl) rfl), List.forall_mem_cons.mpr ⟨(am_mem_t (g_mem3 86 rfl) rfl), List.forall_mem_cons.mpr ⟨(am_mem_t (g_mem3 87 rfl) rfl), List.forall_mem_cons.mpr ⟨(am_mem_t (g_mem3 88 rfl) rfl), List.forall_mem_cons.mpr ⟨(am_mem_t (g_mem3 89 rfl) rfl), List.forall_mem_cons.mpr ⟨(am_mem_t (g_mem3 90 rfl) rfl), List.forall_mem_cons.mpr ⟨(am_mem_t (g_mem3 91 rfl) rfl), List.forall_mem_cons.mpr ⟨(am_mem_t (g_mem3 92 rfl) rfl), List.forall_mem_cons.mpr ⟨(am_mem_t (g_mem3 93 rfl) rfl), List.forall_mem_cons.mpr ⟨(am_mem_t (g_mem3 94 rfl) rfl), List.forall_mem_cons.mpr ⟨(am_mem_t (g_mem3 95 rfl) rfl), List.forall_mem_cons.mpr ⟨(am_mem_t (g_mem3 96 rfl) rfl), List.forall_mem_cons.mpr ⟨(am_mem_t (g_mem3 97 rfl) rfl), List.forall_mem_cons.mpr ⟨(am_mem_t (g_mem3 98 rfl) rfl), List.forall_mem_cons.mpr ⟨(am_mem_t (g_mem3 99 rfl) rfl), List.forall_mem_cons.mpr ⟨(am_mem_t (g_mem3 100 rfl) rfl), List.forall_mem_cons.mpr ⟨(am_mem_t (g_mem3 101 rfl) rfl), List.forall_mem_cons.mpr ⟨(am_mem_t (g_mem3 90 rfl) rfl), List.forall_mem_cons.mpr ⟨(am_mem_t (g_mem3 102 rfl) rfl), List.forall_mem_cons.mpr ⟨(am_mem_t (g_mem3 103 rfl) rfl), List.forall_mem_cons.mpr ⟨(am_mem_t (g_mem3 104 rfl) rfl), List.forall_mem_cons.mpr ⟨(am_mem_t (g_mem3 105 rfl) rfl), List.forall_mem_cons.mpr ⟨(am_mem_t (g_mem3 106 rfl) rfl), List.forall_mem_cons.mpr ⟨(am_mem_t (g_mem3 107 rfl) rfl), List.forall_mem_cons.mpr ⟨(am_mem_t (g_mem3 108 rfl) rfl), List.forall_mem_cons.mpr ⟨(am_mem_t (g_mem3 109 rfl) rfl), List.forall_mem_cons.mpr ⟨(am_mem_t (g_mem3 110 rfl) rfl), List.forall_mem_cons.mpr ⟨(am_mem_t (g_mem3 111 rfl) rfl), List.forall_mem_cons.mpr ⟨(am_mem_t (g_mem3 105 rfl) rfl), List.forall_mem_cons.mpr ⟨(am_mem_t (g_mem3 112 rfl) rfl), List.forall_mem_cons.mpr ⟨(am_mem_t (g_mem3 112 rfl) rfl), List.forall_mem_cons.mpr ⟨(am_mem_t (g_mem3 113 rfl) rfl), List.forall_mem_cons.mpr ⟨(am_mem_t (g_mem3 114 rfl) rfl), List.forall_mem_cons.mpr ⟨(am_mem_t (g_mem3 115 rfl) rfl), List.forall_mem_cons.mpr ⟨(am_mem_t (g_mem3 116 rfl) rfl), List.forall_mem_cons.mpr ⟨(am_mem_t (g_mem3 117 rfl) rfl), List.forall_mem_cons.mpr ⟨(am_mem_t (g_mem3 118 rfl) rfl), List.forall_mem_cons.mpr ⟨(am_mem_t (g_mem3 119 rfl) rfl), List.forall_mem_cons.mpr ⟨(am_mem_t (g_mem3 120 rfl) rfl), List.forall_mem_cons.mpr ⟨(am_mem_t (g_mem3 121 rfl) rfl), List.forall_mem_cons.mpr ⟨(am_mem_t (g_mem3 122 rfl) rfl), List.forall_mem_cons.mpr ⟨(am_mem_t (g_mem3 123 rfl) rfl), List.forall_mem_cons.mpr ⟨(am_mem_t (g_mem3 124 rfl) rfl), List.forall_mem_cons.mpr ⟨(am_mem_t (g_mem3 125 rfl) rfl), List.forall_mem_cons.mpr ⟨(am_mem_t (g_mem3 126 rfl) rfl), List.forall_mem_cons.mpr ⟨(am_mem_t (g_mem3 127 rfl) rfl), List.forall_mem_cons.mpr ⟨(am_mem_t (g_mem3 128 rfl) rfl), List.forall_mem_cons.mpr ⟨(am_mem_t (g_mem3 129 rfl) rfl), List.forall_mem_cons.mpr ⟨(am_mem_t (g_mem3 130 rfl) rfl), List.forall_mem_cons.mpr ⟨(am_mem_t (g_mem3 112 rfl) rfl), List.forall_mem_cons.mpr ⟨(am_mem_t (g_mem3 131 rfl) rfl), List.forall_mem_cons.mpr ⟨(am_mem_t (g_mem3 132 rfl) rfl), fun _ h => absurd h List.not_mem_nil⟩⟩⟩⟩⟩⟩⟩⟩⟩⟩⟩⟩⟩⟩⟩⟩⟩⟩⟩⟩⟩⟩⟩⟩⟩⟩⟩⟩⟩⟩⟩⟩⟩⟩⟩⟩⟩⟩⟩⟩⟩⟩⟩⟩⟩⟩⟩⟩⟩⟩⟩⟩⟩
set_option maxRecDepth 20000 in
theorem tl_r0_o : tl_ok 12 tl_r0 = true := by decide +kernel
def tl_r1 : List (Nat × Int64) := [(119, 7091318299928043579), (121, 127961762439285), (33, 120325445787707), (123, 127961762439286), (33, 120325445787707), (65, 465558577249), (125, 7885648415146975275), (127, 33249485570991476), (129, 7070771740417466465), (131, 16642673556594787), (133, 7885648415147040810), (135, 14109187154666868), (137, 7214886928493322338), (139, 185226960955), (141, 7451617235168403515), (143, 7091318299928109115), (145, 127961762439288), (53, 122519904657467), (147, 7451617235169714219), (149, 8655983494082161772), (151, 8223637930156059493), (153, 8439866027138097211), (155, 465558577253), (125, 7885648415146975275), (157, 13827712177956212), (159, 7359002116569178229), (161, 185227092027), (163, 465558577255), (165, 7885648415145926701), (167, 7358946801483347557), (169, 29027292200443963)]
theorem tl_r1_c : ∀ z ∈ tl_r1, Cond.constantLong "BurningSlipsLaw" z.1 z.2 ∈ am_tG := List.forall_mem_cons.mpr ⟨(am_mem_t (g_mem3 133 rfl) rfl), List.forall_mem_cons.mpr ⟨(am_mem_t (g_mem3 134 rfl) rfl), List.forall_mem_cons.mpr ⟨(am_mem_t (g_mem3 90 rfl) rfl), List.forall_mem_cons.mpr ⟨(am_mem_t (g_mem3 135 rfl) rfl), List.forall_mem_cons.mpr ⟨(am_mem_t (g_mem3 90 rfl) rfl), List.forall_mem_cons.mpr ⟨(am_mem_t (g_mem3 106 rfl) rfl), List.forall_mem_cons.mpr ⟨(am_mem_t (g_mem3 136 rfl) rfl), List.forall_mem_cons.mpr ⟨(am_mem_t (g_mem3 137 rfl) rfl), List.forall_mem_cons.mpr ⟨(am_mem_t (g_mem3 138 rfl) rfl), List.forall_mem_cons.mpr ⟨(am_mem_t (g_mem3 139 rfl) rfl), List.forall_mem_cons.mpr ⟨(am_mem_t (g_mem3 140 rfl) rfl), List.forall_mem_cons.mpr ⟨(am_mem_t (g_mem3 141 rfl) rfl), List.forall_mem_cons.mpr ⟨(am_mem_t (g_mem3 142 rfl) rfl), List.forall_mem_cons.mpr ⟨(am_mem_t (g_mem3 143 rfl) rfl), List.forall_mem_cons.mpr ⟨(am_mem_t (g_mem3 144 rfl) rfl), List.forall_mem_cons.mpr ⟨(am_mem_t (g_mem3 145 rfl) rfl), List.forall_mem_cons.mpr ⟨(am_mem_t (g_mem3 146 rfl) rfl), List.forall_mem_cons.mpr ⟨(am_mem_t (g_mem3 100 rfl) rfl), List.forall_mem_cons.mpr ⟨(am_mem_t (g_mem3 147 rfl) rfl), List.forall_mem_cons.mpr ⟨(am_mem_t (g_mem3 148 rfl) rfl), List.forall_mem_cons.mpr ⟨(am_mem_t (g_mem3 149 rfl) rfl), List.forall_mem_cons.mpr ⟨(am_mem_t (g_mem3 150 rfl) rfl), List.forall_mem_cons.mpr ⟨(am_mem_t (g_mem3 151 rfl) rfl), List.forall_mem_cons.mpr ⟨(am_mem_t (g_mem3 136 rfl) rfl), List.forall_mem_cons.mpr ⟨(am_mem_t (g_mem3 152 rfl) rfl), List.forall_mem_cons.mpr ⟨(am_mem_t (g_mem3 153 rfl) rfl), List.forall_mem_cons.mpr ⟨(am_mem_t (g_mem3 154 rfl) rfl), List.forall_mem_cons.mpr ⟨(am_mem_t (g_mem3 155 rfl) rfl), List.forall_mem_cons.mpr ⟨(am_mem_t (g_mem3 156 rfl) rfl), List.forall_mem_cons.mpr ⟨(am_mem_t (g_mem3 157 rfl) rfl), List.forall_mem_cons.mpr ⟨(am_mem_t (g_mem3 158 rfl) rfl), fun _ h => absurd h List.not_mem_nil⟩⟩⟩⟩⟩⟩⟩⟩⟩⟩⟩⟩⟩⟩⟩⟩⟩⟩⟩⟩⟩⟩⟩⟩⟩⟩⟩⟩⟩⟩⟩
set_option maxRecDepth 20000 in
theorem tl_r1_o : tl_ok 497 tl_r1 = true := by decide +kernel
def tl_r2 : List (Nat × Int64) := [(171, 8602275974909993011), (173, 65010276068460), (175, 122520056963131), (177, 7451617235168337979)]
theorem tl_r2_c : ∀ z ∈ tl_r2, Cond.constantLong "BurningSlipsLaw" z.1 z.2 ∈ am_tG := List.forall_mem_cons.mpr ⟨(am_mem_t (g_mem3 159 rfl) rfl), List.forall_mem_cons.mpr ⟨(am_mem_t (g_mem3 160 rfl) rfl), List.forall_mem_cons.mpr ⟨(am_mem_t (g_mem3 161 rfl) rfl), List.forall_mem_cons.mpr ⟨(am_mem_t (g_mem3 162 rfl) rfl), fun _ h => absurd h List.not_mem_nil⟩⟩⟩⟩
set_option maxRecDepth 20000 in
theorem tl_r2_o : tl_ok 779 tl_r2 = true := by decide +kernel
theorem wl_len (v : Int64) : (wl v).length ≤ 9 := by
  unfold wl
  rw [List.length_append]
  have := wb_len v 8
  show (wb v 8).length + 1 ≤ 9
  omega
section TL
variable {p : Program} {l : Launch} {e : Env} {R : Room} {s : State} {m : MethodId} {args : Array Value} {below : List Frame} {meth : Method} {c : Code} {H : Heap} {locs : List Loc} {cells slots : Nat} {Q : State → Prop}
variable {dC : Nat → ClassId} {dI : Nat → Nat → Nat} {cT : Nat → ClassId} {A : Nat → Prop} {H0 : Heap}
theorem tl_step (C0 : am_cx p s m args c method_4_code 4 "BurningSlipsLaw" [] [] [] dC dI cT) (hA : ∀ q : Nat, H0.size ≤ q → A q) (hR : 2 ≤ R.frames ∧ 66 ≤ R.locals ∧ cells ≤ R.cells ∧ slots ≤ R.slots) {wr : va_W} {q b0 : Nat} {w : Int32} {T : List Int32} {F : Nat → Int32} (hT : PT T F) (hn : T.length + 9 ≤ 950) (hP : va_P (dC, dI) g_cl (wr ++ [(q, .inl (cT 0, (950, .inl F)))]) H) (hD : va_D A (wr ++ [(q, .inl (cT 0, (950, .inl F)))])) (hS : va_S A H0 H locs) {larr : Array Slot} (hl : lv_has larr 4 [(3, .int (Int32.ofInt (T.length : Int))), (2, .ref q), (0, .ref b0), (1, .int w)]) {pc idx : Nat} {v : Int64} (hc : Cond.constantLong "BurningSlipsLaw" idx v ∈ am_tG) (d0 : decode method_4_code pc = .ok (.aload_n 2, 1)) (d1 : decode method_4_code (pc + 1) = .ok (.iload_n 3, 1)) (d2 : decode method_4_code (pc + 2) = .ok (.ldc2_w idx, 3)) (d3 : decode method_4_code (pc + 5) = .ok (.invokestatic 17, 3)) (d4 : decode method_4_code (pc + 8) = .ok (.istore_n 3, 1))
    (kk : ∀ (F : Nat → Int32) (H : Heap) (locs : List Loc) (larr : Array Slot), PT (T ++ wl v) F → va_P (dC, dI) g_cl (wr ++ [(q, .inl (cT 0, (950, .inl F)))]) H → va_D A (wr ++ [(q, .inl (cT 0, (950, .inl F)))]) → va_S A H0 H locs → lv_has larr 4 [(3, .int (Int32.ofInt ((T ++ wl v).length : Int))), (2, .ref q), (0, .ref b0), (1, .int w)] → W p l e R s m args below meth c H locs cells slots Q (F0 m (pc + 9) larr [])) : W p l e R s m args below meth c H locs cells slots Q (F0 m pc larr []) := by
  obtain ⟨hx, hb, hmx, hown, hts, hNW, hK, -⟩ := id C0
  refine lv_aload_n hx hb d0 rfl (lv_at hl 1 rfl) ?_
  refine lv_iload_n hx hb d1 rfl (lv_at hl 0 rfl) ?_
  refine lv_ldc2 (v := v) hx hb hown (hts _ hc) d2 ?_
  refine gs_calli C0 hA (wo := fun F => [(q, .inl (cT 0, (950, .inl F)))]) hP hD hS (word_m l dC dI cT q v T F hT hn H.size) (idx := 17) (n := 3) (pc := pc + 1 + 1 + 3) (am_mem_t (g_mem3 81 rfl) rfl) (am_mem_t (g_mem3 82 rfl) rfl) (am_mem_t (g_mem3 83 rfl) rfl) (am_mem_t (g_mem1 0 rfl) rfl) ⟨by decide, by decide, by decide +kernel⟩ rfl ⟨hR.1, hR.2.1⟩ ⟨hR.2.2.1, hR.2.2.2⟩ d3 hl.1 rfl (Nat.le_of_ble_eq_true rfl) (fun H locs r F hp hP hD hS => ?_)
  obtain ⟨rfl, hT'⟩ := hp
  refine lv_istore_n hx hb d4 rfl hl (by decide) rfl (fun larr hl => ?_)
  exact kk F H locs larr hT' hP hD hS hl
set_option maxRecDepth 20000 in
theorem tl_walk (C0 : am_cx p s m args c method_4_code 4 "BurningSlipsLaw" [] [] [] dC dI cT) (hA : ∀ q : Nat, H0.size ≤ q → A q) (hR : 2 ≤ R.frames ∧ 66 ≤ R.locals ∧ cells ≤ R.cells ∧ slots ≤ R.slots) {wr : va_W} {q b0 : Nat} {w : Int32} : ∀ (rows : List (Nat × Int64)) (pc : Nat) (T : List Int32) (F : Nat → Int32) (H : Heap) (locs : List Loc) (larr : Array Slot), tl_ok pc rows = true → (∀ z ∈ rows, Cond.constantLong "BurningSlipsLaw" z.1 z.2 ∈ am_tG) → T.length + 9 * rows.length ≤ 950 → PT T F → va_P (dC, dI) g_cl (wr ++ [(q, .inl (cT 0, (950, .inl F)))]) H → va_D A (wr ++ [(q, .inl (cT 0, (950, .inl F)))]) → va_S A H0 H locs → lv_has larr 4 [(3, .int (Int32.ofInt (T.length : Int))), (2, .ref q), (0, .ref b0), (1, .int w)] →
    (∀ (F : Nat → Int32) (H : Heap) (locs : List Loc) (larr : Array Slot), PT (T ++ tl_txt rows) F → va_P (dC, dI) g_cl (wr ++ [(q, .inl (cT 0, (950, .inl F)))]) H → va_D A (wr ++ [(q, .inl (cT 0, (950, .inl F)))]) → va_S A H0 H locs → lv_has larr 4 [(3, .int (Int32.ofInt ((T ++ tl_txt rows).length : Int))), (2, .ref q), (0, .ref b0), (1, .int w)] → W p l e R s m args below meth c H locs cells slots Q (F0 m (pc + 9 * rows.length) larr [])) → W p l e R s m args below meth c H locs cells slots Q (F0 m pc larr [])
  | [], pc, T, F, H, locs, larr, _, _, _, hT, hP, hD, hS, hl, kk => by
    have e0 : T ++ tl_txt [] = T := List.append_nil T
    rw [e0] at kk
    exact kk F H locs larr hT hP hD hS hl
  | z :: rows, pc, T, F, H, locs, larr, hok, hc, hn, hT, hP, hD, hS, hl, kk => by
    have hn : T.length + 9 * (rows.length + 1) ≤ 950 := hn
    unfold tl_ok at hok
    simp only [Bool.and_eq_true, decide_eq_true_eq] at hok
    obtain ⟨d0, d1, d2, d3, d4, hok⟩ := hok
    refine tl_step C0 hA hR hT (by omega) hP hD hS hl (hc z List.mem_cons_self) d0 d1 d2 d3 d4 (fun F H locs larr hT hP hD hS hl => ?_)
    refine tl_walk C0 hA hR rows (pc + 9) (T ++ wl z.2) F H locs larr hok (fun y hy => hc y (List.mem_cons_of_mem _ hy)) ?_ hT hP hD hS hl ?_
    · rw [List.length_append]
      have := wl_len z.2
      omega
    · have e1 : T ++ wl z.2 ++ tl_txt rows = T ++ tl_txt (z :: rows) := List.append_assoc _ _ _
      rw [e1, show pc + 9 + 9 * rows.length = pc + 9 * (z :: rows).length by rw [List.length_cons]; omega]
      exact kk
end TL
/-- what is fed, as a tree says it -/
def fw_ok (T : List Int32) : e_T → Bool
  | .leaf x => decide (x % 340282366920938463463374607431768211456 = 0) || (decide (0 < x % 340282366920938463463374607431768211456 ∧ x % 340282366920938463463374607431768211456 < 1180591620717411303424) && ((decide (x / 340282366920938463463374607431768211456 = 10242) && decide (x % 340282366920938463463374607431768211456 = 9223372036854775810)) || ((decide (3072000 ≤ x / 340282366920938463463374607431768211456 ∧ x / 340282366920938463463374607431768211456 < 3072000 + T.length ∧ x / 340282366920938463463374607431768211456 < 3073024) && decide (((x % 340282366920938463463374607431768211456 : Nat) : Int) = 9223372036854775810 + (T.getD (x / 340282366920938463463374607431768211456 - 3072000) 0).toInt)) || (decide (3082240 ≤ x / 340282366920938463463374607431768211456 ∧ x / 340282366920938463463374607431768211456 < 3083264) && decide (x % 340282366920938463463374607431768211456 = 9223372036854775810)))))
  | .branch _ a b => fw_ok T a && fw_ok T b
theorem fw_s {T : List Int32} {F : Nat → Int32} {μ : am_M} (hT : PT T F) (h1 : μ 10 2 = 0) (h2 : ∀ i : Nat, μ 3000 i = (F i).toInt) (h3 : ∀ i : Nat, μ 3010 i = 0) : ∀ t : e_T, fw_ok T t = true → eKL 0 μ t
  | .leaf x, h => by
    unfold fw_ok at h
    simp only [Bool.and_eq_true, Bool.or_eq_true, decide_eq_true_eq] at h
    show x % 340282366920938463463374607431768211456 = 0 ∨ vr 0 (x % 340282366920938463463374607431768211456 - 1) (μ ((x / 340282366920938463463374607431768211456 / 1024 : Nat) : Int) ((x / 340282366920938463463374607431768211456 % 1024 : Nat) : Int))
    generalize x % 340282366920938463463374607431768211456 = v at h ⊢
    generalize x / 340282366920938463463374607431768211456 = k at h ⊢
    rcases h with h | ⟨⟨p0, p1⟩, ⟨q1, q2⟩ | ⟨⟨q1, q2, q3⟩, q4⟩ | ⟨⟨q1, q2⟩, q3⟩⟩
    · exact Or.inl h
    · subst q1
      subst q2
      refine Or.inr (vr_k (by decide) ?_)
      exact h1.trans (by decide)
    · refine Or.inr (vr_k (by omega) ?_)
      have e1 : k / 1024 = 3000 := by omega
      have e2 : k % 1024 = k - 3072000 := by omega
      rw [e1, e2]
      refine (h2 (k - 3072000)).trans ?_
      rw [hT (k - 3072000) (by omega)]
      omega
    · refine Or.inr (vr_k (by omega) ?_)
      have e1 : k / 1024 = 3010 := by omega
      rw [e1]
      refine (h3 (k % 1024)).trans ?_
      omega
  | .branch _ a b, h => by
    unfold fw_ok at h
    rw [Bool.and_eq_true] at h
    exact ⟨fw_s hT h1 h2 h3 a h.1, fw_s hT h1 h2 h3 b h.2⟩
def tl_t0 : List Int32 := [119, 97, 108, 108, 32, 119, 32, 55, 32, 59, 32, 119, 97, 108, 108, 32, 118, 32, 48, 32, 59, 32, 98, 105, 108, 108, 32, 102, 32, 59, 32, 116, 97, 107, 101, 32, 120, 32, 111, 110, 99, 101, 32, 59, 32, 116, 97, 107, 101, 32, 121, 32, 109, 111, 115, 116, 32, 59, 32, 108, 101, 116, 32, 115, 32, 111, 110, 99, 101, 32, 120, 32, 43, 32, 119, 32, 59, 32, 116, 119, 105, 110, 32, 115, 32, 97, 115, 32, 112, 32, 113, 32, 59, 32, 98, 117, 114, 110, 32, 112, 32, 59, 32, 103, 105, 118, 101, 32, 113, 32, 42, 32, 50, 32, 43, 32, 121, 32, 59, 32, 98, 105, 108, 108, 32, 103, 32, 59, 32, 116, 97, 107, 101, 32, 122, 32, 111, 110, 99, 101, 32, 59, 32, 116, 97, 107, 101, 32, 107, 32, 109, 111, 115, 116, 32, 59, 32, 105, 102, 32, 122, 32, 60, 32, 119, 32, 59, 32, 108, 101, 116, 32, 97, 32, 109, 111, 115, 116, 32, 107, 32, 59, 32, 101, 108, 115, 101, 32, 59, 32, 108, 101, 116, 32, 97, 32, 109, 111, 115, 116, 32, 52, 32, 59, 32, 108, 101, 116, 32, 109, 32, 109, 111, 115, 116, 32, 49, 32, 59, 32, 105, 102, 32, 118, 32, 59, 32, 98, 117, 114, 110, 32, 109, 32, 59, 32, 101, 108, 115, 101, 32, 59, 32, 101, 110, 100, 32, 59, 32, 101, 110, 100, 32, 59, 32, 108, 101, 116, 32, 98, 32, 111, 110, 99, 101, 32, 53, 32, 59, 32, 99, 97, 108, 108, 32, 102, 32, 97, 32, 98, 32, 97, 115, 32, 114, 32, 59, 32, 103, 105, 118, 101, 32, 114, 32, 45, 32, 51, 32, 59, 32, 98, 105, 108, 108, 32, 104, 32, 59, 32, 116, 97, 107, 101, 32, 110, 32, 111, 110, 99, 101, 32, 59, 32, 116, 119, 105, 110, 32, 110, 32, 97, 115, 32, 110, 32, 111, 32, 59, 32, 105, 102, 32, 111, 32, 59, 32, 108, 101, 116, 32, 110, 32, 111, 110, 99, 101, 32, 110, 32, 45, 32, 49, 32, 59, 32, 99, 97, 108, 108, 32, 104, 32, 110, 32, 97, 115, 32, 116, 32, 59, 32, 101, 108, 115, 101, 32, 59, 32, 108, 101, 116, 32, 116, 32, 111, 110, 99, 101, 32, 110, 32, 59, 32, 101, 110, 100, 32, 59, 32, 103, 105, 118, 101, 32, 116, 32, 43, 32, 49, 32, 59, 32]
set_option maxRecDepth 20000 in
theorem tl_t0_e : tl_txt tl_r0 = tl_t0 := by decide +kernel
set_option maxRecDepth 20000 in
theorem tl_t0_f : fw_ok tl_t0 FW_0 = true := by decide +kernel
def tl_t1 : List Int32 := [98, 105, 108, 108, 32, 112, 32, 59, 32, 116, 97, 107, 101, 32, 117, 32, 109, 111, 115, 116, 32, 59, 32, 116, 97, 107, 101, 32, 118, 32, 109, 111, 115, 116, 32, 59, 32, 108, 101, 116, 32, 97, 32, 109, 111, 115, 116, 32, 117, 32, 43, 32, 118, 32, 59, 32, 108, 101, 116, 32, 98, 32, 109, 111, 115, 116, 32, 97, 32, 59, 32, 108, 101, 116, 32, 99, 32, 109, 111, 115, 116, 32, 118, 32, 42, 32, 50, 32, 59, 32, 108, 101, 116, 32, 100, 32, 109, 111, 115, 116, 32, 98, 32, 43, 32, 99, 32, 59, 32, 103, 105, 118, 101, 32, 100, 32, 59, 32, 98, 105, 108, 108, 32, 113, 32, 59, 32, 116, 97, 107, 101, 32, 120, 32, 111, 110, 99, 101, 32, 59, 32, 103, 105, 118, 101, 32, 120, 32, 43, 32, 120, 32, 59, 32, 98, 105, 108, 108, 32, 114, 32, 59, 32, 116, 97, 107, 101, 32, 117, 32, 109, 111, 115, 116, 32, 59, 32, 108, 101, 116, 32, 101, 32, 109, 111, 115, 116, 32, 117, 32, 43, 32, 49, 32, 59, 32, 108, 101, 116, 32, 102, 32, 109, 111, 115, 116, 32, 117, 32, 43, 32, 101, 32, 59, 32, 108, 101, 116, 32, 103, 32, 109, 111, 115, 116, 32, 101, 32, 45, 32, 102, 32, 59, 32, 103, 105, 118, 101, 32, 103, 32, 43, 32, 102, 32, 59, 32]
set_option maxRecDepth 20000 in
theorem tl_t1_e : tl_txt tl_r1 = tl_t1 := by decide +kernel
set_option maxRecDepth 20000 in
theorem tl_t1_f : fw_ok tl_t1 FW_1 = true := by decide +kernel
def tl_t2 : List Int32 := [119, 97, 108, 108, 32, 99, 32, 51, 32, 59, 32, 98, 105, 108, 108, 32, 111, 110, 108, 121, 32, 59, 32, 103, 105, 118, 101, 32, 99, 32, 59, 32]
set_option maxRecDepth 20000 in
theorem tl_t2_e : tl_txt tl_r2 = tl_t2 := by decide +kernel
set_option maxRecDepth 20000 in
theorem tl_t2_f : fw_ok tl_t2 FW_2 = true := by decide +kernel
