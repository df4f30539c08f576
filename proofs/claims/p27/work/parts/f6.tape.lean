/-! The Tape's constructor: its table of reserved words out of one text. -/
def y_i7 : MethodName := ⟨"BurningSlips$Tape", "<init>", "()V"⟩
theorem d_i7_0 : decode prog_9_method_1_code 0 = .ok (.aload_n 0, 1) := by decide +kernel
theorem d_i7_1 : decode prog_9_method_1_code 1 = .ok (.invokespecial 3, 3) := by decide +kernel
theorem d_i7_4 : decode prog_9_method_1_code 4 = .ok (.aload_n 0, 1) := by decide +kernel
theorem d_i7_5 : decode prog_9_method_1_code 5 = .ok (.sipush 1000, 3) := by decide +kernel
theorem d_i7_8 : decode prog_9_method_1_code 8 = .ok (.newarray .int, 2) := by decide +kernel
theorem d_i7_10 : decode prog_9_method_1_code 10 = .ok (.putfield 9, 3) := by decide +kernel
theorem d_i7_13 : decode prog_9_method_1_code 13 = .ok (.aload_n 0, 1) := by decide +kernel
theorem d_i7_14 : decode prog_9_method_1_code 14 = .ok (.ldc 15, 2) := by decide +kernel
theorem d_i7_16 : decode prog_9_method_1_code 16 = .ok (.invokevirtual 17, 3) := by decide +kernel
theorem d_i7_19 : decode prog_9_method_1_code 19 = .ok (.iconst 4, 1) := by decide +kernel
theorem d_i7_20 : decode prog_9_method_1_code 20 = .ok (.idiv, 1) := by decide +kernel
theorem d_i7_21 : decode prog_9_method_1_code 21 = .ok (.newarray .long, 2) := by decide +kernel
theorem d_i7_23 : decode prog_9_method_1_code 23 = .ok (.putfield 23, 3) := by decide +kernel
theorem d_i7_26 : decode prog_9_method_1_code 26 = .ok (.iconst 0, 1) := by decide +kernel
theorem d_i7_27 : decode prog_9_method_1_code 27 = .ok (.istore_n 1, 1) := by decide +kernel
theorem d_i7_28 : decode prog_9_method_1_code 28 = .ok (.iload_n 1, 1) := by decide +kernel
theorem d_i7_29 : decode prog_9_method_1_code 29 = .ok (.aload_n 0, 1) := by decide +kernel
theorem d_i7_30 : decode prog_9_method_1_code 30 = .ok (.getfield 23, 3) := by decide +kernel
theorem d_i7_33 : decode prog_9_method_1_code 33 = .ok (.arraylength, 1) := by decide +kernel
theorem d_i7_34 : decode prog_9_method_1_code 34 = .ok (.if_icmp .ge 75, 3) := by decide +kernel
theorem d_i7_37 : decode prog_9_method_1_code 37 = .ok (.lconst 0, 1) := by decide +kernel
theorem d_i7_38 : decode prog_9_method_1_code 38 = .ok (.lstore_n 2, 1) := by decide +kernel
theorem d_i7_39 : decode prog_9_method_1_code 39 = .ok (.iload_n 1, 1) := by decide +kernel
theorem d_i7_40 : decode prog_9_method_1_code 40 = .ok (.iconst 4, 1) := by decide +kernel
theorem d_i7_41 : decode prog_9_method_1_code 41 = .ok (.imul, 1) := by decide +kernel
theorem d_i7_42 : decode prog_9_method_1_code 42 = .ok (.istore 4, 2) := by decide +kernel
theorem d_i7_44 : decode prog_9_method_1_code 44 = .ok (.iload 4, 2) := by decide +kernel
theorem d_i7_46 : decode prog_9_method_1_code 46 = .ok (.istore 5, 2) := by decide +kernel
theorem d_i7_48 : decode prog_9_method_1_code 48 = .ok (.iload 5, 2) := by decide +kernel
theorem d_i7_50 : decode prog_9_method_1_code 50 = .ok (.iload 4, 2) := by decide +kernel
theorem d_i7_52 : decode prog_9_method_1_code 52 = .ok (.iconst 4, 1) := by decide +kernel
theorem d_i7_53 : decode prog_9_method_1_code 53 = .ok (.iadd, 1) := by decide +kernel
theorem d_i7_54 : decode prog_9_method_1_code 54 = .ok (.if_icmp .ge 42, 3) := by decide +kernel
theorem d_i7_57 : decode prog_9_method_1_code 57 = .ok (.iload 5, 2) := by decide +kernel
theorem d_i7_59 : decode prog_9_method_1_code 59 = .ok (.ldc 15, 2) := by decide +kernel
theorem d_i7_61 : decode prog_9_method_1_code 61 = .ok (.invokevirtual 17, 3) := by decide +kernel
theorem d_i7_64 : decode prog_9_method_1_code 64 = .ok (.if_icmp .ge 32, 3) := by decide +kernel
theorem d_i7_67 : decode prog_9_method_1_code 67 = .ok (.ldc 15, 2) := by decide +kernel
theorem d_i7_69 : decode prog_9_method_1_code 69 = .ok (.iload 5, 2) := by decide +kernel
theorem d_i7_71 : decode prog_9_method_1_code 71 = .ok (.invokevirtual 27, 3) := by decide +kernel
theorem d_i7_74 : decode prog_9_method_1_code 74 = .ok (.istore 6, 2) := by decide +kernel
theorem d_i7_76 : decode prog_9_method_1_code 76 = .ok (.iload 6, 2) := by decide +kernel
theorem d_i7_78 : decode prog_9_method_1_code 78 = .ok (.bipush 32, 2) := by decide +kernel
theorem d_i7_80 : decode prog_9_method_1_code 80 = .ok (.if_icmp .eq 10, 3) := by decide +kernel
theorem d_i7_83 : decode prog_9_method_1_code 83 = .ok (.lload_n 2, 1) := by decide +kernel
theorem d_i7_84 : decode prog_9_method_1_code 84 = .ok (.iload 6, 2) := by decide +kernel
theorem d_i7_86 : decode prog_9_method_1_code 86 = .ok (.invokestatic 31, 3) := by decide +kernel
theorem d_i7_89 : decode prog_9_method_1_code 89 = .ok (.lstore_n 2, 1) := by decide +kernel
theorem d_i7_90 : decode prog_9_method_1_code 90 = .ok (.iinc 5 1, 3) := by decide +kernel
theorem d_i7_93 : decode prog_9_method_1_code 93 = .ok (.goto (-45), 3) := by decide +kernel
theorem d_i7_96 : decode prog_9_method_1_code 96 = .ok (.aload_n 0, 1) := by decide +kernel
theorem d_i7_97 : decode prog_9_method_1_code 97 = .ok (.getfield 23, 3) := by decide +kernel
theorem d_i7_100 : decode prog_9_method_1_code 100 = .ok (.iload_n 1, 1) := by decide +kernel
theorem d_i7_101 : decode prog_9_method_1_code 101 = .ok (.lload_n 2, 1) := by decide +kernel
theorem d_i7_102 : decode prog_9_method_1_code 102 = .ok (.lastore, 1) := by decide +kernel
theorem d_i7_103 : decode prog_9_method_1_code 103 = .ok (.iinc 1 1, 3) := by decide +kernel
theorem d_i7_106 : decode prog_9_method_1_code 106 = .ok (.goto (-78), 3) := by decide +kernel
theorem d_i7_109 : decode prog_9_method_1_code 109 = .ok (.return_, 1) := by decide +kernel
def y_wl : MethodName := ⟨"BurningSlips$Tape", "withLetter", "(JI)J"⟩
theorem d_wl_0 : decode prog_9_method_8_code 0 = .ok (.lload_n 0, 1) := by decide +kernel
theorem d_wl_1 : decode prog_9_method_8_code 1 = .ok (.ldc2_w 89, 3) := by decide +kernel
theorem d_wl_4 : decode prog_9_method_8_code 4 = .ok (.lmul, 1) := by decide +kernel
theorem d_wl_5 : decode prog_9_method_8_code 5 = .ok (.iload_n 2, 1) := by decide +kernel
theorem d_wl_6 : decode prog_9_method_8_code 6 = .ok (.bipush 97, 2) := by decide +kernel
theorem d_wl_8 : decode prog_9_method_8_code 8 = .ok (.isub, 1) := by decide +kernel
theorem d_wl_9 : decode prog_9_method_8_code 9 = .ok (.iconst 1, 1) := by decide +kernel
theorem d_wl_10 : decode prog_9_method_8_code 10 = .ok (.iadd, 1) := by decide +kernel
theorem d_wl_11 : decode prog_9_method_8_code 11 = .ok (.i2l, 1) := by decide +kernel
theorem d_wl_12 : decode prog_9_method_8_code 12 = .ok (.ladd, 1) := by decide +kernel
theorem d_wl_13 : decode prog_9_method_8_code 13 = .ok (.lreturn, 1) := by decide +kernel
/-- what else a constructor wants of the world -/
def ct_PcE (Ex : (Nat → Prop) → State → Prop) (dC : Nat → ClassId) (dI : Nat → Nat → Nat) (cT : Nat → ClassId) (avs : List Value) (G : va_W) (sz : Nat) : Array Value → State → Prop := fun a U => ct_Pc dC dI cT avs G sz a U ∧ Ex (va_A G sz) U
theorem ct_blindE {Ex : (Nat → Prop) → State → Prop} (hEx : ∀ (A : Nat → Prop) (U U' : State), U'.vm = U.vm → U'.heap = U.heap → Ex A U → Ex A U') {dC : Nat → ClassId} {dI : Nat → Nat → Nat} {cT : Nat → ClassId} {avs : List Value} {G : va_W} {sz : Nat} : FrameBlind (ct_PcE Ex dC dI cT avs G sz) := by
  intro a U g mk q
  exact ⟨ct_blind a U g mk q.1, hEx _ U _ rfl rfl q.2⟩
theorem ct_metE (Ex : (Nat → Prop) → State → Prop) (l : Launch) (dC : Nat → ClassId) (dI : Nat → Nat → Nat) (cT : Nat → ClassId) {y : MethodName} {bytes : ByteArray} {maxL : Nat} (hp : plainName y.cls = true) (hnm : y.name = "<init>") {avs : List Value} {G : va_W} {L : List (Int × Nat × Nat)} {xs : List Int} {ad : Int → Nat} {μ : am_M} (hcat : (lg_sl avs).length ≤ maxL) (rm : Room) (sz : Nat)
    (body : ∀ (p : Program) (e : Env) (s : State) (m : MethodId) (args : Array Value) (below : List Frame) (meth : Method) (c : Code) (A : Nat → Prop) (larr : Array Slot), am_cx p s m args c bytes maxL y.cls [] [] [] dC dI cT → Ex A s → meth.name = "<init>" → meth.sig.returnType = none → meth.locks = false → (∀ q : Nat, s.heap.size ≤ q → A q) → va_P (dC, dI) g_cl G s.heap → va_D A G → lv_has larr maxL (lv_args 0 avs) → W p l e (headSpec (Cond.code y bytes maxL none :: am_tG) rm).room s m args below meth c s.heap [] 0 0 (MQ below (ct_Qc dC dI cT μ ad L xs A) args s rm.cells rm.slots A) (F0 m 0 larr [])) :
    Met l y (Cond.code y bytes maxL none :: am_tG) rm (ct_PcE Ex dC dI cT avs G sz) (ct_Qc dC dI cT μ ad L xs (va_A G sz)) rm.cells rm.slots (va_A G sz) := by
  refine Met.ofW (cc := bytes) (maxL := maxL) (ret := none) hp rfl ?_
  intro p e s m args below meth c s₁ B hmx hv
  obtain ⟨⟨rfl, hsz, ⟨hP, hK, hD0⟩, hN⟩, hE⟩ := hv
  have hts0 := atoms_spec (ws := Cond.code y bytes maxL none :: am_tG) B.pre
  subst hsz
  have hl2 := lv_entry avs (n := maxL) hcat
  rw [lg_entry_eq]
  generalize (lg_sl avs ++ List.replicate (maxL - (lg_sl avs).length) Slot.unset).toArray = larr at hl2 ⊢
  exact body p e s m avs.toArray below meth c _ larr ⟨B.exec, B.bytes, hmx, findClass_of_methodNamed B.named, fun w hw => hts0 w (List.mem_cons_of_mem _ hw), hN, hK, fun _ h => absurd h List.not_mem_nil, fun _ h => absurd h List.not_mem_nil, fun _ h => absurd h List.not_mem_nil⟩ hE ((name_of_methodNamed B.named B.method).1.trans hnm) B.returns B.notSynchronized (fun q h => Or.inr h) hP (hD0.self (sz := s.heap.size)) hl2
def tp_wl (w : Int64) (b : Int32) : Int64 := w * 32 + (b - 97 + 1).toInt64
def tp_lt (w : Int64) (b : Int32) : Int64 := if b = 32 then w else tp_wl w b
def js_Ql (v : Int64) (sz : Nat) : Array Value → State → Outcome → State → Prop := va_Ql (fun (r : Int64) (_ : Unit) => r = v) (fun _ _ => True) (fun q => sz ≤ q)
theorem js_wl (l : Launch) (sa sv sz : Nat) (w : Int64) (b : Int32) : Met l y_wl (Cond.code y_wl prog_9_method_8_code 3 (some .long) :: am_tG) { frames := 1, cells := 0, slots := 0, locals := 40 } (js_Pc [.long w, .int b] sa sv sz) (js_Ql (tp_wl w b) sz) 0 0 (fun q => sz ≤ q) := by
  refine js_met l (by decide) (Nat.le_of_ble_eq_true rfl) _ sz ?_
  intro p e s m args below meth c larr hsz hx hb hmx hown hts hr hlocks hZ hl
  subst hsz
  have hS : va_S (fun q : Nat => s.heap.size ≤ q) s.heap s.heap [] := va_S.rf
  refine lv_lload_n hx hb d_wl_0 rfl (lv_at hl 0 rfl) ?_
  refine lv_ldc2 hx hb hown (hts (.constantLong "BurningSlips$Tape" 89 32) (am_mem_t (g_mem1 88 rfl) rfl)) d_wl_1 ?_
  refine lv_lmul hx hb d_wl_4 ?_
  refine lv_iload_n hx hb d_wl_5 rfl (lv_at hl 1 rfl) ?_
  refine lv_bipush (v := 97) hx hb d_wl_6 (by decide) ?_
  refine lv_isub hx hb d_wl_8 ?_
  refine lv_iconst (v := 1) hx hb d_wl_9 rfl ?_
  refine lv_iadd hx hb d_wl_10 ?_
  refine lv_i2l hx hb d_wl_11 rfl ?_
  refine lv_ladd hx hb d_wl_12 ?_
  exact W.lret hx hb hr (fun t ht hW => ⟨⟨_, (), rfl, rfl, trivial⟩, hS.F ht⟩) hS.2.2 d_wl_13 hlocks
def tp_p (k d : Nat) : Int32 := Int32.ofNat (4 * k + d)
theorem tp_f1 : ∀ k : Fin 17, ∀ d : Fin 4, (¬ tp_p k 0 + 4 ≤ tp_p k d) ∧ (¬ (68 : Int32) ≤ tp_p k d) ∧ (¬ tp_p k d < 0) ∧ tp_p k d < 68 ∧ (tp_p k d).toNatClampNeg = 4 * k.val + d.val ∧ tp_p k d + Int32.ofInt 1 = tp_p k (d.val + 1) := by decide +kernel
theorem tp_f2 : ∀ k : Fin 17, (¬ (17 : Int32) ≤ Int32.ofNat k.val) ∧ Int32.ofNat k.val * 4 = tp_p k 0 ∧ tp_p k 0 + 4 ≤ tp_p k 4 ∧ vp_in (Int32.ofNat k.val) 17 ∧ (Int32.ofNat k.val).toNatClampNeg = k.val ∧ Int32.ofNat k.val + Int32.ofInt 1 = Int32.ofNat (k.val + 1) := by unfold vp_in; decide +kernel
theorem tp_f3 : ∀ i : Fin 68, (((js_by.getD i.val 0) &&& 255).toUInt32 % 65536).toInt32 = js_by.getD i.val 0 ∧ narrow .char (.int (js_by.getD i.val 0)) = .int (js_by.getD i.val 0) := by decide +kernel
def tp_w (k : Nat) : Nat → Int64
  | 0 => 0
  | d + 1 => tp_lt (tp_w k d) (js_by.getD (4 * k + d) 0)
theorem tp_f4 : ∀ k : Fin 17, tp_w k.val 4 = Int64.ofInt (am_i0 12 (k.val : Nat)) := by decide +kernel
def tp_F (k : Nat) : Nat → Int64 := fun j => if j < k then Int64.ofInt (am_i0 12 (j : Nat)) else 0
theorem tp_F0 : tp_F 0 = fun _ => 0 := funext fun j => if_neg (Nat.not_lt_zero j)
theorem tp_FS {k : Nat} (hk : k < 17) : vp_updL (tp_F k) k (tp_w k 4) = tp_F (k + 1) := by
  funext j
  have h4 : tp_w k 4 = Int64.ofInt (am_i0 12 (k : Nat)) := tp_f4 ⟨k, hk⟩
  unfold vp_updL tp_F
  by_cases e : j = k
  · subst e
    rw [if_pos rfl, if_pos (Nat.lt_succ_self j), h4]
  · rw [if_neg e]
    by_cases q : j < k
    · rw [if_pos q, if_pos (by omega)]
    · rw [if_neg q, if_neg (by omega)]
theorem tp_FN : tp_F 17 = fun j : Nat => Int64.ofInt (am_i0 12 (j : Nat)) := by
  funext j
  unfold tp_F
  by_cases q : j < 17
  · rw [if_pos q]
  · rw [if_neg q]
    unfold am_i0
    rw [if_neg (by decide), if_pos rfl, if_neg (by omega)]
    rfl
section TP
variable {p : Program} {l : Launch} {e : Env} {R : Room} {s : State} {m : MethodId} {args : Array Value} {below : List Frame} {meth : Method} {c : Code} {cells slots : Nat} {Q : State → Prop}
variable {dC : Nat → ClassId} {dI : Nat → Nat → Nat} {cT : Nat → ClassId} {A : Nat → Prop}
set_option maxRecDepth 20000 in
theorem tp_turn (C0 : am_cx p s m args c prog_9_method_1_code 7 "BurningSlips$Tape" [] [] [] dC dI cT) (hA : ∀ q : Nat, s.heap.size ≤ q → A q) {sa sv : Nat} (hZ : js_S sa sv A s s.heap) (hR : 6 ≤ R.frames ∧ 200 ≤ R.locals) (hroom : cells ≤ R.cells ∧ slots ≤ R.slots) {h0 k d : Nat} (hk : k < 17) (hd : d < 4) {H : Heap} {locs : List Loc} (hS : va_S A s.heap H locs) {w : Int64} {ls : Array Slot} (hl : lv_has ls 7 [(5, .int (tp_p k d)), (4, .int (tp_p k 0)), (2, .long w), (1, .int (Int32.ofNat k)), (0, .ref h0)])
    (kk : ∀ (H1 : Heap) (locs1 : List Loc) (ls1 : Array Slot), H.size ≤ H1.size → (∀ q : Nat, q < H.size → H1[q]? = H[q]?) → va_S A s.heap H1 locs1 → lv_has ls1 7 [(5, .int (tp_p k (d + 1))), (4, .int (tp_p k 0)), (2, .long (tp_lt w (js_by.getD (4 * k + d) 0))), (1, .int (Int32.ofNat k)), (0, .ref h0)] → W p l e R s m args below meth c H1 locs1 cells slots Q (F0 m 48 ls1 [])) : W p l e R s m args below meth c H locs cells slots Q (F0 m 48 ls []) := by
  obtain ⟨hx, hb, hmx, hown, hts, hNW, hK, -⟩ := id C0
  have S : CallFix p m c prog_9_method_1_code 7 s args am_tG "BurningSlips$Tape" := ⟨hx, hb, hmx, hown, hts⟩
  obtain ⟨f1, f2, f3, f4, f5, f6⟩ := tp_f1 ⟨k, hk⟩ ⟨d, hd⟩
  have f1 : ¬ tp_p k 0 + 4 ≤ tp_p k d := f1
  have f2 : ¬ (68 : Int32) ≤ tp_p k d := f2
  have f3 : ¬ tp_p k d < 0 := f3
  have f4 : tp_p k d < 68 := f4
  have f5 : (tp_p k d).toNatClampNeg = 4 * k + d := f5
  have f6 : tp_p k d + Int32.ofInt 1 = tp_p k (d + 1) := f6
  obtain ⟨g1, g2⟩ := tp_f3 ⟨4 * k + d, by omega⟩
  have g1 : (((js_by.getD (4 * k + d) 0) &&& 255).toUInt32 % 65536).toInt32 = js_by.getD (4 * k + d) 0 := g1
  have g2 : narrow .char (.int (js_by.getD (4 * k + d) 0)) = .int (js_by.getD (4 * k + d) 0) := g2
  refine lv_iload hx hb d_i7_48 (lv_at hl 0 rfl) ?_
  refine lv_iload hx hb d_i7_50 (lv_at hl 1 rfl) ?_
  refine lv_iconst (v := 4) hx hb d_i7_52 rfl ?_
  refine lv_iadd hx hb d_i7_53 ?_
  refine lv_icmp_ge (tgt := 96) hx hb d_i7_54 (by decide) (fun h => absurd h f1) (fun _ => ?_)
  refine lv_iload hx hb d_i7_57 (lv_at hl 0 rfl) ?_
  refine va_ldcS hx hb hown hZ.1 d_i7_59 ?_
  refine js_callV (n := 0) (idx := 17) (As := []) (rest := [.int (tp_p k d)]) S hA hS hZ (js_length l sa sv H.size) ⟨rfl, rfl⟩ rfl (am_mem_t (g_mem1 40 rfl) rfl) (am_mem_t (g_mem1 37 rfl) rfl) (am_mem_t (g_mem1 38 rfl) rfl) (am_mem_t (g_mem1 39 rfl) rfl) (by decide +kernel) rfl ⟨by have := hR.1; show 2 + 1 ≤ R.frames; omega, by have := hR.2; show 8 + (1 + 11) + 80 ≤ R.locals; omega⟩ hroom d_i7_61 hl.1 rfl (Nat.le_of_ble_eq_true rfl) (fun H1 locs1 hz1 hk1 hS1 => ?_)
  refine lv_icmp_ge (tgt := 96) hx hb d_i7_64 (by decide) (fun h => absurd h f2) (fun _ => ?_)
  refine va_ldcS hx hb hown hZ.1 d_i7_67 ?_
  refine lv_iload hx hb d_i7_69 (lv_at hl 0 rfl) ?_
  have hM := js_char l sa sv H1.size (tp_p k d) f3 f4 (by rw [f5]; exact g1) (by rw [f5]; exact g2)
  rw [f5] at hM
  refine js_callV (n := 1) (idx := 27) (As := [.int (tp_p k d)]) (rest := []) S hA hS1 hZ hM ⟨rfl, rfl⟩ rfl (am_mem_t (g_mem1 50 rfl) rfl) (am_mem_t (g_mem1 47 rfl) rfl) (am_mem_t (g_mem1 48 rfl) rfl) (am_mem_t (g_mem1 49 rfl) rfl) (by decide +kernel) rfl ⟨by have := hR.1; show 4 + 1 ≤ R.frames; omega, by have := hR.2; show 8 + (2 + 11) + 160 ≤ R.locals; omega⟩ hroom d_i7_71 hl.1 rfl (Nat.le_of_ble_eq_true rfl) (fun H2 locs2 hz2 hk2 hS2 => ?_)
  generalize hbb : js_by.getD (4 * k + d) 0 = bb at kk ⊢
  refine lv_istore hx hb d_i7_74 hl (by decide) rfl (fun ls1 hl1 => ?_)
  refine lv_iload hx hb d_i7_76 (lv_at hl1 0 rfl) ?_
  refine lv_bipush (v := 32) hx hb d_i7_78 (by decide) ?_
  have hkk : ∀ q : Nat, q < H.size → H2[q]? = H[q]? := fun q hq => (hk2 q (Nat.lt_of_lt_of_le hq hz1)).trans (hk1 q hq)
  have fin : ∀ (H3 : Heap) (locs3 : List Loc) (ls3 : Array Slot) (w' : Int64), H.size ≤ H3.size → (∀ q : Nat, q < H.size → H3[q]? = H[q]?) → va_S A s.heap H3 locs3 → w' = tp_lt w bb → lv_has ls3 7 [(2, .long w'), (6, .int bb), (5, .int (tp_p k d)), (4, .int (tp_p k 0)), (1, .int (Int32.ofNat k)), (0, .ref h0)] → W p l e R s m args below meth c H3 locs3 cells slots Q (F0 m 90 ls3 []) := by
    intro H3 locs3 ls3 w' hz3 hk3 hS3 hw hl3
    subst hw
    refine lv_iinc hx hb d_i7_90 hl3 (k := 2) rfl f6 (by decide) rfl (fun ls4 hl4 => ?_)
    refine lv_goto (tgt := 48) hx hb d_i7_93 (by decide) ?_
    exact kk H3 locs3 ls4 hz3 hk3 hS3 (lv_sub hl4 [0, 3, 1, 4, 5] rfl)
  have hl1b : lv_has ls1 7 [(2, .long w), (6, .int bb), (5, .int (tp_p k d)), (4, .int (tp_p k 0)), (1, .int (Int32.ofNat k)), (0, .ref h0)] := lv_sub hl1 [3, 0, 1, 2, 4, 5] rfl
  refine lv_icmp_eq (tgt := 90) hx hb d_i7_80 (by decide) (fun h => ?_) (fun h => ?_)
  · exact fin H2 locs2 ls1 w (Nat.le_trans hz1 hz2) hkk hS2 (by unfold tp_lt; rw [if_pos h]) hl1b
  · refine lv_lload_n hx hb d_i7_83 rfl (lv_at hl1b 0 rfl) ?_
    refine lv_iload hx hb d_i7_84 (lv_at hl1b 1 rfl) ?_
    have hr := va_runS (H := H2) (locs := locs2) (cells := cells) (slots := slots) (g := F0 m 86 ls1 [.int bb, .long w]) (As := [.long w, .int bb]) (rest := []) (n := 2) S (js_wl l sa sv H2.size w bb) (e := e) (R := R) (below := below) (meth := meth) ⟨callB_of 2 hts (js_good (am_mem_t (g_mem1 87 rfl) rfl)) rfl rfl rfl (hts _ (am_mem_t (g_mem1 2 rfl) rfl)) (hts _ (am_mem_t (g_mem1 85 rfl) rfl)) ⟨by decide, by decide, by decide +kernel⟩ ⟨by have := hR.1; show 1 + 1 ≤ R.frames; omega, by have := hR.2; show 8 + (3 + 11) + 40 ≤ R.locals; omega⟩, hts _ (am_mem_t (g_mem1 86 rfl) rfl)⟩ ⟨js_blind, fun U hU hW => ⟨rfl, by rw [hU], by rw [hU]; exact hZ.go hW hS2.2.1 (fun q h => hA q (Nat.le_trans hS2.1 h))⟩⟩ rfl rfl hl1b.1 rfl (lv_room (Nat.le_of_ble_eq_true rfl)) d_i7_86 hroom
    refine va_calll hr hS2 (fun q h1 h2 => absurd h2 (Nat.not_le.mpr h1)) (fun q h => hA q (Nat.le_trans hS2.1 h)) (fun r u t H3 locs3 ht hvm hw hB hz3 hk3 hS3 => ?_)
    subst hw
    refine lv_lstore_n hx hb d_i7_89 rfl hl1b (by decide) rfl (fun ls3 hl3 => ?_)
    exact fin H3 locs3 ls3 _ (Nat.le_trans (Nat.le_trans hz1 hz2) hz3) (fun q hq => (hk3 q (Nat.lt_of_lt_of_le hq (Nat.le_trans hz1 hz2)) (Nat.not_le.mpr (Nat.lt_of_lt_of_le hq (Nat.le_trans hz1 hz2)))).trans (hkk q hq)) hS3 (by unfold tp_lt; rw [if_neg h]) hl3
/-- a world kept -/
theorem tp_keep {D : va_G} {cl : List vw_C} {ws : va_W} {H H1 : Heap} (hP : va_P D cl ws H) (hk : ∀ q : Nat, q < H.size → H1[q]? = H[q]?) : va_P D cl ws H1 := va_P.kept hP (fun k q h => hk q.1 (hP k q h).lt)
theorem tp_word (C0 : am_cx p s m args c prog_9_method_1_code 7 "BurningSlips$Tape" [] [] [] dC dI cT) (hA : ∀ q : Nat, s.heap.size ≤ q → A q) {sa sv : Nat} (hZ : js_S sa sv A s s.heap) (hR : 6 ≤ R.frames ∧ 200 ≤ R.locals) (hroom : cells ≤ R.cells ∧ slots ≤ R.slots) {h0 k : Nat} (hk : k < 17) {ad : Int → Nat} {pd : List Nat} {dn : va_W} (e0 : ad 10 = h0) (hpd : 1 ∉ pd)
    {H : Heap} {locs : List Loc} (hP : va_P (dC, dI) g_cl ((h0, .inr (7, ct_fp ad am_i0 10 7 pd)) :: (ad 12, .inl (cT 1, (17, .inr (.inl (tp_F k))))) :: dn) H) (hD : va_D A ((h0, .inr (7, ct_fp ad am_i0 10 7 pd)) :: (ad 12, .inl (cT 1, (17, .inr (.inl (tp_F k))))) :: dn)) (hS : va_S A s.heap H locs) {ls : Array Slot} (hl : lv_has ls 7 [(1, .int (Int32.ofNat k)), (0, .ref h0)])
    (kk : ∀ (H1 : Heap) (locs1 : List Loc) (ls1 : Array Slot), va_P (dC, dI) g_cl ((h0, .inr (7, ct_fp ad am_i0 10 7 pd)) :: (ad 12, .inl (cT 1, (17, .inr (.inl (tp_F (k + 1)))))) :: dn) H1 → va_D A ((h0, .inr (7, ct_fp ad am_i0 10 7 pd)) :: (ad 12, .inl (cT 1, (17, .inr (.inl (tp_F (k + 1)))))) :: dn) → va_S A s.heap H1 locs1 → lv_has ls1 7 [(1, .int (Int32.ofNat (k + 1))), (0, .ref h0)] → W p l e R s m args below meth c H1 locs1 cells slots Q (F0 m 28 ls1 [])) : W p l e R s m args below meth c H locs cells slots Q (F0 m 28 ls []) := by
  obtain ⟨hx, hb, hmx, hown, hts, hNW, hK, -⟩ := id C0
  obtain ⟨f1, f2, f3, f4, f5, f6⟩ := tp_f2 ⟨k, hk⟩
  have f1 : ¬ (17 : Int32) ≤ Int32.ofNat k := f1
  have f2 : Int32.ofNat k * 4 = tp_p k 0 := f2
  have f3 : tp_p k 0 + 4 ≤ tp_p k 4 := f3
  have f4 : vp_in (Int32.ofNat k) 17 := f4
  have f5 : (Int32.ofNat k).toNatClampNeg = k := f5
  have f6 : Int32.ofNat k + Int32.ofInt 1 = Int32.ofNat (k + 1) := f6
  have hfs : (ct_fp ad am_i0 10 7 pd)[1]? = some (.ref (ad 12)) := by
    unfold ct_fp
    rw [List.getElem?_mapIdx]
    show some (if 1 ∈ pd then ct_dv 4 else am_cv ad 0 (am_fv am_i0 10 1 (4, 2))) = _
    rw [if_neg hpd]
    rfl
  refine lv_iload_n hx hb d_i7_28 rfl (lv_at hl 0 rfl) ?_
  refine lv_aload_n hx hb d_i7_29 rfl (lv_at hl 1 rfl) ?_
  refine va_get (C := g_R7) (T := g_T7) (N := 8) (ci := 7) hx hb hts g_w7 hown hK hP 0 rfl rfl 1 (by decide) (hts _ (am_mem_t (g_mem1 90 rfl) rfl)) (fun x h => h) hfs d_i7_30 ?_
  refine va_alen (v := 17) hx hb hK hP 1 1 rfl rfl rfl d_i7_33 ?_
  refine lv_icmp_ge (tgt := 109) hx hb d_i7_34 (by decide) (fun h => absurd h f1) (fun _ => ?_)
  refine lv_lconst (v := 0) hx hb d_i7_37 rfl ?_
  refine lv_lstore_n hx hb d_i7_38 rfl hl (by decide) rfl (fun ls1 hl1 => ?_)
  refine lv_iload_n hx hb d_i7_39 rfl (lv_at hl1 1 rfl) ?_
  refine lv_iconst (v := 4) hx hb d_i7_40 rfl ?_
  refine lv_imul hx hb d_i7_41 ?_
  rw [f2]
  refine lv_istore hx hb d_i7_42 hl1 (by decide) rfl (fun ls2 hl2 => ?_)
  refine lv_iload hx hb d_i7_44 (lv_at hl2 0 rfl) ?_
  refine lv_istore hx hb d_i7_46 hl2 (by decide) rfl (fun ls3 hl3 => ?_)
  refine tp_turn C0 hA hZ hR hroom hk (d := 0) (by decide) hS (w := 0) hl3 (fun H1 locs1 ls4 hz1 hk1 hS1 hl4 => ?_)
  refine tp_turn C0 hA hZ hR hroom hk (d := 1) (by decide) hS1 hl4 (fun H2 locs2 ls5 hz2 hk2 hS2 hl5 => ?_)
  refine tp_turn C0 hA hZ hR hroom hk (d := 2) (by decide) hS2 hl5 (fun H3 locs3 ls6 hz3 hk3 hS3 hl6 => ?_)
  refine tp_turn C0 hA hZ hR hroom hk (d := 3) (by decide) hS3 hl6 (fun H4 locs4 ls7 hz4 hk4 hS4 hl7 => ?_)
  have hP4 := tp_keep (tp_keep (tp_keep (tp_keep hP hk1) hk2) hk3) hk4
  have hl7 : lv_has ls7 7 [(5, .int (tp_p k 4)), (4, .int (tp_p k 0)), (2, .long (tp_w k 4)), (1, .int (Int32.ofNat k)), (0, .ref h0)] := hl7
  refine lv_iload hx hb d_i7_48 (lv_at hl7 0 rfl) ?_
  refine lv_iload hx hb d_i7_50 (lv_at hl7 1 rfl) ?_
  refine lv_iconst (v := 4) hx hb d_i7_52 rfl ?_
  refine lv_iadd hx hb d_i7_53 ?_
  refine lv_icmp_ge (tgt := 96) hx hb d_i7_54 (by decide) (fun _ => ?_) (fun h => absurd f3 h)
  refine lv_aload_n hx hb d_i7_96 rfl (lv_at hl7 4 rfl) ?_
  refine va_get (C := g_R7) (T := g_T7) (N := 8) (ci := 7) hx hb hts g_w7 hown hK hP4 0 rfl rfl 1 (by decide) (hts _ (am_mem_t (g_mem1 90 rfl) rfl)) (fun x h => h) hfs d_i7_97 ?_
  refine lv_iload_n hx hb d_i7_100 rfl (lv_at hl7 3 rfl) ?_
  refine lv_lload_n hx hb d_i7_101 rfl (lv_at hl7 2 rfl) ?_
  refine va_last (n := 17) hx hb hK hP4 hD hS4 1 1 rfl rfl f4 d_i7_102 (fun H5 locs5 hP5 hD5 hS5 => ?_)
  rw [f5, tp_FS hk] at hP5 hD5
  refine lv_iinc hx hb d_i7_103 hl7 (k := 3) rfl f6 (by decide) rfl (fun ls8 hl8 => ?_)
  refine lv_goto (tgt := 28) hx hb d_i7_106 (by decide) ?_
  exact kk H5 locs5 ls8 hP5 hD5 hS5 (lv_sub hl8 [0, 4] rfl)
theorem tp_words (C0 : am_cx p s m args c prog_9_method_1_code 7 "BurningSlips$Tape" [] [] [] dC dI cT) (hA : ∀ q : Nat, s.heap.size ≤ q → A q) {sa sv : Nat} (hZ : js_S sa sv A s s.heap) (hR : 6 ≤ R.frames ∧ 200 ≤ R.locals) (hroom : cells ≤ R.cells ∧ slots ≤ R.slots) {h0 : Nat} {ad : Int → Nat} {pd : List Nat} {dn : va_W} (e0 : ad 10 = h0) (hpd : 1 ∉ pd)
    (kk : ∀ (H1 : Heap) (locs1 : List Loc) (ls1 : Array Slot), va_P (dC, dI) g_cl ((h0, .inr (7, ct_fp ad am_i0 10 7 pd)) :: (ad 12, .inl (cT 1, (17, .inr (.inl (tp_F 17))))) :: dn) H1 → va_D A ((h0, .inr (7, ct_fp ad am_i0 10 7 pd)) :: (ad 12, .inl (cT 1, (17, .inr (.inl (tp_F 17))))) :: dn) → va_S A s.heap H1 locs1 → lv_has ls1 7 [(1, .int (Int32.ofNat 17)), (0, .ref h0)] → W p l e R s m args below meth c H1 locs1 cells slots Q (F0 m 28 ls1 [])) :
    ∀ (j k : Nat), k + j = 17 → ∀ {H : Heap} {locs : List Loc}, va_P (dC, dI) g_cl ((h0, .inr (7, ct_fp ad am_i0 10 7 pd)) :: (ad 12, .inl (cT 1, (17, .inr (.inl (tp_F k))))) :: dn) H → va_D A ((h0, .inr (7, ct_fp ad am_i0 10 7 pd)) :: (ad 12, .inl (cT 1, (17, .inr (.inl (tp_F k))))) :: dn) → va_S A s.heap H locs → ∀ {ls : Array Slot}, lv_has ls 7 [(1, .int (Int32.ofNat k)), (0, .ref h0)] → W p l e R s m args below meth c H locs cells slots Q (F0 m 28 ls []) := by
  intro j
  induction j with
  | zero =>
    intro k hk H locs hP hD hS ls hl
    obtain rfl : k = 17 := by omega
    exact kk H locs ls hP hD hS hl
  | succ j ih =>
    intro k hk H locs hP hD hS ls hl
    refine tp_word C0 hA hZ hR hroom (show k < 17 by omega) e0 hpd hP hD hS hl (fun H1 locs1 ls1 hP1 hD1 hS1 hl1 => ?_)
    exact ih (k + 1) (by omega) hP1 hD1 hS1 hl1
end TP
set_option maxHeartbeats 4000000 in
set_option maxRecDepth 20000 in
theorem k_Tape (l : Launch) (dC : Nat → ClassId) (dI : Nat → Nat → Nat) (cT : Nat → ClassId) (sa sv : Nat) (ad : Int → Nat) (sz : Nat) : Met l y_i7 (Cond.code y_i7 prog_9_method_1_code 7 none :: am_tG) ({ frames := 6, cells := 2, slots := 1017, locals := 200 } : Room) (ct_PcE (fun A U => js_S sa sv A U U.heap) dC dI cT [.ref (ad 10)] ([(ad 10, .inr (7, ct_f0 7))] : va_W) sz) (ct_Qc dC dI cT am_i0 ad [(10, 17, 0), (11, 0, 1000), (12, 1, 17)] [11, 12] (va_A ([(ad 10, .inr (7, ct_f0 7))] : va_W) sz)) 2 1017 (va_A ([(ad 10, .inr (7, ct_f0 7))] : va_W) sz) := by
  refine ct_metE (fun A U => js_S sa sv A U U.heap) l dC dI cT (by decide) rfl (Nat.le_of_ble_eq_true rfl) ({ frames := 6, cells := 2, slots := 1017, locals := 200 } : Room) sz ?_
  intro p e s m args below meth c A larr C0 hZ hnm hr hlocks hA hP hD hl
  have hx := C0.1
  have hb := C0.2.1
  have hown := C0.2.2.2.1
  have hts := C0.2.2.2.2.1
  have hK := C0.2.2.2.2.2.2.1
  have hS : va_S A s.heap s.heap [] := va_S.rf
  have hl0 : larr[0]? = some (.val (.ref (ad 10))) := lv_at hl 0 rfl
  have hb0 : ∀ y, y ∉ ([] : List Int) → ad y = ad y := fun _ _ => rfl
  rw [ct_fp_new (ad := ad) (μ := am_i0) (c := 10) (ci := 7) (pd := [0, 1]) (by decide +kernel)] at hP hD
  have hP : va_P (dC, dI) g_cl ((ad 10, .inr (7, ct_fp ad am_i0 10 7 [0, 1])) :: am_wdL [] ad cT am_i0) s.heap := hP
  have hD : va_D A ((ad 10, .inr (7, ct_fp ad am_i0 10 7 [0, 1])) :: am_wdL [] ad cT am_i0) := hD
  refine ct_sup C0 hl.1 hl0 (am_mem_t (g_mem1 35 rfl) rfl) d_i7_0 d_i7_1 (by decide) (by decide) ?_
  refine ct_arr C0 hnm hA (ad := ad) (pd := [0, 1]) (dn := []) hP hD hS hl0 (k := 0) (idx := 9) (pc := 4) (t := 0) (N := 1000) (ln := 3) (x := 11) (off := 1) (pd' := [1]) (dn' := [(11, 0, 1000)]) (CN := g_R7) (TN := g_T7) (NF := 8) rfl (by decide) (am_mem_t (g_mem1 89 rfl) rfl) rfl rfl (et := .int) (by decide +kernel) rfl rfl (by decide) (Or.inl ⟨rfl, rfl⟩) (by decide) (fun j => i0_z 11 (by decide) j) (by decide +kernel) (by decide +kernel) rfl rfl (by decide +kernel) d_i7_4 d_i7_5 d_i7_8 d_i7_10 (Nat.le_of_ble_eq_true rfl) (Nat.le_of_ble_eq_true rfl) (fun H locs ad1 ha1 hP hD hS => ?_)
  have hb1 := ct_tr hb0 ha1
  have S : CallFix p m c prog_9_method_1_code 7 s args am_tG "BurningSlips$Tape" := ⟨hx, hb, C0.2.2.1, hown, hts⟩
  refine lv_aload_n hx hb d_i7_13 rfl hl0 ?_
  refine va_ldcS hx hb hown hZ.1 d_i7_14 ?_
  refine js_callV (n := 0) (idx := 17) (As := []) (rest := [.ref (ad 10)]) S hA hS hZ (js_length l sa sv H.size) ⟨rfl, rfl⟩ rfl (am_mem_t (g_mem1 40 rfl) rfl) (am_mem_t (g_mem1 37 rfl) rfl) (am_mem_t (g_mem1 38 rfl) rfl) (am_mem_t (g_mem1 39 rfl) rfl) (by decide +kernel) rfl ⟨(Nat.le_of_ble_eq_true rfl), (Nat.le_of_ble_eq_true rfl)⟩ ⟨(Nat.le_of_ble_eq_true rfl), (Nat.le_of_ble_eq_true rfl)⟩ d_i7_16 hl.1 rfl (Nat.le_of_ble_eq_true rfl) (fun H1 locs1 hz1 hk1 hS1 => ?_)
  have hP1 := tp_keep hP hk1
  refine lv_iconst (v := 4) hx hb d_i7_19 rfl ?_
  refine lv_idiv hx hb d_i7_20 (by decide) ?_
  rw [show (68 : Int32) / 4 = Int32.ofInt ((17 : Nat) : Int) from by decide]
  refine ct_newa C0 hA hP1 hD hS1 (t := 1) (N := 17) (Or.inr (Or.inl ⟨rfl, rfl⟩)) (by decide) (Nat.le_of_ble_eq_true rfl) (Nat.le_of_ble_eq_true rfl) d_i7_21 (fun q H2 hP2 hD2 hS2 => ?_)
  have hP2 : va_P (dC, dI) g_cl ((ad 10, .inr (7, ct_fp ad1 am_i0 10 7 [1])) :: (am_wdL [(11, 0, 1000)] ad1 cT am_i0 ++ [(q, .inl (cT 1, ct_zero 1 17))])) H2 := hP2
  have hD2 : va_D A ((ad 10, .inr (7, ct_fp ad1 am_i0 10 7 [1])) :: (am_wdL [(11, 0, 1000)] ad1 cT am_i0 ++ [(q, .inl (cT 1, ct_zero 1 17))])) := hD2
  refine ct_put C0 hnm hP2 hD2 hS2 (k := 1) (idx := 23) (CN := g_R7) (TN := g_T7) (NF := 8) rfl (by decide) (am_mem_t (g_mem1 90 rfl) rfl) rfl rfl (ty := .array .long) (by decide +kernel) (v := .ref q) rfl rfl (ct_fp_len (q := (g_R7, g_T7, 8)) rfl) d_i7_23 (fun H3 locs3 hP3 hD3 hS3 => ?_)
  obtain ⟨ad2, hax, hay⟩ : ∃ ad2 : Int → Nat, ad2 12 = q ∧ ∀ y, y ∉ [12] → ad2 y = ad1 y := ⟨fun y => if y = 12 then q else ad1 y, if_pos rfl, fun y hy => if_neg (fun z => hy (List.mem_singleton.mpr z))⟩
  have e1 : (ct_fp ad1 am_i0 10 7 [1]).set 1 (.ref q) = ct_fp ad2 am_i0 10 7 [] := by
    rw [← ct_fpC (xs := [12]) (by decide +kernel) hay]
    refine ct_fp_set (f := (4, 2)) rfl ?_ rfl
    show Value.ref q = (if (10 : Int) + 2 < 0 then .null else .ref (ad2 (10 + 2)))
    rw [if_neg (by decide), show ((10 : Int) + 2) = 12 from rfl, hax]
  have e2 : am_wdL [(11, 0, 1000)] ad1 cT am_i0 = am_wdL [(11, 0, 1000)] ad2 cT am_i0 := (ct_wdL (xs := [12]) (by decide +kernel) hay).symm
  rw [e1, e2] at hP3 hD3
  subst hax
  have hp : ((ad 10, .inr (7, ct_fp ad2 am_i0 10 7 [])) :: (am_wdL [(11, 0, 1000)] ad2 cT am_i0 ++ [(ad2 12, .inl (cT 1, ct_zero 1 17))]) : va_W).Perm ((ad 10, .inr (7, ct_fp ad2 am_i0 10 7 [])) :: (ad2 12, .inl (cT 1, (17, .inr (.inl (tp_F 0))))) :: am_wdL [(11, 0, 1000)] ad2 cT am_i0) := by
    rw [tp_F0]
    exact List.Perm.cons _ List.perm_append_comm
  have hP4 := ct_P_perm hp hP3
  have hD4 := ct_D_perm hp hD3
  refine lv_iconst (v := 0) hx hb d_i7_26 rfl ?_
  refine lv_istore_n hx hb d_i7_27 rfl hl (by decide) rfl (fun ls1 hl1 => ?_)
  have hb2 := ct_tr hb1 hay
  refine tp_words C0 hA hZ ⟨(Nat.le_of_ble_eq_true rfl), (Nat.le_of_ble_eq_true rfl)⟩ ⟨(Nat.le_of_ble_eq_true rfl), (Nat.le_of_ble_eq_true rfl)⟩ (hb2 10 (by decide)) (by decide) (fun H5 locs5 ls2 hP5 hD5 hS5 hl5 => ?_) 17 0 rfl hP4 hD4 hS3 hl1
  refine lv_iload_n hx hb d_i7_28 rfl (lv_at hl5 0 rfl) ?_
  refine lv_aload_n hx hb d_i7_29 rfl (lv_at hl5 1 rfl) ?_
  refine va_get (C := g_R7) (T := g_T7) (N := 8) (ci := 7) hx hb hts g_w7 hown hK hP5 0 rfl rfl 1 (by decide) (hts _ (am_mem_t (g_mem1 90 rfl) rfl)) (fun x h => h) (v := .ref (ad2 12)) rfl d_i7_30 ?_
  refine va_alen (v := 17) hx hb hK hP5 1 1 rfl rfl rfl d_i7_33 ?_
  refine lv_icmp_ge (tgt := 109) hx hb d_i7_34 (by decide) (fun _ => ?_) (fun h => absurd (by decide) h)
  have hq : ((ad 10, .inr (7, ct_fp ad2 am_i0 10 7 [])) :: (ad2 12, .inl (cT 1, (17, .inr (.inl (tp_F 17))))) :: am_wdL [(11, 0, 1000)] ad2 cT am_i0 : va_W).Perm ((ad 10, .inr (7, ct_fp ad2 am_i0 10 7 [])) :: am_wdL [(11, 0, 1000), (12, 1, 17)] ad2 cT am_i0) := by
    rw [tp_FN]
    exact List.Perm.cons _ (List.Perm.swap _ _ _)
  exact ct_end C0 hr hlocks (ci := 7) (h0 := ad 10) (hb2 10 (by decide)) hb2 rfl (ct_P_perm hq hP5) (ct_D_perm hq hD5) hS5 d_i7_109

