/-! A word put into a row of signs. -/
def y_word : MethodName := ⟨"BurningSlipsLaw", "word", "([IIJ)I"⟩
theorem d_word_0 : decode method_3_code 0 = .ok (.iload_n 1, 1) := by decide +kernel
theorem d_word_1 : decode method_3_code 1 = .ok (.istore 4, 2) := by decide +kernel
theorem d_word_3 : decode method_3_code 3 = .ok (.bipush 7, 2) := by decide +kernel
theorem d_word_5 : decode method_3_code 5 = .ok (.istore 5, 2) := by decide +kernel
theorem d_word_7 : decode method_3_code 7 = .ok (.iload 5, 2) := by decide +kernel
theorem d_word_9 : decode method_3_code 9 = .ok (.ifCond .lt 40, 3) := by decide +kernel
theorem d_word_12 : decode method_3_code 12 = .ok (.lload_n 2, 1) := by decide +kernel
theorem d_word_13 : decode method_3_code 13 = .ok (.bipush 8, 2) := by decide +kernel
theorem d_word_15 : decode method_3_code 15 = .ok (.iload 5, 2) := by decide +kernel
theorem d_word_17 : decode method_3_code 17 = .ok (.imul, 1) := by decide +kernel
theorem d_word_18 : decode method_3_code 18 = .ok (.lushr, 1) := by decide +kernel
theorem d_word_19 : decode method_3_code 19 = .ok (.ldc2_w 13, 3) := by decide +kernel
theorem d_word_22 : decode method_3_code 22 = .ok (.land, 1) := by decide +kernel
theorem d_word_23 : decode method_3_code 23 = .ok (.l2i, 1) := by decide +kernel
theorem d_word_24 : decode method_3_code 24 = .ok (.istore 6, 2) := by decide +kernel
theorem d_word_26 : decode method_3_code 26 = .ok (.iload 6, 2) := by decide +kernel
theorem d_word_28 : decode method_3_code 28 = .ok (.ifCond .ne 6, 3) := by decide +kernel
theorem d_word_31 : decode method_3_code 31 = .ok (.goto 12, 3) := by decide +kernel
theorem d_word_34 : decode method_3_code 34 = .ok (.aload_n 0, 1) := by decide +kernel
theorem d_word_35 : decode method_3_code 35 = .ok (.iload 4, 2) := by decide +kernel
theorem d_word_37 : decode method_3_code 37 = .ok (.iload 6, 2) := by decide +kernel
theorem d_word_39 : decode method_3_code 39 = .ok (.iastore, 1) := by decide +kernel
theorem d_word_40 : decode method_3_code 40 = .ok (.iinc 4 1, 3) := by decide +kernel
theorem d_word_43 : decode method_3_code 43 = .ok (.iinc 5 (-1), 3) := by decide +kernel
theorem d_word_46 : decode method_3_code 46 = .ok (.goto (-39), 3) := by decide +kernel
theorem d_word_49 : decode method_3_code 49 = .ok (.aload_n 0, 1) := by decide +kernel
theorem d_word_50 : decode method_3_code 50 = .ok (.iload 4, 2) := by decide +kernel
theorem d_word_52 : decode method_3_code 52 = .ok (.bipush 32, 2) := by decide +kernel
theorem d_word_54 : decode method_3_code 54 = .ok (.iastore, 1) := by decide +kernel
theorem d_word_55 : decode method_3_code 55 = .ok (.iload 4, 2) := by decide +kernel
theorem d_word_57 : decode method_3_code 57 = .ok (.iconst 1, 1) := by decide +kernel
theorem d_word_58 : decode method_3_code 58 = .ok (.iadd, 1) := by decide +kernel
theorem d_word_59 : decode method_3_code 59 = .ok (.ireturn, 1) := by decide +kernel
def byt (v : Int64) (k : Nat) : Int32 := (((v.toUInt64 >>> (((8 : Int32) * Int32.ofInt (k : Int)).toInt64.toUInt64 &&& Int64.toUInt64 63)).toInt64) &&& 255).toInt32
def wb (v : Int64) : Nat → List Int32
  | 0 => []
  | k + 1 => (if byt v k = 0 then [] else [byt v k]) ++ wb v k
def wl (v : Int64) : List Int32 := wb v 8 ++ [32]
theorem wb_len (v : Int64) : ∀ k : Nat, (wb v k).length ≤ k
  | 0 => Nat.le_refl 0
  | k + 1 => by
    show ((if byt v k = 0 then [] else [byt v k]) ++ wb v k).length ≤ k + 1
    have := wb_len v k
    split <;> simp <;> omega
/-- a row begins with a text -/
def PT (T : List Int32) (F : Nat → Int32) : Prop := ∀ i, i < T.length → F i = T.getD i 0
theorem PT.put {T : List Int32} {F : Nat → Int32} (h : PT T F) (b : Int32) : PT (T ++ [b]) (upd F T.length b) := by
  intro i hi
  rw [List.length_append] at hi
  have hi : i < T.length + 1 := hi
  show (if i = T.length then b else F i) = _
  by_cases q : i = T.length
  · rw [if_pos q, q]
    simp
  · rw [if_neg q, h i (by omega)]
    simp only [List.getD_eq_getElem?_getD]
    rw [List.getElem?_append_left (by omega)]
section WD
variable {p : Program} {l : Launch} {e : Env} {R : Room} {s : State} {m : MethodId} {args : Array Value} {below : List Frame} {meth : Method} {c : Code} {H : Heap} {locs : List Loc} {cells slots : Nat} {Q : State → Prop}
variable {dC : Nat → ClassId} {dI : Nat → Nat → Nat} {cT : Nat → ClassId} {A : Nat → Prop}
theorem wd_neg (k : Nat) (h : k < 8) : ¬ (Int32.ofInt (k : Int)) < 0 := by
  have : ∀ i : Fin 8, ¬ (Int32.ofInt (i.val : Int)) < 0 := by decide +kernel
  exact this ⟨k, h⟩
theorem wd_dec (k : Nat) (h : k < 8) : Int32.ofInt (k : Int) + Int32.ofInt (-1) = Int32.ofInt ((k : Int) - 1) := by
  rw [← Int32.ofInt_add]
  rfl
theorem wd_inc (n : Nat) : Int32.ofInt (n : Int) + Int32.ofInt 1 = Int32.ofInt ((n + 1 : Nat) : Int) := by
  rw [← Int32.ofInt_add]
  rfl
set_option maxRecDepth 20000 in
theorem wd_turn (C0 : am_cx p s m args c method_3_code 7 "BurningSlipsLaw" [] [] [] dC dI cT) {q : Nat} {v : Int64} : ∀ (k : Nat), k ≤ 8 → ∀ (T : List Int32) (F : Nat → Int32) (H : Heap) (locs : List Loc) (larr : Array Slot), PT T F → T.length + k + 1 ≤ 950 → va_P (dC, dI) g_cl [(q, .inl (cT 0, (950, .inl F)))] H → va_D A [(q, .inl (cT 0, (950, .inl F)))] → va_S A s.heap H locs → lv_has larr 7 [(5, .int (Int32.ofInt ((k : Int) - 1))), (4, .int (Int32.ofInt (T.length : Int))), (2, .long v), (0, .ref q)] →
    (∀ (F' : Nat → Int32) (H1 : Heap) (locs1 : List Loc) (larr1 : Array Slot), PT (T ++ wb v k) F' → va_P (dC, dI) g_cl [(q, .inl (cT 0, (950, .inl F')))] H1 → va_D A [(q, .inl (cT 0, (950, .inl F')))] → va_S A s.heap H1 locs1 → lv_has larr1 7 [(4, .int (Int32.ofInt ((T ++ wb v k).length : Int))), (0, .ref q)] → W p l e R s m args below meth c H1 locs1 cells slots Q (F0 m 49 larr1 [])) → W p l e R s m args below meth c H locs cells slots Q (F0 m 7 larr []) := by
  obtain ⟨hx, hb, hmx, hown, hts, hNW, hK, -⟩ := id C0
  intro k
  induction k with
  | zero =>
    intro hk T F H locs larr hT hn hP hD hS hl kk
    refine lv_iload hx hb d_word_7 (lv_at hl 0 rfl) ?_
    refine lv_if_lt (tgt := 49) hx hb d_word_9 (by decide) (fun _ => ?_) (fun h => absurd (show Int32.ofInt ((0 : Nat) : Int) - 1 < 0 by decide) (by exact h))
    have e : T ++ wb v 0 = T := List.append_nil T
    have := kk F H locs larr (by rw [e]; exact hT) hP hD hS (by rw [e]; exact lv_sub hl [1, 3] rfl)
    exact this
  | succ k ih =>
    intro hk T F H locs larr hT hn hP hD hS hl kk
    have hk5 : (((k + 1 : Nat) : Int) - 1) = (k : Int) := by omega
    rw [hk5] at hl
    refine lv_iload hx hb d_word_7 (lv_at hl 0 rfl) ?_
    refine lv_if_lt (tgt := 49) hx hb d_word_9 (by decide) (fun h => absurd h (wd_neg k (by omega))) (fun _ => ?_)
    refine lv_lload_n hx hb d_word_12 rfl (lv_at hl 2 rfl) ?_
    refine lv_bipush (v := 8) hx hb d_word_13 (by decide) ?_
    refine lv_iload hx hb d_word_15 (lv_at hl 0 rfl) ?_
    refine lv_imul hx hb d_word_17 ?_
    refine lv_lushr hx hb d_word_18 rfl ?_
    refine lv_ldc2 (v := 255) hx hb hown (hts (.constantLong "BurningSlipsLaw" 13 255) (am_mem_t (g_mem3 84 rfl) rfl)) d_word_19 ?_
    refine lv_land hx hb d_word_22 ?_
    refine lv_l2i (v := byt v k) hx hb d_word_23 rfl ?_
    refine lv_istore hx hb d_word_24 hl (by decide) rfl (fun larr hl => ?_)
    refine lv_iload hx hb d_word_26 (lv_at hl 0 rfl) ?_
    have fin : ∀ (T' : List Int32) (F' : Nat → Int32) (H : Heap) (locs : List Loc) (larr : Array Slot), PT T' F' → T' ++ wb v k = T ++ wb v (k + 1) → T'.length + k + 1 ≤ 950 → va_P (dC, dI) g_cl [(q, .inl (cT 0, (950, .inl F')))] H → va_D A [(q, .inl (cT 0, (950, .inl F')))] → va_S A s.heap H locs → lv_has larr 7 [(5, .int (Int32.ofInt (k : Int))), (4, .int (Int32.ofInt (T'.length : Int))), (2, .long v), (0, .ref q)] → W p l e R s m args below meth c H locs cells slots Q (F0 m 43 larr []) := by
      intro T' F' H locs larr hT' he hn' hP hD hS hl
      refine lv_iinc hx hb d_word_43 hl (k := 0) rfl (wd_dec k (by omega)) (by decide) rfl (fun larr hl => ?_)
      refine lv_goto (tgt := 7) hx hb d_word_46 (by decide) ?_
      refine ih (by omega) T' F' H locs larr hT' hn' hP hD hS hl ?_
      rw [he]
      exact kk
    refine lv_if_ne (tgt := 34) hx hb d_word_28 (by decide) (fun hne => ?_) (fun hz => ?_)
    · refine lv_aload_n hx hb d_word_34 rfl (lv_at hl 4 rfl) ?_
      refine lv_iload hx hb d_word_35 (lv_at hl 2 rfl) ?_
      refine lv_iload hx hb d_word_37 (lv_at hl 0 rfl) ?_
      refine va_iast hx hb hK hP hD hS 0 0 rfl rfl (am_ix (by omega) (show (T.length : Int) < ((950 : Nat) : Int) by omega) (by decide)) d_word_39 (fun H locs hP hD hS => ?_)
      rw [am_clamp (by omega) (by omega), show ((T.length : Int)).toNat = T.length from rfl] at hP hD
      refine lv_iinc hx hb d_word_40 hl (k := 2) rfl (wd_inc T.length) (by decide) rfl (fun larr hl => ?_)
      refine fin (T ++ [byt v k]) _ H locs larr (hT.put _) ?_ ?_ hP hD hS ?_
      · show _ = T ++ ((if byt v k = 0 then [] else [byt v k]) ++ wb v k)
        rw [if_neg hne, List.append_assoc]
      · rw [List.length_append]
        show T.length + 1 + k + 1 ≤ 950
        omega
      · rw [List.length_append]
        exact lv_sub hl [2, 0, 3, 4] rfl
    · refine lv_goto (tgt := 43) hx hb d_word_31 (by decide) ?_
      refine fin T F H locs larr hT ?_ (by omega) hP hD hS (lv_sub hl [1, 2, 3, 4] rfl)
      show _ = T ++ ((if byt v k = 0 then [] else [byt v k]) ++ wb v k)
      rw [if_pos hz]
      rfl
end WD
set_option maxRecDepth 20000 in
theorem word_m (l : Launch) (dC : Nat → ClassId) (dI : Nat → Nat → Nat) (cT : Nat → ClassId) (q : Nat) (v : Int64) (T : List Int32) (F : Nat → Int32) (hT : PT T F) (hn : T.length + 9 ≤ 950) (sz : Nat) : Met l y_word (Cond.code y_word method_3_code 7 (some .int) :: am_tG) { frames := 1, cells := 0, slots := 0, locals := 40 } (ct_Pc dC dI cT [.ref q, .int (Int32.ofInt (T.length : Int)), .long v] [(q, .inl (cT 0, (950, .inl F)))] sz) (va_Qi (fun (r : Int32) (F' : Nat → Int32) => r = Int32.ofInt ((T ++ wl v).length : Int) ∧ PT (T ++ wl v) F') (fun F' t => va_P (dC, dI) g_cl [(q, .inl (cT 0, (950, .inl F')))] t.heap ∧ va_D (va_A [(q, .inl (cT 0, (950, .inl F)))] sz) [(q, .inl (cT 0, (950, .inl F')))]) (va_A [(q, .inl (cT 0, (950, .inl F)))] sz)) 0 0 (va_A [(q, .inl (cT 0, (950, .inl F)))] sz) := by
  refine Met.ofW (cc := method_3_code) (maxL := 7) (ret := some .int) (by decide) rfl ?_
  intro p e s m args below meth c s₁ B hmx hv
  obtain ⟨rfl, hsz, ⟨hP, hK, hD0⟩, hN⟩ := hv
  have hts0 := atoms_spec (ws := Cond.code y_word method_3_code 7 (some .int) :: am_tG) B.pre
  subst hsz
  have hl := lv_entry ([.ref q, .int (Int32.ofInt (T.length : Int)), .long v]) (n := 7) (Nat.le_of_ble_eq_true rfl)
  rw [lg_entry_eq]
  generalize (lg_sl [.ref q, .int (Int32.ofInt (T.length : Int)), .long v] ++ List.replicate (7 - (lg_sl [.ref q, .int (Int32.ofInt (T.length : Int)), .long v]).length) Slot.unset).toArray = larr at hl ⊢
  have hl : lv_has larr 7 [(0, .ref q), (1, .int (Int32.ofInt (T.length : Int))), (2, .long v)] := hl
  have C0 : am_cx p s m [.ref q, .int (Int32.ofInt (T.length : Int)), .long v].toArray c method_3_code 7 "BurningSlipsLaw" [] [] [] dC dI cT := ⟨B.exec, B.bytes, hmx, findClass_of_methodNamed B.named, fun w hw => hts0 w (List.mem_cons_of_mem _ hw), hN, hK, fun _ h => absurd h List.not_mem_nil, fun _ h => absurd h List.not_mem_nil, fun _ h => absurd h List.not_mem_nil⟩
  have hx := B.exec
  have hb := B.bytes
  have hr := B.returns
  have hlocks := B.notSynchronized
  have hD := hD0.self (sz := s.heap.size)
  have hS : va_S (va_A [(q, .inl (cT 0, (950, .inl F)))] s.heap.size) s.heap s.heap [] := va_S.rf
  refine lv_iload_n hx hb d_word_0 rfl (lv_at hl 1 rfl) ?_
  refine lv_istore hx hb d_word_1 hl (by decide) rfl (fun larr hl => ?_)
  refine lv_bipush (v := 7) hx hb d_word_3 (by decide) ?_
  refine lv_istore hx hb d_word_5 hl (by decide) rfl (fun larr hl => ?_)
  refine wd_turn C0 8 (Nat.le_refl 8) T F s.heap [] larr hT (by omega) hP hD hS (lv_sub hl [0, 1, 4, 2] rfl) ?_
  intro F' H locs larr hT' hP hD hS hl
  have hlen : (T ++ wb v 8).length < 950 := by
    rw [List.length_append]
    have := wb_len v 8
    omega
  generalize hTT : T ++ wb v 8 = T' at hT' hlen hl
  refine lv_aload_n hx hb d_word_49 rfl (lv_at hl 1 rfl) ?_
  refine lv_iload hx hb d_word_50 (lv_at hl 0 rfl) ?_
  refine lv_bipush (v := 32) hx hb d_word_52 (by decide) ?_
  refine va_iast hx hb hK hP hD hS 0 0 rfl rfl (am_ix (by omega) (show (T'.length : Int) < ((950 : Nat) : Int) by omega) (by decide)) d_word_54 (fun H locs hP hD hS => ?_)
  rw [am_clamp (by omega) (by omega), show ((T'.length : Int)).toNat = T'.length from rfl] at hP hD
  refine lv_iload hx hb d_word_55 (lv_at hl 0 rfl) ?_
  refine lv_iconst (v := Int32.ofInt 1) hx hb d_word_57 (by decide) ?_
  refine lv_iadd hx hb d_word_58 ?_
  rw [wd_inc]
  have hw : T ++ wl v = T' ++ [32] := by
    unfold wl
    rw [← hTT, List.append_assoc]
  refine W.iret hx hb hr (fun t ht hW => ⟨⟨_, upd F' T'.length 32, rfl, ⟨?_, ?_⟩, by rw [ht]; exact hP, hD⟩, hS.F ht⟩) hS.2.2 d_word_59 hlocks
  · rw [hw, List.length_append]
    rfl
  · rw [hw]
    exact hT'.put 32
