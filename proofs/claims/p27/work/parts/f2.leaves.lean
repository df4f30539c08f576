/-! Constructors that make arrays alone. Printed by program (wip/p27/ctors.py). -/
/-- the reserved words as numbers -/
def rsv (i : Int) : Int := if i = 0 then 656741 else if i = 1 then 12468 else if i = 2 then 679214 else if i = 3 then 87630 else if i = 4 then 99724 else if i = 5 then 294 else if i = 6 then 176741 else if i = 7 then 5572 else if i = 8 then 239301 else if i = 9 then 755084 else if i = 10 then 75148 else if i = 11 then 505957 else if i = 12 then 441972 else if i = 13 then 51 else if i = 14 then 14836 else if i = 15 then 1476 else if i = 16 then 498 else 0
/-- what memory holds behind both constructors -/
def am_i0 : am_M := fun c i => if c = 0 then (if i = 8 then 100 else if i = 9 then 200 else 0) else if c = 12 then (if 0 ≤ i ∧ i < 17 then rsv i else 0) else if c = 20 then (if i = 4 then 200 else if i = 5 then 201 else 0) else if c = 50 then (if i = 10 then -1 else 0) else if c = 60 then (if i = 9 then -1 else 0) else if c = 70 then (if 0 ≤ i ∧ i < 4 then 320 + 10 * i else -1) else if c = 310 then (if i = 12 then 99 else if i = 13 then 1 else 0) else if c = 300 ∨ c = 320 ∨ c = 330 ∨ c = 340 ∨ c = 350 then (if i = 1 then 1 else if i = 12 then 99 else if i = 13 then 1 else 0) else if c = 1000 then (if i = 55 then 99 else if i = 56 then 1 else 0) else 0
theorem i0_z (x : Int) (h : x ∉ ([0, 12, 20, 50, 60, 70, 310, 300, 320, 330, 340, 350, 1000] : List Int)) (j : Int) : am_i0 x j = 0 := by
  simp only [List.mem_cons, List.not_mem_nil, or_false, not_or] at h
  obtain ⟨h1, h2, h3, h4, h5, h6, h7, h8, h9, h10, h11, h12, h13⟩ := h
  unfold am_i0
  rw [if_neg h1, if_neg h2, if_neg h3, if_neg h4, if_neg h5, if_neg h6, if_neg h7, if_neg (by omega), if_neg h13]
theorem ct_tr {ad0 ad1 ad2 : Int → Nat} {xs ys : List Int} (h1 : ∀ y, y ∉ xs → ad1 y = ad0 y) (h2 : ∀ y, y ∉ ys → ad2 y = ad1 y) : ∀ y, y ∉ xs ++ ys → ad2 y = ad0 y := fun y hy => (h2 y (fun z => hy (List.mem_append_right _ z))).trans (h1 y (fun z => hy (List.mem_append_left _ z)))
def y_i1 : MethodName := ⟨"BurningSlips$Checker", "<init>", "()V"⟩
theorem d_i1_0 : decode prog_3_method_1_code 0 = .ok (.aload_n 0, 1) := by decide +kernel
theorem d_i1_1 : decode prog_3_method_1_code 1 = .ok (.invokespecial 3, 3) := by decide +kernel
theorem d_i1_4 : decode prog_3_method_1_code 4 = .ok (.aload_n 0, 1) := by decide +kernel
theorem d_i1_5 : decode prog_3_method_1_code 5 = .ok (.iconst 3, 1) := by decide +kernel
theorem d_i1_6 : decode prog_3_method_1_code 6 = .ok (.newarray .int, 2) := by decide +kernel
theorem d_i1_8 : decode prog_3_method_1_code 8 = .ok (.putfield 9, 3) := by decide +kernel
theorem d_i1_11 : decode prog_3_method_1_code 11 = .ok (.aload_n 0, 1) := by decide +kernel
theorem d_i1_12 : decode prog_3_method_1_code 12 = .ok (.iconst 3, 1) := by decide +kernel
theorem d_i1_13 : decode prog_3_method_1_code 13 = .ok (.newarray .int, 2) := by decide +kernel
theorem d_i1_15 : decode prog_3_method_1_code 15 = .ok (.putfield 15, 3) := by decide +kernel
theorem d_i1_18 : decode prog_3_method_1_code 18 = .ok (.aload_n 0, 1) := by decide +kernel
theorem d_i1_19 : decode prog_3_method_1_code 19 = .ok (.iconst 3, 1) := by decide +kernel
theorem d_i1_20 : decode prog_3_method_1_code 20 = .ok (.newarray .int, 2) := by decide +kernel
theorem d_i1_22 : decode prog_3_method_1_code 22 = .ok (.putfield 18, 3) := by decide +kernel
theorem d_i1_25 : decode prog_3_method_1_code 25 = .ok (.aload_n 0, 1) := by decide +kernel
theorem d_i1_26 : decode prog_3_method_1_code 26 = .ok (.iconst 3, 1) := by decide +kernel
theorem d_i1_27 : decode prog_3_method_1_code 27 = .ok (.newarray .int, 2) := by decide +kernel
theorem d_i1_29 : decode prog_3_method_1_code 29 = .ok (.putfield 21, 3) := by decide +kernel
theorem d_i1_32 : decode prog_3_method_1_code 32 = .ok (.aload_n 0, 1) := by decide +kernel
theorem d_i1_33 : decode prog_3_method_1_code 33 = .ok (.iconst 3, 1) := by decide +kernel
theorem d_i1_34 : decode prog_3_method_1_code 34 = .ok (.newarray .int, 2) := by decide +kernel
theorem d_i1_36 : decode prog_3_method_1_code 36 = .ok (.putfield 24, 3) := by decide +kernel
theorem d_i1_39 : decode prog_3_method_1_code 39 = .ok (.return_, 1) := by decide +kernel
def y_i2 : MethodName := ⟨"BurningSlips$Lines", "<init>", "()V"⟩
theorem d_i2_0 : decode prog_4_method_1_code 0 = .ok (.aload_n 0, 1) := by decide +kernel
theorem d_i2_1 : decode prog_4_method_1_code 1 = .ok (.invokespecial 3, 3) := by decide +kernel
theorem d_i2_4 : decode prog_4_method_1_code 4 = .ok (.aload_n 0, 1) := by decide +kernel
theorem d_i2_5 : decode prog_4_method_1_code 5 = .ok (.bipush 60, 2) := by decide +kernel
theorem d_i2_7 : decode prog_4_method_1_code 7 = .ok (.newarray .int, 2) := by decide +kernel
theorem d_i2_9 : decode prog_4_method_1_code 9 = .ok (.putfield 9, 3) := by decide +kernel
theorem d_i2_12 : decode prog_4_method_1_code 12 = .ok (.aload_n 0, 1) := by decide +kernel
theorem d_i2_13 : decode prog_4_method_1_code 13 = .ok (.bipush 60, 2) := by decide +kernel
theorem d_i2_15 : decode prog_4_method_1_code 15 = .ok (.newarray .int, 2) := by decide +kernel
theorem d_i2_17 : decode prog_4_method_1_code 17 = .ok (.putfield 15, 3) := by decide +kernel
theorem d_i2_20 : decode prog_4_method_1_code 20 = .ok (.aload_n 0, 1) := by decide +kernel
theorem d_i2_21 : decode prog_4_method_1_code 21 = .ok (.bipush 60, 2) := by decide +kernel
theorem d_i2_23 : decode prog_4_method_1_code 23 = .ok (.newarray .int, 2) := by decide +kernel
theorem d_i2_25 : decode prog_4_method_1_code 25 = .ok (.putfield 18, 3) := by decide +kernel
theorem d_i2_28 : decode prog_4_method_1_code 28 = .ok (.aload_n 0, 1) := by decide +kernel
theorem d_i2_29 : decode prog_4_method_1_code 29 = .ok (.bipush 60, 2) := by decide +kernel
theorem d_i2_31 : decode prog_4_method_1_code 31 = .ok (.newarray .int, 2) := by decide +kernel
theorem d_i2_33 : decode prog_4_method_1_code 33 = .ok (.putfield 21, 3) := by decide +kernel
theorem d_i2_36 : decode prog_4_method_1_code 36 = .ok (.aload_n 0, 1) := by decide +kernel
theorem d_i2_37 : decode prog_4_method_1_code 37 = .ok (.bipush 60, 2) := by decide +kernel
theorem d_i2_39 : decode prog_4_method_1_code 39 = .ok (.newarray .int, 2) := by decide +kernel
theorem d_i2_41 : decode prog_4_method_1_code 41 = .ok (.putfield 24, 3) := by decide +kernel
theorem d_i2_44 : decode prog_4_method_1_code 44 = .ok (.aload_n 0, 1) := by decide +kernel
theorem d_i2_45 : decode prog_4_method_1_code 45 = .ok (.bipush 60, 2) := by decide +kernel
theorem d_i2_47 : decode prog_4_method_1_code 47 = .ok (.newarray .int, 2) := by decide +kernel
theorem d_i2_49 : decode prog_4_method_1_code 49 = .ok (.putfield 27, 3) := by decide +kernel
theorem d_i2_52 : decode prog_4_method_1_code 52 = .ok (.aload_n 0, 1) := by decide +kernel
theorem d_i2_53 : decode prog_4_method_1_code 53 = .ok (.bipush 60, 2) := by decide +kernel
theorem d_i2_55 : decode prog_4_method_1_code 55 = .ok (.newarray .int, 2) := by decide +kernel
theorem d_i2_57 : decode prog_4_method_1_code 57 = .ok (.putfield 30, 3) := by decide +kernel
theorem d_i2_60 : decode prog_4_method_1_code 60 = .ok (.aload_n 0, 1) := by decide +kernel
theorem d_i2_61 : decode prog_4_method_1_code 61 = .ok (.bipush 60, 2) := by decide +kernel
theorem d_i2_63 : decode prog_4_method_1_code 63 = .ok (.newarray .int, 2) := by decide +kernel
theorem d_i2_65 : decode prog_4_method_1_code 65 = .ok (.putfield 33, 3) := by decide +kernel
theorem d_i2_68 : decode prog_4_method_1_code 68 = .ok (.aload_n 0, 1) := by decide +kernel
theorem d_i2_69 : decode prog_4_method_1_code 69 = .ok (.bipush 60, 2) := by decide +kernel
theorem d_i2_71 : decode prog_4_method_1_code 71 = .ok (.newarray .int, 2) := by decide +kernel
theorem d_i2_73 : decode prog_4_method_1_code 73 = .ok (.putfield 36, 3) := by decide +kernel
theorem d_i2_76 : decode prog_4_method_1_code 76 = .ok (.aload_n 0, 1) := by decide +kernel
theorem d_i2_77 : decode prog_4_method_1_code 77 = .ok (.sipush 1000, 3) := by decide +kernel
theorem d_i2_80 : decode prog_4_method_1_code 80 = .ok (.newarray .int, 2) := by decide +kernel
theorem d_i2_82 : decode prog_4_method_1_code 82 = .ok (.putfield 39, 3) := by decide +kernel
theorem d_i2_85 : decode prog_4_method_1_code 85 = .ok (.return_, 1) := by decide +kernel
def y_i3 : MethodName := ⟨"BurningSlips$Machine", "<init>", "(LBurningSlips$Reckoner;Z)V"⟩
theorem d_i3_0 : decode prog_5_method_1_code 0 = .ok (.aload_n 0, 1) := by decide +kernel
theorem d_i3_1 : decode prog_5_method_1_code 1 = .ok (.invokespecial 3, 3) := by decide +kernel
theorem d_i3_4 : decode prog_5_method_1_code 4 = .ok (.aload_n 0, 1) := by decide +kernel
theorem d_i3_5 : decode prog_5_method_1_code 5 = .ok (.bipush 16, 2) := by decide +kernel
theorem d_i3_7 : decode prog_5_method_1_code 7 = .ok (.newarray .int, 2) := by decide +kernel
theorem d_i3_9 : decode prog_5_method_1_code 9 = .ok (.putfield 9, 3) := by decide +kernel
theorem d_i3_12 : decode prog_5_method_1_code 12 = .ok (.aload_n 0, 1) := by decide +kernel
theorem d_i3_13 : decode prog_5_method_1_code 13 = .ok (.bipush 16, 2) := by decide +kernel
theorem d_i3_15 : decode prog_5_method_1_code 15 = .ok (.newarray .int, 2) := by decide +kernel
theorem d_i3_17 : decode prog_5_method_1_code 17 = .ok (.putfield 15, 3) := by decide +kernel
theorem d_i3_20 : decode prog_5_method_1_code 20 = .ok (.aload_n 0, 1) := by decide +kernel
theorem d_i3_21 : decode prog_5_method_1_code 21 = .ok (.sipush 160, 3) := by decide +kernel
theorem d_i3_24 : decode prog_5_method_1_code 24 = .ok (.newarray .int, 2) := by decide +kernel
theorem d_i3_26 : decode prog_5_method_1_code 26 = .ok (.putfield 18, 3) := by decide +kernel
theorem d_i3_29 : decode prog_5_method_1_code 29 = .ok (.aload_n 0, 1) := by decide +kernel
theorem d_i3_30 : decode prog_5_method_1_code 30 = .ok (.bipush 99, 2) := by decide +kernel
theorem d_i3_32 : decode prog_5_method_1_code 32 = .ok (.putfield 21, 3) := by decide +kernel
theorem d_i3_35 : decode prog_5_method_1_code 35 = .ok (.aload_n 0, 1) := by decide +kernel
theorem d_i3_36 : decode prog_5_method_1_code 36 = .ok (.iconst 1, 1) := by decide +kernel
theorem d_i3_37 : decode prog_5_method_1_code 37 = .ok (.putfield 25, 3) := by decide +kernel
theorem d_i3_40 : decode prog_5_method_1_code 40 = .ok (.aload_n 0, 1) := by decide +kernel
theorem d_i3_41 : decode prog_5_method_1_code 41 = .ok (.aload_n 1, 1) := by decide +kernel
theorem d_i3_42 : decode prog_5_method_1_code 42 = .ok (.putfield 28, 3) := by decide +kernel
theorem d_i3_45 : decode prog_5_method_1_code 45 = .ok (.aload_n 0, 1) := by decide +kernel
theorem d_i3_46 : decode prog_5_method_1_code 46 = .ok (.iload_n 2, 1) := by decide +kernel
theorem d_i3_47 : decode prog_5_method_1_code 47 = .ok (.putfield 32, 3) := by decide +kernel
theorem d_i3_50 : decode prog_5_method_1_code 50 = .ok (.return_, 1) := by decide +kernel
def y_i4 : MethodName := ⟨"BurningSlips$Orders", "<init>", "()V"⟩
theorem d_i4_0 : decode prog_6_method_1_code 0 = .ok (.aload_n 0, 1) := by decide +kernel
theorem d_i4_1 : decode prog_6_method_1_code 1 = .ok (.invokespecial 3, 3) := by decide +kernel
theorem d_i4_4 : decode prog_6_method_1_code 4 = .ok (.aload_n 0, 1) := by decide +kernel
theorem d_i4_5 : decode prog_6_method_1_code 5 = .ok (.bipush 110, 2) := by decide +kernel
theorem d_i4_7 : decode prog_6_method_1_code 7 = .ok (.newarray .int, 2) := by decide +kernel
theorem d_i4_9 : decode prog_6_method_1_code 9 = .ok (.putfield 9, 3) := by decide +kernel
theorem d_i4_12 : decode prog_6_method_1_code 12 = .ok (.aload_n 0, 1) := by decide +kernel
theorem d_i4_13 : decode prog_6_method_1_code 13 = .ok (.bipush 10, 2) := by decide +kernel
theorem d_i4_15 : decode prog_6_method_1_code 15 = .ok (.newarray .int, 2) := by decide +kernel
theorem d_i4_17 : decode prog_6_method_1_code 17 = .ok (.putfield 15, 3) := by decide +kernel
theorem d_i4_20 : decode prog_6_method_1_code 20 = .ok (.aload_n 0, 1) := by decide +kernel
theorem d_i4_21 : decode prog_6_method_1_code 21 = .ok (.bipush 10, 2) := by decide +kernel
theorem d_i4_23 : decode prog_6_method_1_code 23 = .ok (.newarray .int, 2) := by decide +kernel
theorem d_i4_25 : decode prog_6_method_1_code 25 = .ok (.putfield 18, 3) := by decide +kernel
theorem d_i4_28 : decode prog_6_method_1_code 28 = .ok (.aload_n 0, 1) := by decide +kernel
theorem d_i4_29 : decode prog_6_method_1_code 29 = .ok (.bipush 10, 2) := by decide +kernel
theorem d_i4_31 : decode prog_6_method_1_code 31 = .ok (.newarray .int, 2) := by decide +kernel
theorem d_i4_33 : decode prog_6_method_1_code 33 = .ok (.putfield 21, 3) := by decide +kernel
theorem d_i4_36 : decode prog_6_method_1_code 36 = .ok (.aload_n 0, 1) := by decide +kernel
theorem d_i4_37 : decode prog_6_method_1_code 37 = .ok (.sipush 1024, 3) := by decide +kernel
theorem d_i4_40 : decode prog_6_method_1_code 40 = .ok (.newarray .int, 2) := by decide +kernel
theorem d_i4_42 : decode prog_6_method_1_code 42 = .ok (.putfield 24, 3) := by decide +kernel
theorem d_i4_45 : decode prog_6_method_1_code 45 = .ok (.aload_n 0, 1) := by decide +kernel
theorem d_i4_46 : decode prog_6_method_1_code 46 = .ok (.sipush 1024, 3) := by decide +kernel
theorem d_i4_49 : decode prog_6_method_1_code 49 = .ok (.newarray .int, 2) := by decide +kernel
theorem d_i4_51 : decode prog_6_method_1_code 51 = .ok (.putfield 27, 3) := by decide +kernel
theorem d_i4_54 : decode prog_6_method_1_code 54 = .ok (.aload_n 0, 1) := by decide +kernel
theorem d_i4_55 : decode prog_6_method_1_code 55 = .ok (.sipush 1024, 3) := by decide +kernel
theorem d_i4_58 : decode prog_6_method_1_code 58 = .ok (.newarray .long, 2) := by decide +kernel
theorem d_i4_60 : decode prog_6_method_1_code 60 = .ok (.putfield 30, 3) := by decide +kernel
theorem d_i4_63 : decode prog_6_method_1_code 63 = .ok (.aload_n 0, 1) := by decide +kernel
theorem d_i4_64 : decode prog_6_method_1_code 64 = .ok (.iconst (-1), 1) := by decide +kernel
theorem d_i4_65 : decode prog_6_method_1_code 65 = .ok (.putfield 34, 3) := by decide +kernel
theorem d_i4_68 : decode prog_6_method_1_code 68 = .ok (.return_, 1) := by decide +kernel
def y_i6 : MethodName := ⟨"BurningSlips$Reckoner", "<init>", "()V"⟩
theorem d_i6_0 : decode prog_8_method_1_code 0 = .ok (.aload_n 0, 1) := by decide +kernel
theorem d_i6_1 : decode prog_8_method_1_code 1 = .ok (.invokespecial 3, 3) := by decide +kernel
theorem d_i6_4 : decode prog_8_method_1_code 4 = .ok (.aload_n 0, 1) := by decide +kernel
theorem d_i6_5 : decode prog_8_method_1_code 5 = .ok (.bipush 64, 2) := by decide +kernel
theorem d_i6_7 : decode prog_8_method_1_code 7 = .ok (.newarray .int, 2) := by decide +kernel
theorem d_i6_9 : decode prog_8_method_1_code 9 = .ok (.putfield 9, 3) := by decide +kernel
theorem d_i6_12 : decode prog_8_method_1_code 12 = .ok (.return_, 1) := by decide +kernel
def y_i8 : MethodName := ⟨"BurningSlips$Ways", "<init>", "()V"⟩
theorem d_i8_0 : decode prog_10_method_1_code 0 = .ok (.aload_n 0, 1) := by decide +kernel
theorem d_i8_1 : decode prog_10_method_1_code 1 = .ok (.invokespecial 3, 3) := by decide +kernel
theorem d_i8_4 : decode prog_10_method_1_code 4 = .ok (.aload_n 0, 1) := by decide +kernel
theorem d_i8_5 : decode prog_10_method_1_code 5 = .ok (.iconst 3, 1) := by decide +kernel
theorem d_i8_6 : decode prog_10_method_1_code 6 = .ok (.newarray .int, 2) := by decide +kernel
theorem d_i8_8 : decode prog_10_method_1_code 8 = .ok (.putfield 9, 3) := by decide +kernel
theorem d_i8_11 : decode prog_10_method_1_code 11 = .ok (.aload_n 0, 1) := by decide +kernel
theorem d_i8_12 : decode prog_10_method_1_code 12 = .ok (.iconst 3, 1) := by decide +kernel
theorem d_i8_13 : decode prog_10_method_1_code 13 = .ok (.newarray .int, 2) := by decide +kernel
theorem d_i8_15 : decode prog_10_method_1_code 15 = .ok (.putfield 15, 3) := by decide +kernel
theorem d_i8_18 : decode prog_10_method_1_code 18 = .ok (.aload_n 0, 1) := by decide +kernel
theorem d_i8_19 : decode prog_10_method_1_code 19 = .ok (.iconst 3, 1) := by decide +kernel
theorem d_i8_20 : decode prog_10_method_1_code 20 = .ok (.newarray .int, 2) := by decide +kernel
theorem d_i8_22 : decode prog_10_method_1_code 22 = .ok (.putfield 18, 3) := by decide +kernel
theorem d_i8_25 : decode prog_10_method_1_code 25 = .ok (.aload_n 0, 1) := by decide +kernel
theorem d_i8_26 : decode prog_10_method_1_code 26 = .ok (.iconst 3, 1) := by decide +kernel
theorem d_i8_27 : decode prog_10_method_1_code 27 = .ok (.newarray .int, 2) := by decide +kernel
theorem d_i8_29 : decode prog_10_method_1_code 29 = .ok (.putfield 21, 3) := by decide +kernel
theorem d_i8_32 : decode prog_10_method_1_code 32 = .ok (.aload_n 0, 1) := by decide +kernel
theorem d_i8_33 : decode prog_10_method_1_code 33 = .ok (.bipush 10, 2) := by decide +kernel
theorem d_i8_35 : decode prog_10_method_1_code 35 = .ok (.newarray .int, 2) := by decide +kernel
theorem d_i8_37 : decode prog_10_method_1_code 37 = .ok (.putfield 24, 3) := by decide +kernel
theorem d_i8_40 : decode prog_10_method_1_code 40 = .ok (.aload_n 0, 1) := by decide +kernel
theorem d_i8_41 : decode prog_10_method_1_code 41 = .ok (.bipush 60, 2) := by decide +kernel
theorem d_i8_43 : decode prog_10_method_1_code 43 = .ok (.newarray .int, 2) := by decide +kernel
theorem d_i8_45 : decode prog_10_method_1_code 45 = .ok (.putfield 27, 3) := by decide +kernel
theorem d_i8_48 : decode prog_10_method_1_code 48 = .ok (.aload_n 0, 1) := by decide +kernel
theorem d_i8_49 : decode prog_10_method_1_code 49 = .ok (.bipush 60, 2) := by decide +kernel
theorem d_i8_51 : decode prog_10_method_1_code 51 = .ok (.newarray .int, 2) := by decide +kernel
theorem d_i8_53 : decode prog_10_method_1_code 53 = .ok (.putfield 30, 3) := by decide +kernel
theorem d_i8_56 : decode prog_10_method_1_code 56 = .ok (.aload_n 0, 1) := by decide +kernel
theorem d_i8_57 : decode prog_10_method_1_code 57 = .ok (.iconst 4, 1) := by decide +kernel
theorem d_i8_58 : decode prog_10_method_1_code 58 = .ok (.newarray .int, 2) := by decide +kernel
theorem d_i8_60 : decode prog_10_method_1_code 60 = .ok (.putfield 33, 3) := by decide +kernel
theorem d_i8_63 : decode prog_10_method_1_code 63 = .ok (.aload_n 0, 1) := by decide +kernel
theorem d_i8_64 : decode prog_10_method_1_code 64 = .ok (.iconst (-1), 1) := by decide +kernel
theorem d_i8_65 : decode prog_10_method_1_code 65 = .ok (.putfield 36, 3) := by decide +kernel
theorem d_i8_68 : decode prog_10_method_1_code 68 = .ok (.return_, 1) := by decide +kernel
set_option maxHeartbeats 4000000 in
set_option maxRecDepth 20000 in
theorem k_Lines_101 (l : Launch) (dC : Nat → ClassId) (dI : Nat → Nat → Nat) (cT : Nat → ClassId) (ad : Int → Nat) (sz : Nat) : Met l y_i2 (Cond.code y_i2 prog_4_method_1_code 1 none :: am_tG) ({ frames := 4, cells := 10, slots := 1540, locals := 60 } : Room) (ct_Pc dC dI cT [.ref (ad 101)] ([(ad 101, .inr (2, ct_f0 2))] : va_W) sz) (ct_Qc dC dI cT am_i0 ad [(101, 12, 0), (102, 0, 60), (103, 0, 60), (104, 0, 60), (105, 0, 60), (106, 0, 60), (107, 0, 60), (108, 0, 60), (109, 0, 60), (110, 0, 60), (111, 0, 1000)] [102, 103, 104, 105, 106, 107, 108, 109, 110, 111] (va_A ([(ad 101, .inr (2, ct_f0 2))] : va_W) sz)) 10 1540 (va_A ([(ad 101, .inr (2, ct_f0 2))] : va_W) sz) := by
  refine ct_met l dC dI cT (by decide) rfl (Nat.le_of_ble_eq_true rfl) ({ frames := 4, cells := 10, slots := 1540, locals := 60 } : Room) sz ?_
  intro p e s m args below meth c A larr C0 hnm hr hlocks hA hP hD hl
  have hx := C0.1
  have hb := C0.2.1
  have hS : va_S A s.heap s.heap [] := va_S.rf
  have hl0 : larr[0]? = some (.val (.ref (ad 101))) := lv_at hl 0 rfl
  have hb0 : ∀ y, y ∉ ([] : List Int) → ad y = ad y := fun _ _ => rfl
  rw [ct_fp_new (ad := ad) (μ := am_i0) (c := 101) (ci := 2) (pd := [0, 1, 2, 3, 4, 5, 6, 7, 8, 9]) (by decide +kernel)] at hP hD
  have hP : va_P (dC, dI) g_cl ((ad 101, .inr (2, ct_fp ad am_i0 101 2 [0, 1, 2, 3, 4, 5, 6, 7, 8, 9])) :: am_wdL [] ad cT am_i0) s.heap := hP
  have hD : va_D A ((ad 101, .inr (2, ct_fp ad am_i0 101 2 [0, 1, 2, 3, 4, 5, 6, 7, 8, 9])) :: am_wdL [] ad cT am_i0) := hD
  refine ct_sup C0 hl.1 hl0 (am_mem_t (g_mem1 133 rfl) rfl) d_i2_0 d_i2_1 (by decide) (by decide) ?_
  refine ct_arr C0 hnm hA (ad := ad) (pd := [0, 1, 2, 3, 4, 5, 6, 7, 8, 9]) (dn := []) hP hD hS hl0 (k := 0) (idx := 9) (pc := 4) (t := 0) (N := 60) (ln := 2) (x := 102) (off := 1) (pd' := [1, 2, 3, 4, 5, 6, 7, 8, 9]) (dn' := [(102, 0, 60)]) (CN := g_R2) (TN := g_T2) (NF := 12) rfl (by decide) (am_mem_t (g_mem1 134 rfl) rfl) rfl rfl (et := .int) (by decide +kernel) rfl rfl (by decide) (Or.inl ⟨rfl, rfl⟩) (by decide) (fun j => i0_z 102 (by decide) j) (by decide +kernel) (by decide +kernel) rfl rfl (by decide +kernel) d_i2_4 d_i2_5 d_i2_7 d_i2_9 (Nat.le_of_ble_eq_true rfl) (Nat.le_of_ble_eq_true rfl) (fun H locs ad1 ha1 hP hD hS => ?_)
  have hb1 := ct_tr hb0 ha1
  refine ct_arr C0 hnm hA (ad := ad1) (pd := [1, 2, 3, 4, 5, 6, 7, 8, 9]) (dn := [(102, 0, 60)]) hP hD hS hl0 (k := 1) (idx := 15) (pc := 12) (t := 0) (N := 60) (ln := 2) (x := 103) (off := 2) (pd' := [2, 3, 4, 5, 6, 7, 8, 9]) (dn' := [(102, 0, 60), (103, 0, 60)]) (CN := g_R2) (TN := g_T2) (NF := 12) rfl (by decide) (am_mem_t (g_mem1 141 rfl) rfl) rfl rfl (et := .int) (by decide +kernel) rfl rfl (by decide) (Or.inl ⟨rfl, rfl⟩) (by decide) (fun j => i0_z 103 (by decide) j) (by decide +kernel) (by decide +kernel) rfl rfl (by decide +kernel) d_i2_12 d_i2_13 d_i2_15 d_i2_17 (Nat.le_of_ble_eq_true rfl) (Nat.le_of_ble_eq_true rfl) (fun H locs ad2 ha2 hP hD hS => ?_)
  have hb2 := ct_tr hb1 ha2
  refine ct_arr C0 hnm hA (ad := ad2) (pd := [2, 3, 4, 5, 6, 7, 8, 9]) (dn := [(102, 0, 60), (103, 0, 60)]) hP hD hS hl0 (k := 2) (idx := 18) (pc := 20) (t := 0) (N := 60) (ln := 2) (x := 104) (off := 3) (pd' := [3, 4, 5, 6, 7, 8, 9]) (dn' := [(102, 0, 60), (103, 0, 60), (104, 0, 60)]) (CN := g_R2) (TN := g_T2) (NF := 12) rfl (by decide) (am_mem_t (g_mem1 147 rfl) rfl) rfl rfl (et := .int) (by decide +kernel) rfl rfl (by decide) (Or.inl ⟨rfl, rfl⟩) (by decide) (fun j => i0_z 104 (by decide) j) (by decide +kernel) (by decide +kernel) rfl rfl (by decide +kernel) d_i2_20 d_i2_21 d_i2_23 d_i2_25 (Nat.le_of_ble_eq_true rfl) (Nat.le_of_ble_eq_true rfl) (fun H locs ad3 ha3 hP hD hS => ?_)
  have hb3 := ct_tr hb2 ha3
  refine ct_arr C0 hnm hA (ad := ad3) (pd := [3, 4, 5, 6, 7, 8, 9]) (dn := [(102, 0, 60), (103, 0, 60), (104, 0, 60)]) hP hD hS hl0 (k := 3) (idx := 21) (pc := 28) (t := 0) (N := 60) (ln := 2) (x := 105) (off := 4) (pd' := [4, 5, 6, 7, 8, 9]) (dn' := [(102, 0, 60), (103, 0, 60), (104, 0, 60), (105, 0, 60)]) (CN := g_R2) (TN := g_T2) (NF := 12) rfl (by decide) (am_mem_t (g_mem1 153 rfl) rfl) rfl rfl (et := .int) (by decide +kernel) rfl rfl (by decide) (Or.inl ⟨rfl, rfl⟩) (by decide) (fun j => i0_z 105 (by decide) j) (by decide +kernel) (by decide +kernel) rfl rfl (by decide +kernel) d_i2_28 d_i2_29 d_i2_31 d_i2_33 (Nat.le_of_ble_eq_true rfl) (Nat.le_of_ble_eq_true rfl) (fun H locs ad4 ha4 hP hD hS => ?_)
  have hb4 := ct_tr hb3 ha4
  refine ct_arr C0 hnm hA (ad := ad4) (pd := [4, 5, 6, 7, 8, 9]) (dn := [(102, 0, 60), (103, 0, 60), (104, 0, 60), (105, 0, 60)]) hP hD hS hl0 (k := 4) (idx := 24) (pc := 36) (t := 0) (N := 60) (ln := 2) (x := 106) (off := 5) (pd' := [5, 6, 7, 8, 9]) (dn' := [(102, 0, 60), (103, 0, 60), (104, 0, 60), (105, 0, 60), (106, 0, 60)]) (CN := g_R2) (TN := g_T2) (NF := 12) rfl (by decide) (am_mem_t (g_mem1 157 rfl) rfl) rfl rfl (et := .int) (by decide +kernel) rfl rfl (by decide) (Or.inl ⟨rfl, rfl⟩) (by decide) (fun j => i0_z 106 (by decide) j) (by decide +kernel) (by decide +kernel) rfl rfl (by decide +kernel) d_i2_36 d_i2_37 d_i2_39 d_i2_41 (Nat.le_of_ble_eq_true rfl) (Nat.le_of_ble_eq_true rfl) (fun H locs ad5 ha5 hP hD hS => ?_)
  have hb5 := ct_tr hb4 ha5
  refine ct_arr C0 hnm hA (ad := ad5) (pd := [5, 6, 7, 8, 9]) (dn := [(102, 0, 60), (103, 0, 60), (104, 0, 60), (105, 0, 60), (106, 0, 60)]) hP hD hS hl0 (k := 5) (idx := 27) (pc := 44) (t := 0) (N := 60) (ln := 2) (x := 107) (off := 6) (pd' := [6, 7, 8, 9]) (dn' := [(102, 0, 60), (103, 0, 60), (104, 0, 60), (105, 0, 60), (106, 0, 60), (107, 0, 60)]) (CN := g_R2) (TN := g_T2) (NF := 12) rfl (by decide) (am_mem_t (g_mem1 162 rfl) rfl) rfl rfl (et := .int) (by decide +kernel) rfl rfl (by decide) (Or.inl ⟨rfl, rfl⟩) (by decide) (fun j => i0_z 107 (by decide) j) (by decide +kernel) (by decide +kernel) rfl rfl (by decide +kernel) d_i2_44 d_i2_45 d_i2_47 d_i2_49 (Nat.le_of_ble_eq_true rfl) (Nat.le_of_ble_eq_true rfl) (fun H locs ad6 ha6 hP hD hS => ?_)
  have hb6 := ct_tr hb5 ha6
  refine ct_arr C0 hnm hA (ad := ad6) (pd := [6, 7, 8, 9]) (dn := [(102, 0, 60), (103, 0, 60), (104, 0, 60), (105, 0, 60), (106, 0, 60), (107, 0, 60)]) hP hD hS hl0 (k := 6) (idx := 30) (pc := 52) (t := 0) (N := 60) (ln := 2) (x := 108) (off := 7) (pd' := [7, 8, 9]) (dn' := [(102, 0, 60), (103, 0, 60), (104, 0, 60), (105, 0, 60), (106, 0, 60), (107, 0, 60), (108, 0, 60)]) (CN := g_R2) (TN := g_T2) (NF := 12) rfl (by decide) (am_mem_t (g_mem1 166 rfl) rfl) rfl rfl (et := .int) (by decide +kernel) rfl rfl (by decide) (Or.inl ⟨rfl, rfl⟩) (by decide) (fun j => i0_z 108 (by decide) j) (by decide +kernel) (by decide +kernel) rfl rfl (by decide +kernel) d_i2_52 d_i2_53 d_i2_55 d_i2_57 (Nat.le_of_ble_eq_true rfl) (Nat.le_of_ble_eq_true rfl) (fun H locs ad7 ha7 hP hD hS => ?_)
  have hb7 := ct_tr hb6 ha7
  refine ct_arr C0 hnm hA (ad := ad7) (pd := [7, 8, 9]) (dn := [(102, 0, 60), (103, 0, 60), (104, 0, 60), (105, 0, 60), (106, 0, 60), (107, 0, 60), (108, 0, 60)]) hP hD hS hl0 (k := 7) (idx := 33) (pc := 60) (t := 0) (N := 60) (ln := 2) (x := 109) (off := 8) (pd' := [8, 9]) (dn' := [(102, 0, 60), (103, 0, 60), (104, 0, 60), (105, 0, 60), (106, 0, 60), (107, 0, 60), (108, 0, 60), (109, 0, 60)]) (CN := g_R2) (TN := g_T2) (NF := 12) rfl (by decide) (am_mem_t (g_mem1 169 rfl) rfl) rfl rfl (et := .int) (by decide +kernel) rfl rfl (by decide) (Or.inl ⟨rfl, rfl⟩) (by decide) (fun j => i0_z 109 (by decide) j) (by decide +kernel) (by decide +kernel) rfl rfl (by decide +kernel) d_i2_60 d_i2_61 d_i2_63 d_i2_65 (Nat.le_of_ble_eq_true rfl) (Nat.le_of_ble_eq_true rfl) (fun H locs ad8 ha8 hP hD hS => ?_)
  have hb8 := ct_tr hb7 ha8
  refine ct_arr C0 hnm hA (ad := ad8) (pd := [8, 9]) (dn := [(102, 0, 60), (103, 0, 60), (104, 0, 60), (105, 0, 60), (106, 0, 60), (107, 0, 60), (108, 0, 60), (109, 0, 60)]) hP hD hS hl0 (k := 8) (idx := 36) (pc := 68) (t := 0) (N := 60) (ln := 2) (x := 110) (off := 9) (pd' := [9]) (dn' := [(102, 0, 60), (103, 0, 60), (104, 0, 60), (105, 0, 60), (106, 0, 60), (107, 0, 60), (108, 0, 60), (109, 0, 60), (110, 0, 60)]) (CN := g_R2) (TN := g_T2) (NF := 12) rfl (by decide) (am_mem_t (g_mem1 174 rfl) rfl) rfl rfl (et := .int) (by decide +kernel) rfl rfl (by decide) (Or.inl ⟨rfl, rfl⟩) (by decide) (fun j => i0_z 110 (by decide) j) (by decide +kernel) (by decide +kernel) rfl rfl (by decide +kernel) d_i2_68 d_i2_69 d_i2_71 d_i2_73 (Nat.le_of_ble_eq_true rfl) (Nat.le_of_ble_eq_true rfl) (fun H locs ad9 ha9 hP hD hS => ?_)
  have hb9 := ct_tr hb8 ha9
  refine ct_arr C0 hnm hA (ad := ad9) (pd := [9]) (dn := [(102, 0, 60), (103, 0, 60), (104, 0, 60), (105, 0, 60), (106, 0, 60), (107, 0, 60), (108, 0, 60), (109, 0, 60), (110, 0, 60)]) hP hD hS hl0 (k := 9) (idx := 39) (pc := 76) (t := 0) (N := 1000) (ln := 3) (x := 111) (off := 10) (pd' := []) (dn' := [(102, 0, 60), (103, 0, 60), (104, 0, 60), (105, 0, 60), (106, 0, 60), (107, 0, 60), (108, 0, 60), (109, 0, 60), (110, 0, 60), (111, 0, 1000)]) (CN := g_R2) (TN := g_T2) (NF := 12) rfl (by decide) (am_mem_t (g_mem1 178 rfl) rfl) rfl rfl (et := .int) (by decide +kernel) rfl rfl (by decide) (Or.inl ⟨rfl, rfl⟩) (by decide) (fun j => i0_z 111 (by decide) j) (by decide +kernel) (by decide +kernel) rfl rfl (by decide +kernel) d_i2_76 d_i2_77 d_i2_80 d_i2_82 (Nat.le_of_ble_eq_true rfl) (Nat.le_of_ble_eq_true rfl) (fun H locs ad10 ha10 hP hD hS => ?_)
  have hb10 := ct_tr hb9 ha10
  exact ct_end C0 hr hlocks (ci := 2) (h0 := ad 101) (hb10 101 (by decide)) hb10 rfl hP hD hS d_i2_85
set_option maxHeartbeats 4000000 in
set_option maxRecDepth 20000 in
theorem k_Lines_201 (l : Launch) (dC : Nat → ClassId) (dI : Nat → Nat → Nat) (cT : Nat → ClassId) (ad : Int → Nat) (sz : Nat) : Met l y_i2 (Cond.code y_i2 prog_4_method_1_code 1 none :: am_tG) ({ frames := 4, cells := 10, slots := 1540, locals := 60 } : Room) (ct_Pc dC dI cT [.ref (ad 201)] ([(ad 201, .inr (2, ct_f0 2))] : va_W) sz) (ct_Qc dC dI cT am_i0 ad [(201, 12, 0), (202, 0, 60), (203, 0, 60), (204, 0, 60), (205, 0, 60), (206, 0, 60), (207, 0, 60), (208, 0, 60), (209, 0, 60), (210, 0, 60), (211, 0, 1000)] [202, 203, 204, 205, 206, 207, 208, 209, 210, 211] (va_A ([(ad 201, .inr (2, ct_f0 2))] : va_W) sz)) 10 1540 (va_A ([(ad 201, .inr (2, ct_f0 2))] : va_W) sz) := by
  refine ct_met l dC dI cT (by decide) rfl (Nat.le_of_ble_eq_true rfl) ({ frames := 4, cells := 10, slots := 1540, locals := 60 } : Room) sz ?_
  intro p e s m args below meth c A larr C0 hnm hr hlocks hA hP hD hl
  have hx := C0.1
  have hb := C0.2.1
  have hS : va_S A s.heap s.heap [] := va_S.rf
  have hl0 : larr[0]? = some (.val (.ref (ad 201))) := lv_at hl 0 rfl
  have hb0 : ∀ y, y ∉ ([] : List Int) → ad y = ad y := fun _ _ => rfl
  rw [ct_fp_new (ad := ad) (μ := am_i0) (c := 201) (ci := 2) (pd := [0, 1, 2, 3, 4, 5, 6, 7, 8, 9]) (by decide +kernel)] at hP hD
  have hP : va_P (dC, dI) g_cl ((ad 201, .inr (2, ct_fp ad am_i0 201 2 [0, 1, 2, 3, 4, 5, 6, 7, 8, 9])) :: am_wdL [] ad cT am_i0) s.heap := hP
  have hD : va_D A ((ad 201, .inr (2, ct_fp ad am_i0 201 2 [0, 1, 2, 3, 4, 5, 6, 7, 8, 9])) :: am_wdL [] ad cT am_i0) := hD
  refine ct_sup C0 hl.1 hl0 (am_mem_t (g_mem1 133 rfl) rfl) d_i2_0 d_i2_1 (by decide) (by decide) ?_
  refine ct_arr C0 hnm hA (ad := ad) (pd := [0, 1, 2, 3, 4, 5, 6, 7, 8, 9]) (dn := []) hP hD hS hl0 (k := 0) (idx := 9) (pc := 4) (t := 0) (N := 60) (ln := 2) (x := 202) (off := 1) (pd' := [1, 2, 3, 4, 5, 6, 7, 8, 9]) (dn' := [(202, 0, 60)]) (CN := g_R2) (TN := g_T2) (NF := 12) rfl (by decide) (am_mem_t (g_mem1 134 rfl) rfl) rfl rfl (et := .int) (by decide +kernel) rfl rfl (by decide) (Or.inl ⟨rfl, rfl⟩) (by decide) (fun j => i0_z 202 (by decide) j) (by decide +kernel) (by decide +kernel) rfl rfl (by decide +kernel) d_i2_4 d_i2_5 d_i2_7 d_i2_9 (Nat.le_of_ble_eq_true rfl) (Nat.le_of_ble_eq_true rfl) (fun H locs ad1 ha1 hP hD hS => ?_)
  have hb1 := ct_tr hb0 ha1
  refine ct_arr C0 hnm hA (ad := ad1) (pd := [1, 2, 3, 4, 5, 6, 7, 8, 9]) (dn := [(202, 0, 60)]) hP hD hS hl0 (k := 1) (idx := 15) (pc := 12) (t := 0) (N := 60) (ln := 2) (x := 203) (off := 2) (pd' := [2, 3, 4, 5, 6, 7, 8, 9]) (dn' := [(202, 0, 60), (203, 0, 60)]) (CN := g_R2) (TN := g_T2) (NF := 12) rfl (by decide) (am_mem_t (g_mem1 141 rfl) rfl) rfl rfl (et := .int) (by decide +kernel) rfl rfl (by decide) (Or.inl ⟨rfl, rfl⟩) (by decide) (fun j => i0_z 203 (by decide) j) (by decide +kernel) (by decide +kernel) rfl rfl (by decide +kernel) d_i2_12 d_i2_13 d_i2_15 d_i2_17 (Nat.le_of_ble_eq_true rfl) (Nat.le_of_ble_eq_true rfl) (fun H locs ad2 ha2 hP hD hS => ?_)
  have hb2 := ct_tr hb1 ha2
  refine ct_arr C0 hnm hA (ad := ad2) (pd := [2, 3, 4, 5, 6, 7, 8, 9]) (dn := [(202, 0, 60), (203, 0, 60)]) hP hD hS hl0 (k := 2) (idx := 18) (pc := 20) (t := 0) (N := 60) (ln := 2) (x := 204) (off := 3) (pd' := [3, 4, 5, 6, 7, 8, 9]) (dn' := [(202, 0, 60), (203, 0, 60), (204, 0, 60)]) (CN := g_R2) (TN := g_T2) (NF := 12) rfl (by decide) (am_mem_t (g_mem1 147 rfl) rfl) rfl rfl (et := .int) (by decide +kernel) rfl rfl (by decide) (Or.inl ⟨rfl, rfl⟩) (by decide) (fun j => i0_z 204 (by decide) j) (by decide +kernel) (by decide +kernel) rfl rfl (by decide +kernel) d_i2_20 d_i2_21 d_i2_23 d_i2_25 (Nat.le_of_ble_eq_true rfl) (Nat.le_of_ble_eq_true rfl) (fun H locs ad3 ha3 hP hD hS => ?_)
  have hb3 := ct_tr hb2 ha3
  refine ct_arr C0 hnm hA (ad := ad3) (pd := [3, 4, 5, 6, 7, 8, 9]) (dn := [(202, 0, 60), (203, 0, 60), (204, 0, 60)]) hP hD hS hl0 (k := 3) (idx := 21) (pc := 28) (t := 0) (N := 60) (ln := 2) (x := 205) (off := 4) (pd' := [4, 5, 6, 7, 8, 9]) (dn' := [(202, 0, 60), (203, 0, 60), (204, 0, 60), (205, 0, 60)]) (CN := g_R2) (TN := g_T2) (NF := 12) rfl (by decide) (am_mem_t (g_mem1 153 rfl) rfl) rfl rfl (et := .int) (by decide +kernel) rfl rfl (by decide) (Or.inl ⟨rfl, rfl⟩) (by decide) (fun j => i0_z 205 (by decide) j) (by decide +kernel) (by decide +kernel) rfl rfl (by decide +kernel) d_i2_28 d_i2_29 d_i2_31 d_i2_33 (Nat.le_of_ble_eq_true rfl) (Nat.le_of_ble_eq_true rfl) (fun H locs ad4 ha4 hP hD hS => ?_)
  have hb4 := ct_tr hb3 ha4
  refine ct_arr C0 hnm hA (ad := ad4) (pd := [4, 5, 6, 7, 8, 9]) (dn := [(202, 0, 60), (203, 0, 60), (204, 0, 60), (205, 0, 60)]) hP hD hS hl0 (k := 4) (idx := 24) (pc := 36) (t := 0) (N := 60) (ln := 2) (x := 206) (off := 5) (pd' := [5, 6, 7, 8, 9]) (dn' := [(202, 0, 60), (203, 0, 60), (204, 0, 60), (205, 0, 60), (206, 0, 60)]) (CN := g_R2) (TN := g_T2) (NF := 12) rfl (by decide) (am_mem_t (g_mem1 157 rfl) rfl) rfl rfl (et := .int) (by decide +kernel) rfl rfl (by decide) (Or.inl ⟨rfl, rfl⟩) (by decide) (fun j => i0_z 206 (by decide) j) (by decide +kernel) (by decide +kernel) rfl rfl (by decide +kernel) d_i2_36 d_i2_37 d_i2_39 d_i2_41 (Nat.le_of_ble_eq_true rfl) (Nat.le_of_ble_eq_true rfl) (fun H locs ad5 ha5 hP hD hS => ?_)
  have hb5 := ct_tr hb4 ha5
  refine ct_arr C0 hnm hA (ad := ad5) (pd := [5, 6, 7, 8, 9]) (dn := [(202, 0, 60), (203, 0, 60), (204, 0, 60), (205, 0, 60), (206, 0, 60)]) hP hD hS hl0 (k := 5) (idx := 27) (pc := 44) (t := 0) (N := 60) (ln := 2) (x := 207) (off := 6) (pd' := [6, 7, 8, 9]) (dn' := [(202, 0, 60), (203, 0, 60), (204, 0, 60), (205, 0, 60), (206, 0, 60), (207, 0, 60)]) (CN := g_R2) (TN := g_T2) (NF := 12) rfl (by decide) (am_mem_t (g_mem1 162 rfl) rfl) rfl rfl (et := .int) (by decide +kernel) rfl rfl (by decide) (Or.inl ⟨rfl, rfl⟩) (by decide) (fun j => i0_z 207 (by decide) j) (by decide +kernel) (by decide +kernel) rfl rfl (by decide +kernel) d_i2_44 d_i2_45 d_i2_47 d_i2_49 (Nat.le_of_ble_eq_true rfl) (Nat.le_of_ble_eq_true rfl) (fun H locs ad6 ha6 hP hD hS => ?_)
  have hb6 := ct_tr hb5 ha6
  refine ct_arr C0 hnm hA (ad := ad6) (pd := [6, 7, 8, 9]) (dn := [(202, 0, 60), (203, 0, 60), (204, 0, 60), (205, 0, 60), (206, 0, 60), (207, 0, 60)]) hP hD hS hl0 (k := 6) (idx := 30) (pc := 52) (t := 0) (N := 60) (ln := 2) (x := 208) (off := 7) (pd' := [7, 8, 9]) (dn' := [(202, 0, 60), (203, 0, 60), (204, 0, 60), (205, 0, 60), (206, 0, 60), (207, 0, 60), (208, 0, 60)]) (CN := g_R2) (TN := g_T2) (NF := 12) rfl (by decide) (am_mem_t (g_mem1 166 rfl) rfl) rfl rfl (et := .int) (by decide +kernel) rfl rfl (by decide) (Or.inl ⟨rfl, rfl⟩) (by decide) (fun j => i0_z 208 (by decide) j) (by decide +kernel) (by decide +kernel) rfl rfl (by decide +kernel) d_i2_52 d_i2_53 d_i2_55 d_i2_57 (Nat.le_of_ble_eq_true rfl) (Nat.le_of_ble_eq_true rfl) (fun H locs ad7 ha7 hP hD hS => ?_)
  have hb7 := ct_tr hb6 ha7
  refine ct_arr C0 hnm hA (ad := ad7) (pd := [7, 8, 9]) (dn := [(202, 0, 60), (203, 0, 60), (204, 0, 60), (205, 0, 60), (206, 0, 60), (207, 0, 60), (208, 0, 60)]) hP hD hS hl0 (k := 7) (idx := 33) (pc := 60) (t := 0) (N := 60) (ln := 2) (x := 209) (off := 8) (pd' := [8, 9]) (dn' := [(202, 0, 60), (203, 0, 60), (204, 0, 60), (205, 0, 60), (206, 0, 60), (207, 0, 60), (208, 0, 60), (209, 0, 60)]) (CN := g_R2) (TN := g_T2) (NF := 12) rfl (by decide) (am_mem_t (g_mem1 169 rfl) rfl) rfl rfl (et := .int) (by decide +kernel) rfl rfl (by decide) (Or.inl ⟨rfl, rfl⟩) (by decide) (fun j => i0_z 209 (by decide) j) (by decide +kernel) (by decide +kernel) rfl rfl (by decide +kernel) d_i2_60 d_i2_61 d_i2_63 d_i2_65 (Nat.le_of_ble_eq_true rfl) (Nat.le_of_ble_eq_true rfl) (fun H locs ad8 ha8 hP hD hS => ?_)
  have hb8 := ct_tr hb7 ha8
  refine ct_arr C0 hnm hA (ad := ad8) (pd := [8, 9]) (dn := [(202, 0, 60), (203, 0, 60), (204, 0, 60), (205, 0, 60), (206, 0, 60), (207, 0, 60), (208, 0, 60), (209, 0, 60)]) hP hD hS hl0 (k := 8) (idx := 36) (pc := 68) (t := 0) (N := 60) (ln := 2) (x := 210) (off := 9) (pd' := [9]) (dn' := [(202, 0, 60), (203, 0, 60), (204, 0, 60), (205, 0, 60), (206, 0, 60), (207, 0, 60), (208, 0, 60), (209, 0, 60), (210, 0, 60)]) (CN := g_R2) (TN := g_T2) (NF := 12) rfl (by decide) (am_mem_t (g_mem1 174 rfl) rfl) rfl rfl (et := .int) (by decide +kernel) rfl rfl (by decide) (Or.inl ⟨rfl, rfl⟩) (by decide) (fun j => i0_z 210 (by decide) j) (by decide +kernel) (by decide +kernel) rfl rfl (by decide +kernel) d_i2_68 d_i2_69 d_i2_71 d_i2_73 (Nat.le_of_ble_eq_true rfl) (Nat.le_of_ble_eq_true rfl) (fun H locs ad9 ha9 hP hD hS => ?_)
  have hb9 := ct_tr hb8 ha9
  refine ct_arr C0 hnm hA (ad := ad9) (pd := [9]) (dn := [(202, 0, 60), (203, 0, 60), (204, 0, 60), (205, 0, 60), (206, 0, 60), (207, 0, 60), (208, 0, 60), (209, 0, 60), (210, 0, 60)]) hP hD hS hl0 (k := 9) (idx := 39) (pc := 76) (t := 0) (N := 1000) (ln := 3) (x := 211) (off := 10) (pd' := []) (dn' := [(202, 0, 60), (203, 0, 60), (204, 0, 60), (205, 0, 60), (206, 0, 60), (207, 0, 60), (208, 0, 60), (209, 0, 60), (210, 0, 60), (211, 0, 1000)]) (CN := g_R2) (TN := g_T2) (NF := 12) rfl (by decide) (am_mem_t (g_mem1 178 rfl) rfl) rfl rfl (et := .int) (by decide +kernel) rfl rfl (by decide) (Or.inl ⟨rfl, rfl⟩) (by decide) (fun j => i0_z 211 (by decide) j) (by decide +kernel) (by decide +kernel) rfl rfl (by decide +kernel) d_i2_76 d_i2_77 d_i2_80 d_i2_82 (Nat.le_of_ble_eq_true rfl) (Nat.le_of_ble_eq_true rfl) (fun H locs ad10 ha10 hP hD hS => ?_)
  have hb10 := ct_tr hb9 ha10
  exact ct_end C0 hr hlocks (ci := 2) (h0 := ad 201) (hb10 201 (by decide)) hb10 rfl hP hD hS d_i2_85
set_option maxHeartbeats 4000000 in
set_option maxRecDepth 20000 in
theorem k_Checker (l : Launch) (dC : Nat → ClassId) (dI : Nat → Nat → Nat) (cT : Nat → ClassId) (ad : Int → Nat) (sz : Nat) : Met l y_i1 (Cond.code y_i1 prog_3_method_1_code 1 none :: am_tG) ({ frames := 4, cells := 5, slots := 15, locals := 60 } : Room) (ct_Pc dC dI cT [.ref (ad 30)] ([(ad 30, .inr (1, ct_f0 1))] : va_W) sz) (ct_Qc dC dI cT am_i0 ad [(30, 11, 0), (31, 0, 3), (32, 0, 3), (33, 0, 3), (34, 0, 3), (35, 0, 3)] [31, 32, 33, 34, 35] (va_A ([(ad 30, .inr (1, ct_f0 1))] : va_W) sz)) 5 15 (va_A ([(ad 30, .inr (1, ct_f0 1))] : va_W) sz) := by
  refine ct_met l dC dI cT (by decide) rfl (Nat.le_of_ble_eq_true rfl) ({ frames := 4, cells := 5, slots := 15, locals := 60 } : Room) sz ?_
  intro p e s m args below meth c A larr C0 hnm hr hlocks hA hP hD hl
  have hx := C0.1
  have hb := C0.2.1
  have hS : va_S A s.heap s.heap [] := va_S.rf
  have hl0 : larr[0]? = some (.val (.ref (ad 30))) := lv_at hl 0 rfl
  have hb0 : ∀ y, y ∉ ([] : List Int) → ad y = ad y := fun _ _ => rfl
  rw [ct_fp_new (ad := ad) (μ := am_i0) (c := 30) (ci := 1) (pd := [0, 1, 2, 3, 4]) (by decide +kernel)] at hP hD
  have hP : va_P (dC, dI) g_cl ((ad 30, .inr (1, ct_fp ad am_i0 30 1 [0, 1, 2, 3, 4])) :: am_wdL [] ad cT am_i0) s.heap := hP
  have hD : va_D A ((ad 30, .inr (1, ct_fp ad am_i0 30 1 [0, 1, 2, 3, 4])) :: am_wdL [] ad cT am_i0) := hD
  refine ct_sup C0 hl.1 hl0 (am_mem_t (g_mem2 102 rfl) rfl) d_i1_0 d_i1_1 (by decide) (by decide) ?_
  refine ct_arr C0 hnm hA (ad := ad) (pd := [0, 1, 2, 3, 4]) (dn := []) hP hD hS hl0 (k := 0) (idx := 9) (pc := 4) (t := 0) (N := 3) (ln := 1) (x := 31) (off := 1) (pd' := [1, 2, 3, 4]) (dn' := [(31, 0, 3)]) (CN := g_R1) (TN := g_T1) (NF := 10) rfl (by decide) (am_mem_t (g_mem2 103 rfl) rfl) rfl rfl (et := .int) (by decide +kernel) rfl rfl (by decide) (Or.inl ⟨rfl, rfl⟩) (by decide) (fun j => i0_z 31 (by decide) j) (by decide +kernel) (by decide +kernel) rfl rfl (by decide +kernel) d_i1_4 d_i1_5 d_i1_6 d_i1_8 (Nat.le_of_ble_eq_true rfl) (Nat.le_of_ble_eq_true rfl) (fun H locs ad1 ha1 hP hD hS => ?_)
  have hb1 := ct_tr hb0 ha1
  refine ct_arr C0 hnm hA (ad := ad1) (pd := [1, 2, 3, 4]) (dn := [(31, 0, 3)]) hP hD hS hl0 (k := 1) (idx := 15) (pc := 11) (t := 0) (N := 3) (ln := 1) (x := 32) (off := 2) (pd' := [2, 3, 4]) (dn' := [(31, 0, 3), (32, 0, 3)]) (CN := g_R1) (TN := g_T1) (NF := 10) rfl (by decide) (am_mem_t (g_mem2 104 rfl) rfl) rfl rfl (et := .int) (by decide +kernel) rfl rfl (by decide) (Or.inl ⟨rfl, rfl⟩) (by decide) (fun j => i0_z 32 (by decide) j) (by decide +kernel) (by decide +kernel) rfl rfl (by decide +kernel) d_i1_11 d_i1_12 d_i1_13 d_i1_15 (Nat.le_of_ble_eq_true rfl) (Nat.le_of_ble_eq_true rfl) (fun H locs ad2 ha2 hP hD hS => ?_)
  have hb2 := ct_tr hb1 ha2
  refine ct_arr C0 hnm hA (ad := ad2) (pd := [2, 3, 4]) (dn := [(31, 0, 3), (32, 0, 3)]) hP hD hS hl0 (k := 2) (idx := 18) (pc := 18) (t := 0) (N := 3) (ln := 1) (x := 33) (off := 3) (pd' := [3, 4]) (dn' := [(31, 0, 3), (32, 0, 3), (33, 0, 3)]) (CN := g_R1) (TN := g_T1) (NF := 10) rfl (by decide) (am_mem_t (g_mem2 105 rfl) rfl) rfl rfl (et := .int) (by decide +kernel) rfl rfl (by decide) (Or.inl ⟨rfl, rfl⟩) (by decide) (fun j => i0_z 33 (by decide) j) (by decide +kernel) (by decide +kernel) rfl rfl (by decide +kernel) d_i1_18 d_i1_19 d_i1_20 d_i1_22 (Nat.le_of_ble_eq_true rfl) (Nat.le_of_ble_eq_true rfl) (fun H locs ad3 ha3 hP hD hS => ?_)
  have hb3 := ct_tr hb2 ha3
  refine ct_arr C0 hnm hA (ad := ad3) (pd := [3, 4]) (dn := [(31, 0, 3), (32, 0, 3), (33, 0, 3)]) hP hD hS hl0 (k := 3) (idx := 21) (pc := 25) (t := 0) (N := 3) (ln := 1) (x := 34) (off := 4) (pd' := [4]) (dn' := [(31, 0, 3), (32, 0, 3), (33, 0, 3), (34, 0, 3)]) (CN := g_R1) (TN := g_T1) (NF := 10) rfl (by decide) (am_mem_t (g_mem2 106 rfl) rfl) rfl rfl (et := .int) (by decide +kernel) rfl rfl (by decide) (Or.inl ⟨rfl, rfl⟩) (by decide) (fun j => i0_z 34 (by decide) j) (by decide +kernel) (by decide +kernel) rfl rfl (by decide +kernel) d_i1_25 d_i1_26 d_i1_27 d_i1_29 (Nat.le_of_ble_eq_true rfl) (Nat.le_of_ble_eq_true rfl) (fun H locs ad4 ha4 hP hD hS => ?_)
  have hb4 := ct_tr hb3 ha4
  refine ct_arr C0 hnm hA (ad := ad4) (pd := [4]) (dn := [(31, 0, 3), (32, 0, 3), (33, 0, 3), (34, 0, 3)]) hP hD hS hl0 (k := 4) (idx := 24) (pc := 32) (t := 0) (N := 3) (ln := 1) (x := 35) (off := 5) (pd' := []) (dn' := [(31, 0, 3), (32, 0, 3), (33, 0, 3), (34, 0, 3), (35, 0, 3)]) (CN := g_R1) (TN := g_T1) (NF := 10) rfl (by decide) (am_mem_t (g_mem2 107 rfl) rfl) rfl rfl (et := .int) (by decide +kernel) rfl rfl (by decide) (Or.inl ⟨rfl, rfl⟩) (by decide) (fun j => i0_z 35 (by decide) j) (by decide +kernel) (by decide +kernel) rfl rfl (by decide +kernel) d_i1_32 d_i1_33 d_i1_34 d_i1_36 (Nat.le_of_ble_eq_true rfl) (Nat.le_of_ble_eq_true rfl) (fun H locs ad5 ha5 hP hD hS => ?_)
  have hb5 := ct_tr hb4 ha5
  exact ct_end C0 hr hlocks (ci := 1) (h0 := ad 30) (hb5 30 (by decide)) hb5 rfl hP hD hS d_i1_39
set_option maxHeartbeats 4000000 in
set_option maxRecDepth 20000 in
theorem k_Reckoner (l : Launch) (dC : Nat → ClassId) (dI : Nat → Nat → Nat) (cT : Nat → ClassId) (ad : Int → Nat) (sz : Nat) : Met l y_i6 (Cond.code y_i6 prog_8_method_1_code 1 none :: am_tG) ({ frames := 4, cells := 1, slots := 64, locals := 60 } : Room) (ct_Pc dC dI cT [.ref (ad 40)] ([(ad 40, .inr (6, ct_f0 6))] : va_W) sz) (ct_Qc dC dI cT am_i0 ad [(40, 16, 0), (41, 0, 64)] [41] (va_A ([(ad 40, .inr (6, ct_f0 6))] : va_W) sz)) 1 64 (va_A ([(ad 40, .inr (6, ct_f0 6))] : va_W) sz) := by
  refine ct_met l dC dI cT (by decide) rfl (Nat.le_of_ble_eq_true rfl) ({ frames := 4, cells := 1, slots := 64, locals := 60 } : Room) sz ?_
  intro p e s m args below meth c A larr C0 hnm hr hlocks hA hP hD hl
  have hx := C0.1
  have hb := C0.2.1
  have hS : va_S A s.heap s.heap [] := va_S.rf
  have hl0 : larr[0]? = some (.val (.ref (ad 40))) := lv_at hl 0 rfl
  have hb0 : ∀ y, y ∉ ([] : List Int) → ad y = ad y := fun _ _ => rfl
  rw [ct_fp_new (ad := ad) (μ := am_i0) (c := 40) (ci := 6) (pd := [0]) (by decide +kernel)] at hP hD
  have hP : va_P (dC, dI) g_cl ((ad 40, .inr (6, ct_fp ad am_i0 40 6 [0])) :: am_wdL [] ad cT am_i0) s.heap := hP
  have hD : va_D A ((ad 40, .inr (6, ct_fp ad am_i0 40 6 [0])) :: am_wdL [] ad cT am_i0) := hD
  refine ct_sup C0 hl.1 hl0 (am_mem_t (g_mem2 139 rfl) rfl) d_i6_0 d_i6_1 (by decide) (by decide) ?_
  refine ct_arr C0 hnm hA (ad := ad) (pd := [0]) (dn := []) hP hD hS hl0 (k := 0) (idx := 9) (pc := 4) (t := 0) (N := 64) (ln := 2) (x := 41) (off := 1) (pd' := []) (dn' := [(41, 0, 64)]) (CN := g_R6) (TN := g_T6) (NF := 1) rfl (by decide) (am_mem_t (g_mem2 140 rfl) rfl) rfl rfl (et := .int) (by decide +kernel) rfl rfl (by decide) (Or.inl ⟨rfl, rfl⟩) (by decide) (fun j => i0_z 41 (by decide) j) (by decide +kernel) (by decide +kernel) rfl rfl (by decide +kernel) d_i6_4 d_i6_5 d_i6_7 d_i6_9 (Nat.le_of_ble_eq_true rfl) (Nat.le_of_ble_eq_true rfl) (fun H locs ad1 ha1 hP hD hS => ?_)
  have hb1 := ct_tr hb0 ha1
  exact ct_end C0 hr hlocks (ci := 6) (h0 := ad 40) (hb1 40 (by decide)) hb1 rfl hP hD hS d_i6_12
set_option maxHeartbeats 4000000 in
set_option maxRecDepth 20000 in
theorem k_Ways (l : Launch) (dC : Nat → ClassId) (dI : Nat → Nat → Nat) (cT : Nat → ClassId) (ad : Int → Nat) (sz : Nat) : Met l y_i8 (Cond.code y_i8 prog_10_method_1_code 1 none :: am_tG) ({ frames := 4, cells := 8, slots := 146, locals := 60 } : Room) (ct_Pc dC dI cT [.ref (ad 50)] ([(ad 50, .inr (8, ct_f0 8))] : va_W) sz) (ct_Qc dC dI cT am_i0 ad [(50, 18, 0), (51, 0, 3), (52, 0, 3), (53, 0, 3), (54, 0, 3), (55, 0, 10), (56, 0, 60), (57, 0, 60), (58, 0, 4)] [51, 52, 53, 54, 55, 56, 57, 58] (va_A ([(ad 50, .inr (8, ct_f0 8))] : va_W) sz)) 8 146 (va_A ([(ad 50, .inr (8, ct_f0 8))] : va_W) sz) := by
  refine ct_met l dC dI cT (by decide) rfl (Nat.le_of_ble_eq_true rfl) ({ frames := 4, cells := 8, slots := 146, locals := 60 } : Room) sz ?_
  intro p e s m args below meth c A larr C0 hnm hr hlocks hA hP hD hl
  have hx := C0.1
  have hb := C0.2.1
  have hS : va_S A s.heap s.heap [] := va_S.rf
  have hl0 : larr[0]? = some (.val (.ref (ad 50))) := lv_at hl 0 rfl
  have hb0 : ∀ y, y ∉ ([] : List Int) → ad y = ad y := fun _ _ => rfl
  rw [ct_fp_new (ad := ad) (μ := am_i0) (c := 50) (ci := 8) (pd := [0, 1, 2, 3, 4, 5, 6, 7, 10]) (by decide +kernel)] at hP hD
  have hP : va_P (dC, dI) g_cl ((ad 50, .inr (8, ct_fp ad am_i0 50 8 [0, 1, 2, 3, 4, 5, 6, 7, 10])) :: am_wdL [] ad cT am_i0) s.heap := hP
  have hD : va_D A ((ad 50, .inr (8, ct_fp ad am_i0 50 8 [0, 1, 2, 3, 4, 5, 6, 7, 10])) :: am_wdL [] ad cT am_i0) := hD
  refine ct_sup C0 hl.1 hl0 (am_mem_t (g_mem2 203 rfl) rfl) d_i8_0 d_i8_1 (by decide) (by decide) ?_
  refine ct_arr C0 hnm hA (ad := ad) (pd := [0, 1, 2, 3, 4, 5, 6, 7, 10]) (dn := []) hP hD hS hl0 (k := 0) (idx := 9) (pc := 4) (t := 0) (N := 3) (ln := 1) (x := 51) (off := 1) (pd' := [1, 2, 3, 4, 5, 6, 7, 10]) (dn' := [(51, 0, 3)]) (CN := g_R8) (TN := g_T8) (NF := 13) rfl (by decide) (am_mem_t (g_mem2 204 rfl) rfl) rfl rfl (et := .int) (by decide +kernel) rfl rfl (by decide) (Or.inl ⟨rfl, rfl⟩) (by decide) (fun j => i0_z 51 (by decide) j) (by decide +kernel) (by decide +kernel) rfl rfl (by decide +kernel) d_i8_4 d_i8_5 d_i8_6 d_i8_8 (Nat.le_of_ble_eq_true rfl) (Nat.le_of_ble_eq_true rfl) (fun H locs ad1 ha1 hP hD hS => ?_)
  have hb1 := ct_tr hb0 ha1
  refine ct_arr C0 hnm hA (ad := ad1) (pd := [1, 2, 3, 4, 5, 6, 7, 10]) (dn := [(51, 0, 3)]) hP hD hS hl0 (k := 1) (idx := 15) (pc := 11) (t := 0) (N := 3) (ln := 1) (x := 52) (off := 2) (pd' := [2, 3, 4, 5, 6, 7, 10]) (dn' := [(51, 0, 3), (52, 0, 3)]) (CN := g_R8) (TN := g_T8) (NF := 13) rfl (by decide) (am_mem_t (g_mem2 205 rfl) rfl) rfl rfl (et := .int) (by decide +kernel) rfl rfl (by decide) (Or.inl ⟨rfl, rfl⟩) (by decide) (fun j => i0_z 52 (by decide) j) (by decide +kernel) (by decide +kernel) rfl rfl (by decide +kernel) d_i8_11 d_i8_12 d_i8_13 d_i8_15 (Nat.le_of_ble_eq_true rfl) (Nat.le_of_ble_eq_true rfl) (fun H locs ad2 ha2 hP hD hS => ?_)
  have hb2 := ct_tr hb1 ha2
  refine ct_arr C0 hnm hA (ad := ad2) (pd := [2, 3, 4, 5, 6, 7, 10]) (dn := [(51, 0, 3), (52, 0, 3)]) hP hD hS hl0 (k := 2) (idx := 18) (pc := 18) (t := 0) (N := 3) (ln := 1) (x := 53) (off := 3) (pd' := [3, 4, 5, 6, 7, 10]) (dn' := [(51, 0, 3), (52, 0, 3), (53, 0, 3)]) (CN := g_R8) (TN := g_T8) (NF := 13) rfl (by decide) (am_mem_t (g_mem2 206 rfl) rfl) rfl rfl (et := .int) (by decide +kernel) rfl rfl (by decide) (Or.inl ⟨rfl, rfl⟩) (by decide) (fun j => i0_z 53 (by decide) j) (by decide +kernel) (by decide +kernel) rfl rfl (by decide +kernel) d_i8_18 d_i8_19 d_i8_20 d_i8_22 (Nat.le_of_ble_eq_true rfl) (Nat.le_of_ble_eq_true rfl) (fun H locs ad3 ha3 hP hD hS => ?_)
  have hb3 := ct_tr hb2 ha3
  refine ct_arr C0 hnm hA (ad := ad3) (pd := [3, 4, 5, 6, 7, 10]) (dn := [(51, 0, 3), (52, 0, 3), (53, 0, 3)]) hP hD hS hl0 (k := 3) (idx := 21) (pc := 25) (t := 0) (N := 3) (ln := 1) (x := 54) (off := 4) (pd' := [4, 5, 6, 7, 10]) (dn' := [(51, 0, 3), (52, 0, 3), (53, 0, 3), (54, 0, 3)]) (CN := g_R8) (TN := g_T8) (NF := 13) rfl (by decide) (am_mem_t (g_mem2 207 rfl) rfl) rfl rfl (et := .int) (by decide +kernel) rfl rfl (by decide) (Or.inl ⟨rfl, rfl⟩) (by decide) (fun j => i0_z 54 (by decide) j) (by decide +kernel) (by decide +kernel) rfl rfl (by decide +kernel) d_i8_25 d_i8_26 d_i8_27 d_i8_29 (Nat.le_of_ble_eq_true rfl) (Nat.le_of_ble_eq_true rfl) (fun H locs ad4 ha4 hP hD hS => ?_)
  have hb4 := ct_tr hb3 ha4
  refine ct_arr C0 hnm hA (ad := ad4) (pd := [4, 5, 6, 7, 10]) (dn := [(51, 0, 3), (52, 0, 3), (53, 0, 3), (54, 0, 3)]) hP hD hS hl0 (k := 4) (idx := 24) (pc := 32) (t := 0) (N := 10) (ln := 2) (x := 55) (off := 5) (pd' := [5, 6, 7, 10]) (dn' := [(51, 0, 3), (52, 0, 3), (53, 0, 3), (54, 0, 3), (55, 0, 10)]) (CN := g_R8) (TN := g_T8) (NF := 13) rfl (by decide) (am_mem_t (g_mem2 208 rfl) rfl) rfl rfl (et := .int) (by decide +kernel) rfl rfl (by decide) (Or.inl ⟨rfl, rfl⟩) (by decide) (fun j => i0_z 55 (by decide) j) (by decide +kernel) (by decide +kernel) rfl rfl (by decide +kernel) d_i8_32 d_i8_33 d_i8_35 d_i8_37 (Nat.le_of_ble_eq_true rfl) (Nat.le_of_ble_eq_true rfl) (fun H locs ad5 ha5 hP hD hS => ?_)
  have hb5 := ct_tr hb4 ha5
  refine ct_arr C0 hnm hA (ad := ad5) (pd := [5, 6, 7, 10]) (dn := [(51, 0, 3), (52, 0, 3), (53, 0, 3), (54, 0, 3), (55, 0, 10)]) hP hD hS hl0 (k := 5) (idx := 27) (pc := 40) (t := 0) (N := 60) (ln := 2) (x := 56) (off := 6) (pd' := [6, 7, 10]) (dn' := [(51, 0, 3), (52, 0, 3), (53, 0, 3), (54, 0, 3), (55, 0, 10), (56, 0, 60)]) (CN := g_R8) (TN := g_T8) (NF := 13) rfl (by decide) (am_mem_t (g_mem2 209 rfl) rfl) rfl rfl (et := .int) (by decide +kernel) rfl rfl (by decide) (Or.inl ⟨rfl, rfl⟩) (by decide) (fun j => i0_z 56 (by decide) j) (by decide +kernel) (by decide +kernel) rfl rfl (by decide +kernel) d_i8_40 d_i8_41 d_i8_43 d_i8_45 (Nat.le_of_ble_eq_true rfl) (Nat.le_of_ble_eq_true rfl) (fun H locs ad6 ha6 hP hD hS => ?_)
  have hb6 := ct_tr hb5 ha6
  refine ct_arr C0 hnm hA (ad := ad6) (pd := [6, 7, 10]) (dn := [(51, 0, 3), (52, 0, 3), (53, 0, 3), (54, 0, 3), (55, 0, 10), (56, 0, 60)]) hP hD hS hl0 (k := 6) (idx := 30) (pc := 48) (t := 0) (N := 60) (ln := 2) (x := 57) (off := 7) (pd' := [7, 10]) (dn' := [(51, 0, 3), (52, 0, 3), (53, 0, 3), (54, 0, 3), (55, 0, 10), (56, 0, 60), (57, 0, 60)]) (CN := g_R8) (TN := g_T8) (NF := 13) rfl (by decide) (am_mem_t (g_mem2 210 rfl) rfl) rfl rfl (et := .int) (by decide +kernel) rfl rfl (by decide) (Or.inl ⟨rfl, rfl⟩) (by decide) (fun j => i0_z 57 (by decide) j) (by decide +kernel) (by decide +kernel) rfl rfl (by decide +kernel) d_i8_48 d_i8_49 d_i8_51 d_i8_53 (Nat.le_of_ble_eq_true rfl) (Nat.le_of_ble_eq_true rfl) (fun H locs ad7 ha7 hP hD hS => ?_)
  have hb7 := ct_tr hb6 ha7
  refine ct_arr C0 hnm hA (ad := ad7) (pd := [7, 10]) (dn := [(51, 0, 3), (52, 0, 3), (53, 0, 3), (54, 0, 3), (55, 0, 10), (56, 0, 60), (57, 0, 60)]) hP hD hS hl0 (k := 7) (idx := 33) (pc := 56) (t := 0) (N := 4) (ln := 1) (x := 58) (off := 8) (pd' := [10]) (dn' := [(51, 0, 3), (52, 0, 3), (53, 0, 3), (54, 0, 3), (55, 0, 10), (56, 0, 60), (57, 0, 60), (58, 0, 4)]) (CN := g_R8) (TN := g_T8) (NF := 13) rfl (by decide) (am_mem_t (g_mem2 211 rfl) rfl) rfl rfl (et := .int) (by decide +kernel) rfl rfl (by decide) (Or.inl ⟨rfl, rfl⟩) (by decide) (fun j => i0_z 58 (by decide) j) (by decide +kernel) (by decide +kernel) rfl rfl (by decide +kernel) d_i8_56 d_i8_57 d_i8_58 d_i8_60 (Nat.le_of_ble_eq_true rfl) (Nat.le_of_ble_eq_true rfl) (fun H locs ad8 ha8 hP hD hS => ?_)
  have hb8 := ct_tr hb7 ha8
  refine lv_aload_n hx hb d_i8_63 rfl hl0 ?_
  refine lv_iconst (v := (Int32.ofInt (-1))) hx hb d_i8_64 (by decide) ?_
  refine ct_set C0 hnm (ad := ad8) (pd := [10]) hP hD hS (k := 10) (idx := 36) (pc := 65) (pd' := []) (CN := g_R8) (TN := g_T8) (NF := 13) rfl (by decide) (am_mem_t (g_mem2 214 rfl) rfl) rfl rfl (ty := .int) (by decide +kernel) (v := .int (Int32.ofInt (-1))) rfl rfl (f := (0, 0)) rfl rfl rfl d_i8_65 (fun H locs hP hD hS => ?_)
  exact ct_end C0 hr hlocks (ci := 8) (h0 := ad 50) (hb8 50 (by decide)) hb8 rfl hP hD hS d_i8_68
set_option maxHeartbeats 4000000 in
set_option maxRecDepth 20000 in
theorem k_Orders (l : Launch) (dC : Nat → ClassId) (dI : Nat → Nat → Nat) (cT : Nat → ClassId) (ad : Int → Nat) (sz : Nat) : Met l y_i4 (Cond.code y_i4 prog_6_method_1_code 1 none :: am_tG) ({ frames := 4, cells := 7, slots := 3212, locals := 60 } : Room) (ct_Pc dC dI cT [.ref (ad 60)] ([(ad 60, .inr (4, ct_f0 4))] : va_W) sz) (ct_Qc dC dI cT am_i0 ad [(60, 14, 0), (61, 0, 110), (62, 0, 10), (63, 0, 10), (64, 0, 10), (65, 0, 1024), (66, 0, 1024), (67, 1, 1024)] [61, 62, 63, 64, 65, 66, 67] (va_A ([(ad 60, .inr (4, ct_f0 4))] : va_W) sz)) 7 3212 (va_A ([(ad 60, .inr (4, ct_f0 4))] : va_W) sz) := by
  refine ct_met l dC dI cT (by decide) rfl (Nat.le_of_ble_eq_true rfl) ({ frames := 4, cells := 7, slots := 3212, locals := 60 } : Room) sz ?_
  intro p e s m args below meth c A larr C0 hnm hr hlocks hA hP hD hl
  have hx := C0.1
  have hb := C0.2.1
  have hS : va_S A s.heap s.heap [] := va_S.rf
  have hl0 : larr[0]? = some (.val (.ref (ad 60))) := lv_at hl 0 rfl
  have hb0 : ∀ y, y ∉ ([] : List Int) → ad y = ad y := fun _ _ => rfl
  rw [ct_fp_new (ad := ad) (μ := am_i0) (c := 60) (ci := 4) (pd := [0, 1, 2, 3, 4, 5, 6, 9]) (by decide +kernel)] at hP hD
  have hP : va_P (dC, dI) g_cl ((ad 60, .inr (4, ct_fp ad am_i0 60 4 [0, 1, 2, 3, 4, 5, 6, 9])) :: am_wdL [] ad cT am_i0) s.heap := hP
  have hD : va_D A ((ad 60, .inr (4, ct_fp ad am_i0 60 4 [0, 1, 2, 3, 4, 5, 6, 9])) :: am_wdL [] ad cT am_i0) := hD
  refine ct_sup C0 hl.1 hl0 (am_mem_t (g_mem3 11 rfl) rfl) d_i4_0 d_i4_1 (by decide) (by decide) ?_
  refine ct_arr C0 hnm hA (ad := ad) (pd := [0, 1, 2, 3, 4, 5, 6, 9]) (dn := []) hP hD hS hl0 (k := 0) (idx := 9) (pc := 4) (t := 0) (N := 110) (ln := 2) (x := 61) (off := 1) (pd' := [1, 2, 3, 4, 5, 6, 9]) (dn' := [(61, 0, 110)]) (CN := g_R4) (TN := g_T4) (NF := 10) rfl (by decide) (am_mem_t (g_mem3 12 rfl) rfl) rfl rfl (et := .int) (by decide +kernel) rfl rfl (by decide) (Or.inl ⟨rfl, rfl⟩) (by decide) (fun j => i0_z 61 (by decide) j) (by decide +kernel) (by decide +kernel) rfl rfl (by decide +kernel) d_i4_4 d_i4_5 d_i4_7 d_i4_9 (Nat.le_of_ble_eq_true rfl) (Nat.le_of_ble_eq_true rfl) (fun H locs ad1 ha1 hP hD hS => ?_)
  have hb1 := ct_tr hb0 ha1
  refine ct_arr C0 hnm hA (ad := ad1) (pd := [1, 2, 3, 4, 5, 6, 9]) (dn := [(61, 0, 110)]) hP hD hS hl0 (k := 1) (idx := 15) (pc := 12) (t := 0) (N := 10) (ln := 2) (x := 62) (off := 2) (pd' := [2, 3, 4, 5, 6, 9]) (dn' := [(61, 0, 110), (62, 0, 10)]) (CN := g_R4) (TN := g_T4) (NF := 10) rfl (by decide) (am_mem_t (g_mem3 13 rfl) rfl) rfl rfl (et := .int) (by decide +kernel) rfl rfl (by decide) (Or.inl ⟨rfl, rfl⟩) (by decide) (fun j => i0_z 62 (by decide) j) (by decide +kernel) (by decide +kernel) rfl rfl (by decide +kernel) d_i4_12 d_i4_13 d_i4_15 d_i4_17 (Nat.le_of_ble_eq_true rfl) (Nat.le_of_ble_eq_true rfl) (fun H locs ad2 ha2 hP hD hS => ?_)
  have hb2 := ct_tr hb1 ha2
  refine ct_arr C0 hnm hA (ad := ad2) (pd := [2, 3, 4, 5, 6, 9]) (dn := [(61, 0, 110), (62, 0, 10)]) hP hD hS hl0 (k := 2) (idx := 18) (pc := 20) (t := 0) (N := 10) (ln := 2) (x := 63) (off := 3) (pd' := [3, 4, 5, 6, 9]) (dn' := [(61, 0, 110), (62, 0, 10), (63, 0, 10)]) (CN := g_R4) (TN := g_T4) (NF := 10) rfl (by decide) (am_mem_t (g_mem3 14 rfl) rfl) rfl rfl (et := .int) (by decide +kernel) rfl rfl (by decide) (Or.inl ⟨rfl, rfl⟩) (by decide) (fun j => i0_z 63 (by decide) j) (by decide +kernel) (by decide +kernel) rfl rfl (by decide +kernel) d_i4_20 d_i4_21 d_i4_23 d_i4_25 (Nat.le_of_ble_eq_true rfl) (Nat.le_of_ble_eq_true rfl) (fun H locs ad3 ha3 hP hD hS => ?_)
  have hb3 := ct_tr hb2 ha3
  refine ct_arr C0 hnm hA (ad := ad3) (pd := [3, 4, 5, 6, 9]) (dn := [(61, 0, 110), (62, 0, 10), (63, 0, 10)]) hP hD hS hl0 (k := 3) (idx := 21) (pc := 28) (t := 0) (N := 10) (ln := 2) (x := 64) (off := 4) (pd' := [4, 5, 6, 9]) (dn' := [(61, 0, 110), (62, 0, 10), (63, 0, 10), (64, 0, 10)]) (CN := g_R4) (TN := g_T4) (NF := 10) rfl (by decide) (am_mem_t (g_mem3 15 rfl) rfl) rfl rfl (et := .int) (by decide +kernel) rfl rfl (by decide) (Or.inl ⟨rfl, rfl⟩) (by decide) (fun j => i0_z 64 (by decide) j) (by decide +kernel) (by decide +kernel) rfl rfl (by decide +kernel) d_i4_28 d_i4_29 d_i4_31 d_i4_33 (Nat.le_of_ble_eq_true rfl) (Nat.le_of_ble_eq_true rfl) (fun H locs ad4 ha4 hP hD hS => ?_)
  have hb4 := ct_tr hb3 ha4
  refine ct_arr C0 hnm hA (ad := ad4) (pd := [4, 5, 6, 9]) (dn := [(61, 0, 110), (62, 0, 10), (63, 0, 10), (64, 0, 10)]) hP hD hS hl0 (k := 4) (idx := 24) (pc := 36) (t := 0) (N := 1024) (ln := 3) (x := 65) (off := 5) (pd' := [5, 6, 9]) (dn' := [(61, 0, 110), (62, 0, 10), (63, 0, 10), (64, 0, 10), (65, 0, 1024)]) (CN := g_R4) (TN := g_T4) (NF := 10) rfl (by decide) (am_mem_t (g_mem3 16 rfl) rfl) rfl rfl (et := .int) (by decide +kernel) rfl rfl (by decide) (Or.inl ⟨rfl, rfl⟩) (by decide) (fun j => i0_z 65 (by decide) j) (by decide +kernel) (by decide +kernel) rfl rfl (by decide +kernel) d_i4_36 d_i4_37 d_i4_40 d_i4_42 (Nat.le_of_ble_eq_true rfl) (Nat.le_of_ble_eq_true rfl) (fun H locs ad5 ha5 hP hD hS => ?_)
  have hb5 := ct_tr hb4 ha5
  refine ct_arr C0 hnm hA (ad := ad5) (pd := [5, 6, 9]) (dn := [(61, 0, 110), (62, 0, 10), (63, 0, 10), (64, 0, 10), (65, 0, 1024)]) hP hD hS hl0 (k := 5) (idx := 27) (pc := 45) (t := 0) (N := 1024) (ln := 3) (x := 66) (off := 6) (pd' := [6, 9]) (dn' := [(61, 0, 110), (62, 0, 10), (63, 0, 10), (64, 0, 10), (65, 0, 1024), (66, 0, 1024)]) (CN := g_R4) (TN := g_T4) (NF := 10) rfl (by decide) (am_mem_t (g_mem3 17 rfl) rfl) rfl rfl (et := .int) (by decide +kernel) rfl rfl (by decide) (Or.inl ⟨rfl, rfl⟩) (by decide) (fun j => i0_z 66 (by decide) j) (by decide +kernel) (by decide +kernel) rfl rfl (by decide +kernel) d_i4_45 d_i4_46 d_i4_49 d_i4_51 (Nat.le_of_ble_eq_true rfl) (Nat.le_of_ble_eq_true rfl) (fun H locs ad6 ha6 hP hD hS => ?_)
  have hb6 := ct_tr hb5 ha6
  refine ct_arr C0 hnm hA (ad := ad6) (pd := [6, 9]) (dn := [(61, 0, 110), (62, 0, 10), (63, 0, 10), (64, 0, 10), (65, 0, 1024), (66, 0, 1024)]) hP hD hS hl0 (k := 6) (idx := 30) (pc := 54) (t := 1) (N := 1024) (ln := 3) (x := 67) (off := 7) (pd' := [9]) (dn' := [(61, 0, 110), (62, 0, 10), (63, 0, 10), (64, 0, 10), (65, 0, 1024), (66, 0, 1024), (67, 1, 1024)]) (CN := g_R4) (TN := g_T4) (NF := 10) rfl (by decide) (am_mem_t (g_mem3 18 rfl) rfl) rfl rfl (et := .long) (by decide +kernel) rfl rfl (by decide) (Or.inr (Or.inl ⟨rfl, rfl⟩)) (by decide) (fun j => i0_z 67 (by decide) j) (by decide +kernel) (by decide +kernel) rfl rfl (by decide +kernel) d_i4_54 d_i4_55 d_i4_58 d_i4_60 (Nat.le_of_ble_eq_true rfl) (Nat.le_of_ble_eq_true rfl) (fun H locs ad7 ha7 hP hD hS => ?_)
  have hb7 := ct_tr hb6 ha7
  refine lv_aload_n hx hb d_i4_63 rfl hl0 ?_
  refine lv_iconst (v := (Int32.ofInt (-1))) hx hb d_i4_64 (by decide) ?_
  refine ct_set C0 hnm (ad := ad7) (pd := [9]) hP hD hS (k := 9) (idx := 34) (pc := 65) (pd' := []) (CN := g_R4) (TN := g_T4) (NF := 10) rfl (by decide) (am_mem_t (g_mem3 21 rfl) rfl) rfl rfl (ty := .int) (by decide +kernel) (v := .int (Int32.ofInt (-1))) rfl rfl (f := (0, 0)) rfl rfl rfl d_i4_65 (fun H locs hP hD hS => ?_)
  exact ct_end C0 hr hlocks (ci := 4) (h0 := ad 60) (hb7 60 (by decide)) hb7 rfl hP hD hS d_i4_68
set_option maxHeartbeats 4000000 in
set_option maxRecDepth 20000 in
theorem k_Mach_300 (l : Launch) (dC : Nat → ClassId) (dI : Nat → Nat → Nat) (cT : Nat → ClassId) (ad : Int → Nat) (sz : Nat) : Met l y_i3 (Cond.code y_i3 prog_5_method_1_code 3 none :: am_tG) ({ frames := 4, cells := 3, slots := 192, locals := 60 } : Room) (ct_Pc dC dI cT [.ref (ad 300), .ref (ad 40), .int (Int32.ofInt 1)] ([(ad 300, .inr (3, ct_f0 3))] : va_W) sz) (ct_Qc dC dI cT am_i0 ad [(300, 13, 0), (301, 0, 16), (302, 0, 16), (303, 0, 160)] [301, 302, 303] (va_A ([(ad 300, .inr (3, ct_f0 3))] : va_W) sz)) 3 192 (va_A ([(ad 300, .inr (3, ct_f0 3))] : va_W) sz) := by
  refine ct_met l dC dI cT (by decide) rfl (Nat.le_of_ble_eq_true rfl) ({ frames := 4, cells := 3, slots := 192, locals := 60 } : Room) sz ?_
  intro p e s m args below meth c A larr C0 hnm hr hlocks hA hP hD hl
  have hx := C0.1
  have hb := C0.2.1
  have hS : va_S A s.heap s.heap [] := va_S.rf
  have hl0 : larr[0]? = some (.val (.ref (ad 300))) := lv_at hl 0 rfl
  have hb0 : ∀ y, y ∉ ([] : List Int) → ad y = ad y := fun _ _ => rfl
  rw [ct_fp_new (ad := ad) (μ := am_i0) (c := 300) (ci := 3) (pd := [0, 1, 2, 3, 4, 12, 13]) (by decide +kernel)] at hP hD
  have hP : va_P (dC, dI) g_cl ((ad 300, .inr (3, ct_fp ad am_i0 300 3 [0, 1, 2, 3, 4, 12, 13])) :: am_wdL [] ad cT am_i0) s.heap := hP
  have hD : va_D A ((ad 300, .inr (3, ct_fp ad am_i0 300 3 [0, 1, 2, 3, 4, 12, 13])) :: am_wdL [] ad cT am_i0) := hD
  refine ct_sup C0 hl.1 hl0 (am_mem_t (g_mem2 149 rfl) rfl) d_i3_0 d_i3_1 (by decide) (by decide) ?_
  refine ct_arr C0 hnm hA (ad := ad) (pd := [0, 1, 2, 3, 4, 12, 13]) (dn := []) hP hD hS hl0 (k := 2) (idx := 9) (pc := 4) (t := 0) (N := 16) (ln := 2) (x := 301) (off := 1) (pd' := [0, 1, 3, 4, 12, 13]) (dn' := [(301, 0, 16)]) (CN := g_R3) (TN := g_T3) (NF := 14) rfl (by decide) (am_mem_t (g_mem2 152 rfl) rfl) rfl rfl (et := .int) (by decide +kernel) rfl rfl (by decide) (Or.inl ⟨rfl, rfl⟩) (by decide) (fun j => i0_z 301 (by decide) j) (by decide +kernel) (by decide +kernel) rfl rfl (by decide +kernel) d_i3_4 d_i3_5 d_i3_7 d_i3_9 (Nat.le_of_ble_eq_true rfl) (Nat.le_of_ble_eq_true rfl) (fun H locs ad1 ha1 hP hD hS => ?_)
  have hb1 := ct_tr hb0 ha1
  refine ct_arr C0 hnm hA (ad := ad1) (pd := [0, 1, 3, 4, 12, 13]) (dn := [(301, 0, 16)]) hP hD hS hl0 (k := 3) (idx := 15) (pc := 12) (t := 0) (N := 16) (ln := 2) (x := 302) (off := 2) (pd' := [0, 1, 4, 12, 13]) (dn' := [(301, 0, 16), (302, 0, 16)]) (CN := g_R3) (TN := g_T3) (NF := 14) rfl (by decide) (am_mem_t (g_mem2 153 rfl) rfl) rfl rfl (et := .int) (by decide +kernel) rfl rfl (by decide) (Or.inl ⟨rfl, rfl⟩) (by decide) (fun j => i0_z 302 (by decide) j) (by decide +kernel) (by decide +kernel) rfl rfl (by decide +kernel) d_i3_12 d_i3_13 d_i3_15 d_i3_17 (Nat.le_of_ble_eq_true rfl) (Nat.le_of_ble_eq_true rfl) (fun H locs ad2 ha2 hP hD hS => ?_)
  have hb2 := ct_tr hb1 ha2
  refine ct_arr C0 hnm hA (ad := ad2) (pd := [0, 1, 4, 12, 13]) (dn := [(301, 0, 16), (302, 0, 16)]) hP hD hS hl0 (k := 4) (idx := 18) (pc := 20) (t := 0) (N := 160) (ln := 3) (x := 303) (off := 3) (pd' := [0, 1, 12, 13]) (dn' := [(301, 0, 16), (302, 0, 16), (303, 0, 160)]) (CN := g_R3) (TN := g_T3) (NF := 14) rfl (by decide) (am_mem_t (g_mem2 154 rfl) rfl) rfl rfl (et := .int) (by decide +kernel) rfl rfl (by decide) (Or.inl ⟨rfl, rfl⟩) (by decide) (fun j => i0_z 303 (by decide) j) (by decide +kernel) (by decide +kernel) rfl rfl (by decide +kernel) d_i3_20 d_i3_21 d_i3_24 d_i3_26 (Nat.le_of_ble_eq_true rfl) (Nat.le_of_ble_eq_true rfl) (fun H locs ad3 ha3 hP hD hS => ?_)
  have hb3 := ct_tr hb2 ha3
  refine lv_aload_n hx hb d_i3_29 rfl hl0 ?_
  refine lv_bipush (v := (Int32.ofInt 99)) hx hb d_i3_30 (by decide) ?_
  refine ct_set C0 hnm (ad := ad3) (pd := [0, 1, 12, 13]) hP hD hS (k := 12) (idx := 21) (pc := 32) (pd' := [0, 1, 13]) (CN := g_R3) (TN := g_T3) (NF := 14) rfl (by decide) (am_mem_t (g_mem2 164 rfl) rfl) rfl rfl (ty := .int) (by decide +kernel) (v := .int (Int32.ofInt 99)) rfl rfl (f := (0, 0)) rfl rfl rfl d_i3_32 (fun H locs hP hD hS => ?_)
  refine lv_aload_n hx hb d_i3_35 rfl hl0 ?_
  refine lv_iconst (v := (Int32.ofInt 1)) hx hb d_i3_36 (by decide) ?_
  refine ct_set C0 hnm (ad := ad3) (pd := [0, 1, 13]) hP hD hS (k := 13) (idx := 25) (pc := 37) (pd' := [0, 1]) (CN := g_R3) (TN := g_T3) (NF := 14) rfl (by decide) (am_mem_t (g_mem2 166 rfl) rfl) rfl rfl (ty := .int) (by decide +kernel) (v := .int (Int32.ofInt 1)) rfl rfl (f := (0, 0)) rfl rfl rfl d_i3_37 (fun H locs hP hD hS => ?_)
  refine lv_aload_n hx hb d_i3_40 rfl hl0 ?_
  refine lv_aload_n hx hb d_i3_41 rfl (lv_at hl 1 rfl) ?_
  refine ct_set C0 hnm (ad := ad3) (pd := [0, 1]) hP hD hS (k := 0) (idx := 28) (pc := 42) (pd' := [1]) (CN := g_R3) (TN := g_T3) (NF := 14) rfl (by decide) (am_mem_t (g_mem2 150 rfl) rfl) rfl rfl (ty := .object "BurningSlips$Reckoner") (by decide +kernel) (v := .ref (ad 40)) rfl rfl (f := (5, 40)) rfl (by show Value.ref (ad 40) = (if (40 : Int) < 0 then .null else .ref (ad3 40)); rw [if_neg (by decide), hb3 40 (by decide)]) rfl d_i3_42 (fun H locs hP hD hS => ?_)
  refine lv_aload_n hx hb d_i3_45 rfl hl0 ?_
  refine lv_iload_n hx hb d_i3_46 rfl (lv_at hl 2 rfl) ?_
  refine ct_set C0 hnm (ad := ad3) (pd := [1]) hP hD hS (k := 1) (idx := 32) (pc := 47) (pd' := []) (CN := g_R3) (TN := g_T3) (NF := 14) rfl (by decide) (am_mem_t (g_mem2 151 rfl) rfl) rfl rfl (ty := .boolean) (by decide +kernel) (v := .int (Int32.ofInt 1)) rfl rfl (f := (2, 0)) rfl rfl rfl d_i3_47 (fun H locs hP hD hS => ?_)
  exact ct_end C0 hr hlocks (ci := 3) (h0 := ad 300) (hb3 300 (by decide)) hb3 rfl hP hD hS d_i3_50
set_option maxHeartbeats 4000000 in
set_option maxRecDepth 20000 in
theorem k_Mach_310 (l : Launch) (dC : Nat → ClassId) (dI : Nat → Nat → Nat) (cT : Nat → ClassId) (ad : Int → Nat) (sz : Nat) : Met l y_i3 (Cond.code y_i3 prog_5_method_1_code 3 none :: am_tG) ({ frames := 4, cells := 3, slots := 192, locals := 60 } : Room) (ct_Pc dC dI cT [.ref (ad 310), .ref (ad 40), .int (Int32.ofInt 0)] ([(ad 310, .inr (3, ct_f0 3))] : va_W) sz) (ct_Qc dC dI cT am_i0 ad [(310, 13, 0), (311, 0, 16), (312, 0, 16), (313, 0, 160)] [311, 312, 313] (va_A ([(ad 310, .inr (3, ct_f0 3))] : va_W) sz)) 3 192 (va_A ([(ad 310, .inr (3, ct_f0 3))] : va_W) sz) := by
  refine ct_met l dC dI cT (by decide) rfl (Nat.le_of_ble_eq_true rfl) ({ frames := 4, cells := 3, slots := 192, locals := 60 } : Room) sz ?_
  intro p e s m args below meth c A larr C0 hnm hr hlocks hA hP hD hl
  have hx := C0.1
  have hb := C0.2.1
  have hS : va_S A s.heap s.heap [] := va_S.rf
  have hl0 : larr[0]? = some (.val (.ref (ad 310))) := lv_at hl 0 rfl
  have hb0 : ∀ y, y ∉ ([] : List Int) → ad y = ad y := fun _ _ => rfl
  rw [ct_fp_new (ad := ad) (μ := am_i0) (c := 310) (ci := 3) (pd := [0, 1, 2, 3, 4, 12, 13]) (by decide +kernel)] at hP hD
  have hP : va_P (dC, dI) g_cl ((ad 310, .inr (3, ct_fp ad am_i0 310 3 [0, 1, 2, 3, 4, 12, 13])) :: am_wdL [] ad cT am_i0) s.heap := hP
  have hD : va_D A ((ad 310, .inr (3, ct_fp ad am_i0 310 3 [0, 1, 2, 3, 4, 12, 13])) :: am_wdL [] ad cT am_i0) := hD
  refine ct_sup C0 hl.1 hl0 (am_mem_t (g_mem2 149 rfl) rfl) d_i3_0 d_i3_1 (by decide) (by decide) ?_
  refine ct_arr C0 hnm hA (ad := ad) (pd := [0, 1, 2, 3, 4, 12, 13]) (dn := []) hP hD hS hl0 (k := 2) (idx := 9) (pc := 4) (t := 0) (N := 16) (ln := 2) (x := 311) (off := 1) (pd' := [0, 1, 3, 4, 12, 13]) (dn' := [(311, 0, 16)]) (CN := g_R3) (TN := g_T3) (NF := 14) rfl (by decide) (am_mem_t (g_mem2 152 rfl) rfl) rfl rfl (et := .int) (by decide +kernel) rfl rfl (by decide) (Or.inl ⟨rfl, rfl⟩) (by decide) (fun j => i0_z 311 (by decide) j) (by decide +kernel) (by decide +kernel) rfl rfl (by decide +kernel) d_i3_4 d_i3_5 d_i3_7 d_i3_9 (Nat.le_of_ble_eq_true rfl) (Nat.le_of_ble_eq_true rfl) (fun H locs ad1 ha1 hP hD hS => ?_)
  have hb1 := ct_tr hb0 ha1
  refine ct_arr C0 hnm hA (ad := ad1) (pd := [0, 1, 3, 4, 12, 13]) (dn := [(311, 0, 16)]) hP hD hS hl0 (k := 3) (idx := 15) (pc := 12) (t := 0) (N := 16) (ln := 2) (x := 312) (off := 2) (pd' := [0, 1, 4, 12, 13]) (dn' := [(311, 0, 16), (312, 0, 16)]) (CN := g_R3) (TN := g_T3) (NF := 14) rfl (by decide) (am_mem_t (g_mem2 153 rfl) rfl) rfl rfl (et := .int) (by decide +kernel) rfl rfl (by decide) (Or.inl ⟨rfl, rfl⟩) (by decide) (fun j => i0_z 312 (by decide) j) (by decide +kernel) (by decide +kernel) rfl rfl (by decide +kernel) d_i3_12 d_i3_13 d_i3_15 d_i3_17 (Nat.le_of_ble_eq_true rfl) (Nat.le_of_ble_eq_true rfl) (fun H locs ad2 ha2 hP hD hS => ?_)
  have hb2 := ct_tr hb1 ha2
  refine ct_arr C0 hnm hA (ad := ad2) (pd := [0, 1, 4, 12, 13]) (dn := [(311, 0, 16), (312, 0, 16)]) hP hD hS hl0 (k := 4) (idx := 18) (pc := 20) (t := 0) (N := 160) (ln := 3) (x := 313) (off := 3) (pd' := [0, 1, 12, 13]) (dn' := [(311, 0, 16), (312, 0, 16), (313, 0, 160)]) (CN := g_R3) (TN := g_T3) (NF := 14) rfl (by decide) (am_mem_t (g_mem2 154 rfl) rfl) rfl rfl (et := .int) (by decide +kernel) rfl rfl (by decide) (Or.inl ⟨rfl, rfl⟩) (by decide) (fun j => i0_z 313 (by decide) j) (by decide +kernel) (by decide +kernel) rfl rfl (by decide +kernel) d_i3_20 d_i3_21 d_i3_24 d_i3_26 (Nat.le_of_ble_eq_true rfl) (Nat.le_of_ble_eq_true rfl) (fun H locs ad3 ha3 hP hD hS => ?_)
  have hb3 := ct_tr hb2 ha3
  refine lv_aload_n hx hb d_i3_29 rfl hl0 ?_
  refine lv_bipush (v := (Int32.ofInt 99)) hx hb d_i3_30 (by decide) ?_
  refine ct_set C0 hnm (ad := ad3) (pd := [0, 1, 12, 13]) hP hD hS (k := 12) (idx := 21) (pc := 32) (pd' := [0, 1, 13]) (CN := g_R3) (TN := g_T3) (NF := 14) rfl (by decide) (am_mem_t (g_mem2 164 rfl) rfl) rfl rfl (ty := .int) (by decide +kernel) (v := .int (Int32.ofInt 99)) rfl rfl (f := (0, 0)) rfl rfl rfl d_i3_32 (fun H locs hP hD hS => ?_)
  refine lv_aload_n hx hb d_i3_35 rfl hl0 ?_
  refine lv_iconst (v := (Int32.ofInt 1)) hx hb d_i3_36 (by decide) ?_
  refine ct_set C0 hnm (ad := ad3) (pd := [0, 1, 13]) hP hD hS (k := 13) (idx := 25) (pc := 37) (pd' := [0, 1]) (CN := g_R3) (TN := g_T3) (NF := 14) rfl (by decide) (am_mem_t (g_mem2 166 rfl) rfl) rfl rfl (ty := .int) (by decide +kernel) (v := .int (Int32.ofInt 1)) rfl rfl (f := (0, 0)) rfl rfl rfl d_i3_37 (fun H locs hP hD hS => ?_)
  refine lv_aload_n hx hb d_i3_40 rfl hl0 ?_
  refine lv_aload_n hx hb d_i3_41 rfl (lv_at hl 1 rfl) ?_
  refine ct_set C0 hnm (ad := ad3) (pd := [0, 1]) hP hD hS (k := 0) (idx := 28) (pc := 42) (pd' := [1]) (CN := g_R3) (TN := g_T3) (NF := 14) rfl (by decide) (am_mem_t (g_mem2 150 rfl) rfl) rfl rfl (ty := .object "BurningSlips$Reckoner") (by decide +kernel) (v := .ref (ad 40)) rfl rfl (f := (5, 40)) rfl (by show Value.ref (ad 40) = (if (40 : Int) < 0 then .null else .ref (ad3 40)); rw [if_neg (by decide), hb3 40 (by decide)]) rfl d_i3_42 (fun H locs hP hD hS => ?_)
  refine lv_aload_n hx hb d_i3_45 rfl hl0 ?_
  refine lv_iload_n hx hb d_i3_46 rfl (lv_at hl 2 rfl) ?_
  refine ct_set C0 hnm (ad := ad3) (pd := [1]) hP hD hS (k := 1) (idx := 32) (pc := 47) (pd' := []) (CN := g_R3) (TN := g_T3) (NF := 14) rfl (by decide) (am_mem_t (g_mem2 151 rfl) rfl) rfl rfl (ty := .boolean) (by decide +kernel) (v := .int (Int32.ofInt 0)) rfl rfl (f := (2, 0)) rfl rfl rfl d_i3_47 (fun H locs hP hD hS => ?_)
  exact ct_end C0 hr hlocks (ci := 3) (h0 := ad 310) (hb3 310 (by decide)) hb3 rfl hP hD hS d_i3_50
set_option maxHeartbeats 4000000 in
set_option maxRecDepth 20000 in
theorem k_Mach_320 (l : Launch) (dC : Nat → ClassId) (dI : Nat → Nat → Nat) (cT : Nat → ClassId) (ad : Int → Nat) (sz : Nat) : Met l y_i3 (Cond.code y_i3 prog_5_method_1_code 3 none :: am_tG) ({ frames := 4, cells := 3, slots := 192, locals := 60 } : Room) (ct_Pc dC dI cT [.ref (ad 320), .ref (ad 40), .int (Int32.ofInt 1)] ([(ad 320, .inr (3, ct_f0 3))] : va_W) sz) (ct_Qc dC dI cT am_i0 ad [(320, 13, 0), (321, 0, 16), (322, 0, 16), (323, 0, 160)] [321, 322, 323] (va_A ([(ad 320, .inr (3, ct_f0 3))] : va_W) sz)) 3 192 (va_A ([(ad 320, .inr (3, ct_f0 3))] : va_W) sz) := by
  refine ct_met l dC dI cT (by decide) rfl (Nat.le_of_ble_eq_true rfl) ({ frames := 4, cells := 3, slots := 192, locals := 60 } : Room) sz ?_
  intro p e s m args below meth c A larr C0 hnm hr hlocks hA hP hD hl
  have hx := C0.1
  have hb := C0.2.1
  have hS : va_S A s.heap s.heap [] := va_S.rf
  have hl0 : larr[0]? = some (.val (.ref (ad 320))) := lv_at hl 0 rfl
  have hb0 : ∀ y, y ∉ ([] : List Int) → ad y = ad y := fun _ _ => rfl
  rw [ct_fp_new (ad := ad) (μ := am_i0) (c := 320) (ci := 3) (pd := [0, 1, 2, 3, 4, 12, 13]) (by decide +kernel)] at hP hD
  have hP : va_P (dC, dI) g_cl ((ad 320, .inr (3, ct_fp ad am_i0 320 3 [0, 1, 2, 3, 4, 12, 13])) :: am_wdL [] ad cT am_i0) s.heap := hP
  have hD : va_D A ((ad 320, .inr (3, ct_fp ad am_i0 320 3 [0, 1, 2, 3, 4, 12, 13])) :: am_wdL [] ad cT am_i0) := hD
  refine ct_sup C0 hl.1 hl0 (am_mem_t (g_mem2 149 rfl) rfl) d_i3_0 d_i3_1 (by decide) (by decide) ?_
  refine ct_arr C0 hnm hA (ad := ad) (pd := [0, 1, 2, 3, 4, 12, 13]) (dn := []) hP hD hS hl0 (k := 2) (idx := 9) (pc := 4) (t := 0) (N := 16) (ln := 2) (x := 321) (off := 1) (pd' := [0, 1, 3, 4, 12, 13]) (dn' := [(321, 0, 16)]) (CN := g_R3) (TN := g_T3) (NF := 14) rfl (by decide) (am_mem_t (g_mem2 152 rfl) rfl) rfl rfl (et := .int) (by decide +kernel) rfl rfl (by decide) (Or.inl ⟨rfl, rfl⟩) (by decide) (fun j => i0_z 321 (by decide) j) (by decide +kernel) (by decide +kernel) rfl rfl (by decide +kernel) d_i3_4 d_i3_5 d_i3_7 d_i3_9 (Nat.le_of_ble_eq_true rfl) (Nat.le_of_ble_eq_true rfl) (fun H locs ad1 ha1 hP hD hS => ?_)
  have hb1 := ct_tr hb0 ha1
  refine ct_arr C0 hnm hA (ad := ad1) (pd := [0, 1, 3, 4, 12, 13]) (dn := [(321, 0, 16)]) hP hD hS hl0 (k := 3) (idx := 15) (pc := 12) (t := 0) (N := 16) (ln := 2) (x := 322) (off := 2) (pd' := [0, 1, 4, 12, 13]) (dn' := [(321, 0, 16), (322, 0, 16)]) (CN := g_R3) (TN := g_T3) (NF := 14) rfl (by decide) (am_mem_t (g_mem2 153 rfl) rfl) rfl rfl (et := .int) (by decide +kernel) rfl rfl (by decide) (Or.inl ⟨rfl, rfl⟩) (by decide) (fun j => i0_z 322 (by decide) j) (by decide +kernel) (by decide +kernel) rfl rfl (by decide +kernel) d_i3_12 d_i3_13 d_i3_15 d_i3_17 (Nat.le_of_ble_eq_true rfl) (Nat.le_of_ble_eq_true rfl) (fun H locs ad2 ha2 hP hD hS => ?_)
  have hb2 := ct_tr hb1 ha2
  refine ct_arr C0 hnm hA (ad := ad2) (pd := [0, 1, 4, 12, 13]) (dn := [(321, 0, 16), (322, 0, 16)]) hP hD hS hl0 (k := 4) (idx := 18) (pc := 20) (t := 0) (N := 160) (ln := 3) (x := 323) (off := 3) (pd' := [0, 1, 12, 13]) (dn' := [(321, 0, 16), (322, 0, 16), (323, 0, 160)]) (CN := g_R3) (TN := g_T3) (NF := 14) rfl (by decide) (am_mem_t (g_mem2 154 rfl) rfl) rfl rfl (et := .int) (by decide +kernel) rfl rfl (by decide) (Or.inl ⟨rfl, rfl⟩) (by decide) (fun j => i0_z 323 (by decide) j) (by decide +kernel) (by decide +kernel) rfl rfl (by decide +kernel) d_i3_20 d_i3_21 d_i3_24 d_i3_26 (Nat.le_of_ble_eq_true rfl) (Nat.le_of_ble_eq_true rfl) (fun H locs ad3 ha3 hP hD hS => ?_)
  have hb3 := ct_tr hb2 ha3
  refine lv_aload_n hx hb d_i3_29 rfl hl0 ?_
  refine lv_bipush (v := (Int32.ofInt 99)) hx hb d_i3_30 (by decide) ?_
  refine ct_set C0 hnm (ad := ad3) (pd := [0, 1, 12, 13]) hP hD hS (k := 12) (idx := 21) (pc := 32) (pd' := [0, 1, 13]) (CN := g_R3) (TN := g_T3) (NF := 14) rfl (by decide) (am_mem_t (g_mem2 164 rfl) rfl) rfl rfl (ty := .int) (by decide +kernel) (v := .int (Int32.ofInt 99)) rfl rfl (f := (0, 0)) rfl rfl rfl d_i3_32 (fun H locs hP hD hS => ?_)
  refine lv_aload_n hx hb d_i3_35 rfl hl0 ?_
  refine lv_iconst (v := (Int32.ofInt 1)) hx hb d_i3_36 (by decide) ?_
  refine ct_set C0 hnm (ad := ad3) (pd := [0, 1, 13]) hP hD hS (k := 13) (idx := 25) (pc := 37) (pd' := [0, 1]) (CN := g_R3) (TN := g_T3) (NF := 14) rfl (by decide) (am_mem_t (g_mem2 166 rfl) rfl) rfl rfl (ty := .int) (by decide +kernel) (v := .int (Int32.ofInt 1)) rfl rfl (f := (0, 0)) rfl rfl rfl d_i3_37 (fun H locs hP hD hS => ?_)
  refine lv_aload_n hx hb d_i3_40 rfl hl0 ?_
  refine lv_aload_n hx hb d_i3_41 rfl (lv_at hl 1 rfl) ?_
  refine ct_set C0 hnm (ad := ad3) (pd := [0, 1]) hP hD hS (k := 0) (idx := 28) (pc := 42) (pd' := [1]) (CN := g_R3) (TN := g_T3) (NF := 14) rfl (by decide) (am_mem_t (g_mem2 150 rfl) rfl) rfl rfl (ty := .object "BurningSlips$Reckoner") (by decide +kernel) (v := .ref (ad 40)) rfl rfl (f := (5, 40)) rfl (by show Value.ref (ad 40) = (if (40 : Int) < 0 then .null else .ref (ad3 40)); rw [if_neg (by decide), hb3 40 (by decide)]) rfl d_i3_42 (fun H locs hP hD hS => ?_)
  refine lv_aload_n hx hb d_i3_45 rfl hl0 ?_
  refine lv_iload_n hx hb d_i3_46 rfl (lv_at hl 2 rfl) ?_
  refine ct_set C0 hnm (ad := ad3) (pd := [1]) hP hD hS (k := 1) (idx := 32) (pc := 47) (pd' := []) (CN := g_R3) (TN := g_T3) (NF := 14) rfl (by decide) (am_mem_t (g_mem2 151 rfl) rfl) rfl rfl (ty := .boolean) (by decide +kernel) (v := .int (Int32.ofInt 1)) rfl rfl (f := (2, 0)) rfl rfl rfl d_i3_47 (fun H locs hP hD hS => ?_)
  exact ct_end C0 hr hlocks (ci := 3) (h0 := ad 320) (hb3 320 (by decide)) hb3 rfl hP hD hS d_i3_50
set_option maxHeartbeats 4000000 in
set_option maxRecDepth 20000 in
theorem k_Mach_330 (l : Launch) (dC : Nat → ClassId) (dI : Nat → Nat → Nat) (cT : Nat → ClassId) (ad : Int → Nat) (sz : Nat) : Met l y_i3 (Cond.code y_i3 prog_5_method_1_code 3 none :: am_tG) ({ frames := 4, cells := 3, slots := 192, locals := 60 } : Room) (ct_Pc dC dI cT [.ref (ad 330), .ref (ad 40), .int (Int32.ofInt 1)] ([(ad 330, .inr (3, ct_f0 3))] : va_W) sz) (ct_Qc dC dI cT am_i0 ad [(330, 13, 0), (331, 0, 16), (332, 0, 16), (333, 0, 160)] [331, 332, 333] (va_A ([(ad 330, .inr (3, ct_f0 3))] : va_W) sz)) 3 192 (va_A ([(ad 330, .inr (3, ct_f0 3))] : va_W) sz) := by
  refine ct_met l dC dI cT (by decide) rfl (Nat.le_of_ble_eq_true rfl) ({ frames := 4, cells := 3, slots := 192, locals := 60 } : Room) sz ?_
  intro p e s m args below meth c A larr C0 hnm hr hlocks hA hP hD hl
  have hx := C0.1
  have hb := C0.2.1
  have hS : va_S A s.heap s.heap [] := va_S.rf
  have hl0 : larr[0]? = some (.val (.ref (ad 330))) := lv_at hl 0 rfl
  have hb0 : ∀ y, y ∉ ([] : List Int) → ad y = ad y := fun _ _ => rfl
  rw [ct_fp_new (ad := ad) (μ := am_i0) (c := 330) (ci := 3) (pd := [0, 1, 2, 3, 4, 12, 13]) (by decide +kernel)] at hP hD
  have hP : va_P (dC, dI) g_cl ((ad 330, .inr (3, ct_fp ad am_i0 330 3 [0, 1, 2, 3, 4, 12, 13])) :: am_wdL [] ad cT am_i0) s.heap := hP
  have hD : va_D A ((ad 330, .inr (3, ct_fp ad am_i0 330 3 [0, 1, 2, 3, 4, 12, 13])) :: am_wdL [] ad cT am_i0) := hD
  refine ct_sup C0 hl.1 hl0 (am_mem_t (g_mem2 149 rfl) rfl) d_i3_0 d_i3_1 (by decide) (by decide) ?_
  refine ct_arr C0 hnm hA (ad := ad) (pd := [0, 1, 2, 3, 4, 12, 13]) (dn := []) hP hD hS hl0 (k := 2) (idx := 9) (pc := 4) (t := 0) (N := 16) (ln := 2) (x := 331) (off := 1) (pd' := [0, 1, 3, 4, 12, 13]) (dn' := [(331, 0, 16)]) (CN := g_R3) (TN := g_T3) (NF := 14) rfl (by decide) (am_mem_t (g_mem2 152 rfl) rfl) rfl rfl (et := .int) (by decide +kernel) rfl rfl (by decide) (Or.inl ⟨rfl, rfl⟩) (by decide) (fun j => i0_z 331 (by decide) j) (by decide +kernel) (by decide +kernel) rfl rfl (by decide +kernel) d_i3_4 d_i3_5 d_i3_7 d_i3_9 (Nat.le_of_ble_eq_true rfl) (Nat.le_of_ble_eq_true rfl) (fun H locs ad1 ha1 hP hD hS => ?_)
  have hb1 := ct_tr hb0 ha1
  refine ct_arr C0 hnm hA (ad := ad1) (pd := [0, 1, 3, 4, 12, 13]) (dn := [(331, 0, 16)]) hP hD hS hl0 (k := 3) (idx := 15) (pc := 12) (t := 0) (N := 16) (ln := 2) (x := 332) (off := 2) (pd' := [0, 1, 4, 12, 13]) (dn' := [(331, 0, 16), (332, 0, 16)]) (CN := g_R3) (TN := g_T3) (NF := 14) rfl (by decide) (am_mem_t (g_mem2 153 rfl) rfl) rfl rfl (et := .int) (by decide +kernel) rfl rfl (by decide) (Or.inl ⟨rfl, rfl⟩) (by decide) (fun j => i0_z 332 (by decide) j) (by decide +kernel) (by decide +kernel) rfl rfl (by decide +kernel) d_i3_12 d_i3_13 d_i3_15 d_i3_17 (Nat.le_of_ble_eq_true rfl) (Nat.le_of_ble_eq_true rfl) (fun H locs ad2 ha2 hP hD hS => ?_)
  have hb2 := ct_tr hb1 ha2
  refine ct_arr C0 hnm hA (ad := ad2) (pd := [0, 1, 4, 12, 13]) (dn := [(331, 0, 16), (332, 0, 16)]) hP hD hS hl0 (k := 4) (idx := 18) (pc := 20) (t := 0) (N := 160) (ln := 3) (x := 333) (off := 3) (pd' := [0, 1, 12, 13]) (dn' := [(331, 0, 16), (332, 0, 16), (333, 0, 160)]) (CN := g_R3) (TN := g_T3) (NF := 14) rfl (by decide) (am_mem_t (g_mem2 154 rfl) rfl) rfl rfl (et := .int) (by decide +kernel) rfl rfl (by decide) (Or.inl ⟨rfl, rfl⟩) (by decide) (fun j => i0_z 333 (by decide) j) (by decide +kernel) (by decide +kernel) rfl rfl (by decide +kernel) d_i3_20 d_i3_21 d_i3_24 d_i3_26 (Nat.le_of_ble_eq_true rfl) (Nat.le_of_ble_eq_true rfl) (fun H locs ad3 ha3 hP hD hS => ?_)
  have hb3 := ct_tr hb2 ha3
  refine lv_aload_n hx hb d_i3_29 rfl hl0 ?_
  refine lv_bipush (v := (Int32.ofInt 99)) hx hb d_i3_30 (by decide) ?_
  refine ct_set C0 hnm (ad := ad3) (pd := [0, 1, 12, 13]) hP hD hS (k := 12) (idx := 21) (pc := 32) (pd' := [0, 1, 13]) (CN := g_R3) (TN := g_T3) (NF := 14) rfl (by decide) (am_mem_t (g_mem2 164 rfl) rfl) rfl rfl (ty := .int) (by decide +kernel) (v := .int (Int32.ofInt 99)) rfl rfl (f := (0, 0)) rfl rfl rfl d_i3_32 (fun H locs hP hD hS => ?_)
  refine lv_aload_n hx hb d_i3_35 rfl hl0 ?_
  refine lv_iconst (v := (Int32.ofInt 1)) hx hb d_i3_36 (by decide) ?_
  refine ct_set C0 hnm (ad := ad3) (pd := [0, 1, 13]) hP hD hS (k := 13) (idx := 25) (pc := 37) (pd' := [0, 1]) (CN := g_R3) (TN := g_T3) (NF := 14) rfl (by decide) (am_mem_t (g_mem2 166 rfl) rfl) rfl rfl (ty := .int) (by decide +kernel) (v := .int (Int32.ofInt 1)) rfl rfl (f := (0, 0)) rfl rfl rfl d_i3_37 (fun H locs hP hD hS => ?_)
  refine lv_aload_n hx hb d_i3_40 rfl hl0 ?_
  refine lv_aload_n hx hb d_i3_41 rfl (lv_at hl 1 rfl) ?_
  refine ct_set C0 hnm (ad := ad3) (pd := [0, 1]) hP hD hS (k := 0) (idx := 28) (pc := 42) (pd' := [1]) (CN := g_R3) (TN := g_T3) (NF := 14) rfl (by decide) (am_mem_t (g_mem2 150 rfl) rfl) rfl rfl (ty := .object "BurningSlips$Reckoner") (by decide +kernel) (v := .ref (ad 40)) rfl rfl (f := (5, 40)) rfl (by show Value.ref (ad 40) = (if (40 : Int) < 0 then .null else .ref (ad3 40)); rw [if_neg (by decide), hb3 40 (by decide)]) rfl d_i3_42 (fun H locs hP hD hS => ?_)
  refine lv_aload_n hx hb d_i3_45 rfl hl0 ?_
  refine lv_iload_n hx hb d_i3_46 rfl (lv_at hl 2 rfl) ?_
  refine ct_set C0 hnm (ad := ad3) (pd := [1]) hP hD hS (k := 1) (idx := 32) (pc := 47) (pd' := []) (CN := g_R3) (TN := g_T3) (NF := 14) rfl (by decide) (am_mem_t (g_mem2 151 rfl) rfl) rfl rfl (ty := .boolean) (by decide +kernel) (v := .int (Int32.ofInt 1)) rfl rfl (f := (2, 0)) rfl rfl rfl d_i3_47 (fun H locs hP hD hS => ?_)
  exact ct_end C0 hr hlocks (ci := 3) (h0 := ad 330) (hb3 330 (by decide)) hb3 rfl hP hD hS d_i3_50
set_option maxHeartbeats 4000000 in
set_option maxRecDepth 20000 in
theorem k_Mach_340 (l : Launch) (dC : Nat → ClassId) (dI : Nat → Nat → Nat) (cT : Nat → ClassId) (ad : Int → Nat) (sz : Nat) : Met l y_i3 (Cond.code y_i3 prog_5_method_1_code 3 none :: am_tG) ({ frames := 4, cells := 3, slots := 192, locals := 60 } : Room) (ct_Pc dC dI cT [.ref (ad 340), .ref (ad 40), .int (Int32.ofInt 1)] ([(ad 340, .inr (3, ct_f0 3))] : va_W) sz) (ct_Qc dC dI cT am_i0 ad [(340, 13, 0), (341, 0, 16), (342, 0, 16), (343, 0, 160)] [341, 342, 343] (va_A ([(ad 340, .inr (3, ct_f0 3))] : va_W) sz)) 3 192 (va_A ([(ad 340, .inr (3, ct_f0 3))] : va_W) sz) := by
  refine ct_met l dC dI cT (by decide) rfl (Nat.le_of_ble_eq_true rfl) ({ frames := 4, cells := 3, slots := 192, locals := 60 } : Room) sz ?_
  intro p e s m args below meth c A larr C0 hnm hr hlocks hA hP hD hl
  have hx := C0.1
  have hb := C0.2.1
  have hS : va_S A s.heap s.heap [] := va_S.rf
  have hl0 : larr[0]? = some (.val (.ref (ad 340))) := lv_at hl 0 rfl
  have hb0 : ∀ y, y ∉ ([] : List Int) → ad y = ad y := fun _ _ => rfl
  rw [ct_fp_new (ad := ad) (μ := am_i0) (c := 340) (ci := 3) (pd := [0, 1, 2, 3, 4, 12, 13]) (by decide +kernel)] at hP hD
  have hP : va_P (dC, dI) g_cl ((ad 340, .inr (3, ct_fp ad am_i0 340 3 [0, 1, 2, 3, 4, 12, 13])) :: am_wdL [] ad cT am_i0) s.heap := hP
  have hD : va_D A ((ad 340, .inr (3, ct_fp ad am_i0 340 3 [0, 1, 2, 3, 4, 12, 13])) :: am_wdL [] ad cT am_i0) := hD
  refine ct_sup C0 hl.1 hl0 (am_mem_t (g_mem2 149 rfl) rfl) d_i3_0 d_i3_1 (by decide) (by decide) ?_
  refine ct_arr C0 hnm hA (ad := ad) (pd := [0, 1, 2, 3, 4, 12, 13]) (dn := []) hP hD hS hl0 (k := 2) (idx := 9) (pc := 4) (t := 0) (N := 16) (ln := 2) (x := 341) (off := 1) (pd' := [0, 1, 3, 4, 12, 13]) (dn' := [(341, 0, 16)]) (CN := g_R3) (TN := g_T3) (NF := 14) rfl (by decide) (am_mem_t (g_mem2 152 rfl) rfl) rfl rfl (et := .int) (by decide +kernel) rfl rfl (by decide) (Or.inl ⟨rfl, rfl⟩) (by decide) (fun j => i0_z 341 (by decide) j) (by decide +kernel) (by decide +kernel) rfl rfl (by decide +kernel) d_i3_4 d_i3_5 d_i3_7 d_i3_9 (Nat.le_of_ble_eq_true rfl) (Nat.le_of_ble_eq_true rfl) (fun H locs ad1 ha1 hP hD hS => ?_)
  have hb1 := ct_tr hb0 ha1
  refine ct_arr C0 hnm hA (ad := ad1) (pd := [0, 1, 3, 4, 12, 13]) (dn := [(341, 0, 16)]) hP hD hS hl0 (k := 3) (idx := 15) (pc := 12) (t := 0) (N := 16) (ln := 2) (x := 342) (off := 2) (pd' := [0, 1, 4, 12, 13]) (dn' := [(341, 0, 16), (342, 0, 16)]) (CN := g_R3) (TN := g_T3) (NF := 14) rfl (by decide) (am_mem_t (g_mem2 153 rfl) rfl) rfl rfl (et := .int) (by decide +kernel) rfl rfl (by decide) (Or.inl ⟨rfl, rfl⟩) (by decide) (fun j => i0_z 342 (by decide) j) (by decide +kernel) (by decide +kernel) rfl rfl (by decide +kernel) d_i3_12 d_i3_13 d_i3_15 d_i3_17 (Nat.le_of_ble_eq_true rfl) (Nat.le_of_ble_eq_true rfl) (fun H locs ad2 ha2 hP hD hS => ?_)
  have hb2 := ct_tr hb1 ha2
  refine ct_arr C0 hnm hA (ad := ad2) (pd := [0, 1, 4, 12, 13]) (dn := [(341, 0, 16), (342, 0, 16)]) hP hD hS hl0 (k := 4) (idx := 18) (pc := 20) (t := 0) (N := 160) (ln := 3) (x := 343) (off := 3) (pd' := [0, 1, 12, 13]) (dn' := [(341, 0, 16), (342, 0, 16), (343, 0, 160)]) (CN := g_R3) (TN := g_T3) (NF := 14) rfl (by decide) (am_mem_t (g_mem2 154 rfl) rfl) rfl rfl (et := .int) (by decide +kernel) rfl rfl (by decide) (Or.inl ⟨rfl, rfl⟩) (by decide) (fun j => i0_z 343 (by decide) j) (by decide +kernel) (by decide +kernel) rfl rfl (by decide +kernel) d_i3_20 d_i3_21 d_i3_24 d_i3_26 (Nat.le_of_ble_eq_true rfl) (Nat.le_of_ble_eq_true rfl) (fun H locs ad3 ha3 hP hD hS => ?_)
  have hb3 := ct_tr hb2 ha3
  refine lv_aload_n hx hb d_i3_29 rfl hl0 ?_
  refine lv_bipush (v := (Int32.ofInt 99)) hx hb d_i3_30 (by decide) ?_
  refine ct_set C0 hnm (ad := ad3) (pd := [0, 1, 12, 13]) hP hD hS (k := 12) (idx := 21) (pc := 32) (pd' := [0, 1, 13]) (CN := g_R3) (TN := g_T3) (NF := 14) rfl (by decide) (am_mem_t (g_mem2 164 rfl) rfl) rfl rfl (ty := .int) (by decide +kernel) (v := .int (Int32.ofInt 99)) rfl rfl (f := (0, 0)) rfl rfl rfl d_i3_32 (fun H locs hP hD hS => ?_)
  refine lv_aload_n hx hb d_i3_35 rfl hl0 ?_
  refine lv_iconst (v := (Int32.ofInt 1)) hx hb d_i3_36 (by decide) ?_
  refine ct_set C0 hnm (ad := ad3) (pd := [0, 1, 13]) hP hD hS (k := 13) (idx := 25) (pc := 37) (pd' := [0, 1]) (CN := g_R3) (TN := g_T3) (NF := 14) rfl (by decide) (am_mem_t (g_mem2 166 rfl) rfl) rfl rfl (ty := .int) (by decide +kernel) (v := .int (Int32.ofInt 1)) rfl rfl (f := (0, 0)) rfl rfl rfl d_i3_37 (fun H locs hP hD hS => ?_)
  refine lv_aload_n hx hb d_i3_40 rfl hl0 ?_
  refine lv_aload_n hx hb d_i3_41 rfl (lv_at hl 1 rfl) ?_
  refine ct_set C0 hnm (ad := ad3) (pd := [0, 1]) hP hD hS (k := 0) (idx := 28) (pc := 42) (pd' := [1]) (CN := g_R3) (TN := g_T3) (NF := 14) rfl (by decide) (am_mem_t (g_mem2 150 rfl) rfl) rfl rfl (ty := .object "BurningSlips$Reckoner") (by decide +kernel) (v := .ref (ad 40)) rfl rfl (f := (5, 40)) rfl (by show Value.ref (ad 40) = (if (40 : Int) < 0 then .null else .ref (ad3 40)); rw [if_neg (by decide), hb3 40 (by decide)]) rfl d_i3_42 (fun H locs hP hD hS => ?_)
  refine lv_aload_n hx hb d_i3_45 rfl hl0 ?_
  refine lv_iload_n hx hb d_i3_46 rfl (lv_at hl 2 rfl) ?_
  refine ct_set C0 hnm (ad := ad3) (pd := [1]) hP hD hS (k := 1) (idx := 32) (pc := 47) (pd' := []) (CN := g_R3) (TN := g_T3) (NF := 14) rfl (by decide) (am_mem_t (g_mem2 151 rfl) rfl) rfl rfl (ty := .boolean) (by decide +kernel) (v := .int (Int32.ofInt 1)) rfl rfl (f := (2, 0)) rfl rfl rfl d_i3_47 (fun H locs hP hD hS => ?_)
  exact ct_end C0 hr hlocks (ci := 3) (h0 := ad 340) (hb3 340 (by decide)) hb3 rfl hP hD hS d_i3_50
set_option maxHeartbeats 4000000 in
set_option maxRecDepth 20000 in
theorem k_Mach_350 (l : Launch) (dC : Nat → ClassId) (dI : Nat → Nat → Nat) (cT : Nat → ClassId) (ad : Int → Nat) (sz : Nat) : Met l y_i3 (Cond.code y_i3 prog_5_method_1_code 3 none :: am_tG) ({ frames := 4, cells := 3, slots := 192, locals := 60 } : Room) (ct_Pc dC dI cT [.ref (ad 350), .ref (ad 40), .int (Int32.ofInt 1)] ([(ad 350, .inr (3, ct_f0 3))] : va_W) sz) (ct_Qc dC dI cT am_i0 ad [(350, 13, 0), (351, 0, 16), (352, 0, 16), (353, 0, 160)] [351, 352, 353] (va_A ([(ad 350, .inr (3, ct_f0 3))] : va_W) sz)) 3 192 (va_A ([(ad 350, .inr (3, ct_f0 3))] : va_W) sz) := by
  refine ct_met l dC dI cT (by decide) rfl (Nat.le_of_ble_eq_true rfl) ({ frames := 4, cells := 3, slots := 192, locals := 60 } : Room) sz ?_
  intro p e s m args below meth c A larr C0 hnm hr hlocks hA hP hD hl
  have hx := C0.1
  have hb := C0.2.1
  have hS : va_S A s.heap s.heap [] := va_S.rf
  have hl0 : larr[0]? = some (.val (.ref (ad 350))) := lv_at hl 0 rfl
  have hb0 : ∀ y, y ∉ ([] : List Int) → ad y = ad y := fun _ _ => rfl
  rw [ct_fp_new (ad := ad) (μ := am_i0) (c := 350) (ci := 3) (pd := [0, 1, 2, 3, 4, 12, 13]) (by decide +kernel)] at hP hD
  have hP : va_P (dC, dI) g_cl ((ad 350, .inr (3, ct_fp ad am_i0 350 3 [0, 1, 2, 3, 4, 12, 13])) :: am_wdL [] ad cT am_i0) s.heap := hP
  have hD : va_D A ((ad 350, .inr (3, ct_fp ad am_i0 350 3 [0, 1, 2, 3, 4, 12, 13])) :: am_wdL [] ad cT am_i0) := hD
  refine ct_sup C0 hl.1 hl0 (am_mem_t (g_mem2 149 rfl) rfl) d_i3_0 d_i3_1 (by decide) (by decide) ?_
  refine ct_arr C0 hnm hA (ad := ad) (pd := [0, 1, 2, 3, 4, 12, 13]) (dn := []) hP hD hS hl0 (k := 2) (idx := 9) (pc := 4) (t := 0) (N := 16) (ln := 2) (x := 351) (off := 1) (pd' := [0, 1, 3, 4, 12, 13]) (dn' := [(351, 0, 16)]) (CN := g_R3) (TN := g_T3) (NF := 14) rfl (by decide) (am_mem_t (g_mem2 152 rfl) rfl) rfl rfl (et := .int) (by decide +kernel) rfl rfl (by decide) (Or.inl ⟨rfl, rfl⟩) (by decide) (fun j => i0_z 351 (by decide) j) (by decide +kernel) (by decide +kernel) rfl rfl (by decide +kernel) d_i3_4 d_i3_5 d_i3_7 d_i3_9 (Nat.le_of_ble_eq_true rfl) (Nat.le_of_ble_eq_true rfl) (fun H locs ad1 ha1 hP hD hS => ?_)
  have hb1 := ct_tr hb0 ha1
  refine ct_arr C0 hnm hA (ad := ad1) (pd := [0, 1, 3, 4, 12, 13]) (dn := [(351, 0, 16)]) hP hD hS hl0 (k := 3) (idx := 15) (pc := 12) (t := 0) (N := 16) (ln := 2) (x := 352) (off := 2) (pd' := [0, 1, 4, 12, 13]) (dn' := [(351, 0, 16), (352, 0, 16)]) (CN := g_R3) (TN := g_T3) (NF := 14) rfl (by decide) (am_mem_t (g_mem2 153 rfl) rfl) rfl rfl (et := .int) (by decide +kernel) rfl rfl (by decide) (Or.inl ⟨rfl, rfl⟩) (by decide) (fun j => i0_z 352 (by decide) j) (by decide +kernel) (by decide +kernel) rfl rfl (by decide +kernel) d_i3_12 d_i3_13 d_i3_15 d_i3_17 (Nat.le_of_ble_eq_true rfl) (Nat.le_of_ble_eq_true rfl) (fun H locs ad2 ha2 hP hD hS => ?_)
  have hb2 := ct_tr hb1 ha2
  refine ct_arr C0 hnm hA (ad := ad2) (pd := [0, 1, 4, 12, 13]) (dn := [(351, 0, 16), (352, 0, 16)]) hP hD hS hl0 (k := 4) (idx := 18) (pc := 20) (t := 0) (N := 160) (ln := 3) (x := 353) (off := 3) (pd' := [0, 1, 12, 13]) (dn' := [(351, 0, 16), (352, 0, 16), (353, 0, 160)]) (CN := g_R3) (TN := g_T3) (NF := 14) rfl (by decide) (am_mem_t (g_mem2 154 rfl) rfl) rfl rfl (et := .int) (by decide +kernel) rfl rfl (by decide) (Or.inl ⟨rfl, rfl⟩) (by decide) (fun j => i0_z 353 (by decide) j) (by decide +kernel) (by decide +kernel) rfl rfl (by decide +kernel) d_i3_20 d_i3_21 d_i3_24 d_i3_26 (Nat.le_of_ble_eq_true rfl) (Nat.le_of_ble_eq_true rfl) (fun H locs ad3 ha3 hP hD hS => ?_)
  have hb3 := ct_tr hb2 ha3
  refine lv_aload_n hx hb d_i3_29 rfl hl0 ?_
  refine lv_bipush (v := (Int32.ofInt 99)) hx hb d_i3_30 (by decide) ?_
  refine ct_set C0 hnm (ad := ad3) (pd := [0, 1, 12, 13]) hP hD hS (k := 12) (idx := 21) (pc := 32) (pd' := [0, 1, 13]) (CN := g_R3) (TN := g_T3) (NF := 14) rfl (by decide) (am_mem_t (g_mem2 164 rfl) rfl) rfl rfl (ty := .int) (by decide +kernel) (v := .int (Int32.ofInt 99)) rfl rfl (f := (0, 0)) rfl rfl rfl d_i3_32 (fun H locs hP hD hS => ?_)
  refine lv_aload_n hx hb d_i3_35 rfl hl0 ?_
  refine lv_iconst (v := (Int32.ofInt 1)) hx hb d_i3_36 (by decide) ?_
  refine ct_set C0 hnm (ad := ad3) (pd := [0, 1, 13]) hP hD hS (k := 13) (idx := 25) (pc := 37) (pd' := [0, 1]) (CN := g_R3) (TN := g_T3) (NF := 14) rfl (by decide) (am_mem_t (g_mem2 166 rfl) rfl) rfl rfl (ty := .int) (by decide +kernel) (v := .int (Int32.ofInt 1)) rfl rfl (f := (0, 0)) rfl rfl rfl d_i3_37 (fun H locs hP hD hS => ?_)
  refine lv_aload_n hx hb d_i3_40 rfl hl0 ?_
  refine lv_aload_n hx hb d_i3_41 rfl (lv_at hl 1 rfl) ?_
  refine ct_set C0 hnm (ad := ad3) (pd := [0, 1]) hP hD hS (k := 0) (idx := 28) (pc := 42) (pd' := [1]) (CN := g_R3) (TN := g_T3) (NF := 14) rfl (by decide) (am_mem_t (g_mem2 150 rfl) rfl) rfl rfl (ty := .object "BurningSlips$Reckoner") (by decide +kernel) (v := .ref (ad 40)) rfl rfl (f := (5, 40)) rfl (by show Value.ref (ad 40) = (if (40 : Int) < 0 then .null else .ref (ad3 40)); rw [if_neg (by decide), hb3 40 (by decide)]) rfl d_i3_42 (fun H locs hP hD hS => ?_)
  refine lv_aload_n hx hb d_i3_45 rfl hl0 ?_
  refine lv_iload_n hx hb d_i3_46 rfl (lv_at hl 2 rfl) ?_
  refine ct_set C0 hnm (ad := ad3) (pd := [1]) hP hD hS (k := 1) (idx := 32) (pc := 47) (pd' := []) (CN := g_R3) (TN := g_T3) (NF := 14) rfl (by decide) (am_mem_t (g_mem2 151 rfl) rfl) rfl rfl (ty := .boolean) (by decide +kernel) (v := .int (Int32.ofInt 1)) rfl rfl (f := (2, 0)) rfl rfl rfl d_i3_47 (fun H locs hP hD hS => ?_)
  exact ct_end C0 hr hlocks (ci := 3) (h0 := ad 350) (hb3 350 (by decide)) hb3 rfl hP hD hS d_i3_50
