/-! The functions, for the evaluator. Printed by program (wip/p27/ev4.py). -/
theorem e_FU : 4096 ≤ am_FU := Nat.le_trans (by decide) am_FU_ge
theorem vr_neg {c x : Int} {a : Nat} (h : vr c a x) : vr c (eSub 9223372036854775809 a) (w32 (-x)) := by
  have := vr_sub (c := c) (x := 0) (y := x) (a := 9223372036854775809) (b := a) (vr_k (by decide) (by decide)) h
  rw [Int.zero_sub] at this
  exact this
theorem vl_m8 {c : Int} : vr c 9223372036854775801 (-8) := vr_k (by decide) (by decide)
theorem vl_m1 {c : Int} : vr c 9223372036854775808 (-1) := vr_k (by decide) (by decide)
theorem vl_0 {c : Int} : vr c 9223372036854775809 0 := vr_k (by decide) (by decide)
theorem vl_1 {c : Int} : vr c 9223372036854775810 1 := vr_k (by decide) (by decide)
theorem vl_2 {c : Int} : vr c 9223372036854775811 2 := vr_k (by decide) (by decide)
theorem vl_3 {c : Int} : vr c 9223372036854775812 3 := vr_k (by decide) (by decide)
theorem vl_4 {c : Int} : vr c 9223372036854775813 4 := vr_k (by decide) (by decide)
theorem vl_5 {c : Int} : vr c 9223372036854775814 5 := vr_k (by decide) (by decide)
theorem vl_6 {c : Int} : vr c 9223372036854775815 6 := vr_k (by decide) (by decide)
theorem vl_7 {c : Int} : vr c 9223372036854775816 7 := vr_k (by decide) (by decide)
theorem vl_8 {c : Int} : vr c 9223372036854775817 8 := vr_k (by decide) (by decide)
theorem vl_9 {c : Int} : vr c 9223372036854775818 9 := vr_k (by decide) (by decide)
theorem vl_10 {c : Int} : vr c 9223372036854775819 10 := vr_k (by decide) (by decide)
theorem vl_11 {c : Int} : vr c 9223372036854775820 11 := vr_k (by decide) (by decide)
theorem vl_12 {c : Int} : vr c 9223372036854775821 12 := vr_k (by decide) (by decide)
theorem vl_13 {c : Int} : vr c 9223372036854775822 13 := vr_k (by decide) (by decide)
theorem vl_16 {c : Int} : vr c 9223372036854775825 16 := vr_k (by decide) (by decide)
theorem vl_17 {c : Int} : vr c 9223372036854775826 17 := vr_k (by decide) (by decide)
theorem vl_20 {c : Int} : vr c 9223372036854775829 20 := vr_k (by decide) (by decide)
theorem vl_21 {c : Int} : vr c 9223372036854775830 21 := vr_k (by decide) (by decide)
theorem vl_22 {c : Int} : vr c 9223372036854775831 22 := vr_k (by decide) (by decide)
theorem vl_23 {c : Int} : vr c 9223372036854775832 23 := vr_k (by decide) (by decide)
theorem vl_24 {c : Int} : vr c 9223372036854775833 24 := vr_k (by decide) (by decide)
theorem vl_30 {c : Int} : vr c 9223372036854775839 30 := vr_k (by decide) (by decide)
theorem vl_31 {c : Int} : vr c 9223372036854775840 31 := vr_k (by decide) (by decide)
theorem vl_32 {c : Int} : vr c 9223372036854775841 32 := vr_k (by decide) (by decide)
theorem vl_33 {c : Int} : vr c 9223372036854775842 33 := vr_k (by decide) (by decide)
theorem vl_34 {c : Int} : vr c 9223372036854775843 34 := vr_k (by decide) (by decide)
theorem vl_35 {c : Int} : vr c 9223372036854775844 35 := vr_k (by decide) (by decide)
theorem vl_40 {c : Int} : vr c 9223372036854775849 40 := vr_k (by decide) (by decide)
theorem vl_41 {c : Int} : vr c 9223372036854775850 41 := vr_k (by decide) (by decide)
theorem vl_42 {c : Int} : vr c 9223372036854775851 42 := vr_k (by decide) (by decide)
theorem vl_43 {c : Int} : vr c 9223372036854775852 43 := vr_k (by decide) (by decide)
theorem vl_44 {c : Int} : vr c 9223372036854775853 44 := vr_k (by decide) (by decide)
theorem vl_45 {c : Int} : vr c 9223372036854775854 45 := vr_k (by decide) (by decide)
theorem vl_46 {c : Int} : vr c 9223372036854775855 46 := vr_k (by decide) (by decide)
theorem vl_47 {c : Int} : vr c 9223372036854775856 47 := vr_k (by decide) (by decide)
theorem vl_48 {c : Int} : vr c 9223372036854775857 48 := vr_k (by decide) (by decide)
theorem vl_49 {c : Int} : vr c 9223372036854775858 49 := vr_k (by decide) (by decide)
theorem vl_50 {c : Int} : vr c 9223372036854775859 50 := vr_k (by decide) (by decide)
theorem vl_51 {c : Int} : vr c 9223372036854775860 51 := vr_k (by decide) (by decide)
theorem vl_52 {c : Int} : vr c 9223372036854775861 52 := vr_k (by decide) (by decide)
theorem vl_53 {c : Int} : vr c 9223372036854775862 53 := vr_k (by decide) (by decide)
theorem vl_54 {c : Int} : vr c 9223372036854775863 54 := vr_k (by decide) (by decide)
theorem vl_55 {c : Int} : vr c 9223372036854775864 55 := vr_k (by decide) (by decide)
theorem vl_56 {c : Int} : vr c 9223372036854775865 56 := vr_k (by decide) (by decide)
theorem vl_57 {c : Int} : vr c 9223372036854775866 57 := vr_k (by decide) (by decide)
theorem vl_58 {c : Int} : vr c 9223372036854775867 58 := vr_k (by decide) (by decide)
theorem vl_59 {c : Int} : vr c 9223372036854775868 59 := vr_k (by decide) (by decide)
theorem vl_60 {c : Int} : vr c 9223372036854775869 60 := vr_k (by decide) (by decide)
theorem vl_61 {c : Int} : vr c 9223372036854775870 61 := vr_k (by decide) (by decide)
theorem vl_62 {c : Int} : vr c 9223372036854775871 62 := vr_k (by decide) (by decide)
theorem vl_63 {c : Int} : vr c 9223372036854775872 63 := vr_k (by decide) (by decide)
theorem vl_64 {c : Int} : vr c 9223372036854775873 64 := vr_k (by decide) (by decide)
theorem vl_65 {c : Int} : vr c 9223372036854775874 65 := vr_k (by decide) (by decide)
theorem vl_66 {c : Int} : vr c 9223372036854775875 66 := vr_k (by decide) (by decide)
theorem vl_67 {c : Int} : vr c 9223372036854775876 67 := vr_k (by decide) (by decide)
theorem vl_97 {c : Int} : vr c 9223372036854775906 97 := vr_k (by decide) (by decide)
theorem vl_99 {c : Int} : vr c 9223372036854775908 99 := vr_k (by decide) (by decide)
theorem vl_100 {c : Int} : vr c 9223372036854775909 100 := vr_k (by decide) (by decide)
theorem vl_109 {c : Int} : vr c 9223372036854775918 109 := vr_k (by decide) (by decide)
theorem vl_110 {c : Int} : vr c 9223372036854775919 110 := vr_k (by decide) (by decide)
theorem vl_111 {c : Int} : vr c 9223372036854775920 111 := vr_k (by decide) (by decide)
theorem vl_112 {c : Int} : vr c 9223372036854775921 112 := vr_k (by decide) (by decide)
theorem vl_113 {c : Int} : vr c 9223372036854775922 113 := vr_k (by decide) (by decide)
theorem vl_114 {c : Int} : vr c 9223372036854775923 114 := vr_k (by decide) (by decide)
theorem vl_115 {c : Int} : vr c 9223372036854775924 115 := vr_k (by decide) (by decide)
theorem vl_116 {c : Int} : vr c 9223372036854775925 116 := vr_k (by decide) (by decide)
theorem vl_122 {c : Int} : vr c 9223372036854775931 122 := vr_k (by decide) (by decide)
theorem vl_126 {c : Int} : vr c 9223372036854775935 126 := vr_k (by decide) (by decide)
theorem vl_128 {c : Int} : vr c 9223372036854775937 128 := vr_k (by decide) (by decide)
theorem vl_255 {c : Int} : vr c 9223372036854776064 255 := vr_k (by decide) (by decide)
theorem vl_256 {c : Int} : vr c 9223372036854776065 256 := vr_k (by decide) (by decide)
theorem vl_300 {c : Int} : vr c 9223372036854776109 300 := vr_k (by decide) (by decide)
theorem vl_310 {c : Int} : vr c 9223372036854776119 310 := vr_k (by decide) (by decide)
theorem vl_950 {c : Int} : vr c 9223372036854776759 950 := vr_k (by decide) (by decide)
theorem vl_1000 {c : Int} : vr c 9223372036854776809 1000 := vr_k (by decide) (by decide)
theorem vl_1001 {c : Int} : vr c 9223372036854776810 1001 := vr_k (by decide) (by decide)
theorem vl_1024 {c : Int} : vr c 9223372036854776833 1024 := vr_k (by decide) (by decide)
theorem vl_3000 {c : Int} : vr c 9223372036854778809 3000 := vr_k (by decide) (by decide)
theorem vl_3010 {c : Int} : vr c 9223372036854778819 3010 := vr_k (by decide) (by decide)
theorem vl_65536 {c : Int} : vr c 9223372036854841345 65536 := vr_k (by decide) (by decide)
theorem vl_100000000 {c : Int} : vr c 9223372036954775809 100000000 := vr_k (by decide) (by decide)
theorem vl_252645135 {c : Int} : vr c 9223372037107420944 252645135 := vr_k (by decide) (by decide)
theorem vl_858993459 {c : Int} : vr c 9223372037713769268 858993459 := vr_k (by decide) (by decide)
theorem vl_1431655765 {c : Int} : vr c 9223372038286431574 1431655765 := vr_k (by decide) (by decide)
theorem vl_2147483647 {c : Int} : vr c 9223372039002259456 2147483647 := vr_k (by decide) (by decide)
noncomputable def E_Ln_empty (b : Nat) (t : e_T) : e_O :=
  e_gd 2 b <|
  e_w b 9223372036854775819 9223372036854775809 t fun t2 =>
  e_w b 9223372036854775820 9223372036854775809 t2 fun t3 =>
  some (9223372036854775809, t3)
noncomputable def E_Bi_empty (b : Nat) (t : e_T) : e_O :=
  e_gd 0 b <|
  e_gd 2 (eOf b 1) <|
  eF (eOf b 1) fun f1 => e_bd (E_Ln_empty f1 t) fun a3 t4 =>
  e_w b 9223372036854775821 9223372036854775809 t4 fun t5 =>
  e_w b 9223372036854775822 9223372036854775809 t5 fun t6 =>
  some (9223372036854775809, t6)
noncomputable def E_Bi_has (b : Nat) (v1 : Nat) (t : e_T) : e_O :=
  e_lt v1 9223372036854775809 (some (9223372036854775809, t))
  (e_gd 0 b <|
  e_lt v1 (e_rd t b 9223372036854775822) (some (9223372036854775810, t))
  (some (9223372036854775809, t)))
noncomputable def E_Bi_addWall (b : Nat) (v1 : Nat) (v3 : Nat) (t : e_T) : e_O :=
  e_gd 0 b <|
  e_lt (e_rd t b 9223372036854775821) 9223372036854775813 (eF (e_rd t b 9223372036854775821) fun f1 => e_st (e_lK 1 (eOf b 12)) (eOf b 12) f1 v1 t fun t2 =>
  eF (eOf b 13) fun f2 => eF (e_rd t2 b 9223372036854775821) fun f3 => e_bd (E_X_put f2 f3 v3 t2) fun a3 t4 =>
  eF (eAdd (e_rd t4 b 9223372036854775821) 9223372036854775810) fun f4 => e_w b 9223372036854775821 f4 t4 fun t5 =>
  some (9223372036854775809, t5))
  (some (9223372036854775809, t))
noncomputable def E_Bi_addBill (b : Nat) (v1 : Nat) (t : e_T) : e_O :=
  e_gd 0 b <|
  e_lt (e_rd t b 9223372036854775822) 9223372036854775813 (eF (e_rd t b 9223372036854775822) fun f1 => e_st (e_lK 1 (eOf b 14)) (eOf b 14) f1 v1 t fun t2 =>
  e_gd 2 (eOf b 1) <|
  eF (eOf b 15) fun f2 => eF (e_rd t2 b 9223372036854775822) fun f3 => eF (e_rd t2 (eOf b 1) 9223372036854775819) fun f4 => e_bd (E_X_put f2 f3 f4 t2) fun a4 t5 =>
  eF (eOf b 16) fun f5 => eF (e_rd t5 b 9223372036854775822) fun f6 => e_bd (E_X_put f5 f6 9223372036854775809 t5) fun a6 t7 =>
  eF (eOf b 17) fun f7 => eF (e_rd t7 b 9223372036854775822) fun f8 => e_bd (E_X_put f7 f8 9223372036854775809 t7) fun a8 t9 =>
  eF (eAdd (e_rd t9 b 9223372036854775822) 9223372036854775810) fun f9 => e_w b 9223372036854775822 f9 t9 fun t10 =>
  some (9223372036854775809, t10))
  (some (9223372036854775809, t))
noncomputable def E_Bi_lineBehind (b : Nat) (v1 : Nat) (t : e_T) : e_O :=
  e_gd 0 b <|
  eF (eOf b 15) fun f1 => e_bd (E_X_at f1 v1 t) fun a2 t3 =>
  eF (eOf b 16) fun f2 => e_bd (E_X_at f2 v1 t3) fun a4 t5 =>
  some ((eAdd a2 a4), t5)
noncomputable def E_Ln_codeKind (b : Nat) (v1 : Nat) (t : e_T) : e_O :=
  e_gd 2 b <|
  eF (eOf b 10) fun f1 => e_bd (E_X_at f1 v1 t) fun a2 t3 =>
  some ((eRem a2 9223372036854775937), t3)
noncomputable def E_Ln_codeNumber (b : Nat) (v1 : Nat) (t : e_T) : e_O :=
  e_gd 2 b <|
  eF (eOf b 10) fun f1 => e_bd (E_X_at f1 v1 t) fun a2 t3 =>
  some ((eDiv a2 9223372036854775937), t3)
noncomputable def E_Ln_readSet_B50 (k21 : Nat → Nat → Nat → Nat → e_T → e_O) (b : Nat) (v3 : Nat) (v4 : Nat) (s0 : Nat) (s1 : Nat) (t : e_T) : e_O :=
  eF (eOr s0 s1) fun f1 => eF (eAdd v4 9223372036854775810) fun f2 => k21 b f1 v3 f2 t
noncomputable def E_Ln_readSet_L21_b (k21 : Nat → Nat → Nat → Nat → e_T → e_O) (b : Nat) (v2 : Nat) (v3 : Nat) (v4 : Nat) (t : e_T) : e_O :=
  e_lt v4 v3 (e_gd 2 b <|
  e_bd (E_Ln_codeKind b v4 t) fun a2 t3 =>
  e_eq a2 9223372036854775811 (e_bd (E_Ln_codeNumber b v4 t3) fun a4 t5 =>
  eF (eShl 9223372036854775810 a4) fun f1 => E_Ln_readSet_B50 k21 b v3 v4 v2 f1 t5)
  (E_Ln_readSet_B50 k21 b v3 v4 v2 9223372036854775809 t3))
  (some (v2, t))
noncomputable def E_Ln_readSet_L21 (n : Nat) : Nat → Nat → Nat → Nat → e_T → e_O := Nat.rec (motive := fun _ => Nat → Nat → Nat → Nat → e_T → e_O) (fun _ _ _ _ _ => none) (fun _ ih => E_Ln_readSet_L21_b ih) n
noncomputable def E_Ln_readSet (b : Nat) (v1 : Nat) (t : e_T) : e_O :=
  e_gd 2 b <|
  eF (eOf b 9) fun f1 => e_bd (E_X_at f1 v1 t) fun a2 t3 =>
  eF (eOf b 8) fun f2 => e_bd (E_X_at f2 v1 t3) fun a4 t5 =>
  E_Ln_readSet_L21 4096 b 9223372036854775809 a2 a4 t5
noncomputable def E_Ln_bit (v0 : Nat) (t : e_T) : e_O :=
  e_eq v0 9223372036854775808 (some (9223372036854775809, t))
  (some ((eShl 9223372036854775810 v0), t))
noncomputable def E_Ln_laidSet (b : Nat) (v1 : Nat) (t : e_T) : e_O :=
  e_gd 2 b <|
  eF (eOf b 2) fun f1 => e_bd (E_X_at f1 v1 t) fun a2 t3 =>
  e_bd (E_Ln_bit a2 t3) fun a4 t5 =>
  eF (eOf b 3) fun f2 => e_bd (E_X_at f2 v1 t5) fun a6 t7 =>
  e_bd (E_Ln_bit a6 t7) fun a8 t9 =>
  some ((eOr a4 a8), t9)
noncomputable def E_Bi_isPlain_B69 (k18 : Nat → Nat → Nat → Nat → e_T → e_O) (b : Nat) (v2 : Nat) (v3 : Nat) (v4 : Nat) (v6 : Nat) (t : e_T) : e_O :=
  e_gd 0 b <|
  e_gd 2 (eOf b 1) <|
  eF (eOf b 1) fun f1 => e_bd (E_Ln_readSet f1 v4 t) fun a3 t4 =>
  e_eq (eAnd a3 (eXor v2 9223372036854775808)) 9223372036854775809 (e_eq (eAnd v6 v2) 9223372036854775809 (eF (eOr v2 v6) fun f2 => eF (eAdd v4 9223372036854775810) fun f3 => k18 b f2 v3 f3 t4)
  (some (9223372036854775809, t4)))
  (some (9223372036854775809, t4))
noncomputable def E_Bi_isPlain_L18_b (k18 : Nat → Nat → Nat → Nat → e_T → e_O) (b : Nat) (v2 : Nat) (v3 : Nat) (v4 : Nat) (t : e_T) : e_O :=
  e_lt v4 v3 (e_gd 0 b <|
  e_gd 2 (eOf b 1) <|
  eF (eOf (eOf b 1) 1) fun f1 => e_bd (E_X_at f1 v4 t) fun a3 t4 =>
  eF (eOf b 1) fun f2 => e_bd (E_Ln_laidSet f2 v4 t4) fun a5 t6 =>
  e_eq a3 9223372036854775809 (E_Bi_isPlain_B69 k18 b v2 v3 v4 a5 t6)
  (e_eq a3 9223372036854775810 (E_Bi_isPlain_B69 k18 b v2 v3 v4 a5 t6)
  (e_eq a3 9223372036854775817 (E_Bi_isPlain_B69 k18 b v2 v3 v4 a5 t6)
  (some (9223372036854775809, t6)))))
  (some (9223372036854775810, t))
noncomputable def E_Bi_isPlain_L18 (n : Nat) : Nat → Nat → Nat → Nat → e_T → e_O := Nat.rec (motive := fun _ => Nat → Nat → Nat → Nat → e_T → e_O) (fun _ _ _ _ _ => none) (fun _ ih => E_Bi_isPlain_L18_b ih) n
noncomputable def E_Bi_isPlain (b : Nat) (v1 : Nat) (t : e_T) : e_O :=
  e_gd 0 b <|
  e_bd (E_Bi_lineBehind b v1 t) fun a2 t3 =>
  eF (eOf b 15) fun f1 => e_bd (E_X_at f1 v1 t3) fun a4 t5 =>
  E_Bi_isPlain_L18 4096 b 9223372036854775809 a2 a4 t5
noncomputable def E_Ck_blame (v1 : Nat) (v2 : Nat) (t : e_T) : e_O :=
  e_eq (e_rk t 30728) 9223372036854775809 (e_w 9223372036854775839 9223372036854775817 v1 t fun t1 =>
  e_w 9223372036854775839 9223372036854775818 v2 t1 fun t2 =>
  some (9223372036854775809, t2))
  (some (9223372036854775809, t))
noncomputable def E_Ck_takeAway_B97 (k19 : Nat → Nat → Nat → e_T → e_O) (v1 : Nat) (v3 : Nat) (v4 : Nat) (t : e_T) : e_O :=
  eF (eAdd v4 9223372036854775810) fun f1 => k19 v1 v3 f1 t
noncomputable def E_Ck_takeAway_B67 (k19 : Nat → Nat → Nat → e_T → e_O) (v1 : Nat) (v3 : Nat) (v4 : Nat) (v5 : Nat) (t : e_T) : e_O :=
  eF (eAnd (e_rk t 30725) (eXor (eShl 9223372036854775810 v5) 9223372036854775808)) fun f1 => e_w 9223372036854775839 9223372036854775814 f1 t fun t1 =>
  eF (eAnd (e_rk t1 30726) (eXor (eShl 9223372036854775810 v5) 9223372036854775808)) fun f2 => e_w 9223372036854775839 9223372036854775815 f2 t1 fun t2 =>
  E_Ck_takeAway_B97 k19 v1 v3 v4 t2
noncomputable def E_Ck_takeAway_L19_b (k19 : Nat → Nat → Nat → e_T → e_O) (v1 : Nat) (v3 : Nat) (v4 : Nat) (t : e_T) : e_O :=
  e_lt v4 v3 (e_gd 2 v1 <|
  e_bd (E_Ln_codeKind v1 v4 t) fun a2 t3 =>
  e_eq a2 9223372036854775811 (e_bd (E_Ln_codeNumber v1 v4 t3) fun a4 t5 =>
  e_eq (eAnd (eShr (eOr (e_rk t5 30725) (e_rk t5 30726)) a4) 9223372036854775810) 9223372036854775809 (e_bd (E_Ck_blame 9223372036854775810 a4 t5) fun a6 t7 =>
  E_Ck_takeAway_B67 k19 v1 v3 v4 a4 t7)
  (E_Ck_takeAway_B67 k19 v1 v3 v4 a4 t5))
  (E_Ck_takeAway_B97 k19 v1 v3 v4 t3))
  (some (9223372036854775809, t))
noncomputable def E_Ck_takeAway_L19 (n : Nat) : Nat → Nat → Nat → e_T → e_O := Nat.rec (motive := fun _ => Nat → Nat → Nat → e_T → e_O) (fun _ _ _ _ => none) (fun _ ih => E_Ck_takeAway_L19_b ih) n
noncomputable def E_Ck_takeAway (v1 : Nat) (v2 : Nat) (t : e_T) : e_O :=
  e_gd 2 v1 <|
  eF (eOf v1 9) fun f1 => e_bd (E_X_at f1 v2 t) fun a2 t3 =>
  eF (eOf v1 8) fun f2 => e_bd (E_X_at f2 v2 t3) fun a4 t5 =>
  E_Ck_takeAway_L19 4096 v1 a2 a4 t5
noncomputable def E_Ck_lay (v1 : Nat) (v2 : Nat) (t : e_T) : e_O :=
  e_eq v1 9223372036854775808 (some (9223372036854775809, t))
  (e_eq (eAnd (eShr (eOr (e_rk t 30725) (e_rk t 30726)) v1) 9223372036854775810) 9223372036854775809 (e_eq v2 9223372036854775810 (eF (eOr (e_rk t 30725) (eShl 9223372036854775810 v1)) fun f1 => e_w 9223372036854775839 9223372036854775814 f1 t fun t2 =>
  some (9223372036854775809, t2))
  (eF (eOr (e_rk t 30726) (eShl 9223372036854775810 v1)) fun f2 => e_w 9223372036854775839 9223372036854775815 f2 t fun t1 =>
  some (9223372036854775809, t1)))
  (e_bd (E_Ck_blame 9223372036854775811 v1 t) fun a3 t4 =>
  some (9223372036854775809, t4)))
noncomputable def E_Ck_turnToElse (v1 : Nat) (t : e_T) : e_O :=
  eF (eSub (e_rk t 30727) 9223372036854775810) fun f1 => eF (e_rk t 30725) fun f2 => e_bd (E_X_put 9223372036854775842 f1 f2 t) fun a1 t2 =>
  eF (eSub (e_rk t 30727) 9223372036854775810) fun f3 => eF (e_rk t2 30726) fun f4 => e_bd (E_X_put 9223372036854775843 f3 f4 t2) fun a3 t4 =>
  eF (eSub (e_rk t 30727) 9223372036854775810) fun f5 => e_bd (E_X_put 9223372036854775844 f5 v1 t4) fun a5 t6 =>
  eF (eSub (e_rk t 30727) 9223372036854775810) fun f6 => e_bd (E_X_at 9223372036854775840 f6 t6) fun a7 t8 =>
  e_w 9223372036854775839 9223372036854775814 a7 t8 fun t9 =>
  eF (eSub (e_rk t 30727) 9223372036854775810) fun f7 => e_bd (E_X_at 9223372036854775841 f7 t9) fun a10 t11 =>
  e_w 9223372036854775839 9223372036854775815 a10 t11 fun t12 =>
  some (9223372036854775809, t12)
noncomputable def E_JI_ntz_B74 (v0 : Nat) (v1 : Nat) (t : e_T) : e_O :=
  some ((eAdd v1 (eShr v0 9223372036854775810)), t)
noncomputable def E_JI_ntz_B62 (v0 : Nat) (v1 : Nat) (t : e_T) : e_O :=
  e_le v0 9223372036854775813 (E_JI_ntz_B74 v0 v1 t)
  (eF (eShr v0 9223372036854775811) fun f1 => eF (eAdd v1 9223372036854775811) fun f2 => E_JI_ntz_B74 f1 f2 t)
noncomputable def E_JI_ntz_B49 (v0 : Nat) (v1 : Nat) (t : e_T) : e_O :=
  e_le v0 9223372036854775825 (E_JI_ntz_B62 v0 v1 t)
  (eF (eShr v0 9223372036854775813) fun f1 => eF (eAdd v1 9223372036854775813) fun f2 => E_JI_ntz_B62 f1 f2 t)
noncomputable def E_JI_ntz_B34 (v0 : Nat) (v1 : Nat) (t : e_T) : e_O :=
  e_le v0 9223372036854776065 (E_JI_ntz_B49 v0 v1 t)
  (eF (eShr v0 9223372036854775817) fun f1 => eF (eAdd v1 9223372036854775817) fun f2 => E_JI_ntz_B49 f1 f2 t)
noncomputable def E_JI_ntz (v0 : Nat) (t : e_T) : e_O :=
  e_le (eAnd (eXor v0 9223372036854775808) (eSub v0 9223372036854775810)) 9223372036854775809 (some ((eAnd (eAnd (eXor v0 9223372036854775808) (eSub v0 9223372036854775810)) 9223372036854775841), t))
  (e_le (eAnd (eXor v0 9223372036854775808) (eSub v0 9223372036854775810)) 9223372036854841345 (eF (eAnd (eXor v0 9223372036854775808) (eSub v0 9223372036854775810)) fun f1 => E_JI_ntz_B34 f1 9223372036854775810 t)
  (eF (eShr (eAnd (eXor v0 9223372036854775808) (eSub v0 9223372036854775810)) 9223372036854775825) fun a1 =>
  eF (eAdd 9223372036854775810 9223372036854775825) fun f2 => E_JI_ntz_B34 a1 f2 t))
noncomputable def E_Ck_joinBranches_B40 (v1 : Nat) (v2 : Nat) (t : e_T) : e_O :=
  eF (e_rk t 30727) fun f1 => e_bd (E_X_at 9223372036854775843 f1 t) fun a1 t2 =>
  e_gd 2 v1 <|
  eF (e_rk t2 30727) fun f2 => e_bd (E_X_at 9223372036854775844 f2 t2) fun a4 t5 =>
  eF (eOf v1 7) fun f3 => eF (eAnd a1 (eXor (e_rk t5 30726) 9223372036854775808)) fun f4 => e_bd (E_X_put f3 a4 f4 t5) fun a6 t7 =>
  eF (eOf v1 7) fun f5 => eF (eAnd (e_rk t7 30726) (eXor a1 9223372036854775808)) fun f6 => e_bd (E_X_put f5 v2 f6 t7) fun a8 t9 =>
  eF (eAnd (e_rk t9 30726) a1) fun f7 => e_w 9223372036854775839 9223372036854775815 f7 t9 fun t10 =>
  some (9223372036854775809, t10)
noncomputable def E_Ck_joinBranches (v1 : Nat) (v2 : Nat) (t : e_T) : e_O :=
  eF (eSub (e_rk t 30727) 9223372036854775810) fun f1 => e_w 9223372036854775839 9223372036854775816 f1 t fun t1 =>
  eF (e_rk t1 30727) fun f2 => e_bd (E_X_at 9223372036854775842 f2 t1) fun a2 t3 =>
  e_eq (eXor a2 (e_rk t3 30725)) 9223372036854775809 (E_Ck_joinBranches_B40 v1 v2 t3)
  (eF (eXor a2 (e_rk t3 30725)) fun f3 => e_bd (E_JI_ntz f3 t3) fun a4 t5 =>
  e_bd (E_Ck_blame 9223372036854775812 a4 t5) fun a6 t7 =>
  E_Ck_joinBranches_B40 v1 v2 t7)
noncomputable def E_Ck_checkLine (v1 : Nat) (v2 : Nat) (t : e_T) : e_O :=
  e_bd (E_Ck_takeAway v1 v2 t) fun a1 t2 =>
  e_gd 2 v1 <|
  eF (eOf v1 2) fun f1 => e_bd (E_X_at f1 v2 t2) fun a4 t5 =>
  eF (eOf v1 4) fun f2 => e_bd (E_X_at f2 v2 t5) fun a6 t7 =>
  e_bd (E_Ck_lay a4 a6 t7) fun a8 t9 =>
  eF (eOf v1 3) fun f3 => e_bd (E_X_at f3 v2 t9) fun a10 t11 =>
  eF (eOf v1 4) fun f4 => e_bd (E_X_at f4 v2 t11) fun a12 t13 =>
  e_bd (E_Ck_lay a10 a12 t13) fun a14 t15 =>
  eF (eOf v1 1) fun f5 => e_bd (E_X_at f5 v2 t15) fun a16 t17 =>
  e_eq a16 9223372036854775814 (eF (e_rk t17 30727) fun f6 => eF (e_rk t17 30725) fun f7 => e_bd (E_X_put 9223372036854775840 f6 f7 t17) fun a18 t19 =>
  eF (e_rk t19 30727) fun f8 => eF (e_rk t19 30726) fun f9 => e_bd (E_X_put 9223372036854775841 f8 f9 t19) fun a20 t21 =>
  eF (eAdd (e_rk t21 30727) 9223372036854775810) fun f10 => e_w 9223372036854775839 9223372036854775816 f10 t21 fun t22 =>
  some (9223372036854775809, t22))
  (e_eq a16 9223372036854775815 (e_bd (E_Ck_turnToElse v2 t17) fun a23 t24 =>
  some (9223372036854775809, t24))
  (e_eq a16 9223372036854775816 (e_bd (E_Ck_joinBranches v1 v2 t17) fun a25 t26 =>
  some (9223372036854775809, t26))
  (e_eq a16 9223372036854775817 (e_eq (e_rk t17 30725) 9223372036854775809 (some (9223372036854775809, t17))
  (eF (e_rk t17 30725) fun f11 => e_bd (E_JI_ntz f11 t17) fun a27 t28 =>
  e_bd (E_Ck_blame 9223372036854775813 a27 t28) fun a29 t30 =>
  some (9223372036854775809, t30)))
  (some (9223372036854775809, t17)))))
noncomputable def E_Ck_checkBill_B81 (k44 : Nat → Nat → Nat → Nat → Nat → e_T → e_O) (v1 : Nat) (v2 : Nat) (v4 : Nat) (v5 : Nat) (s0 : Nat) (t : e_T) : e_O :=
  eF (eAdd v5 9223372036854775810) fun f1 => k44 v1 v2 s0 v4 f1 t
noncomputable def E_Ck_checkBill_B88 (v1 : Nat) (v2 : Nat) (v3 : Nat) (t : e_T) : e_O :=
  e_gd 0 v1 <|
  eF (eOf v1 19) fun f1 => eF (e_rk t 30728) fun f2 => e_bd (E_X_put f1 v2 f2 t) fun a2 t3 =>
  eF (eOf v1 20) fun f3 => e_bd (E_X_put f3 v2 v3 t3) fun a4 t5 =>
  eF (eOf v1 21) fun f4 => eF (e_rk t5 30729) fun f5 => e_bd (E_X_put f4 v2 f5 t5) fun a6 t7 =>
  some (9223372036854775809, t7)
noncomputable def E_Ck_checkBill_L44_b (k44 : Nat → Nat → Nat → Nat → Nat → e_T → e_O) (v1 : Nat) (v2 : Nat) (v3 : Nat) (v4 : Nat) (v5 : Nat) (t : e_T) : e_O :=
  e_lt v5 v4 (e_eq (e_rk t 30728) 9223372036854775809 (e_gd 0 v1 <|
  eF (eOf v1 1) fun f1 => e_bd (E_Ck_checkLine f1 v5 t) fun a2 t3 =>
  e_eq (e_rk t3 30728) 9223372036854775809 (E_Ck_checkBill_B81 k44 v1 v2 v4 v5 9223372036854775808 t3)
  (E_Ck_checkBill_B81 k44 v1 v2 v4 v5 v5 t3))
  (E_Ck_checkBill_B88 v1 v2 v3 t))
  (E_Ck_checkBill_B88 v1 v2 v3 t)
noncomputable def E_Ck_checkBill_L44 (n : Nat) : Nat → Nat → Nat → Nat → Nat → e_T → e_O := Nat.rec (motive := fun _ => Nat → Nat → Nat → Nat → Nat → e_T → e_O) (fun _ _ _ _ _ _ => none) (fun _ ih => E_Ck_checkBill_L44_b ih) n
noncomputable def E_Ck_checkBill (v1 : Nat) (v2 : Nat) (t : e_T) : e_O :=
  e_w 9223372036854775839 9223372036854775814 9223372036854775809 t fun t1 =>
  e_w 9223372036854775839 9223372036854775815 9223372036854775809 t1 fun t2 =>
  e_w 9223372036854775839 9223372036854775816 9223372036854775809 t2 fun t3 =>
  e_w 9223372036854775839 9223372036854775817 9223372036854775809 t3 fun t4 =>
  e_w 9223372036854775839 9223372036854775818 9223372036854775808 t4 fun t5 =>
  e_gd 0 v1 <|
  e_bd (E_Bi_lineBehind v1 v2 t5) fun a7 t8 =>
  eF (eOf v1 15) fun f1 => e_bd (E_X_at f1 v2 t8) fun a9 t10 =>
  E_Ck_checkBill_L44 4096 v1 v2 9223372036854775808 a7 a9 t10
noncomputable def E_Ck_isSound_B79 (k33 : Nat → Nat → Nat → Nat → Nat → e_T → e_O) (v0 : Nat) (v1 : Nat) (v2 : Nat) (v3 : Nat) (v4 : Nat) (t : e_T) : e_O :=
  eF (eAdd v4 9223372036854775810) fun f1 => k33 v0 v1 v2 v3 f1 t
noncomputable def E_Ck_isSound_L33_b (k33 : Nat → Nat → Nat → Nat → Nat → e_T → e_O) (v0 : Nat) (v1 : Nat) (v2 : Nat) (v3 : Nat) (v4 : Nat) (t : e_T) : e_O :=
  e_lt v4 v3 (e_gd 0 v0 <|
  e_gd 2 (eOf v0 1) <|
  eF (eOf (eOf v0 1) 5) fun f1 => e_bd (E_X_at f1 v4 t) fun a3 t4 =>
  e_eq a3 9223372036854775808 (E_Ck_isSound_B79 k33 v0 v1 v2 v3 v4 t4)
  (e_eq a3 v1 (E_Ck_isSound_B79 k33 v0 v1 v2 v3 v4 t4)
  (eF (eOf v0 22) fun f2 => e_bd (E_X_at f2 a3 t4) fun a5 t6 =>
  e_eq a5 9223372036854775809 (E_Ck_isSound_B79 k33 v0 v1 9223372036854775809 v3 v4 t6)
  (E_Ck_isSound_B79 k33 v0 v1 v2 v3 v4 t6))))
  (e_rb v2 t)
noncomputable def E_Ck_isSound_L33 (n : Nat) : Nat → Nat → Nat → Nat → Nat → e_T → e_O := Nat.rec (motive := fun _ => Nat → Nat → Nat → Nat → Nat → e_T → e_O) (fun _ _ _ _ _ _ => none) (fun _ ih => E_Ck_isSound_L33_b ih) n
noncomputable def E_Ck_isSound_B16 (v0 : Nat) (v1 : Nat) (s0 : Nat) (t : e_T) : e_O :=
  e_gd 0 v0 <|
  e_bd (E_Bi_lineBehind v0 v1 t) fun a2 t3 =>
  eF (eOf v0 15) fun f1 => e_bd (E_X_at f1 v1 t3) fun a4 t5 =>
  E_Ck_isSound_L33 4096 v0 v1 s0 a2 a4 t5
noncomputable def E_Ck_isSound (v0 : Nat) (v1 : Nat) (t : e_T) : e_O :=
  e_gd 0 v0 <|
  eF (eOf v0 19) fun f1 => e_bd (E_X_at f1 v1 t) fun a2 t3 =>
  e_eq a2 9223372036854775809 (E_Ck_isSound_B16 v0 v1 9223372036854775810 t3)
  (E_Ck_isSound_B16 v0 v1 9223372036854775809 t3)
noncomputable def E_Ck_checkAll_B34 (k2 : Nat → Nat → e_T → e_O) (v1 : Nat) (v2 : Nat) (s0 : Nat) (s1 : Nat) (s2 : Nat) (t : e_T) : e_O :=
  e_bd (E_X_put s0 s1 s2 t) fun a1 t2 =>
  eF (eAdd v2 9223372036854775810) fun f1 => k2 v1 f1 t2
noncomputable def E_Ck_checkAll_L2_b (k2 : Nat → Nat → e_T → e_O) (v1 : Nat) (v2 : Nat) (t : e_T) : e_O :=
  e_gd 0 v1 <|
  e_lt v2 (e_rd t v1 9223372036854775822) (e_bd (E_Ck_checkBill v1 v2 t) fun a2 t3 =>
  e_bd (E_Ck_isSound v1 v2 t3) fun a4 t5 =>
  e_eq a4 9223372036854775809 (eF (eOf v1 22) fun f1 => E_Ck_checkAll_B34 k2 v1 v2 f1 v2 9223372036854775809 t5)
  (eF (eOf v1 22) fun f2 => E_Ck_checkAll_B34 k2 v1 v2 f2 v2 9223372036854775810 t5))
  (some (9223372036854775809, t))
noncomputable def E_Ck_checkAll_L2 (n : Nat) : Nat → Nat → e_T → e_O := Nat.rec (motive := fun _ => Nat → Nat → e_T → e_O) (fun _ _ _ => none) (fun _ ih => E_Ck_checkAll_L2_b ih) n
noncomputable def E_Ck_checkAll (v1 : Nat) (t : e_T) : e_O :=
  E_Ck_checkAll_L2 4096 v1 9223372036854775809 t
noncomputable def E_Ln_add (b : Nat) (v1 : Nat) (t : e_T) : e_O :=
  e_gd 2 b <|
  eF (eOf b 1) fun f1 => eF (e_rd t b 9223372036854775819) fun f2 => e_bd (E_X_put f1 f2 v1 t) fun a2 t3 =>
  eF (eOf b 2) fun f3 => eF (e_rd t b 9223372036854775819) fun f4 => e_bd (E_X_put f3 f4 9223372036854775808 t3) fun a4 t5 =>
  eF (eOf b 3) fun f5 => eF (e_rd t b 9223372036854775819) fun f6 => e_bd (E_X_put f5 f6 9223372036854775808 t5) fun a6 t7 =>
  eF (eOf b 4) fun f7 => eF (e_rd t b 9223372036854775819) fun f8 => e_bd (E_X_put f7 f8 9223372036854775810 t7) fun a8 t9 =>
  eF (eOf b 5) fun f9 => eF (e_rd t b 9223372036854775819) fun f10 => e_bd (E_X_put f9 f10 9223372036854775808 t9) fun a10 t11 =>
  eF (eOf b 6) fun f11 => eF (e_rd t b 9223372036854775819) fun f12 => e_bd (E_X_put f11 f12 9223372036854775808 t11) fun a12 t13 =>
  eF (eOf b 7) fun f13 => eF (e_rd t b 9223372036854775819) fun f14 => e_bd (E_X_put f13 f14 9223372036854775809 t13) fun a14 t15 =>
  eF (eOf b 8) fun f15 => eF (e_rd t b 9223372036854775819) fun f16 => eF (e_rd t15 b 9223372036854775820) fun f17 => e_bd (E_X_put f15 f16 f17 t15) fun a16 t17 =>
  eF (eOf b 9) fun f18 => eF (e_rd t b 9223372036854775819) fun f19 => eF (e_rd t17 b 9223372036854775820) fun f20 => e_bd (E_X_put f18 f19 f20 t17) fun a18 t19 =>
  eF (eAdd (e_rd t19 b 9223372036854775819) 9223372036854775810) fun f21 => e_w b 9223372036854775819 f21 t19 fun t20 =>
  some ((e_rd t b 9223372036854775819), t20)
noncomputable def E_Ln_addCode (b : Nat) (v1 : Nat) (v2 : Nat) (t : e_T) : e_O :=
  e_gd 2 b <|
  e_len (eOf b 10) fun a2 =>
  e_lt (e_rd t b 9223372036854775820) a2 (eF (eOf b 10) fun f1 => eF (e_rd t b 9223372036854775820) fun f2 => eF (eAdd v1 (eMul v2 9223372036854775937)) fun f3 => e_bd (E_X_put f1 f2 f3 t) fun a3 t4 =>
  eF (eAdd (e_rd t4 b 9223372036854775820) 9223372036854775810) fun f4 => e_w b 9223372036854775820 f4 t4 fun t5 =>
  eF (eOf b 9) fun f5 => eF (eSub (e_rd t5 b 9223372036854775819) 9223372036854775810) fun f6 => eF (e_rd t5 b 9223372036854775820) fun f7 => e_bd (E_X_put f5 f6 f7 t5) fun a6 t7 =>
  some (9223372036854775809, t7))
  (some (9223372036854775809, t))
noncomputable def E_Ln_isSlip (b : Nat) (v1 : Nat) (v2 : Nat) (t : e_T) : e_O :=
  e_gd 2 b <|
  e_bd (E_Ln_codeKind b v1 t) fun a2 t3 =>
  e_eq a2 9223372036854775811 (e_bd (E_Ln_codeNumber b v1 t3) fun a4 t5 =>
  e_eq a4 v2 (some (9223372036854775810, t5))
  (some (9223372036854775809, t5)))
  (some (9223372036854775809, t3))
noncomputable def E_Ln_timesRead_B43 (k21 : Nat → Nat → Nat → Nat → e_T → e_O) (b : Nat) (v3 : Nat) (v4 : Nat) (s0 : Nat) (s1 : Nat) (t : e_T) : e_O :=
  eF (eAdd s0 s1) fun f1 => eF (eAdd v4 9223372036854775810) fun f2 => k21 b f1 v3 f2 t
noncomputable def E_Ln_timesRead_L21_b (k21 : Nat → Nat → Nat → Nat → e_T → e_O) (b : Nat) (v2 : Nat) (v3 : Nat) (v4 : Nat) (t : e_T) : e_O :=
  e_lt v4 v3 (e_gd 2 b <|
  e_bd (E_Ln_codeKind b v4 t) fun a2 t3 =>
  e_eq a2 9223372036854775811 (E_Ln_timesRead_B43 k21 b v3 v4 v2 9223372036854775810 t3)
  (E_Ln_timesRead_B43 k21 b v3 v4 v2 9223372036854775809 t3))
  (some (v2, t))
noncomputable def E_Ln_timesRead_L21 (n : Nat) : Nat → Nat → Nat → Nat → e_T → e_O := Nat.rec (motive := fun _ => Nat → Nat → Nat → Nat → e_T → e_O) (fun _ _ _ _ _ => none) (fun _ ih => E_Ln_timesRead_L21_b ih) n
noncomputable def E_Ln_timesRead (b : Nat) (v1 : Nat) (t : e_T) : e_O :=
  e_gd 2 b <|
  eF (eOf b 9) fun f1 => e_bd (E_X_at f1 v1 t) fun a2 t3 =>
  eF (eOf b 8) fun f2 => e_bd (E_X_at f2 v1 t3) fun a4 t5 =>
  E_Ln_timesRead_L21 4096 b 9223372036854775809 a2 a4 t5
noncomputable def E_Ln_timesRead__B45 (k22 : Nat → Nat → Nat → Nat → Nat → e_T → e_O) (b : Nat) (v2 : Nat) (v4 : Nat) (v5 : Nat) (s0 : Nat) (s1 : Nat) (t : e_T) : e_O :=
  eF (eAdd s0 s1) fun f1 => eF (eAdd v5 9223372036854775810) fun f2 => k22 b v2 f1 v4 f2 t
noncomputable def E_Ln_timesRead__L22_b (k22 : Nat → Nat → Nat → Nat → Nat → e_T → e_O) (b : Nat) (v2 : Nat) (v3 : Nat) (v4 : Nat) (v5 : Nat) (t : e_T) : e_O :=
  e_lt v5 v4 (e_gd 2 b <|
  e_bd (E_Ln_isSlip b v5 v2 t) fun a2 t3 =>
  e_eq a2 9223372036854775809 (E_Ln_timesRead__B45 k22 b v2 v4 v5 v3 9223372036854775809 t3)
  (E_Ln_timesRead__B45 k22 b v2 v4 v5 v3 9223372036854775810 t3))
  (some (v3, t))
noncomputable def E_Ln_timesRead__L22 (n : Nat) : Nat → Nat → Nat → Nat → Nat → e_T → e_O := Nat.rec (motive := fun _ => Nat → Nat → Nat → Nat → Nat → e_T → e_O) (fun _ _ _ _ _ _ => none) (fun _ ih => E_Ln_timesRead__L22_b ih) n
noncomputable def E_Ln_timesRead_ (b : Nat) (v1 : Nat) (v2 : Nat) (t : e_T) : e_O :=
  e_gd 2 b <|
  eF (eOf b 9) fun f1 => e_bd (E_X_at f1 v1 t) fun a2 t3 =>
  eF (eOf b 8) fun f2 => e_bd (E_X_at f2 v1 t3) fun a4 t5 =>
  E_Ln_timesRead__L22 4096 b v2 9223372036854775809 a2 a4 t5
noncomputable def E_Mc_stand (b : Nat) (t : e_T) : e_O :=
  e_gd 3 b <|
  e_w b 9223372036854775814 9223372036854775809 t fun t2 =>
  e_w b 9223372036854775815 9223372036854775809 t2 fun t3 =>
  e_w b 9223372036854775816 9223372036854775809 t3 fun t4 =>
  e_w b 9223372036854775817 9223372036854775809 t4 fun t5 =>
  e_w b 9223372036854775818 9223372036854775809 t5 fun t6 =>
  e_w b 9223372036854775819 9223372036854775809 t6 fun t7 =>
  e_w b 9223372036854775820 9223372036854775809 t7 fun t8 =>
  some (9223372036854775809, t8)
noncomputable def E_Mc_take (b : Nat) (v1 : Nat) (v2 : Nat) (v3 : Nat) (v4 : Nat) (t : e_T) : e_O :=
  e_gd 3 b <|
  eF (eOf b 3) fun f1 => e_bd (E_X_put f1 9223372036854775809 v1 t) fun a2 t3 =>
  eF (eOf b 3) fun f2 => e_bd (E_X_put f2 9223372036854775810 v2 t3) fun a4 t5 =>
  eF (eOf b 3) fun f3 => e_bd (E_X_put f3 9223372036854775811 v3 t5) fun a6 t7 =>
  eF (eOf b 3) fun f4 => e_bd (E_X_put f4 9223372036854775812 v4 t7) fun a8 t9 =>
  some (9223372036854775809, t9)
noncomputable def E_Mc_enter (b : Nat) (v1 : Nat) (v2 : Nat) (t : e_T) : e_O :=
  e_gd 0 v1 <|
  eF (eOf v1 17) fun f1 => e_bd (E_X_at f1 v2 t) fun a2 t3 =>
  e_gd 3 b <|
  eF (eOf v1 15) fun f2 => e_bd (E_X_at f2 v2 t3) fun a5 t6 =>
  eF (eOf b 1) fun f3 => eF (e_rd t3 b 9223372036854775814) fun f4 => eF (eAdd a5 a2) fun f5 => e_bd (E_X_put f3 f4 f5 t6) fun a7 t8 =>
  eF (eOf b 2) fun f6 => eF (e_rd t8 b 9223372036854775814) fun f7 => eF (eSub (eShl 9223372036854775810 a2) 9223372036854775810) fun f8 => e_bd (E_X_put f6 f7 f8 t8) fun a9 t10 =>
  eF (eAdd (e_rd t10 b 9223372036854775814) 9223372036854775810) fun f9 => e_w b 9223372036854775814 f9 t10 fun t11 =>
  some (9223372036854775809, t11)
noncomputable def E_JI_bitCount (v0 : Nat) (t : e_T) : e_O :=
  eF (eSub v0 (eAnd (eShr v0 9223372036854775810) 9223372038286431574)) fun a1 =>
  eF (eAdd (eAnd a1 9223372037713769268) (eAnd (eShr a1 9223372036854775811) 9223372037713769268)) fun a2 =>
  eF (eAnd (eAdd a2 (eShr a2 9223372036854775813)) 9223372037107420944) fun a3 =>
  eF (eAdd (eAdd a3 (eShr a3 9223372036854775817)) (eShr (eAdd a3 (eShr a3 9223372036854775817)) 9223372036854775825)) fun a4 =>
  some ((eAnd a4 9223372036854775872), t)
noncomputable def E_Mc_lying_L4_b (k4 : Nat → Nat → Nat → e_T → e_O) (b : Nat) (v1 : Nat) (v2 : Nat) (t : e_T) : e_O :=
  e_gd 3 b <|
  e_lt v2 (e_rd t b 9223372036854775814) (eF (eOf b 2) fun f1 => e_bd (E_X_at f1 v2 t) fun a2 t3 =>
  e_bd (E_JI_bitCount a2 t3) fun a4 t5 =>
  eF (eAdd v1 a4) fun f2 => eF (eAdd v2 9223372036854775810) fun f3 => k4 b f2 f3 t5)
  (some (v1, t))
noncomputable def E_Mc_lying_L4 (n : Nat) : Nat → Nat → Nat → e_T → e_O := Nat.rec (motive := fun _ => Nat → Nat → Nat → e_T → e_O) (fun _ _ _ _ => none) (fun _ ih => E_Mc_lying_L4_b ih) n
noncomputable def E_Mc_lying (b : Nat) (t : e_T) : e_O :=
  E_Mc_lying_L4 4096 b 9223372036854775809 9223372036854775809 t
noncomputable def E_Mc_lookAtTable (b : Nat) (t : e_T) : e_O :=
  e_gd 3 b <|
  e_bd (E_Mc_lying b t) fun a2 t3 =>
  eF (eMax (e_rd t3 b 9223372036854775817) a2) fun a4 =>
  e_w b 9223372036854775817 a4 t3 fun t5 =>
  e_eq (e_rd t5 b 9223372036854775810) 9223372036854775809 (some (9223372036854775809, t5))
  (e_eq (e_rd t5 b 9223372036854775815) 9223372036854775810 (e_le a2 (e_rd t5 b 9223372036854775821) (some (9223372036854775809, t5))
  (e_w b 9223372036854775815 9223372036854775812 t5 fun t6 =>
  some (9223372036854775809, t6)))
  (some (9223372036854775809, t5)))
noncomputable def E_Mc_start (b : Nat) (v1 : Nat) (v2 : Nat) (t : e_T) : e_O :=
  e_gd 3 b <|
  e_bd (E_Mc_stand b t) fun a2 t3 =>
  e_w b 9223372036854775815 9223372036854775810 t3 fun t4 =>
  e_bd (E_Mc_enter b v1 v2 t4) fun a5 t6 =>
  e_bd (E_Mc_lookAtTable b t6) fun a7 t8 =>
  some (9223372036854775809, t8)
noncomputable def E_Mc_readSlips (b : Nat) (v1 : Nat) (v2 : Nat) (t : e_T) : e_O :=
  e_gd 2 v1 <|
  e_bd (E_Ln_readSet v1 v2 t) fun a2 t3 =>
  e_gd 3 b <|
  eF (eOf b 2) fun f1 => eF (eSub (e_rd t3 b 9223372036854775814) 9223372036854775810) fun f2 => e_bd (E_X_at f1 f2 t3) fun a5 t6 =>
  e_eq (e_rd t6 b 9223372036854775810) 9223372036854775809 (eF (eOf v1 1) fun f3 => e_bd (E_X_at f3 v2 t6) fun a7 t8 =>
  e_eq a7 9223372036854775812 (some (9223372036854775810, t8))
  (e_eq (eAnd a2 (eXor a5 9223372036854775808)) 9223372036854775809 (some (9223372036854775810, t8))
  (some (9223372036854775809, t8))))
  (e_bd (E_Ln_timesRead v1 v2 t6) fun a9 t10 =>
  eF (eAdd (e_rd t6 b 9223372036854775818) a9) fun f4 => e_w b 9223372036854775818 f4 t10 fun t11 =>
  eF (eOf b 2) fun f5 => eF (eSub (e_rd t11 b 9223372036854775814) 9223372036854775810) fun f6 => eF (eAnd a5 (eXor a2 9223372036854775808)) fun f7 => e_bd (E_X_put f5 f6 f7 t11) fun a12 t13 =>
  some (9223372036854775810, t13))
noncomputable def E_Rk_joined (v0 : Nat) (v1 : Nat) (v2 : Nat) (t : e_T) : e_O :=
  e_eq v0 9223372036854775852 (some ((eAdd v1 v2), t))
  (e_eq v0 9223372036854775854 (some ((eSub v1 v2), t))
  (e_eq v0 9223372036854775869 (e_lt v1 v2 (some (9223372036854775810, t))
  (some (9223372036854775809, t)))
  (e_eq v0 9223372036854775870 (e_eq v1 v2 (some (9223372036854775810, t))
  (some (9223372036854775809, t)))
  (e_eq v0 9223372036854775924 (e_eq v1 9223372036854775809 (some (9223372036854775809, t))
  (e_eq v2 9223372036854775809 (some (9223372036854775809, t))
  (some (9223372036854775810, t))))
  (e_eq v0 9223372036854775925 (e_eq v1 9223372036854775809 (e_eq v2 9223372036854775809 (some (9223372036854775809, t))
  (some (9223372036854775810, t)))
  (some (9223372036854775810, t)))
  (some ((eMul v1 v2), t)))))))
noncomputable def E_Rk_reckon_B178 (k23 : Nat → Nat → Nat → Nat → Nat → Nat → e_T → e_O) (v1 : Nat) (v3 : Nat) (v4 : Nat) (v5 : Nat) (v6 : Nat) (v7 : Nat) (t : e_T) : e_O :=
  eF (eAdd v7 9223372036854775810) fun f1 => k23 v1 v3 v4 v5 v6 f1 t
noncomputable def E_Rk_reckon_B133 (k23 : Nat → Nat → Nat → Nat → Nat → Nat → e_T → e_O) (v1 : Nat) (v3 : Nat) (v4 : Nat) (v5 : Nat) (v6 : Nat) (v7 : Nat) (s1 : Nat) (s2 : Nat) (t : e_T) : e_O :=
  e_bd (E_X_put 9223372036854775850 s1 s2 t) fun a1 t2 =>
  E_Rk_reckon_B178 k23 v1 v3 v4 v5 v6 v7 t2
noncomputable def E_Rk_reckon_L23_b (k23 : Nat → Nat → Nat → Nat → Nat → Nat → e_T → e_O) (v1 : Nat) (v3 : Nat) (v4 : Nat) (v5 : Nat) (v6 : Nat) (v7 : Nat) (t : e_T) : e_O :=
  e_lt v7 v6 (e_gd 2 v1 <|
  e_bd (E_Ln_codeKind v1 v7 t) fun a4 t5 =>
  e_eq a4 9223372036854775812 (e_bd (E_Ln_codeNumber v1 v7 t5) fun a22 t23 =>
  e_bd (E_X_put 9223372036854775850 v5 a22 t23) fun a24 t25 =>
  eF (eAdd v5 9223372036854775810) fun f1 => E_Rk_reckon_B178 k23 v1 v3 v4 f1 v6 v7 t25)
  (e_eq a4 9223372036854775811 (e_bd (E_Ln_codeNumber v1 v7 t5) fun a16 t17 =>
  eF (eAdd v4 a16) fun f2 => e_bd (E_X_at v3 f2 t17) fun a18 t19 =>
  e_bd (E_X_put 9223372036854775850 v5 a18 t19) fun a20 t21 =>
  eF (eAdd v5 9223372036854775810) fun f3 => E_Rk_reckon_B178 k23 v1 v3 v4 f3 v6 v7 t21)
  (e_eq a4 9223372036854775923 (eF (eSub v5 9223372036854775810) fun f4 => e_bd (E_X_at 9223372036854775850 f4 t5) fun a14 t15 =>
  e_eq a14 9223372036854775809 (eF (eSub v5 9223372036854775810) fun f5 => E_Rk_reckon_B133 k23 v1 v3 v4 v5 v6 v7 f5 9223372036854775810 t15)
  (eF (eSub v5 9223372036854775810) fun f6 => E_Rk_reckon_B133 k23 v1 v3 v4 v5 v6 v7 f6 9223372036854775809 t15))
  (eF (eSub (eAdd v5 9223372036854775808) 9223372036854775810) fun f7 => e_bd (E_X_at 9223372036854775850 f7 t5) fun a6 t7 =>
  eF (eAdd v5 9223372036854775808) fun f8 => e_bd (E_X_at 9223372036854775850 f8 t7) fun a8 t9 =>
  e_bd (E_Rk_joined a4 a6 a8 t9) fun a10 t11 =>
  eF (eSub (eAdd v5 9223372036854775808) 9223372036854775810) fun f9 => e_bd (E_X_put 9223372036854775850 f9 a10 t11) fun a12 t13 =>
  eF (eAdd v5 9223372036854775808) fun f10 => E_Rk_reckon_B178 k23 v1 v3 v4 f10 v6 v7 t13))))
  (e_bd (E_X_at 9223372036854775850 9223372036854775809 t) fun a1 t2 =>
  some (a1, t2))
noncomputable def E_Rk_reckon_L23 (n : Nat) : Nat → Nat → Nat → Nat → Nat → Nat → e_T → e_O := Nat.rec (motive := fun _ => Nat → Nat → Nat → Nat → Nat → Nat → e_T → e_O) (fun _ _ _ _ _ _ _ => none) (fun _ ih => E_Rk_reckon_L23_b ih) n
noncomputable def E_Rk_reckon (v1 : Nat) (v2 : Nat) (v3 : Nat) (v4 : Nat) (t : e_T) : e_O :=
  e_gd 2 v1 <|
  eF (eOf v1 9) fun f1 => e_bd (E_X_at f1 v2 t) fun a2 t3 =>
  eF (eOf v1 8) fun f2 => e_bd (E_X_at f2 v2 t3) fun a4 t5 =>
  E_Rk_reckon_L23 4096 v1 v3 v4 9223372036854775809 a2 a4 t5
noncomputable def E_Mc_reckoned (b : Nat) (v1 : Nat) (v2 : Nat) (t : e_T) : e_O :=
  e_gd 3 b <|
  eF (eOf b 3) fun f1 => eF (eMul (eSub (e_rd t b 9223372036854775814) 9223372036854775810) 9223372036854775819) fun f2 => e_bd (E_Rk_reckon v1 v2 f1 f2 t) fun a2 t3 =>
  some (a2, t3)
noncomputable def E_Mc_lay (b : Nat) (v1 : Nat) (v2 : Nat) (t : e_T) : e_O :=
  e_eq v1 9223372036854775808 (some (9223372036854775809, t))
  (e_gd 3 b <|
  eF (eOf b 2) fun f1 => eF (eSub (e_rd t b 9223372036854775814) 9223372036854775810) fun f2 => e_bd (E_X_at f1 f2 t) fun a2 t3 =>
  eF (eOf b 2) fun f3 => eF (eSub (e_rd t b 9223372036854775814) 9223372036854775810) fun f4 => eF (eOr a2 (eShl 9223372036854775810 v1)) fun f5 => e_bd (E_X_put f3 f4 f5 t3) fun a4 t5 =>
  eF (eOf b 3) fun f6 => eF (eAdd (eMul (eSub (e_rd t b 9223372036854775814) 9223372036854775810) 9223372036854775819) v1) fun f7 => e_bd (E_X_put f6 f7 v2 t5) fun a6 t7 =>
  some (9223372036854775809, t7))
noncomputable def E_Mc_dropGone (b : Nat) (v1 : Nat) (v2 : Nat) (t : e_T) : e_O :=
  e_gd 3 b <|
  e_eq (e_rd t b 9223372036854775810) 9223372036854775809 (some (9223372036854775809, t))
  (eF (eOf b 2) fun f1 => eF (eSub (e_rd t b 9223372036854775814) 9223372036854775810) fun f2 => e_bd (E_X_at f1 f2 t) fun a2 t3 =>
  e_gd 2 v1 <|
  eF (eOf v1 7) fun f3 => e_bd (E_X_at f3 v2 t3) fun a5 t6 =>
  eF (eAnd a2 a5) fun f4 => e_bd (E_JI_bitCount f4 t6) fun a7 t8 =>
  eF (eAdd (e_rd t6 b 9223372036854775818) a7) fun f5 => e_w b 9223372036854775818 f5 t8 fun t9 =>
  eF (eOf b 2) fun f6 => eF (eSub (e_rd t9 b 9223372036854775814) 9223372036854775810) fun f7 => eF (eAnd a2 (eXor a5 9223372036854775808)) fun f8 => e_bd (E_X_put f6 f7 f8 t9) fun a10 t11 =>
  some (9223372036854775809, t11))
noncomputable def E_Mc_workCall_L40_b (k40 : Nat → Nat → Nat → Nat → Nat → Nat → Nat → Nat → e_T → e_O) (b : Nat) (v1 : Nat) (v2 : Nat) (v3 : Nat) (v4 : Nat) (v5 : Nat) (v6 : Nat) (v7 : Nat) (t : e_T) : e_O :=
  e_lt v7 v6 (e_gd 2 v3 <|
  eF (eOf v3 8) fun f1 => e_bd (E_X_at f1 v2 t) fun a5 t6 =>
  eF (eAdd a5 v7) fun f2 => e_bd (E_Ln_codeNumber v3 f2 t6) fun a7 t8 =>
  e_gd 3 b <|
  eF (eOf b 3) fun f3 => eF (eAdd v5 a7) fun f4 => e_bd (E_X_at f3 f4 t8) fun a10 t11 =>
  eF (eOf b 3) fun f5 => eF (eAdd (eAdd v5 9223372036854775819) v7) fun f6 => e_bd (E_X_put f5 f6 a10 t11) fun a12 t13 =>
  eF (eAdd v7 9223372036854775810) fun f7 => k40 b v1 v2 v3 v4 v5 v6 f7 t13)
  (e_gd 3 b <|
  e_bd (E_Mc_enter b v1 v4 t) fun a2 t3 =>
  some (9223372036854775809, t3))
noncomputable def E_Mc_workCall_L40 (n : Nat) : Nat → Nat → Nat → Nat → Nat → Nat → Nat → Nat → e_T → e_O := Nat.rec (motive := fun _ => Nat → Nat → Nat → Nat → Nat → Nat → Nat → Nat → e_T → e_O) (fun _ _ _ _ _ _ _ _ _ => none) (fun _ ih => E_Mc_workCall_L40_b ih) n
noncomputable def E_Mc_workCall (b : Nat) (v1 : Nat) (v2 : Nat) (t : e_T) : e_O :=
  e_gd 0 v1 <|
  e_gd 2 (eOf v1 1) <|
  eF (eOf (eOf v1 1) 5) fun f1 => e_bd (E_X_at f1 v2 t) fun a3 t4 =>
  e_gd 3 b <|
  eF (eOf v1 17) fun f2 => e_bd (E_X_at f2 a3 t4) fun a6 t7 =>
  eF (eOf v1 1) fun f3 => eF (eMul (eSub (e_rd t4 b 9223372036854775814) 9223372036854775810) 9223372036854775819) fun f4 => E_Mc_workCall_L40 4096 b v1 v2 f3 a3 f4 a6 9223372036854775809 t7
noncomputable def E_Mc_workGive (b : Nat) (v1 : Nat) (v2 : Nat) (t : e_T) : e_O :=
  e_gd 3 b <|
  eF (eOf b 2) fun f1 => eF (eSub (e_rd t b 9223372036854775814) 9223372036854775810) fun f2 => e_bd (E_X_at f1 f2 t) fun a2 t3 =>
  e_bd (E_JI_bitCount a2 t3) fun a4 t5 =>
  eF (eAdd (e_rd t b 9223372036854775818) a4) fun f3 => e_w b 9223372036854775818 f3 t5 fun t6 =>
  eF (eSub (e_rd t6 b 9223372036854775814) 9223372036854775810) fun f4 => e_w b 9223372036854775814 f4 t6 fun t7 =>
  e_eq (e_rd t7 b 9223372036854775814) 9223372036854775809 (e_w b 9223372036854775815 9223372036854775811 t7 fun t15 =>
  e_w b 9223372036854775816 v2 t15 fun t16 =>
  some (9223372036854775809, t16))
  (eF (eOf b 1) fun f5 => eF (eSub (e_rd t7 b 9223372036854775814) 9223372036854775810) fun f6 => e_bd (E_X_at f5 f6 t7) fun a8 t9 =>
  e_gd 2 v1 <|
  eF (eOf v1 2) fun f7 => eF (eSub a8 9223372036854775810) fun f8 => e_bd (E_X_at f7 f8 t9) fun a11 t12 =>
  e_bd (E_Mc_lay b a11 v2 t12) fun a13 t14 =>
  some (9223372036854775809, t14))
noncomputable def E_Mc_workKind_B117 (s0 : Nat) (s1 : Nat) (s2 : Nat) (t : e_T) : e_O :=
  e_gd 3 s0 <|
  eF (eAdd s1 s2) fun f1 => e_w s0 9223372036854775819 f1 t fun t2 =>
  some (9223372036854775809, t2)
noncomputable def E_Mc_workKind_B60 (b : Nat) (v2 : Nat) (v3 : Nat) (v4 : Nat) (t : e_T) : e_O :=
  e_gd 3 b <|
  e_bd (E_Mc_reckoned b v4 v2 t) fun a2 t3 =>
  e_gd 2 v4 <|
  eF (eOf v4 2) fun f1 => e_bd (E_X_at f1 v2 t3) fun a5 t6 =>
  e_bd (E_Mc_lay b a5 a2 t6) fun a7 t8 =>
  eF (eOf v4 3) fun f2 => e_bd (E_X_at f2 v2 t8) fun a9 t10 =>
  e_bd (E_Mc_lay b a9 a2 t10) fun a11 t12 =>
  e_eq v3 9223372036854775811 (eF (e_rd t12 b 9223372036854775819) fun f3 => eF (e_rd t12 b 9223372036854775822) fun f4 => E_Mc_workKind_B117 b f3 f4 t12)
  (eF (e_rd t12 b 9223372036854775819) fun f5 => E_Mc_workKind_B117 b f5 9223372036854775809 t12)
noncomputable def E_Mc_workKind (b : Nat) (v1 : Nat) (v2 : Nat) (v3 : Nat) (t : e_T) : e_O :=
  e_gd 0 v1 <|
  e_gd 3 b <|
  e_eq v3 9223372036854775810 (eF (eOf v1 1) fun f1 => E_Mc_workKind_B60 b v2 v3 f1 t)
  (e_eq v3 9223372036854775811 (eF (eOf v1 1) fun f2 => E_Mc_workKind_B60 b v2 v3 f2 t)
  (e_eq v3 9223372036854775812 (some (9223372036854775809, t))
  (e_eq v3 9223372036854775813 (e_bd (E_Mc_workCall b v1 v2 t) fun a3 t4 =>
  some (9223372036854775809, t4))
  (e_eq v3 9223372036854775814 (eF (eOf v1 1) fun f3 => e_bd (E_Mc_reckoned b f3 v2 t) fun a5 t6 =>
  e_eq a5 9223372036854775809 (e_gd 2 (eOf v1 1) <|
  eF (eOf (eOf v1 1) 6) fun f4 => e_bd (E_X_at f4 v2 t6) fun a8 t9 =>
  eF (eOf b 1) fun f5 => eF (eSub (e_rd t b 9223372036854775814) 9223372036854775810) fun f6 => eF (eAdd a8 9223372036854775810) fun f7 => e_bd (E_X_put f5 f6 f7 t9) fun a10 t11 =>
  some (9223372036854775809, t11))
  (some (9223372036854775809, t6)))
  (e_eq v3 9223372036854775815 (eF (eOf v1 1) fun f8 => e_bd (E_Mc_dropGone b f8 v2 t) fun a12 t13 =>
  e_gd 2 (eOf v1 1) <|
  eF (eOf (eOf v1 1) 6) fun f9 => e_bd (E_X_at f9 v2 t13) fun a15 t16 =>
  eF (eOf b 1) fun f10 => eF (eSub (e_rd t b 9223372036854775814) 9223372036854775810) fun f11 => eF (eAdd a15 9223372036854775810) fun f12 => e_bd (E_X_put f10 f11 f12 t16) fun a17 t18 =>
  some (9223372036854775809, t18))
  (e_eq v3 9223372036854775816 (eF (eOf v1 1) fun f13 => e_bd (E_Mc_dropGone b f13 v2 t) fun a19 t20 =>
  some (9223372036854775809, t20))
  (e_eq v3 9223372036854775817 (eF (eOf v1 1) fun f14 => e_bd (E_Mc_reckoned b f14 v2 t) fun a21 t22 =>
  eF (eOf v1 1) fun f15 => e_bd (E_Mc_workGive b f15 a21 t22) fun a23 t24 =>
  some (9223372036854775809, t24))
  (some (9223372036854775809, t)))))))))
noncomputable def E_Mc_work_B55 (b : Nat) (v1 : Nat) (v2 : Nat) (v3 : Nat) (v4 : Nat) (v5 : Nat) (t : e_T) : e_O :=
  e_gd 3 b <|
  e_bd (E_Mc_readSlips b v2 v4 t) fun a2 t3 =>
  e_eq a2 9223372036854775809 (e_w b 9223372036854775815 9223372036854775814 t3 fun t11 =>
  some (9223372036854775809, t11))
  (eF (eOf b 1) fun f1 => eF (eAdd v4 9223372036854775810) fun f2 => e_bd (E_X_put f1 v3 f2 t3) fun a4 t5 =>
  e_bd (E_Mc_workKind b v1 v4 v5 t5) fun a6 t7 =>
  eF (eAdd (e_rd t7 b 9223372036854775820) 9223372036854775810) fun f3 => e_w b 9223372036854775820 f3 t7 fun t8 =>
  e_bd (E_Mc_lookAtTable b t8) fun a9 t10 =>
  some (9223372036854775810, t10))
noncomputable def E_Mc_work (b : Nat) (v1 : Nat) (t : e_T) : e_O :=
  e_gd 0 v1 <|
  e_gd 3 b <|
  eF (eOf b 1) fun f1 => eF (eSub (e_rd t b 9223372036854775814) 9223372036854775810) fun f2 => e_bd (E_X_at f1 f2 t) fun a3 t4 =>
  e_gd 2 (eOf v1 1) <|
  eF (eOf (eOf v1 1) 1) fun f3 => e_bd (E_X_at f3 a3 t4) fun a6 t7 =>
  e_eq a6 9223372036854775813 (e_lt (e_rd t7 b 9223372036854775814) 9223372036854775825 (eF (eOf v1 1) fun f4 => eF (eSub (e_rd t b 9223372036854775814) 9223372036854775810) fun f5 => E_Mc_work_B55 b v1 f4 f5 a3 a6 t7)
  (e_w b 9223372036854775815 9223372036854775813 t7 fun t8 =>
  some (9223372036854775809, t8)))
  (eF (eOf v1 1) fun f6 => eF (eSub (e_rd t b 9223372036854775814) 9223372036854775810) fun f7 => E_Mc_work_B55 b v1 f6 f7 a3 a6 t7)
noncomputable def E_Mc_go_L2_b (k2 : Nat → Nat → Nat → Nat → e_T → e_O) (b : Nat) (v1 : Nat) (v2 : Nat) (v3 : Nat) (t : e_T) : e_O :=
  e_lt v3 v2 (e_gd 3 b <|
  e_eq (e_rd t b 9223372036854775815) 9223372036854775810 (e_bd (E_Mc_work b v1 t) fun a2 t3 =>
  e_eq a2 9223372036854775809 (some (v3, t3))
  (eF (eAdd v3 9223372036854775810) fun f1 => k2 b v1 v2 f1 t3))
  (some (v3, t)))
  (some (v3, t))
noncomputable def E_Mc_go_L2 (n : Nat) : Nat → Nat → Nat → Nat → e_T → e_O := Nat.rec (motive := fun _ => Nat → Nat → Nat → Nat → e_T → e_O) (fun _ _ _ _ _ => none) (fun _ ih => E_Mc_go_L2_b ih) n
noncomputable def E_Mc_go (b : Nat) (v1 : Nat) (v2 : Nat) (t : e_T) : e_O :=
  E_Mc_go_L2 4096 b v1 v2 9223372036854775809 t
noncomputable def E_Mc_tell (b : Nat) (v1 : Nat) (t : e_T) : e_O :=
  e_eq v1 9223372036854775809 (e_gd 3 b <|
  some ((e_rd t b 9223372036854775815), t))
  (e_eq v1 9223372036854775810 (e_gd 3 b <|
  e_eq (e_rd t b 9223372036854775815) 9223372036854775810 (eF (eOf b 1) fun f1 => eF (eSub (e_rd t b 9223372036854775814) 9223372036854775810) fun f2 => e_bd (E_X_at f1 f2 t) fun a3 t4 =>
  some (a3, t4))
  (some (9223372036854775808, t)))
  (e_eq v1 9223372036854775811 (e_gd 3 b <|
  e_bd (E_Mc_lying b t) fun a6 t7 =>
  some (a6, t7))
  (e_eq v1 9223372036854775812 (e_gd 3 b <|
  some ((e_rd t b 9223372036854775817), t))
  (e_eq v1 9223372036854775813 (e_gd 3 b <|
  some ((e_rd t b 9223372036854775818), t))
  (e_eq v1 9223372036854775814 (e_gd 3 b <|
  some ((e_rd t b 9223372036854775819), t))
  (e_eq v1 9223372036854775815 (e_gd 3 b <|
  some ((e_rd t b 9223372036854775820), t))
  (e_eq v1 9223372036854775816 (e_gd 3 b <|
  some ((e_rd t b 9223372036854775814), t))
  (some (9223372036854775808, t)))))))))
noncomputable def E_Or_forget  (t : e_T) : e_O :=
  e_w 9223372036854775869 9223372036854775818 9223372036854775808 t fun t1 =>
  some (9223372036854775809, t1)
noncomputable def E_Or_slipOf (v1 : Nat) (t : e_T) : e_O :=
  some ((eAdd (e_rk t 61447) v1), t)
noncomputable def E_Or_countStands_L13_b (k2 : Nat → Nat → Nat → e_T → e_O) (k13 : Nat → Nat → Nat → Nat → e_T → e_O) (v1 : Nat) (v2 : Nat) (v3 : Nat) (v4 : Nat) (t : e_T) : e_O :=
  eF (e_rk t 61448) fun f1 => e_bd (E_Or_slipOf f1 t) fun a1 t2 =>
  e_lt v4 a1 (e_gd 2 v1 <|
  eF (eAdd v2 v3) fun f2 => e_bd (E_Ln_timesRead_ v1 f2 v4 t2) fun a4 t5 =>
  eF (eAdd (eMul v3 9223372036854775819) v4) fun f3 => e_bd (E_X_put 9223372036854775870 f3 a4 t5) fun a6 t7 =>
  eF (eAdd v4 9223372036854775810) fun f4 => k13 v1 v2 v3 f4 t7)
  (eF (eAdd v3 9223372036854775810) fun f5 => k2 v1 v2 f5 t2)
noncomputable def E_Or_countStands_L13 (k2 : Nat → Nat → Nat → e_T → e_O) (n : Nat) : Nat → Nat → Nat → Nat → e_T → e_O := Nat.rec (motive := fun _ => Nat → Nat → Nat → Nat → e_T → e_O) (fun _ _ _ _ _ => none) (fun _ ih => E_Or_countStands_L13_b k2 ih) n
noncomputable def E_Or_countStands_L2_b (k2 : Nat → Nat → Nat → e_T → e_O) (v1 : Nat) (v2 : Nat) (v3 : Nat) (t : e_T) : e_O :=
  e_le v3 (e_rk t 61448) (E_Or_countStands_L13 k2 4096 v1 v2 v3 9223372036854775809 t)
  (some (9223372036854775809, t))
noncomputable def E_Or_countStands_L2 (n : Nat) : Nat → Nat → Nat → e_T → e_O := Nat.rec (motive := fun _ => Nat → Nat → Nat → e_T → e_O) (fun _ _ _ _ => none) (fun _ ih => E_Or_countStands_L2_b ih) n
noncomputable def E_Or_countStands (v1 : Nat) (v2 : Nat) (t : e_T) : e_O :=
  E_Or_countStands_L2 4096 v1 v2 9223372036854775809 t
noncomputable def E_Or_standing (v1 : Nat) (v2 : Nat) (t : e_T) : e_O :=
  eF (eAdd (eMul v1 9223372036854775819) v2) fun f1 => e_bd (E_X_at 9223372036854775870 f1 t) fun a1 t2 =>
  some (a1, t2)
noncomputable def E_Or_findReaders_B107 (k31 : Nat → e_T → e_O) (k43 : Nat → Nat → Nat → e_T → e_O) (v1 : Nat) (v2 : Nat) (v3 : Nat) (t : e_T) : e_O :=
  eF (eAdd v3 9223372036854775810) fun f1 => k43 v1 v2 f1 t
noncomputable def E_Or_findReaders_B105 (k31 : Nat → e_T → e_O) (k43 : Nat → Nat → Nat → e_T → e_O) (v1 : Nat) (v3 : Nat) (s0 : Nat) (s1 : Nat) (t : e_T) : e_O :=
  eF (eOr s0 s1) fun f1 => E_Or_findReaders_B107 k31 k43 v1 f1 v3 t
noncomputable def E_Or_findReaders_L43_b (k31 : Nat → e_T → e_O) (k43 : Nat → Nat → Nat → e_T → e_O) (v1 : Nat) (v2 : Nat) (v3 : Nat) (t : e_T) : e_O :=
  eF (e_rk t 61448) fun f1 => e_bd (E_Or_slipOf f1 t) fun a1 t2 =>
  e_lt v3 a1 (e_bd (E_Or_standing v1 v3 t2) fun a5 t6 =>
  e_le a5 9223372036854775809 (E_Or_findReaders_B107 k31 k43 v1 v2 v3 t6)
  (e_bd (E_X_at 9223372036854775872 v3 t6) fun a7 t8 =>
  eF (eOr a7 (eShl 9223372036854775810 v1)) fun f2 => e_bd (E_X_put 9223372036854775872 v3 f2 t8) fun a9 t10 =>
  e_lt v3 (e_rk t10 61447) (E_Or_findReaders_B105 k31 k43 v1 v3 v2 9223372036854775809 t10)
  (eF (eShl 9223372036854775810 (eSub v3 (e_rk t10 61447))) fun f3 => E_Or_findReaders_B105 k31 k43 v1 v3 v2 f3 t10)))
  (e_bd (E_X_put 9223372036854775871 v1 v2 t2) fun a3 t4 =>
  eF (eAdd v1 9223372036854775810) fun f4 => k31 f4 t4)
noncomputable def E_Or_findReaders_L43 (k31 : Nat → e_T → e_O) (n : Nat) : Nat → Nat → Nat → e_T → e_O := Nat.rec (motive := fun _ => Nat → Nat → Nat → e_T → e_O) (fun _ _ _ _ => none) (fun _ ih => E_Or_findReaders_L43_b k31 ih) n
noncomputable def E_Or_findReaders_L31_b (k31 : Nat → e_T → e_O) (v1 : Nat) (t : e_T) : e_O :=
  e_le v1 (e_rk t 61448) (E_Or_findReaders_L43 k31 4096 v1 9223372036854775809 9223372036854775809 t)
  (some (9223372036854775809, t))
noncomputable def E_Or_findReaders_L31 (n : Nat) : Nat → e_T → e_O := Nat.rec (motive := fun _ => Nat → e_T → e_O) (fun _ _ => none) (fun _ ih => E_Or_findReaders_L31_b ih) n
noncomputable def E_Or_findReaders_L2_b (k2 : Nat → e_T → e_O) (v1 : Nat) (t : e_T) : e_O :=
  eF (e_rk t 61448) fun f1 => e_bd (E_Or_slipOf f1 t) fun a1 t2 =>
  e_lt v1 a1 (e_bd (E_X_put 9223372036854775872 v1 9223372036854775809 t2) fun a3 t4 =>
  eF (eAdd v1 9223372036854775810) fun f2 => k2 f2 t4)
  (E_Or_findReaders_L31 4096 9223372036854775809 t2)
noncomputable def E_Or_findReaders_L2 (n : Nat) : Nat → e_T → e_O := Nat.rec (motive := fun _ => Nat → e_T → e_O) (fun _ _ => none) (fun _ ih => E_Or_findReaders_L2_b ih) n
noncomputable def E_Or_findReaders  (t : e_T) : e_O :=
  E_Or_findReaders_L2 4096 9223372036854775809 t
noncomputable def E_Or_countLying_B70 (k4 : Nat → Nat → Nat → e_T → e_O) (v1 : Nat) (v3 : Nat) (s0 : Nat) (s1 : Nat) (t : e_T) : e_O :=
  eF (eAdd s0 s1) fun f1 => eF (eAdd v3 9223372036854775810) fun f2 => k4 v1 f1 f2 t
noncomputable def E_Or_countLying_B69 (k4 : Nat → Nat → Nat → e_T → e_O) (v1 : Nat) (v3 : Nat) (s0 : Nat) (t : e_T) : e_O :=
  E_Or_countLying_B70 k4 v1 v3 s0 9223372036854775809 t
noncomputable def E_Or_countLying_B42 (k4 : Nat → Nat → Nat → e_T → e_O) (v1 : Nat) (v2 : Nat) (v3 : Nat) (s0 : Nat) (t : e_T) : e_O :=
  e_eq s0 9223372036854775809 (E_Or_countLying_B69 k4 v1 v3 v2 t)
  (e_bd (E_X_at 9223372036854775872 v3 t) fun a1 t2 =>
  e_eq (eAnd a1 (eXor v1 9223372036854775808)) 9223372036854775809 (E_Or_countLying_B69 k4 v1 v3 v2 t2)
  (E_Or_countLying_B70 k4 v1 v3 v2 9223372036854775810 t2))
noncomputable def E_Or_countLying_B37 (k4 : Nat → Nat → Nat → e_T → e_O) (v1 : Nat) (v2 : Nat) (v3 : Nat) (t : e_T) : e_O :=
  E_Or_countLying_B42 k4 v1 v2 v3 9223372036854775810 t
noncomputable def E_Or_countLying_L4_b (k4 : Nat → Nat → Nat → e_T → e_O) (v1 : Nat) (v2 : Nat) (v3 : Nat) (t : e_T) : e_O :=
  eF (e_rk t 61448) fun f1 => e_bd (E_Or_slipOf f1 t) fun a1 t2 =>
  e_lt v3 a1 (e_lt v3 (e_rk t2 61447) (E_Or_countLying_B37 k4 v1 v2 v3 t2)
  (e_eq (eAnd (eShr v1 (eSub v3 (e_rk t2 61447))) 9223372036854775810) 9223372036854775809 (E_Or_countLying_B42 k4 v1 v2 v3 9223372036854775809 t2)
  (E_Or_countLying_B37 k4 v1 v2 v3 t2)))
  (some (v2, t2))
noncomputable def E_Or_countLying_L4 (n : Nat) : Nat → Nat → Nat → e_T → e_O := Nat.rec (motive := fun _ => Nat → Nat → Nat → e_T → e_O) (fun _ _ _ _ => none) (fun _ ih => E_Or_countLying_L4_b ih) n
noncomputable def E_Or_countLying (v1 : Nat) (t : e_T) : e_O :=
  E_Or_countLying_L4 4096 v1 9223372036854775809 9223372036854775809 t
noncomputable def E_Or_mayFollow (v1 : Nat) (v2 : Nat) (t : e_T) : e_O :=
  e_eq (eAnd (eShr v2 v1) 9223372036854775810) 9223372036854775809 (e_bd (E_X_at 9223372036854775871 v1 t) fun a1 t2 =>
  e_eq (eAnd a1 (eXor v2 9223372036854775808)) 9223372036854775809 (some (9223372036854775810, t2))
  (some (9223372036854775809, t2)))
  (some (9223372036854775809, t))
noncomputable def E_Or_allSums  (t : e_T) : e_O :=
  some ((eSub (eShl 9223372036854775810 (e_rk t 61448)) 9223372036854775810), t)
noncomputable def E_Or_findBest_B73 (k5 : Nat → e_T → e_O) (k39 : Nat → Nat → Nat → e_T → e_O) (v1 : Nat) (v2 : Nat) (v3 : Nat) (t : e_T) : e_O :=
  eF (eAdd v3 9223372036854775810) fun f1 => k39 v1 v2 f1 t
noncomputable def E_Or_findBest_L39_b (k5 : Nat → e_T → e_O) (k39 : Nat → Nat → Nat → e_T → e_O) (v1 : Nat) (v2 : Nat) (v3 : Nat) (t : e_T) : e_O :=
  e_lt v3 (e_rk t 61448) (e_bd (E_Or_mayFollow v3 v1 t) fun a6 t7 =>
  e_eq a6 9223372036854775809 (E_Or_findBest_B73 k5 k39 v1 v2 v3 t7)
  (eF (eOr v1 (eShl 9223372036854775810 v3)) fun f1 => e_bd (E_X_at 9223372036854775875 f1 t7) fun a8 t9 =>
  eF (eMin v2 a8) fun a10 =>
  E_Or_findBest_B73 k5 k39 v1 a10 v3 t9))
  (e_bd (E_X_at 9223372036854775874 v1 t) fun a1 t2 =>
  eF (eMax v2 a1) fun a3 =>
  e_bd (E_X_put 9223372036854775875 v1 a3 t2) fun a4 t5 =>
  eF (eAdd v1 9223372036854775808) fun f2 => k5 f2 t5)
noncomputable def E_Or_findBest_L39 (k5 : Nat → e_T → e_O) (n : Nat) : Nat → Nat → Nat → e_T → e_O := Nat.rec (motive := fun _ => Nat → Nat → Nat → e_T → e_O) (fun _ _ _ _ => none) (fun _ ih => E_Or_findBest_L39_b k5 ih) n
noncomputable def E_Or_findBest_B36 (k5 : Nat → e_T → e_O) (v1 : Nat) (s0 : Nat) (t : e_T) : e_O :=
  E_Or_findBest_L39 k5 4096 v1 s0 9223372036854775809 t
noncomputable def E_Or_findBest_L5_b (k5 : Nat → e_T → e_O) (v1 : Nat) (t : e_T) : e_O :=
  e_lt v1 9223372036854775809 (some (9223372036854775809, t))
  (e_bd (E_Or_countLying v1 t) fun a1 t2 =>
  e_bd (E_X_put 9223372036854775874 v1 a1 t2) fun a3 t4 =>
  e_bd (E_Or_allSums t4) fun a5 t6 =>
  e_eq v1 a5 (E_Or_findBest_B36 k5 v1 9223372036854775809 t6)
  (E_Or_findBest_B36 k5 v1 9223372039002259456 t6))
noncomputable def E_Or_findBest_L5 (n : Nat) : Nat → e_T → e_O := Nat.rec (motive := fun _ => Nat → e_T → e_O) (fun _ _ => none) (fun _ ih => E_Or_findBest_L5_b ih) n
noncomputable def E_Or_findBest  (t : e_T) : e_O :=
  e_bd (E_Or_allSums t) fun a1 t2 =>
  E_Or_findBest_L5 4096 a1 t2
noncomputable def E_Or_prepare (v1 : Nat) (v2 : Nat) (t : e_T) : e_O :=
  e_gd 0 v1 <|
  e_bd (E_Bi_has v1 v2 t) fun a2 t3 =>
  e_eq a2 9223372036854775809 (some (9223372036854775809, t3))
  (e_bd (E_Bi_isPlain v1 v2 t3) fun a4 t5 =>
  e_eq a4 9223372036854775809 (some (9223372036854775809, t5))
  (eF (eOf v1 16) fun f1 => e_bd (E_X_at f1 v2 t5) fun a6 t7 =>
  eF (eOf v1 17) fun f2 => e_bd (E_X_at f2 v2 t7) fun a8 t9 =>
  e_le (eSub (eSub a6 a8) 9223372036854775810) 9223372036854775821 (e_le (eSub (eSub a6 a8) 9223372036854775810) 9223372036854775819 (e_eq (e_rk t9 61449) v2 (some (9223372036854775810, t9))
  (eF (eOf v1 17) fun f3 => e_bd (E_X_at f3 v2 t9) fun a10 t11 =>
  e_w 9223372036854775869 9223372036854775816 a10 t11 fun t12 =>
  eF (eSub (eSub a6 a8) 9223372036854775810) fun f4 => e_w 9223372036854775869 9223372036854775817 f4 t12 fun t13 =>
  eF (eOf v1 15) fun f5 => e_bd (E_X_at f5 v2 t13) fun a14 t15 =>
  eF (eOf v1 1) fun f6 => eF (eAdd a14 (e_rk t15 61447)) fun f7 => e_bd (E_Or_countStands f6 f7 t15) fun a16 t17 =>
  e_bd (E_Or_findReaders t17) fun a18 t19 =>
  e_bd (E_Or_findBest t19) fun a20 t21 =>
  e_w 9223372036854775869 9223372036854775818 v2 t21 fun t22 =>
  some (9223372036854775810, t22)))
  (some (9223372036854775809, t9)))
  (some (9223372036854775809, t9))))
noncomputable def E_Or_least  (t : e_T) : e_O :=
  e_bd (E_X_at 9223372036854775875 9223372036854775809 t) fun a1 t2 =>
  some (a1, t2)
noncomputable def E_Or_firstFollowing_B40 (k2 : Nat → Nat → e_T → e_O) (v1 : Nat) (v2 : Nat) (t : e_T) : e_O :=
  eF (eAdd v2 9223372036854775810) fun f1 => k2 v1 f1 t
noncomputable def E_Or_firstFollowing_L2_b (k2 : Nat → Nat → e_T → e_O) (v1 : Nat) (v2 : Nat) (t : e_T) : e_O :=
  e_lt v2 (e_rk t 61448) (e_bd (E_Or_mayFollow v2 v1 t) fun a1 t2 =>
  e_eq a1 9223372036854775809 (E_Or_firstFollowing_B40 k2 v1 v2 t2)
  (eF (eOr v1 (eShl 9223372036854775810 v2)) fun f1 => e_bd (E_X_at 9223372036854775875 f1 t2) fun a3 t4 =>
  e_bd (E_Or_least t4) fun a5 t6 =>
  e_le a3 a5 (some (v2, t6))
  (E_Or_firstFollowing_B40 k2 v1 v2 t6)))
  (some (9223372036854775808, t))
noncomputable def E_Or_firstFollowing_L2 (n : Nat) : Nat → Nat → e_T → e_O := Nat.rec (motive := fun _ => Nat → Nat → e_T → e_O) (fun _ _ _ => none) (fun _ ih => E_Or_firstFollowing_L2_b ih) n
noncomputable def E_Or_firstFollowing (v1 : Nat) (t : e_T) : e_O :=
  E_Or_firstFollowing_L2 4096 v1 9223372036854775809 t
noncomputable def E_Or_sumAt_B46 (k21 : Nat → Nat → Nat → Nat → e_T → e_O) (v1 : Nat) (v3 : Nat) (v4 : Nat) (s0 : Nat) (s1 : Nat) (t : e_T) : e_O :=
  eF (eOr s0 s1) fun f1 => eF (eAdd v4 9223372036854775810) fun f2 => k21 v1 f1 v3 f2 t
noncomputable def E_Or_sumAt_L21_b (k21 : Nat → Nat → Nat → Nat → e_T → e_O) (v1 : Nat) (v2 : Nat) (v3 : Nat) (v4 : Nat) (t : e_T) : e_O :=
  e_le v4 v1 (e_bd (E_Or_firstFollowing v2 t) fun a1 t2 =>
  e_eq a1 9223372036854775808 (E_Or_sumAt_B46 k21 v1 a1 v4 v2 9223372036854775809 t2)
  (eF (eShl 9223372036854775810 a1) fun f1 => E_Or_sumAt_B46 k21 v1 a1 v4 v2 f1 t2))
  (some (v3, t))
noncomputable def E_Or_sumAt_L21 (n : Nat) : Nat → Nat → Nat → Nat → e_T → e_O := Nat.rec (motive := fun _ => Nat → Nat → Nat → Nat → e_T → e_O) (fun _ _ _ _ _ => none) (fun _ ih => E_Or_sumAt_L21_b ih) n
noncomputable def E_Or_sumAt (v1 : Nat) (t : e_T) : e_O :=
  e_lt v1 9223372036854775809 (some (9223372036854775808, t))
  (e_lt v1 (e_rk t 61448) (E_Or_sumAt_L21 4096 v1 9223372036854775809 9223372036854775808 9223372036854775809 t)
  (some (9223372036854775808, t)))
noncomputable def E_Or_greatestAsTold_L4_b (k4 : Nat → Nat → e_T → e_O) (v1 : Nat) (v2 : Nat) (t : e_T) : e_O :=
  e_le v2 (e_rk t 61448) (eF (eSub (eShl 9223372036854775810 v2) 9223372036854775810) fun f1 => e_bd (E_X_at 9223372036854775874 f1 t) fun a1 t2 =>
  eF (eMax v1 a1) fun a3 =>
  eF (eAdd v2 9223372036854775810) fun f2 => k4 a3 f2 t2)
  (some (v1, t))
noncomputable def E_Or_greatestAsTold_L4 (n : Nat) : Nat → Nat → e_T → e_O := Nat.rec (motive := fun _ => Nat → Nat → e_T → e_O) (fun _ _ _ => none) (fun _ ih => E_Or_greatestAsTold_L4_b ih) n
noncomputable def E_Or_greatestAsTold  (t : e_T) : e_O :=
  E_Or_greatestAsTold_L4 4096 9223372036854775809 9223372036854775809 t
noncomputable def E_Or_countFollowing_B52 (k5 : Nat → Nat → Nat → e_T → e_O) (v1 : Nat) (v2 : Nat) (v4 : Nat) (t : e_T) : e_O :=
  eF (eAdd v4 9223372036854775810) fun f1 => k5 v1 v2 f1 t
noncomputable def E_Or_countFollowing_L5_b (k5 : Nat → Nat → Nat → e_T → e_O) (v1 : Nat) (v2 : Nat) (v4 : Nat) (t : e_T) : e_O :=
  e_lt v4 (e_rk t 61448) (e_bd (E_Or_mayFollow v4 v1 t) fun a1 t2 =>
  e_eq a1 9223372036854775809 (E_Or_countFollowing_B52 k5 v1 v2 v4 t2)
  (e_lt (eOr v1 (eShl 9223372036854775810 v4)) 9223372036854776833 (eF (eOr v1 (eShl 9223372036854775810 v4)) fun f1 => e_ld 9223372036854776833 9223372036854775876 f1 t2 fun a3 =>
  eF (eAdd6 v2 a3) fun f2 => E_Or_countFollowing_B52 k5 v1 f2 v4 t2)
  (E_Or_countFollowing_B52 k5 v1 v2 v4 t2)))
  (some (v2, t))
noncomputable def E_Or_countFollowing_L5 (n : Nat) : Nat → Nat → Nat → e_T → e_O := Nat.rec (motive := fun _ => Nat → Nat → Nat → e_T → e_O) (fun _ _ _ _ => none) (fun _ ih => E_Or_countFollowing_L5_b ih) n
noncomputable def E_Or_countFollowing (v1 : Nat) (t : e_T) : e_O :=
  E_Or_countFollowing_L5 4096 v1 9223372036854775809 9223372036854775809 t
noncomputable def E_Or_howMany_B50 (k5 : Nat → Nat → e_T → e_O) (v1 : Nat) (v2 : Nat) (v3 : Nat) (t : e_T) : e_O :=
  e_st 9223372036854776833 9223372036854775876 v2 v3 t fun t1 =>
  eF (eAdd v2 9223372036854775808) fun f1 => k5 v1 f1 t1
noncomputable def E_Or_howMany_B49 (k5 : Nat → Nat → e_T → e_O) (v1 : Nat) (v2 : Nat) (s0 : Nat) (t : e_T) : e_O :=
  E_Or_howMany_B50 k5 v1 v2 s0 t
noncomputable def E_Or_howMany_B63  (t : e_T) : e_O :=
  e_ld 9223372036854776833 9223372036854775876 9223372036854775809 t fun a1 =>
  some (a1, t)
noncomputable def E_Or_howMany_L5_b (k5 : Nat → Nat → e_T → e_O) (v1 : Nat) (v2 : Nat) (t : e_T) : e_O :=
  e_lt v2 9223372036854775809 (E_Or_howMany_B63 t)
  (e_lt v2 9223372036854776833 (e_bd (E_X_at 9223372036854775874 v2 t) fun a1 t2 =>
  e_le a1 v1 (e_bd (E_Or_allSums t2) fun a3 t4 =>
  e_eq v2 a3 (E_Or_howMany_B49 k5 v1 v2 9223372036854775810 t4)
  (e_bd (E_Or_countFollowing v2 t4) fun a5 t6 =>
  E_Or_howMany_B49 k5 v1 v2 a5 t6))
  (E_Or_howMany_B50 k5 v1 v2 9223372036854775809 t2))
  (E_Or_howMany_B63 t))
noncomputable def E_Or_howMany_L5 (n : Nat) : Nat → Nat → e_T → e_O := Nat.rec (motive := fun _ => Nat → Nat → e_T → e_O) (fun _ _ _ => none) (fun _ ih => E_Or_howMany_L5_b ih) n
noncomputable def E_Or_howMany (v1 : Nat) (t : e_T) : e_O :=
  e_bd (E_Or_allSums t) fun a1 t2 =>
  E_Or_howMany_L5 4096 v1 a1 t2
noncomputable def E_Or_leastCoin_L41_b (k27 : Nat → Nat → Nat → e_T → e_O) (k41 : Nat → Nat → Nat → Nat → Nat → e_T → e_O) (v1 : Nat) (v2 : Nat) (v3 : Nat) (v4 : Nat) (v5 : Nat) (t : e_T) : e_O :=
  e_bd (E_Or_slipOf v3 t) fun a1 t2 =>
  e_lt v5 a1 (e_bd (E_Or_standing v3 v5 t2) fun a8 t9 =>
  e_bd (E_X_at 9223372036854775873 v5 t9) fun a10 t11 =>
  eF (eAdd v4 (eMul a8 a10)) fun f1 => eF (eAdd v5 9223372036854775810) fun f2 => k41 v1 v2 v3 f1 f2 t11)
  (e_bd (E_Or_slipOf v3 t2) fun a3 t4 =>
  eF (eMin v1 v4) fun a5 =>
  e_bd (E_X_put 9223372036854775873 a3 a5 t4) fun a6 t7 =>
  eF (eAdd v3 9223372036854775810) fun f3 => k27 v1 v2 f3 t7)
noncomputable def E_Or_leastCoin_L41 (k27 : Nat → Nat → Nat → e_T → e_O) (n : Nat) : Nat → Nat → Nat → Nat → Nat → e_T → e_O := Nat.rec (motive := fun _ => Nat → Nat → Nat → Nat → Nat → e_T → e_O) (fun _ _ _ _ _ _ => none) (fun _ ih => E_Or_leastCoin_L41_b k27 ih) n
noncomputable def E_Or_leastCoin_L134_b (k115 : Nat → Nat → e_T → e_O) (k134 : Nat → Nat → Nat → Nat → e_T → e_O) (v3 : Nat) (v5 : Nat) (v6 : Nat) (v7 : Nat) (t : e_T) : e_O :=
  e_le v7 (e_rk t 61448) (e_bd (E_Or_standing v7 v5 t) fun a4 t5 =>
  eF (eAdd v6 a4) fun f1 => eF (eAdd v7 9223372036854775810) fun f2 => k134 v3 v5 f1 f2 t5)
  (eF (eMax 9223372036854775809 (eSub v6 9223372036854775810)) fun a1 =>
  e_bd (E_X_at 9223372036854775873 v5 t) fun a2 t3 =>
  eF (eAdd6 v3 (eMul6 a1 a2)) fun f3 => eF (eAdd v5 9223372036854775810) fun f4 => k115 f3 f4 t3)
noncomputable def E_Or_leastCoin_L134 (k115 : Nat → Nat → e_T → e_O) (n : Nat) : Nat → Nat → Nat → Nat → e_T → e_O := Nat.rec (motive := fun _ => Nat → Nat → Nat → Nat → e_T → e_O) (fun _ _ _ _ _ => none) (fun _ ih => E_Or_leastCoin_L134_b k115 ih) n
noncomputable def E_Or_leastCoin_L115_b (k115 : Nat → Nat → e_T → e_O) (v3 : Nat) (v5 : Nat) (t : e_T) : e_O :=
  eF (e_rk t 61448) fun f1 => e_bd (E_Or_slipOf f1 t) fun a1 t2 =>
  e_lt v5 a1 (E_Or_leastCoin_L134 k115 4096 v3 v5 9223372036854775809 9223372036854775809 t2)
  (some (v3, t2))
noncomputable def E_Or_leastCoin_L115 (n : Nat) : Nat → Nat → e_T → e_O := Nat.rec (motive := fun _ => Nat → Nat → e_T → e_O) (fun _ _ _ => none) (fun _ ih => E_Or_leastCoin_L115_b ih) n
noncomputable def E_Or_leastCoin_L27_b (k27 : Nat → Nat → Nat → e_T → e_O) (v1 : Nat) (v2 : Nat) (v3 : Nat) (t : e_T) : e_O :=
  e_lt v3 (e_rk t 61448) (E_Or_leastCoin_L41 k27 4096 v1 v2 v3 v2 9223372036854775809 t)
  (eF (eMul6 (e_rk t 61448) v2) fun f1 => E_Or_leastCoin_L115 4096 f1 9223372036854775809 t)
noncomputable def E_Or_leastCoin_L27 (n : Nat) : Nat → Nat → Nat → e_T → e_O := Nat.rec (motive := fun _ => Nat → Nat → Nat → e_T → e_O) (fun _ _ _ _ => none) (fun _ ih => E_Or_leastCoin_L27_b ih) n
noncomputable def E_Or_leastCoin_L2_b (k2 : Nat → Nat → Nat → e_T → e_O) (v1 : Nat) (v2 : Nat) (v3 : Nat) (t : e_T) : e_O :=
  e_lt v3 (e_rk t 61447) (e_bd (E_X_put 9223372036854775873 v3 v1 t) fun a1 t2 =>
  eF (eAdd v3 9223372036854775810) fun f1 => k2 v1 v2 f1 t2)
  (E_Or_leastCoin_L27 4096 v1 v2 9223372036854775809 t)
noncomputable def E_Or_leastCoin_L2 (n : Nat) : Nat → Nat → Nat → e_T → e_O := Nat.rec (motive := fun _ => Nat → Nat → Nat → e_T → e_O) (fun _ _ _ _ => none) (fun _ ih => E_Or_leastCoin_L2_b ih) n
noncomputable def E_Or_leastCoin (v1 : Nat) (v2 : Nat) (t : e_T) : e_O :=
  E_Or_leastCoin_L2 4096 v1 v2 9223372036854775809 t
noncomputable def E_Rd_fail (v1 : Nat) (t : e_T) : e_O :=
  e_eq (e_rk t 20490) 9223372036854775809 (eF (eAdd v1 (eMul 9223372036854775825 (e_rk t 10243))) fun f1 => e_w 9223372036854775829 9223372036854775819 f1 t fun t1 =>
  some (9223372036854775809, t1))
  (some (9223372036854775809, t))
noncomputable def E_Tp_withLetter (v0 : Nat) (v2 : Nat) (t : e_T) : e_O :=
  some ((eAdd6 (eMul6 v0 9223372036854775841) (eAdd (eSub v2 9223372036854775906) 9223372036854775810)), t)
noncomputable def E_Tp_isLetter (v0 : Nat) (t : e_T) : e_O :=
  e_lt v0 9223372036854775906 (some (9223372036854775809, t))
  (e_le v0 9223372036854775931 (some (9223372036854775810, t))
  (some (9223372036854775809, t)))
noncomputable def E_X_find_L3_b (k3 : Nat → Nat → Nat → Nat → e_T → e_O) (v0 : Nat) (v1 : Nat) (v2 : Nat) (v4 : Nat) (t : e_T) : e_O :=
  e_lt v4 v1 (e_len v0 fun a1 =>
  e_lt v4 a1 (e_ld (e_lK 1 v0) v0 v4 t fun a2 =>
  e_eq (eCmp a2 v2) 9223372036854775809 (some (v4, t))
  (eF (eAdd v4 9223372036854775810) fun f1 => k3 v0 v1 v2 f1 t))
  (some (9223372036854775808, t)))
  (some (9223372036854775808, t))
noncomputable def E_X_find_L3 (n : Nat) : Nat → Nat → Nat → Nat → e_T → e_O := Nat.rec (motive := fun _ => Nat → Nat → Nat → Nat → e_T → e_O) (fun _ _ _ _ _ => none) (fun _ ih => E_X_find_L3_b ih) n
noncomputable def E_X_find (v0 : Nat) (v1 : Nat) (v2 : Nat) (t : e_T) : e_O :=
  E_X_find_L3 4096 v0 v1 v2 9223372036854775809 t
noncomputable def E_Tp_readWord_B101 (v2 : Nat) (s1 : Nat) (t : e_T) : e_O :=
  e_w 9223372036854775819 9223372036854775814 s1 t fun t1 =>
  e_w 9223372036854775819 9223372036854775816 v2 t1 fun t2 =>
  some (9223372036854775809, t2)
noncomputable def E_Tp_readWord_B49 (v1 : Nat) (v2 : Nat) (v4 : Nat) (t : e_T) : e_O :=
  e_w 9223372036854775819 9223372036854775813 v4 t fun t1 =>
  e_le (eSub v4 v1) 9223372036854775817 (e_bd (E_X_find 9223372036854775821 9223372036854775826 v2 t1) fun a2 t3 =>
  e_eq a2 9223372036854775808 (E_Tp_readWord_B101 v2 9223372036854775811 t3)
  (eF (eAdd 9223372036854775909 a2) fun f1 => E_Tp_readWord_B101 v2 f1 t3))
  (e_w 9223372036854775819 9223372036854775814 9223372036854775809 t1 fun t4 =>
  some (9223372036854775809, t4))
noncomputable def E_Tp_readWord_L5_b (k5 : Nat → Nat → Nat → e_T → e_O) (v1 : Nat) (v2 : Nat) (v4 : Nat) (t : e_T) : e_O :=
  e_lt v4 (e_rk t 10242) (e_bd (E_X_at 9223372036854775820 v4 t) fun a1 t2 =>
  e_bd (E_Tp_isLetter a1 t2) fun a3 t4 =>
  e_eq a3 9223372036854775809 (E_Tp_readWord_B49 v1 v2 v4 t4)
  (e_bd (E_X_at 9223372036854775820 v4 t4) fun a5 t6 =>
  e_bd (E_Tp_withLetter v2 a5 t6) fun a7 t8 =>
  eF (eAdd v4 9223372036854775810) fun f1 => k5 v1 a7 f1 t8))
  (E_Tp_readWord_B49 v1 v2 v4 t)
noncomputable def E_Tp_readWord_L5 (n : Nat) : Nat → Nat → Nat → e_T → e_O := Nat.rec (motive := fun _ => Nat → Nat → Nat → e_T → e_O) (fun _ _ _ _ => none) (fun _ ih => E_Tp_readWord_L5_b ih) n
noncomputable def E_Tp_readWord (v1 : Nat) (t : e_T) : e_O :=
  E_Tp_readWord_L5 4096 v1 9223372036854775809 v1 t
noncomputable def E_Tp_isDigit (v0 : Nat) (t : e_T) : e_O :=
  e_lt v0 9223372036854775857 (some (9223372036854775809, t))
  (e_le v0 9223372036854775866 (some (9223372036854775810, t))
  (some (9223372036854775809, t)))
noncomputable def E_Tp_readNumber_B67 (v2 : Nat) (s1 : Nat) (t : e_T) : e_O :=
  e_w 9223372036854775819 9223372036854775814 s1 t fun t1 =>
  e_w 9223372036854775819 9223372036854775815 v2 t1 fun t2 =>
  some (9223372036854775809, t2)
noncomputable def E_Tp_readNumber_B49 (v1 : Nat) (v2 : Nat) (v3 : Nat) (t : e_T) : e_O :=
  e_w 9223372036854775819 9223372036854775813 v3 t fun t1 =>
  e_le (eSub v3 v1) 9223372036854775813 (E_Tp_readNumber_B67 v2 9223372036854775812 t1)
  (E_Tp_readNumber_B67 v2 9223372036854775809 t1)
noncomputable def E_Tp_readNumber_L4_b (k4 : Nat → Nat → Nat → e_T → e_O) (v1 : Nat) (v2 : Nat) (v3 : Nat) (t : e_T) : e_O :=
  e_lt v3 (e_rk t 10242) (e_bd (E_X_at 9223372036854775820 v3 t) fun a1 t2 =>
  e_bd (E_Tp_isDigit a1 t2) fun a3 t4 =>
  e_eq a3 9223372036854775809 (E_Tp_readNumber_B49 v1 v2 v3 t4)
  (e_bd (E_X_at 9223372036854775820 v3 t4) fun a5 t6 =>
  eF (eSub (eAdd (eMul v2 9223372036854775819) a5) 9223372036854775857) fun a7 =>
  eF (eAdd v3 9223372036854775810) fun f1 => k4 v1 a7 f1 t6))
  (E_Tp_readNumber_B49 v1 v2 v3 t)
noncomputable def E_Tp_readNumber_L4 (n : Nat) : Nat → Nat → Nat → e_T → e_O := Nat.rec (motive := fun _ => Nat → Nat → Nat → e_T → e_O) (fun _ _ _ _ => none) (fun _ ih => E_Tp_readNumber_L4_b ih) n
noncomputable def E_Tp_readNumber (v1 : Nat) (t : e_T) : e_O :=
  E_Tp_readNumber_L4 4096 v1 9223372036854775809 v1 t
noncomputable def E_Tp_isBlank (v0 : Nat) (t : e_T) : e_O :=
  e_eq v0 9223372036854775819 (some (9223372036854775810, t))
  (e_eq v0 9223372036854775841 (some (9223372036854775810, t))
  (some (9223372036854775809, t)))
noncomputable def E_Tp_isSign (v0 : Nat) (t : e_T) : e_O :=
  e_eq v0 9223372036854775849 (some (9223372036854775810, t))
  (e_eq v0 9223372036854775850 (some (9223372036854775810, t))
  (e_eq v0 9223372036854775851 (some (9223372036854775810, t))
  (e_eq v0 9223372036854775852 (some (9223372036854775810, t))
  (e_eq v0 9223372036854775853 (some (9223372036854775809, t))
  (e_eq v0 9223372036854775854 (some (9223372036854775810, t))
  (e_eq v0 9223372036854775855 (some (9223372036854775809, t))
  (e_eq v0 9223372036854775856 (some (9223372036854775809, t))
  (e_eq v0 9223372036854775857 (some (9223372036854775809, t))
  (e_eq v0 9223372036854775858 (some (9223372036854775809, t))
  (e_eq v0 9223372036854775859 (some (9223372036854775809, t))
  (e_eq v0 9223372036854775860 (some (9223372036854775809, t))
  (e_eq v0 9223372036854775861 (some (9223372036854775809, t))
  (e_eq v0 9223372036854775862 (some (9223372036854775809, t))
  (e_eq v0 9223372036854775863 (some (9223372036854775809, t))
  (e_eq v0 9223372036854775864 (some (9223372036854775809, t))
  (e_eq v0 9223372036854775865 (some (9223372036854775809, t))
  (e_eq v0 9223372036854775866 (some (9223372036854775809, t))
  (e_eq v0 9223372036854775867 (some (9223372036854775809, t))
  (e_eq v0 9223372036854775868 (some (9223372036854775810, t))
  (e_eq v0 9223372036854775869 (some (9223372036854775810, t))
  (e_eq v0 9223372036854775870 (some (9223372036854775810, t))
  (some (9223372036854775809, t)))))))))))))))))))))))
noncomputable def E_Tp_advance_B112 (v1 : Nat) (s1 : Nat) (t : e_T) : e_O :=
  e_w 9223372036854775819 9223372036854775814 s1 t fun t1 =>
  eF (eAdd v1 9223372036854775810) fun f1 => e_w 9223372036854775819 9223372036854775813 f1 t1 fun t2 =>
  some (9223372036854775809, t2)
noncomputable def E_Tp_advance_B33 (v1 : Nat) (t : e_T) : e_O :=
  e_w 9223372036854775819 9223372036854775812 v1 t fun t1 =>
  e_lt v1 (e_rk t1 10242) (e_bd (E_X_at 9223372036854775820 v1 t1) fun a2 t3 =>
  e_bd (E_Tp_isLetter a2 t3) fun a4 t5 =>
  e_eq a4 9223372036854775809 (e_bd (E_Tp_isDigit a2 t5) fun a6 t7 =>
  e_eq a6 9223372036854775809 (e_bd (E_Tp_isSign a2 t7) fun a8 t9 =>
  e_eq a8 9223372036854775809 (E_Tp_advance_B112 v1 9223372036854775809 t9)
  (E_Tp_advance_B112 v1 a2 t9))
  (e_bd (E_Tp_readNumber v1 t7) fun a10 t11 =>
  some (9223372036854775809, t11)))
  (e_bd (E_Tp_readWord v1 t5) fun a12 t13 =>
  some (9223372036854775809, t13)))
  (e_w 9223372036854775819 9223372036854775814 9223372036854775810 t1 fun t14 =>
  eF (e_rk t14 10242) fun f1 => e_w 9223372036854775819 9223372036854775813 f1 t14 fun t15 =>
  some (9223372036854775809, t15))
noncomputable def E_Tp_advance_L5_b (k5 : Nat → e_T → e_O) (v1 : Nat) (t : e_T) : e_O :=
  e_lt v1 (e_rk t 10242) (e_bd (E_X_at 9223372036854775820 v1 t) fun a1 t2 =>
  e_bd (E_Tp_isBlank a1 t2) fun a3 t4 =>
  e_eq a3 9223372036854775809 (E_Tp_advance_B33 v1 t4)
  (eF (eAdd v1 9223372036854775810) fun f1 => k5 f1 t4))
  (E_Tp_advance_B33 v1 t)
noncomputable def E_Tp_advance_L5 (n : Nat) : Nat → e_T → e_O := Nat.rec (motive := fun _ => Nat → e_T → e_O) (fun _ _ => none) (fun _ ih => E_Tp_advance_L5_b ih) n
noncomputable def E_Tp_advance  (t : e_T) : e_O :=
  eF (e_rk t 10244) fun f1 => E_Tp_advance_L5 4096 f1 t
noncomputable def E_Rd_expect (v1 : Nat) (t : e_T) : e_O :=
  e_eq (e_rk t 10245) v1 (e_bd (E_Tp_advance t) fun a1 t2 =>
  some (9223372036854775810, t2))
  (e_bd (E_Rd_fail 9223372036854775810 t) fun a3 t4 =>
  e_rb a3 t4)
noncomputable def E_Rd_endHead (v1 : Nat) (v2 : Nat) (t : e_T) : e_O :=
  e_eq v1 9223372036854775809 (e_bd (E_Rd_expect 9223372036854775868 t) fun a1 t2 =>
  e_eq a1 9223372036854775809 (some (9223372036854775809, t2))
  (e_gd 0 (e_rk t2 20484) <|
  eF (e_rd t2 (e_rk t2 20484) 9223372036854775822) fun f1 => e_w 9223372036854775829 9223372036854775820 f1 t2 fun t4 =>
  e_gd 0 (e_rk t4 20484) <|
  eF (e_rk t4 20484) fun f2 => e_bd (E_Bi_addBill f2 v2 t4) fun a6 t7 =>
  e_w 9223372036854775829 9223372036854775815 9223372036854775809 t7 fun t8 =>
  e_w 9223372036854775829 9223372036854775816 9223372036854775809 t8 fun t9 =>
  e_wb 9223372036854775829 9223372036854775822 9223372036854775810 t9 fun t10 =>
  some (9223372036854775809, t10)))
  (e_bd (E_Rd_expect 9223372036854775812 t) fun a11 t12 =>
  e_eq a11 9223372036854775809 (some (9223372036854775809, t12))
  (e_bd (E_Rd_expect 9223372036854775868 t12) fun a13 t14 =>
  e_eq a13 9223372036854775809 (some (9223372036854775809, t14))
  (e_gd 0 (e_rk t14 20484) <|
  eF (e_rk t14 20484) fun f3 => eF (e_rk t 10246) fun f4 => e_bd (E_Bi_addWall f3 v2 f4 t14) fun a16 t17 =>
  some (9223372036854775809, t17))))
noncomputable def E_Rd_isWall  (t : e_T) : e_O :=
  e_gd 0 (e_rk t 20484) <|
  eF (eOf (e_rk t 20484) 12) fun f1 => eF (e_rd t (e_rk t 20484) 9223372036854775821) fun f2 => eF (e_rk t 10247) fun f3 => e_bd (E_X_find f1 f2 f3 t) fun a2 t3 =>
  e_eq a2 9223372036854775808 (some (9223372036854775809, t3))
  (some (9223372036854775810, t3))
noncomputable def E_Rd_isBill  (t : e_T) : e_O :=
  e_gd 0 (e_rk t 20484) <|
  eF (eOf (e_rk t 20484) 14) fun f1 => eF (e_rd t (e_rk t 20484) 9223372036854775822) fun f2 => eF (e_rk t 10247) fun f3 => e_bd (E_X_find f1 f2 f3 t) fun a2 t3 =>
  e_eq a2 9223372036854775808 (some (9223372036854775809, t3))
  (some (9223372036854775810, t3))
noncomputable def E_Rd_readNewName_B25  (t : e_T) : e_O :=
  e_bd (E_Rd_fail 9223372036854775812 t) fun a1 t2 =>
  e_rb a1 t2
noncomputable def E_Rd_readNewName_B31  (t : e_T) : e_O :=
  e_bd (E_Rd_expect 9223372036854775811 t) fun a1 t2 =>
  e_rb a1 t2
noncomputable def E_Rd_readNewName  (t : e_T) : e_O :=
  e_eq (e_rk t 10245) 9223372036854775811 (e_bd (E_Rd_isWall t) fun a1 t2 =>
  e_eq a1 9223372036854775809 (e_bd (E_Rd_isBill t2) fun a3 t4 =>
  e_eq a3 9223372036854775809 (E_Rd_readNewName_B31 t4)
  (E_Rd_readNewName_B25 t4))
  (E_Rd_readNewName_B25 t2))
  (E_Rd_readNewName_B31 t)
noncomputable def E_Rd_readHead_B82  (t : e_T) : e_O :=
  e_bd (E_Rd_fail 9223372036854775814 t) fun a1 t2 =>
  some (9223372036854775809, t2)
noncomputable def E_Rd_readHead_B91 (v1 : Nat) (t : e_T) : e_O :=
  e_bd (E_Tp_advance t) fun a1 t2 =>
  e_bd (E_Rd_readNewName t2) fun a3 t4 =>
  e_eq a3 9223372036854775809 (some (9223372036854775809, t4))
  (eF (e_rk t2 10247) fun f1 => e_bd (E_Rd_endHead v1 f1 t4) fun a5 t6 =>
  some (9223372036854775809, t6))
noncomputable def E_Rd_readHead_B53 (v1 : Nat) (t : e_T) : e_O :=
  e_eq v1 9223372036854775809 (e_gd 0 (e_rk t 20484) <|
  e_lt (e_rd t (e_rk t 20484) 9223372036854775822) 9223372036854775813 (E_Rd_readHead_B91 v1 t)
  (E_Rd_readHead_B82 t))
  (e_gd 0 (e_rk t 20484) <|
  e_lt (e_rd t (e_rk t 20484) 9223372036854775821) 9223372036854775813 (E_Rd_readHead_B91 v1 t)
  (E_Rd_readHead_B82 t))
noncomputable def E_Rd_readHead_B27 (s0 : Nat) (t : e_T) : e_O :=
  e_eq s0 9223372036854775809 (e_eq (e_rk t 10245) 9223372036854775919 (E_Rd_readHead_B53 s0 t)
  (e_bd (E_Rd_fail 9223372036854775810 t) fun a1 t2 =>
  some (9223372036854775809, t2)))
  (E_Rd_readHead_B53 s0 t)
noncomputable def E_Rd_readHead_B26  (t : e_T) : e_O :=
  E_Rd_readHead_B27 9223372036854775809 t
noncomputable def E_Rd_readHead  (t : e_T) : e_O :=
  e_eq (e_rk t 10245) 9223372036854775918 (e_gd 0 (e_rk t 20484) <|
  e_eq (e_rd t (e_rk t 20484) 9223372036854775822) 9223372036854775809 (E_Rd_readHead_B27 9223372036854775810 t)
  (E_Rd_readHead_B26 t))
  (E_Rd_readHead_B26 t)
noncomputable def E_Rd_mayStand (v1 : Nat) (t : e_T) : e_O :=
  e_eq v1 9223372036854775809 (e_gd 0 (e_rk t 20484) <|
  eF (eOf (e_rk t 20484) 16) fun f1 => eF (e_rk t 20491) fun f2 => e_bd (E_X_at f1 f2 t) fun a2 t3 =>
  e_gd 0 (e_rk t3 20484) <|
  eF (eOf (e_rk t3 20484) 17) fun f3 => eF (e_rk t3 20491) fun f4 => e_bd (E_X_at f3 f4 t3) fun a5 t6 =>
  e_eq a2 a5 (some (9223372036854775810, t6))
  (some (9223372036854775809, t6)))
  (e_eq v1 9223372036854775810 (some (9223372036854775810, t))
  (e_eq v1 9223372036854775811 (some (9223372036854775810, t))
  (e_eq v1 9223372036854775812 (some (9223372036854775810, t))
  (e_eq v1 9223372036854775813 (some (9223372036854775810, t))
  (e_eq v1 9223372036854775814 (some (9223372036854775810, t))
  (e_eq v1 9223372036854775815 (e_le (e_rk t 20487) 9223372036854775809 (some (9223372036854775809, t))
  (e_gd 2 (e_rk t 20485) <|
  eF (eSub (e_rk t 20487) 9223372036854775810) fun f5 => e_bd (E_X_at 9223372036854775831 f5 t) fun a8 t9 =>
  eF (eOf (e_rk t 20485) 1) fun f6 => e_bd (E_X_at f6 a8 t9) fun a10 t11 =>
  e_eq a10 9223372036854775814 (some (9223372036854775810, t11))
  (some (9223372036854775809, t11))))
  (e_eq v1 9223372036854775816 (e_le (e_rk t 20487) 9223372036854775809 (some (9223372036854775809, t))
  (e_gd 2 (e_rk t 20485) <|
  eF (eSub (e_rk t 20487) 9223372036854775810) fun f7 => e_bd (E_X_at 9223372036854775831 f7 t) fun a13 t14 =>
  eF (eOf (e_rk t 20485) 1) fun f8 => e_bd (E_X_at f8 a13 t14) fun a15 t16 =>
  e_eq a15 9223372036854775815 (some (9223372036854775810, t16))
  (some (9223372036854775809, t16))))
  (e_eq v1 9223372036854775817 (e_eq (e_rk t 20487) 9223372036854775809 (some (9223372036854775810, t))
  (some (9223372036854775809, t)))
  (some (9223372036854775810, t))))))))))
noncomputable def E_Rd_isTooMany_B34 (v1 : Nat) (t : e_T) : e_O :=
  e_eq v1 9223372036854775814 (e_lt (e_rk t 20487) 9223372036854775812 (some (9223372036854775809, t))
  (some (9223372036854775810, t)))
  (some (9223372036854775809, t))
noncomputable def E_Rd_isTooMany (v1 : Nat) (t : e_T) : e_O :=
  e_gd 2 (e_rk t 20485) <|
  e_lt (e_rd t (e_rk t 20485) 9223372036854775819) 9223372036854775869 (e_eq v1 9223372036854775809 (e_gd 0 (e_rk t 20484) <|
  eF (eOf (e_rk t 20484) 17) fun f1 => eF (e_rk t 20491) fun f2 => e_bd (E_X_at f1 f2 t) fun a3 t4 =>
  e_lt a3 9223372036854775813 (E_Rd_isTooMany_B34 v1 t4)
  (some (9223372036854775810, t4)))
  (E_Rd_isTooMany_B34 v1 t))
  (some (9223372036854775810, t))
noncomputable def E_Rd_startLine_B29  (t : e_T) : e_O :=
  e_bd (E_Rd_fail 9223372036854775810 t) fun a1 t2 =>
  e_rb a1 t2
noncomputable def E_Rd_startLine  (t : e_T) : e_O :=
  e_lt (eSub (e_rk t 10245) 9223372036854775909) 9223372036854775809 (E_Rd_startLine_B29 t)
  (e_le (eSub (e_rk t 10245) 9223372036854775909) 9223372036854775817 (eF (eSub (e_rk t 10245) 9223372036854775909) fun f1 => e_bd (E_Rd_mayStand f1 t) fun a1 t2 =>
  e_eq a1 9223372036854775809 (E_Rd_startLine_B29 t2)
  (eF (eSub (e_rk t 10245) 9223372036854775909) fun f2 => e_bd (E_Rd_isTooMany f2 t2) fun a3 t4 =>
  e_eq a3 9223372036854775809 (e_gd 2 (e_rk t4 20485) <|
  eF (e_rk t4 20485) fun f3 => eF (eSub (e_rk t 10245) 9223372036854775909) fun f4 => e_bd (E_Ln_add f3 f4 t4) fun a6 t7 =>
  e_w 9223372036854775829 9223372036854775821 a6 t7 fun t8 =>
  e_gd 0 (e_rk t8 20484) <|
  eF (eOf (e_rk t8 20484) 16) fun f5 => eF (e_rk t8 20491) fun f6 => e_bd (E_X_at f5 f6 t8) fun a10 t11 =>
  eF (eOf (e_rk t8 20484) 16) fun f7 => eF (e_rk t8 20491) fun f8 => eF (eAdd a10 9223372036854775810) fun f9 => e_bd (E_X_put f7 f8 f9 t11) fun a12 t13 =>
  e_bd (E_Tp_advance t13) fun a14 t15 =>
  some (9223372036854775810, t15))
  (e_bd (E_Rd_fail 9223372036854775814 t4) fun a16 t17 =>
  e_rb a16 t17)))
  (E_Rd_startLine_B29 t))
noncomputable def E_Rd_isUntaken_B39  (t : e_T) : e_O :=
  e_gd 0 (e_rk t 20484) <|
  eF (eOf (e_rk t 20484) 17) fun f1 => eF (e_rk t 20491) fun f2 => e_bd (E_X_at f1 f2 t) fun a2 t3 =>
  eF (eOf (e_rk t 20484) 17) fun f3 => eF (e_rk t 20491) fun f4 => eF (eAdd a2 9223372036854775810) fun f5 => e_bd (E_X_put f3 f4 f5 t3) fun a4 t5 =>
  some (9223372036854775810, t5)
noncomputable def E_Rd_isUntaken  (t : e_T) : e_O :=
  e_eq (e_rk t 10245) 9223372036854775811 (eF (e_rk t 20486) fun f1 => eF (e_rk t 10247) fun f2 => e_bd (E_X_find 9223372036854775830 f1 f2 t) fun a1 t2 =>
  e_eq a1 9223372036854775808 (E_Rd_isUntaken_B39 t2)
  (e_bd (E_Rd_fail 9223372036854775812 t2) fun a3 t4 =>
  e_rb a3 t4))
  (E_Rd_isUntaken_B39 t)
noncomputable def E_Rd_readKind_B51 (s1 : Nat) (t : e_T) : e_O :=
  e_bd (E_Rd_expect s1 t) fun a1 t2 =>
  e_rb a1 t2
noncomputable def E_Rd_readKind_B28 (s0 : Nat) (s1 : Nat) (s2 : Nat) (t : e_T) : e_O :=
  e_bd (E_X_put s0 s1 s2 t) fun a1 t2 =>
  e_eq (e_rk t2 10245) 9223372036854775920 (E_Rd_readKind_B51 9223372036854775920 t2)
  (E_Rd_readKind_B51 9223372036854775921 t2)
noncomputable def E_Rd_readKind  (t : e_T) : e_O :=
  e_gd 2 (e_rk t 20485) <|
  e_eq (e_rk t 10245) 9223372036854775920 (eF (eOf (e_rk t 20485) 4) fun f1 => eF (e_rk t 20492) fun f2 => E_Rd_readKind_B28 f1 f2 9223372036854775810 t)
  (eF (eOf (e_rk t 20485) 4) fun f3 => eF (e_rk t 20492) fun f4 => E_Rd_readKind_B28 f3 f4 9223372036854775809 t)
noncomputable def E_Rd_slipNamed  (t : e_T) : e_O :=
  eF (e_rk t 20486) fun f1 => eF (e_rk t 10247) fun f2 => e_bd (E_X_find 9223372036854775830 f1 f2 t) fun a1 t2 =>
  e_eq a1 9223372036854775808 (e_lt (e_rk t2 20486) 9223372036854775819 (eF (e_rk t2 20486) fun f3 => eF (e_rk t2 10247) fun f4 => e_st 9223372036854775819 9223372036854775830 f3 f4 t2 fun t3 =>
  eF (eAdd (e_rk t3 20486) 9223372036854775810) fun f5 => e_w 9223372036854775829 9223372036854775815 f5 t3 fun t4 =>
  some ((e_rk t2 20486), t4))
  (some (a1, t2)))
  (some (a1, t2))
noncomputable def E_Rd_readSlip_B92  (t : e_T) : e_O :=
  e_bd (E_Tp_advance t) fun a1 t2 =>
  some (9223372036854775810, t2)
noncomputable def E_Rd_readSlip_B84 (v2 : Nat) (s0 : Nat) (t : e_T) : e_O :=
  eF (e_rk t 20492) fun f1 => e_bd (E_X_put s0 f1 v2 t) fun a1 t2 =>
  E_Rd_readSlip_B92 t2
noncomputable def E_Rd_readSlip (v1 : Nat) (t : e_T) : e_O :=
  e_eq (e_rk t 10245) 9223372036854775811 (e_bd (E_Rd_isWall t) fun a1 t2 =>
  e_eq a1 9223372036854775809 (e_bd (E_Rd_slipNamed t2) fun a3 t4 =>
  e_eq a3 9223372036854775808 (e_bd (E_Rd_fail 9223372036854775814 t4) fun a10 t11 =>
  e_rb a10 t11)
  (e_eq v1 9223372036854775809 (e_gd 2 (e_rk t4 20485) <|
  eF (e_rk t4 20485) fun f1 => e_bd (E_Ln_addCode f1 9223372036854775811 a3 t4) fun a8 t9 =>
  E_Rd_readSlip_B92 t9)
  (e_eq v1 9223372036854775810 (e_gd 2 (e_rk t4 20485) <|
  eF (eOf (e_rk t4 20485) 2) fun f2 => E_Rd_readSlip_B84 a3 f2 t4)
  (e_gd 2 (e_rk t4 20485) <|
  eF (eOf (e_rk t4 20485) 3) fun f3 => E_Rd_readSlip_B84 a3 f3 t4))))
  (e_bd (E_Rd_fail 9223372036854775812 t2) fun a12 t13 =>
  e_rb a12 t13))
  (e_bd (E_Rd_fail 9223372036854775810 t) fun a14 t15 =>
  e_rb a14 t15)
noncomputable def E_Rd_readCall_B134 (s1 : Nat) (t : e_T) : e_O :=
  e_bd (E_Rd_fail s1 t) fun a1 t2 =>
  e_rb a1 t2
noncomputable def E_Rd_readCall_L89_b (k89 : Nat → Nat → e_T → e_O) (v2 : Nat) (v3 : Nat) (t : e_T) : e_O :=
  e_lt v3 v2 (e_bd (E_Rd_readSlip 9223372036854775809 t) fun a3 t4 =>
  e_eq a3 9223372036854775809 (some (9223372036854775809, t4))
  (eF (eAdd v3 9223372036854775810) fun f1 => k89 v2 f1 t4))
  (e_eq (e_rk t 10245) 9223372036854775811 (e_bd (E_Rd_isWall t) fun a1 t2 =>
  e_eq a1 9223372036854775809 (E_Rd_readCall_B134 9223372036854775814 t2)
  (E_Rd_readCall_B134 9223372036854775812 t2))
  (some (9223372036854775810, t)))
noncomputable def E_Rd_readCall_L89 (n : Nat) : Nat → Nat → e_T → e_O := Nat.rec (motive := fun _ => Nat → Nat → e_T → e_O) (fun _ _ _ => none) (fun _ ih => E_Rd_readCall_L89_b ih) n
noncomputable def E_Rd_readCall  (t : e_T) : e_O :=
  e_eq (e_rk t 10245) 9223372036854775811 (e_gd 0 (e_rk t 20484) <|
  eF (eOf (e_rk t 20484) 14) fun f1 => eF (e_rd t (e_rk t 20484) 9223372036854775822) fun f2 => eF (e_rk t 10247) fun f3 => e_bd (E_X_find f1 f2 f3 t) fun a2 t3 =>
  e_eq a2 9223372036854775808 (e_bd (E_Rd_fail 9223372036854775811 t3) fun a12 t13 =>
  e_rb a12 t13)
  (e_gd 2 (e_rk t3 20485) <|
  eF (eOf (e_rk t3 20485) 5) fun f4 => eF (e_rk t3 20492) fun f5 => e_bd (E_X_put f4 f5 a2 t3) fun a5 t6 =>
  e_bd (E_Tp_advance t6) fun a7 t8 =>
  e_gd 0 (e_rk t8 20484) <|
  eF (eOf (e_rk t8 20484) 17) fun f6 => e_bd (E_X_at f6 a2 t8) fun a10 t11 =>
  E_Rd_readCall_L89 4096 a10 9223372036854775809 t11))
  (e_bd (E_Rd_fail 9223372036854775810 t) fun a14 t15 =>
  e_rb a14 t15)
noncomputable def E_Rd_mayBegin_B36  (t : e_T) : e_O :=
  e_lt (e_rk t 20489) 9223372036854775814 (some (9223372036854775810, t))
  (e_bd (E_Rd_fail 9223372036854775814 t) fun a1 t2 =>
  e_eq a1 9223372036854775809 (some (9223372036854775809, t2))
  (some (9223372036854775810, t2)))
noncomputable def E_Rd_mayBegin  (t : e_T) : e_O :=
  e_eq (e_rk t 10245) 9223372036854775812 (E_Rd_mayBegin_B36 t)
  (e_eq (e_rk t 10245) 9223372036854775811 (E_Rd_mayBegin_B36 t)
  (e_eq (e_rk t 10245) 9223372036854775923 (E_Rd_mayBegin_B36 t)
  (e_eq (e_rk t 10245) 9223372036854775849 (E_Rd_mayBegin_B36 t)
  (e_bd (E_Rd_fail 9223372036854775810 t) fun a1 t2 =>
  e_rb a1 t2))))
noncomputable def E_Rd_await (v1 : Nat) (t : e_T) : e_O :=
  eF (e_rk t 20488) fun f1 => e_bd (E_X_put 9223372036854775832 f1 v1 t) fun a1 t2 =>
  eF (eAdd (e_rk t2 20488) 9223372036854775810) fun f2 => e_w 9223372036854775829 9223372036854775817 f2 t2 fun t3 =>
  some (9223372036854775809, t3)
noncomputable def E_Rd_wrap  (t : e_T) : e_O :=
  eF (eAdd (e_rk t 20489) 9223372036854775810) fun f1 => e_w 9223372036854775829 9223372036854775818 f1 t fun t1 =>
  eF (e_rk t1 10245) fun f2 => e_bd (E_Rd_await f2 t1) fun a2 t3 =>
  some (9223372036854775810, t3)
noncomputable def E_Rd_lastWaiting  (t : e_T) : e_O :=
  e_le (e_rk t 20488) 9223372036854775809 (some (9223372036854775809, t))
  (eF (eSub (e_rk t 20488) 9223372036854775810) fun f1 => e_bd (E_X_at 9223372036854775832 f1 t) fun a1 t2 =>
  some (a1, t2))
noncomputable def E_Rd_codeNots_L0_b (k0 : e_T → e_O)  (t : e_T) : e_O :=
  e_le (e_rk t 20488) 9223372036854775809 (some (9223372036854775809, t))
  (e_bd (E_Rd_lastWaiting t) fun a1 t2 =>
  e_eq a1 9223372036854775923 (e_gd 2 (e_rk t2 20485) <|
  eF (e_rk t2 20485) fun f1 => e_bd (E_Ln_addCode f1 9223372036854775923 9223372036854775809 t2) fun a4 t5 =>
  eF (eSub (e_rk t5 20488) 9223372036854775810) fun f2 => e_w 9223372036854775829 9223372036854775817 f2 t5 fun t6 =>
  eF (eSub (e_rk t6 20489) 9223372036854775810) fun f3 => e_w 9223372036854775829 9223372036854775818 f3 t6 fun t7 =>
  k0 t7)
  (some (9223372036854775809, t2)))
noncomputable def E_Rd_codeNots_L0 (n : Nat) : e_T → e_O := Nat.rec (motive := fun _ => e_T → e_O) (fun  _ => none) (fun _ ih => E_Rd_codeNots_L0_b ih) n
noncomputable def E_Rd_codeNots  (t : e_T) : e_O :=
  E_Rd_codeNots_L0 4096 t
noncomputable def E_Rd_readPart_B108  (t : e_T) : e_O :=
  e_bd (E_Rd_codeNots t) fun a1 t2 =>
  some (9223372036854775810, t2)
noncomputable def E_Rd_readPart  (t : e_T) : e_O :=
  e_eq (e_rk t 10245) 9223372036854775812 (e_gd 2 (e_rk t 20485) <|
  eF (e_rk t 20485) fun f1 => eF (e_rk t 10246) fun f2 => e_bd (E_Ln_addCode f1 9223372036854775812 f2 t) fun a20 t21 =>
  E_Rd_readPart_B108 t21)
  (e_bd (E_Rd_isWall t) fun a1 t2 =>
  e_eq a1 9223372036854775809 (e_bd (E_Rd_slipNamed t2) fun a3 t4 =>
  e_eq a3 9223372036854775808 (e_bd (E_Rd_fail 9223372036854775814 t4) fun a8 t9 =>
  e_rb a8 t9)
  (e_gd 2 (e_rk t4 20485) <|
  eF (e_rk t4 20485) fun f3 => e_bd (E_Ln_addCode f3 9223372036854775811 a3 t4) fun a6 t7 =>
  E_Rd_readPart_B108 t7))
  (e_gd 0 (e_rk t2 20484) <|
  eF (eOf (e_rk t2 20484) 12) fun f4 => eF (e_rd t2 (e_rk t2 20484) 9223372036854775821) fun f5 => eF (e_rk t2 10247) fun f6 => e_bd (E_X_find f4 f5 f6 t2) fun a11 t12 =>
  e_gd 0 (e_rk t12 20484) <|
  eF (eOf (e_rk t12 20484) 13) fun f7 => e_bd (E_X_at f7 a11 t12) fun a14 t15 =>
  e_gd 2 (e_rk t12 20485) <|
  eF (e_rk t12 20485) fun f8 => e_bd (E_Ln_addCode f8 9223372036854775812 a14 t15) fun a17 t18 =>
  E_Rd_readPart_B108 t18))
noncomputable def E_Rd_rank (v0 : Nat) (t : e_T) : e_O :=
  e_eq v0 9223372036854775851 (some (9223372036854775813, t))
  (e_eq v0 9223372036854775852 (some (9223372036854775812, t))
  (e_eq v0 9223372036854775854 (some (9223372036854775812, t))
  (e_eq v0 9223372036854775869 (some (9223372036854775811, t))
  (e_eq v0 9223372036854775870 (some (9223372036854775811, t))
  (e_eq v0 9223372036854775924 (some (9223372036854775810, t))
  (e_eq v0 9223372036854775925 (some (9223372036854775810, t))
  (some (9223372036854775809, t))))))))
noncomputable def E_Rd_codeFrom_L0_b (k0 : Nat → e_T → e_O) (v1 : Nat) (t : e_T) : e_O :=
  e_le (e_rk t 20488) 9223372036854775809 (some (9223372036854775809, t))
  (e_bd (E_Rd_lastWaiting t) fun a1 t2 =>
  e_bd (E_Rd_rank a1 t2) fun a3 t4 =>
  e_lt a3 v1 (some (9223372036854775809, t4))
  (e_bd (E_Rd_lastWaiting t4) fun a5 t6 =>
  e_gd 2 (e_rk t4 20485) <|
  eF (e_rk t4 20485) fun f1 => e_bd (E_Ln_addCode f1 a5 9223372036854775809 t6) fun a8 t9 =>
  eF (eSub (e_rk t9 20488) 9223372036854775810) fun f2 => e_w 9223372036854775829 9223372036854775817 f2 t9 fun t10 =>
  k0 v1 t10))
noncomputable def E_Rd_codeFrom_L0 (n : Nat) : Nat → e_T → e_O := Nat.rec (motive := fun _ => Nat → e_T → e_O) (fun _ _ => none) (fun _ ih => E_Rd_codeFrom_L0_b ih) n
noncomputable def E_Rd_codeFrom (v1 : Nat) (t : e_T) : e_O :=
  E_Rd_codeFrom_L0 4096 v1 t
noncomputable def E_Rd_unwrap  (t : e_T) : e_O :=
  e_bd (E_Rd_codeFrom 9223372036854775810 t) fun a1 t2 =>
  e_bd (E_Rd_lastWaiting t2) fun a3 t4 =>
  e_eq a3 9223372036854775849 (eF (eSub (e_rk t4 20488) 9223372036854775810) fun f1 => e_w 9223372036854775829 9223372036854775817 f1 t4 fun t5 =>
  eF (eSub (e_rk t5 20489) 9223372036854775810) fun f2 => e_w 9223372036854775829 9223372036854775818 f2 t5 fun t6 =>
  e_bd (E_Rd_codeNots t6) fun a7 t8 =>
  some (9223372036854775810, t8))
  (e_bd (E_Rd_fail 9223372036854775810 t4) fun a9 t10 =>
  e_rb a9 t10)
noncomputable def E_Rd_join_B47  (t : e_T) : e_O :=
  eF (e_rk t 10245) fun f1 => e_bd (E_Rd_await f1 t) fun a1 t2 =>
  some (9223372036854775810, t2)
noncomputable def E_Rd_join_B22 (v1 : Nat) (s1 : Nat) (t : e_T) : e_O :=
  e_bd (E_Rd_codeFrom s1 t) fun a1 t2 =>
  e_eq v1 9223372036854775811 (e_bd (E_Rd_lastWaiting t2) fun a3 t4 =>
  e_bd (E_Rd_rank a3 t4) fun a5 t6 =>
  e_eq a5 9223372036854775811 (e_bd (E_Rd_fail 9223372036854775810 t6) fun a7 t8 =>
  e_rb a7 t8)
  (E_Rd_join_B47 t6))
  (E_Rd_join_B47 t2)
noncomputable def E_Rd_join  (t : e_T) : e_O :=
  eF (e_rk t 10245) fun f1 => e_bd (E_Rd_rank f1 t) fun a1 t2 =>
  e_eq a1 9223372036854775811 (E_Rd_join_B22 a1 9223372036854775812 t2)
  (E_Rd_join_B22 a1 a1 t2)
noncomputable def E_Rd_endSum  (t : e_T) : e_O :=
  e_bd (E_Rd_codeFrom 9223372036854775810 t) fun a1 t2 =>
  e_eq (e_rk t2 20488) 9223372036854775809 (some (9223372036854775810, t2))
  (e_bd (E_Rd_fail 9223372036854775810 t2) fun a3 t4 =>
  e_eq a3 9223372036854775809 (some (9223372036854775809, t4))
  (some (9223372036854775810, t4)))
noncomputable def E_Rd_readSum_B127 (k14 : Nat → Nat → e_T → e_O) (v1 : Nat) (v2 : Nat) (v4 : Nat) (t : e_T) : e_O :=
  e_eq v4 9223372036854775809 (some (9223372036854775809, t))
  (e_bd (E_Tp_advance t) fun a1 t2 =>
  eF (eAdd v2 9223372036854775810) fun f1 => k14 v1 f1 t2)
noncomputable def E_Rd_readSum_B84 (k14 : Nat → Nat → e_T → e_O) (v1 : Nat) (v2 : Nat) (s0 : Nat) (t : e_T) : e_O :=
  E_Rd_readSum_B127 k14 v1 v2 s0 t
noncomputable def E_Rd_readSum_B79 (k14 : Nat → Nat → e_T → e_O) (v1 : Nat) (v2 : Nat) (t : e_T) : e_O :=
  E_Rd_readSum_B84 k14 v1 v2 9223372036854775810 t
noncomputable def E_Rd_readSum_B83 (k14 : Nat → Nat → e_T → e_O) (v1 : Nat) (v2 : Nat) (t : e_T) : e_O :=
  E_Rd_readSum_B84 k14 v1 v2 9223372036854775809 t
noncomputable def E_Rd_readSum_B50 (k14 : Nat → Nat → e_T → e_O) (v2 : Nat) (s0 : Nat) (t : e_T) : e_O :=
  e_bd (E_Rd_mayBegin t) fun a1 t2 =>
  e_eq a1 9223372036854775809 (E_Rd_readSum_B83 k14 s0 v2 t2)
  (e_eq s0 9223372036854775809 (e_bd (E_Rd_readPart t2) fun a3 t4 =>
  e_eq a3 9223372036854775809 (E_Rd_readSum_B83 k14 s0 v2 t4)
  (E_Rd_readSum_B79 k14 s0 v2 t4))
  (e_bd (E_Rd_wrap t2) fun a5 t6 =>
  e_eq a5 9223372036854775809 (E_Rd_readSum_B83 k14 s0 v2 t6)
  (E_Rd_readSum_B79 k14 s0 v2 t6)))
noncomputable def E_Rd_readSum_B45 (k14 : Nat → Nat → e_T → e_O) (v2 : Nat) (t : e_T) : e_O :=
  E_Rd_readSum_B50 k14 v2 9223372036854775810 t
noncomputable def E_Rd_readSum_L14_b (k14 : Nat → Nat → e_T → e_O) (v1 : Nat) (v2 : Nat) (t : e_T) : e_O :=
  e_le v2 9223372036854776809 (e_eq v1 9223372036854775809 (e_eq (e_rk t 10245) 9223372036854775850 (e_bd (E_Rd_unwrap t) fun a9 t10 =>
  E_Rd_readSum_B127 k14 v1 v2 a9 t10)
  (eF (e_rk t 10245) fun f1 => e_bd (E_Rd_rank f1 t) fun a3 t4 =>
  e_le a3 9223372036854775809 (e_bd (E_Rd_endSum t4) fun a5 t6 =>
  e_rb a5 t6)
  (e_bd (E_Rd_join t4) fun a7 t8 =>
  E_Rd_readSum_B127 k14 9223372036854775810 v2 a7 t8)))
  (e_eq (e_rk t 10245) 9223372036854775923 (E_Rd_readSum_B45 k14 v2 t)
  (e_eq (e_rk t 10245) 9223372036854775849 (E_Rd_readSum_B45 k14 v2 t)
  (E_Rd_readSum_B50 k14 v2 9223372036854775809 t))))
  (e_bd (E_Rd_fail 9223372036854775810 t) fun a1 t2 =>
  e_rb a1 t2)
noncomputable def E_Rd_readSum_L14 (n : Nat) : Nat → Nat → e_T → e_O := Nat.rec (motive := fun _ => Nat → Nat → e_T → e_O) (fun _ _ _ => none) (fun _ ih => E_Rd_readSum_L14_b ih) n
noncomputable def E_Rd_readSum  (t : e_T) : e_O :=
  e_w 9223372036854775829 9223372036854775817 9223372036854775809 t fun t1 =>
  e_w 9223372036854775829 9223372036854775818 9223372036854775809 t1 fun t2 =>
  E_Rd_readSum_L14 4096 9223372036854775810 9223372036854775809 t2
noncomputable def E_Rd_readRest  (t : e_T) : e_O :=
  e_gd 2 (e_rk t 20485) <|
  eF (eOf (e_rk t 20485) 1) fun f1 => eF (e_rk t 20492) fun f2 => e_bd (E_X_at f1 f2 t) fun a2 t3 =>
  e_eq a2 9223372036854775809 (e_bd (E_Rd_isUntaken t3) fun a4 t5 =>
  e_eq a4 9223372036854775809 (some (9223372036854775809, t5))
  (e_bd (E_Rd_readSlip 9223372036854775810 t5) fun a6 t7 =>
  e_eq a6 9223372036854775809 (some (9223372036854775809, t7))
  (e_bd (E_Rd_readKind t7) fun a8 t9 =>
  e_eq a8 9223372036854775809 (some (9223372036854775809, t9))
  (some (9223372036854775810, t9)))))
  (e_eq a2 9223372036854775810 (e_bd (E_Rd_readSlip 9223372036854775810 t3) fun a10 t11 =>
  e_eq a10 9223372036854775809 (some (9223372036854775809, t11))
  (e_bd (E_Rd_readKind t11) fun a12 t13 =>
  e_eq a12 9223372036854775809 (some (9223372036854775809, t13))
  (e_bd (E_Rd_readSum t13) fun a14 t15 =>
  e_eq a14 9223372036854775809 (some (9223372036854775809, t15))
  (some (9223372036854775810, t15)))))
  (e_eq a2 9223372036854775811 (e_bd (E_Rd_readSlip 9223372036854775809 t3) fun a16 t17 =>
  e_eq a16 9223372036854775809 (some (9223372036854775809, t17))
  (e_bd (E_Rd_expect 9223372036854775922 t17) fun a18 t19 =>
  e_eq a18 9223372036854775809 (some (9223372036854775809, t19))
  (e_bd (E_Rd_readSlip 9223372036854775810 t19) fun a20 t21 =>
  e_eq a20 9223372036854775809 (some (9223372036854775809, t21))
  (e_bd (E_Rd_readSlip 9223372036854775811 t21) fun a22 t23 =>
  e_eq a22 9223372036854775809 (some (9223372036854775809, t23))
  (some (9223372036854775810, t23))))))
  (e_eq a2 9223372036854775812 (e_bd (E_Rd_readSlip 9223372036854775809 t3) fun a24 t25 =>
  e_rb a24 t25)
  (e_eq a2 9223372036854775813 (e_bd (E_Rd_readCall t3) fun a26 t27 =>
  e_eq a26 9223372036854775809 (some (9223372036854775809, t27))
  (e_bd (E_Rd_expect 9223372036854775922 t27) fun a28 t29 =>
  e_eq a28 9223372036854775809 (some (9223372036854775809, t29))
  (e_bd (E_Rd_readSlip 9223372036854775810 t29) fun a30 t31 =>
  e_eq a30 9223372036854775809 (some (9223372036854775809, t31))
  (some (9223372036854775810, t31)))))
  (e_eq a2 9223372036854775814 (eF (e_rk t3 20487) fun f3 => eF (e_rk t3 20492) fun f4 => e_bd (E_X_put 9223372036854775831 f3 f4 t3) fun a32 t33 =>
  eF (eAdd (e_rk t33 20487) 9223372036854775810) fun f5 => e_w 9223372036854775829 9223372036854775816 f5 t33 fun t34 =>
  e_bd (E_Rd_readSum t34) fun a35 t36 =>
  e_rb a35 t36)
  (e_eq a2 9223372036854775815 (e_gd 2 (e_rk t3 20485) <|
  eF (eSub (e_rk t3 20487) 9223372036854775810) fun f6 => e_bd (E_X_at 9223372036854775831 f6 t3) fun a38 t39 =>
  eF (eOf (e_rk t3 20485) 6) fun f7 => eF (e_rk t39 20492) fun f8 => e_bd (E_X_put f7 a38 f8 t39) fun a40 t41 =>
  eF (eSub (e_rk t41 20487) 9223372036854775810) fun f9 => eF (e_rk t41 20492) fun f10 => e_bd (E_X_put 9223372036854775831 f9 f10 t41) fun a42 t43 =>
  some (9223372036854775810, t43))
  (e_eq a2 9223372036854775816 (eF (eSub (e_rk t3 20487) 9223372036854775810) fun f11 => e_w 9223372036854775829 9223372036854775816 f11 t3 fun t44 =>
  e_gd 2 (e_rk t44 20485) <|
  eF (e_rk t44 20487) fun f12 => e_bd (E_X_at 9223372036854775831 f12 t44) fun a46 t47 =>
  eF (eOf (e_rk t44 20485) 6) fun f13 => eF (e_rk t47 20492) fun f14 => e_bd (E_X_put f13 a46 f14 t47) fun a48 t49 =>
  some (9223372036854775810, t49))
  (e_bd (E_Rd_readSum t3) fun a50 t51 =>
  e_rb a50 t51))))))))
noncomputable def E_Rd_endLine  (t : e_T) : e_O :=
  e_bd (E_Rd_expect 9223372036854775868 t) fun a1 t2 =>
  e_eq a1 9223372036854775809 (some (9223372036854775809, t2))
  (e_gd 2 (e_rk t2 20485) <|
  eF (eOf (e_rk t2 20485) 1) fun f1 => eF (e_rk t2 20492) fun f2 => e_bd (E_X_at f1 f2 t2) fun a4 t5 =>
  e_eq a4 9223372036854775817 (e_gd 0 (e_rk t5 20484) <|
  eF (eOf (e_rk t5 20484) 18) fun f3 => eF (e_rk t5 20491) fun f4 => eF (e_rk t5 20486) fun f5 => e_bd (E_X_put f3 f4 f5 t5) fun a7 t8 =>
  e_wb 9223372036854775829 9223372036854775822 9223372036854775809 t8 fun t9 =>
  some (9223372036854775809, t9))
  (some (9223372036854775809, t5)))
noncomputable def E_Tp_rewind  (t : e_T) : e_O :=
  e_w 9223372036854775819 9223372036854775813 9223372036854775809 t fun t1 =>
  e_bd (E_Tp_advance t1) fun a2 t3 =>
  some (9223372036854775809, t3)
noncomputable def E_Rd_readInto_B96 (k39 : Nat → e_T → e_O) (v2 : Nat) (t : e_T) : e_O :=
  eF (eAdd v2 9223372036854775810) fun f1 => k39 f1 t
noncomputable def E_Rd_readInto_B115  (t : e_T) : e_O :=
  some ((e_rk t 20490), t)
noncomputable def E_Rd_readInto_B102  (t : e_T) : e_O :=
  e_eq (e_rk t 20493) 9223372036854775809 (E_Rd_readInto_B115 t)
  (e_bd (E_Rd_fail 9223372036854775810 t) fun a1 t2 =>
  E_Rd_readInto_B115 t2)
noncomputable def E_Rd_readInto_L39_b (k39 : Nat → e_T → e_O) (v2 : Nat) (t : e_T) : e_O :=
  e_le v2 9223372036854776809 (e_eq (e_rk t 20490) 9223372036854775809 (e_eq (e_rk t 10245) 9223372036854775810 (E_Rd_readInto_B102 t)
  (e_eq (e_rk t 20493) 9223372036854775809 (e_bd (E_Rd_readHead t) fun a7 t8 =>
  E_Rd_readInto_B96 k39 v2 t8)
  (e_bd (E_Rd_startLine t) fun a1 t2 =>
  e_eq a1 9223372036854775809 (E_Rd_readInto_B96 k39 v2 t2)
  (e_bd (E_Rd_readRest t2) fun a3 t4 =>
  e_eq a3 9223372036854775809 (E_Rd_readInto_B96 k39 v2 t4)
  (e_bd (E_Rd_endLine t4) fun a5 t6 =>
  E_Rd_readInto_B96 k39 v2 t6)))))
  (E_Rd_readInto_B102 t))
  (E_Rd_readInto_B102 t)
noncomputable def E_Rd_readInto_L39 (n : Nat) : Nat → e_T → e_O := Nat.rec (motive := fun _ => Nat → e_T → e_O) (fun _ _ => none) (fun _ ih => E_Rd_readInto_L39_b ih) n
noncomputable def E_Rd_readInto (v1 : Nat) (t : e_T) : e_O :=
  e_w 9223372036854775829 9223372036854775813 v1 t fun t1 =>
  e_gd 0 v1 <|
  eF (eOf v1 1) fun f1 => e_w 9223372036854775829 9223372036854775814 f1 t1 fun t3 =>
  e_gd 0 (e_rk t3 20484) <|
  eF (e_rk t3 20484) fun f2 => e_bd (E_Bi_empty f2 t3) fun a5 t6 =>
  e_w 9223372036854775829 9223372036854775819 9223372036854775809 t6 fun t7 =>
  e_wb 9223372036854775829 9223372036854775822 9223372036854775809 t7 fun t8 =>
  e_bd (E_Tp_rewind t8) fun a9 t10 =>
  E_Rd_readInto_L39 4096 9223372036854775809 t10
noncomputable def E_Tp_clear  (t : e_T) : e_O :=
  e_w 9223372036854775819 9223372036854775811 9223372036854775809 t fun t1 =>
  some (9223372036854775809, t1)
noncomputable def E_Tp_append_B85 (k3 : Nat → Nat → e_T → e_O) (v1 : Nat) (v3 : Nat) (t : e_T) : e_O :=
  eF (eAdd v3 9223372036854775801) fun f1 => k3 v1 f1 t
noncomputable def E_Tp_append_B43 (k3 : Nat → Nat → e_T → e_O) (v1 : Nat) (v3 : Nat) (v4 : Nat) (s0 : Nat) (t : e_T) : e_O :=
  e_eq s0 9223372036854775809 (E_Tp_append_B85 k3 v1 v3 t)
  (e_lt (e_rk t 10242) 9223372036854776809 (eF (e_rk t 10242) fun f1 => e_bd (E_X_put 9223372036854775820 f1 v4 t) fun a1 t2 =>
  eF (eAdd (e_rk t2 10242) 9223372036854775810) fun f2 => e_w 9223372036854775819 9223372036854775811 f2 t2 fun t3 =>
  E_Tp_append_B85 k3 v1 v3 t3)
  (E_Tp_append_B85 k3 v1 v3 t))
noncomputable def E_Tp_append_B38 (k3 : Nat → Nat → e_T → e_O) (v1 : Nat) (v3 : Nat) (v4 : Nat) (t : e_T) : e_O :=
  E_Tp_append_B43 k3 v1 v3 v4 9223372036854775810 t
noncomputable def E_Tp_append_B42 (k3 : Nat → Nat → e_T → e_O) (v1 : Nat) (v3 : Nat) (v4 : Nat) (t : e_T) : e_O :=
  E_Tp_append_B43 k3 v1 v3 v4 9223372036854775809 t
noncomputable def E_Tp_append_L3_b (k3 : Nat → Nat → e_T → e_O) (v1 : Nat) (v3 : Nat) (t : e_T) : e_O :=
  e_lt v3 9223372036854775809 (some (9223372036854775809, t))
  (e_eq (eAnd (eW32 (eShr6 v1 v3)) 9223372036854776064) 9223372036854775819 (eF (eAnd (eW32 (eShr6 v1 v3)) 9223372036854776064) fun f1 => E_Tp_append_B38 k3 v1 v3 f1 t)
  (e_lt (eAnd (eW32 (eShr6 v1 v3)) 9223372036854776064) 9223372036854775841 (eF (eAnd (eW32 (eShr6 v1 v3)) 9223372036854776064) fun f2 => E_Tp_append_B42 k3 v1 v3 f2 t)
  (e_le (eAnd (eW32 (eShr6 v1 v3)) 9223372036854776064) 9223372036854775935 (eF (eAnd (eW32 (eShr6 v1 v3)) 9223372036854776064) fun f3 => E_Tp_append_B38 k3 v1 v3 f3 t)
  (eF (eAnd (eW32 (eShr6 v1 v3)) 9223372036854776064) fun f4 => E_Tp_append_B42 k3 v1 v3 f4 t))))
noncomputable def E_Tp_append_L3 (n : Nat) : Nat → Nat → e_T → e_O := Nat.rec (motive := fun _ => Nat → Nat → e_T → e_O) (fun _ _ _ => none) (fun _ ih => E_Tp_append_L3_b ih) n
noncomputable def E_Tp_append (v1 : Nat) (t : e_T) : e_O :=
  E_Tp_append_L3 4096 v1 9223372036854775865 t
noncomputable def E_Wy_forget  (t : e_T) : e_O :=
  e_w 9223372036854775859 9223372036854775819 9223372036854775808 t fun t1 =>
  some (9223372036854775809, t1)
noncomputable def E_Wy_howMany_B123 (k22 : Nat → Nat → Nat → Nat → Nat → e_T → e_O) (v1 : Nat) (v3 : Nat) (v4 : Nat) (v5 : Nat) (v6 : Nat) (t : e_T) : e_O :=
  eF (eAdd v6 9223372036854775810) fun f1 => k22 v1 v3 v4 v5 f1 t
noncomputable def E_Wy_howMany_L22_b (k22 : Nat → Nat → Nat → Nat → Nat → e_T → e_O) (v1 : Nat) (v3 : Nat) (v4 : Nat) (v5 : Nat) (v6 : Nat) (t : e_T) : e_O :=
  e_lt v6 v5 (e_gd 0 v1 <|
  e_gd 2 (eOf v1 1) <|
  eF (eOf (eOf v1 1) 1) fun f1 => e_bd (E_X_at f1 v6 t) fun a3 t4 =>
  e_eq a3 9223372036854775814 (e_bd (E_X_put 9223372036854775860 v4 v3 t4) fun a11 t12 =>
  eF (eAdd v4 9223372036854775810) fun f2 => E_Wy_howMany_B123 k22 v1 9223372036854775810 f2 v5 v6 t12)
  (e_eq a3 9223372036854775815 (eF (eSub v4 9223372036854775810) fun f3 => e_bd (E_X_put 9223372036854775862 f3 v3 t4) fun a9 t10 =>
  E_Wy_howMany_B123 k22 v1 9223372036854775810 v4 v5 v6 t10)
  (e_eq a3 9223372036854775816 (eF (eAdd v4 9223372036854775808) fun f4 => e_bd (E_X_at 9223372036854775860 f4 t4) fun a5 t6 =>
  eF (eAdd v4 9223372036854775808) fun f5 => e_bd (E_X_at 9223372036854775862 f5 t6) fun a7 t8 =>
  eF (eMul a5 (eAdd a7 v3)) fun f6 => eF (eAdd v4 9223372036854775808) fun f7 => E_Wy_howMany_B123 k22 v1 f6 f7 v5 v6 t8)
  (E_Wy_howMany_B123 k22 v1 v3 v4 v5 v6 t4))))
  (some (v3, t))
noncomputable def E_Wy_howMany_L22 (n : Nat) : Nat → Nat → Nat → Nat → Nat → e_T → e_O := Nat.rec (motive := fun _ => Nat → Nat → Nat → Nat → Nat → e_T → e_O) (fun _ _ _ _ _ _ => none) (fun _ ih => E_Wy_howMany_L22_b ih) n
noncomputable def E_Wy_howMany (v1 : Nat) (v2 : Nat) (t : e_T) : e_O :=
  e_gd 0 v1 <|
  e_bd (E_Bi_lineBehind v1 v2 t) fun a2 t3 =>
  eF (eOf v1 15) fun f1 => e_bd (E_X_at f1 v2 t3) fun a4 t5 =>
  E_Wy_howMany_L22 4096 v1 9223372036854775810 9223372036854775809 a2 a4 t5
noncomputable def E_Wy_keep (v1 : Nat) (v2 : Nat) (v3 : Nat) (t : e_T) : e_O :=
  eF (e_rk t 51211) fun f1 => e_bd (E_X_put v1 v3 f1 t) fun a1 t2 =>
  eF (e_rk t2 51212) fun f2 => e_bd (E_X_put v2 v3 f2 t2) fun a3 t4 =>
  e_w 9223372036854775859 9223372036854775820 9223372036854775809 t4 fun t5 =>
  e_w 9223372036854775859 9223372036854775821 9223372036854775809 t5 fun t6 =>
  some (9223372036854775809, t6)
noncomputable def E_Wy_measure_B225 (k30 : Nat → Nat → Nat → Nat → Nat → e_T → e_O) (v1 : Nat) (v3 : Nat) (v4 : Nat) (v5 : Nat) (v6 : Nat) (t : e_T) : e_O :=
  eF (eAdd v6 9223372036854775810) fun f1 => k30 v1 v3 v4 v5 f1 t
noncomputable def E_Wy_measure_B79 (k30 : Nat → Nat → Nat → Nat → Nat → e_T → e_O) (v1 : Nat) (v3 : Nat) (v4 : Nat) (v5 : Nat) (v6 : Nat) (v7 : Nat) (s0 : Nat) (t : e_T) : e_O :=
  eF (eAdd (e_rk t 51211) s0) fun f1 => e_w 9223372036854775859 9223372036854775820 f1 t fun t1 =>
  eF (eAdd (e_rk t1 51212) s0) fun f2 => e_w 9223372036854775859 9223372036854775821 f2 t1 fun t2 =>
  e_eq v7 9223372036854775814 (e_bd (E_Wy_keep 9223372036854775860 9223372036854775861 v4 t2) fun a17 t18 =>
  eF (eAdd v4 9223372036854775810) fun f3 => E_Wy_measure_B225 k30 v1 v3 f3 v5 v6 t18)
  (e_eq v7 9223372036854775815 (eF (eSub v4 9223372036854775810) fun f4 => e_bd (E_Wy_keep 9223372036854775862 9223372036854775863 f4 t2) fun a15 t16 =>
  E_Wy_measure_B225 k30 v1 v3 v4 v5 v6 t16)
  (e_eq v7 9223372036854775816 (eF (eAdd v4 9223372036854775808) fun f5 => e_bd (E_X_at 9223372036854775860 f5 t2) fun a3 t4 =>
  eF (eAdd v4 9223372036854775808) fun f6 => e_bd (E_X_at 9223372036854775862 f6 t4) fun a5 t6 =>
  eF (eMin (e_rk t4 51211) a5) fun a7 =>
  eF (eAdd a3 a7) fun f7 => e_w 9223372036854775859 9223372036854775820 f7 t6 fun t8 =>
  eF (eAdd v4 9223372036854775808) fun f8 => e_bd (E_X_at 9223372036854775861 f8 t8) fun a9 t10 =>
  eF (eAdd v4 9223372036854775808) fun f9 => e_bd (E_X_at 9223372036854775863 f9 t10) fun a11 t12 =>
  eF (eMax (e_rk t10 51212) a11) fun a13 =>
  eF (eAdd a9 a13) fun f10 => e_w 9223372036854775859 9223372036854775821 f10 t12 fun t14 =>
  eF (eAdd v4 9223372036854775808) fun f11 => E_Wy_measure_B225 k30 v1 v3 f11 v5 v6 t14)
  (E_Wy_measure_B225 k30 v1 v3 v4 v5 v6 t2)))
noncomputable def E_Wy_measure_L30_b (k30 : Nat → Nat → Nat → Nat → Nat → e_T → e_O) (v1 : Nat) (v3 : Nat) (v4 : Nat) (v5 : Nat) (v6 : Nat) (t : e_T) : e_O :=
  e_lt v6 v5 (e_gd 0 v1 <|
  e_gd 2 (eOf v1 1) <|
  eF (eOf (eOf v1 1) 1) fun f1 => e_bd (E_X_at f1 v6 t) fun a3 t4 =>
  e_eq v3 9223372036854775808 (e_eq a3 9223372036854775809 (E_Wy_measure_B79 k30 v1 v3 v4 v5 v6 a3 9223372036854775809 t4)
  (E_Wy_measure_B79 k30 v1 v3 v4 v5 v6 a3 9223372036854775810 t4))
  (eF (eOf v1 1) fun f2 => e_bd (E_Ln_timesRead_ f2 v6 v3 t4) fun a5 t6 =>
  E_Wy_measure_B79 k30 v1 v3 v4 v5 v6 a3 a5 t6))
  (some (9223372036854775809, t))
noncomputable def E_Wy_measure_L30 (n : Nat) : Nat → Nat → Nat → Nat → Nat → e_T → e_O := Nat.rec (motive := fun _ => Nat → Nat → Nat → Nat → Nat → e_T → e_O) (fun _ _ _ _ _ _ => none) (fun _ ih => E_Wy_measure_L30_b ih) n
noncomputable def E_Wy_measure (v1 : Nat) (v2 : Nat) (v3 : Nat) (t : e_T) : e_O :=
  e_w 9223372036854775859 9223372036854775820 9223372036854775809 t fun t1 =>
  e_w 9223372036854775859 9223372036854775821 9223372036854775809 t1 fun t2 =>
  e_gd 0 v1 <|
  e_bd (E_Bi_lineBehind v1 v2 t2) fun a4 t5 =>
  eF (eOf v1 15) fun f1 => e_bd (E_X_at f1 v2 t5) fun a6 t7 =>
  E_Wy_measure_L30 4096 v1 v3 9223372036854775809 a4 a6 t7
noncomputable def E_Wy_clearLacks_L2_b (k2 : Nat → e_T → e_O) (v1 : Nat) (t : e_T) : e_O :=
  e_lt v1 9223372036854775819 (e_bd (E_X_put 9223372036854775864 v1 9223372036854775809 t) fun a1 t2 =>
  eF (eAdd v1 9223372036854775810) fun f1 => k2 f1 t2)
  (some (9223372036854775809, t))
noncomputable def E_Wy_clearLacks_L2 (n : Nat) : Nat → e_T → e_O := Nat.rec (motive := fun _ => Nat → e_T → e_O) (fun _ _ => none) (fun _ ih => E_Wy_clearLacks_L2_b ih) n
noncomputable def E_Wy_clearLacks  (t : e_T) : e_O :=
  E_Wy_clearLacks_L2 4096 9223372036854775809 t
noncomputable def E_Wy_addLack (v1 : Nat) (v2 : Nat) (t : e_T) : e_O :=
  e_bd (E_X_at 9223372036854775864 v1 t) fun a1 t2 =>
  eF (eAdd a1 v2) fun f1 => e_bd (E_X_put 9223372036854775864 v1 f1 t2) fun a3 t4 =>
  some (9223372036854775809, t4)
noncomputable def E_Wy_weigh_B48 (k20 : Nat → Nat → Nat → Nat → Nat → e_T → e_O) (v1 : Nat) (v2 : Nat) (v3 : Nat) (v4 : Nat) (v5 : Nat) (t : e_T) : e_O :=
  eF (eAdd v5 9223372036854775810) fun f1 => k20 v1 v2 v3 v4 f1 t
noncomputable def E_Wy_weigh_L20_b (k20 : Nat → Nat → Nat → Nat → Nat → e_T → e_O) (v1 : Nat) (v2 : Nat) (v3 : Nat) (v4 : Nat) (v5 : Nat) (t : e_T) : e_O :=
  e_lt v5 v4 (e_gd 2 v1 <|
  e_bd (E_Ln_codeKind v1 v5 t) fun a11 t12 =>
  e_eq a11 9223372036854775811 (e_bd (E_Ln_codeNumber v1 v5 t12) fun a13 t14 =>
  e_bd (E_Wy_addLack a13 v3 t14) fun a15 t16 =>
  E_Wy_weigh_B48 k20 v1 v2 v3 v4 v5 t16)
  (E_Wy_weigh_B48 k20 v1 v2 v3 v4 v5 t12))
  (e_gd 2 v1 <|
  eF (eOf v1 2) fun f1 => e_bd (E_X_at f1 v2 t) fun a2 t3 =>
  eF (eSub 9223372036854775809 v3) fun f2 => e_bd (E_Wy_addLack a2 f2 t3) fun a4 t5 =>
  eF (eOf v1 3) fun f3 => e_bd (E_X_at f3 v2 t5) fun a6 t7 =>
  eF (eSub 9223372036854775809 v3) fun f4 => e_bd (E_Wy_addLack a6 f4 t7) fun a8 t9 =>
  some (9223372036854775809, t9))
noncomputable def E_Wy_weigh_L20 (n : Nat) : Nat → Nat → Nat → Nat → Nat → e_T → e_O := Nat.rec (motive := fun _ => Nat → Nat → Nat → Nat → Nat → e_T → e_O) (fun _ _ _ _ _ _ => none) (fun _ ih => E_Wy_weigh_L20_b ih) n
noncomputable def E_Wy_weigh (v1 : Nat) (v2 : Nat) (v3 : Nat) (t : e_T) : e_O :=
  e_gd 2 v1 <|
  eF (eOf v1 9) fun f1 => e_bd (E_X_at f1 v2 t) fun a2 t3 =>
  eF (eOf v1 8) fun f2 => e_bd (E_X_at f2 v2 t3) fun a4 t5 =>
  E_Wy_weigh_L20 4096 v1 v2 v3 a2 a4 t5
noncomputable def E_Wy_isAlike_B131 (k34 : Nat → Nat → Nat → Nat → Nat → Nat → e_T → e_O) (v1 : Nat) (v3 : Nat) (v4 : Nat) (v5 : Nat) (v7 : Nat) (s0 : Nat) (t : e_T) : e_O :=
  eF (eAdd v7 9223372036854775810) fun f1 => k34 v1 v3 v4 v5 s0 f1 t
noncomputable def E_Wy_isAlike_B127 (k34 : Nat → Nat → Nat → Nat → Nat → Nat → e_T → e_O) (v1 : Nat) (v3 : Nat) (v4 : Nat) (v5 : Nat) (v6 : Nat) (v7 : Nat) (t : e_T) : e_O :=
  eF (eAdd v6 9223372036854775810) fun f1 => E_Wy_isAlike_B131 k34 v1 v3 v4 v5 v7 f1 t
noncomputable def E_Wy_isAlike_B100 (k34 : Nat → Nat → Nat → Nat → Nat → Nat → e_T → e_O) (v1 : Nat) (v3 : Nat) (v4 : Nat) (v6 : Nat) (v7 : Nat) (v8 : Nat) (s0 : Nat) (t : e_T) : e_O :=
  e_eq v8 9223372036854775815 (e_eq v6 v3 (E_Wy_isAlike_B127 k34 v1 v3 v4 s0 v6 v7 t)
  (e_gd 2 v1 <|
  eF (eOf v1 6) fun f1 => e_bd (E_X_at f1 v6 t) fun a2 t3 =>
  E_Wy_isAlike_B131 k34 v1 v3 v4 s0 v7 a2 t3))
  (E_Wy_isAlike_B127 k34 v1 v3 v4 s0 v6 v7 t)
noncomputable def E_Wy_isAlike_B79 (k34 : Nat → Nat → Nat → Nat → Nat → Nat → e_T → e_O) (v1 : Nat) (v3 : Nat) (v4 : Nat) (v5 : Nat) (v6 : Nat) (v7 : Nat) (v8 : Nat) (t : e_T) : e_O :=
  e_bd (E_Wy_weigh v1 v6 v5 t) fun a1 t2 =>
  e_eq v6 v3 (E_Wy_isAlike_B100 k34 v1 v3 v4 v6 v7 v8 9223372036854775808 t2)
  (E_Wy_isAlike_B100 k34 v1 v3 v4 v6 v7 v8 v5 t2)
noncomputable def E_Wy_isAlike_L145_b (k145 : Nat → Nat → e_T → e_O) (v7 : Nat) (v8 : Nat) (t : e_T) : e_O :=
  e_lt v8 9223372036854775819 (e_bd (E_X_at 9223372036854775864 v8 t) fun a1 t2 =>
  eF (eOr v7 a1) fun f1 => eF (eAdd v8 9223372036854775810) fun f2 => k145 f1 f2 t2)
  (e_eq v7 9223372036854775809 (some (9223372036854775810, t))
  (some (9223372036854775809, t)))
noncomputable def E_Wy_isAlike_L145 (n : Nat) : Nat → Nat → e_T → e_O := Nat.rec (motive := fun _ => Nat → Nat → e_T → e_O) (fun _ _ _ => none) (fun _ ih => E_Wy_isAlike_L145_b ih) n
noncomputable def E_Wy_isAlike_B139  (t : e_T) : e_O :=
  E_Wy_isAlike_L145 4096 9223372036854775809 9223372036854775809 t
noncomputable def E_Wy_isAlike_L34_b (k34 : Nat → Nat → Nat → Nat → Nat → Nat → e_T → e_O) (v1 : Nat) (v3 : Nat) (v4 : Nat) (v5 : Nat) (v6 : Nat) (v7 : Nat) (t : e_T) : e_O :=
  e_lt v7 9223372036854775869 (e_lt v6 v4 (e_gd 2 v1 <|
  eF (eOf v1 1) fun f1 => e_bd (E_X_at f1 v6 t) fun a2 t3 =>
  e_eq a2 9223372036854775814 (e_bd (E_X_at 9223372036854775866 v6 t3) fun a4 t5 =>
  e_eq a4 9223372036854775809 (some (9223372036854775809, t5))
  (E_Wy_isAlike_B79 k34 v1 v3 v4 v5 v6 v7 a2 t5))
  (E_Wy_isAlike_B79 k34 v1 v3 v4 v5 v6 v7 a2 t3))
  (E_Wy_isAlike_B139 t))
  (E_Wy_isAlike_B139 t)
noncomputable def E_Wy_isAlike_L34 (n : Nat) : Nat → Nat → Nat → Nat → Nat → Nat → e_T → e_O := Nat.rec (motive := fun _ => Nat → Nat → Nat → Nat → Nat → Nat → e_T → e_O) (fun _ _ _ _ _ _ _ => none) (fun _ ih => E_Wy_isAlike_L34_b ih) n
noncomputable def E_Wy_isAlike (v1 : Nat) (v2 : Nat) (t : e_T) : e_O :=
  e_bd (E_Wy_clearLacks t) fun a1 t2 =>
  e_gd 2 v1 <|
  eF (eOf v1 6) fun f1 => e_bd (E_X_at f1 v2 t2) fun a4 t5 =>
  eF (eOf v1 6) fun f2 => e_bd (E_X_at f2 a4 t5) fun a6 t7 =>
  eF (eAdd v2 9223372036854775810) fun f3 => E_Wy_isAlike_L34 4096 v1 a4 a6 9223372036854775810 f3 9223372036854775809 t7
noncomputable def E_Wy_prepare_B101 (k29 : Nat → Nat → Nat → e_T → e_O) (v3 : Nat) (v4 : Nat) (v5 : Nat) (t : e_T) : e_O :=
  eF (eAdd v5 9223372036854775808) fun f1 => k29 v3 v4 f1 t
noncomputable def E_Wy_prepare_B98 (k29 : Nat → Nat → Nat → e_T → e_O) (v3 : Nat) (v4 : Nat) (v5 : Nat) (s1 : Nat) (s2 : Nat) (t : e_T) : e_O :=
  e_bd (E_X_put 9223372036854775866 s1 s2 t) fun a1 t2 =>
  E_Wy_prepare_B101 k29 v3 v4 v5 t2
noncomputable def E_Wy_prepare_B64 (k29 : Nat → Nat → Nat → e_T → e_O) (v3 : Nat) (v4 : Nat) (v5 : Nat) (t : e_T) : e_O :=
  e_gd 2 v3 <|
  eF (eOf v3 1) fun f1 => e_bd (E_X_at f1 v5 t) fun a2 t3 =>
  e_eq a2 9223372036854775814 (e_bd (E_Wy_isAlike v3 v5 t3) fun a4 t5 =>
  e_eq a4 9223372036854775809 (E_Wy_prepare_B98 k29 v3 v4 v5 v5 9223372036854775809 t5)
  (E_Wy_prepare_B98 k29 v3 v4 v5 v5 9223372036854775810 t5))
  (E_Wy_prepare_B101 k29 v3 v4 v5 t3)
noncomputable def E_Wy_prepare_L29_b (k29 : Nat → Nat → Nat → e_T → e_O) (v3 : Nat) (v4 : Nat) (v5 : Nat) (t : e_T) : e_O :=
  e_lt v5 v4 (e_bd (E_X_put 9223372036854775867 9223372036854775809 9223372039002259456 t) fun a1 t2 =>
  e_bd (E_X_put 9223372036854775867 9223372036854775810 9223372036854775809 t2) fun a3 t4 =>
  e_bd (E_X_put 9223372036854775867 9223372036854775811 9223372039002259456 t4) fun a5 t6 =>
  e_bd (E_X_put 9223372036854775867 9223372036854775812 9223372036854775809 t6) fun a7 t8 =>
  e_bd (E_Wy_clearLacks t8) fun a9 t10 =>
  e_w 9223372036854775859 9223372036854775817 9223372036854775809 t10 fun t11 =>
  some (9223372036854775809, t11))
  (e_gd 2 v3 <|
  eF (eOf v3 4) fun f1 => e_bd (E_X_at f1 v5 t) fun a13 t14 =>
  e_eq a13 9223372036854775810 (e_bd (E_Ln_laidSet v3 v5 t14) fun a15 t16 =>
  eF (eOr (e_rk t14 51209) a15) fun f2 => e_w 9223372036854775859 9223372036854775818 f2 t16 fun t17 =>
  E_Wy_prepare_B64 k29 v3 v4 v5 t17)
  (E_Wy_prepare_B64 k29 v3 v4 v5 t14))
noncomputable def E_Wy_prepare_L29 (n : Nat) : Nat → Nat → Nat → e_T → e_O := Nat.rec (motive := fun _ => Nat → Nat → Nat → e_T → e_O) (fun _ _ _ _ => none) (fun _ ih => E_Wy_prepare_L29_b ih) n
noncomputable def E_Wy_prepare (v1 : Nat) (v2 : Nat) (t : e_T) : e_O :=
  e_gd 0 v1 <|
  e_w 9223372036854775859 9223372036854775818 9223372036854775809 t fun t2 =>
  eF (eOf v1 15) fun f1 => e_bd (E_X_at f1 v2 t2) fun a3 t4 =>
  e_bd (E_Bi_lineBehind v1 v2 t4) fun a5 t6 =>
  eF (eOf v1 1) fun f2 => eF (eSub a5 9223372036854775810) fun f3 => E_Wy_prepare_L29 4096 f2 a3 f3 t6
noncomputable def E_Wy_record_B57 (k6 : Nat → Nat → Nat → e_T → e_O) (v1 : Nat) (v3 : Nat) (s0 : Nat) (s1 : Nat) (t : e_T) : e_O :=
  eF (eAdd s0 s1) fun f1 => eF (eAdd v3 9223372036854775810) fun f2 => k6 v1 f1 f2 t
noncomputable def E_Wy_record_L6_b (k6 : Nat → Nat → Nat → e_T → e_O) (v1 : Nat) (v2 : Nat) (v3 : Nat) (t : e_T) : e_O :=
  e_lt v3 9223372036854775819 (e_bd (E_X_at 9223372036854775864 v3 t) fun a21 t22 =>
  eF (eMax 9223372036854775809 a21) fun a23 =>
  e_eq (eAnd (eShr (e_rk t22 51209) v3) 9223372036854775810) 9223372036854775809 (eF (eAdd v1 a23) fun f1 => E_Wy_record_B57 k6 f1 v3 v2 9223372036854775809 t22)
  (eF (eMax 9223372036854775809 (eSub 9223372036854775809 a21)) fun a24 =>
  eF (eAdd v1 a23) fun f2 => E_Wy_record_B57 k6 f2 v3 v2 a24 t22))
  (e_bd (E_X_at 9223372036854775867 9223372036854775809 t) fun a1 t2 =>
  eF (eMin a1 v1) fun a3 =>
  e_bd (E_X_put 9223372036854775867 9223372036854775809 a3 t2) fun a4 t5 =>
  e_bd (E_X_at 9223372036854775867 9223372036854775810 t5) fun a6 t7 =>
  eF (eMax a6 v1) fun a8 =>
  e_bd (E_X_put 9223372036854775867 9223372036854775810 a8 t7) fun a9 t10 =>
  e_bd (E_X_at 9223372036854775867 9223372036854775811 t10) fun a11 t12 =>
  eF (eMin a11 v2) fun a13 =>
  e_bd (E_X_put 9223372036854775867 9223372036854775811 a13 t12) fun a14 t15 =>
  e_bd (E_X_at 9223372036854775867 9223372036854775812 t15) fun a16 t17 =>
  eF (eMax a16 v2) fun a18 =>
  e_bd (E_X_put 9223372036854775867 9223372036854775812 a18 t17) fun a19 t20 =>
  some (9223372036854775809, t20))
noncomputable def E_Wy_record_L6 (n : Nat) : Nat → Nat → Nat → e_T → e_O := Nat.rec (motive := fun _ => Nat → Nat → Nat → e_T → e_O) (fun _ _ _ _ => none) (fun _ ih => E_Wy_record_L6_b ih) n
noncomputable def E_Wy_record  (t : e_T) : e_O :=
  E_Wy_record_L6 4096 9223372036854775809 9223372036854775809 9223372036854775809 t
noncomputable def E_Wy_turnBack_B103 (k0 : Nat → e_T → e_O) (v1 : Nat) (v2 : Nat) (t : e_T) : e_O :=
  e_bd (E_Wy_weigh v1 v2 9223372036854775808 t) fun a1 t2 =>
  k0 v1 t2
noncomputable def E_Wy_turnBack_B82 (k0 : Nat → e_T → e_O) (v1 : Nat) (v2 : Nat) (t : e_T) : e_O :=
  e_bd (E_X_at 9223372036854775866 v2 t) fun a1 t2 =>
  e_eq a1 9223372036854775811 (e_bd (E_X_put 9223372036854775866 v2 9223372036854775809 t2) fun a3 t4 =>
  E_Wy_turnBack_B103 k0 v1 v2 t4)
  (E_Wy_turnBack_B103 k0 v1 v2 t2)
noncomputable def E_Wy_turnBack_L0_b (k0 : Nat → e_T → e_O) (v1 : Nat) (t : e_T) : e_O :=
  e_le (e_rk t 51208) 9223372036854775809 (some (9223372036854775808, t))
  (eF (eSub (e_rk t 51208) 9223372036854775810) fun f1 => e_w 9223372036854775859 9223372036854775817 f1 t fun t1 =>
  eF (e_rk t1 51208) fun f2 => e_bd (E_X_at 9223372036854775865 f2 t1) fun a2 t3 =>
  e_gd 2 v1 <|
  eF (eOf v1 1) fun f3 => e_bd (E_X_at f3 a2 t3) fun a5 t6 =>
  e_eq a5 9223372036854775814 (e_bd (E_X_at 9223372036854775866 a2 t6) fun a7 t8 =>
  e_eq a7 9223372036854775809 (e_bd (E_X_put 9223372036854775866 a2 9223372036854775811 t8) fun a9 t10 =>
  eF (eAdd (e_rk t10 51208) 9223372036854775810) fun f4 => e_w 9223372036854775859 9223372036854775817 f4 t10 fun t11 =>
  eF (eOf v1 6) fun f5 => e_bd (E_X_at f5 a2 t11) fun a12 t13 =>
  some ((eAdd a12 9223372036854775810), t13))
  (E_Wy_turnBack_B82 k0 v1 a2 t8))
  (E_Wy_turnBack_B82 k0 v1 a2 t6))
noncomputable def E_Wy_turnBack_L0 (n : Nat) : Nat → e_T → e_O := Nat.rec (motive := fun _ => Nat → e_T → e_O) (fun _ _ => none) (fun _ ih => E_Wy_turnBack_L0_b ih) n
noncomputable def E_Wy_turnBack (v1 : Nat) (t : e_T) : e_O :=
  E_Wy_turnBack_L0 4096 v1 t
noncomputable def E_Wy_walkAll_B121 (k18 : Nat → Nat → Nat → e_T → e_O) (v3 : Nat) (v4 : Nat) (v5 : Nat) (t : e_T) : e_O :=
  eF (eAdd v5 9223372036854775810) fun f1 => k18 v3 v4 f1 t
noncomputable def E_Wy_walkAll_B119 (k18 : Nat → Nat → Nat → e_T → e_O) (v3 : Nat) (v5 : Nat) (s0 : Nat) (t : e_T) : e_O :=
  E_Wy_walkAll_B121 k18 v3 s0 v5 t
noncomputable def E_Wy_walkAll_L18_b (k18 : Nat → Nat → Nat → e_T → e_O) (v3 : Nat) (v4 : Nat) (v5 : Nat) (t : e_T) : e_O :=
  e_lt v5 9223372036954775809 (e_eq v4 9223372036854775808 (some (9223372036854775809, t))
  (e_bd (E_Wy_weigh v3 v4 9223372036854775810 t) fun a1 t2 =>
  eF (e_rk t2 51208) fun f1 => e_bd (E_X_put 9223372036854775865 f1 v4 t2) fun a3 t4 =>
  eF (eAdd (e_rk t4 51208) 9223372036854775810) fun f2 => e_w 9223372036854775859 9223372036854775817 f2 t4 fun t5 =>
  e_gd 2 v3 <|
  eF (eOf v3 1) fun f3 => e_bd (E_X_at f3 v4 t5) fun a7 t8 =>
  e_eq a7 9223372036854775817 (e_bd (E_Wy_record t8) fun a11 t12 =>
  e_bd (E_Wy_turnBack v3 t12) fun a13 t14 =>
  E_Wy_walkAll_B121 k18 v3 a13 v5 t14)
  (e_eq a7 9223372036854775815 (eF (eOf v3 6) fun f4 => e_bd (E_X_at f4 v4 t8) fun a9 t10 =>
  eF (eAdd a9 9223372036854775810) fun f5 => E_Wy_walkAll_B119 k18 v3 v5 f5 t10)
  (eF (eAdd v4 9223372036854775810) fun f6 => E_Wy_walkAll_B119 k18 v3 v5 f6 t8))))
  (some (9223372036854775809, t))
noncomputable def E_Wy_walkAll_L18 (n : Nat) : Nat → Nat → Nat → e_T → e_O := Nat.rec (motive := fun _ => Nat → Nat → Nat → e_T → e_O) (fun _ _ _ _ => none) (fun _ ih => E_Wy_walkAll_L18_b ih) n
noncomputable def E_Wy_walkAll (v1 : Nat) (v2 : Nat) (t : e_T) : e_O :=
  e_gd 0 v1 <|
  eF (eOf v1 15) fun f1 => e_bd (E_X_at f1 v2 t) fun a2 t3 =>
  eF (eOf v1 1) fun f2 => E_Wy_walkAll_L18 4096 f2 a2 9223372036854775809 t3
noncomputable def E_Wy_need_B25 (v3 : Nat) (t : e_T) : e_O :=
  e_bd (E_X_at 9223372036854775867 v3 t) fun a1 t2 =>
  some (a1, t2)
noncomputable def E_Wy_need (v1 : Nat) (v2 : Nat) (v3 : Nat) (t : e_T) : e_O :=
  e_eq (e_rk t 51210) v2 (E_Wy_need_B25 v3 t)
  (e_bd (E_Wy_prepare v1 v2 t) fun a1 t2 =>
  e_bd (E_Wy_walkAll v1 v2 t2) fun a3 t4 =>
  e_w 9223372036854775859 9223372036854775819 v2 t4 fun t5 =>
  E_Wy_need_B25 v3 t5)
noncomputable def E_X_feed (v1 : Nat) (v3 : Nat) (v5 : Nat) (t : e_T) : e_O :=
  e_bd (E_Tp_append v1 t) fun a1 t2 =>
  e_bd (E_Tp_append v3 t2) fun a3 t4 =>
  e_bd (E_Tp_append v5 t4) fun a5 t6 =>
  some ((e_rk t6 10242), t6)
noncomputable def E_X_bills  (t : e_T) : e_O :=
  eF (e_rk t 9) fun f1 => e_bd (E_Rd_readInto f1 t) fun a1 t2 =>
  e_bd (E_Tp_clear t2) fun a3 t4 =>
  e_eq a1 9223372036854775809 (eF (e_rk t4 9) fun f2 => e_bd (E_Ck_checkAll f2 t4) fun a5 t6 =>
  eF (e_rk t6 9) fun f3 => e_w 9223372036854775809 9223372036854775817 f3 t6 fun t7 =>
  eF (e_rk t6 8) fun f4 => e_w 9223372036854775809 9223372036854775818 f4 t7 fun t8 =>
  e_bd (E_Mc_stand 9223372036854776109 t8) fun a9 t10 =>
  e_w 9223372036854775809 9223372036854775819 9223372036854775809 t10 fun t11 =>
  e_bd (E_Wy_forget t11) fun a12 t13 =>
  e_bd (E_Or_forget t13) fun a14 t15 =>
  some (a1, t15))
  (some (a1, t4))
noncomputable def E_X_bill (v1 : Nat) (v2 : Nat) (t : e_T) : e_O :=
  e_gd 0 (e_rk t 8) <|
  eF (e_rk t 8) fun f1 => e_bd (E_Bi_has f1 v1 t) fun a2 t3 =>
  e_eq a2 9223372036854775809 (some (9223372036854775808, t3))
  (e_eq v2 9223372036854775809 (e_gd 0 (e_rk t3 8) <|
  eF (eOf (e_rk t3 8) 15) fun f2 => e_bd (E_X_at f2 v1 t3) fun a5 t6 =>
  some (a5, t6))
  (e_eq v2 9223372036854775810 (e_gd 0 (e_rk t3 8) <|
  eF (eOf (e_rk t3 8) 16) fun f3 => e_bd (E_X_at f3 v1 t3) fun a8 t9 =>
  some (a8, t9))
  (e_eq v2 9223372036854775811 (e_gd 0 (e_rk t3 8) <|
  eF (eOf (e_rk t3 8) 17) fun f4 => e_bd (E_X_at f4 v1 t3) fun a11 t12 =>
  some (a11, t12))
  (e_eq v2 9223372036854775812 (e_gd 0 (e_rk t3 8) <|
  eF (eOf (e_rk t3 8) 18) fun f5 => e_bd (E_X_at f5 v1 t3) fun a14 t15 =>
  some (a14, t15))
  (e_eq v2 9223372036854775813 (e_gd 0 (e_rk t3 8) <|
  eF (eOf (e_rk t3 8) 19) fun f6 => e_bd (E_X_at f6 v1 t3) fun a17 t18 =>
  e_eq a17 9223372036854775809 (some (9223372036854775810, t18))
  (some (9223372036854775809, t18)))
  (e_eq v2 9223372036854775814 (e_gd 0 (e_rk t3 8) <|
  eF (eOf (e_rk t3 8) 22) fun f7 => e_bd (E_X_at f7 v1 t3) fun a20 t21 =>
  some (a20, t21))
  (some (9223372036854775808, t3))))))))
noncomputable def E_X_line (v1 : Nat) (v2 : Nat) (t : e_T) : e_O :=
  e_gd 0 (e_rk t 8) <|
  e_lt v1 9223372036854775809 (some (9223372036854775808, t))
  (e_gd 2 (eOf (e_rk t 8) 1) <|
  e_lt v1 (e_rd t (eOf (e_rk t 8) 1) 9223372036854775819) (e_eq v2 9223372036854775809 (eF (eOf (eOf (e_rk t 8) 1) 1) fun f1 => e_bd (E_X_at f1 v1 t) fun a3 t4 =>
  some (a3, t4))
  (e_eq v2 9223372036854775810 (eF (eOf (eOf (e_rk t 8) 1) 2) fun f2 => e_bd (E_X_at f2 v1 t) fun a5 t6 =>
  some (a5, t6))
  (e_eq v2 9223372036854775811 (eF (eOf (eOf (e_rk t 8) 1) 3) fun f3 => e_bd (E_X_at f3 v1 t) fun a7 t8 =>
  some (a7, t8))
  (e_eq v2 9223372036854775812 (eF (eOf (e_rk t 8) 1) fun f4 => e_bd (E_Ln_timesRead f4 v1 t) fun a9 t10 =>
  some (a9, t10))
  (e_eq v2 9223372036854775813 (eF (eOf (eOf (e_rk t 8) 1) 5) fun f5 => e_bd (E_X_at f5 v1 t) fun a11 t12 =>
  some (a11, t12))
  (some (9223372036854775808, t)))))))
  (some (9223372036854775808, t)))
noncomputable def E_X_check (v1 : Nat) (v2 : Nat) (t : e_T) : e_O :=
  e_gd 0 (e_rk t 8) <|
  eF (e_rk t 8) fun f1 => e_bd (E_Bi_has f1 v1 t) fun a2 t3 =>
  e_eq a2 9223372036854775809 (some (9223372036854775808, t3))
  (e_eq v2 9223372036854775809 (e_gd 0 (e_rk t3 8) <|
  eF (eOf (e_rk t3 8) 19) fun f2 => e_bd (E_X_at f2 v1 t3) fun a5 t6 =>
  some (a5, t6))
  (e_eq v2 9223372036854775810 (e_gd 0 (e_rk t3 8) <|
  eF (eOf (e_rk t3 8) 20) fun f3 => e_bd (E_X_at f3 v1 t3) fun a8 t9 =>
  some (a8, t9))
  (e_eq v2 9223372036854775811 (e_gd 0 (e_rk t3 8) <|
  eF (eOf (e_rk t3 8) 21) fun f4 => e_bd (E_X_at f4 v1 t3) fun a11 t12 =>
  some (a11, t12))
  (some (9223372036854775808, t3)))))
noncomputable def E_X_room (v1 : Nat) (t : e_T) : e_O :=
  e_lt v1 9223372036854775810 (some (9223372036854775809, t))
  (e_le v1 9223372036854775908 (e_w 9223372036854776109 9223372036854775821 v1 t fun t1 =>
  some (9223372036854775810, t1))
  (some (9223372036854775809, t)))
noncomputable def E_X_price (v1 : Nat) (t : e_T) : e_O :=
  e_lt v1 9223372036854775809 (some (9223372036854775809, t))
  (e_le v1 9223372036854775908 (e_w 9223372036854776109 9223372036854775822 v1 t fun t1 =>
  some (9223372036854775810, t1))
  (some (9223372036854775809, t)))
noncomputable def E_X_begin (v1 : Nat) (v2 : Nat) (v3 : Nat) (v4 : Nat) (v5 : Nat) (t : e_T) : e_O :=
  e_gd 0 (e_rk t 8) <|
  eF (e_rk t 8) fun f1 => e_bd (E_Bi_has f1 v1 t) fun a2 t3 =>
  e_eq a2 9223372036854775809 (some (9223372036854775809, t3))
  (e_gd 0 (e_rk t3 8) <|
  eF (eOf (e_rk t3 8) 22) fun f2 => e_bd (E_X_at f2 v1 t3) fun a5 t6 =>
  e_eq a5 9223372036854775809 (some (9223372036854775809, t6))
  (e_bd (E_Mc_take 9223372036854776109 v2 v3 v4 v5 t6) fun a7 t8 =>
  eF (e_rk t8 8) fun f3 => e_bd (E_Mc_start 9223372036854776109 f3 v1 t8) fun a9 t10 =>
  some (9223372036854775810, t10)))
noncomputable def E_X_run (v1 : Nat) (t : e_T) : e_O :=
  e_lt v1 9223372036854775809 (some (9223372036854775808, t))
  (e_le v1 9223372036854776809 (eF (e_rk t 8) fun f1 => e_bd (E_Mc_go 9223372036854776109 f1 v1 t) fun a1 t2 =>
  some (a1, t2))
  (some (9223372036854775808, t)))
noncomputable def E_X_machine (v1 : Nat) (t : e_T) : e_O :=
  e_bd (E_Mc_tell 9223372036854776109 v1 t) fun a1 t2 =>
  some (a1, t2)
noncomputable def E_X_given  (t : e_T) : e_O :=
  e_eq (e_rk t 307206) 9223372036854775811 (some ((e_rk t 307207), t))
  (none)
noncomputable def E_X_free (v1 : Nat) (v2 : Nat) (v3 : Nat) (v4 : Nat) (v5 : Nat) (t : e_T) : e_O :=
  e_gd 0 (e_rk t 8) <|
  eF (e_rk t 8) fun f1 => e_bd (E_Bi_has f1 v1 t) fun a2 t3 =>
  e_eq a2 9223372036854775809 (none)
  (e_bd (E_Mc_take 9223372036854776119 v2 v3 v4 v5 t3) fun a4 t5 =>
  eF (e_rk t5 8) fun f2 => e_bd (E_Mc_start 9223372036854776119 f2 v1 t5) fun a6 t7 =>
  eF (e_rk t7 8) fun f3 => e_bd (E_Mc_go 9223372036854776119 f3 9223372036854778809 t7) fun a8 t9 =>
  e_eq (e_rk t9 317446) 9223372036854775811 (some ((e_rk t9 317447), t9))
  (none))
noncomputable def E_X_ways (v1 : Nat) (v2 : Nat) (t : e_T) : e_O :=
  e_gd 0 (e_rk t 8) <|
  eF (e_rk t 8) fun f1 => e_bd (E_Bi_has f1 v1 t) fun a2 t3 =>
  e_eq a2 9223372036854775809 (some (9223372036854775808, t3))
  (e_lt v2 9223372036854775809 (some (9223372036854775808, t3))
  (e_le v2 9223372036854775811 (e_eq v2 9223372036854775809 (eF (e_rk t3 8) fun f2 => e_bd (E_Wy_howMany f2 v1 t3) fun a6 t7 =>
  some (a6, t7))
  (eF (e_rk t3 8) fun f3 => e_bd (E_Wy_measure f3 v1 9223372036854775808 t3) fun a4 t5 =>
  e_eq v2 9223372036854775810 (some ((e_rk t5 51212), t5))
  (some ((e_rk t5 51211), t5))))
  (some (9223372036854775808, t3))))
noncomputable def E_X_reads (v1 : Nat) (v2 : Nat) (v3 : Nat) (t : e_T) : e_O :=
  e_gd 0 (e_rk t 8) <|
  eF (e_rk t 8) fun f1 => e_bd (E_Bi_has f1 v1 t) fun a2 t3 =>
  e_eq a2 9223372036854775809 (some (9223372036854775808, t3))
  (e_lt v3 9223372036854775809 (some (9223372036854775808, t3))
  (e_le v3 9223372036854775810 (e_lt v2 9223372036854775809 (some (9223372036854775808, t3))
  (e_gd 0 (e_rk t3 8) <|
  eF (eOf (e_rk t3 8) 18) fun f2 => e_bd (E_X_at f2 v1 t3) fun a5 t6 =>
  e_lt v2 a5 (eF (e_rk t6 8) fun f3 => e_bd (E_Wy_measure f3 v1 v2 t6) fun a7 t8 =>
  e_eq v3 9223372036854775810 (some ((e_rk t8 51212), t8))
  (some ((e_rk t8 51211), t8)))
  (some (9223372036854775808, t6))))
  (some (9223372036854775808, t3))))
noncomputable def E_X_needs (v1 : Nat) (v2 : Nat) (t : e_T) : e_O :=
  e_gd 0 (e_rk t 8) <|
  eF (e_rk t 8) fun f1 => e_bd (E_Bi_has f1 v1 t) fun a2 t3 =>
  e_eq a2 9223372036854775809 (some (9223372036854775808, t3))
  (e_lt v2 9223372036854775809 (some (9223372036854775808, t3))
  (e_le v2 9223372036854775812 (eF (e_rk t3 8) fun f2 => e_bd (E_Wy_need f2 v1 v2 t3) fun a4 t5 =>
  some (a4, t5))
  (some (9223372036854775808, t3))))
noncomputable def E_X_plain (v1 : Nat) (t : e_T) : e_O :=
  e_gd 0 (e_rk t 8) <|
  eF (e_rk t 8) fun f1 => e_bd (E_Bi_has f1 v1 t) fun a2 t3 =>
  e_eq a2 9223372036854775809 (some (9223372036854775808, t3))
  (e_gd 0 (e_rk t3 8) <|
  eF (e_rk t3 8) fun f2 => e_bd (E_Bi_isPlain f2 v1 t3) fun a5 t6 =>
  e_eq a5 9223372036854775809 (some (9223372036854775809, t6))
  (some (9223372036854775810, t6)))
noncomputable def E_X_fewest (v1 : Nat) (t : e_T) : e_O :=
  eF (e_rk t 8) fun f1 => e_bd (E_Or_prepare f1 v1 t) fun a1 t2 =>
  e_eq a1 9223372036854775809 (some (9223372036854775808, t2))
  (e_bd (E_Or_least t2) fun a3 t4 =>
  some (a3, t4))
noncomputable def E_X_order (v1 : Nat) (v2 : Nat) (t : e_T) : e_O :=
  eF (e_rk t 8) fun f1 => e_bd (E_Or_prepare f1 v1 t) fun a1 t2 =>
  e_eq a1 9223372036854775809 (some (9223372036854775808, t2))
  (e_bd (E_Or_sumAt v2 t2) fun a3 t4 =>
  some (a3, t4))
noncomputable def E_X_asTold (v1 : Nat) (t : e_T) : e_O :=
  eF (e_rk t 8) fun f1 => e_bd (E_Or_prepare f1 v1 t) fun a1 t2 =>
  e_eq a1 9223372036854775809 (some (9223372036854775808, t2))
  (e_bd (E_Or_greatestAsTold t2) fun a3 t4 =>
  some (a3, t4))
noncomputable def E_X_orders (v1 : Nat) (v2 : Nat) (t : e_T) : e_O :=
  e_lt v2 9223372036854775809 (some (9223372036854775808, t))
  (e_le v2 9223372036854775829 (eF (e_rk t 8) fun f1 => e_bd (E_Or_prepare f1 v1 t) fun a1 t2 =>
  e_eq a1 9223372036854775809 (some (9223372036854775808, t2))
  (e_bd (E_Or_howMany v2 t2) fun a3 t4 =>
  some (a3, t4)))
  (some (9223372036854775808, t)))
noncomputable def E_X_cheapest (v1 : Nat) (v2 : Nat) (v3 : Nat) (t : e_T) : e_O :=
  e_lt v2 9223372036854775809 (some (9223372036854775808, t))
  (e_le v2 9223372036854775908 (e_lt v3 9223372036854775809 (some (9223372036854775808, t))
  (e_le v3 9223372036854775908 (eF (e_rk t 8) fun f1 => e_bd (E_Or_prepare f1 v1 t) fun a1 t2 =>
  e_eq a1 9223372036854775809 (some (9223372036854775808, t2))
  (e_bd (E_Or_leastCoin v2 v3 t2) fun a3 t4 =>
  some (a3, t4)))
  (some (9223372036854775808, t))))
  (some (9223372036854775808, t)))
noncomputable def E_X_count (v1 : Nat) (t : e_T) : e_O :=
  e_eq v1 9223372036854775809 (e_gd 0 (e_rk t 8) <|
  some ((e_rd t (e_rk t 8) 9223372036854775821), t))
  (e_eq v1 9223372036854775810 (e_gd 0 (e_rk t 8) <|
  some ((e_rd t (e_rk t 8) 9223372036854775822), t))
  (e_eq v1 9223372036854775811 (e_gd 0 (e_rk t 8) <|
  e_gd 2 (eOf (e_rk t 8) 1) <|
  some ((e_rd t (eOf (e_rk t 8) 1) 9223372036854775819), t))
  (e_eq v1 9223372036854775812 (some ((e_rk t 307212), t))
  (e_eq v1 9223372036854775813 (some ((e_rk t 307213), t))
  (e_eq v1 9223372036854775814 (some ((e_rk t 10242), t))
  (some (9223372036854775808, t)))))))
noncomputable def E_L_feed_B99 (k7 : Nat → Nat → e_T → e_O) (v2 : Nat) (v4 : Nat) (t : e_T) : e_O :=
  eF (eAdd v4 9223372036854775810) fun f1 => k7 v2 f1 t
noncomputable def E_L_feed_L82_b (k7 : Nat → Nat → e_T → e_O) (k82 : Nat → Nat → Nat → e_T → e_O) (v2 : Nat) (v4 : Nat) (v6 : Nat) (t : e_T) : e_O :=
  e_lt v6 9223372036854775812 (e_st 9223372036854775812 9223372036854778819 v6 9223372036854775809 t fun t1 =>
  eF (eAdd v6 9223372036854775810) fun f1 => k82 v2 v4 f1 t1)
  (E_L_feed_B99 k7 v2 v4 t)
noncomputable def E_L_feed_L82 (k7 : Nat → Nat → e_T → e_O) (n : Nat) : Nat → Nat → Nat → e_T → e_O := Nat.rec (motive := fun _ => Nat → Nat → Nat → e_T → e_O) (fun _ _ _ _ => none) (fun _ ih => E_L_feed_L82_b k7 ih) n
noncomputable def E_L_feed_B65 (k7 : Nat → Nat → e_T → e_O) (v2 : Nat) (v4 : Nat) (t : e_T) : e_O :=
  e_ld 9223372036854775812 9223372036854778819 9223372036854775809 t fun a1 =>
  e_ld 9223372036854775812 9223372036854778819 9223372036854775810 t fun a2 =>
  e_ld 9223372036854775812 9223372036854778819 9223372036854775811 t fun a3 =>
  e_bd (E_X_feed a1 a2 a3 t) fun a4 t5 =>
  E_L_feed_L82 k7 4096 v2 v4 9223372036854775809 t5
noncomputable def E_L_feed_L7_b (k7 : Nat → Nat → e_T → e_O) (v2 : Nat) (v4 : Nat) (t : e_T) : e_O :=
  e_lt v4 v2 (eF (eDiv (eRem v4 9223372036854775833) 9223372036854775817) fun f1 => e_ld 9223372036854775812 9223372036854778819 f1 t fun a1 =>
  e_ld 9223372036854776759 9223372036854778809 v4 t fun a2 =>
  eF (eDiv (eRem v4 9223372036854775833) 9223372036854775817) fun f2 => eF (eOr6 a1 (eShl6 a2 (eSub 9223372036854775865 (eMul 9223372036854775817 (eRem (eRem v4 9223372036854775833) 9223372036854775817))))) fun f3 => e_st 9223372036854775812 9223372036854778819 f2 f3 t fun t3 =>
  e_lt (eRem v4 9223372036854775833) 9223372036854775832 (e_lt v4 (eSub v2 9223372036854775810) (E_L_feed_B99 k7 v2 v4 t3)
  (E_L_feed_B65 k7 v2 v4 t3))
  (E_L_feed_B65 k7 v2 v4 t3))
  (some (9223372036854775809, t))
noncomputable def E_L_feed_L7 (n : Nat) : Nat → Nat → e_T → e_O := Nat.rec (motive := fun _ => Nat → Nat → e_T → e_O) (fun _ _ _ => none) (fun _ ih => E_L_feed_L7_b ih) n
noncomputable def E_L_feed (v2 : Nat) (t : e_T) : e_O :=
  E_L_feed_L7 4096 v2 9223372036854775809 t
noncomputable def E_L_tells_B843 (s0 : Nat) (s1 : Nat) (t : e_T) : e_O :=
  e_eq s0 s1 (e_bd (E_X_machine 9223372036854775809 t) fun a1 t2 =>
  e_eq a1 9223372036854775809 (some (9223372036854775810, t2))
  (some (9223372036854775809, t2)))
  (some (9223372036854775809, t))
noncomputable def E_L_tells (v1 : Nat) (t : e_T) : e_O :=
  e_bd (E_X_bills t) fun a1 t2 =>
  e_eq a1 9223372036854775809 (e_bd (E_X_count 9223372036854775810 t2) fun a3 t4 =>
  e_lt v1 9223372036854775811 (E_L_tells_B843 a3 9223372036854775812 t4)
  (E_L_tells_B843 a3 9223372036854775810 t4))
  (some (9223372036854775809, t2))
noncomputable def E_L_sound_B255 (k4 : Nat → Nat → e_T → e_O) (k232 : Nat → Nat → Nat → Nat → Nat → Nat → Nat → e_T → e_O) (v1 : Nat) (v2 : Nat) (v3 : Nat) (v4 : Nat) (v6 : Nat) (v7 : Nat) (v8 : Nat) (t : e_T) : e_O :=
  e_bd (E_X_line v8 9223372036854775812 t) fun a1 t2 =>
  eF (eAdd v7 a1) fun f1 => eF (eAdd v8 9223372036854775810) fun f2 => k232 v1 v2 v3 v4 v6 f1 f2 t2
noncomputable def E_L_sound_B536 (k4 : Nat → Nat → e_T → e_O) (v1 : Nat) (v2 : Nat) (t : e_T) : e_O :=
  eF (eAdd v2 9223372036854775810) fun f1 => k4 v1 f1 t
noncomputable def E_L_sound_L470_b (k4 : Nat → Nat → e_T → e_O) (k470 : Nat → Nat → Nat → Nat → e_T → e_O) (v1 : Nat) (v2 : Nat) (v10 : Nat) (v12 : Nat) (t : e_T) : e_O :=
  e_lt v12 9223372036854775829 (e_bd (E_X_cheapest v2 v12 9223372036854775816 t) fun a1 t2 =>
  e_lt (eCmp a1 v10) 9223372036854775809 (some (9223372036854775809, t2))
  (eF (eAdd v12 9223372036854775810) fun f1 => k470 v1 v2 a1 f1 t2))
  (E_L_sound_B536 k4 v1 v2 t)
noncomputable def E_L_sound_L470 (k4 : Nat → Nat → e_T → e_O) (n : Nat) : Nat → Nat → Nat → Nat → e_T → e_O := Nat.rec (motive := fun _ => Nat → Nat → Nat → Nat → e_T → e_O) (fun _ _ _ _ _ => none) (fun _ ih => E_L_sound_L470_b k4 ih) n
noncomputable def E_L_sound_B444 (k4 : Nat → Nat → e_T → e_O) (v1 : Nat) (v2 : Nat) (v9 : Nat) (t : e_T) : e_O :=
  e_bd (E_X_orders v2 9223372036854775829 t) fun a1 t2 =>
  e_bd (E_X_orders v2 v9 t2) fun a3 t4 =>
  e_lt (eCmp a1 a3) 9223372036854775809 (some (9223372036854775809, t4))
  (E_L_sound_L470 k4 4096 v1 v2 9223372036854775809 9223372036854775809 t4)
noncomputable def E_L_sound_B382 (k4 : Nat → Nat → e_T → e_O) (v1 : Nat) (v2 : Nat) (t : e_T) : e_O :=
  e_bd (E_X_plain v2 t) fun a1 t2 =>
  e_eq a1 9223372036854775810 (e_bd (E_X_fewest v2 t2) fun a7 t8 =>
  e_bd (E_X_asTold v2 t8) fun a9 t10 =>
  e_le a7 a9 (e_lt a7 9223372036854775809 (some (9223372036854775809, t10))
  (e_bd (E_X_orders v2 a7 t10) fun a11 t12 =>
  e_lt (eCmp a11 9223372036854775810) 9223372036854775809 (some (9223372036854775809, t12))
  (e_le a7 9223372036854775809 (E_L_sound_B444 k4 v1 v2 a7 t12)
  (eF (eSub a7 9223372036854775810) fun f1 => e_bd (E_X_orders v2 f1 t12) fun a13 t14 =>
  e_eq (eCmp a13 9223372036854775809) 9223372036854775809 (E_L_sound_B444 k4 v1 v2 a7 t14)
  (some (9223372036854775809, t14))))))
  (some (9223372036854775809, t10)))
  (e_bd (E_X_fewest v2 t2) fun a3 t4 =>
  e_eq a3 9223372036854775808 (e_bd (E_X_cheapest v2 9223372036854775810 9223372036854775810 t4) fun a5 t6 =>
  e_eq (eCmp a5 9223372036854775808) 9223372036854775809 (E_L_sound_B536 k4 v1 v2 t6)
  (some (9223372036854775809, t6)))
  (some (9223372036854775809, t4)))
noncomputable def E_L_sound_L310_b (k4 : Nat → Nat → e_T → e_O) (k310 : Nat → Nat → Nat → Nat → Nat → Nat → e_T → e_O) (v1 : Nat) (v2 : Nat) (v6 : Nat) (v7 : Nat) (v8 : Nat) (v9 : Nat) (t : e_T) : e_O :=
  e_bd (E_X_bill v2 9223372036854775812 t) fun a1 t2 =>
  e_lt v9 a1 (e_bd (E_X_reads v2 v9 9223372036854775809 t2) fun a3 t4 =>
  e_bd (E_X_reads v2 v9 9223372036854775810 t4) fun a5 t6 =>
  e_le a3 a5 (e_bd (E_X_reads v2 v9 9223372036854775810 t6) fun a7 t8 =>
  eF (eAdd v8 a7) fun f1 => eF (eAdd v9 9223372036854775810) fun f2 => k310 v1 v2 v6 v7 f1 f2 t8)
  (some (9223372036854775809, t6)))
  (e_le v8 v7 (e_eq v6 9223372036854775809 (e_eq v8 v7 (E_L_sound_B382 k4 v1 v2 t2)
  (some (9223372036854775809, t2)))
  (E_L_sound_B382 k4 v1 v2 t2))
  (some (9223372036854775809, t2)))
noncomputable def E_L_sound_L310 (k4 : Nat → Nat → e_T → e_O) (n : Nat) : Nat → Nat → Nat → Nat → Nat → Nat → e_T → e_O := Nat.rec (motive := fun _ => Nat → Nat → Nat → Nat → Nat → Nat → e_T → e_O) (fun _ _ _ _ _ _ _ => none) (fun _ ih => E_L_sound_L310_b k4 ih) n
noncomputable def E_L_sound_B304 (k4 : Nat → Nat → e_T → e_O) (v1 : Nat) (v2 : Nat) (v6 : Nat) (v7 : Nat) (t : e_T) : e_O :=
  E_L_sound_L310 k4 4096 v1 v2 v6 v7 9223372036854775809 9223372036854775809 t
noncomputable def E_L_sound_B288 (k4 : Nat → Nat → e_T → e_O) (v1 : Nat) (v2 : Nat) (v6 : Nat) (v7 : Nat) (t : e_T) : e_O :=
  e_bd (E_X_plain v2 t) fun a1 t2 =>
  e_eq a1 9223372036854775810 (e_le v6 9223372036854775809 (E_L_sound_B304 k4 v1 v2 v6 v7 t2)
  (some (9223372036854775809, t2)))
  (E_L_sound_B304 k4 v1 v2 v6 v7 t2)
noncomputable def E_L_sound_L232_b (k4 : Nat → Nat → e_T → e_O) (k232 : Nat → Nat → Nat → Nat → Nat → Nat → Nat → e_T → e_O) (v1 : Nat) (v2 : Nat) (v3 : Nat) (v4 : Nat) (v6 : Nat) (v7 : Nat) (v8 : Nat) (t : e_T) : e_O :=
  e_lt v8 (eAdd v3 v4) (e_bd (E_X_line v8 9223372036854775809 t) fun a3 t4 =>
  e_eq a3 9223372036854775814 (eF (eAdd v6 9223372036854775810) fun f1 => E_L_sound_B255 k4 k232 v1 v2 v3 v4 f1 v7 v8 t4)
  (E_L_sound_B255 k4 k232 v1 v2 v3 v4 v6 v7 v8 t4))
  (e_eq v6 9223372036854775809 (e_bd (E_X_ways v2 9223372036854775809 t) fun a1 t2 =>
  e_eq a1 9223372036854775810 (E_L_sound_B288 k4 v1 v2 v6 v7 t2)
  (some (9223372036854775809, t2)))
  (E_L_sound_B288 k4 v1 v2 v6 v7 t))
noncomputable def E_L_sound_L232 (k4 : Nat → Nat → e_T → e_O) (n : Nat) : Nat → Nat → Nat → Nat → Nat → Nat → Nat → e_T → e_O := Nat.rec (motive := fun _ => Nat → Nat → Nat → Nat → Nat → Nat → Nat → e_T → e_O) (fun _ _ _ _ _ _ _ _ => none) (fun _ ih => E_L_sound_L232_b k4 ih) n
noncomputable def E_L_sound_B150 (k4 : Nat → Nat → e_T → e_O) (v1 : Nat) (v2 : Nat) (v3 : Nat) (v4 : Nat) (t : e_T) : e_O :=
  e_bd (E_X_ways v2 9223372036854775809 t) fun a1 t2 =>
  e_lt a1 9223372036854775810 (some (9223372036854775809, t2))
  (e_bd (E_X_ways v2 9223372036854775810 t2) fun a3 t4 =>
  e_bd (E_X_ways v2 9223372036854775811 t4) fun a5 t6 =>
  e_lt a3 a5 (some (9223372036854775809, t6))
  (e_bd (E_X_ways v2 9223372036854775810 t6) fun a7 t8 =>
  e_le a7 v4 (e_bd (E_X_needs v2 9223372036854775809 t8) fun a9 t10 =>
  e_bd (E_X_needs v2 9223372036854775810 t10) fun a11 t12 =>
  e_le a9 a11 (e_bd (E_X_needs v2 9223372036854775811 t12) fun a13 t14 =>
  e_bd (E_X_needs v2 9223372036854775812 t14) fun a15 t16 =>
  e_le a13 a15 (eF (eAdd v1 v4) fun f1 => E_L_sound_L232 k4 4096 f1 v2 v3 v4 9223372036854775809 9223372036854775809 v3 t16)
  (some (9223372036854775809, t16)))
  (some (9223372036854775809, t12)))
  (some (9223372036854775809, t8))))
noncomputable def E_L_sound_B117 (k4 : Nat → Nat → e_T → e_O) (v1 : Nat) (v2 : Nat) (v3 : Nat) (v4 : Nat) (v5 : Nat) (s0 : Nat) (s1 : Nat) (t : e_T) : e_O :=
  e_eq s0 s1 (e_le v5 9223372036854775809 (E_L_sound_B150 k4 v1 v2 v3 v4 t)
  (e_bd (E_X_check v2 9223372036854775810 t) fun a1 t2 =>
  e_lt a1 v3 (some (9223372036854775809, t2))
  (e_bd (E_X_check v2 9223372036854775810 t2) fun a3 t4 =>
  e_lt a3 (eAdd v3 v4) (E_L_sound_B150 k4 v1 v2 v3 v4 t4)
  (some (9223372036854775809, t4)))))
  (some (9223372036854775809, t))
noncomputable def E_L_sound_B103 (k4 : Nat → Nat → e_T → e_O) (v1 : Nat) (v2 : Nat) (v3 : Nat) (v4 : Nat) (v5 : Nat) (s0 : Nat) (t : e_T) : e_O :=
  e_bd (E_X_check v2 9223372036854775810 t) fun a1 t2 =>
  e_lt a1 9223372036854775809 (E_L_sound_B117 k4 v1 v2 v3 v4 v5 s0 9223372036854775810 t2)
  (E_L_sound_B117 k4 v1 v2 v3 v4 v5 s0 9223372036854775809 t2)
noncomputable def E_L_sound_B57 (k4 : Nat → Nat → e_T → e_O) (v1 : Nat) (v2 : Nat) (v3 : Nat) (v4 : Nat) (v5 : Nat) (s0 : Nat) (s1 : Nat) (t : e_T) : e_O :=
  e_eq s0 s1 (e_bd (E_X_bill v2 9223372036854775814 t) fun a1 t2 =>
  e_bd (E_X_bill v2 9223372036854775813 t2) fun a3 t4 =>
  e_le a1 a3 (eF (eSub (eAdd v3 v4) 9223372036854775810) fun f1 => e_bd (E_X_line f1 9223372036854775809 t4) fun a5 t6 =>
  e_eq a5 9223372036854775817 (e_eq v5 9223372036854775809 (E_L_sound_B103 k4 v1 v2 v3 v4 v5 9223372036854775810 t6)
  (E_L_sound_B103 k4 v1 v2 v3 v4 v5 9223372036854775809 t6))
  (some (9223372036854775809, t6)))
  (some (9223372036854775809, t4)))
  (some (9223372036854775809, t))
noncomputable def E_L_sound_B580 (s0 : Nat) (s1 : Nat) (t : e_T) : e_O :=
  e_eq s0 s1 (e_bd (E_X_machine 9223372036854775811 t) fun a1 t2 =>
  e_bd (E_X_machine 9223372036854775812 t2) fun a3 t4 =>
  e_le a1 a3 (e_bd (E_X_machine 9223372036854775816 t4) fun a5 t6 =>
  e_le a5 9223372036854775825 (some (9223372036854775810, t6))
  (some (9223372036854775809, t6)))
  (some (9223372036854775809, t4)))
  (some (9223372036854775809, t))
noncomputable def E_L_sound_B567 (s0 : Nat) (t : e_T) : e_O :=
  e_bd (E_X_machine 9223372036854775810 t) fun a1 t2 =>
  e_lt a1 9223372036854775809 (E_L_sound_B580 s0 9223372036854775809 t2)
  (E_L_sound_B580 s0 9223372036854775810 t2)
noncomputable def E_L_sound_L4_b (k4 : Nat → Nat → e_T → e_O) (v1 : Nat) (v2 : Nat) (t : e_T) : e_O :=
  e_bd (E_X_count 9223372036854775810 t) fun a1 t2 =>
  e_lt v2 a1 (e_bd (E_X_bill v2 9223372036854775809 t2) fun a7 t8 =>
  e_bd (E_X_bill v2 9223372036854775810 t8) fun a9 t10 =>
  e_bd (E_X_check v2 9223372036854775809 t10) fun a11 t12 =>
  e_eq a7 v1 (e_bd (E_X_bill v2 9223372036854775813 t12) fun a13 t14 =>
  e_eq a11 9223372036854775809 (E_L_sound_B57 k4 v1 v2 a7 a9 a11 a13 9223372036854775810 t14)
  (E_L_sound_B57 k4 v1 v2 a7 a9 a11 a13 9223372036854775809 t14))
  (some (9223372036854775809, t12)))
  (e_bd (E_X_machine 9223372036854775809 t2) fun a3 t4 =>
  e_bd (E_X_count 9223372036854775811 t4) fun a5 t6 =>
  e_eq v1 a5 (e_eq a3 9223372036854775810 (E_L_sound_B567 9223372036854775810 t6)
  (E_L_sound_B567 9223372036854775809 t6))
  (some (9223372036854775809, t6)))
noncomputable def E_L_sound_L4 (n : Nat) : Nat → Nat → e_T → e_O := Nat.rec (motive := fun _ => Nat → Nat → e_T → e_O) (fun _ _ _ => none) (fun _ ih => E_L_sound_L4_b ih) n
noncomputable def E_L_sound  (t : e_T) : e_O :=
  E_L_sound_L4 4096 9223372036854775809 9223372036854775809 t
noncomputable def E_L_act_B156 (s0 : Nat) (s1 : Nat) (t : e_T) : e_O :=
  e_eq s0 s1 (some (9223372036854775810, t))
  (some (9223372036854775809, t))
noncomputable def E_L_act_B126 (v3 : Nat) (v4 : Nat) (v5 : Nat) (t : e_T) : e_O :=
  eF (eRem v3 9223372036854775818) fun f1 => e_bd (E_X_begin v5 f1 v4 9223372036854775810 9223372036854775810 t) fun a1 t2 =>
  e_bd (E_X_bill v5 9223372036854775814 t2) fun a3 t4 =>
  e_eq a3 9223372036854775810 (E_L_act_B156 a1 9223372036854775810 t4)
  (E_L_act_B156 a1 9223372036854775809 t4)
noncomputable def E_L_act_B216 (v3 : Nat) (v7 : Nat) (v8 : Nat) (v9 : Nat) (t : e_T) : e_O :=
  e_bd (E_X_machine 9223372036854775815 t) fun a1 t2 =>
  e_eq a1 (eAdd v7 v9) (e_bd (E_X_machine 9223372036854775813 t2) fun a3 t4 =>
  e_lt a3 v8 (some (9223372036854775809, t4))
  (e_eq v9 v3 (some (9223372036854775810, t4))
  (e_bd (E_X_machine 9223372036854775809 t4) fun a5 t6 =>
  e_eq a5 9223372036854775810 (some (9223372036854775809, t6))
  (some (9223372036854775810, t6)))))
  (some (9223372036854775809, t2))
noncomputable def E_L_act_B165 (v3 : Nat) (t : e_T) : e_O :=
  e_bd (E_X_machine 9223372036854775809 t) fun a1 t2 =>
  e_bd (E_X_machine 9223372036854775815 t2) fun a3 t4 =>
  e_bd (E_X_machine 9223372036854775813 t4) fun a5 t6 =>
  e_bd (E_X_run v3 t6) fun a7 t8 =>
  e_lt a7 9223372036854775809 (some (9223372036854775809, t8))
  (e_le a7 v3 (e_eq a1 9223372036854775810 (E_L_act_B216 v3 a3 a5 a7 t8)
  (e_le a7 9223372036854775809 (E_L_act_B216 v3 a3 a5 a7 t8)
  (some (9223372036854775809, t8))))
  (some (9223372036854775809, t8)))
noncomputable def E_L_act_B263 (v2 : Nat) (t : e_T) : e_O :=
  eF (eAdd 9223372036854775810 v2) fun f1 => e_bd (E_X_room f1 t) fun a1 t2 =>
  e_eq a1 9223372036854775809 (some (9223372036854775809, t2))
  (e_bd (E_X_count 9223372036854775812 t2) fun a3 t4 =>
  e_eq a3 (eAdd 9223372036854775810 v2) (some (9223372036854775810, t4))
  (some (9223372036854775809, t4)))
noncomputable def E_L_act_B290 (v3 : Nat) (t : e_T) : e_O :=
  e_bd (E_X_price v3 t) fun a1 t2 =>
  e_eq a1 9223372036854775809 (some (9223372036854775809, t2))
  (e_bd (E_X_count 9223372036854775813 t2) fun a3 t4 =>
  e_eq a3 v3 (some (9223372036854775810, t4))
  (some (9223372036854775809, t4)))
noncomputable def E_L_act_B358 (v5 : Nat) (t : e_T) : e_O :=
  e_bd (E_X_bill v5 9223372036854775814 t) fun a1 t2 =>
  e_eq a1 9223372036854775809 (some (9223372036854775810, t2))
  (some (9223372036854775809, t2))
noncomputable def E_L_act_B553  (t : e_T) : e_O :=
  e_bd (E_X_run 9223372036854776810 t) fun a1 t2 =>
  e_eq a1 9223372036854775808 (e_bd (E_X_count 9223372036854775810 t2) fun a3 t4 =>
  e_bd (E_X_begin a3 9223372036854775809 9223372036854775809 9223372036854775809 9223372036854775809 t4) fun a5 t6 =>
  e_eq a5 9223372036854775809 (e_bd (E_X_room 9223372036854775809 t6) fun a7 t8 =>
  e_eq a7 9223372036854775809 (e_bd (E_X_price 9223372036854775808 t8) fun a9 t10 =>
  e_eq a9 9223372036854775809 (some (9223372036854775810, t10))
  (some (9223372036854775809, t10)))
  (some (9223372036854775809, t8)))
  (some (9223372036854775809, t6)))
  (some (9223372036854775809, t2))
noncomputable def E_L_act_B677 (k643 : Nat → Nat → Nat → Nat → e_T → e_O) (v5 : Nat) (v6 : Nat) (v7 : Nat) (v8 : Nat) (t : e_T) : e_O :=
  eF (eAdd v8 9223372036854775810) fun f1 => k643 v5 v6 v7 f1 t
noncomputable def E_L_act_L686_b (k686 : Nat → Nat → Nat → Nat → e_T → e_O) (v5 : Nat) (v6 : Nat) (v7 : Nat) (v8 : Nat) (t : e_T) : e_O :=
  e_lt v8 v6 (e_bd (E_X_order v5 v8 t) fun a3 t4 =>
  eF (eOr v7 (eShl 9223372036854775810 a3)) fun f1 => eF (eAdd v8 9223372036854775810) fun f2 => k686 v5 v6 f1 f2 t4)
  (e_eq v7 (eSub (eShl 9223372036854775810 v6) 9223372036854775810) (e_bd (E_X_order v5 v6 t) fun a1 t2 =>
  e_eq a1 9223372036854775808 (some (9223372036854775810, t2))
  (some (9223372036854775809, t2)))
  (some (9223372036854775809, t)))
noncomputable def E_L_act_L686 (n : Nat) : Nat → Nat → Nat → Nat → e_T → e_O := Nat.rec (motive := fun _ => Nat → Nat → Nat → Nat → e_T → e_O) (fun _ _ _ _ _ => none) (fun _ ih => E_L_act_L686_b ih) n
noncomputable def E_L_act_L643_b (k643 : Nat → Nat → Nat → Nat → e_T → e_O) (v5 : Nat) (v6 : Nat) (v7 : Nat) (v8 : Nat) (t : e_T) : e_O :=
  e_bd (E_X_bill v5 9223372036854775809 t) fun a1 t2 =>
  e_bd (E_X_bill v5 9223372036854775810 t2) fun a3 t4 =>
  e_lt v8 (eAdd a1 a3) (e_bd (E_X_line v8 9223372036854775809 t4) fun a5 t6 =>
  e_eq a5 9223372036854775810 (eF (eAdd v6 9223372036854775810) fun f1 => E_L_act_B677 k643 v5 f1 v7 v8 t6)
  (E_L_act_B677 k643 v5 v6 v7 v8 t6))
  (E_L_act_L686 4096 v5 v6 v7 9223372036854775809 t4)
noncomputable def E_L_act_L643 (n : Nat) : Nat → Nat → Nat → Nat → e_T → e_O := Nat.rec (motive := fun _ => Nat → Nat → Nat → Nat → e_T → e_O) (fun _ _ _ _ _ => none) (fun _ ih => E_L_act_L643_b ih) n
noncomputable def E_L_act_B602 (v5 : Nat) (t : e_T) : e_O :=
  e_bd (E_X_plain v5 t) fun a1 t2 =>
  e_eq a1 9223372036854775809 (e_bd (E_X_order v5 9223372036854775809 t2) fun a5 t6 =>
  e_eq a5 9223372036854775808 (some (9223372036854775810, t6))
  (some (9223372036854775809, t6)))
  (e_bd (E_X_bill v5 9223372036854775809 t2) fun a3 t4 =>
  E_L_act_L643 4096 v5 9223372036854775809 9223372036854775809 a3 t4)
