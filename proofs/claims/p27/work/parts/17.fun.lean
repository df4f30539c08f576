/-! Each method as a function of the memory: read off its code by program; t_ theorems (next parts) say that the code does it. -/
noncomputable def Ln_empty (b : Int) (μ : am_M) : am_O :=
q_gd 2 b <|
q_pf b 10 0 μ fun μ2 =>
q_pf b 11 0 μ2 fun μ3 =>
some (0, μ3)
noncomputable def Bi_empty (b : Int) (μ : am_M) : am_O :=
q_gd 0 b <|
q_gd 2 (b + 1) <|
q_bd (Ln_empty (b + 1) μ) fun a3 μ4 =>
q_pf b 12 0 μ4 fun μ5 =>
q_pf b 13 0 μ5 fun μ6 =>
some (0, μ6)
noncomputable def Bi_has (b : Int) (v1 : Int) (μ : am_M) : am_O :=
if v1 < 0 then (some (0, μ))
else (q_gd 0 b <|
if v1 < (μ b 13) then (some (1, μ))
else (some (0, μ)))
noncomputable def X_put (v0 : Int) (v1 : Int) (v2 : Int) (μ : am_M) : am_O :=
if v1 < 0 then (some (0, μ))
else (q_len v0 fun a1 =>
if v1 < a1 then (q_st (am_lenK 0 v0) v0 v1 v2 μ fun μ2 =>
some (0, μ2))
else (some (0, μ)))
noncomputable def Bi_addWall (b : Int) (v1 : Int) (v3 : Int) (μ : am_M) : am_O :=
q_gd 0 b <|
if (μ b 12) < 4 then (q_st (am_lenK 1 (b + 12)) (b + 12) (μ b 12) v1 μ fun μ2 =>
q_bd (X_put (b + 13) (μ2 b 12) v3 μ2) fun a3 μ4 =>
q_pf b 12 (w32 ((μ4 b 12) + 1)) μ4 fun μ5 =>
some (0, μ5))
else (some (0, μ))
noncomputable def Bi_addBill (b : Int) (v1 : Int) (μ : am_M) : am_O :=
q_gd 0 b <|
if (μ b 13) < 4 then (q_st (am_lenK 1 (b + 14)) (b + 14) (μ b 13) v1 μ fun μ2 =>
q_gd 2 (b + 1) <|
q_bd (X_put (b + 15) (μ2 b 13) (μ2 (b + 1) 10) μ2) fun a4 μ5 =>
q_bd (X_put (b + 16) (μ5 b 13) 0 μ5) fun a6 μ7 =>
q_bd (X_put (b + 17) (μ7 b 13) 0 μ7) fun a8 μ9 =>
q_pf b 13 (w32 ((μ9 b 13) + 1)) μ9 fun μ10 =>
some (0, μ10))
else (some (0, μ))
noncomputable def X_at (v0 : Int) (v1 : Int) (μ : am_M) : am_O :=
if v1 < 0 then (some (0, μ))
else (q_len v0 fun a1 =>
if v1 < a1 then (q_ld (am_lenK 0 v0) v0 v1 μ fun a2 =>
some (a2, μ))
else (some (0, μ)))
noncomputable def Bi_lineBehind (b : Int) (v1 : Int) (μ : am_M) : am_O :=
q_gd 0 b <|
q_bd (X_at (b + 15) v1 μ) fun a2 μ3 =>
q_bd (X_at (b + 16) v1 μ3) fun a4 μ5 =>
some ((w32 (a2 + a4)), μ5)
noncomputable def Ln_codeKind (b : Int) (v1 : Int) (μ : am_M) : am_O :=
q_gd 2 b <|
q_bd (X_at (b + 10) v1 μ) fun a2 μ3 =>
some ((aRem a2 128), μ3)
noncomputable def Ln_codeNumber (b : Int) (v1 : Int) (μ : am_M) : am_O :=
q_gd 2 b <|
q_bd (X_at (b + 10) v1 μ) fun a2 μ3 =>
some ((aDiv a2 128), μ3)
noncomputable def Ln_readSet_B50 (k21 : Int → Int → Int → Int → am_M → am_O) (b : Int) (v3 : Int) (v4 : Int) (s0 : Int) (s1 : Int) (μ : am_M) : am_O :=
k21 b (aOr s0 s1) v3 (w32 (v4 + 1)) μ
noncomputable def Ln_readSet_L21_b (k21 : Int → Int → Int → Int → am_M → am_O) (b : Int) (v2 : Int) (v3 : Int) (v4 : Int) (μ : am_M) : am_O :=
if v4 < v3 then (q_gd 2 b <|
q_bd (Ln_codeKind b v4 μ) fun a2 μ3 =>
if a2 = 2 then (q_bd (Ln_codeNumber b v4 μ3) fun a4 μ5 =>
Ln_readSet_B50 k21 b v3 v4 v2 (aShl 1 a4) μ5)
else (Ln_readSet_B50 k21 b v3 v4 v2 0 μ3))
else (some (v2, μ))
noncomputable def Ln_readSet_L21 : Nat → Int → Int → Int → Int → am_M → am_O
  | 0, _, _, _, _, _ => none
  | n + 1, b, v2, v3, v4, μ => Ln_readSet_L21_b (Ln_readSet_L21 n) b v2 v3 v4 μ
noncomputable def Ln_readSet (b : Int) (v1 : Int) (μ : am_M) : am_O :=
q_gd 2 b <|
q_bd (X_at (b + 9) v1 μ) fun a2 μ3 =>
q_bd (X_at (b + 8) v1 μ3) fun a4 μ5 =>
Ln_readSet_L21  am_FU b 0 a2 a4 μ5
noncomputable def Ln_bit (v0 : Int) (μ : am_M) : am_O :=
if v0 = (-1) then (some (0, μ))
else (some ((aShl 1 v0), μ))
noncomputable def Ln_laidSet (b : Int) (v1 : Int) (μ : am_M) : am_O :=
q_gd 2 b <|
q_bd (X_at (b + 2) v1 μ) fun a2 μ3 =>
q_bd (Ln_bit a2 μ3) fun a4 μ5 =>
q_bd (X_at (b + 3) v1 μ5) fun a6 μ7 =>
q_bd (Ln_bit a6 μ7) fun a8 μ9 =>
some ((aOr a4 a8), μ9)
noncomputable def Bi_isPlain_B69 (k18 : Int → Int → Int → Int → am_M → am_O) (b : Int) (v2 : Int) (v3 : Int) (v4 : Int) (v6 : Int) (μ : am_M) : am_O :=
q_gd 0 b <|
q_gd 2 (b + 1) <|
q_bd (Ln_readSet (b + 1) v4 μ) fun a3 μ4 =>
if (aAnd a3 (aXor v2 (-1))) = 0 then (if (aAnd v6 v2) = 0 then (k18 b (aOr v2 v6) v3 (w32 (v4 + 1)) μ4)
else (some (0, μ4)))
else (some (0, μ4))
noncomputable def Bi_isPlain_L18_b (k18 : Int → Int → Int → Int → am_M → am_O) (b : Int) (v2 : Int) (v3 : Int) (v4 : Int) (μ : am_M) : am_O :=
if v4 < v3 then (q_gd 0 b <|
q_gd 2 (b + 1) <|
q_bd (X_at ((b + 1) + 1) v4 μ) fun a3 μ4 =>
q_bd (Ln_laidSet (b + 1) v4 μ4) fun a5 μ6 =>
if a3 = 0 then (Bi_isPlain_B69 k18 b v2 v3 v4 a5 μ6)
else (if a3 = 1 then (Bi_isPlain_B69 k18 b v2 v3 v4 a5 μ6)
else (if a3 = 8 then (Bi_isPlain_B69 k18 b v2 v3 v4 a5 μ6)
else (some (0, μ6)))))
else (some (1, μ))
noncomputable def Bi_isPlain_L18 : Nat → Int → Int → Int → Int → am_M → am_O
  | 0, _, _, _, _, _ => none
  | n + 1, b, v2, v3, v4, μ => Bi_isPlain_L18_b (Bi_isPlain_L18 n) b v2 v3 v4 μ
noncomputable def Bi_isPlain (b : Int) (v1 : Int) (μ : am_M) : am_O :=
q_gd 0 b <|
q_bd (Bi_lineBehind b v1 μ) fun a2 μ3 =>
q_bd (X_at (b + 15) v1 μ3) fun a4 μ5 =>
Bi_isPlain_L18  am_FU b 0 a2 a4 μ5
noncomputable def Ck_blame (v1 : Int) (v2 : Int) (μ : am_M) : am_O :=
if (μ 30 8) = 0 then (q_pf 30 8 v1 μ fun μ1 =>
q_pf 30 9 v2 μ1 fun μ2 =>
some (0, μ2))
else (some (0, μ))
noncomputable def Ck_takeAway_B97 (k19 : Int → Int → Int → am_M → am_O) (v1 : Int) (v3 : Int) (v4 : Int) (μ : am_M) : am_O :=
k19 v1 v3 (w32 (v4 + 1)) μ
noncomputable def Ck_takeAway_B67 (k19 : Int → Int → Int → am_M → am_O) (v1 : Int) (v3 : Int) (v4 : Int) (v5 : Int) (μ : am_M) : am_O :=
q_pf 30 5 (aAnd (μ 30 5) (aXor (aShl 1 v5) (-1))) μ fun μ1 =>
q_pf 30 6 (aAnd (μ1 30 6) (aXor (aShl 1 v5) (-1))) μ1 fun μ2 =>
Ck_takeAway_B97 k19 v1 v3 v4 μ2
noncomputable def Ck_takeAway_L19_b (k19 : Int → Int → Int → am_M → am_O) (v1 : Int) (v3 : Int) (v4 : Int) (μ : am_M) : am_O :=
if v4 < v3 then (q_gd 2 v1 <|
q_bd (Ln_codeKind v1 v4 μ) fun a2 μ3 =>
if a2 = 2 then (q_bd (Ln_codeNumber v1 v4 μ3) fun a4 μ5 =>
if (aAnd (aShr (aOr (μ5 30 5) (μ5 30 6)) a4) 1) = 0 then (q_bd (Ck_blame 1 a4 μ5) fun a6 μ7 =>
Ck_takeAway_B67 k19 v1 v3 v4 a4 μ7)
else (Ck_takeAway_B67 k19 v1 v3 v4 a4 μ5))
else (Ck_takeAway_B97 k19 v1 v3 v4 μ3))
else (some (0, μ))
noncomputable def Ck_takeAway_L19 : Nat → Int → Int → Int → am_M → am_O
  | 0, _, _, _, _ => none
  | n + 1, v1, v3, v4, μ => Ck_takeAway_L19_b (Ck_takeAway_L19 n) v1 v3 v4 μ
noncomputable def Ck_takeAway (v1 : Int) (v2 : Int) (μ : am_M) : am_O :=
q_gd 2 v1 <|
q_bd (X_at (v1 + 9) v2 μ) fun a2 μ3 =>
q_bd (X_at (v1 + 8) v2 μ3) fun a4 μ5 =>
Ck_takeAway_L19  am_FU v1 a2 a4 μ5
noncomputable def Ck_lay (v1 : Int) (v2 : Int) (μ : am_M) : am_O :=
if v1 = (-1) then (some (0, μ))
else (if (aAnd (aShr (aOr (μ 30 5) (μ 30 6)) v1) 1) = 0 then (if v2 = 1 then (q_pf 30 5 (aOr (μ 30 5) (aShl 1 v1)) μ fun μ2 =>
some (0, μ2))
else (q_pf 30 6 (aOr (μ 30 6) (aShl 1 v1)) μ fun μ1 =>
some (0, μ1)))
else (q_bd (Ck_blame 2 v1 μ) fun a3 μ4 =>
some (0, μ4)))
noncomputable def Ck_turnToElse (v1 : Int) (μ : am_M) : am_O :=
q_bd (X_put 33 (w32 ((μ 30 7) - 1)) (μ 30 5) μ) fun a1 μ2 =>
q_bd (X_put 34 (w32 ((μ 30 7) - 1)) (μ2 30 6) μ2) fun a3 μ4 =>
q_bd (X_put 35 (w32 ((μ 30 7) - 1)) v1 μ4) fun a5 μ6 =>
q_bd (X_at 31 (w32 ((μ 30 7) - 1)) μ6) fun a7 μ8 =>
q_pf 30 5 a7 μ8 fun μ9 =>
q_bd (X_at 32 (w32 ((μ 30 7) - 1)) μ9) fun a10 μ11 =>
q_pf 30 6 a10 μ11 fun μ12 =>
some (0, μ12)
noncomputable def JI_ntz_B74 (v0 : Int) (v1 : Int) (μ : am_M) : am_O :=
some ((w32 (v1 + (aUshr v0 1))), μ)
noncomputable def JI_ntz_B62 (v0 : Int) (v1 : Int) (μ : am_M) : am_O :=
if v0 ≤ 4 then (JI_ntz_B74  v0 v1 μ)
else (JI_ntz_B74  (aUshr v0 2) (w32 (v1 + 2)) μ)
noncomputable def JI_ntz_B49 (v0 : Int) (v1 : Int) (μ : am_M) : am_O :=
if v0 ≤ 16 then (JI_ntz_B62  v0 v1 μ)
else (JI_ntz_B62  (aUshr v0 4) (w32 (v1 + 4)) μ)
noncomputable def JI_ntz_B34 (v0 : Int) (v1 : Int) (μ : am_M) : am_O :=
if v0 ≤ 256 then (JI_ntz_B49  v0 v1 μ)
else (JI_ntz_B49  (aUshr v0 8) (w32 (v1 + 8)) μ)
noncomputable def JI_ntz (v0 : Int) (μ : am_M) : am_O :=
if (aAnd (aXor v0 (-1)) (w32 (v0 - 1))) ≤ 0 then (some ((aAnd (aAnd (aXor v0 (-1)) (w32 (v0 - 1))) 32), μ))
else (if (aAnd (aXor v0 (-1)) (w32 (v0 - 1))) ≤ 65536 then (JI_ntz_B34  (aAnd (aXor v0 (-1)) (w32 (v0 - 1))) 1 μ)
else (q_lt (aUshr (aAnd (aXor v0 (-1)) (w32 (v0 - 1))) 16) fun a1 =>
JI_ntz_B34  a1 (w32 (1 + 16)) μ))
noncomputable def Ck_joinBranches_B40 (v1 : Int) (v2 : Int) (μ : am_M) : am_O :=
q_bd (X_at 34 (μ 30 7) μ) fun a1 μ2 =>
q_gd 2 v1 <|
q_bd (X_at 35 (μ2 30 7) μ2) fun a4 μ5 =>
q_bd (X_put (v1 + 7) a4 (aAnd a1 (aXor (μ5 30 6) (-1))) μ5) fun a6 μ7 =>
q_bd (X_put (v1 + 7) v2 (aAnd (μ7 30 6) (aXor a1 (-1))) μ7) fun a8 μ9 =>
q_pf 30 6 (aAnd (μ9 30 6) a1) μ9 fun μ10 =>
some (0, μ10)
noncomputable def Ck_joinBranches (v1 : Int) (v2 : Int) (μ : am_M) : am_O :=
q_pf 30 7 (w32 ((μ 30 7) - 1)) μ fun μ1 =>
q_bd (X_at 33 (μ1 30 7) μ1) fun a2 μ3 =>
if (aXor a2 (μ3 30 5)) = 0 then (Ck_joinBranches_B40  v1 v2 μ3)
else (q_bd (JI_ntz (aXor a2 (μ3 30 5)) μ3) fun a4 μ5 =>
q_bd (Ck_blame 3 a4 μ5) fun a6 μ7 =>
Ck_joinBranches_B40  v1 v2 μ7)
noncomputable def Ck_checkLine (v1 : Int) (v2 : Int) (μ : am_M) : am_O :=
q_bd (Ck_takeAway v1 v2 μ) fun a1 μ2 =>
q_gd 2 v1 <|
q_bd (X_at (v1 + 2) v2 μ2) fun a4 μ5 =>
q_bd (X_at (v1 + 4) v2 μ5) fun a6 μ7 =>
q_bd (Ck_lay a4 a6 μ7) fun a8 μ9 =>
q_bd (X_at (v1 + 3) v2 μ9) fun a10 μ11 =>
q_bd (X_at (v1 + 4) v2 μ11) fun a12 μ13 =>
q_bd (Ck_lay a10 a12 μ13) fun a14 μ15 =>
q_bd (X_at (v1 + 1) v2 μ15) fun a16 μ17 =>
if a16 = 5 then (q_bd (X_put 31 (μ17 30 7) (μ17 30 5) μ17) fun a18 μ19 =>
q_bd (X_put 32 (μ19 30 7) (μ19 30 6) μ19) fun a20 μ21 =>
q_pf 30 7 (w32 ((μ21 30 7) + 1)) μ21 fun μ22 =>
some (0, μ22))
else (if a16 = 6 then (q_bd (Ck_turnToElse v2 μ17) fun a23 μ24 =>
some (0, μ24))
else (if a16 = 7 then (q_bd (Ck_joinBranches v1 v2 μ17) fun a25 μ26 =>
some (0, μ26))
else (if a16 = 8 then (if (μ17 30 5) = 0 then (some (0, μ17))
else (q_bd (JI_ntz (μ17 30 5) μ17) fun a27 μ28 =>
q_bd (Ck_blame 4 a27 μ28) fun a29 μ30 =>
some (0, μ30)))
else (some (0, μ17)))))
noncomputable def Ck_checkBill_B81 (k44 : Int → Int → Int → Int → Int → am_M → am_O) (v1 : Int) (v2 : Int) (v4 : Int) (v5 : Int) (s0 : Int) (μ : am_M) : am_O :=
k44 v1 v2 s0 v4 (w32 (v5 + 1)) μ
noncomputable def Ck_checkBill_B88 (v1 : Int) (v2 : Int) (v3 : Int) (μ : am_M) : am_O :=
q_gd 0 v1 <|
q_bd (X_put (v1 + 19) v2 (μ 30 8) μ) fun a2 μ3 =>
q_bd (X_put (v1 + 20) v2 v3 μ3) fun a4 μ5 =>
q_bd (X_put (v1 + 21) v2 (μ5 30 9) μ5) fun a6 μ7 =>
some (0, μ7)
noncomputable def Ck_checkBill_L44_b (k44 : Int → Int → Int → Int → Int → am_M → am_O) (v1 : Int) (v2 : Int) (v3 : Int) (v4 : Int) (v5 : Int) (μ : am_M) : am_O :=
if v5 < v4 then (if (μ 30 8) = 0 then (q_gd 0 v1 <|
q_bd (Ck_checkLine (v1 + 1) v5 μ) fun a2 μ3 =>
if (μ3 30 8) = 0 then (Ck_checkBill_B81 k44 v1 v2 v4 v5 (-1) μ3)
else (Ck_checkBill_B81 k44 v1 v2 v4 v5 v5 μ3))
else (Ck_checkBill_B88  v1 v2 v3 μ))
else (Ck_checkBill_B88  v1 v2 v3 μ)
noncomputable def Ck_checkBill_L44 : Nat → Int → Int → Int → Int → Int → am_M → am_O
  | 0, _, _, _, _, _, _ => none
  | n + 1, v1, v2, v3, v4, v5, μ => Ck_checkBill_L44_b (Ck_checkBill_L44 n) v1 v2 v3 v4 v5 μ
noncomputable def Ck_checkBill (v1 : Int) (v2 : Int) (μ : am_M) : am_O :=
q_pf 30 5 0 μ fun μ1 =>
q_pf 30 6 0 μ1 fun μ2 =>
q_pf 30 7 0 μ2 fun μ3 =>
q_pf 30 8 0 μ3 fun μ4 =>
q_pf 30 9 (-1) μ4 fun μ5 =>
q_gd 0 v1 <|
q_bd (Bi_lineBehind v1 v2 μ5) fun a7 μ8 =>
q_bd (X_at (v1 + 15) v2 μ8) fun a9 μ10 =>
Ck_checkBill_L44  am_FU v1 v2 (-1) a7 a9 μ10
noncomputable def Ck_isSound_B79 (k33 : Int → Int → Int → Int → Int → am_M → am_O) (v0 : Int) (v1 : Int) (v2 : Int) (v3 : Int) (v4 : Int) (μ : am_M) : am_O :=
k33 v0 v1 v2 v3 (w32 (v4 + 1)) μ
noncomputable def Ck_isSound_L33_b (k33 : Int → Int → Int → Int → Int → am_M → am_O) (v0 : Int) (v1 : Int) (v2 : Int) (v3 : Int) (v4 : Int) (μ : am_M) : am_O :=
if v4 < v3 then (q_gd 0 v0 <|
q_gd 2 (v0 + 1) <|
q_bd (X_at ((v0 + 1) + 5) v4 μ) fun a3 μ4 =>
if a3 = (-1) then (Ck_isSound_B79 k33 v0 v1 v2 v3 v4 μ4)
else (if a3 = v1 then (Ck_isSound_B79 k33 v0 v1 v2 v3 v4 μ4)
else (q_bd (X_at (v0 + 22) a3 μ4) fun a5 μ6 =>
if a5 = 0 then (Ck_isSound_B79 k33 v0 v1 0 v3 v4 μ6)
else (Ck_isSound_B79 k33 v0 v1 v2 v3 v4 μ6))))
else (q_rb v2 (some (v2, μ)))
noncomputable def Ck_isSound_L33 : Nat → Int → Int → Int → Int → Int → am_M → am_O
  | 0, _, _, _, _, _, _ => none
  | n + 1, v0, v1, v2, v3, v4, μ => Ck_isSound_L33_b (Ck_isSound_L33 n) v0 v1 v2 v3 v4 μ
noncomputable def Ck_isSound_B16 (v0 : Int) (v1 : Int) (s0 : Int) (μ : am_M) : am_O :=
q_gd 0 v0 <|
q_bd (Bi_lineBehind v0 v1 μ) fun a2 μ3 =>
q_bd (X_at (v0 + 15) v1 μ3) fun a4 μ5 =>
Ck_isSound_L33  am_FU v0 v1 s0 a2 a4 μ5
noncomputable def Ck_isSound (v0 : Int) (v1 : Int) (μ : am_M) : am_O :=
q_gd 0 v0 <|
q_bd (X_at (v0 + 19) v1 μ) fun a2 μ3 =>
if a2 = 0 then (Ck_isSound_B16  v0 v1 1 μ3)
else (Ck_isSound_B16  v0 v1 0 μ3)
noncomputable def Ck_checkAll_B34 (k2 : Int → Int → am_M → am_O) (v1 : Int) (v2 : Int) (s0 : Int) (s1 : Int) (s2 : Int) (μ : am_M) : am_O :=
q_bd (X_put s0 s1 s2 μ) fun a1 μ2 =>
k2 v1 (w32 (v2 + 1)) μ2
noncomputable def Ck_checkAll_L2_b (k2 : Int → Int → am_M → am_O) (v1 : Int) (v2 : Int) (μ : am_M) : am_O :=
q_gd 0 v1 <|
if v2 < (μ v1 13) then (q_bd (Ck_checkBill v1 v2 μ) fun a2 μ3 =>
q_bd (Ck_isSound v1 v2 μ3) fun a4 μ5 =>
if a4 = 0 then (Ck_checkAll_B34 k2 v1 v2 (v1 + 22) v2 0 μ5)
else (Ck_checkAll_B34 k2 v1 v2 (v1 + 22) v2 1 μ5))
else (some (0, μ))
noncomputable def Ck_checkAll_L2 : Nat → Int → Int → am_M → am_O
  | 0, _, _, _ => none
  | n + 1, v1, v2, μ => Ck_checkAll_L2_b (Ck_checkAll_L2 n) v1 v2 μ
noncomputable def Ck_checkAll (v1 : Int) (μ : am_M) : am_O :=
Ck_checkAll_L2  am_FU v1 0 μ
noncomputable def Ln_add (b : Int) (v1 : Int) (μ : am_M) : am_O :=
q_gd 2 b <|
q_bd (X_put (b + 1) (μ b 10) v1 μ) fun a2 μ3 =>
q_bd (X_put (b + 2) (μ b 10) (-1) μ3) fun a4 μ5 =>
q_bd (X_put (b + 3) (μ b 10) (-1) μ5) fun a6 μ7 =>
q_bd (X_put (b + 4) (μ b 10) 1 μ7) fun a8 μ9 =>
q_bd (X_put (b + 5) (μ b 10) (-1) μ9) fun a10 μ11 =>
q_bd (X_put (b + 6) (μ b 10) (-1) μ11) fun a12 μ13 =>
q_bd (X_put (b + 7) (μ b 10) 0 μ13) fun a14 μ15 =>
q_bd (X_put (b + 8) (μ b 10) (μ15 b 11) μ15) fun a16 μ17 =>
q_bd (X_put (b + 9) (μ b 10) (μ17 b 11) μ17) fun a18 μ19 =>
q_pf b 10 (w32 ((μ19 b 10) + 1)) μ19 fun μ20 =>
some ((μ b 10), μ20)
noncomputable def Ln_addCode (b : Int) (v1 : Int) (v2 : Int) (μ : am_M) : am_O :=
q_gd 2 b <|
q_len (b + 10) fun a2 =>
if (μ b 11) < a2 then (q_bd (X_put (b + 10) (μ b 11) (w32 (v1 + (w32 (v2 * 128)))) μ) fun a3 μ4 =>
q_pf b 11 (w32 ((μ4 b 11) + 1)) μ4 fun μ5 =>
q_bd (X_put (b + 9) (w32 ((μ5 b 10) - 1)) (μ5 b 11) μ5) fun a6 μ7 =>
some (0, μ7))
else (some (0, μ))
noncomputable def Ln_isSlip (b : Int) (v1 : Int) (v2 : Int) (μ : am_M) : am_O :=
q_gd 2 b <|
q_bd (Ln_codeKind b v1 μ) fun a2 μ3 =>
if a2 = 2 then (q_bd (Ln_codeNumber b v1 μ3) fun a4 μ5 =>
if a4 = v2 then (some (1, μ5))
else (some (0, μ5)))
else (some (0, μ3))
noncomputable def Ln_timesRead_B43 (k21 : Int → Int → Int → Int → am_M → am_O) (b : Int) (v3 : Int) (v4 : Int) (s0 : Int) (s1 : Int) (μ : am_M) : am_O :=
k21 b (w32 (s0 + s1)) v3 (w32 (v4 + 1)) μ
noncomputable def Ln_timesRead_L21_b (k21 : Int → Int → Int → Int → am_M → am_O) (b : Int) (v2 : Int) (v3 : Int) (v4 : Int) (μ : am_M) : am_O :=
if v4 < v3 then (q_gd 2 b <|
q_bd (Ln_codeKind b v4 μ) fun a2 μ3 =>
if a2 = 2 then (Ln_timesRead_B43 k21 b v3 v4 v2 1 μ3)
else (Ln_timesRead_B43 k21 b v3 v4 v2 0 μ3))
else (some (v2, μ))
noncomputable def Ln_timesRead_L21 : Nat → Int → Int → Int → Int → am_M → am_O
  | 0, _, _, _, _, _ => none
  | n + 1, b, v2, v3, v4, μ => Ln_timesRead_L21_b (Ln_timesRead_L21 n) b v2 v3 v4 μ
noncomputable def Ln_timesRead (b : Int) (v1 : Int) (μ : am_M) : am_O :=
q_gd 2 b <|
q_bd (X_at (b + 9) v1 μ) fun a2 μ3 =>
q_bd (X_at (b + 8) v1 μ3) fun a4 μ5 =>
Ln_timesRead_L21  am_FU b 0 a2 a4 μ5
noncomputable def Ln_timesRead__B45 (k22 : Int → Int → Int → Int → Int → am_M → am_O) (b : Int) (v2 : Int) (v4 : Int) (v5 : Int) (s0 : Int) (s1 : Int) (μ : am_M) : am_O :=
k22 b v2 (w32 (s0 + s1)) v4 (w32 (v5 + 1)) μ
noncomputable def Ln_timesRead__L22_b (k22 : Int → Int → Int → Int → Int → am_M → am_O) (b : Int) (v2 : Int) (v3 : Int) (v4 : Int) (v5 : Int) (μ : am_M) : am_O :=
if v5 < v4 then (q_gd 2 b <|
q_bd (Ln_isSlip b v5 v2 μ) fun a2 μ3 =>
if a2 = 0 then (Ln_timesRead__B45 k22 b v2 v4 v5 v3 0 μ3)
else (Ln_timesRead__B45 k22 b v2 v4 v5 v3 1 μ3))
else (some (v3, μ))
noncomputable def Ln_timesRead__L22 : Nat → Int → Int → Int → Int → Int → am_M → am_O
  | 0, _, _, _, _, _, _ => none
  | n + 1, b, v2, v3, v4, v5, μ => Ln_timesRead__L22_b (Ln_timesRead__L22 n) b v2 v3 v4 v5 μ
noncomputable def Ln_timesRead_ (b : Int) (v1 : Int) (v2 : Int) (μ : am_M) : am_O :=
q_gd 2 b <|
q_bd (X_at (b + 9) v1 μ) fun a2 μ3 =>
q_bd (X_at (b + 8) v1 μ3) fun a4 μ5 =>
Ln_timesRead__L22  am_FU b v2 0 a2 a4 μ5
noncomputable def Mc_stand (b : Int) (μ : am_M) : am_O :=
q_gd 3 b <|
q_pf b 5 0 μ fun μ2 =>
q_pf b 6 0 μ2 fun μ3 =>
q_pf b 7 0 μ3 fun μ4 =>
q_pf b 8 0 μ4 fun μ5 =>
q_pf b 9 0 μ5 fun μ6 =>
q_pf b 10 0 μ6 fun μ7 =>
q_pf b 11 0 μ7 fun μ8 =>
some (0, μ8)
noncomputable def Mc_become (b : Int) (v1 : Int) (μ : am_M) : am_O :=
q_gd 3 v1 <|
q_gd 3 b <|
q_len (b + 1) fun a3 =>
q_cp (v1 + 1) 0 (b + 1) 0 a3 μ fun μ4 =>
q_len (b + 2) fun a5 =>
q_cp (v1 + 2) 0 (b + 2) 0 a5 μ4 fun μ6 =>
q_len (b + 3) fun a7 =>
q_cp (v1 + 3) 0 (b + 3) 0 a7 μ6 fun μ8 =>
q_pf b 5 (μ8 v1 5) μ8 fun μ9 =>
q_pf b 6 (μ9 v1 6) μ9 fun μ10 =>
q_pf b 7 (μ10 v1 7) μ10 fun μ11 =>
q_pf b 8 (μ11 v1 8) μ11 fun μ12 =>
q_pf b 9 (μ12 v1 9) μ12 fun μ13 =>
q_pf b 10 (μ13 v1 10) μ13 fun μ14 =>
q_pf b 11 (μ14 v1 11) μ14 fun μ15 =>
q_pf b 12 (μ15 v1 12) μ15 fun μ16 =>
q_pf b 13 (μ16 v1 13) μ16 fun μ17 =>
some (0, μ17)
noncomputable def Mc_take (b : Int) (v1 : Int) (v2 : Int) (v3 : Int) (v4 : Int) (μ : am_M) : am_O :=
q_gd 3 b <|
q_bd (X_put (b + 3) 0 v1 μ) fun a2 μ3 =>
q_bd (X_put (b + 3) 1 v2 μ3) fun a4 μ5 =>
q_bd (X_put (b + 3) 2 v3 μ5) fun a6 μ7 =>
q_bd (X_put (b + 3) 3 v4 μ7) fun a8 μ9 =>
some (0, μ9)
noncomputable def Mc_enter (b : Int) (v1 : Int) (v2 : Int) (μ : am_M) : am_O :=
q_gd 0 v1 <|
q_bd (X_at (v1 + 17) v2 μ) fun a2 μ3 =>
q_gd 3 b <|
q_bd (X_at (v1 + 15) v2 μ3) fun a5 μ6 =>
q_bd (X_put (b + 1) (μ3 b 5) (w32 (a5 + a2)) μ6) fun a7 μ8 =>
q_bd (X_put (b + 2) (μ8 b 5) (w32 ((aShl 1 a2) - 1)) μ8) fun a9 μ10 =>
q_pf b 5 (w32 ((μ10 b 5) + 1)) μ10 fun μ11 =>
some (0, μ11)
noncomputable def JI_bitCount (v0 : Int) (μ : am_M) : am_O :=
q_lt (w32 (v0 - (aAnd (aUshr v0 1) 1431655765))) fun a1 =>
q_lt (w32 ((aAnd a1 858993459) + (aAnd (aUshr a1 2) 858993459))) fun a2 =>
q_lt (aAnd (w32 (a2 + (aUshr a2 4))) 252645135) fun a3 =>
q_lt (w32 ((w32 (a3 + (aUshr a3 8))) + (aUshr (w32 (a3 + (aUshr a3 8))) 16))) fun a4 =>
some ((aAnd a4 63), μ)
noncomputable def Mc_lying_L4_b (k4 : Int → Int → Int → am_M → am_O) (b : Int) (v1 : Int) (v2 : Int) (μ : am_M) : am_O :=
q_gd 3 b <|
if v2 < (μ b 5) then (q_bd (X_at (b + 2) v2 μ) fun a2 μ3 =>
q_bd (JI_bitCount a2 μ3) fun a4 μ5 =>
k4 b (w32 (v1 + a4)) (w32 (v2 + 1)) μ5)
else (some (v1, μ))
noncomputable def Mc_lying_L4 : Nat → Int → Int → Int → am_M → am_O
  | 0, _, _, _, _ => none
  | n + 1, b, v1, v2, μ => Mc_lying_L4_b (Mc_lying_L4 n) b v1 v2 μ
noncomputable def Mc_lying (b : Int) (μ : am_M) : am_O :=
Mc_lying_L4  am_FU b 0 0 μ
noncomputable def Mc_lookAtTable (b : Int) (μ : am_M) : am_O :=
q_gd 3 b <|
q_bd (Mc_lying b μ) fun a2 μ3 =>
q_lt (if (μ3 b 8) < a2 then a2 else (μ3 b 8)) fun a4 =>
q_pf b 8 a4 μ3 fun μ5 =>
if (μ5 b 1) = 0 then (some (0, μ5))
else (if (μ5 b 6) = 1 then (if a2 ≤ (μ5 b 12) then (some (0, μ5))
else (q_pf b 6 3 μ5 fun μ6 =>
some (0, μ6)))
else (some (0, μ5)))
noncomputable def Mc_start (b : Int) (v1 : Int) (v2 : Int) (μ : am_M) : am_O :=
q_gd 3 b <|
q_bd (Mc_stand b μ) fun a2 μ3 =>
q_pf b 6 1 μ3 fun μ4 =>
q_bd (Mc_enter b v1 v2 μ4) fun a5 μ6 =>
q_bd (Mc_lookAtTable b μ6) fun a7 μ8 =>
some (0, μ8)
noncomputable def Mc_readSlips (b : Int) (v1 : Int) (v2 : Int) (μ : am_M) : am_O :=
q_gd 2 v1 <|
q_bd (Ln_readSet v1 v2 μ) fun a2 μ3 =>
q_gd 3 b <|
q_bd (X_at (b + 2) (w32 ((μ3 b 5) - 1)) μ3) fun a5 μ6 =>
if (μ6 b 1) = 0 then (q_bd (X_at (v1 + 1) v2 μ6) fun a7 μ8 =>
if a7 = 3 then (some (1, μ8))
else (if (aAnd a2 (aXor a5 (-1))) = 0 then (some (1, μ8))
else (some (0, μ8))))
else (q_bd (Ln_timesRead v1 v2 μ6) fun a9 μ10 =>
q_pf b 9 (w32 ((μ6 b 9) + a9)) μ10 fun μ11 =>
q_bd (X_put (b + 2) (w32 ((μ11 b 5) - 1)) (aAnd a5 (aXor a2 (-1))) μ11) fun a12 μ13 =>
some (1, μ13))
noncomputable def Rk_joined (v0 : Int) (v1 : Int) (v2 : Int) (μ : am_M) : am_O :=
if v0 = 43 then (some ((w32 (v1 + v2)), μ))
else (if v0 = 45 then (some ((w32 (v1 - v2)), μ))
else (if v0 = 60 then (if v1 < v2 then (some (1, μ))
else (some (0, μ)))
else (if v0 = 61 then (if v1 = v2 then (some (1, μ))
else (some (0, μ)))
else (if v0 = 115 then (if v1 = 0 then (some (0, μ))
else (if v2 = 0 then (some (0, μ))
else (some (1, μ))))
else (if v0 = 116 then (if v1 = 0 then (if v2 = 0 then (some (0, μ))
else (some (1, μ)))
else (some (1, μ)))
else (some ((w32 (v1 * v2)), μ)))))))
noncomputable def Rk_reckon_B178 (k23 : Int → Int → Int → Int → Int → Int → am_M → am_O) (v1 : Int) (v3 : Int) (v4 : Int) (v5 : Int) (v6 : Int) (v7 : Int) (μ : am_M) : am_O :=
k23 v1 v3 v4 v5 v6 (w32 (v7 + 1)) μ
noncomputable def Rk_reckon_B133 (k23 : Int → Int → Int → Int → Int → Int → am_M → am_O) (v1 : Int) (v3 : Int) (v4 : Int) (v5 : Int) (v6 : Int) (v7 : Int) (s1 : Int) (s2 : Int) (μ : am_M) : am_O :=
q_bd (X_put 41 s1 s2 μ) fun a1 μ2 =>
Rk_reckon_B178 k23 v1 v3 v4 v5 v6 v7 μ2
noncomputable def Rk_reckon_L23_b (k23 : Int → Int → Int → Int → Int → Int → am_M → am_O) (v1 : Int) (v3 : Int) (v4 : Int) (v5 : Int) (v6 : Int) (v7 : Int) (μ : am_M) : am_O :=
if v7 < v6 then (q_gd 2 v1 <|
q_bd (Ln_codeKind v1 v7 μ) fun a4 μ5 =>
if a4 = 3 then (q_bd (Ln_codeNumber v1 v7 μ5) fun a22 μ23 =>
q_bd (X_put 41 v5 a22 μ23) fun a24 μ25 =>
Rk_reckon_B178 k23 v1 v3 v4 (w32 (v5 + 1)) v6 v7 μ25)
else (if a4 = 2 then (q_bd (Ln_codeNumber v1 v7 μ5) fun a16 μ17 =>
q_bd (X_at v3 (w32 (v4 + a16)) μ17) fun a18 μ19 =>
q_bd (X_put 41 v5 a18 μ19) fun a20 μ21 =>
Rk_reckon_B178 k23 v1 v3 v4 (w32 (v5 + 1)) v6 v7 μ21)
else (if a4 = 114 then (q_bd (X_at 41 (w32 (v5 - 1)) μ5) fun a14 μ15 =>
if a14 = 0 then (Rk_reckon_B133 k23 v1 v3 v4 v5 v6 v7 (w32 (v5 - 1)) 1 μ15)
else (Rk_reckon_B133 k23 v1 v3 v4 v5 v6 v7 (w32 (v5 - 1)) 0 μ15))
else (q_bd (X_at 41 (w32 ((w32 (v5 + (-1))) - 1)) μ5) fun a6 μ7 =>
q_bd (X_at 41 (w32 (v5 + (-1))) μ7) fun a8 μ9 =>
q_bd (Rk_joined a4 a6 a8 μ9) fun a10 μ11 =>
q_bd (X_put 41 (w32 ((w32 (v5 + (-1))) - 1)) a10 μ11) fun a12 μ13 =>
Rk_reckon_B178 k23 v1 v3 v4 (w32 (v5 + (-1))) v6 v7 μ13))))
else (q_bd (X_at 41 0 μ) fun a1 μ2 =>
some (a1, μ2))
noncomputable def Rk_reckon_L23 : Nat → Int → Int → Int → Int → Int → Int → am_M → am_O
  | 0, _, _, _, _, _, _, _ => none
  | n + 1, v1, v3, v4, v5, v6, v7, μ => Rk_reckon_L23_b (Rk_reckon_L23 n) v1 v3 v4 v5 v6 v7 μ
noncomputable def Rk_reckon (v1 : Int) (v2 : Int) (v3 : Int) (v4 : Int) (μ : am_M) : am_O :=
q_gd 2 v1 <|
q_bd (X_at (v1 + 9) v2 μ) fun a2 μ3 =>
q_bd (X_at (v1 + 8) v2 μ3) fun a4 μ5 =>
Rk_reckon_L23  am_FU v1 v3 v4 0 a2 a4 μ5
noncomputable def Mc_reckoned (b : Int) (v1 : Int) (v2 : Int) (μ : am_M) : am_O :=
q_gd 3 b <|
q_bd (Rk_reckon v1 v2 (b + 3) (w32 ((w32 ((μ b 5) - 1)) * 10)) μ) fun a2 μ3 =>
some (a2, μ3)
noncomputable def Mc_lay (b : Int) (v1 : Int) (v2 : Int) (μ : am_M) : am_O :=
if v1 = (-1) then (some (0, μ))
else (q_gd 3 b <|
q_bd (X_at (b + 2) (w32 ((μ b 5) - 1)) μ) fun a2 μ3 =>
q_bd (X_put (b + 2) (w32 ((μ b 5) - 1)) (aOr a2 (aShl 1 v1)) μ3) fun a4 μ5 =>
q_bd (X_put (b + 3) (w32 ((w32 ((w32 ((μ b 5) - 1)) * 10)) + v1)) v2 μ5) fun a6 μ7 =>
some (0, μ7))
noncomputable def Mc_dropGone (b : Int) (v1 : Int) (v2 : Int) (μ : am_M) : am_O :=
q_gd 3 b <|
if (μ b 1) = 0 then (some (0, μ))
else (q_bd (X_at (b + 2) (w32 ((μ b 5) - 1)) μ) fun a2 μ3 =>
q_gd 2 v1 <|
q_bd (X_at (v1 + 7) v2 μ3) fun a5 μ6 =>
q_bd (JI_bitCount (aAnd a2 a5) μ6) fun a7 μ8 =>
q_pf b 9 (w32 ((μ6 b 9) + a7)) μ8 fun μ9 =>
q_bd (X_put (b + 2) (w32 ((μ9 b 5) - 1)) (aAnd a2 (aXor a5 (-1))) μ9) fun a10 μ11 =>
some (0, μ11))
noncomputable def Mc_workCall_L40_b (k40 : Int → Int → Int → Int → Int → Int → Int → Int → am_M → am_O) (b : Int) (v1 : Int) (v2 : Int) (v3 : Int) (v4 : Int) (v5 : Int) (v6 : Int) (v7 : Int) (μ : am_M) : am_O :=
if v7 < v6 then (q_gd 2 v3 <|
q_bd (X_at (v3 + 8) v2 μ) fun a5 μ6 =>
q_bd (Ln_codeNumber v3 (w32 (a5 + v7)) μ6) fun a7 μ8 =>
q_gd 3 b <|
q_bd (X_at (b + 3) (w32 (v5 + a7)) μ8) fun a10 μ11 =>
q_bd (X_put (b + 3) (w32 ((w32 (v5 + 10)) + v7)) a10 μ11) fun a12 μ13 =>
k40 b v1 v2 v3 v4 v5 v6 (w32 (v7 + 1)) μ13)
else (q_gd 3 b <|
q_bd (Mc_enter b v1 v4 μ) fun a2 μ3 =>
some (0, μ3))
noncomputable def Mc_workCall_L40 : Nat → Int → Int → Int → Int → Int → Int → Int → Int → am_M → am_O
  | 0, _, _, _, _, _, _, _, _, _ => none
  | n + 1, b, v1, v2, v3, v4, v5, v6, v7, μ => Mc_workCall_L40_b (Mc_workCall_L40 n) b v1 v2 v3 v4 v5 v6 v7 μ
noncomputable def Mc_workCall (b : Int) (v1 : Int) (v2 : Int) (μ : am_M) : am_O :=
q_gd 0 v1 <|
q_gd 2 (v1 + 1) <|
q_bd (X_at ((v1 + 1) + 5) v2 μ) fun a3 μ4 =>
q_gd 3 b <|
q_bd (X_at (v1 + 17) a3 μ4) fun a6 μ7 =>
Mc_workCall_L40  am_FU b v1 v2 (v1 + 1) a3 (w32 ((w32 ((μ4 b 5) - 1)) * 10)) a6 0 μ7
noncomputable def Mc_workGive (b : Int) (v1 : Int) (v2 : Int) (μ : am_M) : am_O :=
q_gd 3 b <|
q_bd (X_at (b + 2) (w32 ((μ b 5) - 1)) μ) fun a2 μ3 =>
q_bd (JI_bitCount a2 μ3) fun a4 μ5 =>
q_pf b 9 (w32 ((μ b 9) + a4)) μ5 fun μ6 =>
q_pf b 5 (w32 ((μ6 b 5) - 1)) μ6 fun μ7 =>
if (μ7 b 5) = 0 then (q_pf b 6 2 μ7 fun μ15 =>
q_pf b 7 v2 μ15 fun μ16 =>
some (0, μ16))
else (q_bd (X_at (b + 1) (w32 ((μ7 b 5) - 1)) μ7) fun a8 μ9 =>
q_gd 2 v1 <|
q_bd (X_at (v1 + 2) (w32 (a8 - 1)) μ9) fun a11 μ12 =>
q_bd (Mc_lay b a11 v2 μ12) fun a13 μ14 =>
some (0, μ14))
noncomputable def Mc_workKind_B117 (s0 : Int) (s1 : Int) (s2 : Int) (μ : am_M) : am_O :=
q_gd 3 s0 <|
q_pf s0 10 (w32 (s1 + s2)) μ fun μ2 =>
some (0, μ2)
noncomputable def Mc_workKind_B60 (b : Int) (v2 : Int) (v3 : Int) (v4 : Int) (μ : am_M) : am_O :=
q_gd 3 b <|
q_bd (Mc_reckoned b v4 v2 μ) fun a2 μ3 =>
q_gd 2 v4 <|
q_bd (X_at (v4 + 2) v2 μ3) fun a5 μ6 =>
q_bd (Mc_lay b a5 a2 μ6) fun a7 μ8 =>
q_bd (X_at (v4 + 3) v2 μ8) fun a9 μ10 =>
q_bd (Mc_lay b a9 a2 μ10) fun a11 μ12 =>
if v3 = 2 then (Mc_workKind_B117  b (μ12 b 10) (μ12 b 13) μ12)
else (Mc_workKind_B117  b (μ12 b 10) 0 μ12)
noncomputable def Mc_workKind (b : Int) (v1 : Int) (v2 : Int) (v3 : Int) (μ : am_M) : am_O :=
q_gd 0 v1 <|
q_gd 3 b <|
if v3 = 1 then (Mc_workKind_B60  b v2 v3 (v1 + 1) μ)
else (if v3 = 2 then (Mc_workKind_B60  b v2 v3 (v1 + 1) μ)
else (if v3 = 3 then (some (0, μ))
else (if v3 = 4 then (q_bd (Mc_workCall b v1 v2 μ) fun a3 μ4 =>
some (0, μ4))
else (if v3 = 5 then (q_bd (Mc_reckoned b (v1 + 1) v2 μ) fun a5 μ6 =>
if a5 = 0 then (q_gd 2 (v1 + 1) <|
q_bd (X_at ((v1 + 1) + 6) v2 μ6) fun a8 μ9 =>
q_bd (X_put (b + 1) (w32 ((μ b 5) - 1)) (w32 (a8 + 1)) μ9) fun a10 μ11 =>
some (0, μ11))
else (some (0, μ6)))
else (if v3 = 6 then (q_bd (Mc_dropGone b (v1 + 1) v2 μ) fun a12 μ13 =>
q_gd 2 (v1 + 1) <|
q_bd (X_at ((v1 + 1) + 6) v2 μ13) fun a15 μ16 =>
q_bd (X_put (b + 1) (w32 ((μ b 5) - 1)) (w32 (a15 + 1)) μ16) fun a17 μ18 =>
some (0, μ18))
else (if v3 = 7 then (q_bd (Mc_dropGone b (v1 + 1) v2 μ) fun a19 μ20 =>
some (0, μ20))
else (if v3 = 8 then (q_bd (Mc_reckoned b (v1 + 1) v2 μ) fun a21 μ22 =>
q_bd (Mc_workGive b (v1 + 1) a21 μ22) fun a23 μ24 =>
some (0, μ24))
else (some (0, μ)))))))))
noncomputable def Mc_work_B55 (b : Int) (v1 : Int) (v2 : Int) (v3 : Int) (v4 : Int) (v5 : Int) (μ : am_M) : am_O :=
q_gd 3 b <|
q_bd (Mc_readSlips b v2 v4 μ) fun a2 μ3 =>
if a2 = 0 then (q_pf b 6 5 μ3 fun μ11 =>
some (0, μ11))
else (q_bd (X_put (b + 1) v3 (w32 (v4 + 1)) μ3) fun a4 μ5 =>
q_bd (Mc_workKind b v1 v4 v5 μ5) fun a6 μ7 =>
q_pf b 11 (w32 ((μ7 b 11) + 1)) μ7 fun μ8 =>
q_bd (Mc_lookAtTable b μ8) fun a9 μ10 =>
some (1, μ10))
noncomputable def Mc_work (b : Int) (v1 : Int) (μ : am_M) : am_O :=
q_gd 0 v1 <|
q_gd 3 b <|
q_bd (X_at (b + 1) (w32 ((μ b 5) - 1)) μ) fun a3 μ4 =>
q_gd 2 (v1 + 1) <|
q_bd (X_at ((v1 + 1) + 1) a3 μ4) fun a6 μ7 =>
if a6 = 4 then (if (μ7 b 5) < 16 then (Mc_work_B55  b v1 (v1 + 1) (w32 ((μ b 5) - 1)) a3 a6 μ7)
else (q_pf b 6 4 μ7 fun μ8 =>
some (0, μ8)))
else (Mc_work_B55  b v1 (v1 + 1) (w32 ((μ b 5) - 1)) a3 a6 μ7)
noncomputable def Mc_go_L2_b (k2 : Int → Int → Int → Int → am_M → am_O) (b : Int) (v1 : Int) (v2 : Int) (v3 : Int) (μ : am_M) : am_O :=
if v3 < v2 then (q_gd 3 b <|
if (μ b 6) = 1 then (q_bd (Mc_work b v1 μ) fun a2 μ3 =>
if a2 = 0 then (some (v3, μ3))
else (k2 b v1 v2 (w32 (v3 + 1)) μ3))
else (some (v3, μ)))
else (some (v3, μ))
noncomputable def Mc_go_L2 : Nat → Int → Int → Int → Int → am_M → am_O
  | 0, _, _, _, _, _ => none
  | n + 1, b, v1, v2, v3, μ => Mc_go_L2_b (Mc_go_L2 n) b v1 v2 v3 μ
noncomputable def Mc_go (b : Int) (v1 : Int) (v2 : Int) (μ : am_M) : am_O :=
Mc_go_L2  am_FU b v1 v2 0 μ
noncomputable def Mc_tell (b : Int) (v1 : Int) (μ : am_M) : am_O :=
if v1 = 0 then (q_gd 3 b <|
some ((μ b 6), μ))
else (if v1 = 1 then (q_gd 3 b <|
if (μ b 6) = 1 then (q_bd (X_at (b + 1) (w32 ((μ b 5) - 1)) μ) fun a3 μ4 =>
some (a3, μ4))
else (some ((-1), μ)))
else (if v1 = 2 then (q_gd 3 b <|
q_bd (Mc_lying b μ) fun a6 μ7 =>
some (a6, μ7))
else (if v1 = 3 then (q_gd 3 b <|
some ((μ b 8), μ))
else (if v1 = 4 then (q_gd 3 b <|
some ((μ b 9), μ))
else (if v1 = 5 then (q_gd 3 b <|
some ((μ b 10), μ))
else (if v1 = 6 then (q_gd 3 b <|
some ((μ b 11), μ))
else (if v1 = 7 then (q_gd 3 b <|
some ((μ b 5), μ))
else (some ((-1), μ)))))))))
noncomputable def Or_forget  (μ : am_M) : am_O :=
q_pf 60 9 (-1) μ fun μ1 =>
some (0, μ1)
noncomputable def Or_slipOf (v1 : Int) (μ : am_M) : am_O :=
some ((w32 ((μ 60 7) + v1)), μ)
noncomputable def Or_countStands_L13_b (k2 : Int → Int → Int → am_M → am_O) (k13 : Int → Int → Int → Int → am_M → am_O) (v1 : Int) (v2 : Int) (v3 : Int) (v4 : Int) (μ : am_M) : am_O :=
q_bd (Or_slipOf (μ 60 8) μ) fun a1 μ2 =>
if v4 < a1 then (q_gd 2 v1 <|
q_bd (Ln_timesRead_ v1 (w32 (v2 + v3)) v4 μ2) fun a4 μ5 =>
q_bd (X_put 61 (w32 ((w32 (v3 * 10)) + v4)) a4 μ5) fun a6 μ7 =>
k13 v1 v2 v3 (w32 (v4 + 1)) μ7)
else (k2 v1 v2 (w32 (v3 + 1)) μ2)
noncomputable def Or_countStands_L13 (k2 : Int → Int → Int → am_M → am_O) : Nat → Int → Int → Int → Int → am_M → am_O
  | 0, _, _, _, _, _ => none
  | n + 1, v1, v2, v3, v4, μ => Or_countStands_L13_b k2 (Or_countStands_L13 k2 n) v1 v2 v3 v4 μ
noncomputable def Or_countStands_L2_b (k2 : Int → Int → Int → am_M → am_O) (v1 : Int) (v2 : Int) (v3 : Int) (μ : am_M) : am_O :=
if v3 ≤ (μ 60 8) then (Or_countStands_L13 k2 am_FU v1 v2 v3 0 μ)
else (some (0, μ))
noncomputable def Or_countStands_L2 : Nat → Int → Int → Int → am_M → am_O
  | 0, _, _, _, _ => none
  | n + 1, v1, v2, v3, μ => Or_countStands_L2_b (Or_countStands_L2 n) v1 v2 v3 μ
noncomputable def Or_countStands (v1 : Int) (v2 : Int) (μ : am_M) : am_O :=
Or_countStands_L2  am_FU v1 v2 0 μ
noncomputable def Or_standing (v1 : Int) (v2 : Int) (μ : am_M) : am_O :=
q_bd (X_at 61 (w32 ((w32 (v1 * 10)) + v2)) μ) fun a1 μ2 =>
some (a1, μ2)
noncomputable def Or_findReaders_B107 (k31 : Int → am_M → am_O) (k43 : Int → Int → Int → am_M → am_O) (v1 : Int) (v2 : Int) (v3 : Int) (μ : am_M) : am_O :=
k43 v1 v2 (w32 (v3 + 1)) μ
noncomputable def Or_findReaders_B105 (k31 : Int → am_M → am_O) (k43 : Int → Int → Int → am_M → am_O) (v1 : Int) (v3 : Int) (s0 : Int) (s1 : Int) (μ : am_M) : am_O :=
Or_findReaders_B107 k31 k43 v1 (aOr s0 s1) v3 μ
noncomputable def Or_findReaders_L43_b (k31 : Int → am_M → am_O) (k43 : Int → Int → Int → am_M → am_O) (v1 : Int) (v2 : Int) (v3 : Int) (μ : am_M) : am_O :=
q_bd (Or_slipOf (μ 60 8) μ) fun a1 μ2 =>
if v3 < a1 then (q_bd (Or_standing v1 v3 μ2) fun a5 μ6 =>
if a5 ≤ 0 then (Or_findReaders_B107 k31 k43 v1 v2 v3 μ6)
else (q_bd (X_at 63 v3 μ6) fun a7 μ8 =>
q_bd (X_put 63 v3 (aOr a7 (aShl 1 v1)) μ8) fun a9 μ10 =>
if v3 < (μ10 60 7) then (Or_findReaders_B105 k31 k43 v1 v3 v2 0 μ10)
else (Or_findReaders_B105 k31 k43 v1 v3 v2 (aShl 1 (w32 (v3 - (μ10 60 7)))) μ10)))
else (q_bd (X_put 62 v1 v2 μ2) fun a3 μ4 =>
k31 (w32 (v1 + 1)) μ4)
noncomputable def Or_findReaders_L43 (k31 : Int → am_M → am_O) : Nat → Int → Int → Int → am_M → am_O
  | 0, _, _, _, _ => none
  | n + 1, v1, v2, v3, μ => Or_findReaders_L43_b k31 (Or_findReaders_L43 k31 n) v1 v2 v3 μ
noncomputable def Or_findReaders_L31_b (k31 : Int → am_M → am_O) (v1 : Int) (μ : am_M) : am_O :=
if v1 ≤ (μ 60 8) then (Or_findReaders_L43 k31 am_FU v1 0 0 μ)
else (some (0, μ))
noncomputable def Or_findReaders_L31 : Nat → Int → am_M → am_O
  | 0, _, _ => none
  | n + 1, v1, μ => Or_findReaders_L31_b (Or_findReaders_L31 n) v1 μ
noncomputable def Or_findReaders_L2_b (k2 : Int → am_M → am_O) (v1 : Int) (μ : am_M) : am_O :=
q_bd (Or_slipOf (μ 60 8) μ) fun a1 μ2 =>
if v1 < a1 then (q_bd (X_put 63 v1 0 μ2) fun a3 μ4 =>
k2 (w32 (v1 + 1)) μ4)
else (Or_findReaders_L31  am_FU 0 μ2)
noncomputable def Or_findReaders_L2 : Nat → Int → am_M → am_O
  | 0, _, _ => none
  | n + 1, v1, μ => Or_findReaders_L2_b (Or_findReaders_L2 n) v1 μ
noncomputable def Or_findReaders  (μ : am_M) : am_O :=
Or_findReaders_L2  am_FU 0 μ
noncomputable def Or_countLying_B70 (k4 : Int → Int → Int → am_M → am_O) (v1 : Int) (v3 : Int) (s0 : Int) (s1 : Int) (μ : am_M) : am_O :=
k4 v1 (w32 (s0 + s1)) (w32 (v3 + 1)) μ
noncomputable def Or_countLying_B69 (k4 : Int → Int → Int → am_M → am_O) (v1 : Int) (v3 : Int) (s0 : Int) (μ : am_M) : am_O :=
Or_countLying_B70 k4 v1 v3 s0 0 μ
noncomputable def Or_countLying_B42 (k4 : Int → Int → Int → am_M → am_O) (v1 : Int) (v2 : Int) (v3 : Int) (s0 : Int) (μ : am_M) : am_O :=
if s0 = 0 then (Or_countLying_B69 k4 v1 v3 v2 μ)
else (q_bd (X_at 63 v3 μ) fun a1 μ2 =>
if (aAnd a1 (aXor v1 (-1))) = 0 then (Or_countLying_B69 k4 v1 v3 v2 μ2)
else (Or_countLying_B70 k4 v1 v3 v2 1 μ2))
noncomputable def Or_countLying_B37 (k4 : Int → Int → Int → am_M → am_O) (v1 : Int) (v2 : Int) (v3 : Int) (μ : am_M) : am_O :=
Or_countLying_B42 k4 v1 v2 v3 1 μ
noncomputable def Or_countLying_L4_b (k4 : Int → Int → Int → am_M → am_O) (v1 : Int) (v2 : Int) (v3 : Int) (μ : am_M) : am_O :=
q_bd (Or_slipOf (μ 60 8) μ) fun a1 μ2 =>
if v3 < a1 then (if v3 < (μ2 60 7) then (Or_countLying_B37 k4 v1 v2 v3 μ2)
else (if (aAnd (aShr v1 (w32 (v3 - (μ2 60 7)))) 1) = 0 then (Or_countLying_B42 k4 v1 v2 v3 0 μ2)
else (Or_countLying_B37 k4 v1 v2 v3 μ2)))
else (some (v2, μ2))
noncomputable def Or_countLying_L4 : Nat → Int → Int → Int → am_M → am_O
  | 0, _, _, _, _ => none
  | n + 1, v1, v2, v3, μ => Or_countLying_L4_b (Or_countLying_L4 n) v1 v2 v3 μ
noncomputable def Or_countLying (v1 : Int) (μ : am_M) : am_O :=
Or_countLying_L4  am_FU v1 0 0 μ
noncomputable def Or_mayFollow (v1 : Int) (v2 : Int) (μ : am_M) : am_O :=
if (aAnd (aShr v2 v1) 1) = 0 then (q_bd (X_at 62 v1 μ) fun a1 μ2 =>
if (aAnd a1 (aXor v2 (-1))) = 0 then (some (1, μ2))
else (some (0, μ2)))
else (some (0, μ))
noncomputable def Or_allSums  (μ : am_M) : am_O :=
some ((w32 ((aShl 1 (μ 60 8)) - 1)), μ)
noncomputable def Or_findBest_B73 (k5 : Int → am_M → am_O) (k39 : Int → Int → Int → am_M → am_O) (v1 : Int) (v2 : Int) (v3 : Int) (μ : am_M) : am_O :=
k39 v1 v2 (w32 (v3 + 1)) μ
noncomputable def Or_findBest_L39_b (k5 : Int → am_M → am_O) (k39 : Int → Int → Int → am_M → am_O) (v1 : Int) (v2 : Int) (v3 : Int) (μ : am_M) : am_O :=
if v3 < (μ 60 8) then (q_bd (Or_mayFollow v3 v1 μ) fun a6 μ7 =>
if a6 = 0 then (Or_findBest_B73 k5 k39 v1 v2 v3 μ7)
else (q_bd (X_at 66 (aOr v1 (aShl 1 v3)) μ7) fun a8 μ9 =>
q_lt (if a8 < v2 then a8 else v2) fun a10 =>
Or_findBest_B73 k5 k39 v1 a10 v3 μ9))
else (q_bd (X_at 65 v1 μ) fun a1 μ2 =>
q_lt (if v2 < a1 then a1 else v2) fun a3 =>
q_bd (X_put 66 v1 a3 μ2) fun a4 μ5 =>
k5 (w32 (v1 + (-1))) μ5)
noncomputable def Or_findBest_L39 (k5 : Int → am_M → am_O) : Nat → Int → Int → Int → am_M → am_O
  | 0, _, _, _, _ => none
  | n + 1, v1, v2, v3, μ => Or_findBest_L39_b k5 (Or_findBest_L39 k5 n) v1 v2 v3 μ
noncomputable def Or_findBest_B36 (k5 : Int → am_M → am_O) (v1 : Int) (s0 : Int) (μ : am_M) : am_O :=
Or_findBest_L39 k5 am_FU v1 s0 0 μ
noncomputable def Or_findBest_L5_b (k5 : Int → am_M → am_O) (v1 : Int) (μ : am_M) : am_O :=
if v1 < 0 then (some (0, μ))
else (q_bd (Or_countLying v1 μ) fun a1 μ2 =>
q_bd (X_put 65 v1 a1 μ2) fun a3 μ4 =>
q_bd (Or_allSums  μ4) fun a5 μ6 =>
if v1 = a5 then (Or_findBest_B36 k5 v1 0 μ6)
else (Or_findBest_B36 k5 v1 2147483647 μ6))
noncomputable def Or_findBest_L5 : Nat → Int → am_M → am_O
  | 0, _, _ => none
  | n + 1, v1, μ => Or_findBest_L5_b (Or_findBest_L5 n) v1 μ
noncomputable def Or_findBest  (μ : am_M) : am_O :=
q_bd (Or_allSums  μ) fun a1 μ2 =>
Or_findBest_L5  am_FU a1 μ2
noncomputable def Or_prepare (v1 : Int) (v2 : Int) (μ : am_M) : am_O :=
q_gd 0 v1 <|
q_bd (Bi_has v1 v2 μ) fun a2 μ3 =>
if a2 = 0 then (some (0, μ3))
else (q_bd (Bi_isPlain v1 v2 μ3) fun a4 μ5 =>
if a4 = 0 then (some (0, μ5))
else (q_bd (X_at (v1 + 16) v2 μ5) fun a6 μ7 =>
q_bd (X_at (v1 + 17) v2 μ7) fun a8 μ9 =>
if (w32 ((w32 (a6 - a8)) - 1)) ≤ 12 then (if (w32 ((w32 (a6 - a8)) - 1)) ≤ 10 then (if (μ9 60 9) = v2 then (some (1, μ9))
else (q_bd (X_at (v1 + 17) v2 μ9) fun a10 μ11 =>
q_pf 60 7 a10 μ11 fun μ12 =>
q_pf 60 8 (w32 ((w32 (a6 - a8)) - 1)) μ12 fun μ13 =>
q_bd (X_at (v1 + 15) v2 μ13) fun a14 μ15 =>
q_bd (Or_countStands (v1 + 1) (w32 (a14 + (μ15 60 7))) μ15) fun a16 μ17 =>
q_bd (Or_findReaders  μ17) fun a18 μ19 =>
q_bd (Or_findBest  μ19) fun a20 μ21 =>
q_pf 60 9 v2 μ21 fun μ22 =>
some (1, μ22)))
else (some (0, μ9)))
else (some (0, μ9))))
noncomputable def Or_least  (μ : am_M) : am_O :=
q_bd (X_at 66 0 μ) fun a1 μ2 =>
some (a1, μ2)
noncomputable def Or_firstFollowing_B40 (k2 : Int → Int → am_M → am_O) (v1 : Int) (v2 : Int) (μ : am_M) : am_O :=
k2 v1 (w32 (v2 + 1)) μ
noncomputable def Or_firstFollowing_L2_b (k2 : Int → Int → am_M → am_O) (v1 : Int) (v2 : Int) (μ : am_M) : am_O :=
if v2 < (μ 60 8) then (q_bd (Or_mayFollow v2 v1 μ) fun a1 μ2 =>
if a1 = 0 then (Or_firstFollowing_B40 k2 v1 v2 μ2)
else (q_bd (X_at 66 (aOr v1 (aShl 1 v2)) μ2) fun a3 μ4 =>
q_bd (Or_least  μ4) fun a5 μ6 =>
if a3 ≤ a5 then (some (v2, μ6))
else (Or_firstFollowing_B40 k2 v1 v2 μ6)))
else (some ((-1), μ))
noncomputable def Or_firstFollowing_L2 : Nat → Int → Int → am_M → am_O
  | 0, _, _, _ => none
  | n + 1, v1, v2, μ => Or_firstFollowing_L2_b (Or_firstFollowing_L2 n) v1 v2 μ
noncomputable def Or_firstFollowing (v1 : Int) (μ : am_M) : am_O :=
Or_firstFollowing_L2  am_FU v1 0 μ
noncomputable def Or_sumAt_B46 (k21 : Int → Int → Int → Int → am_M → am_O) (v1 : Int) (v3 : Int) (v4 : Int) (s0 : Int) (s1 : Int) (μ : am_M) : am_O :=
k21 v1 (aOr s0 s1) v3 (w32 (v4 + 1)) μ
noncomputable def Or_sumAt_L21_b (k21 : Int → Int → Int → Int → am_M → am_O) (v1 : Int) (v2 : Int) (v3 : Int) (v4 : Int) (μ : am_M) : am_O :=
if v4 ≤ v1 then (q_bd (Or_firstFollowing v2 μ) fun a1 μ2 =>
if a1 = (-1) then (Or_sumAt_B46 k21 v1 a1 v4 v2 0 μ2)
else (Or_sumAt_B46 k21 v1 a1 v4 v2 (aShl 1 a1) μ2))
else (some (v3, μ))
noncomputable def Or_sumAt_L21 : Nat → Int → Int → Int → Int → am_M → am_O
  | 0, _, _, _, _, _ => none
  | n + 1, v1, v2, v3, v4, μ => Or_sumAt_L21_b (Or_sumAt_L21 n) v1 v2 v3 v4 μ
noncomputable def Or_sumAt (v1 : Int) (μ : am_M) : am_O :=
if v1 < 0 then (some ((-1), μ))
else (if v1 < (μ 60 8) then (Or_sumAt_L21  am_FU v1 0 (-1) 0 μ)
else (some ((-1), μ)))
noncomputable def Or_greatestAsTold_L4_b (k4 : Int → Int → am_M → am_O) (v1 : Int) (v2 : Int) (μ : am_M) : am_O :=
if v2 ≤ (μ 60 8) then (q_bd (X_at 65 (w32 ((aShl 1 v2) - 1)) μ) fun a1 μ2 =>
q_lt (if v1 < a1 then a1 else v1) fun a3 =>
k4 a3 (w32 (v2 + 1)) μ2)
else (some (v1, μ))
noncomputable def Or_greatestAsTold_L4 : Nat → Int → Int → am_M → am_O
  | 0, _, _, _ => none
  | n + 1, v1, v2, μ => Or_greatestAsTold_L4_b (Or_greatestAsTold_L4 n) v1 v2 μ
noncomputable def Or_greatestAsTold  (μ : am_M) : am_O :=
Or_greatestAsTold_L4  am_FU 0 0 μ
noncomputable def Or_countFollowing_B52 (k5 : Int → Int → Int → am_M → am_O) (v1 : Int) (v2 : Int) (v4 : Int) (μ : am_M) : am_O :=
k5 v1 v2 (w32 (v4 + 1)) μ
noncomputable def Or_countFollowing_L5_b (k5 : Int → Int → Int → am_M → am_O) (v1 : Int) (v2 : Int) (v4 : Int) (μ : am_M) : am_O :=
if v4 < (μ 60 8) then (q_bd (Or_mayFollow v4 v1 μ) fun a1 μ2 =>
if a1 = 0 then (Or_countFollowing_B52 k5 v1 v2 v4 μ2)
else (if (aOr v1 (aShl 1 v4)) < 1024 then (q_ld 1024 67 (aOr v1 (aShl 1 v4)) μ2 fun a3 =>
Or_countFollowing_B52 k5 v1 (w64 (v2 + a3)) v4 μ2)
else (Or_countFollowing_B52 k5 v1 v2 v4 μ2)))
else (some (v2, μ))
noncomputable def Or_countFollowing_L5 : Nat → Int → Int → Int → am_M → am_O
  | 0, _, _, _, _ => none
  | n + 1, v1, v2, v4, μ => Or_countFollowing_L5_b (Or_countFollowing_L5 n) v1 v2 v4 μ
noncomputable def Or_countFollowing (v1 : Int) (μ : am_M) : am_O :=
Or_countFollowing_L5  am_FU v1 0 0 μ
noncomputable def Or_howMany_B50 (k5 : Int → Int → am_M → am_O) (v1 : Int) (v2 : Int) (v3 : Int) (μ : am_M) : am_O :=
q_st 1024 67 v2 v3 μ fun μ1 =>
k5 v1 (w32 (v2 + (-1))) μ1
noncomputable def Or_howMany_B49 (k5 : Int → Int → am_M → am_O) (v1 : Int) (v2 : Int) (s0 : Int) (μ : am_M) : am_O :=
Or_howMany_B50 k5 v1 v2 s0 μ
noncomputable def Or_howMany_B63  (μ : am_M) : am_O :=
q_ld 1024 67 0 μ fun a1 =>
some (a1, μ)
noncomputable def Or_howMany_L5_b (k5 : Int → Int → am_M → am_O) (v1 : Int) (v2 : Int) (μ : am_M) : am_O :=
if v2 < 0 then (Or_howMany_B63  μ)
else (if v2 < 1024 then (q_bd (X_at 65 v2 μ) fun a1 μ2 =>
if a1 ≤ v1 then (q_bd (Or_allSums  μ2) fun a3 μ4 =>
if v2 = a3 then (Or_howMany_B49 k5 v1 v2 1 μ4)
else (q_bd (Or_countFollowing v2 μ4) fun a5 μ6 =>
Or_howMany_B49 k5 v1 v2 a5 μ6))
else (Or_howMany_B50 k5 v1 v2 0 μ2))
else (Or_howMany_B63  μ))
noncomputable def Or_howMany_L5 : Nat → Int → Int → am_M → am_O
  | 0, _, _, _ => none
  | n + 1, v1, v2, μ => Or_howMany_L5_b (Or_howMany_L5 n) v1 v2 μ
noncomputable def Or_howMany (v1 : Int) (μ : am_M) : am_O :=
q_bd (Or_allSums  μ) fun a1 μ2 =>
Or_howMany_L5  am_FU v1 a1 μ2
noncomputable def Or_leastCoin_L41_b (k27 : Int → Int → Int → am_M → am_O) (k41 : Int → Int → Int → Int → Int → am_M → am_O) (v1 : Int) (v2 : Int) (v3 : Int) (v4 : Int) (v5 : Int) (μ : am_M) : am_O :=
q_bd (Or_slipOf v3 μ) fun a1 μ2 =>
if v5 < a1 then (q_bd (Or_standing v3 v5 μ2) fun a8 μ9 =>
q_bd (X_at 64 v5 μ9) fun a10 μ11 =>
k41 v1 v2 v3 (w32 (v4 + (w32 (a8 * a10)))) (w32 (v5 + 1)) μ11)
else (q_bd (Or_slipOf v3 μ2) fun a3 μ4 =>
q_lt (if v4 < v1 then v4 else v1) fun a5 =>
q_bd (X_put 64 a3 a5 μ4) fun a6 μ7 =>
k27 v1 v2 (w32 (v3 + 1)) μ7)
noncomputable def Or_leastCoin_L41 (k27 : Int → Int → Int → am_M → am_O) : Nat → Int → Int → Int → Int → Int → am_M → am_O
  | 0, _, _, _, _, _, _ => none
  | n + 1, v1, v2, v3, v4, v5, μ => Or_leastCoin_L41_b k27 (Or_leastCoin_L41 k27 n) v1 v2 v3 v4 v5 μ
noncomputable def Or_leastCoin_L134_b (k115 : Int → Int → am_M → am_O) (k134 : Int → Int → Int → Int → am_M → am_O) (v3 : Int) (v5 : Int) (v6 : Int) (v7 : Int) (μ : am_M) : am_O :=
if v7 ≤ (μ 60 8) then (q_bd (Or_standing v7 v5 μ) fun a4 μ5 =>
k134 v3 v5 (w32 (v6 + a4)) (w32 (v7 + 1)) μ5)
else (q_lt (if 0 < (w32 (v6 - 1)) then (w32 (v6 - 1)) else 0) fun a1 =>
q_bd (X_at 64 v5 μ) fun a2 μ3 =>
k115 (w64 (v3 + (w64 (a1 * a2)))) (w32 (v5 + 1)) μ3)
noncomputable def Or_leastCoin_L134 (k115 : Int → Int → am_M → am_O) : Nat → Int → Int → Int → Int → am_M → am_O
  | 0, _, _, _, _, _ => none
  | n + 1, v3, v5, v6, v7, μ => Or_leastCoin_L134_b k115 (Or_leastCoin_L134 k115 n) v3 v5 v6 v7 μ
noncomputable def Or_leastCoin_L115_b (k115 : Int → Int → am_M → am_O) (v3 : Int) (v5 : Int) (μ : am_M) : am_O :=
q_bd (Or_slipOf (μ 60 8) μ) fun a1 μ2 =>
if v5 < a1 then (Or_leastCoin_L134 k115 am_FU v3 v5 0 0 μ2)
else (some (v3, μ2))
noncomputable def Or_leastCoin_L115 : Nat → Int → Int → am_M → am_O
  | 0, _, _, _ => none
  | n + 1, v3, v5, μ => Or_leastCoin_L115_b (Or_leastCoin_L115 n) v3 v5 μ
noncomputable def Or_leastCoin_L27_b (k27 : Int → Int → Int → am_M → am_O) (v1 : Int) (v2 : Int) (v3 : Int) (μ : am_M) : am_O :=
if v3 < (μ 60 8) then (Or_leastCoin_L41 k27 am_FU v1 v2 v3 v2 0 μ)
else (Or_leastCoin_L115  am_FU (w64 ((μ 60 8) * v2)) 0 μ)
noncomputable def Or_leastCoin_L27 : Nat → Int → Int → Int → am_M → am_O
  | 0, _, _, _, _ => none
  | n + 1, v1, v2, v3, μ => Or_leastCoin_L27_b (Or_leastCoin_L27 n) v1 v2 v3 μ
noncomputable def Or_leastCoin_L2_b (k2 : Int → Int → Int → am_M → am_O) (v1 : Int) (v2 : Int) (v3 : Int) (μ : am_M) : am_O :=
if v3 < (μ 60 7) then (q_bd (X_put 64 v3 v1 μ) fun a1 μ2 =>
k2 v1 v2 (w32 (v3 + 1)) μ2)
else (Or_leastCoin_L27  am_FU v1 v2 0 μ)
noncomputable def Or_leastCoin_L2 : Nat → Int → Int → Int → am_M → am_O
  | 0, _, _, _, _ => none
  | n + 1, v1, v2, v3, μ => Or_leastCoin_L2_b (Or_leastCoin_L2 n) v1 v2 v3 μ
noncomputable def Or_leastCoin (v1 : Int) (v2 : Int) (μ : am_M) : am_O :=
Or_leastCoin_L2  am_FU v1 v2 0 μ
noncomputable def Rd_fail (v1 : Int) (μ : am_M) : am_O :=
if (μ 20 10) = 0 then (q_pf 20 10 (w32 (v1 + (w32 (16 * (μ 10 3))))) μ fun μ1 =>
some (0, μ1))
else (some (0, μ))
noncomputable def Tp_withLetter (v0 : Int) (v2 : Int) (μ : am_M) : am_O :=
some ((w64 ((w64 (v0 * 32)) + (w32 ((w32 (v2 - 97)) + 1)))), μ)
noncomputable def Tp_isLetter (v0 : Int) (μ : am_M) : am_O :=
if v0 < 97 then (some (0, μ))
else (if v0 ≤ 122 then (some (1, μ))
else (some (0, μ)))
noncomputable def X_find_L3_b (k3 : Int → Int → Int → Int → am_M → am_O) (v0 : Int) (v1 : Int) (v2 : Int) (v4 : Int) (μ : am_M) : am_O :=
if v4 < v1 then (q_len v0 fun a1 =>
if v4 < a1 then (q_ld (am_lenK 1 v0) v0 v4 μ fun a2 =>
if (lCmp a2 v2) = 0 then (some (v4, μ))
else (k3 v0 v1 v2 (w32 (v4 + 1)) μ))
else (some ((-1), μ)))
else (some ((-1), μ))
noncomputable def X_find_L3 : Nat → Int → Int → Int → Int → am_M → am_O
  | 0, _, _, _, _, _ => none
  | n + 1, v0, v1, v2, v4, μ => X_find_L3_b (X_find_L3 n) v0 v1 v2 v4 μ
noncomputable def X_find (v0 : Int) (v1 : Int) (v2 : Int) (μ : am_M) : am_O :=
X_find_L3  am_FU v0 v1 v2 0 μ
noncomputable def Tp_readWord_B101 (v2 : Int) (s1 : Int) (μ : am_M) : am_O :=
q_pf 10 5 s1 μ fun μ1 =>
q_pf 10 7 v2 μ1 fun μ2 =>
some (0, μ2)
noncomputable def Tp_readWord_B49 (v1 : Int) (v2 : Int) (v4 : Int) (μ : am_M) : am_O :=
q_pf 10 4 v4 μ fun μ1 =>
if (w32 (v4 - v1)) ≤ 8 then (q_bd (X_find 12 17 v2 μ1) fun a2 μ3 =>
if a2 = (-1) then (Tp_readWord_B101  v2 2 μ3)
else (Tp_readWord_B101  v2 (w32 (100 + a2)) μ3))
else (q_pf 10 5 0 μ1 fun μ4 =>
some (0, μ4))
noncomputable def Tp_readWord_L5_b (k5 : Int → Int → Int → am_M → am_O) (v1 : Int) (v2 : Int) (v4 : Int) (μ : am_M) : am_O :=
if v4 < (μ 10 2) then (q_bd (X_at 11 v4 μ) fun a1 μ2 =>
q_bd (Tp_isLetter a1 μ2) fun a3 μ4 =>
if a3 = 0 then (Tp_readWord_B49  v1 v2 v4 μ4)
else (q_bd (X_at 11 v4 μ4) fun a5 μ6 =>
q_bd (Tp_withLetter v2 a5 μ6) fun a7 μ8 =>
k5 v1 a7 (w32 (v4 + 1)) μ8))
else (Tp_readWord_B49  v1 v2 v4 μ)
noncomputable def Tp_readWord_L5 : Nat → Int → Int → Int → am_M → am_O
  | 0, _, _, _, _ => none
  | n + 1, v1, v2, v4, μ => Tp_readWord_L5_b (Tp_readWord_L5 n) v1 v2 v4 μ
noncomputable def Tp_readWord (v1 : Int) (μ : am_M) : am_O :=
Tp_readWord_L5  am_FU v1 0 v1 μ
noncomputable def Tp_isDigit (v0 : Int) (μ : am_M) : am_O :=
if v0 < 48 then (some (0, μ))
else (if v0 ≤ 57 then (some (1, μ))
else (some (0, μ)))
noncomputable def Tp_readNumber_B67 (v2 : Int) (s1 : Int) (μ : am_M) : am_O :=
q_pf 10 5 s1 μ fun μ1 =>
q_pf 10 6 v2 μ1 fun μ2 =>
some (0, μ2)
noncomputable def Tp_readNumber_B49 (v1 : Int) (v2 : Int) (v3 : Int) (μ : am_M) : am_O :=
q_pf 10 4 v3 μ fun μ1 =>
if (w32 (v3 - v1)) ≤ 4 then (Tp_readNumber_B67  v2 3 μ1)
else (Tp_readNumber_B67  v2 0 μ1)
noncomputable def Tp_readNumber_L4_b (k4 : Int → Int → Int → am_M → am_O) (v1 : Int) (v2 : Int) (v3 : Int) (μ : am_M) : am_O :=
if v3 < (μ 10 2) then (q_bd (X_at 11 v3 μ) fun a1 μ2 =>
q_bd (Tp_isDigit a1 μ2) fun a3 μ4 =>
if a3 = 0 then (Tp_readNumber_B49  v1 v2 v3 μ4)
else (q_bd (X_at 11 v3 μ4) fun a5 μ6 =>
q_lt (w32 ((w32 ((w32 (v2 * 10)) + a5)) - 48)) fun a7 =>
k4 v1 a7 (w32 (v3 + 1)) μ6))
else (Tp_readNumber_B49  v1 v2 v3 μ)
noncomputable def Tp_readNumber_L4 : Nat → Int → Int → Int → am_M → am_O
  | 0, _, _, _, _ => none
  | n + 1, v1, v2, v3, μ => Tp_readNumber_L4_b (Tp_readNumber_L4 n) v1 v2 v3 μ
noncomputable def Tp_readNumber (v1 : Int) (μ : am_M) : am_O :=
Tp_readNumber_L4  am_FU v1 0 v1 μ
noncomputable def Tp_isBlank (v0 : Int) (μ : am_M) : am_O :=
if v0 = 10 then (some (1, μ))
else (if v0 = 32 then (some (1, μ))
else (some (0, μ)))
noncomputable def Tp_isSign (v0 : Int) (μ : am_M) : am_O :=
if v0 = 40 then (some (1, μ))
else (if v0 = 41 then (some (1, μ))
else (if v0 = 42 then (some (1, μ))
else (if v0 = 43 then (some (1, μ))
else (if v0 = 44 then (some (0, μ))
else (if v0 = 45 then (some (1, μ))
else (if v0 = 46 then (some (0, μ))
else (if v0 = 47 then (some (0, μ))
else (if v0 = 48 then (some (0, μ))
else (if v0 = 49 then (some (0, μ))
else (if v0 = 50 then (some (0, μ))
else (if v0 = 51 then (some (0, μ))
else (if v0 = 52 then (some (0, μ))
else (if v0 = 53 then (some (0, μ))
else (if v0 = 54 then (some (0, μ))
else (if v0 = 55 then (some (0, μ))
else (if v0 = 56 then (some (0, μ))
else (if v0 = 57 then (some (0, μ))
else (if v0 = 58 then (some (0, μ))
else (if v0 = 59 then (some (1, μ))
else (if v0 = 60 then (some (1, μ))
else (if v0 = 61 then (some (1, μ))
else (some (0, μ)))))))))))))))))))))))
noncomputable def Tp_advance_B112 (v1 : Int) (s1 : Int) (μ : am_M) : am_O :=
q_pf 10 5 s1 μ fun μ1 =>
q_pf 10 4 (w32 (v1 + 1)) μ1 fun μ2 =>
some (0, μ2)
noncomputable def Tp_advance_B33 (v1 : Int) (μ : am_M) : am_O :=
q_pf 10 3 v1 μ fun μ1 =>
if v1 < (μ1 10 2) then (q_bd (X_at 11 v1 μ1) fun a2 μ3 =>
q_bd (Tp_isLetter a2 μ3) fun a4 μ5 =>
if a4 = 0 then (q_bd (Tp_isDigit a2 μ5) fun a6 μ7 =>
if a6 = 0 then (q_bd (Tp_isSign a2 μ7) fun a8 μ9 =>
if a8 = 0 then (Tp_advance_B112  v1 0 μ9)
else (Tp_advance_B112  v1 a2 μ9))
else (q_bd (Tp_readNumber v1 μ7) fun a10 μ11 =>
some (0, μ11)))
else (q_bd (Tp_readWord v1 μ5) fun a12 μ13 =>
some (0, μ13)))
else (q_pf 10 5 1 μ1 fun μ14 =>
q_pf 10 4 (μ14 10 2) μ14 fun μ15 =>
some (0, μ15))
noncomputable def Tp_advance_L5_b (k5 : Int → am_M → am_O) (v1 : Int) (μ : am_M) : am_O :=
if v1 < (μ 10 2) then (q_bd (X_at 11 v1 μ) fun a1 μ2 =>
q_bd (Tp_isBlank a1 μ2) fun a3 μ4 =>
if a3 = 0 then (Tp_advance_B33  v1 μ4)
else (k5 (w32 (v1 + 1)) μ4))
else (Tp_advance_B33  v1 μ)
noncomputable def Tp_advance_L5 : Nat → Int → am_M → am_O
  | 0, _, _ => none
  | n + 1, v1, μ => Tp_advance_L5_b (Tp_advance_L5 n) v1 μ
noncomputable def Tp_advance  (μ : am_M) : am_O :=
Tp_advance_L5  am_FU (μ 10 4) μ
noncomputable def Rd_expect (v1 : Int) (μ : am_M) : am_O :=
if (μ 10 5) = v1 then (q_bd (Tp_advance  μ) fun a1 μ2 =>
some (1, μ2))
else (q_bd (Rd_fail 1 μ) fun a3 μ4 =>
q_rb a3 (some (a3, μ4)))
noncomputable def Rd_endHead (v1 : Int) (v2 : Int) (μ : am_M) : am_O :=
if v1 = 0 then (q_bd (Rd_expect 59 μ) fun a1 μ2 =>
if a1 = 0 then (some (0, μ2))
else (q_gd 0 (μ2 20 4) <|
q_pf 20 11 (μ2 (μ2 20 4) 13) μ2 fun μ4 =>
q_gd 0 (μ4 20 4) <|
q_bd (Bi_addBill (μ4 20 4) v2 μ4) fun a6 μ7 =>
q_pf 20 6 0 μ7 fun μ8 =>
q_pf 20 7 0 μ8 fun μ9 =>
q_pfb 20 13 1 μ9 fun μ10 =>
some (0, μ10)))
else (q_bd (Rd_expect 3 μ) fun a11 μ12 =>
if a11 = 0 then (some (0, μ12))
else (q_bd (Rd_expect 59 μ12) fun a13 μ14 =>
if a13 = 0 then (some (0, μ14))
else (q_gd 0 (μ14 20 4) <|
q_bd (Bi_addWall (μ14 20 4) v2 (μ 10 6) μ14) fun a16 μ17 =>
some (0, μ17))))
noncomputable def Rd_isWall  (μ : am_M) : am_O :=
q_gd 0 (μ 20 4) <|
q_bd (X_find ((μ 20 4) + 12) (μ (μ 20 4) 12) (μ 10 7) μ) fun a2 μ3 =>
if a2 = (-1) then (some (0, μ3))
else (some (1, μ3))
noncomputable def Rd_isBill  (μ : am_M) : am_O :=
q_gd 0 (μ 20 4) <|
q_bd (X_find ((μ 20 4) + 14) (μ (μ 20 4) 13) (μ 10 7) μ) fun a2 μ3 =>
if a2 = (-1) then (some (0, μ3))
else (some (1, μ3))
noncomputable def Rd_readNewName_B25  (μ : am_M) : am_O :=
q_bd (Rd_fail 3 μ) fun a1 μ2 =>
q_rb a1 (some (a1, μ2))
noncomputable def Rd_readNewName_B31  (μ : am_M) : am_O :=
q_bd (Rd_expect 2 μ) fun a1 μ2 =>
q_rb a1 (some (a1, μ2))
noncomputable def Rd_readNewName  (μ : am_M) : am_O :=
if (μ 10 5) = 2 then (q_bd (Rd_isWall  μ) fun a1 μ2 =>
if a1 = 0 then (q_bd (Rd_isBill  μ2) fun a3 μ4 =>
if a3 = 0 then (Rd_readNewName_B31  μ4)
else (Rd_readNewName_B25  μ4))
else (Rd_readNewName_B25  μ2))
else (Rd_readNewName_B31  μ)
noncomputable def Rd_readHead_B82  (μ : am_M) : am_O :=
q_bd (Rd_fail 5 μ) fun a1 μ2 =>
some (0, μ2)
noncomputable def Rd_readHead_B91 (v1 : Int) (μ : am_M) : am_O :=
q_bd (Tp_advance  μ) fun a1 μ2 =>
q_bd (Rd_readNewName  μ2) fun a3 μ4 =>
if a3 = 0 then (some (0, μ4))
else (q_bd (Rd_endHead v1 (μ2 10 7) μ4) fun a5 μ6 =>
some (0, μ6))
noncomputable def Rd_readHead_B53 (v1 : Int) (μ : am_M) : am_O :=
if v1 = 0 then (q_gd 0 (μ 20 4) <|
if (μ (μ 20 4) 13) < 4 then (Rd_readHead_B91  v1 μ)
else (Rd_readHead_B82  μ))
else (q_gd 0 (μ 20 4) <|
if (μ (μ 20 4) 12) < 4 then (Rd_readHead_B91  v1 μ)
else (Rd_readHead_B82  μ))
noncomputable def Rd_readHead_B27 (s0 : Int) (μ : am_M) : am_O :=
if s0 = 0 then (if (μ 10 5) = 110 then (Rd_readHead_B53  s0 μ)
else (q_bd (Rd_fail 1 μ) fun a1 μ2 =>
some (0, μ2)))
else (Rd_readHead_B53  s0 μ)
noncomputable def Rd_readHead_B26  (μ : am_M) : am_O :=
Rd_readHead_B27  0 μ
noncomputable def Rd_readHead  (μ : am_M) : am_O :=
if (μ 10 5) = 109 then (q_gd 0 (μ 20 4) <|
if (μ (μ 20 4) 13) = 0 then (Rd_readHead_B27  1 μ)
else (Rd_readHead_B26  μ))
else (Rd_readHead_B26  μ)
noncomputable def Rd_mayStand (v1 : Int) (μ : am_M) : am_O :=
if v1 = 0 then (q_gd 0 (μ 20 4) <|
q_bd (X_at ((μ 20 4) + 16) (μ 20 11) μ) fun a2 μ3 =>
q_gd 0 (μ3 20 4) <|
q_bd (X_at ((μ3 20 4) + 17) (μ3 20 11) μ3) fun a5 μ6 =>
if a2 = a5 then (some (1, μ6))
else (some (0, μ6)))
else (if v1 = 1 then (some (1, μ))
else (if v1 = 2 then (some (1, μ))
else (if v1 = 3 then (some (1, μ))
else (if v1 = 4 then (some (1, μ))
else (if v1 = 5 then (some (1, μ))
else (if v1 = 6 then (if (μ 20 7) ≤ 0 then (some (0, μ))
else (q_gd 2 (μ 20 5) <|
q_bd (X_at 22 (w32 ((μ 20 7) - 1)) μ) fun a8 μ9 =>
q_bd (X_at ((μ 20 5) + 1) a8 μ9) fun a10 μ11 =>
if a10 = 5 then (some (1, μ11))
else (some (0, μ11))))
else (if v1 = 7 then (if (μ 20 7) ≤ 0 then (some (0, μ))
else (q_gd 2 (μ 20 5) <|
q_bd (X_at 22 (w32 ((μ 20 7) - 1)) μ) fun a13 μ14 =>
q_bd (X_at ((μ 20 5) + 1) a13 μ14) fun a15 μ16 =>
if a15 = 6 then (some (1, μ16))
else (some (0, μ16))))
else (if v1 = 8 then (if (μ 20 7) = 0 then (some (1, μ))
else (some (0, μ)))
else (some (1, μ))))))))))
noncomputable def Rd_isTooMany_B34 (v1 : Int) (μ : am_M) : am_O :=
if v1 = 5 then (if (μ 20 7) < 3 then (some (0, μ))
else (some (1, μ)))
else (some (0, μ))
noncomputable def Rd_isTooMany (v1 : Int) (μ : am_M) : am_O :=
q_gd 2 (μ 20 5) <|
if (μ (μ 20 5) 10) < 60 then (if v1 = 0 then (q_gd 0 (μ 20 4) <|
q_bd (X_at ((μ 20 4) + 17) (μ 20 11) μ) fun a3 μ4 =>
if a3 < 4 then (Rd_isTooMany_B34  v1 μ4)
else (some (1, μ4)))
else (Rd_isTooMany_B34  v1 μ))
else (some (1, μ))
noncomputable def Rd_startLine_B29  (μ : am_M) : am_O :=
q_bd (Rd_fail 1 μ) fun a1 μ2 =>
q_rb a1 (some (a1, μ2))
noncomputable def Rd_startLine  (μ : am_M) : am_O :=
if (w32 ((μ 10 5) - 100)) < 0 then (Rd_startLine_B29  μ)
else (if (w32 ((μ 10 5) - 100)) ≤ 8 then (q_bd (Rd_mayStand (w32 ((μ 10 5) - 100)) μ) fun a1 μ2 =>
if a1 = 0 then (Rd_startLine_B29  μ2)
else (q_bd (Rd_isTooMany (w32 ((μ 10 5) - 100)) μ2) fun a3 μ4 =>
if a3 = 0 then (q_gd 2 (μ4 20 5) <|
q_bd (Ln_add (μ4 20 5) (w32 ((μ 10 5) - 100)) μ4) fun a6 μ7 =>
q_pf 20 12 a6 μ7 fun μ8 =>
q_gd 0 (μ8 20 4) <|
q_bd (X_at ((μ8 20 4) + 16) (μ8 20 11) μ8) fun a10 μ11 =>
q_bd (X_put ((μ8 20 4) + 16) (μ8 20 11) (w32 (a10 + 1)) μ11) fun a12 μ13 =>
q_bd (Tp_advance  μ13) fun a14 μ15 =>
some (1, μ15))
else (q_bd (Rd_fail 5 μ4) fun a16 μ17 =>
q_rb a16 (some (a16, μ17)))))
else (Rd_startLine_B29  μ))
noncomputable def Rd_isUntaken_B39  (μ : am_M) : am_O :=
q_gd 0 (μ 20 4) <|
q_bd (X_at ((μ 20 4) + 17) (μ 20 11) μ) fun a2 μ3 =>
q_bd (X_put ((μ 20 4) + 17) (μ 20 11) (w32 (a2 + 1)) μ3) fun a4 μ5 =>
some (1, μ5)
noncomputable def Rd_isUntaken  (μ : am_M) : am_O :=
if (μ 10 5) = 2 then (q_bd (X_find 21 (μ 20 6) (μ 10 7) μ) fun a1 μ2 =>
if a1 = (-1) then (Rd_isUntaken_B39  μ2)
else (q_bd (Rd_fail 3 μ2) fun a3 μ4 =>
q_rb a3 (some (a3, μ4))))
else (Rd_isUntaken_B39  μ)
noncomputable def Rd_readKind_B51 (s1 : Int) (μ : am_M) : am_O :=
q_bd (Rd_expect s1 μ) fun a1 μ2 =>
q_rb a1 (some (a1, μ2))
noncomputable def Rd_readKind_B28 (s0 : Int) (s1 : Int) (s2 : Int) (μ : am_M) : am_O :=
q_bd (X_put s0 s1 s2 μ) fun a1 μ2 =>
if (μ2 10 5) = 111 then (Rd_readKind_B51  111 μ2)
else (Rd_readKind_B51  112 μ2)
noncomputable def Rd_readKind  (μ : am_M) : am_O :=
q_gd 2 (μ 20 5) <|
if (μ 10 5) = 111 then (Rd_readKind_B28  ((μ 20 5) + 4) (μ 20 12) 1 μ)
else (Rd_readKind_B28  ((μ 20 5) + 4) (μ 20 12) 0 μ)
noncomputable def Rd_slipNamed  (μ : am_M) : am_O :=
q_bd (X_find 21 (μ 20 6) (μ 10 7) μ) fun a1 μ2 =>
if a1 = (-1) then (if (μ2 20 6) < 10 then (q_st 10 21 (μ2 20 6) (μ2 10 7) μ2 fun μ3 =>
q_pf 20 6 (w32 ((μ3 20 6) + 1)) μ3 fun μ4 =>
some ((μ2 20 6), μ4))
else (some (a1, μ2)))
else (some (a1, μ2))
noncomputable def Rd_readSlip_B92  (μ : am_M) : am_O :=
q_bd (Tp_advance  μ) fun a1 μ2 =>
some (1, μ2)
noncomputable def Rd_readSlip_B84 (v2 : Int) (s0 : Int) (μ : am_M) : am_O :=
q_bd (X_put s0 (μ 20 12) v2 μ) fun a1 μ2 =>
Rd_readSlip_B92  μ2
noncomputable def Rd_readSlip (v1 : Int) (μ : am_M) : am_O :=
if (μ 10 5) = 2 then (q_bd (Rd_isWall  μ) fun a1 μ2 =>
if a1 = 0 then (q_bd (Rd_slipNamed  μ2) fun a3 μ4 =>
if a3 = (-1) then (q_bd (Rd_fail 5 μ4) fun a10 μ11 =>
q_rb a10 (some (a10, μ11)))
else (if v1 = 0 then (q_gd 2 (μ4 20 5) <|
q_bd (Ln_addCode (μ4 20 5) 2 a3 μ4) fun a8 μ9 =>
Rd_readSlip_B92  μ9)
else (if v1 = 1 then (q_gd 2 (μ4 20 5) <|
Rd_readSlip_B84  a3 ((μ4 20 5) + 2) μ4)
else (q_gd 2 (μ4 20 5) <|
Rd_readSlip_B84  a3 ((μ4 20 5) + 3) μ4))))
else (q_bd (Rd_fail 3 μ2) fun a12 μ13 =>
q_rb a12 (some (a12, μ13))))
else (q_bd (Rd_fail 1 μ) fun a14 μ15 =>
q_rb a14 (some (a14, μ15)))
noncomputable def Rd_readCall_B134 (s1 : Int) (μ : am_M) : am_O :=
q_bd (Rd_fail s1 μ) fun a1 μ2 =>
q_rb a1 (some (a1, μ2))
noncomputable def Rd_readCall_L89_b (k89 : Int → Int → am_M → am_O) (v2 : Int) (v3 : Int) (μ : am_M) : am_O :=
if v3 < v2 then (q_bd (Rd_readSlip 0 μ) fun a3 μ4 =>
if a3 = 0 then (some (0, μ4))
else (k89 v2 (w32 (v3 + 1)) μ4))
else (if (μ 10 5) = 2 then (q_bd (Rd_isWall  μ) fun a1 μ2 =>
if a1 = 0 then (Rd_readCall_B134  5 μ2)
else (Rd_readCall_B134  3 μ2))
else (some (1, μ)))
noncomputable def Rd_readCall_L89 : Nat → Int → Int → am_M → am_O
  | 0, _, _, _ => none
  | n + 1, v2, v3, μ => Rd_readCall_L89_b (Rd_readCall_L89 n) v2 v3 μ
noncomputable def Rd_readCall  (μ : am_M) : am_O :=
if (μ 10 5) = 2 then (q_gd 0 (μ 20 4) <|
q_bd (X_find ((μ 20 4) + 14) (μ (μ 20 4) 13) (μ 10 7) μ) fun a2 μ3 =>
if a2 = (-1) then (q_bd (Rd_fail 2 μ3) fun a12 μ13 =>
q_rb a12 (some (a12, μ13)))
else (q_gd 2 (μ3 20 5) <|
q_bd (X_put ((μ3 20 5) + 5) (μ3 20 12) a2 μ3) fun a5 μ6 =>
q_bd (Tp_advance  μ6) fun a7 μ8 =>
q_gd 0 (μ8 20 4) <|
q_bd (X_at ((μ8 20 4) + 17) a2 μ8) fun a10 μ11 =>
Rd_readCall_L89  am_FU a10 0 μ11))
else (q_bd (Rd_fail 1 μ) fun a14 μ15 =>
q_rb a14 (some (a14, μ15)))
noncomputable def Rd_mayBegin_B36  (μ : am_M) : am_O :=
if (μ 20 9) < 5 then (some (1, μ))
else (q_bd (Rd_fail 5 μ) fun a1 μ2 =>
if a1 = 0 then (some (0, μ2))
else (some (1, μ2)))
noncomputable def Rd_mayBegin  (μ : am_M) : am_O :=
if (μ 10 5) = 3 then (Rd_mayBegin_B36  μ)
else (if (μ 10 5) = 2 then (Rd_mayBegin_B36  μ)
else (if (μ 10 5) = 114 then (Rd_mayBegin_B36  μ)
else (if (μ 10 5) = 40 then (Rd_mayBegin_B36  μ)
else (q_bd (Rd_fail 1 μ) fun a1 μ2 =>
q_rb a1 (some (a1, μ2))))))
noncomputable def Rd_await (v1 : Int) (μ : am_M) : am_O :=
q_bd (X_put 23 (μ 20 8) v1 μ) fun a1 μ2 =>
q_pf 20 8 (w32 ((μ2 20 8) + 1)) μ2 fun μ3 =>
some (0, μ3)
noncomputable def Rd_wrap  (μ : am_M) : am_O :=
q_pf 20 9 (w32 ((μ 20 9) + 1)) μ fun μ1 =>
q_bd (Rd_await (μ1 10 5) μ1) fun a2 μ3 =>
some (1, μ3)
noncomputable def Rd_lastWaiting  (μ : am_M) : am_O :=
if (μ 20 8) ≤ 0 then (some (0, μ))
else (q_bd (X_at 23 (w32 ((μ 20 8) - 1)) μ) fun a1 μ2 =>
some (a1, μ2))
noncomputable def Rd_codeNots_L0_b (k0 : am_M → am_O)  (μ : am_M) : am_O :=
if (μ 20 8) ≤ 0 then (some (0, μ))
else (q_bd (Rd_lastWaiting  μ) fun a1 μ2 =>
if a1 = 114 then (q_gd 2 (μ2 20 5) <|
q_bd (Ln_addCode (μ2 20 5) 114 0 μ2) fun a4 μ5 =>
q_pf 20 8 (w32 ((μ5 20 8) - 1)) μ5 fun μ6 =>
q_pf 20 9 (w32 ((μ6 20 9) - 1)) μ6 fun μ7 =>
k0 μ7)
else (some (0, μ2)))
noncomputable def Rd_codeNots_L0 : Nat → am_M → am_O
  | 0, _ => none
  | n + 1, μ => Rd_codeNots_L0_b (Rd_codeNots_L0 n)  μ
noncomputable def Rd_codeNots  (μ : am_M) : am_O :=
Rd_codeNots_L0 am_FU μ
noncomputable def Rd_readPart_B108  (μ : am_M) : am_O :=
q_bd (Rd_codeNots  μ) fun a1 μ2 =>
some (1, μ2)
noncomputable def Rd_readPart  (μ : am_M) : am_O :=
if (μ 10 5) = 3 then (q_gd 2 (μ 20 5) <|
q_bd (Ln_addCode (μ 20 5) 3 (μ 10 6) μ) fun a20 μ21 =>
Rd_readPart_B108  μ21)
else (q_bd (Rd_isWall  μ) fun a1 μ2 =>
if a1 = 0 then (q_bd (Rd_slipNamed  μ2) fun a3 μ4 =>
if a3 = (-1) then (q_bd (Rd_fail 5 μ4) fun a8 μ9 =>
q_rb a8 (some (a8, μ9)))
else (q_gd 2 (μ4 20 5) <|
q_bd (Ln_addCode (μ4 20 5) 2 a3 μ4) fun a6 μ7 =>
Rd_readPart_B108  μ7))
else (q_gd 0 (μ2 20 4) <|
q_bd (X_find ((μ2 20 4) + 12) (μ2 (μ2 20 4) 12) (μ2 10 7) μ2) fun a11 μ12 =>
q_gd 0 (μ12 20 4) <|
q_bd (X_at ((μ12 20 4) + 13) a11 μ12) fun a14 μ15 =>
q_gd 2 (μ12 20 5) <|
q_bd (Ln_addCode (μ12 20 5) 3 a14 μ15) fun a17 μ18 =>
Rd_readPart_B108  μ18))
noncomputable def Rd_rank (v0 : Int) (μ : am_M) : am_O :=
if v0 = 42 then (some (4, μ))
else (if v0 = 43 then (some (3, μ))
else (if v0 = 45 then (some (3, μ))
else (if v0 = 60 then (some (2, μ))
else (if v0 = 61 then (some (2, μ))
else (if v0 = 115 then (some (1, μ))
else (if v0 = 116 then (some (1, μ))
else (some (0, μ))))))))
noncomputable def Rd_codeFrom_L0_b (k0 : Int → am_M → am_O) (v1 : Int) (μ : am_M) : am_O :=
if (μ 20 8) ≤ 0 then (some (0, μ))
else (q_bd (Rd_lastWaiting  μ) fun a1 μ2 =>
q_bd (Rd_rank a1 μ2) fun a3 μ4 =>
if a3 < v1 then (some (0, μ4))
else (q_bd (Rd_lastWaiting  μ4) fun a5 μ6 =>
q_gd 2 (μ4 20 5) <|
q_bd (Ln_addCode (μ4 20 5) a5 0 μ6) fun a8 μ9 =>
q_pf 20 8 (w32 ((μ9 20 8) - 1)) μ9 fun μ10 =>
k0 v1 μ10))
noncomputable def Rd_codeFrom_L0 : Nat → Int → am_M → am_O
  | 0, _, _ => none
  | n + 1, v1, μ => Rd_codeFrom_L0_b (Rd_codeFrom_L0 n) v1 μ
noncomputable def Rd_codeFrom (v1 : Int) (μ : am_M) : am_O :=
Rd_codeFrom_L0 am_FU v1 μ
noncomputable def Rd_unwrap  (μ : am_M) : am_O :=
q_bd (Rd_codeFrom 1 μ) fun a1 μ2 =>
q_bd (Rd_lastWaiting  μ2) fun a3 μ4 =>
if a3 = 40 then (q_pf 20 8 (w32 ((μ4 20 8) - 1)) μ4 fun μ5 =>
q_pf 20 9 (w32 ((μ5 20 9) - 1)) μ5 fun μ6 =>
q_bd (Rd_codeNots  μ6) fun a7 μ8 =>
some (1, μ8))
else (q_bd (Rd_fail 1 μ4) fun a9 μ10 =>
q_rb a9 (some (a9, μ10)))
noncomputable def Rd_join_B47  (μ : am_M) : am_O :=
q_bd (Rd_await (μ 10 5) μ) fun a1 μ2 =>
some (1, μ2)
noncomputable def Rd_join_B22 (v1 : Int) (s1 : Int) (μ : am_M) : am_O :=
q_bd (Rd_codeFrom s1 μ) fun a1 μ2 =>
if v1 = 2 then (q_bd (Rd_lastWaiting  μ2) fun a3 μ4 =>
q_bd (Rd_rank a3 μ4) fun a5 μ6 =>
if a5 = 2 then (q_bd (Rd_fail 1 μ6) fun a7 μ8 =>
q_rb a7 (some (a7, μ8)))
else (Rd_join_B47  μ6))
else (Rd_join_B47  μ2)
noncomputable def Rd_join  (μ : am_M) : am_O :=
q_bd (Rd_rank (μ 10 5) μ) fun a1 μ2 =>
if a1 = 2 then (Rd_join_B22  a1 3 μ2)
else (Rd_join_B22  a1 a1 μ2)
noncomputable def Rd_endSum  (μ : am_M) : am_O :=
q_bd (Rd_codeFrom 1 μ) fun a1 μ2 =>
if (μ2 20 8) = 0 then (some (1, μ2))
else (q_bd (Rd_fail 1 μ2) fun a3 μ4 =>
if a3 = 0 then (some (0, μ4))
else (some (1, μ4)))
noncomputable def Rd_readSum_B127 (k14 : Int → Int → am_M → am_O) (v1 : Int) (v2 : Int) (v4 : Int) (μ : am_M) : am_O :=
if v4 = 0 then (some (0, μ))
else (q_bd (Tp_advance  μ) fun a1 μ2 =>
k14 v1 (w32 (v2 + 1)) μ2)
noncomputable def Rd_readSum_B84 (k14 : Int → Int → am_M → am_O) (v1 : Int) (v2 : Int) (s0 : Int) (μ : am_M) : am_O :=
Rd_readSum_B127 k14 v1 v2 s0 μ
noncomputable def Rd_readSum_B79 (k14 : Int → Int → am_M → am_O) (v1 : Int) (v2 : Int) (μ : am_M) : am_O :=
Rd_readSum_B84 k14 v1 v2 1 μ
noncomputable def Rd_readSum_B83 (k14 : Int → Int → am_M → am_O) (v1 : Int) (v2 : Int) (μ : am_M) : am_O :=
Rd_readSum_B84 k14 v1 v2 0 μ
noncomputable def Rd_readSum_B50 (k14 : Int → Int → am_M → am_O) (v2 : Int) (s0 : Int) (μ : am_M) : am_O :=
q_bd (Rd_mayBegin  μ) fun a1 μ2 =>
if a1 = 0 then (Rd_readSum_B83 k14 s0 v2 μ2)
else (if s0 = 0 then (q_bd (Rd_readPart  μ2) fun a3 μ4 =>
if a3 = 0 then (Rd_readSum_B83 k14 s0 v2 μ4)
else (Rd_readSum_B79 k14 s0 v2 μ4))
else (q_bd (Rd_wrap  μ2) fun a5 μ6 =>
if a5 = 0 then (Rd_readSum_B83 k14 s0 v2 μ6)
else (Rd_readSum_B79 k14 s0 v2 μ6)))
noncomputable def Rd_readSum_B45 (k14 : Int → Int → am_M → am_O) (v2 : Int) (μ : am_M) : am_O :=
Rd_readSum_B50 k14 v2 1 μ
noncomputable def Rd_readSum_L14_b (k14 : Int → Int → am_M → am_O) (v1 : Int) (v2 : Int) (μ : am_M) : am_O :=
if v2 ≤ 1000 then (if v1 = 0 then (if (μ 10 5) = 41 then (q_bd (Rd_unwrap  μ) fun a9 μ10 =>
Rd_readSum_B127 k14 v1 v2 a9 μ10)
else (q_bd (Rd_rank (μ 10 5) μ) fun a3 μ4 =>
if a3 ≤ 0 then (q_bd (Rd_endSum  μ4) fun a5 μ6 =>
q_rb a5 (some (a5, μ6)))
else (q_bd (Rd_join  μ4) fun a7 μ8 =>
Rd_readSum_B127 k14 1 v2 a7 μ8)))
else (if (μ 10 5) = 114 then (Rd_readSum_B45 k14 v2 μ)
else (if (μ 10 5) = 40 then (Rd_readSum_B45 k14 v2 μ)
else (Rd_readSum_B50 k14 v2 0 μ))))
else (q_bd (Rd_fail 1 μ) fun a1 μ2 =>
q_rb a1 (some (a1, μ2)))
noncomputable def Rd_readSum_L14 : Nat → Int → Int → am_M → am_O
  | 0, _, _, _ => none
  | n + 1, v1, v2, μ => Rd_readSum_L14_b (Rd_readSum_L14 n) v1 v2 μ
noncomputable def Rd_readSum  (μ : am_M) : am_O :=
q_pf 20 8 0 μ fun μ1 =>
q_pf 20 9 0 μ1 fun μ2 =>
Rd_readSum_L14  am_FU 1 0 μ2
noncomputable def Rd_readRest  (μ : am_M) : am_O :=
q_gd 2 (μ 20 5) <|
q_bd (X_at ((μ 20 5) + 1) (μ 20 12) μ) fun a2 μ3 =>
if a2 = 0 then (q_bd (Rd_isUntaken  μ3) fun a4 μ5 =>
if a4 = 0 then (some (0, μ5))
else (q_bd (Rd_readSlip 1 μ5) fun a6 μ7 =>
if a6 = 0 then (some (0, μ7))
else (q_bd (Rd_readKind  μ7) fun a8 μ9 =>
if a8 = 0 then (some (0, μ9))
else (some (1, μ9)))))
else (if a2 = 1 then (q_bd (Rd_readSlip 1 μ3) fun a10 μ11 =>
if a10 = 0 then (some (0, μ11))
else (q_bd (Rd_readKind  μ11) fun a12 μ13 =>
if a12 = 0 then (some (0, μ13))
else (q_bd (Rd_readSum  μ13) fun a14 μ15 =>
if a14 = 0 then (some (0, μ15))
else (some (1, μ15)))))
else (if a2 = 2 then (q_bd (Rd_readSlip 0 μ3) fun a16 μ17 =>
if a16 = 0 then (some (0, μ17))
else (q_bd (Rd_expect 113 μ17) fun a18 μ19 =>
if a18 = 0 then (some (0, μ19))
else (q_bd (Rd_readSlip 1 μ19) fun a20 μ21 =>
if a20 = 0 then (some (0, μ21))
else (q_bd (Rd_readSlip 2 μ21) fun a22 μ23 =>
if a22 = 0 then (some (0, μ23))
else (some (1, μ23))))))
else (if a2 = 3 then (q_bd (Rd_readSlip 0 μ3) fun a24 μ25 =>
q_rb a24 (some (a24, μ25)))
else (if a2 = 4 then (q_bd (Rd_readCall  μ3) fun a26 μ27 =>
if a26 = 0 then (some (0, μ27))
else (q_bd (Rd_expect 113 μ27) fun a28 μ29 =>
if a28 = 0 then (some (0, μ29))
else (q_bd (Rd_readSlip 1 μ29) fun a30 μ31 =>
if a30 = 0 then (some (0, μ31))
else (some (1, μ31)))))
else (if a2 = 5 then (q_bd (X_put 22 (μ3 20 7) (μ3 20 12) μ3) fun a32 μ33 =>
q_pf 20 7 (w32 ((μ33 20 7) + 1)) μ33 fun μ34 =>
q_bd (Rd_readSum  μ34) fun a35 μ36 =>
q_rb a35 (some (a35, μ36)))
else (if a2 = 6 then (q_gd 2 (μ3 20 5) <|
q_bd (X_at 22 (w32 ((μ3 20 7) - 1)) μ3) fun a38 μ39 =>
q_bd (X_put ((μ3 20 5) + 6) a38 (μ39 20 12) μ39) fun a40 μ41 =>
q_bd (X_put 22 (w32 ((μ41 20 7) - 1)) (μ41 20 12) μ41) fun a42 μ43 =>
some (1, μ43))
else (if a2 = 7 then (q_pf 20 7 (w32 ((μ3 20 7) - 1)) μ3 fun μ44 =>
q_gd 2 (μ44 20 5) <|
q_bd (X_at 22 (μ44 20 7) μ44) fun a46 μ47 =>
q_bd (X_put ((μ44 20 5) + 6) a46 (μ47 20 12) μ47) fun a48 μ49 =>
some (1, μ49))
else (q_bd (Rd_readSum  μ3) fun a50 μ51 =>
q_rb a50 (some (a50, μ51))))))))))
noncomputable def Rd_endLine  (μ : am_M) : am_O :=
q_bd (Rd_expect 59 μ) fun a1 μ2 =>
if a1 = 0 then (some (0, μ2))
else (q_gd 2 (μ2 20 5) <|
q_bd (X_at ((μ2 20 5) + 1) (μ2 20 12) μ2) fun a4 μ5 =>
if a4 = 8 then (q_gd 0 (μ5 20 4) <|
q_bd (X_put ((μ5 20 4) + 18) (μ5 20 11) (μ5 20 6) μ5) fun a7 μ8 =>
q_pfb 20 13 0 μ8 fun μ9 =>
some (0, μ9))
else (some (0, μ5)))
noncomputable def Tp_rewind  (μ : am_M) : am_O :=
q_pf 10 4 0 μ fun μ1 =>
q_bd (Tp_advance  μ1) fun a2 μ3 =>
some (0, μ3)
noncomputable def Rd_readInto_B96 (k39 : Int → am_M → am_O) (v2 : Int) (μ : am_M) : am_O :=
k39 (w32 (v2 + 1)) μ
noncomputable def Rd_readInto_B115  (μ : am_M) : am_O :=
some ((μ 20 10), μ)
noncomputable def Rd_readInto_B102  (μ : am_M) : am_O :=
if (μ 20 13) = 0 then (Rd_readInto_B115  μ)
else (q_bd (Rd_fail 1 μ) fun a1 μ2 =>
Rd_readInto_B115  μ2)
noncomputable def Rd_readInto_L39_b (k39 : Int → am_M → am_O) (v2 : Int) (μ : am_M) : am_O :=
if v2 ≤ 1000 then (if (μ 20 10) = 0 then (if (μ 10 5) = 1 then (Rd_readInto_B102  μ)
else (if (μ 20 13) = 0 then (q_bd (Rd_readHead  μ) fun a7 μ8 =>
Rd_readInto_B96 k39 v2 μ8)
else (q_bd (Rd_startLine  μ) fun a1 μ2 =>
if a1 = 0 then (Rd_readInto_B96 k39 v2 μ2)
else (q_bd (Rd_readRest  μ2) fun a3 μ4 =>
if a3 = 0 then (Rd_readInto_B96 k39 v2 μ4)
else (q_bd (Rd_endLine  μ4) fun a5 μ6 =>
Rd_readInto_B96 k39 v2 μ6)))))
else (Rd_readInto_B102  μ))
else (Rd_readInto_B102  μ)
noncomputable def Rd_readInto_L39 : Nat → Int → am_M → am_O
  | 0, _, _ => none
  | n + 1, v2, μ => Rd_readInto_L39_b (Rd_readInto_L39 n) v2 μ
noncomputable def Rd_readInto (v1 : Int) (μ : am_M) : am_O :=
q_pf 20 4 v1 μ fun μ1 =>
q_gd 0 v1 <|
q_pf 20 5 (v1 + 1) μ1 fun μ3 =>
q_gd 0 (μ3 20 4) <|
q_bd (Bi_empty (μ3 20 4) μ3) fun a5 μ6 =>
q_pf 20 10 0 μ6 fun μ7 =>
q_pfb 20 13 0 μ7 fun μ8 =>
q_bd (Tp_rewind  μ8) fun a9 μ10 =>
Rd_readInto_L39  am_FU 0 μ10
noncomputable def Tp_clear  (μ : am_M) : am_O :=
q_pf 10 2 0 μ fun μ1 =>
some (0, μ1)
noncomputable def Tp_append_B85 (k3 : Int → Int → am_M → am_O) (v1 : Int) (v3 : Int) (μ : am_M) : am_O :=
k3 v1 (w32 (v3 + (-8))) μ
noncomputable def Tp_append_B43 (k3 : Int → Int → am_M → am_O) (v1 : Int) (v3 : Int) (v4 : Int) (s0 : Int) (μ : am_M) : am_O :=
if s0 = 0 then (Tp_append_B85 k3 v1 v3 μ)
else (if (μ 10 2) < 1000 then (q_bd (X_put 11 (μ 10 2) v4 μ) fun a1 μ2 =>
q_pf 10 2 (w32 ((μ2 10 2) + 1)) μ2 fun μ3 =>
Tp_append_B85 k3 v1 v3 μ3)
else (Tp_append_B85 k3 v1 v3 μ))
noncomputable def Tp_append_B38 (k3 : Int → Int → am_M → am_O) (v1 : Int) (v3 : Int) (v4 : Int) (μ : am_M) : am_O :=
Tp_append_B43 k3 v1 v3 v4 1 μ
noncomputable def Tp_append_B42 (k3 : Int → Int → am_M → am_O) (v1 : Int) (v3 : Int) (v4 : Int) (μ : am_M) : am_O :=
Tp_append_B43 k3 v1 v3 v4 0 μ
noncomputable def Tp_append_L3_b (k3 : Int → Int → am_M → am_O) (v1 : Int) (v3 : Int) (μ : am_M) : am_O :=
if v3 < 0 then (some (0, μ))
else (if (aAnd (w32 (lUshr v1 v3)) 255) = 10 then (Tp_append_B38 k3 v1 v3 (aAnd (w32 (lUshr v1 v3)) 255) μ)
else (if (aAnd (w32 (lUshr v1 v3)) 255) < 32 then (Tp_append_B42 k3 v1 v3 (aAnd (w32 (lUshr v1 v3)) 255) μ)
else (if (aAnd (w32 (lUshr v1 v3)) 255) ≤ 126 then (Tp_append_B38 k3 v1 v3 (aAnd (w32 (lUshr v1 v3)) 255) μ)
else (Tp_append_B42 k3 v1 v3 (aAnd (w32 (lUshr v1 v3)) 255) μ))))
noncomputable def Tp_append_L3 : Nat → Int → Int → am_M → am_O
  | 0, _, _, _ => none
  | n + 1, v1, v3, μ => Tp_append_L3_b (Tp_append_L3 n) v1 v3 μ
noncomputable def Tp_append (v1 : Int) (μ : am_M) : am_O :=
Tp_append_L3  am_FU v1 56 μ
noncomputable def Wy_forget  (μ : am_M) : am_O :=
q_pf 50 10 (-1) μ fun μ1 =>
some (0, μ1)
noncomputable def Wy_howMany_B123 (k22 : Int → Int → Int → Int → Int → am_M → am_O) (v1 : Int) (v3 : Int) (v4 : Int) (v5 : Int) (v6 : Int) (μ : am_M) : am_O :=
k22 v1 v3 v4 v5 (w32 (v6 + 1)) μ
noncomputable def Wy_howMany_L22_b (k22 : Int → Int → Int → Int → Int → am_M → am_O) (v1 : Int) (v3 : Int) (v4 : Int) (v5 : Int) (v6 : Int) (μ : am_M) : am_O :=
if v6 < v5 then (q_gd 0 v1 <|
q_gd 2 (v1 + 1) <|
q_bd (X_at ((v1 + 1) + 1) v6 μ) fun a3 μ4 =>
if a3 = 5 then (q_bd (X_put 51 v4 v3 μ4) fun a11 μ12 =>
Wy_howMany_B123 k22 v1 1 (w32 (v4 + 1)) v5 v6 μ12)
else (if a3 = 6 then (q_bd (X_put 53 (w32 (v4 - 1)) v3 μ4) fun a9 μ10 =>
Wy_howMany_B123 k22 v1 1 v4 v5 v6 μ10)
else (if a3 = 7 then (q_bd (X_at 51 (w32 (v4 + (-1))) μ4) fun a5 μ6 =>
q_bd (X_at 53 (w32 (v4 + (-1))) μ6) fun a7 μ8 =>
Wy_howMany_B123 k22 v1 (w32 (a5 * (w32 (a7 + v3)))) (w32 (v4 + (-1))) v5 v6 μ8)
else (Wy_howMany_B123 k22 v1 v3 v4 v5 v6 μ4))))
else (some (v3, μ))
noncomputable def Wy_howMany_L22 : Nat → Int → Int → Int → Int → Int → am_M → am_O
  | 0, _, _, _, _, _, _ => none
  | n + 1, v1, v3, v4, v5, v6, μ => Wy_howMany_L22_b (Wy_howMany_L22 n) v1 v3 v4 v5 v6 μ
noncomputable def Wy_howMany (v1 : Int) (v2 : Int) (μ : am_M) : am_O :=
q_gd 0 v1 <|
q_bd (Bi_lineBehind v1 v2 μ) fun a2 μ3 =>
q_bd (X_at (v1 + 15) v2 μ3) fun a4 μ5 =>
Wy_howMany_L22  am_FU v1 1 0 a2 a4 μ5
noncomputable def Wy_keep (v1 : Int) (v2 : Int) (v3 : Int) (μ : am_M) : am_O :=
q_bd (X_put v1 v3 (μ 50 11) μ) fun a1 μ2 =>
q_bd (X_put v2 v3 (μ2 50 12) μ2) fun a3 μ4 =>
q_pf 50 11 0 μ4 fun μ5 =>
q_pf 50 12 0 μ5 fun μ6 =>
some (0, μ6)
noncomputable def Wy_measure_B225 (k30 : Int → Int → Int → Int → Int → am_M → am_O) (v1 : Int) (v3 : Int) (v4 : Int) (v5 : Int) (v6 : Int) (μ : am_M) : am_O :=
k30 v1 v3 v4 v5 (w32 (v6 + 1)) μ
noncomputable def Wy_measure_B79 (k30 : Int → Int → Int → Int → Int → am_M → am_O) (v1 : Int) (v3 : Int) (v4 : Int) (v5 : Int) (v6 : Int) (v7 : Int) (s0 : Int) (μ : am_M) : am_O :=
q_pf 50 11 (w32 ((μ 50 11) + s0)) μ fun μ1 =>
q_pf 50 12 (w32 ((μ1 50 12) + s0)) μ1 fun μ2 =>
if v7 = 5 then (q_bd (Wy_keep 51 52 v4 μ2) fun a17 μ18 =>
Wy_measure_B225 k30 v1 v3 (w32 (v4 + 1)) v5 v6 μ18)
else (if v7 = 6 then (q_bd (Wy_keep 53 54 (w32 (v4 - 1)) μ2) fun a15 μ16 =>
Wy_measure_B225 k30 v1 v3 v4 v5 v6 μ16)
else (if v7 = 7 then (q_bd (X_at 51 (w32 (v4 + (-1))) μ2) fun a3 μ4 =>
q_bd (X_at 53 (w32 (v4 + (-1))) μ4) fun a5 μ6 =>
q_lt (if a5 < (μ4 50 11) then a5 else (μ4 50 11)) fun a7 =>
q_pf 50 11 (w32 (a3 + a7)) μ6 fun μ8 =>
q_bd (X_at 52 (w32 (v4 + (-1))) μ8) fun a9 μ10 =>
q_bd (X_at 54 (w32 (v4 + (-1))) μ10) fun a11 μ12 =>
q_lt (if (μ10 50 12) < a11 then a11 else (μ10 50 12)) fun a13 =>
q_pf 50 12 (w32 (a9 + a13)) μ12 fun μ14 =>
Wy_measure_B225 k30 v1 v3 (w32 (v4 + (-1))) v5 v6 μ14)
else (Wy_measure_B225 k30 v1 v3 v4 v5 v6 μ2)))
noncomputable def Wy_measure_L30_b (k30 : Int → Int → Int → Int → Int → am_M → am_O) (v1 : Int) (v3 : Int) (v4 : Int) (v5 : Int) (v6 : Int) (μ : am_M) : am_O :=
if v6 < v5 then (q_gd 0 v1 <|
q_gd 2 (v1 + 1) <|
q_bd (X_at ((v1 + 1) + 1) v6 μ) fun a3 μ4 =>
if v3 = (-1) then (if a3 = 0 then (Wy_measure_B79 k30 v1 v3 v4 v5 v6 a3 0 μ4)
else (Wy_measure_B79 k30 v1 v3 v4 v5 v6 a3 1 μ4))
else (q_bd (Ln_timesRead_ (v1 + 1) v6 v3 μ4) fun a5 μ6 =>
Wy_measure_B79 k30 v1 v3 v4 v5 v6 a3 a5 μ6))
else (some (0, μ))
noncomputable def Wy_measure_L30 : Nat → Int → Int → Int → Int → Int → am_M → am_O
  | 0, _, _, _, _, _, _ => none
  | n + 1, v1, v3, v4, v5, v6, μ => Wy_measure_L30_b (Wy_measure_L30 n) v1 v3 v4 v5 v6 μ
noncomputable def Wy_measure (v1 : Int) (v2 : Int) (v3 : Int) (μ : am_M) : am_O :=
q_pf 50 11 0 μ fun μ1 =>
q_pf 50 12 0 μ1 fun μ2 =>
q_gd 0 v1 <|
q_bd (Bi_lineBehind v1 v2 μ2) fun a4 μ5 =>
q_bd (X_at (v1 + 15) v2 μ5) fun a6 μ7 =>
Wy_measure_L30  am_FU v1 v3 0 a4 a6 μ7
noncomputable def Wy_clearLacks_L2_b (k2 : Int → am_M → am_O) (v1 : Int) (μ : am_M) : am_O :=
if v1 < 10 then (q_bd (X_put 55 v1 0 μ) fun a1 μ2 =>
k2 (w32 (v1 + 1)) μ2)
else (some (0, μ))
noncomputable def Wy_clearLacks_L2 : Nat → Int → am_M → am_O
  | 0, _, _ => none
  | n + 1, v1, μ => Wy_clearLacks_L2_b (Wy_clearLacks_L2 n) v1 μ
noncomputable def Wy_clearLacks  (μ : am_M) : am_O :=
Wy_clearLacks_L2  am_FU 0 μ
noncomputable def Wy_addLack (v1 : Int) (v2 : Int) (μ : am_M) : am_O :=
q_bd (X_at 55 v1 μ) fun a1 μ2 =>
q_bd (X_put 55 v1 (w32 (a1 + v2)) μ2) fun a3 μ4 =>
some (0, μ4)
noncomputable def Wy_weigh_B48 (k20 : Int → Int → Int → Int → Int → am_M → am_O) (v1 : Int) (v2 : Int) (v3 : Int) (v4 : Int) (v5 : Int) (μ : am_M) : am_O :=
k20 v1 v2 v3 v4 (w32 (v5 + 1)) μ
noncomputable def Wy_weigh_L20_b (k20 : Int → Int → Int → Int → Int → am_M → am_O) (v1 : Int) (v2 : Int) (v3 : Int) (v4 : Int) (v5 : Int) (μ : am_M) : am_O :=
if v5 < v4 then (q_gd 2 v1 <|
q_bd (Ln_codeKind v1 v5 μ) fun a11 μ12 =>
if a11 = 2 then (q_bd (Ln_codeNumber v1 v5 μ12) fun a13 μ14 =>
q_bd (Wy_addLack a13 v3 μ14) fun a15 μ16 =>
Wy_weigh_B48 k20 v1 v2 v3 v4 v5 μ16)
else (Wy_weigh_B48 k20 v1 v2 v3 v4 v5 μ12))
else (q_gd 2 v1 <|
q_bd (X_at (v1 + 2) v2 μ) fun a2 μ3 =>
q_bd (Wy_addLack a2 (w32 (-v3)) μ3) fun a4 μ5 =>
q_bd (X_at (v1 + 3) v2 μ5) fun a6 μ7 =>
q_bd (Wy_addLack a6 (w32 (-v3)) μ7) fun a8 μ9 =>
some (0, μ9))
noncomputable def Wy_weigh_L20 : Nat → Int → Int → Int → Int → Int → am_M → am_O
  | 0, _, _, _, _, _, _ => none
  | n + 1, v1, v2, v3, v4, v5, μ => Wy_weigh_L20_b (Wy_weigh_L20 n) v1 v2 v3 v4 v5 μ
noncomputable def Wy_weigh (v1 : Int) (v2 : Int) (v3 : Int) (μ : am_M) : am_O :=
q_gd 2 v1 <|
q_bd (X_at (v1 + 9) v2 μ) fun a2 μ3 =>
q_bd (X_at (v1 + 8) v2 μ3) fun a4 μ5 =>
Wy_weigh_L20  am_FU v1 v2 v3 a2 a4 μ5
noncomputable def Wy_isAlike_B131 (k34 : Int → Int → Int → Int → Int → Int → am_M → am_O) (v1 : Int) (v3 : Int) (v4 : Int) (v5 : Int) (v7 : Int) (s0 : Int) (μ : am_M) : am_O :=
k34 v1 v3 v4 v5 s0 (w32 (v7 + 1)) μ
noncomputable def Wy_isAlike_B127 (k34 : Int → Int → Int → Int → Int → Int → am_M → am_O) (v1 : Int) (v3 : Int) (v4 : Int) (v5 : Int) (v6 : Int) (v7 : Int) (μ : am_M) : am_O :=
Wy_isAlike_B131 k34 v1 v3 v4 v5 v7 (w32 (v6 + 1)) μ
noncomputable def Wy_isAlike_B100 (k34 : Int → Int → Int → Int → Int → Int → am_M → am_O) (v1 : Int) (v3 : Int) (v4 : Int) (v6 : Int) (v7 : Int) (v8 : Int) (s0 : Int) (μ : am_M) : am_O :=
if v8 = 6 then (if v6 = v3 then (Wy_isAlike_B127 k34 v1 v3 v4 s0 v6 v7 μ)
else (q_gd 2 v1 <|
q_bd (X_at (v1 + 6) v6 μ) fun a2 μ3 =>
Wy_isAlike_B131 k34 v1 v3 v4 s0 v7 a2 μ3))
else (Wy_isAlike_B127 k34 v1 v3 v4 s0 v6 v7 μ)
noncomputable def Wy_isAlike_B79 (k34 : Int → Int → Int → Int → Int → Int → am_M → am_O) (v1 : Int) (v3 : Int) (v4 : Int) (v5 : Int) (v6 : Int) (v7 : Int) (v8 : Int) (μ : am_M) : am_O :=
q_bd (Wy_weigh v1 v6 v5 μ) fun a1 μ2 =>
if v6 = v3 then (Wy_isAlike_B100 k34 v1 v3 v4 v6 v7 v8 (-1) μ2)
else (Wy_isAlike_B100 k34 v1 v3 v4 v6 v7 v8 v5 μ2)
noncomputable def Wy_isAlike_L145_b (k145 : Int → Int → am_M → am_O) (v7 : Int) (v8 : Int) (μ : am_M) : am_O :=
if v8 < 10 then (q_bd (X_at 55 v8 μ) fun a1 μ2 =>
k145 (aOr v7 a1) (w32 (v8 + 1)) μ2)
else (if v7 = 0 then (some (1, μ))
else (some (0, μ)))
noncomputable def Wy_isAlike_L145 : Nat → Int → Int → am_M → am_O
  | 0, _, _, _ => none
  | n + 1, v7, v8, μ => Wy_isAlike_L145_b (Wy_isAlike_L145 n) v7 v8 μ
noncomputable def Wy_isAlike_B139  (μ : am_M) : am_O :=
Wy_isAlike_L145  am_FU 0 0 μ
noncomputable def Wy_isAlike_L34_b (k34 : Int → Int → Int → Int → Int → Int → am_M → am_O) (v1 : Int) (v3 : Int) (v4 : Int) (v5 : Int) (v6 : Int) (v7 : Int) (μ : am_M) : am_O :=
if v7 < 60 then (if v6 < v4 then (q_gd 2 v1 <|
q_bd (X_at (v1 + 1) v6 μ) fun a2 μ3 =>
if a2 = 5 then (q_bd (X_at 57 v6 μ3) fun a4 μ5 =>
if a4 = 0 then (some (0, μ5))
else (Wy_isAlike_B79 k34 v1 v3 v4 v5 v6 v7 a2 μ5))
else (Wy_isAlike_B79 k34 v1 v3 v4 v5 v6 v7 a2 μ3))
else (Wy_isAlike_B139  μ))
else (Wy_isAlike_B139  μ)
noncomputable def Wy_isAlike_L34 : Nat → Int → Int → Int → Int → Int → Int → am_M → am_O
  | 0, _, _, _, _, _, _, _ => none
  | n + 1, v1, v3, v4, v5, v6, v7, μ => Wy_isAlike_L34_b (Wy_isAlike_L34 n) v1 v3 v4 v5 v6 v7 μ
noncomputable def Wy_isAlike (v1 : Int) (v2 : Int) (μ : am_M) : am_O :=
q_bd (Wy_clearLacks  μ) fun a1 μ2 =>
q_gd 2 v1 <|
q_bd (X_at (v1 + 6) v2 μ2) fun a4 μ5 =>
q_bd (X_at (v1 + 6) a4 μ5) fun a6 μ7 =>
Wy_isAlike_L34  am_FU v1 a4 a6 1 (w32 (v2 + 1)) 0 μ7
noncomputable def Wy_prepare_B101 (k29 : Int → Int → Int → am_M → am_O) (v3 : Int) (v4 : Int) (v5 : Int) (μ : am_M) : am_O :=
k29 v3 v4 (w32 (v5 + (-1))) μ
noncomputable def Wy_prepare_B98 (k29 : Int → Int → Int → am_M → am_O) (v3 : Int) (v4 : Int) (v5 : Int) (s1 : Int) (s2 : Int) (μ : am_M) : am_O :=
q_bd (X_put 57 s1 s2 μ) fun a1 μ2 =>
Wy_prepare_B101 k29 v3 v4 v5 μ2
noncomputable def Wy_prepare_B64 (k29 : Int → Int → Int → am_M → am_O) (v3 : Int) (v4 : Int) (v5 : Int) (μ : am_M) : am_O :=
q_gd 2 v3 <|
q_bd (X_at (v3 + 1) v5 μ) fun a2 μ3 =>
if a2 = 5 then (q_bd (Wy_isAlike v3 v5 μ3) fun a4 μ5 =>
if a4 = 0 then (Wy_prepare_B98 k29 v3 v4 v5 v5 0 μ5)
else (Wy_prepare_B98 k29 v3 v4 v5 v5 1 μ5))
else (Wy_prepare_B101 k29 v3 v4 v5 μ3)
noncomputable def Wy_prepare_L29_b (k29 : Int → Int → Int → am_M → am_O) (v3 : Int) (v4 : Int) (v5 : Int) (μ : am_M) : am_O :=
if v5 < v4 then (q_bd (X_put 58 0 2147483647 μ) fun a1 μ2 =>
q_bd (X_put 58 1 0 μ2) fun a3 μ4 =>
q_bd (X_put 58 2 2147483647 μ4) fun a5 μ6 =>
q_bd (X_put 58 3 0 μ6) fun a7 μ8 =>
q_bd (Wy_clearLacks  μ8) fun a9 μ10 =>
q_pf 50 8 0 μ10 fun μ11 =>
some (0, μ11))
else (q_gd 2 v3 <|
q_bd (X_at (v3 + 4) v5 μ) fun a13 μ14 =>
if a13 = 1 then (q_bd (Ln_laidSet v3 v5 μ14) fun a15 μ16 =>
q_pf 50 9 (aOr (μ14 50 9) a15) μ16 fun μ17 =>
Wy_prepare_B64 k29 v3 v4 v5 μ17)
else (Wy_prepare_B64 k29 v3 v4 v5 μ14))
noncomputable def Wy_prepare_L29 : Nat → Int → Int → Int → am_M → am_O
  | 0, _, _, _, _ => none
  | n + 1, v3, v4, v5, μ => Wy_prepare_L29_b (Wy_prepare_L29 n) v3 v4 v5 μ
noncomputable def Wy_prepare (v1 : Int) (v2 : Int) (μ : am_M) : am_O :=
q_gd 0 v1 <|
q_pf 50 9 0 μ fun μ2 =>
q_bd (X_at (v1 + 15) v2 μ2) fun a3 μ4 =>
q_bd (Bi_lineBehind v1 v2 μ4) fun a5 μ6 =>
Wy_prepare_L29  am_FU (v1 + 1) a3 (w32 (a5 - 1)) μ6
noncomputable def Wy_record_B57 (k6 : Int → Int → Int → am_M → am_O) (v1 : Int) (v3 : Int) (s0 : Int) (s1 : Int) (μ : am_M) : am_O :=
k6 v1 (w32 (s0 + s1)) (w32 (v3 + 1)) μ
noncomputable def Wy_record_L6_b (k6 : Int → Int → Int → am_M → am_O) (v1 : Int) (v2 : Int) (v3 : Int) (μ : am_M) : am_O :=
if v3 < 10 then (q_bd (X_at 55 v3 μ) fun a21 μ22 =>
q_lt (if 0 < a21 then a21 else 0) fun a23 =>
if (aAnd (aShr (μ22 50 9) v3) 1) = 0 then (Wy_record_B57 k6 (w32 (v1 + a23)) v3 v2 0 μ22)
else (q_lt (if 0 < (w32 (-a21)) then (w32 (-a21)) else 0) fun a24 =>
Wy_record_B57 k6 (w32 (v1 + a23)) v3 v2 a24 μ22))
else (q_bd (X_at 58 0 μ) fun a1 μ2 =>
q_lt (if v1 < a1 then v1 else a1) fun a3 =>
q_bd (X_put 58 0 a3 μ2) fun a4 μ5 =>
q_bd (X_at 58 1 μ5) fun a6 μ7 =>
q_lt (if a6 < v1 then v1 else a6) fun a8 =>
q_bd (X_put 58 1 a8 μ7) fun a9 μ10 =>
q_bd (X_at 58 2 μ10) fun a11 μ12 =>
q_lt (if v2 < a11 then v2 else a11) fun a13 =>
q_bd (X_put 58 2 a13 μ12) fun a14 μ15 =>
q_bd (X_at 58 3 μ15) fun a16 μ17 =>
q_lt (if a16 < v2 then v2 else a16) fun a18 =>
q_bd (X_put 58 3 a18 μ17) fun a19 μ20 =>
some (0, μ20))
noncomputable def Wy_record_L6 : Nat → Int → Int → Int → am_M → am_O
  | 0, _, _, _, _ => none
  | n + 1, v1, v2, v3, μ => Wy_record_L6_b (Wy_record_L6 n) v1 v2 v3 μ
noncomputable def Wy_record  (μ : am_M) : am_O :=
Wy_record_L6  am_FU 0 0 0 μ
noncomputable def Wy_turnBack_B103 (k0 : Int → am_M → am_O) (v1 : Int) (v2 : Int) (μ : am_M) : am_O :=
q_bd (Wy_weigh v1 v2 (-1) μ) fun a1 μ2 =>
k0 v1 μ2
noncomputable def Wy_turnBack_B82 (k0 : Int → am_M → am_O) (v1 : Int) (v2 : Int) (μ : am_M) : am_O :=
q_bd (X_at 57 v2 μ) fun a1 μ2 =>
if a1 = 2 then (q_bd (X_put 57 v2 0 μ2) fun a3 μ4 =>
Wy_turnBack_B103 k0 v1 v2 μ4)
else (Wy_turnBack_B103 k0 v1 v2 μ2)
noncomputable def Wy_turnBack_L0_b (k0 : Int → am_M → am_O) (v1 : Int) (μ : am_M) : am_O :=
if (μ 50 8) ≤ 0 then (some ((-1), μ))
else (q_pf 50 8 (w32 ((μ 50 8) - 1)) μ fun μ1 =>
q_bd (X_at 56 (μ1 50 8) μ1) fun a2 μ3 =>
q_gd 2 v1 <|
q_bd (X_at (v1 + 1) a2 μ3) fun a5 μ6 =>
if a5 = 5 then (q_bd (X_at 57 a2 μ6) fun a7 μ8 =>
if a7 = 0 then (q_bd (X_put 57 a2 2 μ8) fun a9 μ10 =>
q_pf 50 8 (w32 ((μ10 50 8) + 1)) μ10 fun μ11 =>
q_bd (X_at (v1 + 6) a2 μ11) fun a12 μ13 =>
some ((w32 (a12 + 1)), μ13))
else (Wy_turnBack_B82 k0 v1 a2 μ8))
else (Wy_turnBack_B82 k0 v1 a2 μ6))
noncomputable def Wy_turnBack_L0 : Nat → Int → am_M → am_O
  | 0, _, _ => none
  | n + 1, v1, μ => Wy_turnBack_L0_b (Wy_turnBack_L0 n) v1 μ
noncomputable def Wy_turnBack (v1 : Int) (μ : am_M) : am_O :=
Wy_turnBack_L0 am_FU v1 μ
noncomputable def Wy_walkAll_B121 (k18 : Int → Int → Int → am_M → am_O) (v3 : Int) (v4 : Int) (v5 : Int) (μ : am_M) : am_O :=
k18 v3 v4 (w32 (v5 + 1)) μ
noncomputable def Wy_walkAll_B119 (k18 : Int → Int → Int → am_M → am_O) (v3 : Int) (v5 : Int) (s0 : Int) (μ : am_M) : am_O :=
Wy_walkAll_B121 k18 v3 s0 v5 μ
noncomputable def Wy_walkAll_L18_b (k18 : Int → Int → Int → am_M → am_O) (v3 : Int) (v4 : Int) (v5 : Int) (μ : am_M) : am_O :=
if v5 < 100000000 then (if v4 = (-1) then (some (0, μ))
else (q_bd (Wy_weigh v3 v4 1 μ) fun a1 μ2 =>
q_bd (X_put 56 (μ2 50 8) v4 μ2) fun a3 μ4 =>
q_pf 50 8 (w32 ((μ4 50 8) + 1)) μ4 fun μ5 =>
q_gd 2 v3 <|
q_bd (X_at (v3 + 1) v4 μ5) fun a7 μ8 =>
if a7 = 8 then (q_bd (Wy_record  μ8) fun a11 μ12 =>
q_bd (Wy_turnBack v3 μ12) fun a13 μ14 =>
Wy_walkAll_B121 k18 v3 a13 v5 μ14)
else (if a7 = 6 then (q_bd (X_at (v3 + 6) v4 μ8) fun a9 μ10 =>
Wy_walkAll_B119 k18 v3 v5 (w32 (a9 + 1)) μ10)
else (Wy_walkAll_B119 k18 v3 v5 (w32 (v4 + 1)) μ8))))
else (some (0, μ))
noncomputable def Wy_walkAll_L18 : Nat → Int → Int → Int → am_M → am_O
  | 0, _, _, _, _ => none
  | n + 1, v3, v4, v5, μ => Wy_walkAll_L18_b (Wy_walkAll_L18 n) v3 v4 v5 μ
noncomputable def Wy_walkAll (v1 : Int) (v2 : Int) (μ : am_M) : am_O :=
q_gd 0 v1 <|
q_bd (X_at (v1 + 15) v2 μ) fun a2 μ3 =>
Wy_walkAll_L18  am_FU (v1 + 1) a2 0 μ3
noncomputable def Wy_need_B25 (v3 : Int) (μ : am_M) : am_O :=
q_bd (X_at 58 v3 μ) fun a1 μ2 =>
some (a1, μ2)
noncomputable def Wy_need (v1 : Int) (v2 : Int) (v3 : Int) (μ : am_M) : am_O :=
if (μ 50 10) = v2 then (Wy_need_B25  v3 μ)
else (q_bd (Wy_prepare v1 v2 μ) fun a1 μ2 =>
q_bd (Wy_walkAll v1 v2 μ2) fun a3 μ4 =>
q_pf 50 10 v2 μ4 fun μ5 =>
Wy_need_B25  v3 μ5)
noncomputable def X_feed (v1 : Int) (v3 : Int) (v5 : Int) (μ : am_M) : am_O :=
q_bd (Tp_append v1 μ) fun a1 μ2 =>
q_bd (Tp_append v3 μ2) fun a3 μ4 =>
q_bd (Tp_append v5 μ4) fun a5 μ6 =>
some ((μ6 10 2), μ6)
noncomputable def X_bills  (μ : am_M) : am_O :=
q_bd (Rd_readInto (μ 0 9) μ) fun a1 μ2 =>
q_bd (Tp_clear  μ2) fun a3 μ4 =>
if a1 = 0 then (q_bd (Ck_checkAll (μ4 0 9) μ4) fun a5 μ6 =>
q_pf 0 8 (μ6 0 9) μ6 fun μ7 =>
q_pf 0 9 (μ6 0 8) μ7 fun μ8 =>
q_bd (Mc_stand 300 μ8) fun a9 μ10 =>
q_pf 0 10 0 μ10 fun μ11 =>
q_bd (Wy_forget  μ11) fun a12 μ13 =>
q_bd (Or_forget  μ13) fun a14 μ15 =>
some (a1, μ15))
else (some (a1, μ4))
noncomputable def X_bill (v1 : Int) (v2 : Int) (μ : am_M) : am_O :=
q_gd 0 (μ 0 8) <|
q_bd (Bi_has (μ 0 8) v1 μ) fun a2 μ3 =>
if a2 = 0 then (some ((-1), μ3))
else (if v2 = 0 then (q_gd 0 (μ3 0 8) <|
q_bd (X_at ((μ3 0 8) + 15) v1 μ3) fun a5 μ6 =>
some (a5, μ6))
else (if v2 = 1 then (q_gd 0 (μ3 0 8) <|
q_bd (X_at ((μ3 0 8) + 16) v1 μ3) fun a8 μ9 =>
some (a8, μ9))
else (if v2 = 2 then (q_gd 0 (μ3 0 8) <|
q_bd (X_at ((μ3 0 8) + 17) v1 μ3) fun a11 μ12 =>
some (a11, μ12))
else (if v2 = 3 then (q_gd 0 (μ3 0 8) <|
q_bd (X_at ((μ3 0 8) + 18) v1 μ3) fun a14 μ15 =>
some (a14, μ15))
else (if v2 = 4 then (q_gd 0 (μ3 0 8) <|
q_bd (X_at ((μ3 0 8) + 19) v1 μ3) fun a17 μ18 =>
if a17 = 0 then (some (1, μ18))
else (some (0, μ18)))
else (if v2 = 5 then (q_gd 0 (μ3 0 8) <|
q_bd (X_at ((μ3 0 8) + 22) v1 μ3) fun a20 μ21 =>
some (a20, μ21))
else (some ((-1), μ3))))))))
noncomputable def X_line (v1 : Int) (v2 : Int) (μ : am_M) : am_O :=
q_gd 0 (μ 0 8) <|
if v1 < 0 then (some ((-1), μ))
else (q_gd 2 ((μ 0 8) + 1) <|
if v1 < (μ ((μ 0 8) + 1) 10) then (if v2 = 0 then (q_bd (X_at (((μ 0 8) + 1) + 1) v1 μ) fun a3 μ4 =>
some (a3, μ4))
else (if v2 = 1 then (q_bd (X_at (((μ 0 8) + 1) + 2) v1 μ) fun a5 μ6 =>
some (a5, μ6))
else (if v2 = 2 then (q_bd (X_at (((μ 0 8) + 1) + 3) v1 μ) fun a7 μ8 =>
some (a7, μ8))
else (if v2 = 3 then (q_bd (Ln_timesRead ((μ 0 8) + 1) v1 μ) fun a9 μ10 =>
some (a9, μ10))
else (if v2 = 4 then (q_bd (X_at (((μ 0 8) + 1) + 5) v1 μ) fun a11 μ12 =>
some (a11, μ12))
else (some ((-1), μ)))))))
else (some ((-1), μ)))
noncomputable def X_check (v1 : Int) (v2 : Int) (μ : am_M) : am_O :=
q_gd 0 (μ 0 8) <|
q_bd (Bi_has (μ 0 8) v1 μ) fun a2 μ3 =>
if a2 = 0 then (some ((-1), μ3))
else (if v2 = 0 then (q_gd 0 (μ3 0 8) <|
q_bd (X_at ((μ3 0 8) + 19) v1 μ3) fun a5 μ6 =>
some (a5, μ6))
else (if v2 = 1 then (q_gd 0 (μ3 0 8) <|
q_bd (X_at ((μ3 0 8) + 20) v1 μ3) fun a8 μ9 =>
some (a8, μ9))
else (if v2 = 2 then (q_gd 0 (μ3 0 8) <|
q_bd (X_at ((μ3 0 8) + 21) v1 μ3) fun a11 μ12 =>
some (a11, μ12))
else (some ((-1), μ3)))))
noncomputable def X_room (v1 : Int) (μ : am_M) : am_O :=
if v1 < 1 then (some (0, μ))
else (if v1 ≤ 99 then (q_pf 300 12 v1 μ fun μ1 =>
some (1, μ1))
else (some (0, μ)))
noncomputable def X_price (v1 : Int) (μ : am_M) : am_O :=
if v1 < 0 then (some (0, μ))
else (if v1 ≤ 99 then (q_pf 300 13 v1 μ fun μ1 =>
some (1, μ1))
else (some (0, μ)))
noncomputable def X_begin (v1 : Int) (v2 : Int) (v3 : Int) (v4 : Int) (v5 : Int) (μ : am_M) : am_O :=
q_gd 0 (μ 0 8) <|
q_bd (Bi_has (μ 0 8) v1 μ) fun a2 μ3 =>
if a2 = 0 then (some (0, μ3))
else (q_gd 0 (μ3 0 8) <|
q_bd (X_at ((μ3 0 8) + 22) v1 μ3) fun a5 μ6 =>
if a5 = 0 then (some (0, μ6))
else (q_bd (Mc_take 300 v2 v3 v4 v5 μ6) fun a7 μ8 =>
q_bd (Mc_start 300 (μ8 0 8) v1 μ8) fun a9 μ10 =>
some (1, μ10)))
noncomputable def X_run (v1 : Int) (μ : am_M) : am_O :=
if v1 < 0 then (some ((-1), μ))
else (if v1 ≤ 1000 then (q_bd (Mc_go 300 (μ 0 8) v1 μ) fun a1 μ2 =>
some (a1, μ2))
else (some ((-1), μ)))
noncomputable def X_machine (v1 : Int) (μ : am_M) : am_O :=
q_bd (Mc_tell 300 v1 μ) fun a1 μ2 =>
some (a1, μ2)
noncomputable def X_given  (μ : am_M) : am_O :=
if (μ 300 6) = 2 then (some ((μ 300 7), μ))
else (none)
noncomputable def X_free (v1 : Int) (v2 : Int) (v3 : Int) (v4 : Int) (v5 : Int) (μ : am_M) : am_O :=
q_gd 0 (μ 0 8) <|
q_bd (Bi_has (μ 0 8) v1 μ) fun a2 μ3 =>
if a2 = 0 then (none)
else (q_bd (Mc_take 310 v2 v3 v4 v5 μ3) fun a4 μ5 =>
q_bd (Mc_start 310 (μ5 0 8) v1 μ5) fun a6 μ7 =>
q_bd (Mc_go 310 (μ7 0 8) 3000 μ7) fun a8 μ9 =>
if (μ9 310 6) = 2 then (some ((μ9 310 7), μ9))
else (none))
noncomputable def X_ways (v1 : Int) (v2 : Int) (μ : am_M) : am_O :=
q_gd 0 (μ 0 8) <|
q_bd (Bi_has (μ 0 8) v1 μ) fun a2 μ3 =>
if a2 = 0 then (some ((-1), μ3))
else (if v2 < 0 then (some ((-1), μ3))
else (if v2 ≤ 2 then (if v2 = 0 then (q_bd (Wy_howMany (μ3 0 8) v1 μ3) fun a6 μ7 =>
some (a6, μ7))
else (q_bd (Wy_measure (μ3 0 8) v1 (-1) μ3) fun a4 μ5 =>
if v2 = 1 then (some ((μ5 50 12), μ5))
else (some ((μ5 50 11), μ5))))
else (some ((-1), μ3))))
noncomputable def X_reads (v1 : Int) (v2 : Int) (v3 : Int) (μ : am_M) : am_O :=
q_gd 0 (μ 0 8) <|
q_bd (Bi_has (μ 0 8) v1 μ) fun a2 μ3 =>
if a2 = 0 then (some ((-1), μ3))
else (if v3 < 0 then (some ((-1), μ3))
else (if v3 ≤ 1 then (if v2 < 0 then (some ((-1), μ3))
else (q_gd 0 (μ3 0 8) <|
q_bd (X_at ((μ3 0 8) + 18) v1 μ3) fun a5 μ6 =>
if v2 < a5 then (q_bd (Wy_measure (μ6 0 8) v1 v2 μ6) fun a7 μ8 =>
if v3 = 1 then (some ((μ8 50 12), μ8))
else (some ((μ8 50 11), μ8)))
else (some ((-1), μ6))))
else (some ((-1), μ3))))
noncomputable def X_needs (v1 : Int) (v2 : Int) (μ : am_M) : am_O :=
q_gd 0 (μ 0 8) <|
q_bd (Bi_has (μ 0 8) v1 μ) fun a2 μ3 =>
if a2 = 0 then (some ((-1), μ3))
else (if v2 < 0 then (some ((-1), μ3))
else (if v2 ≤ 3 then (q_bd (Wy_need (μ3 0 8) v1 v2 μ3) fun a4 μ5 =>
some (a4, μ5))
else (some ((-1), μ3))))
noncomputable def X_plain (v1 : Int) (μ : am_M) : am_O :=
q_gd 0 (μ 0 8) <|
q_bd (Bi_has (μ 0 8) v1 μ) fun a2 μ3 =>
if a2 = 0 then (some ((-1), μ3))
else (q_gd 0 (μ3 0 8) <|
q_bd (Bi_isPlain (μ3 0 8) v1 μ3) fun a5 μ6 =>
if a5 = 0 then (some (0, μ6))
else (some (1, μ6)))
noncomputable def X_fewest (v1 : Int) (μ : am_M) : am_O :=
q_bd (Or_prepare (μ 0 8) v1 μ) fun a1 μ2 =>
if a1 = 0 then (some ((-1), μ2))
else (q_bd (Or_least  μ2) fun a3 μ4 =>
some (a3, μ4))
noncomputable def X_order (v1 : Int) (v2 : Int) (μ : am_M) : am_O :=
q_bd (Or_prepare (μ 0 8) v1 μ) fun a1 μ2 =>
if a1 = 0 then (some ((-1), μ2))
else (q_bd (Or_sumAt v2 μ2) fun a3 μ4 =>
some (a3, μ4))
noncomputable def X_asTold (v1 : Int) (μ : am_M) : am_O :=
q_bd (Or_prepare (μ 0 8) v1 μ) fun a1 μ2 =>
if a1 = 0 then (some ((-1), μ2))
else (q_bd (Or_greatestAsTold  μ2) fun a3 μ4 =>
some (a3, μ4))
noncomputable def X_orders (v1 : Int) (v2 : Int) (μ : am_M) : am_O :=
if v2 < 0 then (some ((-1), μ))
else (if v2 ≤ 20 then (q_bd (Or_prepare (μ 0 8) v1 μ) fun a1 μ2 =>
if a1 = 0 then (some ((-1), μ2))
else (q_bd (Or_howMany v2 μ2) fun a3 μ4 =>
some (a3, μ4)))
else (some ((-1), μ)))
noncomputable def X_cheapest (v1 : Int) (v2 : Int) (v3 : Int) (μ : am_M) : am_O :=
if v2 < 0 then (some ((-1), μ))
else (if v2 ≤ 99 then (if v3 < 0 then (some ((-1), μ))
else (if v3 ≤ 99 then (q_bd (Or_prepare (μ 0 8) v1 μ) fun a1 μ2 =>
if a1 = 0 then (some ((-1), μ2))
else (q_bd (Or_leastCoin v2 v3 μ2) fun a3 μ4 =>
some (a3, μ4)))
else (some ((-1), μ))))
else (some ((-1), μ)))
noncomputable def X_mark_B43 (v1 : Int) (v2 : Int) (v3 : Int) (μ : am_M) : am_O :=
if v2 = 0 then (q_gd 3 v3 <|
q_bd (Mc_become v3 300 μ) fun a2 μ3 =>
q_pf 0 10 (aOr (μ3 0 10) (aShl 1 v1)) μ3 fun μ4 =>
some (1, μ4))
else (q_bd (Mc_become 300 v3 μ) fun a5 μ6 =>
some (1, μ6))
noncomputable def X_mark (v1 : Int) (v2 : Int) (μ : am_M) : am_O :=
if v1 < 0 then (some (0, μ))
else (if v1 < 4 then (q_ld 4 70 v1 μ fun a1 =>
if a1 < 0 then (some (0, μ))
else (if v2 = 0 then (X_mark_B43  v1 v2 a1 μ)
else (if (aAnd (aShr (μ 0 10) v1) 1) = 0 then (some (0, μ))
else (X_mark_B43  v1 v2 a1 μ))))
else (some (0, μ)))
noncomputable def X_count (v1 : Int) (μ : am_M) : am_O :=
if v1 = 0 then (q_gd 0 (μ 0 8) <|
some ((μ (μ 0 8) 12), μ))
else (if v1 = 1 then (q_gd 0 (μ 0 8) <|
some ((μ (μ 0 8) 13), μ))
else (if v1 = 2 then (q_gd 0 (μ 0 8) <|
q_gd 2 ((μ 0 8) + 1) <|
some ((μ ((μ 0 8) + 1) 10), μ))
else (if v1 = 3 then (some ((μ 300 12), μ))
else (if v1 = 4 then (some ((μ 300 13), μ))
else (if v1 = 5 then (some ((μ 10 2), μ))
else (some ((-1), μ)))))))
noncomputable def L_feed_B99 (k7 : Int → Int → am_M → am_O) (v2 : Int) (v4 : Int) (μ : am_M) : am_O :=
k7 v2 (w32 (v4 + 1)) μ
noncomputable def L_feed_L82_b (k7 : Int → Int → am_M → am_O) (k82 : Int → Int → Int → am_M → am_O) (v2 : Int) (v4 : Int) (v6 : Int) (μ : am_M) : am_O :=
if v6 < 3 then (q_st 3 3010 v6 0 μ fun μ1 =>
k82 v2 v4 (w32 (v6 + 1)) μ1)
else (L_feed_B99 k7 v2 v4 μ)
noncomputable def L_feed_L82 (k7 : Int → Int → am_M → am_O) : Nat → Int → Int → Int → am_M → am_O
  | 0, _, _, _, _ => none
  | n + 1, v2, v4, v6, μ => L_feed_L82_b k7 (L_feed_L82 k7 n) v2 v4 v6 μ
noncomputable def L_feed_B65 (k7 : Int → Int → am_M → am_O) (v2 : Int) (v4 : Int) (μ : am_M) : am_O :=
q_ld 3 3010 0 μ fun a1 =>
q_ld 3 3010 1 μ fun a2 =>
q_ld 3 3010 2 μ fun a3 =>
q_bd (X_feed a1 a2 a3 μ) fun a4 μ5 =>
L_feed_L82 k7 am_FU v2 v4 0 μ5
noncomputable def L_feed_L7_b (k7 : Int → Int → am_M → am_O) (v2 : Int) (v4 : Int) (μ : am_M) : am_O :=
if v4 < v2 then (q_ld 3 3010 (aDiv (aRem v4 24) 8) μ fun a1 =>
q_ld 950 3000 v4 μ fun a2 =>
q_st 3 3010 (aDiv (aRem v4 24) 8) (lOr a1 (lShl a2 (w32 (56 - (w32 (8 * (aRem (aRem v4 24) 8))))))) μ fun μ3 =>
if (aRem v4 24) < 23 then (if v4 < (w32 (v2 - 1)) then (L_feed_B99 k7 v2 v4 μ3)
else (L_feed_B65 k7 v2 v4 μ3))
else (L_feed_B65 k7 v2 v4 μ3))
else (some (0, μ))
noncomputable def L_feed_L7 : Nat → Int → Int → am_M → am_O
  | 0, _, _, _ => none
  | n + 1, v2, v4, μ => L_feed_L7_b (L_feed_L7 n) v2 v4 μ
noncomputable def L_feed (v2 : Int) (μ : am_M) : am_O :=
L_feed_L7  am_FU v2 0 μ
noncomputable def L_tells_B843 (s0 : Int) (s1 : Int) (μ : am_M) : am_O :=
if s0 = s1 then (q_bd (X_machine 0 μ) fun a1 μ2 =>
if a1 = 0 then (some (1, μ2))
else (some (0, μ2)))
else (some (0, μ))
noncomputable def L_tells (v1 : Int) (μ : am_M) : am_O :=
q_bd (X_bills  μ) fun a1 μ2 =>
if a1 = 0 then (q_bd (X_count 1 μ2) fun a3 μ4 =>
if v1 < 2 then (L_tells_B843  a3 3 μ4)
else (L_tells_B843  a3 1 μ4))
else (some (0, μ2))
noncomputable def L_sound_B255 (k4 : Int → Int → am_M → am_O) (k232 : Int → Int → Int → Int → Int → Int → Int → am_M → am_O) (v1 : Int) (v2 : Int) (v3 : Int) (v4 : Int) (v6 : Int) (v7 : Int) (v8 : Int) (μ : am_M) : am_O :=
q_bd (X_line v8 3 μ) fun a1 μ2 =>
k232 v1 v2 v3 v4 v6 (w32 (v7 + a1)) (w32 (v8 + 1)) μ2
noncomputable def L_sound_B536 (k4 : Int → Int → am_M → am_O) (v1 : Int) (v2 : Int) (μ : am_M) : am_O :=
k4 v1 (w32 (v2 + 1)) μ
noncomputable def L_sound_L470_b (k4 : Int → Int → am_M → am_O) (k470 : Int → Int → Int → Int → am_M → am_O) (v1 : Int) (v2 : Int) (v10 : Int) (v12 : Int) (μ : am_M) : am_O :=
if v12 < 20 then (q_bd (X_cheapest v2 v12 7 μ) fun a1 μ2 =>
if (lCmp a1 v10) < 0 then (some (0, μ2))
else (k470 v1 v2 a1 (w32 (v12 + 1)) μ2))
else (L_sound_B536 k4 v1 v2 μ)
noncomputable def L_sound_L470 (k4 : Int → Int → am_M → am_O) : Nat → Int → Int → Int → Int → am_M → am_O
  | 0, _, _, _, _, _ => none
  | n + 1, v1, v2, v10, v12, μ => L_sound_L470_b k4 (L_sound_L470 k4 n) v1 v2 v10 v12 μ
noncomputable def L_sound_B444 (k4 : Int → Int → am_M → am_O) (v1 : Int) (v2 : Int) (v9 : Int) (μ : am_M) : am_O :=
q_bd (X_orders v2 20 μ) fun a1 μ2 =>
q_bd (X_orders v2 v9 μ2) fun a3 μ4 =>
if (lCmp a1 a3) < 0 then (some (0, μ4))
else (L_sound_L470 k4 am_FU v1 v2 0 0 μ4)
noncomputable def L_sound_B382 (k4 : Int → Int → am_M → am_O) (v1 : Int) (v2 : Int) (μ : am_M) : am_O :=
q_bd (X_plain v2 μ) fun a1 μ2 =>
if a1 = 1 then (q_bd (X_fewest v2 μ2) fun a7 μ8 =>
q_bd (X_asTold v2 μ8) fun a9 μ10 =>
if a7 ≤ a9 then (if a7 < 0 then (some (0, μ10))
else (q_bd (X_orders v2 a7 μ10) fun a11 μ12 =>
if (lCmp a11 1) < 0 then (some (0, μ12))
else (if a7 ≤ 0 then (L_sound_B444 k4 v1 v2 a7 μ12)
else (q_bd (X_orders v2 (w32 (a7 - 1)) μ12) fun a13 μ14 =>
if (lCmp a13 0) = 0 then (L_sound_B444 k4 v1 v2 a7 μ14)
else (some (0, μ14))))))
else (some (0, μ10)))
else (q_bd (X_fewest v2 μ2) fun a3 μ4 =>
if a3 = (-1) then (q_bd (X_cheapest v2 1 1 μ4) fun a5 μ6 =>
if (lCmp a5 (-1)) = 0 then (L_sound_B536 k4 v1 v2 μ6)
else (some (0, μ6)))
else (some (0, μ4)))
noncomputable def L_sound_L310_b (k4 : Int → Int → am_M → am_O) (k310 : Int → Int → Int → Int → Int → Int → am_M → am_O) (v1 : Int) (v2 : Int) (v6 : Int) (v7 : Int) (v8 : Int) (v9 : Int) (μ : am_M) : am_O :=
q_bd (X_bill v2 3 μ) fun a1 μ2 =>
if v9 < a1 then (q_bd (X_reads v2 v9 0 μ2) fun a3 μ4 =>
q_bd (X_reads v2 v9 1 μ4) fun a5 μ6 =>
if a3 ≤ a5 then (q_bd (X_reads v2 v9 1 μ6) fun a7 μ8 =>
k310 v1 v2 v6 v7 (w32 (v8 + a7)) (w32 (v9 + 1)) μ8)
else (some (0, μ6)))
else (if v8 ≤ v7 then (if v6 = 0 then (if v8 = v7 then (L_sound_B382 k4 v1 v2 μ2)
else (some (0, μ2)))
else (L_sound_B382 k4 v1 v2 μ2))
else (some (0, μ2)))
noncomputable def L_sound_L310 (k4 : Int → Int → am_M → am_O) : Nat → Int → Int → Int → Int → Int → Int → am_M → am_O
  | 0, _, _, _, _, _, _, _ => none
  | n + 1, v1, v2, v6, v7, v8, v9, μ => L_sound_L310_b k4 (L_sound_L310 k4 n) v1 v2 v6 v7 v8 v9 μ
noncomputable def L_sound_B304 (k4 : Int → Int → am_M → am_O) (v1 : Int) (v2 : Int) (v6 : Int) (v7 : Int) (μ : am_M) : am_O :=
L_sound_L310 k4 am_FU v1 v2 v6 v7 0 0 μ
noncomputable def L_sound_B288 (k4 : Int → Int → am_M → am_O) (v1 : Int) (v2 : Int) (v6 : Int) (v7 : Int) (μ : am_M) : am_O :=
q_bd (X_plain v2 μ) fun a1 μ2 =>
if a1 = 1 then (if v6 ≤ 0 then (L_sound_B304 k4 v1 v2 v6 v7 μ2)
else (some (0, μ2)))
else (L_sound_B304 k4 v1 v2 v6 v7 μ2)
noncomputable def L_sound_L232_b (k4 : Int → Int → am_M → am_O) (k232 : Int → Int → Int → Int → Int → Int → Int → am_M → am_O) (v1 : Int) (v2 : Int) (v3 : Int) (v4 : Int) (v6 : Int) (v7 : Int) (v8 : Int) (μ : am_M) : am_O :=
if v8 < (w32 (v3 + v4)) then (q_bd (X_line v8 0 μ) fun a3 μ4 =>
if a3 = 5 then (L_sound_B255 k4 k232 v1 v2 v3 v4 (w32 (v6 + 1)) v7 v8 μ4)
else (L_sound_B255 k4 k232 v1 v2 v3 v4 v6 v7 v8 μ4))
else (if v6 = 0 then (q_bd (X_ways v2 0 μ) fun a1 μ2 =>
if a1 = 1 then (L_sound_B288 k4 v1 v2 v6 v7 μ2)
else (some (0, μ2)))
else (L_sound_B288 k4 v1 v2 v6 v7 μ))
noncomputable def L_sound_L232 (k4 : Int → Int → am_M → am_O) : Nat → Int → Int → Int → Int → Int → Int → Int → am_M → am_O
  | 0, _, _, _, _, _, _, _, _ => none
  | n + 1, v1, v2, v3, v4, v6, v7, v8, μ => L_sound_L232_b k4 (L_sound_L232 k4 n) v1 v2 v3 v4 v6 v7 v8 μ
noncomputable def L_sound_B150 (k4 : Int → Int → am_M → am_O) (v1 : Int) (v2 : Int) (v3 : Int) (v4 : Int) (μ : am_M) : am_O :=
q_bd (X_ways v2 0 μ) fun a1 μ2 =>
if a1 < 1 then (some (0, μ2))
else (q_bd (X_ways v2 1 μ2) fun a3 μ4 =>
q_bd (X_ways v2 2 μ4) fun a5 μ6 =>
if a3 < a5 then (some (0, μ6))
else (q_bd (X_ways v2 1 μ6) fun a7 μ8 =>
if a7 ≤ v4 then (q_bd (X_needs v2 0 μ8) fun a9 μ10 =>
q_bd (X_needs v2 1 μ10) fun a11 μ12 =>
if a9 ≤ a11 then (q_bd (X_needs v2 2 μ12) fun a13 μ14 =>
q_bd (X_needs v2 3 μ14) fun a15 μ16 =>
if a13 ≤ a15 then (L_sound_L232 k4 am_FU (w32 (v1 + v4)) v2 v3 v4 0 0 v3 μ16)
else (some (0, μ16)))
else (some (0, μ12)))
else (some (0, μ8))))
noncomputable def L_sound_B117 (k4 : Int → Int → am_M → am_O) (v1 : Int) (v2 : Int) (v3 : Int) (v4 : Int) (v5 : Int) (s0 : Int) (s1 : Int) (μ : am_M) : am_O :=
if s0 = s1 then (if v5 ≤ 0 then (L_sound_B150 k4 v1 v2 v3 v4 μ)
else (q_bd (X_check v2 1 μ) fun a1 μ2 =>
if a1 < v3 then (some (0, μ2))
else (q_bd (X_check v2 1 μ2) fun a3 μ4 =>
if a3 < (w32 (v3 + v4)) then (L_sound_B150 k4 v1 v2 v3 v4 μ4)
else (some (0, μ4)))))
else (some (0, μ))
noncomputable def L_sound_B103 (k4 : Int → Int → am_M → am_O) (v1 : Int) (v2 : Int) (v3 : Int) (v4 : Int) (v5 : Int) (s0 : Int) (μ : am_M) : am_O :=
q_bd (X_check v2 1 μ) fun a1 μ2 =>
if a1 < 0 then (L_sound_B117 k4 v1 v2 v3 v4 v5 s0 1 μ2)
else (L_sound_B117 k4 v1 v2 v3 v4 v5 s0 0 μ2)
noncomputable def L_sound_B57 (k4 : Int → Int → am_M → am_O) (v1 : Int) (v2 : Int) (v3 : Int) (v4 : Int) (v5 : Int) (s0 : Int) (s1 : Int) (μ : am_M) : am_O :=
if s0 = s1 then (q_bd (X_bill v2 5 μ) fun a1 μ2 =>
q_bd (X_bill v2 4 μ2) fun a3 μ4 =>
if a1 ≤ a3 then (q_bd (X_line (w32 ((w32 (v3 + v4)) - 1)) 0 μ4) fun a5 μ6 =>
if a5 = 8 then (if v5 = 0 then (L_sound_B103 k4 v1 v2 v3 v4 v5 1 μ6)
else (L_sound_B103 k4 v1 v2 v3 v4 v5 0 μ6))
else (some (0, μ6)))
else (some (0, μ4)))
else (some (0, μ))
noncomputable def L_sound_B580 (s0 : Int) (s1 : Int) (μ : am_M) : am_O :=
if s0 = s1 then (q_bd (X_machine 2 μ) fun a1 μ2 =>
q_bd (X_machine 3 μ2) fun a3 μ4 =>
if a1 ≤ a3 then (q_bd (X_machine 7 μ4) fun a5 μ6 =>
if a5 ≤ 16 then (some (1, μ6))
else (some (0, μ6)))
else (some (0, μ4)))
else (some (0, μ))
noncomputable def L_sound_B567 (s0 : Int) (μ : am_M) : am_O :=
q_bd (X_machine 1 μ) fun a1 μ2 =>
if a1 < 0 then (L_sound_B580  s0 0 μ2)
else (L_sound_B580  s0 1 μ2)
noncomputable def L_sound_L4_b (k4 : Int → Int → am_M → am_O) (v1 : Int) (v2 : Int) (μ : am_M) : am_O :=
q_bd (X_count 1 μ) fun a1 μ2 =>
if v2 < a1 then (q_bd (X_bill v2 0 μ2) fun a7 μ8 =>
q_bd (X_bill v2 1 μ8) fun a9 μ10 =>
q_bd (X_check v2 0 μ10) fun a11 μ12 =>
if a7 = v1 then (q_bd (X_bill v2 4 μ12) fun a13 μ14 =>
if a11 = 0 then (L_sound_B57 k4 v1 v2 a7 a9 a11 a13 1 μ14)
else (L_sound_B57 k4 v1 v2 a7 a9 a11 a13 0 μ14))
else (some (0, μ12)))
else (q_bd (X_machine 0 μ2) fun a3 μ4 =>
q_bd (X_count 2 μ4) fun a5 μ6 =>
if v1 = a5 then (if a3 = 1 then (L_sound_B567  1 μ6)
else (L_sound_B567  0 μ6))
else (some (0, μ6)))
noncomputable def L_sound_L4 : Nat → Int → Int → am_M → am_O
  | 0, _, _, _ => none
  | n + 1, v1, v2, μ => L_sound_L4_b (L_sound_L4 n) v1 v2 μ
noncomputable def L_sound  (μ : am_M) : am_O :=
L_sound_L4  am_FU 0 0 μ
noncomputable def L_act_B156 (s0 : Int) (s1 : Int) (μ : am_M) : am_O :=
if s0 = s1 then (some (1, μ))
else (some (0, μ))
noncomputable def L_act_B126 (v3 : Int) (v4 : Int) (v5 : Int) (μ : am_M) : am_O :=
q_bd (X_begin v5 (aRem v3 9) v4 1 1 μ) fun a1 μ2 =>
q_bd (X_bill v5 5 μ2) fun a3 μ4 =>
if a3 = 1 then (L_act_B156  a1 1 μ4)
else (L_act_B156  a1 0 μ4)
noncomputable def L_act_B216 (v3 : Int) (v7 : Int) (v8 : Int) (v9 : Int) (μ : am_M) : am_O :=
q_bd (X_machine 6 μ) fun a1 μ2 =>
if a1 = (w32 (v7 + v9)) then (q_bd (X_machine 4 μ2) fun a3 μ4 =>
if a3 < v8 then (some (0, μ4))
else (if v9 = v3 then (some (1, μ4))
else (q_bd (X_machine 0 μ4) fun a5 μ6 =>
if a5 = 1 then (some (0, μ6))
else (some (1, μ6)))))
else (some (0, μ2))
noncomputable def L_act_B165 (v3 : Int) (μ : am_M) : am_O :=
q_bd (X_machine 0 μ) fun a1 μ2 =>
q_bd (X_machine 6 μ2) fun a3 μ4 =>
q_bd (X_machine 4 μ4) fun a5 μ6 =>
q_bd (X_run v3 μ6) fun a7 μ8 =>
if a7 < 0 then (some (0, μ8))
else (if a7 ≤ v3 then (if a1 = 1 then (L_act_B216  v3 a3 a5 a7 μ8)
else (if a7 ≤ 0 then (L_act_B216  v3 a3 a5 a7 μ8)
else (some (0, μ8))))
else (some (0, μ8)))
noncomputable def L_act_B263 (v2 : Int) (μ : am_M) : am_O :=
q_bd (X_room (w32 (1 + v2)) μ) fun a1 μ2 =>
if a1 = 0 then (some (0, μ2))
else (q_bd (X_count 3 μ2) fun a3 μ4 =>
if a3 = (w32 (1 + v2)) then (some (1, μ4))
else (some (0, μ4)))
noncomputable def L_act_B290 (v3 : Int) (μ : am_M) : am_O :=
q_bd (X_price v3 μ) fun a1 μ2 =>
if a1 = 0 then (some (0, μ2))
else (q_bd (X_count 4 μ2) fun a3 μ4 =>
if a3 = v3 then (some (1, μ4))
else (some (0, μ4)))
noncomputable def L_act_B358 (v5 : Int) (μ : am_M) : am_O :=
q_bd (X_bill v5 5 μ) fun a1 μ2 =>
if a1 = 0 then (some (1, μ2))
else (some (0, μ2))
noncomputable def L_act_B443  (μ : am_M) : am_O :=
q_bd (X_mark 3 1 μ) fun a1 μ2 =>
q_rb a1 (some (a1, μ2))
noncomputable def L_act_B415  (μ : am_M) : am_O :=
q_bd (X_machine 0 μ) fun a1 μ2 =>
if a1 = 2 then (q_bd (X_machine 2 μ2) fun a3 μ4 =>
if a3 = 0 then (q_bd (X_machine 7 μ4) fun a5 μ6 =>
if a5 = 0 then (L_act_B443  μ6)
else (some (0, μ6)))
else (some (0, μ4)))
else (L_act_B443  μ2)
noncomputable def L_act_B374 (v3 : Int) (v4 : Int) (v5 : Int) (μ : am_M) : am_O :=
q_bd (X_run 1000 μ) fun a1 μ2 =>
q_bd (X_machine 0 μ2) fun a3 μ4 =>
if a3 = 2 then (q_bd (X_given  μ4) fun a5 μ6 =>
q_bd (X_free v5 (aRem v3 9) v4 5 6 μ6) fun a7 μ8 =>
if a5 = a7 then (L_act_B415  μ8)
else (some (0, μ8)))
else (L_act_B415  μ4)
noncomputable def L_act_B313 (v3 : Int) (v4 : Int) (v5 : Int) (μ : am_M) : am_O :=
q_bd (X_bill v5 5 μ) fun a1 μ2 =>
if a1 = 0 then (L_act_B358  v5 μ2)
else (q_bd (X_mark 3 0 μ2) fun a3 μ4 =>
if a3 = 0 then (L_act_B358  v5 μ4)
else (q_bd (X_room 99 μ4) fun a5 μ6 =>
if a5 = 0 then (L_act_B358  v5 μ6)
else (q_bd (X_begin v5 (aRem v3 9) v4 0 0 μ6) fun a7 μ8 =>
if a7 = 0 then (L_act_B358  v5 μ8)
else (L_act_B374  v3 v4 v5 μ8))))
noncomputable def L_act_B450 (v2 : Int) (v4 : Int) (μ : am_M) : am_O :=
q_bd (X_mark (aAnd v2 1) 0 μ) fun a1 μ2 =>
if a1 = 0 then (some (0, μ2))
else (q_bd (X_machine 6 μ2) fun a3 μ4 =>
q_bd (X_machine 1 μ4) fun a5 μ6 =>
q_bd (X_machine 5 μ6) fun a7 μ8 =>
q_bd (X_run 3 μ8) fun a9 μ10 =>
q_bd (X_price 99 μ10) fun a11 μ12 =>
q_bd (X_run v4 μ12) fun a13 μ14 =>
q_bd (X_mark (aAnd v2 1) 1 μ14) fun a15 μ16 =>
if a15 = 0 then (some (0, μ16))
else (q_bd (X_machine 6 μ16) fun a17 μ18 =>
if a17 = a3 then (q_bd (X_machine 1 μ18) fun a19 μ20 =>
if a19 = a5 then (q_bd (X_machine 5 μ20) fun a21 μ22 =>
if a21 = a7 then (some (1, μ22))
else (some (0, μ22)))
else (some (0, μ20)))
else (some (0, μ18))))
noncomputable def L_act_B553  (μ : am_M) : am_O :=
q_bd (X_run 1001 μ) fun a1 μ2 =>
if a1 = (-1) then (q_bd (X_count 1 μ2) fun a3 μ4 =>
q_bd (X_begin a3 0 0 0 0 μ4) fun a5 μ6 =>
if a5 = 0 then (q_bd (X_room 0 μ6) fun a7 μ8 =>
if a7 = 0 then (q_bd (X_price (-1) μ8) fun a9 μ10 =>
if a9 = 0 then (some (1, μ10))
else (some (0, μ10)))
else (some (0, μ8)))
else (some (0, μ6)))
else (some (0, μ2))
noncomputable def L_act_B677 (k643 : Int → Int → Int → Int → am_M → am_O) (v5 : Int) (v6 : Int) (v7 : Int) (v8 : Int) (μ : am_M) : am_O :=
k643 v5 v6 v7 (w32 (v8 + 1)) μ
noncomputable def L_act_L686_b (k686 : Int → Int → Int → Int → am_M → am_O) (v5 : Int) (v6 : Int) (v7 : Int) (v8 : Int) (μ : am_M) : am_O :=
if v8 < v6 then (q_bd (X_order v5 v8 μ) fun a3 μ4 =>
k686 v5 v6 (aOr v7 (aShl 1 a3)) (w32 (v8 + 1)) μ4)
else (if v7 = (w32 ((aShl 1 v6) - 1)) then (q_bd (X_order v5 v6 μ) fun a1 μ2 =>
if a1 = (-1) then (some (1, μ2))
else (some (0, μ2)))
else (some (0, μ)))
noncomputable def L_act_L686 : Nat → Int → Int → Int → Int → am_M → am_O
  | 0, _, _, _, _, _ => none
  | n + 1, v5, v6, v7, v8, μ => L_act_L686_b (L_act_L686 n) v5 v6 v7 v8 μ
noncomputable def L_act_L643_b (k643 : Int → Int → Int → Int → am_M → am_O) (v5 : Int) (v6 : Int) (v7 : Int) (v8 : Int) (μ : am_M) : am_O :=
q_bd (X_bill v5 0 μ) fun a1 μ2 =>
q_bd (X_bill v5 1 μ2) fun a3 μ4 =>
if v8 < (w32 (a1 + a3)) then (q_bd (X_line v8 0 μ4) fun a5 μ6 =>
if a5 = 1 then (L_act_B677 k643 v5 (w32 (v6 + 1)) v7 v8 μ6)
else (L_act_B677 k643 v5 v6 v7 v8 μ6))
else (L_act_L686  am_FU v5 v6 v7 0 μ4)
noncomputable def L_act_L643 : Nat → Int → Int → Int → Int → am_M → am_O
  | 0, _, _, _, _, _ => none
  | n + 1, v5, v6, v7, v8, μ => L_act_L643_b (L_act_L643 n) v5 v6 v7 v8 μ
noncomputable def L_act_B602 (v5 : Int) (μ : am_M) : am_O :=
q_bd (X_plain v5 μ) fun a1 μ2 =>
if a1 = 0 then (q_bd (X_order v5 0 μ2) fun a5 μ6 =>
if a5 = (-1) then (some (1, μ6))
else (some (0, μ6)))
else (q_bd (X_bill v5 0 μ2) fun a3 μ4 =>
L_act_L643  am_FU v5 0 0 a3 μ4)
noncomputable def L_act (v1 : Int) (μ : am_M) : am_O :=
q_bd (X_count 1 μ) fun a1 μ2 =>
q_nz a1 <|
if (aAnd v1 15) = 0 then (if (aAnd (aUshr v1 4) 63) ≤ 7 then (none)
else (some (1, μ2)))
else (if (aAnd v1 15) = 1 then (L_act_B126  (aAnd (aUshr v1 10) 63) (aAnd (aUshr v1 16) 63) (aRem (aAnd (aUshr v1 4) 63) a1) μ2)
else (if (aAnd v1 15) = 2 then (L_act_B126  (aAnd (aUshr v1 10) 63) (aAnd (aUshr v1 16) 63) (aRem (aAnd (aUshr v1 4) 63) a1) μ2)
else (if (aAnd v1 15) = 3 then (L_act_B126  (aAnd (aUshr v1 10) 63) (aAnd (aUshr v1 16) 63) (aRem (aAnd (aUshr v1 4) 63) a1) μ2)
else (if (aAnd v1 15) = 4 then (L_act_B165  (aAnd (aUshr v1 10) 63) μ2)
else (if (aAnd v1 15) = 5 then (L_act_B165  (aAnd (aUshr v1 10) 63) μ2)
else (if (aAnd v1 15) = 6 then (L_act_B165  (aAnd (aUshr v1 10) 63) μ2)
else (if (aAnd v1 15) = 7 then (L_act_B263  (aAnd (aUshr v1 4) 63) μ2)
else (if (aAnd v1 15) = 8 then (L_act_B290  (aAnd (aUshr v1 10) 63) μ2)
else (if (aAnd v1 15) = 9 then (L_act_B313  (aAnd (aUshr v1 10) 63) (aAnd (aUshr v1 16) 63) (aRem (aAnd (aUshr v1 4) 63) a1) μ2)
else (if (aAnd v1 15) = 10 then (L_act_B313  (aAnd (aUshr v1 10) 63) (aAnd (aUshr v1 16) 63) (aRem (aAnd (aUshr v1 4) 63) a1) μ2)
else (if (aAnd v1 15) = 11 then (L_act_B450  (aAnd (aUshr v1 4) 63) (aAnd (aUshr v1 16) 63) μ2)
else (if (aAnd v1 15) = 12 then (L_act_B553  μ2)
else (L_act_B602  (aRem (aAnd (aUshr v1 4) 63) a1) μ2)))))))))))))
