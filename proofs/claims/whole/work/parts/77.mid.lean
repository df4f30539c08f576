/-! CHECK of a line but for what its kind asks. -/
/-- o, m, what is wrong, the slip -/
def chF (r : List Int) (s1 s2 a o m : Int) : Int × Int × Int × Int :=
  if (bnF r o m).2.2 ≠ -1 then ((bnF r o m).1, (bnF r o m).2.1, 1, (bnF r o m).2.2)
  else if (layF (bnF r o m).1 (bnF r o m).2.1 s1 a).2.2 ≠ -1 then (0, 0, 2, (layF (bnF r o m).1 (bnF r o m).2.1 s1 a).2.2)
  else if (layF (layF (bnF r o m).1 (bnF r o m).2.1 s1 a).1 (layF (bnF r o m).1 (bnF r o m).2.1 s1 a).2.1 s2 a).2.2 ≠ -1 then (0, 0, 2, (layF (layF (bnF r o m).1 (bnF r o m).2.1 s1 a).1 (layF (bnF r o m).1 (bnF r o m).2.1 s1 a).2.1 s2 a).2.2)
  else ((layF (layF (bnF r o m).1 (bnF r o m).2.1 s1 a).1 (layF (bnF r o m).1 (bnF r o m).2.1 s1 a).2.1 s2 a).1, (layF (layF (bnF r o m).1 (bnF r o m).2.1 s1 a).1 (layF (bnF r o m).1 (bnF r o m).2.1 s1 a).2.1 s2 a).2.1, 0, -1)
noncomputable def ckRest (b l : Int) (μ17 : am_M) : am_O := q_bd (X_at (b + 2) l μ17) fun a16 μ17 =>
if a16 = 5 then (q_bd (X_put 31 (μ17 30 7) (μ17 30 5) μ17) fun a18 μ19 =>
q_bd (X_put 32 (μ19 30 7) (μ19 30 6) μ19) fun a20 μ21 =>
q_pf 30 7 (w32 ((μ21 30 7) + 1)) μ21 fun μ22 =>
some (0, μ22))
else (if a16 = 6 then (q_bd (Ck_turnToElse l μ17) fun a23 μ24 =>
some (0, μ24))
else (if a16 = 7 then (q_bd (Ck_joinBranches (b + 1) l μ17) fun a25 μ26 =>
some (0, μ26))
else (if a16 = 8 then (if (μ17 30 5) = 0 then (some (0, μ17))
else (q_bd (JI_ntz (μ17 30 5) μ17) fun a27 μ28 =>
q_bd (Ck_blame 4 a27 μ28) fun a29 μ30 =>
some (0, μ30)))
else (some (0, μ17)))))
/-- a line's cells with both sides that CHECK looks at -/
def CKC (b l : Int) (r : List Int) (μ ν : am_M) : Prop := (0 ≤ l ∧ l < 60) ∧ (RL b l r μ ν) ∧ (μ (b + 2) l = ν 1002 l ∧ 0 ≤ ν 1002 l ∧ ν 1002 l ≤ 8) ∧ (μ (b + 3) l = ν 1003 l ∧ -1 ≤ ν 1003 l ∧ ν 1003 l < 10) ∧ (μ (b + 4) l = ν 1004 l ∧ -1 ≤ ν 1004 l ∧ ν 1004 l < 10) ∧ (ν 1005 l = if μ (b + 5) l = 1 then 1 else 2) ∧ ((ν 1002 l = 6 ∨ ν 1002 l = 7) → r = [] ∧ ν 1003 l = -1 ∧ ν 1004 l = -1) ∧ ((ν 1002 l = 5 ∨ ν 1002 l = 8) → ν 1003 l = -1 ∧ ν 1004 l = -1)
theorem CKC.l0 {b l : Int} {r : List Int} {μ ν : am_M} (h : CKC b l r μ ν) : 0 ≤ l ∧ l < 60 := h.1
theorem CKC.rl {b l : Int} {r : List Int} {μ ν : am_M} (h : CKC b l r μ ν) : RL b l r μ ν := h.2.1
theorem CKC.kd {b l : Int} {r : List Int} {μ ν : am_M} (h : CKC b l r μ ν) : μ (b + 2) l = ν 1002 l ∧ 0 ≤ ν 1002 l ∧ ν 1002 l ≤ 8 := h.2.2.1
theorem CKC.la {b l : Int} {r : List Int} {μ ν : am_M} (h : CKC b l r μ ν) : μ (b + 3) l = ν 1003 l ∧ -1 ≤ ν 1003 l ∧ ν 1003 l < 10 := h.2.2.2.1
theorem CKC.be {b l : Int} {r : List Int} {μ ν : am_M} (h : CKC b l r μ ν) : μ (b + 4) l = ν 1004 l ∧ -1 ≤ ν 1004 l ∧ ν 1004 l < 10 := h.2.2.2.2.1
theorem CKC.on {b l : Int} {r : List Int} {μ ν : am_M} (h : CKC b l r μ ν) : ν 1005 l = if μ (b + 5) l = 1 then 1 else 2 := h.2.2.2.2.2.1
theorem CKC.n0 {b l : Int} {r : List Int} {μ ν : am_M} (h : CKC b l r μ ν) : (ν 1002 l = 6 ∨ ν 1002 l = 7) → r = [] ∧ ν 1003 l = -1 ∧ ν 1004 l = -1 := h.2.2.2.2.2.2.1
theorem CKC.n5 {b l : Int} {r : List Int} {μ ν : am_M} (h : CKC b l r μ ν) : (ν 1002 l = 5 ∨ ν 1002 l = 8) → ν 1003 l = -1 ∧ ν 1004 l = -1 := h.2.2.2.2.2.2.2
theorem CKC.mk {b l : Int} {r : List Int} {μ ν : am_M} (l0 : 0 ≤ l ∧ l < 60) (rl : RL b l r μ ν) (kd : μ (b + 2) l = ν 1002 l ∧ 0 ≤ ν 1002 l ∧ ν 1002 l ≤ 8) (la : μ (b + 3) l = ν 1003 l ∧ -1 ≤ ν 1003 l ∧ ν 1003 l < 10) (be : μ (b + 4) l = ν 1004 l ∧ -1 ≤ ν 1004 l ∧ ν 1004 l < 10) (on : ν 1005 l = if μ (b + 5) l = 1 then 1 else 2) (n0 : (ν 1002 l = 6 ∨ ν 1002 l = 7) → r = [] ∧ ν 1003 l = -1 ∧ ν 1004 l = -1) (n5 : (ν 1002 l = 5 ∨ ν 1002 l = 8) → ν 1003 l = -1 ∧ ν 1004 l = -1) : CKC b l r μ ν := ⟨l0, rl, kd, la, be, on, n0, n5⟩
theorem CKC_of {b W S t l : Int} {Wn : Int → Int} {μ ν : am_M} (h : LR b 0 0 W S t l Wn μ ν) (hl : 0 ≤ l ∧ l < 60) (hS : S ≤ 10) (hW : W ≤ 4) (hWv : ∀ w, 0 ≤ w → w < W → 0 ≤ Wn w ∧ Wn w ≤ 9999) : ∃ r, CKC b l r μ ν := by
  obtain ⟨r, hr⟩ := RL_of h hS hW hWv
  have e0 : (0 : Int) + l = l := by omega
  have hkd := h.kd
  have hla := h.la
  have hbe := h.be
  have hon := h.on
  have hsl := h.sl
  have hsb := h.sb
  have hne := h.ne
  rw [e0] at hkd hla hbe hon hsl hsb hne
  refine ⟨r, (CKC.mk (l0 := hl) (rl := hr) (kd := hkd) (la := ⟨hla.1, hla.2.1, by omega⟩) (be := ⟨hbe.1, hbe.2.1, by omega⟩) (on := ?_) (n0 := fun z => ⟨?_, by omega, by omega⟩) (n5 := fun z => ⟨by omega, by omega⟩))⟩
  · rcases hon with ⟨z1, z2⟩ | ⟨z1, z2⟩
    · rw [z1, z2]; rfl
    · rw [z1, z2]; rfl
  · have hE' : ¬ hE (ν 1002 l) := by unfold hE; omega
    obtain ⟨C, c1, c2, c3, c4, c5, c6⟩ := hr.cl
    have y1 := (hne hE').1
    have hn : nS (ν 1002 l) t = 0 := by unfold nS; rw [if_neg (by omega), if_neg (by omega)]
    rw [hn] at y1
    have : C = [] := List.length_eq_zero_iff.mp (by omega)
    rw [this] at c3
    exact c3.symm
theorem mid_c {b l : Int} {r : List Int} {μ ν : am_M} (hb : bOk b) (h : CKC b l r μ ν) (hw : μ 30 8 = 0) : ∃ μ', Ck_checkLine (b + 1) l μ = ckRest b l μ' ∧ (∀ c i, ¬ (c = 30 ∧ (i = 5 ∨ i = 6 ∨ i = 8 ∨ i = 9)) → μ' c i = μ c i) ∧ (((chF r (ν 1003 l) (ν 1004 l) (μ (b + 5) l) (μ 30 5) (μ 30 6)).2.2.1 = 0 ∧ μ' 30 5 = (chF r (ν 1003 l) (ν 1004 l) (μ (b + 5) l) (μ 30 5) (μ 30 6)).1 ∧ μ' 30 6 = (chF r (ν 1003 l) (ν 1004 l) (μ (b + 5) l) (μ 30 5) (μ 30 6)).2.1 ∧ μ' 30 8 = 0 ∧ μ' 30 9 = μ 30 9) ∨ ((chF r (ν 1003 l) (ν 1004 l) (μ (b + 5) l) (μ 30 5) (μ 30 6)).2.2.1 ≠ 0 ∧ μ' 30 8 = (chF r (ν 1003 l) (ν 1004 l) (μ (b + 5) l) (μ 30 5) (μ 30 6)).2.2.1 ∧ μ' 30 9 = (chF r (ν 1003 l) (ν 1004 l) (μ (b + 5) l) (μ 30 5) (μ 30 6)).2.2.2)) := by
  have hb' : b = 100 ∨ b = 200 := hb
  have hl := h.l0
  have hla := h.la
  have hbe := h.be
  obtain ⟨C, c1, c2, c3, c4, c5, c6⟩ := h.rl.cl
  have hF := am_FU_ge
  have e9 : b + 1 + 9 = b + 10 := by omega
  have e8 : b + 1 + 8 = b + 9 := by omega
  have e2 : b + 1 + 2 = b + 3 := by omega
  have e4 : b + 1 + 4 = b + 5 := by omega
  have e3 : b + 1 + 3 = b + 4 := by omega
  have e1 : b + 1 + 1 = b + 2 := by omega
  obtain ⟨μ1, a1, a2, a3⟩ := takeAway_L hb C am_FU (μ (b + 9) l) μ c1 c4 (by rw [c3]; exact h.rl.sl) c5 (by omega) (by omega) hw
  rw [c3] at a3
  have eT : Ck_takeAway (b + 1) l μ = some (0, μ1) := by
    unfold Ck_takeAway
    rw [q_gd_s (bO2 hb), e9, e8, bat10 hb, if_pos hl, q_bd_s, bat9 hb, if_pos hl, q_bd_s, c2, a1]
  have f3 : ∀ (m : am_M) (hm : ∀ c i, ¬ (c = 30 ∧ (i = 5 ∨ i = 6 ∨ i = 8 ∨ i = 9)) → m c i = μ c i), X_at (b + 3) l m = some (ν 1003 l, m) ∧ X_at (b + 4) l m = some (ν 1004 l, m) ∧ X_at (b + 5) l m = some (μ (b + 5) l, m) := fun m hm => by
    rw [bat3 hb, bat4 hb, bat5 hb, if_pos hl, if_pos hl, if_pos hl, hm _ _ (by omega), hm _ _ (by omega), hm _ _ (by omega), hla.1, hbe.1]
    exact ⟨rfl, rfl, rfl⟩
  have eL : ∀ (μ2 μ3 : am_M), Ck_lay (ν 1003 l) (μ (b + 5) l) μ1 = some (0, μ2) → (∀ c i, ¬ (c = 30 ∧ (i = 5 ∨ i = 6 ∨ i = 8 ∨ i = 9)) → μ2 c i = μ c i) → Ck_lay (ν 1004 l) (μ (b + 5) l) μ2 = some (0, μ3) → Ck_checkLine (b + 1) l μ = ckRest b l μ3 := by
    intro μ2 μ3 h2 g2 h3
    obtain ⟨x1, x2, x3⟩ := f3 μ1 a2
    obtain ⟨y1, y2, y3⟩ := f3 μ2 g2
    unfold Ck_checkLine
    rw [eT, q_bd_s, q_gd_s (bO2 hb), e2, e4, e3, e1, x1, q_bd_s, x3, q_bd_s, h2, q_bd_s, y2, q_bd_s, y3, q_bd_s, h3, q_bd_s]
    rfl
  unfold chF
  rcases a3 with ⟨z1, z2, z3, z4, z5⟩ | ⟨z1, z2, z3⟩
  · rw [if_neg (fun w => w z1)]
    obtain ⟨μ2, b1, b2, b3⟩ := lay_s (s := ν 1003 l) (a := μ (b + 5) l) z4 (by omega)
    have g2 : ∀ c i, ¬ (c = 30 ∧ (i = 5 ∨ i = 6 ∨ i = 8 ∨ i = 9)) → μ2 c i = μ c i := fun c i z => by rw [b2 c i z, a2 c i z]
    rw [z2, z3] at b3
    rcases b3 with ⟨y1, y2, y3, y4, y5⟩ | ⟨y1, y2, y3⟩
    · rw [if_neg (fun w => w y1)]
      obtain ⟨μ3, d1, d2, d3⟩ := lay_s (s := ν 1004 l) (a := μ (b + 5) l) y4 (by omega)
      rw [y2, y3] at d3
      refine ⟨μ3, eL μ2 μ3 b1 g2 d1, fun c i z => by rw [d2 c i z, g2 c i z], ?_⟩
      rcases d3 with ⟨x1, x2, x3, x4, x5⟩ | ⟨x1, x2, x3⟩
      · rw [if_neg (fun w => w x1)]
        exact Or.inl ⟨rfl, x2, x3, x4, by rw [x5, y5, z5]⟩
      · rw [if_pos x1]
        exact Or.inr ⟨by show (2 : Int) ≠ 0; decide, x2, x3⟩
    · rw [if_pos y1]
      obtain ⟨μ3, d1, d2⟩ := lay_W (s := ν 1004 l) (a := μ (b + 5) l) (μ := μ2) (by rw [y2]; decide)
      refine ⟨μ3, eL μ2 μ3 b1 g2 d1, fun c i z => by rw [d2 c i (by omega), g2 c i z], Or.inr ⟨by show (2 : Int) ≠ 0; decide, ?_, ?_⟩⟩
      · rw [d2 _ _ (by omega)]; exact y2
      · rw [d2 _ _ (by omega)]; exact y3
  · rw [if_pos z1]
    obtain ⟨μ2, b1, b2⟩ := lay_W (s := ν 1003 l) (a := μ (b + 5) l) (μ := μ1) (by rw [z2]; decide)
    have g2 : ∀ c i, ¬ (c = 30 ∧ (i = 5 ∨ i = 6 ∨ i = 8 ∨ i = 9)) → μ2 c i = μ c i := fun c i z => by rw [b2 c i (by omega), a2 c i z]
    obtain ⟨μ3, d1, d2⟩ := lay_W (s := ν 1004 l) (a := μ (b + 5) l) (μ := μ2) (by rw [b2 _ _ (by omega), z2]; decide)
    refine ⟨μ3, eL μ2 μ3 b1 g2 d1, fun c i z => by rw [d2 c i (by omega), g2 c i z], Or.inr ⟨by show (1 : Int) ≠ 0; decide, ?_, ?_⟩⟩
    · rw [d2 _ _ (by omega), b2 _ _ (by omega)]; exact z2
    · rw [d2 _ _ (by omega), b2 _ _ (by omega)]; exact z3
theorem mid_r {b k l d o m : Int} {r : List Int} {μ ν : am_M} (hk : 0 ≤ k ∧ k < 4) (h : CKC b l r μ ν) (hT : TTn o m ν) (h7 : ν 1002 l ≠ 7) : ((chF r (ν 1003 l) (ν 1004 l) (μ (b + 5) l) o m).2.2.1 = 0 ∧ ∃ ν', M_goesBy k l d ν = M_goesBy_L65 am_FU k l d 0 ν' ∧ TTn (chF r (ν 1003 l) (ν 1004 l) (μ (b + 5) l) o m).1 (chF r (ν 1003 l) (ν 1004 l) (μ (b + 5) l) o m).2.1 ν' ∧ (∀ c i, c ≠ 1036 → ν' c i = ν c i)) ∨ ((chF r (ν 1003 l) (ν 1004 l) (μ (b + 5) l) o m).2.2.1 ≠ 0 ∧ ∃ ν', M_goesBy k l d ν = some (0, ν') ∧ FND k (chF r (ν 1003 l) (ν 1004 l) (μ (b + 5) l) o m).2.2.1 l (chF r (ν 1003 l) (ν 1004 l) (μ (b + 5) l) o m).2.2.2 ν' ∧ (∀ c i, ¬ (c = 1036 ∨ (1039 ≤ c ∧ c ≤ 1041 ∧ i = k)) → ν' c i = ν c i)) := by
  have hl := h.l0
  have hla := h.la
  have hbe := h.be
  have hB := burnsAll_s hk hl h.rl hT
  unfold M_goesBy
  rw [q_ld_s (by omega) (by omega), if_neg h7]
  rcases hB with ⟨z1, ν1, z2, z3, z4⟩ | ⟨z1, ν1, z2, z3, z4⟩
  · rw [z2, q_bd_s, if_neg (show ¬ (1 : Int) = 0 by decide), q_ld_s (by omega) (by omega), z4 _ _ (by decide)]
    have hP := putsDown_s (s := ν 1003 l) (a := μ (b + 5) l) hk hl (by omega) (by rw [z4 _ _ (by decide)]; exact h.on) z3
    rcases hP with ⟨y1, ν2, y2, y3, y4⟩ | ⟨y1, ν2, y2, y3, y4⟩
    · rw [y2, q_bd_s, if_neg (show ¬ (1 : Int) = 0 by decide), q_ld_s (by omega) (by omega), y4 _ _ (by decide), z4 _ _ (by decide)]
      have hP2 := putsDown_s (s := ν 1004 l) (a := μ (b + 5) l) hk hl (by omega) (by rw [y4 _ _ (by decide), z4 _ _ (by decide)]; exact h.on) y3
      rcases hP2 with ⟨x1, ν3, x2, x3, x4⟩ | ⟨x1, ν3, x2, x3, x4⟩
      · rw [x2, q_bd_s, if_neg (show ¬ (1 : Int) = 0 by decide)]
        unfold chF
        rw [if_neg (fun w => w z1), if_neg (fun w => w y1), if_neg (fun w => w x1)]
        exact Or.inl ⟨rfl, ν3, rfl, x3, fun c i z => by rw [x4 c i z, y4 c i z, z4 c i z]⟩
      · rw [x2, q_bd_s, if_pos rfl]
        unfold chF
        rw [if_neg (fun w => w z1), if_neg (fun w => w y1), if_pos x1]
        exact Or.inr ⟨by show (2 : Int) ≠ 0; decide, ν3, rfl, x3, fun c i z => by rw [x4 c i z, y4 c i (by omega), z4 c i (by omega)]⟩
    · rw [y2, q_bd_s, if_pos rfl]
      unfold chF
      rw [if_neg (fun w => w z1), if_pos y1]
      exact Or.inr ⟨by show (2 : Int) ≠ 0; decide, ν2, rfl, y3, fun c i z => by rw [y4 c i z, z4 c i (by omega)]⟩
  · rw [z2, q_bd_s, if_pos rfl]
    unfold chF
    rw [if_pos z1]
    exact Or.inr ⟨by show (1 : Int) ≠ 0; decide, ν1, rfl, z3, z4⟩
