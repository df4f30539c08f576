/-! CHECK of a whole line, both sides. -/
def CFT (b k l d a z : Int) (μ ν : am_M) : Prop := ∃ μ' ν' w s, Ck_checkLine (b + 1) l μ = some (0, μ') ∧ M_goesBy k l d ν = some (0, ν') ∧ μ' 30 8 = w ∧ 0 < w ∧ μ' 30 9 = s ∧ FND k w l s ν' ∧ FC b a z μ μ' ∧ FR k a z ν ν'
theorem chF_w (r : List Int) (s1 s2 a o m : Int) : 0 ≤ (chF r s1 s2 a o m).2.2.1 := by
  unfold chF
  split
  · show (0 : Int) ≤ 1; decide
  · split
    · show (0 : Int) ≤ 2; decide
    · split
      · show (0 : Int) ≤ 2; decide
      · show (0 : Int) ≤ 0; decide
/-- up to what the kind asks -/
theorem ck_mid {b k l d o m a z : Int} {r : List Int} {μ ν : am_M} (hb : bOk b) (hk : 0 ≤ k ∧ k < 4) (h : CKC b l r μ ν) (c : CK o m d μ ν) (h7 : ν 1002 l ≠ 7) : CFT b k l d a z μ ν ∨ ((chF r (ν 1003 l) (ν 1004 l) (μ (b + 5) l) o m).2.2.1 = 0 ∧ ∃ μ1 ν1, Ck_checkLine (b + 1) l μ = ckRest b l μ1 ∧ M_goesBy k l d ν = M_goesBy_L65 am_FU k l d 0 ν1 ∧ μ1 30 5 = (chF r (ν 1003 l) (ν 1004 l) (μ (b + 5) l) o m).1 ∧ μ1 30 6 = (chF r (ν 1003 l) (ν 1004 l) (μ (b + 5) l) o m).2.1 ∧ μ1 30 8 = 0 ∧ μ1 30 9 = -1 ∧ TTn (chF r (ν 1003 l) (ν 1004 l) (μ (b + 5) l) o m).1 (chF r (ν 1003 l) (ν 1004 l) (μ (b + 5) l) o m).2.1 ν1 ∧ (∀ c i, ¬ (c = 30 ∧ (i = 5 ∨ i = 6 ∨ i = 8 ∨ i = 9)) → μ1 c i = μ c i) ∧ (∀ c i, c ≠ 1036 → ν1 c i = ν c i)) := by
  have hb' : b = 100 ∨ b = 200 := hb
  obtain ⟨μ1, a1, a2, a3⟩ := mid_c hb h c.c8
  have hr := mid_r (d := d) hk h c.tt h7
  rw [c.c5, c.c6] at a3
  rcases a3 with ⟨z1, z2, z3, z4, z5⟩ | ⟨z1, z2, z3⟩
  · rcases hr with ⟨-, ν1, y2, y3, y4⟩ | ⟨y1, -⟩
    · exact Or.inr ⟨z1, μ1, ν1, a1, y2, z2, z3, z4, by rw [z5]; exact c.c9, y3, a2, y4⟩
    · exact absurd z1 y1
  · rcases hr with ⟨y1, -⟩ | ⟨-, ν1, y2, y3, y4⟩
    · exact absurd y1 z1
    · obtain ⟨μ2, b1, b2⟩ := rest_W (l := l) (μ := μ1) hb h.l0 (by rw [a2 _ _ (by omega), h.kd.1]; exact h7) (by rw [z2]; exact z1)
      refine Or.inl ⟨μ2, ν1, _, _, by rw [a1, b1], y2, by rw [b2 _ _ (by omega)]; exact z2, (by have := chF_w r (ν 1003 l) (ν 1004 l) (μ (b + 5) l) o m; omega), by rw [b2 _ _ (by omega)]; exact z3, y3, fun c i w => by rw [b2 c i (by omega), a2 c i (by omega)], fun c i w => y4 c i (by omega)⟩
theorem chF_ok {r : List Int} {s1 s2 a o m : Int} (hr : ∀ s ∈ r, 0 ≤ s ∧ s < 10) (h1 : -1 ≤ s1 ∧ s1 < 10) (h2 : -1 ≤ s2 ∧ s2 < 10) (so : S10 o) (sm : S10 m) (dj : DJ o m) (h : (chF r s1 s2 a o m).2.2.1 = 0) : S10 (chF r s1 s2 a o m).1 ∧ S10 (chF r s1 s2 a o m).2.1 ∧ DJ (chF r s1 s2 a o m).1 (chF r s1 s2 a o m).2.1 ∧ (∀ s ∈ r, tv o m s ≠ 0) ∧ ∀ t, 0 ≤ t → t < 10 → (tv (chF r s1 s2 a o m).1 (chF r s1 s2 a o m).2.1 t ≠ 0 ↔ (tv o m t ≠ 0 ∧ t ∉ r) ∨ t = s1 ∨ t = s2) := by
  unfold chF at h ⊢
  by_cases c1 : (bnF r o m).2.2 ≠ -1
  · rw [if_pos c1] at h
    exact absurd h (by show ¬ (1 : Int) = 0; decide)
  rw [if_neg c1] at h ⊢
  have c1' : (bnF r o m).2.2 = -1 := Decidable.byContradiction c1
  obtain ⟨b1, b2⟩ := bnF_S r o m so sm
  obtain ⟨b3, b4⟩ := bnF_tb r o m hr c1'
  have b5 : DJ (bnF r o m).1 (bnF r o m).2.1 := fun t t0 t1 y => by
    obtain ⟨x1, x2⟩ := b3 t t0 t1
    exact dj t t0 t1 ⟨(x1.mp y.1).1, (x2.mp y.2).1⟩
  by_cases c2 : (layF (bnF r o m).1 (bnF r o m).2.1 s1 a).2.2 ≠ -1
  · rw [if_pos c2] at h
    exact absurd h (by show ¬ (2 : Int) = 0; decide)
  rw [if_neg c2] at h ⊢
  have c2' : (layF (bnF r o m).1 (bnF r o m).2.1 s1 a).2.2 = -1 := Decidable.byContradiction c2
  obtain ⟨d1, d2⟩ := layF_S (a := a) b1 b2 h1
  have d3 := layF_tb h1 c2'
  have d4 := layF_DJ h1 c2' b5
  by_cases c3 : (layF (layF (bnF r o m).1 (bnF r o m).2.1 s1 a).1 (layF (bnF r o m).1 (bnF r o m).2.1 s1 a).2.1 s2 a).2.2 ≠ -1
  · rw [if_pos c3] at h
    exact absurd h (by show ¬ (2 : Int) = 0; decide)
  rw [if_neg c3]
  have c3' : (layF (layF (bnF r o m).1 (bnF r o m).2.1 s1 a).1 (layF (bnF r o m).1 (bnF r o m).2.1 s1 a).2.1 s2 a).2.2 = -1 := Decidable.byContradiction c3
  obtain ⟨e1, e2⟩ := layF_S (a := a) d1 d2 h2
  have e3 := layF_tb h2 c3'
  have e4 := layF_DJ h2 c3' d4
  refine ⟨e1, e2, e4, b4, fun t t0 t1 => ?_⟩
  rw [(e3 t t0 t1).2.2]
  have hbn : tv (bnF r o m).1 (bnF r o m).2.1 t ≠ 0 ↔ tv o m t ≠ 0 ∧ t ∉ r := by
    obtain ⟨x1, x2⟩ := b3 t t0 t1
    have y1 : tv (bnF r o m).1 (bnF r o m).2.1 t ≠ 0 ↔ tb (bnF r o m).1 t = true ∨ tb (bnF r o m).2.1 t = true := by
      unfold tv
      cases tb (bnF r o m).1 t <;> cases tb (bnF r o m).2.1 t <;> simp
    have y2 : tv o m t ≠ 0 ↔ tb o t = true ∨ tb m t = true := by
      unfold tv
      cases tb o t <;> cases tb m t <;> simp
    rw [y1, y2, x1, x2]
    constructor
    · rintro (z | z)
      · exact ⟨Or.inl z.1, z.2⟩
      · exact ⟨Or.inr z.1, z.2⟩
    · rintro ⟨z | z, w⟩
      · exact Or.inl ⟨z, w⟩
      · exact Or.inr ⟨z, w⟩
  by_cases q2 : t = s2
  · rw [if_pos q2]
    refine ⟨fun _ => Or.inr (Or.inr q2), fun _ => ?_⟩
    split <;> omega
  · rw [if_neg q2, (d3 t t0 t1).2.2]
    by_cases q1 : t = s1
    · rw [if_pos q1]
      refine ⟨fun _ => Or.inr (Or.inl q1), fun _ => ?_⟩
      split <;> omega
    · rw [if_neg q1, hbn]
      exact ⟨fun z => Or.inl z, fun z => z.elim (fun y => y) (fun y => y.elim (fun w => absurd w q1) (fun w => absurd w q2))⟩
/-- take, let, twin, burn, call -/
theorem ck_A {b k l d o m a z : Int} {r : List Int} {μ ν : am_M} (hb : bOk b) (hk : 0 ≤ k ∧ k < 4) (h : CKC b l r μ ν) (c : CK o m d μ ν) (hA : ν 1002 l ≤ 4) : CFT b k l d a z μ ν ∨ ∃ μ' ν' o' m', Ck_checkLine (b + 1) l μ = some (0, μ') ∧ M_goesBy k l d ν = some (1, ν') ∧ CK o' m' d μ' ν' ∧ FC b a z μ μ' ∧ FR k a z ν ν' ∧ SP 3 μ μ' ∧ SR 3 ν ν' ∧ FR 4 a z ν ν' ∧ (∀ s ∈ r, tv o m s ≠ 0) ∧ ∀ t, 0 ≤ t → t < 10 → (tv o' m' t ≠ 0 ↔ (tv o m t ≠ 0 ∧ t ∉ r) ∨ t = ν 1003 l ∨ t = ν 1004 l) := by
  have hb' : b = 100 ∨ b = 200 := hb
  have hkd := h.kd
  rcases ck_mid (a := a) (z := z) hb hk h c (by omega) with x | ⟨x0, μ1, ν1, x1, x2, x3, x4, x5, x6, x7, x8, x9⟩
  · exact Or.inl x
  obtain ⟨y1, y2, y3, y4, y5⟩ := chF_ok h.rl.sl (by have := h.la; omega) (by have := h.be; omega) c.so c.sm c.dj x0
  refine Or.inr ⟨μ1, ν1, _, _, ?_, ?_, (CK.mk (c5 := x3) (c6 := x4) (c7 := by rw [x8 _ _ (by omega)]; exact c.c7) (c8 := x5) (c9 := x6) (so := y1) (sm := y2) (dj := y3) (tt := x7)), fun c i w => x8 c i (by omega), fun c i w => x9 c i (by omega), fun c i p q w => x8 c i (by omega), fun c i p w => x9 c i (by omega), fun c i w => x9 c i (by omega), y4, y5⟩
  · rw [x1]
    unfold ckRest
    rw [bat2 hb, if_pos h.l0, q_bd_s, x8 _ _ (by omega), hkd.1, if_neg (by omega), if_neg (by omega), if_neg (by omega), if_neg (by omega)]
  · rw [x2]
    have e : ν1 1002 l = ν 1002 l := x9 _ _ (by decide)
    exact L65_0 h.l0 (by omega) (by omega) (by omega) 10 am_FU 0 (by omega) (by omega) (by have := am_FU_ge; omega)
/-- give -/
theorem ck_G {b k l d o m a z : Int} {r : List Int} {μ ν : am_M} (hb : bOk b) (hk : 0 ≤ k ∧ k < 4) (h : CKC b l r μ ν) (c : CK o m d μ ν) (hG : ν 1002 l = 8) : CFT b k l d a z μ ν ∨ ∃ μ' ν', Ck_checkLine (b + 1) l μ = some (0, μ') ∧ M_goesBy k l d ν = some (1, ν') ∧ μ' 30 8 = 0 ∧ μ' 30 9 = -1 ∧ FC b a z μ μ' ∧ FR k a z ν ν' ∧ FR 4 a z ν ν' ∧ ∀ s ∈ r, tv o m s ≠ 0 := by
  have hb' : b = 100 ∨ b = 200 := hb
  have hkd := h.kd
  rcases ck_mid (a := a) (z := z) hb hk h c (by omega) with x | ⟨x0, μ1, ν1, x1, x2, x3, x4, x5, x6, x7, x8, x9⟩
  · exact Or.inl x
  obtain ⟨y1, y2, y3, y4, y5⟩ := chF_ok h.rl.sl (by have := h.la; omega) (by have := h.be; omega) c.so c.sm c.dj x0
  have e8 : ν1 1002 l = 8 := by rw [x9 _ _ (by decide)]; exact hG
  have hL := L65_8 (k := k) (l := l) (d := d) hk h.l0 e8 x7 10 am_FU 0 (by omega) (by omega) (by have := am_FU_ge; omega)
  have hX : ckRest b l μ1 = (if (μ1 30 5) = 0 then (some (0, μ1)) else (q_bd (JI_ntz (μ1 30 5) μ1) fun a27 μ28 => q_bd (Ck_blame 4 a27 μ28) fun a29 μ30 => some (0, μ30))) := by
    unfold ckRest
    rw [bat2 hb, if_pos h.l0, q_bd_s, x8 _ _ (by omega), hkd.1, hG, if_neg (by decide), if_neg (by decide), if_neg (by decide), if_pos rfl]
  rw [x3] at hX
  generalize (chF r (ν 1003 l) (ν 1004 l) (μ (b + 5) l) o m).1 = o' at *
  generalize (chF r (ν 1003 l) (ν 1004 l) (μ (b + 5) l) o m).2.1 = m' at *
  by_cases q : o' = 0
  · rcases hL with ⟨-, w2⟩ | ⟨w1, -⟩
    · rw [if_pos q] at hX
      exact Or.inr ⟨μ1, ν1, by rw [x1, hX], by rw [x2, w2], x5, x6, fun c i w => x8 c i (by omega), fun c i w => x9 c i (by omega), fun c i w => x9 c i (by omega), y4⟩
    · exfalso
      rcases low_s (x := o') 10 0 with ⟨v1, -⟩ | ⟨v1, v2, v3, -⟩
      · exact w1 v1
      · rw [q, tb_0] at v3; cases v3
  · rw [if_neg q, ntz_s y1 q, q_bd_s] at hX
    have bl : Ck_blame 4 (low o' 10 0) μ1 = some (0, m_st (m_st μ1 30 8 4) 30 9 (low o' 10 0)) := by
      unfold Ck_blame
      rw [if_pos x5, q_pf_d, q_pf_d]
    rw [bl, q_bd_s] at hX
    rcases hL with ⟨w1, -⟩ | ⟨-, ν2, w2, w3, w4⟩
    · exfalso
      rcases low_s (x := o') 10 0 with ⟨-, v2⟩ | ⟨v1, -⟩
      · exact q ((S10_zero y1).mpr (fun s s0 s1 => v2 s s0 (by omega)))
      · omega
    · refine Or.inl ⟨_, ν2, 4, low o' 10 0, by rw [x1, hX], by rw [x2, w2], by rw [m_st_i (by decide), m_st_d, if_pos ⟨rfl, rfl⟩], by decide, by rw [m_st_d, if_pos ⟨rfl, rfl⟩], w3, fun c i w => by rw [m_st_d, if_neg (by omega), m_st_d, if_neg (by omega), x8 c i (by omega)], fun c i w => by rw [w4 c i (by omega), x9 c i (by omega)]⟩
/-- the rows of an if that stands open -/
def SI (j : Int) (o m : Int) (μ ν : am_M) : Prop := μ 31 j = o ∧ μ 32 j = m ∧ S10 o ∧ S10 m ∧ DJ o m ∧ ∀ s, 0 ≤ s → s < 10 → ν 1037 (10 * j + s) = tv o m s
def SE (j e : Int) (o m : Int) (μ ν : am_M) : Prop := μ 33 j = o ∧ μ 34 j = m ∧ μ 35 j = e ∧ S10 o ∧ S10 m ∧ DJ o m ∧ ∀ s, 0 ≤ s → s < 10 → ν 1038 (10 * j + s) = tv o m s
theorem SI.cong {j o m : Int} {μ ν μ' ν' : am_M} (h : SI j o m μ ν) (hj : j < 3) {D : Int} (hD : j < D) (f : SP D μ μ') (g : SR D ν ν') : SI j o m μ' ν' := by
  obtain ⟨a1, a2, a3, a4, a5, a6⟩ := h
  exact ⟨by rw [f _ _ (by omega) (by omega) hD]; exact a1, by rw [f _ _ (by omega) (by omega) hD]; exact a2, a3, a4, a5, fun s x y => by rw [g _ _ (by omega) (by omega)]; exact a6 s x y⟩
theorem SE.cong {j e o m : Int} {μ ν μ' ν' : am_M} (h : SE j e o m μ ν) (hj : j < 3) {D : Int} (hD : j < D) (f : SP D μ μ') (g : SR D ν ν') : SE j e o m μ' ν' := by
  obtain ⟨a1, a2, a0, a3, a4, a5, a6⟩ := h
  exact ⟨by rw [f _ _ (by omega) (by omega) hD]; exact a1, by rw [f _ _ (by omega) (by omega) hD]; exact a2, by rw [f _ _ (by omega) (by omega) hD]; exact a0, a3, a4, a5, fun s x y => by rw [g _ _ (by omega) (by omega)]; exact a6 s x y⟩
/-- if -/
theorem ck_I {b k l d o m a z : Int} {r : List Int} {μ ν : am_M} (hb : bOk b) (hk : 0 ≤ k ∧ k < 4) (h : CKC b l r μ ν) (c : CK o m d μ ν) (hI : ν 1002 l = 5) (hd : 0 ≤ d ∧ d < 3) : CFT b k l d a z μ ν ∨ ∃ μ' ν' o' m', Ck_checkLine (b + 1) l μ = some (0, μ') ∧ M_goesBy k l d ν = some (1, ν') ∧ CK o' m' (d + 1) μ' ν' ∧ SI d o' m' μ' ν' ∧ FC b a z μ μ' ∧ FR k a z ν ν' ∧ SP d μ μ' ∧ SR d ν ν' ∧ FR 4 a z ν ν' ∧ (∀ s ∈ r, tv o m s ≠ 0) ∧ ∀ t, 0 ≤ t → t < 10 → (tv o' m' t ≠ 0 ↔ (tv o m t ≠ 0 ∧ t ∉ r)) := by
  have hb' : b = 100 ∨ b = 200 := hb
  have hkd := h.kd
  have hn5 := h.n5 (by omega)
  rcases ck_mid (a := a) (z := z) hb hk h c (by omega) with x | ⟨x0, μ1, ν1, x1, x2, x3, x4, x5, x6, x7, x8, x9⟩
  · exact Or.inl x
  obtain ⟨y1, y2, y3, y4, y5⟩ := chF_ok h.rl.sl (by have := h.la; omega) (by have := h.be; omega) c.so c.sm c.dj x0
  have e5 : ν1 1002 l = 5 := by rw [x9 _ _ (by decide)]; exact hI
  obtain ⟨ν2, w1, w2, w3⟩ := L65_5 (k := k) (l := l) (d := d) h.l0 hd 10 am_FU 0 ν1 e5 (by omega) (by omega) (by have := am_FU_ge; omega)
  have e7 : μ1 30 7 = d := by rw [x8 _ _ (by omega)]; exact c.c7
  generalize (chF r (ν 1003 l) (ν 1004 l) (μ (b + 5) l) o m).1 = o' at *
  generalize (chF r (ν 1003 l) (ν 1004 l) (μ (b + 5) l) o m).2.1 = m' at *
  have hX : ckRest b l μ1 = some (0, m_st (m_st (m_st μ1 31 d o') 32 d m') 30 7 (d + 1)) := by
    unfold ckRest
    have q7 : m_st μ1 31 d o' 30 7 = d := by rw [m_st_c (by decide)]; exact e7
    have q6 : m_st μ1 31 d o' 30 6 = m' := by rw [m_st_c (by decide)]; exact x4
    have q8 : m_st (m_st μ1 31 d o') 32 d m' 30 7 = d := by rw [m_st_c (by decide)]; exact q7
    rw [bat2 hb, if_pos h.l0, q_bd_s, x8 _ _ (by omega), hkd.1, hI, if_pos rfl, e7, x3, X_put_31, if_pos (by omega), q_bd_s, q7, q6, X_put_32, if_pos (by omega), q_bd_s, q8, w32_i (x := d + 1) (by omega) (by omega), q_pf_d]
  refine Or.inr ⟨m_st (m_st (m_st μ1 31 d o') 32 d m') 30 7 (d + 1), ν2, o', m', by rw [x1, hX], by rw [x2, w1], ?_, ?_, ?_, ?_, ?_, ?_, ?_, y4, fun t t0 t1 => ?_⟩
  · exact (CK.mk (c5 := by rw [m_st_i (by decide), m_st_c (by decide), m_st_c (by decide)]; exact x3) (c6 := by rw [m_st_i (by decide), m_st_c (by decide), m_st_c (by decide)]; exact x4) (c7 := by rw [m_st_d, if_pos ⟨rfl, rfl⟩]) (c8 := by rw [m_st_i (by decide), m_st_c (by decide), m_st_c (by decide)]; exact x5) (c9 := by rw [m_st_i (by decide), m_st_c (by decide), m_st_c (by decide)]; exact x6) (so := y1) (sm := y2) (dj := y3) (tt := fun s s0 s1 => by rw [w3 _ _ (by omega)]; exact x7 s s0 s1))
  · exact ⟨by rw [m_st_c (by decide), m_st_c (by decide), m_st_d, if_pos ⟨rfl, rfl⟩], by rw [m_st_c (by decide), m_st_d, if_pos ⟨rfl, rfl⟩], y1, y2, y3, fun s s0 s1 => by rw [w2 s s0 s1]; exact x7 s s0 s1⟩
  · exact fun c i w => by rw [m_st_d, if_neg (by omega), m_st_d, if_neg (by omega), m_st_d, if_neg (by omega), x8 c i (by omega)]
  · exact fun c i w => by rw [w3 c i (by omega), x9 c i (by omega)]
  · exact fun c i p q w => by rw [m_st_d, if_neg (by omega), m_st_d, if_neg (by omega), m_st_d, if_neg (by omega), x8 c i (by omega)]
  · exact fun c i p w => by rw [w3 c i (by omega), x9 c i (by omega)]
  · exact fun c i w => by rw [w3 c i (by omega), x9 c i (by omega)]
  · rw [y5 t t0 t1]
    exact ⟨fun z => z.elim (fun y => y) (fun y => by omega), fun z => Or.inl z⟩
