/-! CHECK of else and end. -/
theorem chF_0 (a o m : Int) : chF [] (-1) (-1) a o m = (o, m, 0, -1) := by
  have e1 : bnF [] o m = (o, m, -1) := rfl
  have e2 : layF o m (-1) a = (o, m, -1) := by unfold layF; rw [if_pos rfl]
  unfold chF
  rw [e1]
  dsimp only
  rw [e2]
  dsimp only
  rw [e2]
  rfl
/-- else -/
theorem ck_E {b k l d o m oI mI a z : Int} {r : List Int} {μ ν : am_M} (hb : bOk b) (hk : 0 ≤ k ∧ k < 4) (h : CKC b l r μ ν) (c : CK o m d μ ν) (hE : ν 1002 l = 6) (hd : 1 ≤ d ∧ d ≤ 3) (si : SI (d - 1) oI mI μ ν) : ∃ μ' ν', Ck_checkLine (b + 1) l μ = some (0, μ') ∧ M_goesBy k l d ν = some (1, ν') ∧ CK oI mI d μ' ν' ∧ SE (d - 1) l o m μ' ν' ∧ FC b a z μ μ' ∧ FR k a z ν ν' ∧ SP (d - 1) μ μ' ∧ SR (d - 1) ν ν' ∧ FR 4 a z ν ν' := by
  have hb' : b = 100 ∨ b = 200 := hb
  have hkd := h.kd
  obtain ⟨n1, n2, n3⟩ := h.n0 (by omega)
  obtain ⟨i1, i2, i3, i4, i5, i6⟩ := si
  obtain ⟨μ1, a1, a2, a3⟩ := mid_c hb h c.c8
  have hr := mid_r (d := d) hk h c.tt (by omega)
  rw [c.c5, c.c6] at a3
  rw [n1, n2, n3, chF_0] at a3 hr
  rcases a3 with ⟨-, x3, x4, x5, x6⟩ | ⟨z1, -⟩
  rotate_left
  · exact absurd rfl z1
  rcases hr with ⟨-, ν1, x2, x7, x9⟩ | ⟨z1, -⟩
  rotate_left
  · exact absurd rfl z1
  have x3 : μ1 30 5 = o := x3
  have x4 : μ1 30 6 = m := x4
  have x7 : TTn o m ν1 := x7
  have e6 : ν1 1002 l = 6 := by rw [x9 _ _ (by decide)]; exact hE
  obtain ⟨ν2, w1, w2, w3⟩ := L65_6 (k := k) (l := l) (d := d) h.l0 hd 10 am_FU 0 ν1 e6 (by omega) (by omega) (by have := am_FU_ge; omega)
  have e7 : μ1 30 7 = d := by rw [a2 _ _ (by omega)]; exact c.c7
  have hX : ckRest b l μ1 = some (0, m_st (m_st (m_st (m_st (m_st μ1 33 (d - 1) o) 34 (d - 1) m) 35 (d - 1) l) 30 5 oI) 30 6 mI) := by
    unfold ckRest Ck_turnToElse
    have q6 : m_st μ1 33 (d - 1) o 30 6 = m := by rw [m_st_c (by decide)]; exact x4
    have q31 : m_st (m_st (m_st μ1 33 (d - 1) o) 34 (d - 1) m) 35 (d - 1) l 31 (d - 1) = oI := by rw [m_st_c (by decide), m_st_c (by decide), m_st_c (by decide), a2 _ _ (by omega)]; exact i1
    have q32 : m_st (m_st (m_st (m_st μ1 33 (d - 1) o) 34 (d - 1) m) 35 (d - 1) l) 30 5 oI 32 (d - 1) = mI := by rw [m_st_c (by decide), m_st_c (by decide), m_st_c (by decide), m_st_c (by decide), a2 _ _ (by omega)]; exact i2
    rw [bat2 hb, if_pos h.l0, q_bd_s, a2 _ _ (by omega), hkd.1, hE, if_neg (by decide), if_pos rfl, e7, x3, w32_i (x := d - 1) (by omega) (by omega), X_put_33, if_pos (by omega), q_bd_s, q6, X_put_34, if_pos (by omega), q_bd_s, X_put_35, if_pos (by omega), q_bd_s, X_at_31, if_pos (by omega), q_bd_s, q31, q_pf_d, X_at_32, if_pos (by omega), q_bd_s, q32, q_pf_d, q_bd_s]
  have ge : ∀ (ν : am_M) (c i v : Int), m_st ν c i v c i = v := fun ν c i v => by rw [m_st_d, if_pos ⟨rfl, rfl⟩]
  refine ⟨_, ν2, by rw [a1, hX], by rw [x2, w1], ?_, ?_, ?_, ?_, ?_, ?_, ?_⟩
  · exact (CK.mk (c5 := by rw [m_st_i (by decide), ge]) (c6 := by rw [ge]) (c7 := by rw [m_st_i (by decide), m_st_i (by decide), m_st_c (by decide), m_st_c (by decide), m_st_c (by decide)]; exact e7) (c8 := by rw [m_st_i (by decide), m_st_i (by decide), m_st_c (by decide), m_st_c (by decide), m_st_c (by decide)]; exact x5) (c9 := by rw [m_st_i (by decide), m_st_i (by decide), m_st_c (by decide), m_st_c (by decide), m_st_c (by decide), x6]; exact c.c9) (so := i3) (sm := i4) (dj := i5) (tt := fun s s0 s1 => by rw [(w2 s s0 s1).2, x9 _ _ (by decide)]; exact i6 s s0 s1))
  · exact ⟨by rw [m_st_c (by decide), m_st_c (by decide), m_st_c (by decide), m_st_c (by decide), ge], by rw [m_st_c (by decide), m_st_c (by decide), m_st_c (by decide), ge], by rw [m_st_c (by decide), m_st_c (by decide), ge], c.so, c.sm, c.dj, fun s s0 s1 => by rw [(w2 s s0 s1).1]; exact x7 s s0 s1⟩
  · exact fun c i w => by rw [m_st_d, if_neg (by omega), m_st_d, if_neg (by omega), m_st_d, if_neg (by omega), m_st_d, if_neg (by omega), m_st_d, if_neg (by omega), a2 c i (by omega)]
  · exact fun c i w => by rw [w3 c i (by omega) (by omega), x9 c i (by omega)]
  · exact fun c i p q w => by rw [m_st_d, if_neg (by omega), m_st_d, if_neg (by omega), m_st_d, if_neg (by omega), m_st_d, if_neg (by omega), m_st_d, if_neg (by omega), a2 c i (by omega)]
  · exact fun c i p w => by rw [w3 c i (by omega) (by omega), x9 c i (by omega)]
  · exact fun c i w => by rw [w3 c i (by omega) (by omega), x9 c i (by omega)]
theorem tv_1 {o m s : Int} : tv o m s = 1 ↔ tb o s = true := by
  unfold tv
  cases tb o s <;> cases tb m s <;> simp
theorem low_c (x : Int) (n : Nat) (i : Int) : low x (n + 1) i = if tb x i = true then i else low x n (i + 1) := rfl
/-- the reference's joining of two branches -/
theorem joins_L {k l j o m oE mE : Int} (hk : 0 ≤ k ∧ k < 4) (hl : 0 ≤ l ∧ l < 60) (hj : 0 ≤ j ∧ j < 3) : ∀ (n f : Nat) (i : Int) (ν : am_M), i + n = 10 → 0 ≤ i → n < f → (∀ s, i ≤ s → s < 10 → ν 1036 s = tv o m s) → (∀ s, i ≤ s → s < 10 → ν 1038 (10 * j + s) = tv oE mE s) → S10 (ν 1042 l) → (∀ s, i ≤ s → s < 10 → tb (ν 1042 l) s = false) →
    (low (aXor oE o) n i = -1 ∧ ∃ ν', M_joins_L10 f k l j i ν = some (1, ν') ∧ (∀ s, i ≤ s → s < 10 → ν' 1036 s = if tv oE mE s = tv o m s then tv o m s else 0) ∧ S10 (ν' 1042 l) ∧ (∀ s, i ≤ s → s < 10 → (tb (ν' 1042 l) s = true ↔ tv oE mE s = tv o m s ∧ tv o m s ≠ 0)) ∧ (∀ s, 0 ≤ s → s < i → tb (ν' 1042 l) s = tb (ν 1042 l) s) ∧ (∀ c x, ¬ (c = 1036 ∧ i ≤ x) → ¬ (c = 1042 ∧ x = l) → ν' c x = ν c x)) ∨
    (low (aXor oE o) n i ≠ -1 ∧ ∃ ν', M_joins_L10 f k l j i ν = some (0, ν') ∧ FND k 3 l (low (aXor oE o) n i) ν' ∧ (∀ c x, ¬ (c = 1036 ∨ (c = 1042 ∧ x = l) ∨ (1039 ≤ c ∧ c ≤ 1041 ∧ x = k)) → ν' c x = ν c x))
  | n, 0, _, _, _, _, h, _, _, _, _ => by omega
  | 0, f + 1, i, ν, h, h0, _, _, _, hs, _ => by
    refine Or.inl ⟨rfl, ν, ?_, fun s a b => by omega, hs, fun s a b => by omega, fun _ _ _ => rfl, fun _ _ _ _ => rfl⟩
    show M_joins_L10_b (M_joins_L10 f) k l j i ν = _
    unfold M_joins_L10_b
    rw [if_neg (by omega)]
  | n + 1, f + 1, i, ν, h, h0, hf, h1, h2, hs, h3 => by
    have e0 : M_joins_L10 (f + 1) k l j i ν = M_joins_L10_b (M_joins_L10 f) k l j i ν := rfl
    have ti := h1 i (Int.le_refl _) (by omega)
    have tE := h2 i (Int.le_refl _) (by omega)
    have tx : tb (aXor oE o) i = (tb oE i ^^ tb o i) := tb_xor _ _ _
    have r1 := tv_r oE mE i
    have r2 := tv_r o m i
    have u1 := tv_1 (o := oE) (m := mE) (s := i)
    have u2 := tv_1 (o := o) (m := m) (s := i)
    rw [e0, low_c]
    unfold M_joins_L10_b M_joins_B67 M_joins_B82 M_joins_B94 M_joins_B112
    rw [if_pos (show i < 10 by omega), w32_i (x := 10 * j) (by omega) (by omega), w32_i (x := 10 * j + i) (by omega) (by omega), q_ld_s (by omega) (by omega), q_ld_s (by omega) (by omega), tE, ti, w32_i (x := i + 1) (by omega) (by omega)]
    -- going on with a table and a set
    have go : ∀ (ν1 : am_M), (∀ c x, ¬ (c = 1036 ∧ x = i) → ¬ (c = 1042 ∧ x = l) → ν1 c x = ν c x) → ν1 1036 i = (if tv oE mE i = tv o m i then tv o m i else 0) → S10 (ν1 1042 l) → (tb (ν1 1042 l) i = true ↔ tv oE mE i = tv o m i ∧ tv o m i ≠ 0) → (∀ s, 0 ≤ s → s < 10 → s ≠ i → tb (ν1 1042 l) s = tb (ν 1042 l) s) → tb (aXor oE o) i ≠ true →
        ((if tb (aXor oE o) i = true then i else low (aXor oE o) n (i + 1)) = -1 ∧ ∃ ν', M_joins_L10 f k l j (i + 1) ν1 = some (1, ν') ∧ (∀ s, i ≤ s → s < 10 → ν' 1036 s = if tv oE mE s = tv o m s then tv o m s else 0) ∧ S10 (ν' 1042 l) ∧ (∀ s, i ≤ s → s < 10 → (tb (ν' 1042 l) s = true ↔ tv oE mE s = tv o m s ∧ tv o m s ≠ 0)) ∧ (∀ s, 0 ≤ s → s < i → tb (ν' 1042 l) s = tb (ν 1042 l) s) ∧ (∀ c x, ¬ (c = 1036 ∧ i ≤ x) → ¬ (c = 1042 ∧ x = l) → ν' c x = ν c x)) ∨
        ((if tb (aXor oE o) i = true then i else low (aXor oE o) n (i + 1)) ≠ -1 ∧ ∃ ν', M_joins_L10 f k l j (i + 1) ν1 = some (0, ν') ∧ FND k 3 l (if tb (aXor oE o) i = true then i else low (aXor oE o) n (i + 1)) ν' ∧ (∀ c x, ¬ (c = 1036 ∨ (c = 1042 ∧ x = l) ∨ (1039 ≤ c ∧ c ≤ 1041 ∧ x = k)) → ν' c x = ν c x)) := by
      intro ν1 g1 g2 g3 g4 g5 g6
      rw [if_neg g6]
      rcases joins_L hk hl hj n f (i + 1) ν1 (by omega) (by omega) (by omega) (fun s a b => by rw [g1 _ _ (by omega) (by omega)]; exact h1 s (by omega) b) (fun s a b => by rw [g1 _ _ (by omega) (by omega)]; exact h2 s (by omega) b) g3 (fun s a b => by rw [g5 s (by omega) b (by omega)]; exact h3 s (by omega) b) with ⟨a1, ν', a2, a3, a4, a5, a6, a7⟩ | ⟨a1, ν', a2, a3, a4⟩
      · refine Or.inl ⟨a1, ν', a2, fun s x y => ?_, a4, fun s x y => ?_, fun s x y => ?_, fun c x z w => ?_⟩
        · by_cases z : s = i
          · rw [z, a7 _ _ (by omega) (by omega)]; exact g2
          · exact a3 s (by omega) y
        · by_cases z : s = i
          · rw [z, a6 i h0 (by omega)]; exact g4
          · exact a5 s (by omega) y
        · rw [a6 s x (by omega), g5 s x (by omega) (by omega)]
        · rw [a7 c x (by omega) w, g1 c x (by omega) w]
      · exact Or.inr ⟨a1, ν', a2, a3, fun c x z => by rw [a4 c x z, g1 c x (by omega) (by omega)]⟩
    have fault : tb (aXor oE o) i = true → ∀ (y : am_O), y = (q_bd (M_finds k 3 l i ν) fun a1 μ2 => q_rb a1 (some (a1, μ2))) → ((if tb (aXor oE o) i = true then i else low (aXor oE o) n (i + 1)) ≠ -1 ∧ ∃ ν', y = some (0, ν') ∧ FND k 3 l (if tb (aXor oE o) i = true then i else low (aXor oE o) n (i + 1)) ν' ∧ (∀ c x, ¬ (c = 1036 ∨ (c = 1042 ∧ x = l) ∨ (1039 ≤ c ∧ c ≤ 1041 ∧ x = k)) → ν' c x = ν c x)) := by
      intro z y hy
      obtain ⟨ν', a1, a2, a3⟩ := finds_s (k := k) (w := 3) (l := l) (s := i) (ν := ν) hk
      rw [if_pos z, hy, a1, q_bd_s, q_rb0]
      exact ⟨by omega, ν', rfl, a2, fun c x w => a3 c x (by omega)⟩
    have same : tv oE mE i = tv o m i → tb (aXor oE o) i ≠ true := by
      intro e
      rw [tx]
      have : tb oE i = tb o i := by
        cases p : tb oE i <;> cases q : tb o i
        · rfl
        · have := u2.mpr q; rw [← e] at this; have := u1.mp this; rw [p] at this; cases this
        · have := u1.mpr p; rw [e] at this; have := u2.mp this; rw [q] at this; cases this
        · rfl
      rw [this]; simp
    have diff : (tv oE mE i = 1 ∧ tv o m i ≠ 1) ∨ (tv oE mE i ≠ 1 ∧ tv o m i = 1) → tb (aXor oE o) i = true := by
      intro e
      rw [tx]
      rcases e with ⟨p, q⟩ | ⟨p, q⟩
      · have p' := u1.mp p
        have q' : tb o i = false := by cases x : tb o i with
          | true => exact absurd (u2.mpr x) q
          | false => rfl
        rw [p', q']; rfl
      · have p' := u2.mp q
        have q' : tb oE i = false := by cases x : tb oE i with
          | true => exact absurd (u1.mpr x) p
          | false => rfl
        rw [p', q']; rfl
    by_cases q : tv oE mE i = tv o m i
    · have hne := same q
      have hso : ∀ v, S10 v → (∀ s, 0 ≤ s → s < 10 → s ≠ i → tb v s = tb (ν 1042 l) s) → (tb v i = true ↔ tv oE mE i = tv o m i ∧ tv o m i ≠ 0) → _ := fun v v1 v2 v3 => go (m_st ν 1042 l v) (fun c x z w => by rw [m_st_d, if_neg w]) (by rw [m_st_c (by decide), if_pos q]; exact ti) (by rw [m_st_d, if_pos ⟨rfl, rfl⟩]; exact v1) (by rw [m_st_d, if_pos ⟨rfl, rfl⟩]; exact v3) (fun s s0 s1 s2 => by rw [m_st_d, if_pos ⟨rfl, rfl⟩]; exact v2 s s0 s1 s2) hne
      have h3i := h3 i (Int.le_refl _) (by omega)
      rw [if_pos q, q_ld_s (by omega) (by omega)]
      by_cases q2 : tv oE mE i ≤ 0
      · rw [if_pos q2, q_st_s (by omega) (by omega)]
        refine hso (aOr (ν 1042 l) 0) (S10_or hs S10_0) (fun s _ _ _ => by rw [aOr_0 hs]) ?_
        rw [aOr_0 hs, h3i]
        exact ⟨fun z => (by cases z), fun z => by omega⟩
      · rw [if_neg q2, q_st_s (by omega) (by omega)]
        refine hso (aOr (ν 1042 l) (aShl 1 i)) (S10_or hs (S10_shl h0 (by omega))) (fun s s0 s1 s2 => by rw [tb_or, tb_shl h0 (by omega) s0 (by omega), decide_eq_false s2, Bool.or_false]) ?_
        rw [tb_or, tb_shl h0 (by omega) h0 (by omega), decide_eq_true rfl, Bool.or_true]
        exact ⟨fun _ => ⟨q, by omega⟩, fun _ => rfl⟩
    · rw [if_neg q]
      have zero : ¬ (tv oE mE i = 1) → ¬ (tv o m i = 1) → _ := fun p1 p2 => go (m_st ν 1036 i 0) (fun c x z w => by rw [m_st_d, if_neg z]) (by rw [m_st_d, if_pos ⟨rfl, rfl⟩, if_neg q]) (by rw [m_st_c (by decide)]; exact hs) (by rw [m_st_c (by decide), h3 i (Int.le_refl _) (by omega)]; exact ⟨fun z => (by cases z), fun z => absurd z.1 q⟩) (fun s _ _ _ => by rw [m_st_c (by decide)]) (fun z => by
        rw [tx] at z
        cases p : tb oE i <;> cases w : tb o i <;> rw [p, w] at z
        · cases z
        · exact p2 (u2.mpr w)
        · exact p1 (u1.mpr p)
        · cases z)
      by_cases q2 : tv oE mE i ≤ 0
      · rw [if_pos q2]
        by_cases q3 : tv oE mE i = 1
        · omega
        · rw [if_neg q3]
          by_cases q4 : tv o m i = 1
          · rw [if_pos q4]
            exact Or.inr (fault (diff (Or.inr ⟨q3, q4⟩)) _ rfl)
          · rw [if_neg q4, q_st_s h0 (by omega)]
            exact zero q3 q4
      · rw [if_neg q2]
        by_cases q5 : tv o m i ≤ 0
        · rw [if_pos q5]
          by_cases q3 : tv oE mE i = 1
          · rw [if_pos q3]
            exact Or.inr (fault (diff (Or.inl ⟨q3, by omega⟩)) _ rfl)
          · rw [if_neg q3, if_neg (show ¬ tv o m i = 1 by omega), q_st_s h0 (by omega)]
            exact zero q3 (by omega)
        · rw [if_neg q5]
          exact Or.inr (fault (diff (by omega)) _ rfl)
/-- end -/
theorem ck_D {b k l d o m e oE mE a z : Int} {r : List Int} {μ ν : am_M} (hb : bOk b) (hk : 0 ≤ k ∧ k < 4) (h : CKC b l r μ ν) (c : CK o m d μ ν) (hD : ν 1002 l = 7) (hd : 1 ≤ d ∧ d ≤ 3) (se : SE (d - 1) e oE mE μ ν) (he : 0 ≤ e ∧ e < 60 ∧ a ≤ e ∧ e < z ∧ e ≠ l) (hl : a ≤ l ∧ l < z) : CFT b k l d a z μ ν ∨ ∃ μ' ν' o' m', Ck_checkLine (b + 1) l μ = some (0, μ') ∧ M_goesBy k l d ν = some (1, ν') ∧ CK o' m' (d - 1) μ' ν' ∧ FC b a z μ μ' ∧ FR k a z ν ν' ∧ SP (d - 1) μ μ' ∧ SR (d - 1) ν ν' ∧ FR 4 a z ν ν' ∧ S10 (μ' (b + 8) e) ∧ S10 (μ' (b + 8) l) ∧ S10 (ν' 1042 l) ∧ (∀ x, x ≠ e → x ≠ l → μ' (b + 8) x = μ (b + 8) x) ∧ (∀ x, x ≠ l → ν' 1042 x = ν 1042 x) ∧ ∀ t, 0 ≤ t → t < 10 →
    (tv o' m' t ≠ 0 ↔ tv o m t ≠ 0 ∧ tb (μ' (b + 8) l) t = false) ∧ (tv o' m' t ≠ 0 ↔ tv oE mE t ≠ 0 ∧ tb (μ' (b + 8) e) t = false) ∧ (tb (ν' 1042 l) t = true ↔ tv o' m' t ≠ 0) := by
  have hb' : b = 100 ∨ b = 200 := hb
  have hkd := h.kd
  have hl0 := h.l0
  obtain ⟨n1, n2, n3⟩ := h.n0 (by omega)
  obtain ⟨i1, i2, i0, i3, i4, i5, i6⟩ := se
  obtain ⟨μ1, a1, a2, a3⟩ := mid_c hb h c.c8
  rw [c.c5, c.c6, n1, n2, n3, chF_0] at a3
  rcases a3 with ⟨-, x3, x4, x5, x6⟩ | ⟨z1, -⟩
  rotate_left
  · exact absurd rfl z1
  have x3 : μ1 30 5 = o := x3
  have x4 : μ1 30 6 = m := x4
  have e7 : μ1 30 7 = d := by rw [a2 _ _ (by omega)]; exact c.c7
  -- the reference
  have eg : M_goesBy k l d ν = (q_bd (M_joins_L10 am_FU k l (d - 1) 0 (m_st ν 1042 l 0)) fun a10 μ11 => q_rb a10 (some (a10, μ11))) := by
    unfold M_goesBy M_joins
    rw [q_ld_s (by omega) (by omega), if_pos hD, w32_i (x := d - 1) (by omega) (by omega), q_st_s (by omega) (by omega)]
  have hj := joins_L (k := k) (l := l) (j := d - 1) (o := o) (m := m) (oE := oE) (mE := mE) hk hl0 (by omega) 10 am_FU 0 (m_st ν 1042 l 0) (by omega) (by omega) (by have := am_FU_ge; omega) (fun s s0 s1 => by rw [m_st_c (by decide)]; exact c.tt s s0 s1) (fun s s0 s1 => by rw [m_st_c (by decide)]; exact i6 s s0 s1) (by rw [m_st_d, if_pos ⟨rfl, rfl⟩]; exact S10_0) (fun s s0 s1 => by rw [m_st_d, if_pos ⟨rfl, rfl⟩]; exact tb_0 s)
  -- the class
  have sx : S10 (aXor oE o) := S10_xor i3 c.so
  have ge : ∀ (ν : am_M) (c i v : Int), m_st ν c i v c i = v := fun ν c i v => by rw [m_st_d, if_pos ⟨rfl, rfl⟩]
  have hB : ∀ m1 : am_M, m1 30 7 = d - 1 → m1 30 6 = m → (∀ c i, ¬ (c = 30 ∧ 7 ≤ i ∧ i ≤ 9) → m1 c i = μ1 c i) → Ck_joinBranches_B40 (b + 1) l m1 = some (0, m_st (m_st (m_st m1 (b + 8) e (aAnd mE (aXor m (-1)))) (b + 8) l (aAnd m (aXor mE (-1)))) 30 6 (aAnd m mE)) := by
    intro m1 h1 h2 h3
    unfold Ck_joinBranches_B40
    have q34 : m1 34 (d - 1) = mE := by rw [h3 _ _ (by omega), a2 _ _ (by omega)]; exact i2
    have q35 : m1 35 (d - 1) = e := by rw [h3 _ _ (by omega), a2 _ _ (by omega)]; exact i0
    have e8 : b + 1 + 7 = b + 8 := by omega
    have q1 : m_st m1 (b + 8) e (aAnd mE (aXor m (-1))) 30 6 = m := by rw [m_st_c (by omega)]; exact h2
    have q2 : m_st (m_st m1 (b + 8) e (aAnd mE (aXor m (-1)))) (b + 8) l (aAnd m (aXor mE (-1))) 30 6 = m := by rw [m_st_c (by omega)]; exact q1
    rw [h1, X_at_34, if_pos (by omega), q_bd_s, q34, q_gd_s (bO2 hb), h1, X_at_35, if_pos (by omega), q_bd_s, q35, e8, h2, bput8 hb, if_pos (by omega), q_bd_s, q1, bput8 hb, if_pos hl0, q_bd_s, q2, q_pf_d]
  have q33 : m_st μ1 30 7 (d - 1) 33 (d - 1) = oE := by rw [m_st_c (by decide), a2 _ _ (by omega)]; exact i1
  have q5 : m_st μ1 30 7 (d - 1) 30 5 = o := by rw [m_st_i (by decide)]; exact x3
  have hX : ckRest b l μ1 = (if (aXor oE o) = 0 then (q_bd (Ck_joinBranches_B40 (b + 1) l (m_st μ1 30 7 (d - 1))) fun _ x => some (0, x)) else (q_bd (q_bd (JI_ntz (aXor oE o) (m_st μ1 30 7 (d - 1))) fun a4 μ5 => q_bd (Ck_blame 3 a4 μ5) fun a6 μ7 => Ck_joinBranches_B40 (b + 1) l μ7) fun _ x => some (0, x))) := by
    unfold ckRest Ck_joinBranches
    rw [bat2 hb, if_pos hl0, q_bd_s, a2 _ _ (by omega), hkd.1, hD, if_neg (by decide), if_neg (by decide), if_pos rfl, e7, w32_i (x := d - 1) (by omega) (by omega), q_pf_d, ge, X_at_33, if_pos (by omega), q_bd_s, q33, q5]
    by_cases q : aXor oE o = 0
    · rw [if_pos q, if_pos q]
    · rw [if_neg q, if_neg q]
  by_cases q : aXor oE o = 0
  · -- alike
    have lo : low (aXor oE o) 10 0 = -1 := by
      rcases low_s (x := aXor oE o) 10 0 with ⟨v1, -⟩ | ⟨v1, v2, v3, -⟩
      · exact v1
      · rw [q, tb_0] at v3; cases v3
    rcases hj with ⟨-, ν2, w1, w2, w3, w4, -, w5⟩ | ⟨w1, -⟩
    rotate_left
    · exact absurd lo w1
    have hXX : ckRest b l μ1 = some (0, m_st (m_st (m_st (m_st μ1 30 7 (d - 1)) (b + 8) e (aAnd mE (aXor m (-1)))) (b + 8) l (aAnd m (aXor mE (-1)))) 30 6 (aAnd m mE)) := by
      rw [hX, if_pos q, hB (m_st μ1 30 7 (d - 1)) (ge _ _ _ _) (by rw [m_st_i (by decide)]; exact x4) (fun c i w => by rw [m_st_d, if_neg (by omega)]), q_bd_s]
    have f2 : ∀ c x, ¬ (c = 1036 ∧ 0 ≤ x) → ¬ (c = 1042 ∧ x = l) → ν2 c x = ν c x := fun c x y w => by rw [w5 c x y w, m_st_d, if_neg w]
    have fx : ∀ c i, ¬ ((c = 30 ∧ (i = 5 ∨ i = 6 ∨ i = 7 ∨ i = 8 ∨ i = 9)) ∨ (c = b + 8 ∧ (i = e ∨ i = l))) → m_st (m_st (m_st (m_st μ1 30 7 (d - 1)) (b + 8) e (aAnd mE (aXor m (-1)))) (b + 8) l (aAnd m (aXor mE (-1)))) 30 6 (aAnd m mE) c i = μ c i := fun c i w => by rw [m_st_d, if_neg (by omega), m_st_d, if_neg (by omega), m_st_d, if_neg (by omega), m_st_d, if_neg (by omega), a2 c i (by omega)]
    have g1 : m_st (m_st (m_st (m_st μ1 30 7 (d - 1)) (b + 8) e (aAnd mE (aXor m (-1)))) (b + 8) l (aAnd m (aXor mE (-1)))) 30 6 (aAnd m mE) (b + 8) e = aAnd mE (aXor m (-1)) := by rw [m_st_c (by omega), m_st_i (by omega), ge]
    have g2 : m_st (m_st (m_st (m_st μ1 30 7 (d - 1)) (b + 8) e (aAnd mE (aXor m (-1)))) (b + 8) l (aAnd m (aXor mE (-1)))) 30 6 (aAnd m mE) (b + 8) l = aAnd m (aXor mE (-1)) := by rw [m_st_c (by omega), ge]
    have hoo : ∀ t, 0 ≤ t → t < 10 → tb oE t = tb o t := by
      intro t t0 t1
      have := (S10_zero sx).mp q t t0 t1
      rw [tb_xor] at this
      revert this
      cases tb oE t <;> cases tb o t <;> decide
    have key : ∀ t, 0 ≤ t → t < 10 → (tv o (aAnd m mE) t = if tv oE mE t = tv o m t then tv o m t else 0) ∧ (tv o (aAnd m mE) t ≠ 0 ↔ tv oE mE t = tv o m t ∧ tv o m t ≠ 0) ∧ (tv o (aAnd m mE) t ≠ 0 ↔ tv o m t ≠ 0 ∧ (tb m t && !tb mE t) = false) ∧ (tv o (aAnd m mE) t ≠ 0 ↔ tv oE mE t ≠ 0 ∧ (tb mE t && !tb m t) = false) := by
      intro t t0 t1
      have h1 := hoo t t0 t1
      have h2 := c.dj t t0 t1
      have h3 := i5 t t0 t1
      unfold tv
      rw [tb_and, h1]
      rw [h1] at h3
      cases p : tb o t <;> cases w : tb m t <;> cases y : tb mE t <;> rw [p] at h2 h3 <;> rw [w] at h2 <;> rw [y] at h3 <;> simp at h2 h3 ⊢
    refine Or.inr ⟨_, ν2, o, aAnd m mE, by rw [a1, hXX], by rw [eg, w1, q_bd_s, q_rb1], ?_, fun c i w => fx c i (by omega), fun c i w => f2 c i (by omega) (by omega), fun c i p1 p2 w => fx c i (by omega), fun c i p1 w => f2 c i (by omega) (by omega), fun c i w => f2 c i (by omega) (by omega), by rw [g1]; exact S10_and i4, by rw [g2]; exact S10_and c.sm, w3, fun x y1 y2 => fx _ _ (by omega), fun x y1 => f2 _ _ (by omega) (by omega), fun t t0 t1 => ?_⟩
    · exact (CK.mk (c5 := by rw [m_st_i (by decide), m_st_c (by omega), m_st_c (by omega), m_st_i (by decide)]; exact x3) (c6 := by rw [ge]) (c7 := by rw [m_st_i (by decide), m_st_c (by omega), m_st_c (by omega), ge]) (c8 := by rw [m_st_i (by decide), m_st_c (by omega), m_st_c (by omega), m_st_i (by decide)]; exact x5) (c9 := by rw [m_st_i (by decide), m_st_c (by omega), m_st_c (by omega), m_st_i (by decide), x6]; exact c.c9) (so := c.so) (sm := S10_and c.sm) (dj := fun t t0 t1 y => c.dj t t0 t1 ⟨y.1, by have := y.2; rw [tb_and] at this; simp at this; exact this.1⟩) (tt := fun s s0 s1 => by rw [w2 s s0 s1]; exact (key s s0 s1).1.symm))
    · obtain ⟨k1, k2, k3, k4⟩ := key t t0 t1
      have n1 : tb (aAnd m (aXor mE (-1))) t = (tb m t && !tb mE t) := by rw [tb_and, tb_not t0 (by omega)]
      have n2 : tb (aAnd mE (aXor m (-1))) t = (tb mE t && !tb m t) := by rw [tb_and, tb_not t0 (by omega)]
      rw [g1, g2, n1, n2]
      exact ⟨k3, k4, by rw [w4 t t0 t1, k2]⟩
  · -- not alike
    have lo : low (aXor oE o) 10 0 ≠ -1 := by
      intro w
      rcases low_s (x := aXor oE o) 10 0 with ⟨-, v2⟩ | ⟨v1, -⟩
      · exact q ((S10_zero sx).mpr (fun s s0 s1 => v2 s s0 (by omega)))
      · omega
    rcases hj with ⟨w1, -⟩ | ⟨-, ν2, w1, w2, w3⟩
    · exact absurd w1 lo
    have bl : Ck_blame 3 (low (aXor oE o) 10 0) (m_st μ1 30 7 (d - 1)) = some (0, m_st (m_st (m_st μ1 30 7 (d - 1)) 30 8 3) 30 9 (low (aXor oE o) 10 0)) := by
      unfold Ck_blame
      rw [m_st_i (by decide), if_pos x5, q_pf_d, q_pf_d]
    have hXX := hX
    rw [if_neg q, ntz_s sx q, q_bd_s, bl, q_bd_s, hB _ (by rw [m_st_i (by decide), m_st_i (by decide), ge]) (by rw [m_st_i (by decide), m_st_i (by decide), m_st_i (by decide)]; exact x4) (fun c i w => by rw [m_st_d, if_neg (by omega), m_st_d, if_neg (by omega), m_st_d, if_neg (by omega)]), q_bd_s] at hXX
    refine Or.inl ⟨_, ν2, 3, low (aXor oE o) 10 0, by rw [a1, hXX], by rw [eg, w1, q_bd_s, q_rb0], ?_, by decide, ?_, w2, fun c i w => ?_, fun c i w => by rw [w3 c i (by omega), m_st_d, if_neg (by omega)]⟩
    · rw [m_st_i (by decide), m_st_c (by omega), m_st_c (by omega), m_st_i (by decide), ge]
    · rw [m_st_i (by decide), m_st_c (by omega), m_st_c (by omega), ge]
    · rw [m_st_d, if_neg (by omega), m_st_d, if_neg (by omega), m_st_d, if_neg (by omega), m_st_d, if_neg (by omega), m_st_d, if_neg (by omega), m_st_d, if_neg (by omega), a2 c i (by omega)]
