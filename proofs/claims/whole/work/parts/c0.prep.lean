/-! The promise of needs: the class makes ready and walks. -/
theorem aOr_z {x y : Int} (hx : r32 x) (hy : r32 y) (h : aOr x y = 0) : x = 0 ∧ y = 0 := by
  have hb : ∀ s, tb (aOr x y) s = false := fun s => by rw [h, tb_0]
  have r0 : r32 0 := by unfold r32; omega
  constructor
  · refine tb_ext hx r0 (fun s _ _ => ?_)
    have := hb s
    rw [tb_or, Bool.or_eq_false_iff] at this
    rw [this.1, tb_0]
  · refine tb_ext hy r0 (fun s _ _ => ?_)
    have := hb s
    rw [tb_or, Bool.or_eq_false_iff] at this
    rw [this.2, tb_0]
theorem or_L {v : Int → Int} {μ : am_M} (hv : LK v μ) : ∀ (n fu : Nat) (a i : Int), i + n = 10 → 0 ≤ i → n < fu → r32 a → (Wy_isAlike_L145 fu a i μ = some (1, μ) ∧ a = 0 ∧ ∀ s, i ≤ s → s < 10 → w32 (v s) = 0) ∨ Wy_isAlike_L145 fu a i μ = some (0, μ)
  | n, 0, _, _, _, _, h, _ => by omega
  | 0, fu + 1, a, i, hi, h0, _, _ => by
    have e0 : Wy_isAlike_L145 (fu + 1) a i μ = Wy_isAlike_L145_b (Wy_isAlike_L145 fu) a i μ := rfl
    rw [e0]
    unfold Wy_isAlike_L145_b
    rw [if_neg (by omega)]
    by_cases c : a = 0
    · rw [if_pos c]; exact Or.inl ⟨rfl, c, fun s p q => by omega⟩
    · rw [if_neg c]; exact Or.inr rfl
  | n + 1, fu + 1, a, i, hi, h0, hf, ha => by
    have e0 : Wy_isAlike_L145 (fu + 1) a i μ = Wy_isAlike_L145_b (Wy_isAlike_L145 fu) a i μ := rfl
    rw [e0]
    unfold Wy_isAlike_L145_b
    rw [if_pos (show i < 10 by omega), X_at_55, if_pos (by omega), q_bd_s, hv i h0 (by omega), w32_i (x := i + 1) (by omega) (by omega)]
    rcases or_L hv n fu (aOr a (w32 (v i))) (i + 1) (by omega) (by omega) (by omega) (aOr_r _ _) with ⟨a1, a2, a3⟩ | a1
    · obtain ⟨b1, b2⟩ := aOr_z ha (w32_r _) a2
      refine Or.inl ⟨a1, b1, fun s p q => ?_⟩
      by_cases y : s = i
      · rw [y]; exact b2
      · exact a3 s (by omega) q
    · exact Or.inr a1
theorem clearL_L : ∀ (n fu : Nat) (i : Int) (μ : am_M), i + n = 10 → 0 ≤ i → n < fu → ∃ μ', Wy_clearLacks_L2 fu i μ = some (0, μ') ∧ (∀ s, i ≤ s → s < 10 → μ' 55 s = 0) ∧ (∀ c x, ¬ (c = 55 ∧ i ≤ x) → μ' c x = μ c x)
  | n, 0, _, _, _, _, h => by omega
  | 0, fu + 1, i, μ, hi, h0, _ => by
    refine ⟨μ, ?_, fun s p q => by omega, fun _ _ _ => rfl⟩
    show Wy_clearLacks_L2_b (Wy_clearLacks_L2 fu) i μ = _
    unfold Wy_clearLacks_L2_b
    rw [if_neg (by omega)]
  | n + 1, fu + 1, i, μ, hi, h0, hf => by
    obtain ⟨μ', a1, a2, a3⟩ := clearL_L n fu (i + 1) (m_st μ 55 i 0) (by omega) (by omega) (by omega)
    refine ⟨μ', ?_, fun s p q => ?_, fun c x z => by rw [a3 c x (by omega), m_st_d, if_neg (by omega)]⟩
    · rw [← a1]
      show Wy_clearLacks_L2_b (Wy_clearLacks_L2 fu) i μ = _
      unfold Wy_clearLacks_L2_b
      rw [if_pos (show i < 10 by omega), X_put_55, if_pos (by omega), q_bd_s, w32_i (x := i + 1) (by omega) (by omega)]
    · by_cases y : s = i
      · rw [y, a3 _ _ (by omega), m_st_d, if_pos ⟨rfl, rfl⟩]
      · exact a2 s (by omega) q
theorem clear_s {μ : am_M} : ∃ μ', Wy_clearLacks μ = some (0, μ') ∧ LK (fun _ => 0) μ' ∧ (∀ c x, c ≠ 55 → μ' c x = μ c x) := by
  have hFU := am_FU_ge
  obtain ⟨μ', a1, a2, a3⟩ := clearL_L 10 am_FU 0 μ (by omega) (by omega) (by omega)
  exact ⟨μ', a1, fun s p q => a2 s p q, fun c x z => a3 c x (by omega)⟩
theorem isAlike_s {b F E l : Int} {R : Int → List Int} {m dd : Nat} {μ ν μ1 : am_M} (h : ND b F E R μ ν) (hj : NJ F E ν) (hE5 : ∀ l, F ≤ l → l < E → (ν 1002 l = 5 → μ (b + 7) l = ν 1008 l) ∧ (ν 1002 l = 6 → μ (b + 7) l = ν 1009 l)) (hl : F ≤ l ∧ l < E) (h5 : ν 1002 l = 5) (k1 : blk (wZ b μ ν) m dd (l + 1) (ν 1008 l)) (k2 : blk (wZ b μ ν) m dd (ν 1008 l + 1) (ν 1009 l)) (k3 : ν 1008 l < ν 1009 l ∧ ν 1009 l < E) (k4 : ν 1002 (ν 1008 l) = 6) (k5 : ν 1002 (ν 1009 l) = 7) (k6 : ν 1009 (ν 1008 l) = ν 1009 l) (hw : ∀ c, b ≤ c → c ≤ b + 22 → μ1 c = μ c) (hs : ∀ x, l < x → x < E → ν 1002 x = 5 → μ1 57 x ≠ 0 → AL R ν E x) : ∃ r μ2, Wy_isAlike (b + 1) l μ1 = some (r, μ2) ∧ (r = 0 ∨ (r = 1 ∧ AL R ν E l)) ∧ (∀ c i, c ≠ 55 → μ2 c i = μ1 c i) := by
  have hFU := am_FU_ge
  have hb := h.kd.bo
  have hb' : b = 100 ∨ b = 200 := hb
  have F0 := h.kd.F0
  have x5 := hj.j5 l hl.1 hl.2 h5
  generalize hq : ν 1009 l = q at *
  obtain ⟨e, he⟩ : ∃ e, e = ν 1008 l := ⟨_, rfl⟩
  rw [← he] at k1 k2 k3 k4 k6 x5
  obtain ⟨μ2, a1, a2, a3⟩ := clear_s (μ := μ1)
  have hw2 : ∀ c, b ≤ c → c ≤ b + 22 → μ2 c = μ c := fun c p r => by rw [← hw c p r]; exact funext fun i => a3 c i (by omega)
  have e7 : b + 1 + 6 = b + 7 := by omega
  have m1 : μ2 (b + 7) l = e := by rw [hw2 _ (by omega) (by omega), (hE5 l hl.1 hl.2).1 h5, he]
  have m2 : μ2 (b + 7) e = q := by rw [hw2 _ (by omega) (by omega), (hE5 e (by omega) (by omega)).2 k4, k6]
  have eI : Wy_isAlike (b + 1) l μ1 = Wy_isAlike_L34 am_FU (b + 1) e q 1 (l + 1) 0 μ2 := by
    unfold Wy_isAlike
    rw [a1, q_bd_s, q_gd_s (bO2 hb), e7, bat7 hb, if_pos (by omega), q_bd_s, m1, bat7 hb, if_pos (by omega), q_bd_s, m2, w32_i (x := l + 1) (by omega) (by omega)]
  rw [eI]
  rcases al_B (e := e) (q := q) (sg := 1) h hj (Or.inl rfl) hE5 m dd (l + 1) e 0 am_FU (fun _ => 0) μ2 k1 (by omega) (by omega) (by omega) (by omega) (by omega) (by omega) (by omega) hw2 a2 (fun x p r t y => hs x (by omega) (by omega) t (by rw [← a3 _ _ (by decide)]; exact y)) with ⟨μ3, g1, g2⟩ | ⟨D1, μ3, fu3, k3', g1, g2, g3, g4, g5, g6, g7⟩
  · exact ⟨0, μ3, g1, Or.inl rfl, fun c i p => by rw [g2 c i p, a3 c i p]⟩
  rw [g2]
  have hw3 : ∀ c, b ≤ c → c ≤ b + 22 → μ3 c = μ c := fun c p r => by rw [← hw2 c p r]; exact funext fun i => g7 c i (by omega)
  match fu3, g3 with
  | 0, g3 => omega
  | fu3 + 1, g3 =>
  obtain ⟨μ4, d1, d2, d3⟩ := al_line (fu := fu3) (e := e) (q := q) h ⟨by omega, by omega⟩ (Or.inl rfl) hw3 g6 (l := e) (k := k3') ⟨by omega, by omega⟩ (by omega) (fun y => by omega)
  have hw4 : ∀ c, b ≤ c → c ≤ b + 22 → μ4 c = μ c := fun c p r => by rw [← hw3 c p r]; exact funext fun i => d3 c i (by omega)
  have e4 : Wy_isAlike_L34 (fu3 + 1) (b + 1) e q 1 e k3' μ3 = Wy_isAlike_L34 fu3 (b + 1) e q (-1) (e + 1) (k3' + 1) μ4 := by
    rw [d1, if_pos rfl]
    unfold Wy_isAlike_B100 Wy_isAlike_B127 Wy_isAlike_B131
    rw [if_pos k4, if_pos rfl, w32_i (x := e + 1) (by omega) (by omega), w32_i (x := k3' + 1) (by omega) (by omega)]
  rw [e4]
  have F4 : ∀ c i, c ≠ 55 → μ4 c i = μ1 c i := fun c i p => by rw [d3 c i p, g7 c i p, a3 c i p]
  rcases al_B (e := e) (q := q) (sg := -1) h hj (Or.inr rfl) hE5 m dd (e + 1) q (k3' + 1) fu3 _ μ4 k2 (by omega) (by omega) (by omega) (by omega) (by omega) (by omega) (by omega) hw4 d2 (fun x p r t y => hs x (by omega) (by omega) t (by rw [← F4 _ _ (by decide)]; exact y)) with ⟨μ5, s1, s2⟩ | ⟨D2, μ5, fu5, k5', s1, s2, s3, s4, s5, s6, s7⟩
  · exact ⟨0, μ5, s1, Or.inl rfl, fun c i p => by rw [s2 c i p, F4 c i p]⟩
  rw [s2]
  match fu5, s3 with
  | 0, s3 => omega
  | fu5 + 1, s3 =>
  have e5 : Wy_isAlike_L34 (fu5 + 1) (b + 1) e q (-1) q k5' μ5 = Wy_isAlike_L145 am_FU 0 0 μ5 := by
    show Wy_isAlike_L34_b (Wy_isAlike_L34 fu5) (b + 1) e q (-1) q k5' μ5 = _
    unfold Wy_isAlike_L34_b Wy_isAlike_B139
    rw [if_neg (show ¬ q < q by omega)]
    split <;> rfl
  rw [e5]
  have F5 : ∀ c i, c ≠ 55 → μ5 c i = μ1 c i := fun c i p => by rw [s7 c i p, F4 c i p]
  rcases or_L s6 10 am_FU 0 0 (by omega) (by omega) (by omega) (by unfold r32; omega) with ⟨o1, -, o3⟩ | o1
  rotate_left
  · exact ⟨0, μ5, o1, Or.inl rfl, F5⟩
  refine ⟨1, μ5, o1, Or.inr ⟨rfl, ?_⟩, F5⟩
  -- alike
  have u1 := UB.one (R := R) hj (by omega : F ≤ e) (by omega) (by omega : ν 1002 e ≠ 8) (by omega)
  have n1 : nx ν e = q + 1 := by unfold nx; rw [if_pos k4, k6]
  rw [n1] at u1
  have u2 := UB.one (R := R) hj (by omega : F ≤ q) (by omega) (by omega : ν 1002 q ≠ 8) (by omega)
  have n2 : nx ν q = q + 1 := by unfold nx; rw [if_neg (by omega)]
  rw [n2] at u2
  have t1 := g1.tr u1 (by omega) (D := fun s => D1 s + dl R ν e s) (fun _ => rfl)
  have t2 := s1.tr u2 (by omega) (D := fun s => D2 s + dl R ν q s) (fun _ => rfl)
  have cg : CGV (fun s => D2 s + dl R ν q s) (fun s => D1 s + dl R ν e s) := fun s p r => by
    have z : w32 (0 + 1 * D1 s + 1 * dl R ν e s + -1 * D2 s) = 0 := o3 s p r
    show w32 (D1 s + dl R ν e s) = w32 (D2 s + dl R ν q s)
    rw [dl_0 h ⟨by omega, by omega⟩ (Or.inl k4) p] at z ⊢
    rw [dl_0 h ⟨by omega, by omega⟩ (Or.inr k5) p]
    unfold w32 at *
    omega
  have t3 := t2.cg cg
  intro n v u hn hu
  rw [← he] at hu
  obtain ⟨u1', p1, p2⟩ := t3.1 n v u (by omega) hu
  obtain ⟨u2', r1, r2⟩ := t1.2 n v u1' (by omega) p2
  exact ⟨u2', p1.tr r1, r2⟩
/-- the class's slips of once -/
def ON (b F E : Int) (μ ν : am_M) (s : Int) : Prop := ∃ x, F ≤ x ∧ x < E ∧ μ (b + 5) x = 1 ∧ (ν 1003 x = s ∨ ν 1004 x = s)
theorem laidSet_s {b l la be : Int} {μ : am_M} (hb : bOk b) (hl : 0 ≤ l ∧ l < 60) (h3 : μ (b + 3) l = la) (h4 : μ (b + 4) l = be) (r3 : -1 ≤ la ∧ la < 10) (r4 : -1 ≤ be ∧ be < 10) : ∃ x, Ln_laidSet (b + 1) l μ = some (x, μ) ∧ S10 x ∧ ∀ s, 0 ≤ s → s < 10 → (tb x s = true ↔ la = s ∨ be = s) := by
  have e3 : b + 1 + 2 = b + 3 := by omega
  have e4 : b + 1 + 3 = b + 4 := by omega
  have bit : ∀ a, -1 ≤ a → a < 10 → ∃ x, Ln_bit a μ = some (x, μ) ∧ S10 x ∧ ∀ s, 0 ≤ s → s < 10 → (tb x s = true ↔ a = s) := by
    intro a a0 a1
    unfold Ln_bit
    by_cases c : a = -1
    · rw [if_pos c]
      exact ⟨0, rfl, S10_0, fun s p q => by rw [tb_0]; exact ⟨fun z => (by cases z), fun z => by omega⟩⟩
    · rw [if_neg c]
      refine ⟨_, rfl, S10_shl (by omega) a1, fun s p q => ?_⟩
      rw [tb_shl (by omega) (by omega) p (by omega), decide_eq_true_eq]
      exact ⟨fun z => z.symm, fun z => z.symm⟩
  obtain ⟨x, a1, a2, a3⟩ := bit la r3.1 r3.2
  obtain ⟨y, b1, b2, b3⟩ := bit be r4.1 r4.2
  refine ⟨aOr x y, ?_, S10_or a2 b2, fun s p q => by rw [tb_or, Bool.or_eq_true, a3 s p q, b3 s p q]⟩
  unfold Ln_laidSet
  rw [q_gd_s (bO2 hb), e3, e4, bat3 hb, if_pos hl, q_bd_s, h3, a1, q_bd_s, bat4 hb, if_pos hl, q_bd_s, h4, b1, q_bd_s]
/-- made ready down to line a -/
def PRP (b F E a : Int) (R : Int → List Int) (μ ν μ1 : am_M) : Prop := (∀ c i, ¬ (55 ≤ c ∧ c ≤ 58) → ¬ (c = 50 ∧ (i = 8 ∨ i = 9)) → μ1 c i = μ c i) ∧ (S10 (μ1 50 9)) ∧ (∀ s, 0 ≤ s → s < 10 → (tb (μ1 50 9) s = true ↔ ON b a E μ ν s)) ∧ (∀ x, a ≤ x → x < E → ν 1002 x = 5 → μ1 57 x = 0 ∨ (μ1 57 x = 1 ∧ AL R ν E x)) ∧ (∀ x, ¬ (a ≤ x ∧ x < E ∧ ν 1002 x = 5) → μ1 57 x = μ 57 x)
theorem PRP.hw {b F E a : Int} {R : Int → List Int} {μ ν μ1 : am_M} (h : PRP b F E a R μ ν μ1) : ∀ c i, ¬ (55 ≤ c ∧ c ≤ 58) → ¬ (c = 50 ∧ (i = 8 ∨ i = 9)) → μ1 c i = μ c i := h.1
theorem PRP.s9 {b F E a : Int} {R : Int → List Int} {μ ν μ1 : am_M} (h : PRP b F E a R μ ν μ1) : S10 (μ1 50 9) := h.2.1
theorem PRP.on {b F E a : Int} {R : Int → List Int} {μ ν μ1 : am_M} (h : PRP b F E a R μ ν μ1) : ∀ s, 0 ≤ s → s < 10 → (tb (μ1 50 9) s = true ↔ ON b a E μ ν s) := h.2.2.1
theorem PRP.al {b F E a : Int} {R : Int → List Int} {μ ν μ1 : am_M} (h : PRP b F E a R μ ν μ1) : ∀ x, a ≤ x → x < E → ν 1002 x = 5 → μ1 57 x = 0 ∨ (μ1 57 x = 1 ∧ AL R ν E x) := h.2.2.2.1
theorem PRP.no {b F E a : Int} {R : Int → List Int} {μ ν μ1 : am_M} (h : PRP b F E a R μ ν μ1) : ∀ x, ¬ (a ≤ x ∧ x < E ∧ ν 1002 x = 5) → μ1 57 x = μ 57 x := h.2.2.2.2
theorem PRP.mk {b F E a : Int} {R : Int → List Int} {μ ν μ1 : am_M} (hw : ∀ c i, ¬ (55 ≤ c ∧ c ≤ 58) → ¬ (c = 50 ∧ (i = 8 ∨ i = 9)) → μ1 c i = μ c i) (s9 : S10 (μ1 50 9)) (on : ∀ s, 0 ≤ s → s < 10 → (tb (μ1 50 9) s = true ↔ ON b a E μ ν s)) (al : ∀ x, a ≤ x → x < E → ν 1002 x = 5 → μ1 57 x = 0 ∨ (μ1 57 x = 1 ∧ AL R ν E x)) (no : ∀ x, ¬ (a ≤ x ∧ x < E ∧ ν 1002 x = 5) → μ1 57 x = μ 57 x) : PRP b F E a R μ ν μ1 := ⟨hw, s9, on, al, no⟩
theorem prep_L {b F E A : Int} {R : Int → List Int} {m dd : Nat} {μ ν : am_M} (h : ND b F E R μ ν) (hj : NJ F E ν) (hE5 : ∀ l, F ≤ l → l < E → (ν 1002 l = 5 → μ (b + 7) l = ν 1008 l) ∧ (ν 1002 l = 6 → μ (b + 7) l = ν 1009 l)) (hA : F ≤ A ∧ A ≤ E - 1) (hb : blk (wZ b μ ν) m dd A (E - 1)) (hk : ∀ x, F ≤ x → x < E → ¬ (A ≤ x ∧ x < E - 1) → ν 1002 x ≠ 5) : ∀ (n fu : Nat) (a : Int) (μ1 : am_M), a - F = n → a ≤ E → n < fu → PRP b F E a R μ ν μ1 → ∃ μ2, Wy_prepare_L29 fu (b + 1) F (a - 1) μ1 = some (0, μ2) ∧ PRP b F E F R μ ν μ2 ∧ LK (fun _ => 0) μ2 ∧ μ2 50 8 = 0 ∧ μ2 58 0 = 2147483647 ∧ μ2 58 1 = 0 ∧ μ2 58 2 = 2147483647 ∧ μ2 58 3 = 0
  | n, 0, _, _, _, _, h, _ => by omega
  | 0, fu + 1, a, μ1, hn, haE, _, hp => by
    have ea : a = F := by omega
    subst ea
    have e0 : Wy_prepare_L29 (fu + 1) (b + 1) a (a - 1) μ1 = Wy_prepare_L29_b (Wy_prepare_L29 fu) (b + 1) a (a - 1) μ1 := rfl
    generalize hB : m_st (m_st (m_st (m_st μ1 58 0 2147483647) 58 1 0) 58 2 2147483647) 58 3 0 = B
    have fB : ∀ c i, c ≠ 58 → B c i = μ1 c i := fun c i p => by rw [← hB, m_st_c p, m_st_c p, m_st_c p, m_st_c p]
    have B0 : B 58 0 = 2147483647 := by rw [← hB]; simp [m_st_d]
    have B1 : B 58 1 = 0 := by rw [← hB]; simp [m_st_d]
    have B2 : B 58 2 = 2147483647 := by rw [← hB]; simp [m_st_d]
    have B3 : B 58 3 = 0 := by rw [← hB]; simp [m_st_d]
    obtain ⟨μ3, a1, a2, a3⟩ := clear_s (μ := B)
    have f : ∀ c i, c ≠ 55 → ¬ (c = 50 ∧ i = 8) → m_st μ3 50 8 0 c i = B c i := fun c i p q => by rw [m_st_d, if_neg q, a3 c i p]
    refine ⟨m_st μ3 50 8 0, ?_, ?_, fun s p q => by rw [m_st_c (by decide)]; exact a2 s p q, by rw [m_st_d, if_pos ⟨rfl, rfl⟩], by rw [f _ _ (by decide) (by omega)]; exact B0, by rw [f _ _ (by decide) (by omega)]; exact B1, by rw [f _ _ (by decide) (by omega)]; exact B2, by rw [f _ _ (by decide) (by omega)]; exact B3⟩
    · rw [e0]
      unfold Wy_prepare_L29_b
      rw [if_pos (by omega), X_put_58, if_pos (by decide), q_bd_s, X_put_58, if_pos (by decide), q_bd_s, X_put_58, if_pos (by decide), q_bd_s, X_put_58, if_pos (by decide), q_bd_s, hB, a1, q_bd_s, q_pf_d]
    · have f9 : m_st μ3 50 8 0 50 9 = μ1 50 9 := by rw [f _ _ (by decide) (by omega), fB _ _ (by decide)]
      have f57 : ∀ x, m_st μ3 50 8 0 57 x = μ1 57 x := fun x => by rw [f _ _ (by decide) (by omega), fB _ _ (by decide)]
      exact (PRP.mk (hw := fun c i p q => by rw [f c i (by omega) (by omega), fB c i (by omega)]; exact hp.hw c i p q) (s9 := by rw [f9]; exact hp.s9) (on := by rw [f9]; exact hp.on) (al := fun x p q z => by rw [f57]; exact hp.al x p q z) (no := fun x p => by rw [f57]; exact hp.no x p))
  | n + 1, fu + 1, a, μ1, hn, haE, hf, hp => by
    have hbo := h.kd.bo
    have hb' : b = 100 ∨ b = 200 := hbo
    have F0 := h.kd.F0
    have ck := h.ck (a - 1) (by omega) (by omega)
    have hw1 : ∀ c, b ≤ c → c ≤ b + 22 → μ1 c = μ c := fun c p q => funext fun i => hp.hw c i (by omega) (by omega)
    have e5 : b + 1 + 4 = b + 5 := by omega
    have e2 : b + 1 + 1 = b + 2 := by omega
    have e0 : Wy_prepare_L29 (fu + 1) (b + 1) F (a - 1) μ1 = Wy_prepare_L29_b (Wy_prepare_L29 fu) (b + 1) F (a - 1) μ1 := rfl
    -- what is of once
    have st1 : ∃ μ2, Wy_prepare_L29_b (Wy_prepare_L29 fu) (b + 1) F (a - 1) μ1 = Wy_prepare_B64 (Wy_prepare_L29 fu) (b + 1) F (a - 1) μ2 ∧ S10 (μ2 50 9) ∧ (∀ s, 0 ≤ s → s < 10 → (tb (μ2 50 9) s = true ↔ ON b (a - 1) E μ ν s)) ∧ (∀ c i, ¬ (c = 50 ∧ i = 9) → μ2 c i = μ1 c i) := by
      obtain ⟨x, x1, x2, x3⟩ := laidSet_s (l := a - 1) (μ := μ1) hbo ck.l0 (by rw [hw1 _ (by omega) (by omega)]; exact ck.la.1) (by rw [hw1 _ (by omega) (by omega)]; exact ck.be.1) ck.la.2 ck.be.2
      unfold Wy_prepare_L29_b
      rw [if_neg (by omega), q_gd_s (bO2 hbo), e5, bat5 hbo, if_pos ck.l0, q_bd_s, hw1 (b + 5) (by omega) (by omega), x1, q_bd_s, q_pf_d]
      have up : ∀ s, ON b a E μ ν s → ON b (a - 1) E μ ν s := fun s ⟨y, y0, y1⟩ => ⟨y, by omega, y1⟩
      by_cases c : μ (b + 5) (a - 1) = 1
      · rw [if_pos c]
        refine ⟨_, rfl, by rw [m_st_d, if_pos ⟨rfl, rfl⟩]; exact S10_or hp.s9 x2, fun s p q => ?_, fun y i z => by rw [m_st_d, if_neg z]⟩
        rw [m_st_d, if_pos ⟨rfl, rfl⟩, tb_or, Bool.or_eq_true, hp.on s p q, x3 s p q]
        constructor
        · rintro (z | z)
          · exact up s z
          · exact ⟨a - 1, Int.le_refl _, by omega, c, z⟩
        · rintro ⟨y, y0, y1, y2, y3⟩
          by_cases ye : y = a - 1
          · subst ye; exact Or.inr y3
          · exact Or.inl ⟨y, by omega, y1, y2, y3⟩
      · rw [if_neg c]
        refine ⟨μ1, rfl, hp.s9, fun s p q => ?_, fun _ _ _ => rfl⟩
        rw [hp.on s p q]
        refine ⟨up s, fun ⟨y, y0, y1, y2, y3⟩ => ⟨y, ?_, y1, y2, y3⟩⟩
        by_cases ye : y = a - 1
        · subst ye; exact absurd y2 c
        · omega
    obtain ⟨μ2, s1, s2, s3, s4⟩ := st1
    have hw2 : ∀ c, b ≤ c → c ≤ b + 22 → μ2 c = μ c := fun c p q => by rw [← hw1 c p q]; exact funext fun i => s4 c i (by omega)
    have ea1 : a - 1 + -1 = a - 1 - 1 := by omega
    rw [e0, s1]
    unfold Wy_prepare_B64 Wy_prepare_B98 Wy_prepare_B101
    rw [q_gd_s (bO2 hbo), e2, bat2 hbo, if_pos ck.l0, q_bd_s, hw2 (b + 2) (by omega) (by omega), h.kd.kd (a - 1) (by omega) (by omega), w32_i (x := a - 1 + -1) (by omega) (by omega), ea1]
    by_cases q5 : ν 1002 (a - 1) = 5
    · have hin : A ≤ a - 1 ∧ a - 1 < E - 1 := Decidable.byContradiction (fun z => hk (a - 1) (by omega) (by omega) z q5)
      obtain ⟨m', dd', k1, k2, k3, k4, k5, k6, k7, k8, -, -⟩ := blk_sub m dd _ _ hb (a - 1) hin.1 hin.2 q5
      have k4' : ν 1008 (a - 1) < ν 1009 (a - 1) := k4
      have k5' : ν 1009 (a - 1) < E - 1 := k5
      obtain ⟨r, μ3, g1, g2, g3⟩ := isAlike_s h hj hE5 ⟨by omega, by omega⟩ q5 k1 k2 ⟨k4', by omega⟩ k6 k7 k8 hw2 (fun x p q t y => by
        rw [s4 _ _ (by omega)] at y
        rcases hp.al x (by omega) q t with z | z
        · exact absurd z y
        · exact z.2)
      rw [if_pos q5, g1, q_bd_s]
      have fin : ∀ v, (v = 0 ∨ (v = 1 ∧ AL R ν E (a - 1))) → ∃ μ4, (q_bd (X_put 57 (a - 1) v μ3) fun _ μ2 => Wy_prepare_L29 fu (b + 1) F (a - 1 - 1) μ2) = some (0, μ4) ∧ PRP b F E F R μ ν μ4 ∧ LK (fun _ => 0) μ4 ∧ μ4 50 8 = 0 ∧ μ4 58 0 = 2147483647 ∧ μ4 58 1 = 0 ∧ μ4 58 2 = 2147483647 ∧ μ4 58 3 = 0 := by
        intro v hv
        rw [X_put_57, if_pos (by omega), q_bd_s]
        have f : ∀ c i, c ≠ 55 → ¬ (c = 57 ∧ i = a - 1) → m_st μ3 57 (a - 1) v c i = μ2 c i := fun c i p q => by rw [m_st_d, if_neg q, g3 c i p]
        have fv : m_st μ3 57 (a - 1) v 57 (a - 1) = v := by rw [m_st_d, if_pos ⟨rfl, rfl⟩]
        refine prep_L h hj hE5 hA hb hk n fu (a - 1) _ (by omega) (by omega) (by omega) (PRP.mk (hw := fun c i p q => by rw [f c i (by omega) (by omega), s4 c i (by omega)]; exact hp.hw c i p q) (s9 := by rw [f _ _ (by decide) (by omega)]; exact s2) (on := by rw [f _ _ (by decide) (by omega)]; exact s3) (al := fun x p q z => ?_) (no := fun x p => ?_))
        · by_cases y : x = a - 1
          · rw [y, fv]; exact hv
          · rw [f _ _ (by decide) (by omega), s4 _ _ (by omega)]; exact hp.al x (by omega) q z
        · have y : x ≠ a - 1 := fun y => p ⟨by omega, by omega, by rw [y]; exact q5⟩
          rw [f _ _ (by decide) (by omega), s4 _ _ (by omega)]
          exact hp.no x (fun z => p ⟨by omega, z.2⟩)
      rcases g2 with z | ⟨z, y⟩
      · rw [if_pos z]; exact fin 0 (Or.inl rfl)
      · rw [if_neg (by omega)]; exact fin 1 (Or.inr ⟨rfl, y⟩)
    · rw [if_neg q5]
      refine prep_L h hj hE5 hA hb hk n fu (a - 1) μ2 (by omega) (by omega) (by omega) (PRP.mk (hw := fun c i p q => by rw [s4 c i (by omega)]; exact hp.hw c i p q) (s9 := s2) (on := s3) (al := fun x p q z => ?_) (no := fun x p => ?_))
      · have y : x ≠ a - 1 := fun y => q5 (by rw [← y]; exact z)
        rw [s4 _ _ (by omega)]; exact hp.al x (by omega) q z
      · rw [s4 _ _ (by omega)]
        exact hp.no x (fun z => p ⟨by omega, z.2⟩)
