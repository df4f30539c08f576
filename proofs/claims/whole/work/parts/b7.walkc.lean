/-! The promise of needs: the class's walk. -/
def VS (R : Int → List Int) (ν : am_M) (st : Int → Int) : Nat → Int → (Int → Int) → (Int → Int) → Prop
  | 0, _, _, _ => False
  | n + 1, l, v, u => if ν 1002 l = 8 then u = vad R ν v l else if ν 1002 l = 5 then (VS R ν st n (l + 1) (vad R ν v l) u ∨ (st l = 0 ∧ VS R ν st n (ν 1008 l + 1) (vad R ν v l) u)) else if ν 1002 l = 6 then VS R ν st n (ν 1009 l + 1) (vad R ν v l) u else VS R ν st n (l + 1) (vad R ν v l) u
theorem VS_8 {R : Int → List Int} {ν : am_M} {st : Int → Int} {n : Nat} {l : Int} {v u : Int → Int} (h : ν 1002 l = 8) : VS R ν st (n + 1) l v u ↔ u = vad R ν v l := by
  show (if ν 1002 l = 8 then _ else _) ↔ _
  rw [if_pos h]
theorem VS_5 {R : Int → List Int} {ν : am_M} {st : Int → Int} {n : Nat} {l : Int} {v u : Int → Int} (h : ν 1002 l = 5) : VS R ν st (n + 1) l v u ↔ (VS R ν st n (l + 1) (vad R ν v l) u ∨ (st l = 0 ∧ VS R ν st n (ν 1008 l + 1) (vad R ν v l) u)) := by
  show (if ν 1002 l = 8 then _ else if ν 1002 l = 5 then _ else _) ↔ _
  rw [if_neg (by omega), if_pos h]
theorem VS_o {R : Int → List Int} {ν : am_M} {st : Int → Int} {n : Nat} {l : Int} {v u : Int → Int} (h8 : ν 1002 l ≠ 8) (h5 : ν 1002 l ≠ 5) : VS R ν st (n + 1) l v u ↔ VS R ν st n (nx ν l) (vad R ν v l) u := by
  show (if ν 1002 l = 8 then _ else if ν 1002 l = 5 then _ else if ν 1002 l = 6 then _ else _) ↔ _
  unfold nx
  rw [if_neg h8, if_neg h5]
  by_cases c : ν 1002 l = 6
  · rw [if_pos c, if_pos c]
  · rw [if_neg c, if_neg c]
/-- how many steps the class takes at most -/
def CS (ν : am_M) : Nat → Int → Nat
  | 0, _ => 0
  | n + 1, l => if ν 1002 l = 8 then 1 else if ν 1002 l = 5 then 1 + CS ν n (l + 1) + CS ν n (ν 1008 l + 1) else 1 + CS ν n (nx ν l)
/-- found: the least and the most of twins, of burnings -/
def FD (on : Int → Int) (S : (Int → Int) → Prop) (μ μ' : am_M) : Prop := MN (vF 1 on) S (μ 58 0) (μ' 58 0) ∧ MX (vF 1 on) S (μ 58 1) (μ' 58 1) ∧ MN (vF 0 on) S (μ 58 2) (μ' 58 2) ∧ MX (vF 0 on) S (μ 58 3) (μ' 58 3)
theorem FD.tr {on : Int → Int} {S1 S2 : (Int → Int) → Prop} {μ μ1 μ2 : am_M} (h : FD on S1 μ μ1) (h2 : FD on S2 μ1 μ2) : FD on (fun u => S1 u ∨ S2 u) μ μ2 := ⟨h.1.tr h2.1, h.2.1.tr h2.2.1, h.2.2.1.tr h2.2.2.1, h.2.2.2.tr h2.2.2.2⟩
theorem FD.eqv {on : Int → Int} {S S' : (Int → Int) → Prop} {μ μ' : am_M} (h : FD on S μ μ') (e : ∀ u, S' u ↔ S u) : FD on S' μ μ' := ⟨h.1.eqv e, h.2.1.eqv e, h.2.2.1.eqv e, h.2.2.2.eqv e⟩
theorem FD.cg {on : Int → Int} {S : (Int → Int) → Prop} {μ μ' μ1 μ1' : am_M} (h : FD on S μ μ') (e : ∀ i, μ1 58 i = μ 58 i) (e' : ∀ i, μ1' 58 i = μ' 58 i) : FD on S μ1 μ1' := by
  unfold FD
  rw [e, e, e, e, e', e', e', e']
  exact h
theorem rec_L {on : Int → Int} : ∀ (n fu : Nat) (a c i : Int) (μ : am_M), i + n = 10 → 0 ≤ i → n < fu → (∀ s, 0 ≤ s → s < 10 → (aAnd (aShr (μ 50 9) s) 1 = 0 ↔ on s = 0)) → ∃ μ', Wy_record_L6 fu a c i μ = some (0, μ') ∧ μ' 58 0 = (if fsm (hvF 1 on (μ 55)) n a i < μ 58 0 then fsm (hvF 1 on (μ 55)) n a i else μ 58 0) ∧ μ' 58 1 = (if μ 58 1 < fsm (hvF 1 on (μ 55)) n a i then fsm (hvF 1 on (μ 55)) n a i else μ 58 1) ∧ μ' 58 2 = (if fsm (hvF 0 on (μ 55)) n c i < μ 58 2 then fsm (hvF 0 on (μ 55)) n c i else μ 58 2) ∧ μ' 58 3 = (if μ 58 3 < fsm (hvF 0 on (μ 55)) n c i then fsm (hvF 0 on (μ 55)) n c i else μ 58 3) ∧ (∀ c x, c ≠ 58 → μ' c x = μ c x)
  | n, 0, _, _, _, _, _, _, h, _ => by omega
  | 0, fu + 1, a, c, i, μ, hi, h0, _, _ => by
    have ql : ∀ (e : Int) (k : Int → am_O), q_lt e k = k e := fun _ _ => rfl
    have e1 : ∀ (m : am_M) (j j' v : Int), j' ≠ j → m_st m 58 j v 58 j' = m 58 j' := fun m j j' v z => m_st_i z
    have e2 : ∀ (m : am_M) (j v : Int), m_st m 58 j v 58 j = v := fun m j v => by rw [m_st_d, if_pos ⟨rfl, rfl⟩]
    refine ⟨m_st (m_st (m_st (m_st μ 58 0 (if a < μ 58 0 then a else μ 58 0)) 58 1 (if μ 58 1 < a then a else μ 58 1)) 58 2 (if c < μ 58 2 then c else μ 58 2)) 58 3 (if μ 58 3 < c then c else μ 58 3), ?_, ?_, ?_, ?_, ?_, fun y x p => by rw [m_st_c p, m_st_c p, m_st_c p, m_st_c p]⟩
    · show Wy_record_L6_b (Wy_record_L6 fu) a c i μ = _
      unfold Wy_record_L6_b
      rw [if_neg (by omega), X_at_58, if_pos (by decide), q_bd_s, ql, X_put_58, if_pos (by decide), q_bd_s, X_at_58, if_pos (by decide), q_bd_s, ql, e1 _ _ _ _ (by decide), X_put_58, if_pos (by decide), q_bd_s, X_at_58, if_pos (by decide), q_bd_s, ql, e1 _ _ _ _ (by decide), e1 _ _ _ _ (by decide), X_put_58, if_pos (by decide), q_bd_s, X_at_58, if_pos (by decide), q_bd_s, ql, e1 _ _ _ _ (by decide), e1 _ _ _ _ (by decide), e1 _ _ _ _ (by decide), X_put_58, if_pos (by decide), q_bd_s]
    · rw [e1 _ _ _ _ (by decide), e1 _ _ _ _ (by decide), e1 _ _ _ _ (by decide), e2]; rfl
    · rw [e1 _ _ _ _ (by decide), e1 _ _ _ _ (by decide), e2]; rfl
    · rw [e1 _ _ _ _ (by decide), e2]; rfl
    · rw [e2]; rfl
  | n + 1, fu + 1, a, c, i, μ, hi, h0, hf, ho => by
    have ql : ∀ (e : Int) (k : Int → am_O), q_lt e k = k e := fun _ _ => rfl
    obtain ⟨μ', a1, a2, a3, a4, a5, a6⟩ := rec_L n fu (w32 (a + hvF 1 on (μ 55) i)) (w32 (c + hvF 0 on (μ 55) i)) (i + 1) μ (by omega) (by omega) (by omega) ho
    refine ⟨μ', ?_, a2, a3, a4, a5, a6⟩
    rw [← a1]
    show Wy_record_L6_b (Wy_record_L6 fu) a c i μ = _
    unfold Wy_record_L6_b Wy_record_B57 hvF mx0
    rw [if_pos (show i < 10 by omega), X_at_55, if_pos (by omega), q_bd_s, ql, w32_i (x := i + 1) (by omega) (by omega), if_neg (show ¬ (1 : Int) = 0 by decide), if_pos (show (0 : Int) = 0 from rfl)]
    by_cases d : on i = 0
    · rw [if_pos ((ho i h0 (by omega)).mpr d), if_pos d]
    · rw [if_neg (fun z => d ((ho i h0 (by omega)).mp z)), if_neg d, ql]
theorem record_s {on u : Int → Int} {μ : am_M} (ho : ∀ s, 0 ≤ s → s < 10 → (aAnd (aShr (μ 50 9) s) 1 = 0 ↔ on s = 0)) (hu : LK u μ) : ∃ μ', Wy_record μ = some (0, μ') ∧ FD on (fun x => x = u) μ μ' ∧ (∀ c x, c ≠ 58 → μ' c x = μ c x) := by
  have hFU := am_FU_ge
  obtain ⟨μ', a1, a2, a3, a4, a5, a6⟩ := rec_L (on := on) 10 am_FU 0 0 0 μ (by omega) (by omega) (by omega) ho
  have ev : ∀ tw, fsm (hvF tw on (μ 55)) 10 0 0 = vF tw on u := fun tw => by
    unfold vF
    refine fsm_c 10 0 0 (fun s p q => ?_)
    unfold hvF
    rw [hu s p (by omega)]
  rw [ev] at a2 a3 a4 a5
  have mn : ∀ (f : (Int → Int) → Int) (a b : Int), b = (if f u < a then f u else a) → MN f (fun x => x = u) a b := fun f a b e => by
    refine ⟨by rw [e]; split <;> omega, fun x hx => by rw [hx, e]; split <;> omega, ?_⟩
    by_cases c : f u < a
    · exact Or.inr ⟨u, rfl, by rw [e, if_pos c]⟩
    · exact Or.inl (by rw [e, if_neg c])
  have mx : ∀ (f : (Int → Int) → Int) (a b : Int), b = (if a < f u then f u else a) → MX f (fun x => x = u) a b := fun f a b e => by
    refine ⟨by rw [e]; split <;> omega, fun x hx => by rw [hx, e]; split <;> omega, ?_⟩
    by_cases c : a < f u
    · exact Or.inr ⟨u, rfl, by rw [e, if_pos c]⟩
    · exact Or.inl (by rw [e, if_neg c])
  exact ⟨μ', a1, ⟨mn _ _ _ a2, mx _ _ _ a3, mn _ _ _ a4, mx _ _ _ a5⟩, a6⟩
/-- what the class's walk leaves -/
def WCF (μ μ' : am_M) : Prop := ∀ c i, ¬ (55 ≤ c ∧ c ≤ 58) → ¬ (c = 50 ∧ i = 8) → μ' c i = μ c i
theorem WCF.tr {μ μ1 μ2 : am_M} (h : WCF μ μ1) (h2 : WCF μ1 μ2) : WCF μ μ2 := fun c i p q => by rw [h2 c i p q, h c i p q]
theorem WCF.tf {b : Int} {μ μ' : am_M} (hb : bOk b) (h : WCF μ μ') : ∀ c, b ≤ c → c ≤ b + 22 → μ' c = μ c := fun c p q => funext fun i => by
  have hb' : b = 100 ∨ b = 200 := hb
  exact h c i (by omega) (by omega)
/-- the last line of the trail is taken back -/
theorem pop_s {b F E l c : Int} {g : Nat} {R : Int → List Int} {v : Int → Int} {μ ν μ2 : am_M} (h : ND b F E R μ ν) (hl : F ≤ l ∧ l < E) (hw : WCF μ μ2) (hc : 0 ≤ c ∧ c < 60) (h8 : μ2 50 8 = c + 1) (h56 : μ2 56 c = l) (hs : ν 1002 l = 5 → μ2 57 l ≠ 0) (hv : LK (vad R ν v l) μ2) : ∃ μ3, Wy_turnBack_L0 (g + 1) (b + 1) μ2 = Wy_turnBack_L0 g (b + 1) μ3 ∧ LK v μ3 ∧ μ3 50 8 = c ∧ μ3 57 l = (if μ2 57 l = 2 then 0 else μ2 57 l) ∧ (∀ x, x ≠ l → μ3 57 x = μ2 57 x) ∧ (∀ y i, y ≠ 55 → y ≠ 57 → ¬ (y = 50 ∧ i = 8) → μ3 y i = μ2 y i) := by
  have hb := h.kd.bo
  have hb' : b = 100 ∨ b = 200 := hb
  have F0 := h.kd.F0
  have e2 : b + 1 + 1 = b + 2 := by omega
  generalize hA : m_st μ2 50 8 c = A
  have fA : ∀ y i, ¬ (y = 50 ∧ i = 8) → A y i = μ2 y i := fun y i p => by rw [← hA, m_st_d, if_neg p]
  have A8 : A 50 8 = c := by rw [← hA, m_st_d, if_pos ⟨rfl, rfl⟩]
  have kd : A (b + 2) l = ν 1002 l := by rw [fA _ _ (by omega), hw _ _ (by omega) (by omega)]; exact h.kd.kd l hl.1 hl.2
  generalize hB : (if μ2 57 l = 2 then m_st A 57 l 0 else A) = B
  have fB : ∀ y i, ¬ (y = 57 ∧ i = l) → B y i = A y i := fun y i p => by
    rw [← hB]
    split
    · rw [m_st_d, if_neg p]
    · rfl
  have B57 : B 57 l = (if μ2 57 l = 2 then 0 else μ2 57 l) := by
    rw [← hB]
    split
    · rw [m_st_d, if_pos ⟨rfl, rfl⟩]
    · exact fA _ _ (by omega)
  have wB : ∀ y, b ≤ y → y ≤ b + 22 → B y = μ y := fun y p q => funext fun i => by rw [fB y i (by omega), fA y i (by omega), hw y i (by omega) (by omega)]
  have lB : LK (vad R ν v l) B := fun s p q => by rw [fB _ _ (by omega), fA _ _ (by omega)]; exact hv s p q
  obtain ⟨μ3, a1, a2, a3⟩ := weigh_s (sg := -1) h hl (Or.inr rfl) wB lB
  refine ⟨μ3, ?_, a2.eq (fun s => by show v s = v s + dl R ν l s + -1 * dl R ν l s; omega), by rw [a3 _ _ (by decide), fB _ _ (by omega)]; exact A8, by rw [a3 _ _ (by decide)]; exact B57, fun x z => by rw [a3 _ _ (by decide), fB _ _ (by omega), fA _ _ (by omega)], fun y i p q w => by rw [a3 y i p, fB y i (by omega), fA y i w]⟩
  have e82 : Wy_turnBack_B82 (fun v1 μ => Wy_turnBack_L0 g v1 μ) (b + 1) l A = Wy_turnBack_L0 g (b + 1) μ3 := by
    unfold Wy_turnBack_B82 Wy_turnBack_B103
    rw [X_at_57, if_pos (by omega), q_bd_s, fA _ _ (by omega)]
    by_cases c2 : μ2 57 l = 2
    · rw [if_pos c2] at hB
      rw [if_pos c2, X_put_57, if_pos (by omega), q_bd_s, hB, a1, q_bd_s]
    · rw [if_neg c2] at hB
      rw [if_neg c2, hB, a1, q_bd_s]
  have e1 : c + 1 - 1 = c := by omega
  show Wy_turnBack_L0_b (Wy_turnBack_L0 g) (b + 1) μ2 = _
  unfold Wy_turnBack_L0_b
  rw [if_neg (by omega), h8, w32_i (x := c + 1 - 1) (by omega) (by omega), e1, q_pf_d, hA, A8, X_at_56, if_pos (by omega), q_bd_s, fA 56 c (by omega), h56, q_gd_s (bO2 hb), e2, bat2 hb, if_pos (by omega), q_bd_s, kd]
  by_cases c5 : ν 1002 l = 5
  · rw [if_pos c5, X_at_57, if_pos (by omega), q_bd_s, if_neg (by rw [fA _ _ (by omega)]; exact hs c5)]
    exact e82
  · rw [if_neg c5]
    exact e82
/-- a line is put on the trail -/
theorem push_s {b F E l c : Int} {fu : Nat} {k : Int} {R : Int → List Int} {v : Int → Int} {μ ν μ1 : am_M} (h : ND b F E R μ ν) (hl : F ≤ l ∧ l < E) (hw : WCF μ μ1) (hc : 0 ≤ c ∧ c < 60) (h8 : μ1 50 8 = c) (hv : LK v μ1) (hk : 0 ≤ k ∧ k < 100000000) : ∃ μ2, Wy_walkAll_L18 (fu + 1) (b + 1) l k μ1 = (if ν 1002 l = 8 then (q_bd (Wy_record μ2) fun _ μ12 => q_bd (Wy_turnBack (b + 1) μ12) fun a13 μ14 => Wy_walkAll_B121 (Wy_walkAll_L18 fu) (b + 1) a13 k μ14) else (if ν 1002 l = 6 then (q_bd (X_at (b + 7) l μ2) fun a9 μ10 => Wy_walkAll_B119 (Wy_walkAll_L18 fu) (b + 1) k (w32 (a9 + 1)) μ10) else Wy_walkAll_B119 (Wy_walkAll_L18 fu) (b + 1) k (w32 (l + 1)) μ2)) ∧ LK (vad R ν v l) μ2 ∧ μ2 50 8 = c + 1 ∧ μ2 56 c = l ∧ (∀ i, i ≠ c → μ2 56 i = μ1 56 i) ∧ (∀ y i, y ≠ 55 → y ≠ 56 → ¬ (y = 50 ∧ i = 8) → μ2 y i = μ1 y i) := by
  have hb := h.kd.bo
  have hb' : b = 100 ∨ b = 200 := hb
  have F0 := h.kd.F0
  have e2 : b + 1 + 1 = b + 2 := by omega
  have e7 : b + 1 + 6 = b + 7 := by omega
  obtain ⟨μ3, a1, a2, a3⟩ := weigh_s (sg := 1) h hl (Or.inl rfl) (hw.tf hb) hv
  have e8 : μ3 50 8 = c := by rw [a3 _ _ (by decide)]; exact h8
  generalize hA : m_st (m_st μ3 56 c l) 50 8 (c + 1) = A
  have fA : ∀ y i, ¬ (y = 56 ∧ i = c) → ¬ (y = 50 ∧ i = 8) → A y i = μ3 y i := fun y i p q => by rw [← hA, m_st_d, if_neg q, m_st_d, if_neg p]
  have kd : A (b + 2) l = ν 1002 l := by rw [fA _ _ (by omega) (by omega), a3 _ _ (by omega), hw _ _ (by omega) (by omega)]; exact h.kd.kd l hl.1 hl.2
  refine ⟨A, ?_, fun s p q => ?_, by rw [← hA, m_st_d, if_pos ⟨rfl, rfl⟩], by rw [← hA, m_st_c (by decide), m_st_d, if_pos ⟨rfl, rfl⟩], fun i p => by rw [fA _ _ (by omega) (by omega), a3 _ _ (by decide)], fun y i p q w => by rw [fA y i (by omega) w, a3 y i p]⟩
  · have e8' : m_st μ3 56 c l 50 8 = c := by rw [m_st_c (by decide)]; exact e8
    show Wy_walkAll_L18_b (Wy_walkAll_L18 fu) (b + 1) l k μ1 = _
    unfold Wy_walkAll_L18_b
    rw [if_pos hk.2, if_neg (show ¬ l = -1 by omega), a1, q_bd_s, e8, X_put_56, if_pos (by omega), q_bd_s, e8', w32_i (x := c + 1) (by omega) (by omega), q_pf_d, hA, q_gd_s (bO2 hb), e2, bat2 hb, if_pos (by omega), q_bd_s, kd, e7]
  · rw [fA _ _ (by omega) (by omega), a2 s p q]
    show w32 (v s + 1 * dl R ν l s) = w32 (v s + dl R ν l s)
    congr 1
    omega
