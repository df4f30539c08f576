/-! The promise of needs: the class's walk over all ways. -/
def EXW (b E l c k : Int) (n fu : Nat) (R : Int → List Int) (st on v : Int → Int) (ν μ1 : am_M) (y : am_O) : Prop := ∃ μ2, ∃ g fu2 : Nat, ∃ k2 : Int, y = (q_bd (Wy_turnBack_L0 g (b + 1) μ2) fun a13 μ14 => Wy_walkAll_B121 (Wy_walkAll_L18 fu2) (b + 1) a13 k2 μ14) ∧ (am_FU : Int) ≤ g + (E - l) ∧ fu ≤ fu2 + CS ν n l ∧ k ≤ k2 ∧ k2 + 1 ≤ k + (CS ν n l : Nat) ∧ LK v μ2 ∧ μ2 50 8 = c ∧ (∀ x, μ2 57 x = μ1 57 x) ∧ (∀ i, i < c → μ2 56 i = μ1 56 i) ∧ WCF μ1 μ2 ∧ FD on (VS R ν st n l v) μ1 μ2
theorem CS_pos {ν : am_M} {n : Nat} {l : Int} : 1 ≤ CS ν (n + 1) l := by
  show 1 ≤ (if ν 1002 l = 8 then 1 else if ν 1002 l = 5 then 1 + CS ν n (l + 1) + CS ν n (ν 1008 l + 1) else 1 + CS ν n (nx ν l))
  split
  · omega
  · split <;> omega
set_option maxHeartbeats 8000000 in
theorem exp_L {b F E : Int} {R : Int → List Int} {st on : Int → Int} {μ ν : am_M} (h : ND b F E R μ ν) (hj : NJ F E ν) (hst : ∀ x, F ≤ x → x < E → st x = 0 ∨ st x = 1) (hE5 : ∀ l, F ≤ l → l < E → (ν 1002 l = 5 → μ (b + 7) l = ν 1008 l) ∧ (ν 1002 l = 6 → μ (b + 7) l = ν 1009 l)) (ho : ∀ s, 0 ≤ s → s < 10 → (aAnd (aShr (μ 50 9) s) 1 = 0 ↔ on s = 0)) : ∀ (n fu : Nat) (l c k : Int) (v : Int → Int) (μ1 : am_M), F ≤ l → l < E → E - l ≤ n → 0 ≤ c → c + (E - l) ≤ 60 → 0 ≤ k → k + (CS ν n l : Nat) ≤ 100000000 → CS ν n l ≤ fu → WCF μ μ1 → μ1 50 8 = c → LK v μ1 → (∀ x, l ≤ x → x < E → μ1 57 x = st x) → EXW b E l c k n fu R st on v ν μ1 (Wy_walkAll_L18 fu (b + 1) l k μ1)
  | 0, _, _, _, _, _, _, _, h1, h2, _, _, _, _, _, _, _, _, _ => by omega
  | n + 1, 0, l, _, _, _, _, _, _, _, _, _, _, _, h1, _, _, _, _ => by
    have := CS_pos (ν := ν) (n := n) (l := l)
    omega
  | n + 1, fu + 1, l, c, k, v, μ1, hF, hE, hn, hc, h60, hk, hk2, hfu, hw, h8, hv, hs => by
    have hFU := am_FU_ge
    have hb := h.kd.bo
    have hb' : b = 100 ∨ b = 200 := hb
    have F0 := h.kd.F0
    have hp1 := CS_pos (ν := ν) (n := n) (l := l)
    have k8 := hj.j8 l hF hE
    obtain ⟨μ2, p1, p2, p3, p4, p5, p6⟩ := push_s (fu := fu) (k := k) h ⟨hF, hE⟩ hw (c := c) ⟨hc, by omega⟩ h8 hv ⟨hk, by omega⟩
    have hw2 : WCF μ μ2 := fun y i q1 q2 => by rw [p6 y i (by omega) (by omega) q2, hw y i q1 q2]
    have w12 : WCF μ1 μ2 := fun y i q1 q2 => p6 y i (by omega) (by omega) q2
    have s2 : ∀ x, μ2 57 x = μ1 57 x := fun x => p6 57 x (by decide) (by decide) (by omega)
    have f2 : ∀ i, μ2 58 i = μ1 58 i := fun i => p6 58 i (by decide) (by decide) (by omega)
    have sl := hs l (Int.le_refl _) hE
    have stl := hst l hF hE
    rw [p1]
    by_cases q8 : ν 1002 l = 8
    · have ec : CS ν (n + 1) l = 1 := if_pos q8
      rw [if_pos q8]
      obtain ⟨μ3, r1, r2, r3⟩ := record_s (on := on) (u := vad R ν v l) (μ := μ2) (fun s q r => by rw [hw2 _ _ (by omega) (by omega)]; exact ho s q r) p2
      have hw3 : WCF μ μ3 := fun y i q1 q2 => by rw [r3 y i (by omega), hw2 y i q1 q2]
      have eg : am_FU = am_FU - 1 + 1 := by omega
      obtain ⟨μ4, o1, o2, o3, o4, o5, o6⟩ := pop_s (g := am_FU - 1) (v := v) h ⟨hF, hE⟩ hw3 (c := c) ⟨hc, by omega⟩ (by rw [r3 _ _ (by decide)]; exact p3) (by rw [r3 _ _ (by decide)]; exact p4) (fun z => by omega) (fun s q r => by rw [r3 _ _ (by decide)]; exact p2 s q r)
      rw [← eg] at o1
      refine ⟨μ4, am_FU - 1, fu, k, ?_, by omega, by omega, by omega, by omega, o2, o3, fun x => ?_, fun i q => ?_, fun y i q1 q2 => ?_, ?_⟩
      · unfold Wy_turnBack
        rw [r1, q_bd_s, o1]
      · by_cases z : x = l
        · rw [z, o4, r3 _ _ (by decide), s2, sl, if_neg (by omega)]
        · rw [o5 x z, r3 _ _ (by decide), s2]
      · rw [o6 _ _ (by decide) (by decide) (by omega), r3 _ _ (by decide), p5 i (by omega)]
      · rw [o6 y i (by omega) (by omega) q2, r3 y i (by omega), p6 y i (by omega) (by omega) q2]
      · exact (r2.cg (fun i => (f2 i).symm) (fun i => o6 58 i (by decide) (by decide) (by omega))).eqv (fun u => VS_8 q8)
    rw [if_neg q8]
    have n1 := hj.nxt hF hE q8
    have hs2 : ∀ x, l + 1 ≤ x → x < E → μ2 57 x = st x := fun x q r => by rw [s2]; exact hs x (by omega) r
    by_cases q5 : ν 1002 l = 5
    · obtain ⟨x1, x2⟩ := hj.j5 l hF hE q5
      have ec : CS ν (n + 1) l = 1 + CS ν n (l + 1) + CS ν n (ν 1008 l + 1) := by
        show (if ν 1002 l = 8 then 1 else if ν 1002 l = 5 then 1 + CS ν n (l + 1) + CS ν n (ν 1008 l + 1) else 1 + CS ν n (nx ν l)) = _
        rw [if_neg q8, if_pos q5]
      rw [ec] at hk2 hfu
      rw [if_neg (by omega)]
      unfold Wy_walkAll_B119 Wy_walkAll_B121
      rw [w32_i (x := l + 1) (by omega) (by omega), w32_i (x := k + 1) (by omega) (by omega)]
      obtain ⟨μ3, g, fu3, k3, a1, a2, a3, a3', a4, a5, a6, a7, a8, a9, a10⟩ := exp_L (on := on) h hj hst hE5 ho n fu (l + 1) (c + 1) (k + 1) (vad R ν v l) μ2 (by omega) (by omega) (by omega) (by omega) (by omega) (by omega) (by omega) (by omega) hw2 p3 p2 hs2
      rw [a1]
      have hw3 : WCF μ μ3 := hw2.tr a9
      have t3 : μ3 56 c = l := by rw [a8 c (by omega)]; exact p4
      have l3 : μ3 57 l = st l := by rw [a7, s2, sl]
      match g, a2 with
      | 0, a2 => omega
      | g + 1, a2 =>
      by_cases z : st l = 0
      · -- the else is still to be walked
        have e1 : c + 1 - 1 = c := by omega
        have e2 : b + 1 + 1 = b + 2 := by omega
        have e7 : b + 1 + 6 = b + 7 := by omega
        generalize hA : m_st (m_st (m_st μ3 50 8 c) 57 l 2) 50 8 (c + 1) = A
        have fA : ∀ y i, ¬ (y = 57 ∧ i = l) → ¬ (y = 50 ∧ i = 8) → A y i = μ3 y i := fun y i q r => by rw [← hA, m_st_d, if_neg r, m_st_d, if_neg q, m_st_d, if_neg r]
        have A8 : A 50 8 = c + 1 := by rw [← hA, m_st_d, if_pos ⟨rfl, rfl⟩]
        have A57 : A 57 l = 2 := by rw [← hA, m_st_c (by decide), m_st_d, if_pos ⟨rfl, rfl⟩]
        have hwA : WCF μ A := fun y i q r => by rw [fA y i (by omega) r, hw3 y i q r]
        have tb : Wy_turnBack_L0 (g + 1) (b + 1) μ3 = some (ν 1008 l + 1, A) := by
          have f0 : ∀ y i, ¬ (y = 50 ∧ i = 8) → m_st μ3 50 8 c y i = μ3 y i := fun y i q => by rw [m_st_d, if_neg q]
          have f1 : m_st μ3 50 8 c 50 8 = c := by rw [m_st_d, if_pos ⟨rfl, rfl⟩]
          have f3 : m_st (m_st μ3 50 8 c) 57 l 2 50 8 = c := by rw [m_st_c (by decide)]; exact f1
          have fm : A (b + 7) l = ν 1008 l := by rw [fA _ _ (by omega) (by omega), hw3 _ _ (by omega) (by omega)]; exact (hE5 l hF hE).1 q5
          have kd : m_st μ3 50 8 c (b + 2) l = ν 1002 l := by rw [f0 _ _ (by omega), hw3 _ _ (by omega) (by omega)]; exact h.kd.kd l hF hE
          show Wy_turnBack_L0_b (Wy_turnBack_L0 g) (b + 1) μ3 = _
          unfold Wy_turnBack_L0_b
          rw [if_neg (by omega), a6, w32_i (x := c + 1 - 1) (by omega) (by omega), e1, q_pf_d, f1, X_at_56, if_pos (by omega), q_bd_s, f0 56 c (by omega), t3, q_gd_s (bO2 hb), e2, bat2 hb, if_pos (by omega), q_bd_s, kd, if_pos q5, X_at_57, if_pos (by omega), q_bd_s, f0 57 l (by omega), l3, if_pos z, X_put_57, if_pos (by omega), q_bd_s, f3, w32_i (x := c + 1) (by omega) (by omega), q_pf_d, hA, e7, bat7 hb, if_pos (by omega), q_bd_s, fm, w32_i (x := ν 1008 l + 1) (by omega) (by omega)]
        have eB : Wy_walkAll_B121 (Wy_walkAll_L18 fu3) (b + 1) (ν 1008 l + 1) k3 A = Wy_walkAll_L18 fu3 (b + 1) (ν 1008 l + 1) (k3 + 1) A := by
          unfold Wy_walkAll_B121
          rw [w32_i (x := k3 + 1) (by omega) (by omega)]
        rw [tb, q_bd_s, eB]
        obtain ⟨μ4, g4, fu4, k4, b1, b2, b3, b3', b4, b5, b6, b7, b8, b9, b10⟩ := exp_L (on := on) h hj hst hE5 ho n fu3 (ν 1008 l + 1) (c + 1) (k3 + 1) (vad R ν v l) A (by omega) (by omega) (by omega) (by omega) (by omega) (by omega) (by omega) (by omega) hwA A8 (fun s q r => by rw [fA _ _ (by omega) (by omega)]; exact a5 s q r) (fun x q r => by rw [fA _ _ (by omega) (by omega), a7]; exact hs2 x (by omega) r)
        rw [b1]
        match g4, b2 with
        | 0, b2 => omega
        | g4 + 1, b2 =>
        obtain ⟨μ5, o1, o2, o3, o4, o5, o6⟩ := pop_s (g := g4) (v := v) h ⟨hF, hE⟩ (hwA.tr b9) (c := c) ⟨hc, by omega⟩ b6 (by rw [b8 c (by omega), fA _ _ (by omega) (by omega)]; exact t3) (fun _ => by rw [b7, A57]; decide) b5
        rw [o1]
        refine ⟨μ5, g4, fu4, k4, rfl, by omega, by rw [ec]; omega, by omega, by rw [ec]; omega, o2, o3, fun x => ?_, fun i q => ?_, fun y i q1 q2 => ?_, ?_⟩
        · by_cases y : x = l
          · rw [y, o4, b7, A57, if_pos rfl, sl, z]
          · rw [o5 x y, b7, fA _ _ (by omega) (by omega), a7, s2]
        · rw [o6 _ _ (by decide) (by decide) (by omega), b8 i (by omega), fA _ _ (by omega) (by omega), a8 i (by omega), p5 i (by omega)]
        · rw [o6 y i (by omega) (by omega) q2, b9 y i q1 q2, fA y i (by omega) q2, a9 y i q1 q2, p6 y i (by omega) (by omega) q2]
        · have d1 := a10.cg (fun i => (f2 i).symm) (fun _ => rfl)
          have d2 := b10.cg (fun i => (fA 58 i (by omega) (by omega)).symm) (fun i => o6 58 i (by decide) (by decide) (by omega))
          refine FD.eqv (FD.tr d1 d2) (fun u => ?_)
          rw [VS_5 q5]
          exact ⟨fun w => w.imp (fun t => t) (fun t => t.2), fun w => w.imp (fun t => t) (fun t => ⟨z, t⟩)⟩
      · -- it need not be
        have z1 : st l = 1 := by omega
        obtain ⟨μ5, o1, o2, o3, o4, o5, o6⟩ := pop_s (g := g) (v := v) h ⟨hF, hE⟩ hw3 (c := c) ⟨hc, by omega⟩ a6 t3 (fun _ => by rw [l3]; exact z) a5
        rw [o1]
        refine ⟨μ5, g, fu3, k3, rfl, by omega, by rw [ec]; omega, by omega, by rw [ec]; omega, o2, o3, fun x => ?_, fun i q => ?_, fun y i q1 q2 => ?_, ?_⟩
        · by_cases y : x = l
          · rw [y, o4, l3, z1, if_neg (by decide), sl, z1]
          · rw [o5 x y, a7, s2]
        · rw [o6 _ _ (by decide) (by decide) (by omega), a8 i (by omega), p5 i (by omega)]
        · rw [o6 y i (by omega) (by omega) q2, a9 y i q1 q2, p6 y i (by omega) (by omega) q2]
        · refine FD.eqv (a10.cg (fun i => (f2 i).symm) (fun i => o6 58 i (by decide) (by decide) (by omega))) (fun u => ?_)
          rw [VS_5 q5]
          exact ⟨fun w => w.elim (fun t => t) (fun t => absurd t.1 z), Or.inl⟩
    · -- another line
      have ec : CS ν (n + 1) l = 1 + CS ν n (nx ν l) := by
        show (if ν 1002 l = 8 then 1 else if ν 1002 l = 5 then 1 + CS ν n (l + 1) + CS ν n (ν 1008 l + 1) else 1 + CS ν n (nx ν l)) = _
        rw [if_neg q8, if_neg q5]
      rw [ec] at hk2 hfu
      have enx : (if ν 1002 l = 6 then (q_bd (X_at (b + 7) l μ2) fun a9 μ10 => Wy_walkAll_B119 (Wy_walkAll_L18 fu) (b + 1) k (w32 (a9 + 1)) μ10) else Wy_walkAll_B119 (Wy_walkAll_L18 fu) (b + 1) k (w32 (l + 1)) μ2) = Wy_walkAll_L18 fu (b + 1) (nx ν l) (k + 1) μ2 := by
        unfold Wy_walkAll_B119 Wy_walkAll_B121 nx
        by_cases q6 : ν 1002 l = 6
        · have := hj.j6 l hF hE q6
          have fm : μ2 (b + 7) l = ν 1009 l := by rw [hw2 _ _ (by omega) (by omega)]; exact (hE5 l hF hE).2 q6
          rw [if_pos q6, if_pos q6, bat7 hb, if_pos (by omega), q_bd_s, fm, w32_i (x := ν 1009 l + 1) (by omega) (by omega), w32_i (x := k + 1) (by omega) (by omega)]
        · rw [if_neg q6, if_neg q6, w32_i (x := l + 1) (by omega) (by omega), w32_i (x := k + 1) (by omega) (by omega)]
      rw [enx]
      obtain ⟨μ3, g, fu3, k3, a1, a2, a3, a3', a4, a5, a6, a7, a8, a9, a10⟩ := exp_L (on := on) h hj hst hE5 ho n fu (nx ν l) (c + 1) (k + 1) (vad R ν v l) μ2 (by omega) n1.2 (by omega) (by omega) (by omega) (by omega) (by omega) (by omega) hw2 p3 p2 (fun x q r => hs2 x (by omega) r)
      rw [a1]
      match g, a2 with
      | 0, a2 => omega
      | g + 1, a2 =>
      have t3 : μ3 56 c = l := by rw [a8 c (by omega)]; exact p4
      have l3 : μ3 57 l = st l := by rw [a7, s2, sl]
      obtain ⟨μ5, o1, o2, o3, o4, o5, o6⟩ := pop_s (g := g) (v := v) h ⟨hF, hE⟩ (hw2.tr a9) (c := c) ⟨hc, by omega⟩ a6 t3 (fun y => absurd y q5) a5
      rw [o1]
      refine ⟨μ5, g, fu3, k3, rfl, by omega, by rw [ec]; omega, by omega, by rw [ec]; omega, o2, o3, fun x => ?_, fun i q => ?_, fun y i q1 q2 => ?_, ?_⟩
      · by_cases y : x = l
        · rw [y, o4, l3, if_neg (by omega), sl]
        · rw [o5 x y, a7, s2]
      · rw [o6 _ _ (by decide) (by decide) (by omega), a8 i (by omega), p5 i (by omega)]
      · rw [o6 y i (by omega) (by omega) q2, a9 y i q1 q2, p6 y i (by omega) (by omega) q2]
      · exact FD.eqv (a10.cg (fun i => (f2 i).symm) (fun i => o6 58 i (by decide) (by decide) (by omega))) (fun u => VS_o q8 q5)
