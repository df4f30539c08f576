/-! CHECK: what a line reads is taken away. -/
def clr (o s : Int) : Int := aAnd o (aXor (aShl 1 s) (-1))
theorem tb_clr {o s t : Int} (hs : 0 ≤ s ∧ s < 10) (h0 : 0 ≤ t) (h1 : t < 32) : tb (clr o s) t = (tb o t && !decide (t = s)) := by
  unfold clr
  rw [tb_and, tb_not h0 h1, tb_shl hs.1 (by omega) h0 h1]
theorem S10_clr {o s : Int} (h : S10 o) : S10 (clr o s) := S10_and h
def tv (o m s : Int) : Int := if tb o s = true then 1 else if tb m s = true then 2 else 0
theorem tv_clr {o m s t : Int} (hs : 0 ≤ s ∧ s < 10) (ht : 0 ≤ t ∧ t < 10) : tv (clr o s) (clr m s) t = if t = s then 0 else tv o m t := by
  unfold tv
  rw [tb_clr hs ht.1 (by omega), tb_clr hs ht.1 (by omega)]
  by_cases c : t = s
  · rw [if_pos c, decide_eq_true c]
    simp
  · rw [if_neg c, decide_eq_false c]
    simp
def bnF : List Int → Int → Int → Int × Int × Int
  | [], o, m => (o, m, -1)
  | s :: r, o, m => if tv o m s = 0 then (o, m, s) else bnF r (clr o s) (clr m s)
theorem bnF_c (s : Int) (r : List Int) (o m : Int) : bnF (s :: r) o m = if tv o m s = 0 then (o, m, s) else bnF r (clr o s) (clr m s) := rfl
theorem bnF_S : ∀ (r : List Int) (o m : Int), S10 o → S10 m → S10 (bnF r o m).1 ∧ S10 (bnF r o m).2.1
  | [], _, _, h1, h2 => ⟨h1, h2⟩
  | s :: r, o, m, h1, h2 => by
    rw [bnF_c]
    split
    · exact ⟨h1, h2⟩
    · exact bnF_S r _ _ (S10_clr h1) (S10_clr h2)
/-- a line without fault takes just what it reads -/
theorem bnF_tb : ∀ (r : List Int) (o m : Int), (∀ s ∈ r, 0 ≤ s ∧ s < 10) → (bnF r o m).2.2 = -1 → (∀ t, 0 ≤ t → t < 10 → (tb (bnF r o m).1 t = true ↔ tb o t = true ∧ t ∉ r) ∧ (tb (bnF r o m).2.1 t = true ↔ tb m t = true ∧ t ∉ r)) ∧ ∀ s ∈ r, tv o m s ≠ 0
  | [], o, m, _, _ => ⟨fun t _ _ => ⟨⟨fun h => ⟨h, List.not_mem_nil⟩, fun h => h.1⟩, ⟨fun h => ⟨h, List.not_mem_nil⟩, fun h => h.1⟩⟩, fun s hs => by cases hs⟩
  | s :: r, o, m, hr, h => by
    have hs := hr s List.mem_cons_self
    rw [bnF_c] at h ⊢
    by_cases c : tv o m s = 0
    · rw [if_pos c] at h
      have h : s = -1 := h
      omega
    · rw [if_neg c] at h ⊢
      obtain ⟨h1, h2⟩ := bnF_tb r _ _ (fun x hx => hr x (List.mem_cons_of_mem _ hx)) h
      refine ⟨fun t t0 t1 => ?_, fun x hx => ?_⟩
      · obtain ⟨a, b⟩ := h1 t t0 t1
        rw [a, b, tb_clr hs t0 (by omega), tb_clr hs t0 (by omega), List.mem_cons]
        simp only [Bool.and_eq_true, Bool.not_eq_true', decide_eq_false_iff_not, not_or]
        exact ⟨⟨fun z => ⟨z.1.1, z.1.2, z.2⟩, fun z => ⟨⟨z.1, z.2.1⟩, z.2.2⟩⟩, ⟨fun z => ⟨z.1.1, z.1.2, z.2⟩, fun z => ⟨⟨z.1, z.2.1⟩, z.2.2⟩⟩⟩
      · rcases List.mem_cons.mp hx with z | z
        · rw [z]; exact c
        · have hx' := hr x hx
          have y := h2 x z
          rw [tv_clr hs hx'] at y
          intro w
          apply y
          split
          · rfl
          · exact w
theorem bnF_f : ∀ (r : List Int) (o m : Int), (∀ s ∈ r, 0 ≤ s ∧ s < 10) → (bnF r o m).2.2 = -1 ∨ (0 ≤ (bnF r o m).2.2 ∧ (bnF r o m).2.2 < 10)
  | [], _, _, _ => Or.inl rfl
  | s :: r, o, m, h => by
    have hs := h s List.mem_cons_self
    rw [bnF_c]
    split
    · exact Or.inr hs
    · exact bnF_f r _ _ (fun x hx => h x (List.mem_cons_of_mem _ hx))
theorem tv_0 {o m s : Int} (hs : 0 ≤ s ∧ s < 10) : aAnd (aShr (aOr o m) s) 1 = 0 ↔ tv o m s = 0 := by
  rw [bit_0 hs.1 (by omega), tb_or]
  unfold tv
  cases tb o s <;> cases tb m s <;> simp
/-- once something is wrong the class goes on without effect -/
theorem takeAway_W {b : Int} (hb : bOk b) : ∀ (C : List Int) (f : Nat) (p : Int) (μ : am_M), fsg (μ (b + 11)) p C → (∀ c ∈ C, cOk c) → 0 ≤ p → p + C.length ≤ 1000 → C.length < f → μ 30 8 ≠ 0 → ∃ μ', Ck_takeAway_L19 f (b + 1) (p + C.length) p μ = some (0, μ') ∧ (∀ c i, ¬ (c = 30 ∧ (i = 5 ∨ i = 6)) → μ' c i = μ c i)
  | C, 0, _, _, _, _, _, _, h, _ => by omega
  | [], f + 1, p, μ, _, _, h0, h1, _, _ => by
    refine ⟨μ, ?_, fun _ _ _ => rfl⟩
    show Ck_takeAway_L19_b (Ck_takeAway_L19 f) (b + 1) (p + (([] : List Int).length : Nat)) p μ = _
    unfold Ck_takeAway_L19_b
    have e : (([] : List Int).length : Int) = 0 := rfl
    rw [if_neg (by omega)]
  | c :: C, f + 1, p, μ, hs, hc, h0, h1, hf, hw => by
    have hb' : b = 100 ∨ b = 200 := hb
    rw [List.length_cons] at h1 hf
    have hk := codeK_s hb hs.1 (hc c List.mem_cons_self) h0 (by omega)
    have ep : p + ((C.length + 1 : Nat) : Int) = p + 1 + C.length := by omega
    have bl : ∀ x y, Ck_blame x y μ = some (0, μ) := fun x y => by unfold Ck_blame; rw [if_neg hw]
    have e0 : Ck_takeAway_L19 (f + 1) (b + 1) (p + ((c :: C).length : Nat)) p μ = Ck_takeAway_L19_b (Ck_takeAway_L19 f) (b + 1) (p + 1 + C.length) p μ := by rw [← ep]; rfl
    rw [e0]
    unfold Ck_takeAway_L19_b Ck_takeAway_B67 Ck_takeAway_B97
    rw [if_pos (by omega), q_gd_s (bO2 hb), hk.1, q_bd_s, w32_i (x := p + 1) (by omega) (by omega)]
    have g : ∀ (x y : Int) c i, ¬ (c = 30 ∧ (i = 5 ∨ i = 6)) → m_st (m_st μ 30 5 x) 30 6 y c i = μ c i := fun x y c i z => by rw [m_st_d, if_neg (by omega), m_st_d, if_neg (by omega)]
    have ih := fun (μ1 : am_M) (hg : ∀ c i, ¬ (c = 30 ∧ (i = 5 ∨ i = 6)) → μ1 c i = μ c i) => takeAway_W hb C f (p + 1) μ1 (fsg_c C (p + 1) (fun i _ _ => hg _ _ (by omega)) hs.2) (fun x hx => hc x (List.mem_cons_of_mem _ hx)) (by omega) (by omega) (by omega) (by rw [hg _ _ (by omega)]; exact hw)
    by_cases q : c % 128 = 2
    · rw [if_pos q, hk.2, q_bd_s, bl, q_bd_s]
      have fin : ∃ μ', (q_pf 30 5 (aAnd (μ 30 5) (aXor (aShl 1 (c / 128)) (-1))) μ fun μ1 => q_pf 30 6 (aAnd (μ1 30 6) (aXor (aShl 1 (c / 128)) (-1))) μ1 fun μ2 => Ck_takeAway_L19 f (b + 1) (p + 1 + C.length) (p + 1) μ2) = some (0, μ') ∧ (∀ c i, ¬ (c = 30 ∧ (i = 5 ∨ i = 6)) → μ' c i = μ c i) := by
        rw [q_pf_d, q_pf_d]
        obtain ⟨μ', a1, a2⟩ := ih _ (g _ _)
        exact ⟨μ', a1, fun c i z => by rw [a2 c i z, g _ _ c i z]⟩
      split
      · exact fin
      · exact fin
    · rw [if_neg q]
      exact ih μ (fun _ _ _ => rfl)
theorem takeAway_L {b : Int} (hb : bOk b) : ∀ (C : List Int) (f : Nat) (p : Int) (μ : am_M), fsg (μ (b + 11)) p C → (∀ c ∈ C, cOk c) → (∀ s ∈ nm C, 0 ≤ s ∧ s < 10) → 0 ≤ p → p + C.length ≤ 1000 → C.length < f → μ 30 8 = 0 → ∃ μ', Ck_takeAway_L19 f (b + 1) (p + C.length) p μ = some (0, μ') ∧ (∀ c i, ¬ (c = 30 ∧ (i = 5 ∨ i = 6 ∨ i = 8 ∨ i = 9)) → μ' c i = μ c i) ∧ (((bnF (nm C) (μ 30 5) (μ 30 6)).2.2 = -1 ∧ μ' 30 5 = (bnF (nm C) (μ 30 5) (μ 30 6)).1 ∧ μ' 30 6 = (bnF (nm C) (μ 30 5) (μ 30 6)).2.1 ∧ μ' 30 8 = 0 ∧ μ' 30 9 = μ 30 9) ∨ ((bnF (nm C) (μ 30 5) (μ 30 6)).2.2 ≠ -1 ∧ μ' 30 8 = 1 ∧ μ' 30 9 = (bnF (nm C) (μ 30 5) (μ 30 6)).2.2))
  | C, 0, _, _, _, _, _, _, _, h, _ => by omega
  | [], f + 1, p, μ, _, _, _, h0, h1, _, hw => by
    refine ⟨μ, ?_, fun _ _ _ => rfl, Or.inl ⟨rfl, rfl, rfl, hw, rfl⟩⟩
    show Ck_takeAway_L19_b (Ck_takeAway_L19 f) (b + 1) (p + (([] : List Int).length : Nat)) p μ = _
    unfold Ck_takeAway_L19_b
    have e : (([] : List Int).length : Int) = 0 := rfl
    rw [if_neg (by omega)]
  | c :: C, f + 1, p, μ, hs, hc, hn, h0, h1, hf, hw => by
    have hb' : b = 100 ∨ b = 200 := hb
    rw [List.length_cons] at h1 hf
    have hk := codeK_s hb hs.1 (hc c List.mem_cons_self) h0 (by omega)
    have ep : p + ((C.length + 1 : Nat) : Int) = p + 1 + C.length := by omega
    have e0 : Ck_takeAway_L19 (f + 1) (b + 1) (p + ((c :: C).length : Nat)) p μ = Ck_takeAway_L19_b (Ck_takeAway_L19 f) (b + 1) (p + 1 + C.length) p μ := by rw [← ep]; rfl
    rw [nm_c] at hn ⊢
    rw [e0]
    unfold Ck_takeAway_L19_b Ck_takeAway_B67 Ck_takeAway_B97
    rw [if_pos (by omega), q_gd_s (bO2 hb), hk.1, q_bd_s, w32_i (x := p + 1) (by omega) (by omega)]
    by_cases q : c % 128 = 2
    · rw [if_pos q] at hn
      have hx := hn _ List.mem_cons_self
      rw [if_pos q, if_pos q, hk.2, q_bd_s]
      by_cases q2 : tv (μ 30 5) (μ 30 6) (c / 128) = 0
      · -- it is not there
        have bl : Ck_blame 1 (c / 128) μ = some (0, m_st (m_st μ 30 8 1) 30 9 (c / 128)) := by
          unfold Ck_blame
          rw [if_pos hw, q_pf_d, q_pf_d]
        rw [if_pos ((tv_0 hx).mpr q2), bl, q_bd_s, q_pf_d, q_pf_d, bnF_c, if_pos q2]
        have g : ∀ (x y : Int) c' i, ¬ (c' = 30 ∧ (i = 5 ∨ i = 6 ∨ i = 8 ∨ i = 9)) → m_st (m_st (m_st (m_st μ 30 8 1) 30 9 (c / 128)) 30 5 x) 30 6 y c' i = μ c' i := fun x y c i z => by rw [m_st_d, if_neg (by omega), m_st_d, if_neg (by omega), m_st_d, if_neg (by omega), m_st_d, if_neg (by omega)]
        obtain ⟨μ', a1, a2⟩ := takeAway_W hb C f (p + 1) (m_st (m_st (m_st (m_st μ 30 8 1) 30 9 (c / 128)) 30 5 (aAnd (m_st (m_st μ 30 8 1) 30 9 (c / 128) 30 5) (aXor (aShl 1 (c / 128)) (-1)))) 30 6 (aAnd (m_st (m_st (m_st μ 30 8 1) 30 9 (c / 128)) 30 5 (aAnd (m_st (m_st μ 30 8 1) 30 9 (c / 128) 30 5) (aXor (aShl 1 (c / 128)) (-1))) 30 6) (aXor (aShl 1 (c / 128)) (-1)))) (fsg_c C (p + 1) (fun i _ _ => g _ _ _ _ (by omega)) hs.2) (fun x hx => hc x (List.mem_cons_of_mem _ hx)) (by omega) (by omega) (by omega) (by rw [m_st_i (by decide), m_st_i (by decide), m_st_i (by decide), m_st_d, if_pos ⟨rfl, rfl⟩]; decide)
        refine ⟨μ', a1, fun c i z => by rw [a2 c i (by omega), g _ _ c i z], Or.inr ⟨by show c / 128 ≠ -1; omega, ?_, ?_⟩⟩
        · rw [a2 _ _ (by omega), m_st_i (by decide), m_st_i (by decide), m_st_i (by decide), m_st_d, if_pos ⟨rfl, rfl⟩]
        · rw [a2 _ _ (by omega), m_st_i (by decide), m_st_i (by decide), m_st_d, if_pos ⟨rfl, rfl⟩]
      · rw [if_neg (fun z => q2 ((tv_0 hx).mp z)), q_pf_d, q_pf_d, bnF_c, if_neg q2]
        have e6 : m_st μ 30 5 (aAnd (μ 30 5) (aXor (aShl 1 (c / 128)) (-1))) 30 6 = μ 30 6 := m_st_i (by decide)
        rw [e6]
        have g : ∀ (x y : Int) c' i, ¬ (c' = 30 ∧ (i = 5 ∨ i = 6)) → m_st (m_st μ 30 5 x) 30 6 y c' i = μ c' i := fun x y c i z => by rw [m_st_d, if_neg (by omega), m_st_d, if_neg (by omega)]
        have v5 : m_st (m_st μ 30 5 (aAnd (μ 30 5) (aXor (aShl 1 (c / 128)) (-1)))) 30 6 (aAnd (μ 30 6) (aXor (aShl 1 (c / 128)) (-1))) 30 5 = clr (μ 30 5) (c / 128) := by rw [m_st_i (by decide), m_st_d, if_pos ⟨rfl, rfl⟩]; rfl
        have v6 : m_st (m_st μ 30 5 (aAnd (μ 30 5) (aXor (aShl 1 (c / 128)) (-1)))) 30 6 (aAnd (μ 30 6) (aXor (aShl 1 (c / 128)) (-1))) 30 6 = clr (μ 30 6) (c / 128) := by rw [m_st_d, if_pos ⟨rfl, rfl⟩]; rfl
        have gg := g (aAnd (μ 30 5) (aXor (aShl 1 (c / 128)) (-1))) (aAnd (μ 30 6) (aXor (aShl 1 (c / 128)) (-1)))
        generalize m_st (m_st μ 30 5 (aAnd (μ 30 5) (aXor (aShl 1 (c / 128)) (-1)))) 30 6 (aAnd (μ 30 6) (aXor (aShl 1 (c / 128)) (-1))) = μ1 at *
        obtain ⟨μ', a1, a2, a3⟩ := takeAway_L hb C f (p + 1) μ1 (fsg_c C (p + 1) (fun i _ _ => gg _ _ (by omega)) hs.2) (fun x hx => hc x (List.mem_cons_of_mem _ hx)) (fun x hx => hn x (List.mem_cons_of_mem _ hx)) (by omega) (by omega) (by omega) (by rw [gg _ _ (by omega)]; exact hw)
        rw [v5, v6] at a3
        refine ⟨μ', a1, fun c i z => by rw [a2 c i z, gg c i (by omega)], ?_⟩
        rw [gg 30 9 (by omega)] at a3
        exact a3
    · rw [if_neg q] at hn
      rw [if_neg q, if_neg q]
      exact takeAway_L hb C f (p + 1) μ hs.2 (fun x hx => hc x (List.mem_cons_of_mem _ hx)) hn (by omega) (by omega) (by omega) hw
/-- the reference's table -/
def TTn (o m : Int) (ν : am_M) : Prop := ∀ s, 0 ≤ s → s < 10 → ν 1036 s = tv o m s
/-- it has found a fault -/
def FND (k w l s : Int) (ν : am_M) : Prop := ν 1039 k = w ∧ ν 1040 k = l ∧ ν 1041 k = s
theorem finds_s {k w l s : Int} {ν : am_M} (hk : 0 ≤ k ∧ k < 4) : ∃ ν', M_finds k w l s ν = some (0, ν') ∧ FND k w l s ν' ∧ (∀ c i, ¬ (1039 ≤ c ∧ c ≤ 1041 ∧ i = k) → ν' c i = ν c i) := by
  refine ⟨m_st (m_st (m_st ν 1039 k w) 1040 k l) 1041 k s, ?_, ⟨?_, ?_, ?_⟩, fun c i z => by rw [m_st_d, if_neg (by omega), m_st_d, if_neg (by omega), m_st_d, if_neg (by omega)]⟩
  · unfold M_finds
    rw [q_st_s hk.1 hk.2, q_st_s hk.1 hk.2, q_st_s hk.1 hk.2]
  · rw [m_st_c (by decide), m_st_c (by decide), m_st_d, if_pos ⟨rfl, rfl⟩]
  · rw [m_st_c (by decide), m_st_d, if_pos ⟨rfl, rfl⟩]
  · rw [m_st_d, if_pos ⟨rfl, rfl⟩]
theorem burns_s {k l s o m : Int} {ν : am_M} (hk : 0 ≤ k ∧ k < 4) (hs : 0 ≤ s ∧ s < 10) (h : TTn o m ν) : (tv o m s = 0 → ∃ ν', M_burns k l s ν = some (0, ν') ∧ FND k 1 l s ν' ∧ (∀ c i, ¬ (1039 ≤ c ∧ c ≤ 1041 ∧ i = k) → ν' c i = ν c i)) ∧ (tv o m s ≠ 0 → M_burns k l s ν = some (1, m_st ν 1036 s 0) ∧ TTn (clr o s) (clr m s) (m_st ν 1036 s 0)) := by
  unfold M_burns
  rw [q_ld_s hs.1 hs.2, h s hs.1 hs.2]
  refine ⟨fun z => ?_, fun z => ?_⟩
  · obtain ⟨ν', a1, a2, a3⟩ := finds_s (k := k) (w := 1) (l := l) (s := s) (ν := ν) hk
    rw [if_pos z, a1, q_bd_s, q_rb0]
    exact ⟨ν', rfl, a2, a3⟩
  · rw [if_neg z, q_st_s hs.1 hs.2]
    refine ⟨rfl, fun t t0 t1 => ?_⟩
    rw [tv_clr hs ⟨t0, t1⟩, m_st_d]
    by_cases y : t = s
    · rw [if_pos ⟨rfl, y⟩, if_pos y]
    · rw [if_neg (fun w => y w.2), if_neg y]
      exact h t t0 t1
/-- what taking away comes to with the reference -/
def BRN (k l : Int) (r : List Int) (o m : Int) (ν : am_M) (y : am_O) : Prop := ((bnF r o m).2.2 = -1 ∧ ∃ ν', y = some (1, ν') ∧ TTn (bnF r o m).1 (bnF r o m).2.1 ν' ∧ (∀ c i, c ≠ 1036 → ν' c i = ν c i)) ∨ ((bnF r o m).2.2 ≠ -1 ∧ ∃ ν', y = some (0, ν') ∧ FND k 1 l (bnF r o m).2.2 ν' ∧ (∀ c i, ¬ (c = 1036 ∨ (1039 ≤ c ∧ c ≤ 1041 ∧ i = k)) → ν' c i = ν c i))
theorem BRN.cons {k l s o m : Int} {r : List Int} {ν ν1 : am_M} {y : am_O} (hs : tv o m s ≠ 0) (h : BRN k l r (clr o s) (clr m s) ν1 y) (hf : ∀ c i, c ≠ 1036 → ν1 c i = ν c i) : BRN k l (s :: r) o m ν y := by
  unfold BRN at *
  rw [bnF_c, if_neg hs]
  rcases h with ⟨a, ν', b, c, d⟩ | ⟨a, ν', b, c, d⟩
  · exact Or.inl ⟨a, ν', b, c, fun c i z => by rw [d c i z, hf c i z]⟩
  · exact Or.inr ⟨a, ν', b, c, fun c i z => by rw [d c i z, hf c i (by omega)]⟩
theorem srcL_c {ν ν' : am_M} {l : Int} (h : ∀ i, ν' 1007 i = ν 1007 i) : ∀ (n : Nat) (i : Int), srcL ν' l n i = srcL ν l n i
  | 0, _ => rfl
  | n + 1, i => by
    have e : ∀ ν, srcL ν l (n + 1) i = if ν 1007 (4 * l + i) < 0 then srcL ν l n (i + 1) else ν 1007 (4 * l + i) :: srcL ν l n (i + 1) := fun _ => rfl
    rw [e, e, h, srcL_c h n (i + 1)]
theorem burns_S {k l : Int} (hk : 0 ≤ k ∧ k < 4) (hl : 0 ≤ l ∧ l < 60) : ∀ (n f : Nat) (i o m : Int) (ν : am_M), i + n = 4 → 0 ≤ i → n < f → (∀ s ∈ srcL ν l n i, 0 ≤ s ∧ s < 10) → TTn o m ν → BRN k l (srcL ν l n i) o m ν (M_burnsAll_L67 f k l i ν)
  | n, 0, _, _, _, _, _, _, h, _, _ => by omega
  | 0, f + 1, i, o, m, ν, h, h0, _, _, ht => by
    refine Or.inl ⟨rfl, ν, ?_, ht, fun _ _ _ => rfl⟩
    show M_burnsAll_L67_b (M_burnsAll_L67 f) k l i ν = _
    unfold M_burnsAll_L67_b
    rw [if_neg (by omega)]
  | n + 1, f + 1, i, o, m, ν, h, h0, hf, hr, ht => by
    have e : srcL ν l (n + 1) i = if ν 1007 (4 * l + i) < 0 then srcL ν l n (i + 1) else ν 1007 (4 * l + i) :: srcL ν l n (i + 1) := rfl
    rw [e] at hr ⊢
    have e0 : M_burnsAll_L67 (f + 1) k l i ν = M_burnsAll_L67_b (M_burnsAll_L67 f) k l i ν := rfl
    rw [e0]
    unfold M_burnsAll_L67_b M_burnsAll_B106
    rw [if_pos (show i < 4 by omega), w32_i (x := 4 * l) (by omega) (by omega), w32_i (x := 4 * l + i) (by omega) (by omega), q_ld_s (by omega) (by omega), w32_i (x := i + 1) (by omega) (by omega)]
    by_cases c : ν 1007 (4 * l + i) < 0
    · rw [if_pos c] at hr
      rw [if_pos c, if_pos c]
      exact burns_S hk hl n f (i + 1) o m ν (by omega) (by omega) (by omega) hr ht
    · rw [if_neg c] at hr
      rw [if_neg c, if_neg c, q_ld_s (by omega) (by omega)]
      have hs := hr _ List.mem_cons_self
      obtain ⟨b1, b2⟩ := burns_s (l := l) hk hs ht
      by_cases q : tv o m (ν 1007 (4 * l + i)) = 0
      · obtain ⟨ν', a1, a2, a3⟩ := b1 q
        rw [a1, q_bd_s, if_pos rfl]
        refine Or.inr ?_
        rw [bnF_c, if_pos q]
        exact ⟨by show ν 1007 (4 * l + i) ≠ -1; omega, ν', rfl, a2, fun c i z => a3 c i (by omega)⟩
      · obtain ⟨a1, a2⟩ := b2 q
        rw [a1, q_bd_s, if_neg (by decide)]
        have hc : ∀ j, m_st ν 1036 (ν 1007 (4 * l + i)) 0 1007 j = ν 1007 j := fun j => m_st_c (by decide)
        have ih := burns_S hk hl n f (i + 1) (clr o (ν 1007 (4 * l + i))) (clr m (ν 1007 (4 * l + i))) (m_st ν 1036 (ν 1007 (4 * l + i)) 0) (by omega) (by omega) (by omega) (by rw [srcL_c hc]; exact fun x hx => hr x (List.mem_cons_of_mem _ hx)) a2
        rw [srcL_c hc] at ih
        exact BRN.cons q ih (fun c i z => m_st_c z)
theorem burns_E {k l : Int} (hk : 0 ≤ k ∧ k < 4) (hl : 0 ≤ l ∧ l < 60) : ∀ (L : List Int) (f : Nat) (p o m : Int) (ν : am_M), hE (ν 1002 l) → fsg (ν 1012) p L → (∀ c ∈ L, 1 ≤ c ∧ c ≤ 10099) → ν 1011 l = p + L.length → 0 ≤ p → ν 1011 l ≤ 1000 → L.length < f → (∀ i, 0 ≤ i → i < 4 → ν 1007 (4 * l + i) = -1) → TTn o m ν → BRN k l (nmL L) o m ν (M_burnsAll_L7 f k l p ν)
  | L, 0, _, _, _, _, _, _, _, _, _, _, h, _, _ => by omega
  | [], f + 1, p, o, m, ν, he, _, _, ht, h0, h1, _, h7, hT => by
    have e : (([] : List Int).length : Int) = 0 := rfl
    have e0 : M_burnsAll_L7 (f + 1) k l p ν = M_burnsAll_L7_b (M_burnsAll_L7 f) k l p ν := rfl
    rw [e0]
    unfold M_burnsAll_L7_b M_burnsAll_B65
    rw [q_ld_s (by omega) (by omega), if_neg (by omega)]
    have e1 : srcL ν l 4 0 = [] := srcL_no 4 0 (fun j a b => h7 j a (by omega))
    have := burns_S hk hl 4 am_FU 0 o m ν (by omega) (by omega) (by have := am_FU_ge; omega) (by rw [e1]; exact fun s hs => by cases hs) hT
    rw [e1] at this
    exact this
  | c :: L, f + 1, p, o, m, ν, he, hg, hc, ht, h0, h1, hf, h7, hT => by
    rw [List.length_cons] at ht hf
    obtain ⟨e, e1, e2⟩ := hasE_s (ν := ν) hl
    have e3 : e = 1 := by
      rcases e2 with z | z
      · exact z.1
      · exact absurd he z.2
    subst e3
    have hcc : ν 1012 p = c := hg.1
    have hcr := hc c List.mem_cons_self
    have e0 : M_burnsAll_L7 (f + 1) k l p ν = M_burnsAll_L7_b (M_burnsAll_L7 f) k l p ν := rfl
    rw [e0, nmL_c]
    unfold M_burnsAll_L7_b M_burnsAll_B59
    rw [q_ld_s (by omega) (by omega), if_pos (show p < ν 1011 l by omega), e1, q_bd_s, if_neg (show ¬ (1 : Int) = 0 by decide), q_ld_s (by omega) (by omega), hcc, within_s, q_bd_s, w32_i (x := p + 1) (by omega) (by omega)]
    by_cases q : 1 ≤ c ∧ c ≤ 10
    · rw [if_pos q, if_pos q, if_neg (show ¬ (1 : Int) = 0 by decide), q_ld_s (by omega) (by omega), hcc, w32_i (x := c - 1) (by omega) (by omega)]
      have hs : 0 ≤ c - 1 ∧ c - 1 < 10 := by omega
      obtain ⟨b1, b2⟩ := burns_s (l := l) hk hs hT
      by_cases q2 : tv o m (c - 1) = 0
      · obtain ⟨ν', a1, a2, a3⟩ := b1 q2
        rw [a1, q_bd_s, if_pos rfl]
        refine Or.inr ?_
        rw [bnF_c, if_pos q2]
        exact ⟨by show c - 1 ≠ -1; omega, ν', rfl, a2, fun c i z => a3 c i (by omega)⟩
      · obtain ⟨a1, a2⟩ := b2 q2
        rw [a1, q_bd_s, if_neg (by decide)]
        have g : ∀ c' i, c' ≠ 1036 → m_st ν 1036 (c - 1) 0 c' i = ν c' i := fun c' i z => m_st_c z
        refine BRN.cons q2 (burns_E hk hl L f (p + 1) _ _ _ (by rw [g _ _ (by decide)]; exact he) (fsg_c L (p + 1) (fun i _ _ => g _ _ (by decide)) hg.2) (fun x hx => hc x (List.mem_cons_of_mem _ hx)) (by rw [g _ _ (by decide)]; omega) (by omega) (by rw [g _ _ (by decide)]; exact h1) (by omega) (fun i x y => by rw [g _ _ (by decide)]; exact h7 i x y) a2) g
    · rw [if_neg q, if_neg q, if_pos rfl]
      exact burns_E hk hl L f (p + 1) o m ν he hg.2 (fun x hx => hc x (List.mem_cons_of_mem _ hx)) (by omega) (by omega) h1 (by omega) h7 hT
theorem burnsAll_s {b k l o m : Int} {r : List Int} {μ ν : am_M} (hk : 0 ≤ k ∧ k < 4) (hl : 0 ≤ l ∧ l < 60) (h : RL b l r μ ν) (hT : TTn o m ν) : BRN k l r o m ν (M_burnsAll k l ν) := by
  have hF := am_FU_ge
  unfold M_burnsAll
  rw [q_ld_s (by omega) (by omega)]
  rcases h.re with ⟨he, ⟨L, y1, y2, y3, y4, y5, y6⟩, y7⟩ | ⟨he, y1, y2, y3, y4, y5, y6⟩
  · rw [← y3]
    exact burns_E hk hl L am_FU _ o m ν he y1 y6 y2 y4 y5 (by omega) y7 hT
  · have hF1 : ∃ f, am_FU = f + 1 := ⟨am_FU - 1, by omega⟩
    have e0 : M_burnsAll_L7 am_FU k l (ν 1010 l) ν = M_burnsAll_L67 am_FU k l 0 ν := by
      obtain ⟨f, hF1⟩ := hF1
      have e9 : M_burnsAll_L7 am_FU k l (ν 1010 l) ν = M_burnsAll_L7_b (M_burnsAll_L7 f) k l (ν 1010 l) ν := by rw [hF1]; rfl
      rw [e9]
      unfold M_burnsAll_L7_b M_burnsAll_B65
      rw [q_ld_s (by omega) (by omega)]
      by_cases c : ν 1010 l < ν 1011 l
      · obtain ⟨e, e1, e2⟩ := hasE_s (ν := ν) hl
        have e3 : e = 0 := by
          rcases e2 with z | z
          · exact absurd z.2 he
          · exact z.1
        subst e3
        rw [if_pos c, e1, q_bd_s, if_pos rfl]
      · rw [if_neg c]
    rw [e0]
    have e1 := srcL_r (ν := ν) (l := l) r h.sl y4 y5 y6
    have := burns_S hk hl 4 am_FU 0 o m ν (by omega) (by omega) (by omega) (by rw [e1]; exact h.sl) hT
    rw [e1] at this
    exact this
