/-! The class reckons an E: what evR says. -/
def skm (g : Int → Int) : List Int → Prop
  | [] => True
  | a :: r => g (r.length : Nat) = a ∧ skm g r
theorem skm_c {g g' : Int → Int} : ∀ (st : List Int), (∀ x, 0 ≤ x → x < (st.length : Nat) → g' x = g x) → skm g st → skm g' st
  | [], _, _ => trivial
  | a :: r, h, hs => by
    rw [List.length_cons] at h
    exact ⟨by rw [h _ (by omega) (by omega)]; exact hs.1, skm_c r (fun x p q => h x p (by omega)) hs.2⟩
theorem joined_s {k l r : Int} {μ : am_M} : Rk_joined k l r μ = some (jn k l r, μ) := by
  unfold Rk_joined jn
  by_cases c1 : k = 43
  · subst c1; rfl
  rw [if_neg c1]
  by_cases c2 : k = 45
  · subst c2; rfl
  rw [if_neg c2]
  by_cases c3 : k = 60
  · subst c3
    by_cases z : l < r <;> simp [z]
  rw [if_neg c3]
  by_cases c4 : k = 61
  · subst c4
    by_cases z : l = r <;> simp [z]
  rw [if_neg c4]
  by_cases c5 : k = 115
  · subst c5
    by_cases z : l = 0 <;> by_cases y : r = 0 <;> simp [z, y]
  rw [if_neg c5]
  by_cases c6 : k = 116
  · subst c6
    by_cases z : l = 0 <;> by_cases y : r = 0 <;> simp [z, y]
  rw [if_neg c6, if_neg c5, if_neg c6, if_neg c3, if_neg c4, if_neg c1, if_neg c2]
theorem hR_no {ro : List Int} (h : hR ro = none) : ∀ A : List Int, hR (A ++ ro) = none
  | [] => h
  | a :: A => by
    show (match hR (A ++ ro) with
      | none => none
      | some n => _) = none
    rw [hR_no h A]
theorem reckon_L {b x o : Int} {env : Int → Int} (hb : bOk b) (hA : am_lenA x = 160) (hK : am_lenK 0 x = 160) (hx : x ≠ 41) (ho : 0 ≤ o ∧ o + 10 ≤ 160) : ∀ (C : List Int) (f : Nat) (ro st : List Int) (p : Int) (μ : am_M), fsg (μ (b + 11)) p C → (∀ w ∈ C, cOk w) → (∀ s ∈ nm C, 0 ≤ s ∧ s < 10) → 0 ≤ p → p + C.length ≤ 1000 → C.length < f → evR env ro = st → hR ro = some ((st.length : Nat) : Int) → st.length ≤ 64 → skm (μ 41) st → hR (C.reverse ++ ro) = some 1 → (∀ s ∈ nm C, μ x (o + s) = env s) → ∃ v μ', Rk_reckon_L23 f (b + 1) x o (st.length : Nat) (p + (C.length : Nat)) p μ = some (v, μ') ∧ evR env (C.reverse ++ ro) = [v] ∧ (∀ c i, c ≠ 41 → μ' c i = μ c i)
  | C, 0, _, _, _, _, _, _, _, _, _, h, _, _, _, _, _, _ => by omega
  | [], f + 1, ro, st, p, μ, _, _, _, h0, h1, _, he, hh, h64, hs, hr, hv => by
    have hr : hR ro = some 1 := hr
    rw [hh] at hr
    injection hr with hr
    have hl : st.length = 1 := by omega
    match st, hl, hs, he with
    | [a], _, hs, he =>
      refine ⟨a, μ, ?_, he, fun _ _ _ => rfl⟩
      show Rk_reckon_L23_b (Rk_reckon_L23 f) (b + 1) x o _ (p + (([] : List Int).length : Nat)) p μ = _
      unfold Rk_reckon_L23_b
      have e : (([] : List Int).length : Int) = 0 := rfl
      have h41 : μ 41 0 = a := hs.1
      rw [if_neg (by omega), X_at_41, if_pos (by omega), q_bd_s, h41]
  | w :: C, f + 1, ro, st, p, μ, hf, hc, hn, h0, h1, hF, he, hh, h64, hs, hr, hv => by
    have hb' : b = 100 ∨ b = 200 := hb
    rw [List.length_cons] at h1 hF
    rw [List.reverse_cons, List.append_assoc] at hr ⊢
    have hr : hR (C.reverse ++ (w :: ro)) = some 1 := hr
    show ∃ v μ', _ ∧ evR env (C.reverse ++ (w :: ro)) = [v] ∧ _
    have hk := codeK_s hb hf.1 (hc w List.mem_cons_self) h0 (by omega)
    have hcw := hc w List.mem_cons_self
    have ep : p + ((C.length + 1 : Nat) : Int) = p + 1 + C.length := by omega
    have e0 : Rk_reckon_L23 (f + 1) (b + 1) x o (st.length : Nat) (p + ((w :: C).length : Nat)) p μ = Rk_reckon_L23_b (Rk_reckon_L23 f) (b + 1) x o (st.length : Nat) (p + 1 + C.length) p μ := by rw [← ep]; rfl
    rw [e0]
    have hw0 : hR (w :: ro) ≠ none := fun z => by rw [hR_no z] at hr; cases hr
    have hw : hR (w :: ro) = if w % 128 = 2 ∨ w % 128 = 3 then (if ((st.length : Nat) : Int) + 1 ≤ 64 then some (((st.length : Nat) : Int) + 1) else none) else if w % 128 = 114 then (if 1 ≤ ((st.length : Nat) : Int) then some ((st.length : Nat) : Int) else none) else (if 2 ≤ ((st.length : Nat) : Int) then some (((st.length : Nat) : Int) - 1) else none) := by
      show (match hR ro with
        | none => none
        | some n => _) = _
      rw [hh]
    have hev : evR env (w :: ro) = stp env w st := by rw [← he]; rfl
    have hn' : ∀ s ∈ nm C, 0 ≤ s ∧ s < 10 := fun s y => hn s (by rw [nm_c]; split; exact List.mem_cons_of_mem _ y; exact y)
    have hv' : ∀ s ∈ nm C, μ x (o + s) = env s := fun s y => hv s (by rw [nm_c]; split; exact List.mem_cons_of_mem _ y; exact y)
    have hst0 := stp
    -- going on
    have go : ∀ (st1 : List Int) (j v : Int), evR env (w :: ro) = st1 → hR (w :: ro) = some ((st1.length : Nat) : Int) → st1.length ≤ 64 → 0 ≤ j → j < 64 → skm ((m_st μ 41 j v) 41) st1 → ∃ v' μ', Rk_reckon_L23 f (b + 1) x o (st1.length : Nat) (p + 1 + C.length) (p + 1) (m_st μ 41 j v) = some (v', μ') ∧ evR env (C.reverse ++ (w :: ro)) = [v'] ∧ (∀ c i, c ≠ 41 → μ' c i = μ c i) := by
      intro st1 j v k1 k2 k3 j0 j1 k4
      have g : ∀ c i, c ≠ 41 → m_st μ 41 j v c i = μ c i := fun c i z => m_st_c z
      obtain ⟨v', μ', a1, a2, a3⟩ := reckon_L hb hA hK hx ho C f (w :: ro) st1 (p + 1) (m_st μ 41 j v) (fsg_c C (p + 1) (fun i _ _ => g _ _ (by omega)) hf.2) (fun y hy => hc y (List.mem_cons_of_mem _ hy)) hn' (by omega) (by omega) (by omega) k1 k2 k3 k4 hr (fun s y => by rw [g _ _ hx]; exact hv' s y)
      exact ⟨v', μ', a1, a2, fun c i z => by rw [a3 c i z, g c i z]⟩
    unfold Rk_reckon_L23_b Rk_reckon_B133 Rk_reckon_B178
    rw [if_pos (show p < p + 1 + C.length by omega), q_gd_s (bO2 hb), hk.1, q_bd_s, w32_i (x := p + 1) (by omega) (by omega)]
    have put : ∀ (st1 : List Int) (j v hh1 : Int), evR env (w :: ro) = st1 → hR (w :: ro) = some ((st1.length : Nat) : Int) → st1.length ≤ 64 → 0 ≤ j → j < 64 → skm ((m_st μ 41 j v) 41) st1 → hh1 = (st1.length : Nat) → ∃ v' μ', (q_bd (X_put 41 j v μ) fun _ μ2 => Rk_reckon_L23 f (b + 1) x o hh1 (p + 1 + C.length) (p + 1) μ2) = some (v', μ') ∧ evR env (C.reverse ++ (w :: ro)) = [v'] ∧ (∀ c i, c ≠ 41 → μ' c i = μ c i) := by
      intro st1 j v hh1 k1 k2 k3 j0 j1 k4 k5
      rw [X_put_41, if_pos ⟨j0, j1⟩, q_bd_s, k5]
      exact go st1 j v k1 k2 k3 j0 j1 k4
    have keep : ∀ (st1 : List Int) (j v : Int), (st1.length : Nat) ≤ j → skm (μ 41) st1 → skm ((m_st μ 41 j v) 41) st1 := fun st1 j v y z => skm_c st1 (fun i i0 i1 => m_st_i (by omega)) z
    by_cases q3 : w % 128 = 3
    · have hle : ((st.length : Nat) : Int) + 1 ≤ 64 := Decidable.byContradiction (fun z => hw0 (by rw [hw, if_pos (Or.inr q3), if_neg z]))
      rw [if_pos q3, hk.2, q_bd_s, w32_i (x := ((st.length : Nat) : Int) + 1) (by omega) (by omega)]
      exact put (w / 128 :: st) _ _ _ (by rw [hev]; unfold stp; rw [if_pos q3]) (by rw [hw, if_pos (Or.inr q3), if_pos hle, List.length_cons]; rfl) (by rw [List.length_cons]; omega) (by omega) (by omega) ⟨by rw [m_st_d, if_pos ⟨rfl, rfl⟩], keep st _ _ (Int.le_refl _) hs⟩ (by rw [List.length_cons]; rfl)
    rw [if_neg q3]
    by_cases q2 : w % 128 = 2
    · have hle : ((st.length : Nat) : Int) + 1 ≤ 64 := Decidable.byContradiction (fun z => hw0 (by rw [hw, if_pos (Or.inl q2), if_neg z]))
      have hs9 := hn (w / 128) (by rw [nm_c, if_pos q2]; exact List.mem_cons_self)
      rw [if_pos q2, hk.2, q_bd_s, w32_i (x := o + w / 128) (by omega) (by omega), X_at_s (n := 160) _ _ hA hK (by decide), if_pos (by omega), q_bd_s, hv _ (by rw [nm_c, if_pos q2]; exact List.mem_cons_self), w32_i (x := ((st.length : Nat) : Int) + 1) (by omega) (by omega)]
      exact put (env (w / 128) :: st) _ _ _ (by rw [hev]; unfold stp; rw [if_neg q3, if_pos q2]) (by rw [hw, if_pos (Or.inl q2), if_pos hle, List.length_cons]; rfl) (by rw [List.length_cons]; omega) (by omega) (by omega) ⟨by rw [m_st_d, if_pos ⟨rfl, rfl⟩], keep st _ _ (Int.le_refl _) hs⟩ (by rw [List.length_cons]; rfl)
    rw [if_neg q2]
    have q23 : ¬ (w % 128 = 2 ∨ w % 128 = 3) := fun z => z.elim q2 q3
    by_cases q4 : w % 128 = 114
    · have hle : 1 ≤ ((st.length : Nat) : Int) := Decidable.byContradiction (fun z => hw0 (by rw [hw, if_neg q23, if_pos q4, if_neg z]))
      match st, hle, hs, h64, hev, hw with
      | a :: r, _, hs, h64, hev, hw =>
        rw [List.length_cons] at h64
        have el : (((a :: r).length : Nat) : Int) = (r.length : Nat) + 1 := by rw [List.length_cons]; rfl
        rw [el] at hw ⊢
        have e1 : ((r.length : Nat) : Int) + 1 - 1 = (r.length : Nat) := by omega
        have fin : ∀ v, v = (if a = 0 then (1 : Int) else 0) → _ := fun v hv1 => put (v :: r) ((r.length : Nat) : Int) v (((r.length : Nat) : Int) + 1) (by rw [hev, hv1]; unfold stp; rw [if_neg q3, if_neg q2, if_pos q4]) (by rw [hw, if_neg q23, if_pos q4, if_pos (by omega), List.length_cons]; rfl) (by rw [List.length_cons]; omega) (by omega) (by omega) ⟨by rw [m_st_d, if_pos ⟨rfl, rfl⟩], keep r _ _ (Int.le_refl _) hs.2⟩ (by rw [List.length_cons]; rfl)
        rw [if_pos q4, w32_i (x := ((r.length : Nat) : Int) + 1 - 1) (by omega) (by omega), e1, X_at_41, if_pos (by omega), q_bd_s, hs.1]
        by_cases z : a = 0
        · rw [if_pos z]; exact fin 1 (by rw [if_pos z])
        · rw [if_neg z]; exact fin 0 (by rw [if_neg z])
    rw [if_neg q4]
    have hle : 2 ≤ ((st.length : Nat) : Int) := Decidable.byContradiction (fun z => hw0 (by rw [hw, if_neg q23, if_neg q4, if_neg z]))
    obtain ⟨b2, a, r, rfl⟩ : ∃ b2 a r, st = b2 :: a :: r := by
      cases st with
      | nil => exact absurd hle (by decide)
      | cons b2 t =>
        cases t with
        | nil => exact absurd hle (by show ¬ (2 : Int) ≤ 1; decide)
        | cons a r => exact ⟨b2, a, r, rfl⟩
    rw [List.length_cons, List.length_cons] at h64
    have el : (((b2 :: a :: r).length : Nat) : Int) = (r.length : Nat) + 2 := by rw [List.length_cons, List.length_cons]; rfl
    rw [el] at hw ⊢
    have e1 : ((r.length : Nat) : Int) + 2 + -1 = (r.length : Nat) + 1 := by omega
    have e2 : ((r.length : Nat) : Int) + 1 - 1 = (r.length : Nat) := by omega
    have h41 : μ 41 (((r.length : Nat) : Int) + 1) = b2 := by have := hs.1; rw [List.length_cons] at this; exact this
    rw [w32_i (x := ((r.length : Nat) : Int) + 2 + -1) (by omega) (by omega), e1, w32_i (x := ((r.length : Nat) : Int) + 1 - 1) (by omega) (by omega), e2, X_at_41, if_pos (by omega), q_bd_s, X_at_41, if_pos (by omega), q_bd_s, h41, hs.2.1, joined_s, q_bd_s]
    exact put (jn (w % 128) a b2 :: r) _ _ _ (by rw [hev]; unfold stp; rw [if_neg q3, if_neg q2, if_neg q4]) (by rw [hw, if_neg q23, if_neg q4, if_pos (by omega), List.length_cons]; congr 1) (by rw [List.length_cons]; omega) (by omega) (by omega) ⟨by rw [m_st_d, if_pos ⟨rfl, rfl⟩], keep r _ _ (Int.le_refl _) hs.2.2⟩ (by rw [List.length_cons]; rfl)
/-- a line's E, reckoned by the class -/
theorem reckon_C {b l x o : Int} {env : Int → Int} {C : List Int} {μ : am_M} (hb : bOk b) (hl : 0 ≤ l ∧ l < 60) (hA : am_lenA x = 160) (hK : am_lenK 0 x = 160) (hx : x ≠ 41) (ho : 0 ≤ o ∧ o + 10 ≤ 160) (c1 : fsg (μ (b + 11)) (μ (b + 9) l) C) (c2 : μ (b + 10) l = μ (b + 9) l + C.length) (hc : ∀ w ∈ C, cOk w) (hn : ∀ s ∈ nm C, 0 ≤ s ∧ s < 10) (h0 : 0 ≤ μ (b + 9) l) (h1 : μ (b + 10) l ≤ 1000) (hr : hR C.reverse = some 1) (hv : ∀ s ∈ nm C, μ x (o + s) = env s) : ∃ v μ', Rk_reckon (b + 1) l x o μ = some (v, μ') ∧ evR env C.reverse = [v] ∧ (∀ c i, c ≠ 41 → μ' c i = μ c i) := by
  have hF := am_FU_ge
  have e9 : b + 1 + 9 = b + 10 := by omega
  have e8 : b + 1 + 8 = b + 9 := by omega
  obtain ⟨v, μ', a1, a2, a3⟩ := reckon_L hb hA hK hx ho C am_FU [] [] (μ (b + 9) l) μ c1 hc hn h0 (by omega) (by omega) rfl rfl (by decide) trivial (by rw [List.append_nil]; exact hr) hv
  rw [List.append_nil] at a2
  refine ⟨v, μ', ?_, a2, a3⟩
  unfold Rk_reckon
  rw [q_gd_s (bO2 hb), e9, e8, bat10 hb, if_pos hl, q_bd_s, bat9 hb, if_pos hl, q_bd_s, c2]
  exact a1
