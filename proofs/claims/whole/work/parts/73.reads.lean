/-! Readings counted, on both sides. -/
theorem aDiv_s {c : Int} (h : cOk c) : aDiv c 128 = c / 128 := by
  obtain ⟨h0, h1⟩ := h
  unfold aDiv
  rw [Int32.toInt_div, r32_to (by unfold r32; omega), r32_to (by unfold r32; omega), Int.tdiv_eq_ediv_of_nonneg h0]
  simp only [Int.bmod_def]
  omega
theorem aRem_s {c : Int} (h : cOk c) : aRem c 128 = c % 128 := by
  have hd := aDiv_s h
  obtain ⟨h0, h1⟩ := h
  unfold aDiv at hd
  unfold aRem
  rw [Int32.toInt_sub, Int32.toInt_mul, hd, r32_to (by unfold r32; omega), r32_to (by unfold r32; omega)]
  simp only [Int.bmod_def]
  omega
theorem codeK_s {b p c : Int} {μ : am_M} (hb : bOk b) (h : μ (b + 11) p = c) (hc : cOk c) (h0 : 0 ≤ p) (h1 : p < 1000) : Ln_codeKind (b + 1) p μ = some (c % 128, μ) ∧ Ln_codeNumber (b + 1) p μ = some (c / 128, μ) := by
  have e : b + 1 + 10 = b + 11 := by omega
  unfold Ln_codeKind Ln_codeNumber
  rw [q_gd_s (bO2 hb), q_gd_s (bO2 hb), e, bat11 hb, if_pos ⟨h0, h1⟩, q_bd_s, q_bd_s, h, aRem_s hc, aDiv_s hc]
  exact ⟨rfl, rfl⟩
theorem nm_c (c : Int) (C : List Int) : nm (c :: C) = if c % 128 = 2 then c / 128 :: nm C else nm C := rfl
theorem nmL_c (c : Int) (L : List Int) : nmL (c :: L) = if 1 ≤ c ∧ c ≤ 10 then (c - 1) :: nmL L else nmL L := rfl
theorem nm_len : ∀ C : List Int, (nm C).length ≤ C.length
  | [] => Nat.le_refl _
  | c :: C => by
    rw [nm_c]
    have := nm_len C
    split
    · rw [List.length_cons, List.length_cons]; omega
    · rw [List.length_cons]; omega
theorem nmL_len : ∀ C : List Int, (nmL C).length ≤ C.length
  | [] => Nat.le_refl _
  | c :: C => by
    rw [nmL_c]
    have := nmL_len C
    split
    · rw [List.length_cons, List.length_cons]; omega
    · rw [List.length_cons]; omega
theorem timesRead_L {b : Int} {μ : am_M} (hb : bOk b) : ∀ (C : List Int) (f : Nat) (acc p : Int), fsg (μ (b + 11)) p C → (∀ c ∈ C, cOk c) → 0 ≤ p → p + C.length ≤ 1000 → C.length < f → 0 ≤ acc → acc + C.length ≤ 2000 → Ln_timesRead_L21 f (b + 1) acc (p + C.length) p μ = some (acc + (nm C).length, μ)
  | C, 0, _, _, _, _, _, _, h, _, _ => by omega
  | [], f + 1, acc, p, _, _, h0, h1, _, a0, a1 => by
    show Ln_timesRead_L21_b (Ln_timesRead_L21 f) (b + 1) acc (p + (([] : List Int).length : Nat)) p μ = _
    unfold Ln_timesRead_L21_b
    have e : (([] : List Int).length : Int) = 0 := rfl
    rw [if_neg (by omega)]
    show some (acc, μ) = some (acc + 0, μ)
    rw [Int.add_zero]
  | c :: C, f + 1, acc, p, hs, hc, h0, h1, hf, a0, a1 => by
    rw [List.length_cons] at h1 hf a1
    have hk := codeK_s hb hs.1 (hc c List.mem_cons_self) h0 (by omega)
    show Ln_timesRead_L21_b (Ln_timesRead_L21 f) (b + 1) acc (p + ((c :: C).length : Nat)) p μ = _
    unfold Ln_timesRead_L21_b
    rw [List.length_cons, if_pos (by omega), q_gd_s (bO2 hb), hk.1, q_bd_s, nm_c]
    have ep : p + ((C.length + 1 : Nat) : Int) = p + 1 + C.length := by omega
    unfold Ln_timesRead_B43
    rw [w32_i (x := p + 1) (by omega) (by omega), w32_i (x := acc + 1) (by omega) (by omega), w32_i (x := acc + 0) (by omega) (by omega), ep]
    have ih := fun a b0 b1 => timesRead_L hb C f a (p + 1) hs.2 (fun x hx => hc x (List.mem_cons_of_mem _ hx)) (by omega) (by omega) (by omega) b0 b1
    by_cases q : c % 128 = 2
    · rw [if_pos q, if_pos q, ih (acc + 1) (by omega) (by omega), List.length_cons]
      congr 2
      omega
    · rw [if_neg q, if_neg q, ih (acc + 0) (by omega) (by omega), Int.add_zero]
def cnt (s : Int) : List Int → Int
  | [] => 0
  | x :: r => (if x = s then 1 else 0) + cnt s r
theorem cnt_r (s : Int) : ∀ r : List Int, 0 ≤ cnt s r ∧ cnt s r ≤ r.length
  | [] => ⟨Int.le_refl _, Int.le_refl _⟩
  | x :: r => by
    have := cnt_r s r
    have e : cnt s (x :: r) = (if x = s then 1 else 0) + cnt s r := rfl
    rw [e, List.length_cons]
    split <;> omega
theorem cnt_0 (s : Int) : ∀ r : List Int, 0 < cnt s r ↔ s ∈ r
  | [] => ⟨fun h => by have : cnt s [] = 0 := rfl; omega, fun h => by cases h⟩
  | x :: r => by
    have e : cnt s (x :: r) = (if x = s then 1 else 0) + cnt s r := rfl
    have ih := cnt_0 s r
    have hr := cnt_r s r
    rw [e, List.mem_cons]
    by_cases q : x = s
    · rw [if_pos q]; exact ⟨fun _ => Or.inl q.symm, fun _ => by omega⟩
    · rw [if_neg q]
      constructor
      · exact fun z => Or.inr (ih.mp (by omega))
      · rintro (z | z)
        · exact absurd z.symm q
        · have := ih.mpr z; omega
theorem timesRead1_L {b s : Int} {μ : am_M} (hb : bOk b) : ∀ (C : List Int) (f : Nat) (acc p : Int), fsg (μ (b + 11)) p C → (∀ c ∈ C, cOk c) → 0 ≤ p → p + C.length ≤ 1000 → C.length < f → 0 ≤ acc → acc + C.length ≤ 2000 → Ln_timesRead__L22 f (b + 1) s acc (p + C.length) p μ = some (acc + cnt s (nm C), μ)
  | C, 0, _, _, _, _, _, _, h, _, _ => by omega
  | [], f + 1, acc, p, _, _, h0, h1, _, a0, a1 => by
    show Ln_timesRead__L22_b (Ln_timesRead__L22 f) (b + 1) s acc (p + (([] : List Int).length : Nat)) p μ = _
    unfold Ln_timesRead__L22_b
    have e : (([] : List Int).length : Int) = 0 := rfl
    rw [if_neg (by omega)]
    show some (acc, μ) = some (acc + 0, μ)
    rw [Int.add_zero]
  | c :: C, f + 1, acc, p, hs, hc, h0, h1, hf, a0, a1 => by
    rw [List.length_cons] at h1 hf a1
    have hk := codeK_s hb hs.1 (hc c List.mem_cons_self) h0 (by omega)
    have hi : Ln_isSlip (b + 1) p s μ = some (if c % 128 = 2 ∧ c / 128 = s then 1 else 0, μ) := by
      unfold Ln_isSlip
      rw [q_gd_s (bO2 hb), hk.1, q_bd_s]
      by_cases q : c % 128 = 2
      · rw [if_pos q, hk.2, q_bd_s]
        by_cases q2 : c / 128 = s
        · rw [if_pos q2, if_pos ⟨q, q2⟩]
        · rw [if_neg q2, if_neg (fun z => q2 z.2)]
      · rw [if_neg q, if_neg (fun z => q z.1)]
    show Ln_timesRead__L22_b (Ln_timesRead__L22 f) (b + 1) s acc (p + ((c :: C).length : Nat)) p μ = _
    unfold Ln_timesRead__L22_b
    rw [List.length_cons, if_pos (by omega), q_gd_s (bO2 hb), hi, q_bd_s, nm_c]
    have ep : p + ((C.length + 1 : Nat) : Int) = p + 1 + C.length := by omega
    unfold Ln_timesRead__B45
    rw [w32_i (x := p + 1) (by omega) (by omega), w32_i (x := acc + 1) (by omega) (by omega), w32_i (x := acc + 0) (by omega) (by omega), ep]
    have ih := fun a b0 b1 => timesRead1_L (s := s) hb C f a (p + 1) hs.2 (fun x hx => hc x (List.mem_cons_of_mem _ hx)) (by omega) (by omega) (by omega) b0 b1
    by_cases q : c % 128 = 2
    · have e : cnt s (c / 128 :: nm C) = (if c / 128 = s then 1 else 0) + cnt s (nm C) := rfl
      by_cases q2 : c / 128 = s
      · have h1 : (if c % 128 = 2 ∧ c / 128 = s then (1 : Int) else 0) = 1 := if_pos ⟨q, q2⟩
        rw [h1, if_neg (show ¬ (1 : Int) = 0 by decide), if_pos q, e, if_pos q2, ih (acc + 1) (by omega) (by omega)]
        congr 2
        omega
      · have h1 : (if c % 128 = 2 ∧ c / 128 = s then (1 : Int) else 0) = 0 := if_neg (fun z => q2 z.2)
        rw [h1, if_pos (show (0 : Int) = 0 from rfl), if_pos q, e, if_neg q2, ih (acc + 0) (by omega) (by omega)]
        congr 2
        omega
    · have h1 : (if c % 128 = 2 ∧ c / 128 = s then (1 : Int) else 0) = 0 := if_neg (fun z => q z.1)
      rw [h1, if_pos (show (0 : Int) = 0 from rfl), if_neg q, ih (acc + 0) (by omega) (by omega), Int.add_zero]
/-- the slips read, as a set -/
def rsF : Int → List Int → Int
  | a, [] => a
  | a, s :: r => rsF (aOr a (aShl 1 s)) r
theorem rsF_S : ∀ (r : List Int) (a : Int), S10 a → (∀ s ∈ r, 0 ≤ s ∧ s < 10) → S10 (rsF a r)
  | [], _, h, _ => h
  | s :: r, a, h, hr => rsF_S r _ (S10_or h (S10_shl (hr s List.mem_cons_self).1 (hr s List.mem_cons_self).2)) (fun x hx => hr x (List.mem_cons_of_mem _ hx))
theorem rsF_tb : ∀ (r : List Int) (a t : Int), (∀ s ∈ r, 0 ≤ s ∧ s < 10) → 0 ≤ t → t < 32 → (tb (rsF a r) t = true ↔ tb a t = true ∨ t ∈ r)
  | [], a, t, _, _, _ => ⟨fun h => Or.inl h, fun h => h.elim (fun z => z) (fun z => by cases z)⟩
  | s :: r, a, t, hr, h0, h1 => by
    have hs := hr s List.mem_cons_self
    have e : rsF a (s :: r) = rsF (aOr a (aShl 1 s)) r := rfl
    rw [e, rsF_tb r _ t (fun x hx => hr x (List.mem_cons_of_mem _ hx)) h0 h1, tb_or, tb_shl hs.1 (by omega) h0 h1, List.mem_cons]
    simp only [Bool.or_eq_true, decide_eq_true_eq]
    constructor
    · rintro ((z | z) | z)
      · exact Or.inl z
      · exact Or.inr (Or.inl z)
      · exact Or.inr (Or.inr z)
    · rintro (z | z | z)
      · exact Or.inl (Or.inl z)
      · exact Or.inl (Or.inr z)
      · exact Or.inr z
theorem aOr_0 {a : Int} (h : S10 a) : aOr a 0 = a := S10_ext (S10_or h S10_0) h (fun s _ _ => by rw [tb_or, tb_0, Bool.or_false])
theorem readSet_L {b : Int} {μ : am_M} (hb : bOk b) : ∀ (C : List Int) (f : Nat) (acc p : Int), fsg (μ (b + 11)) p C → (∀ c ∈ C, cOk c) → (∀ s ∈ nm C, 0 ≤ s ∧ s < 10) → S10 acc → 0 ≤ p → p + C.length ≤ 1000 → C.length < f → Ln_readSet_L21 f (b + 1) acc (p + C.length) p μ = some (rsF acc (nm C), μ)
  | C, 0, _, _, _, _, _, _, _, _, h => by omega
  | [], f + 1, acc, p, _, _, _, _, h0, h1, _ => by
    show Ln_readSet_L21_b (Ln_readSet_L21 f) (b + 1) acc (p + (([] : List Int).length : Nat)) p μ = _
    unfold Ln_readSet_L21_b
    have e : (([] : List Int).length : Int) = 0 := rfl
    rw [if_neg (by omega)]
    rfl
  | c :: C, f + 1, acc, p, hs, hc, hn, ha, h0, h1, hf => by
    rw [List.length_cons] at h1 hf
    have hk := codeK_s hb hs.1 (hc c List.mem_cons_self) h0 (by omega)
    show Ln_readSet_L21_b (Ln_readSet_L21 f) (b + 1) acc (p + ((c :: C).length : Nat)) p μ = _
    unfold Ln_readSet_L21_b
    rw [nm_c] at hn
    rw [List.length_cons, if_pos (by omega), q_gd_s (bO2 hb), hk.1, q_bd_s, nm_c]
    have ep : p + ((C.length + 1 : Nat) : Int) = p + 1 + C.length := by omega
    unfold Ln_readSet_B50
    rw [w32_i (x := p + 1) (by omega) (by omega), ep]
    have ih := fun a hn b0 => readSet_L hb C f a (p + 1) hs.2 (fun x hx => hc x (List.mem_cons_of_mem _ hx)) hn b0 (by omega) (by omega) (by omega)
    by_cases q : c % 128 = 2
    · rw [if_pos q] at hn
      have hx := hn _ List.mem_cons_self
      rw [if_pos q, if_pos q, hk.2, q_bd_s, ih _ (fun s h => hn s (List.mem_cons_of_mem _ h)) (S10_or ha (S10_shl hx.1 hx.2))]
      rfl
    · rw [if_neg q] at hn
      rw [if_neg q, if_neg q, aOr_0 ha, ih _ hn ha]
/-- the class's counts of a line -/
theorem timesRead_s {b l : Int} {r : List Int} {μ ν : am_M} (hb : bOk b) (h : RL b l r μ ν) (hl : 0 ≤ l ∧ l < 60) : Ln_timesRead (b + 1) l μ = some ((r.length : Int), μ) ∧ Ln_readSet (b + 1) l μ = some (rsF 0 r, μ) ∧ ∀ s, Ln_timesRead_ (b + 1) l s μ = some (cnt s r, μ) := by
  obtain ⟨C, c1, c2, c3, c4, c5, c6⟩ := h.cl
  have hsl := h.sl
  have e9 : b + 1 + 9 = b + 10 := by omega
  have e8 : b + 1 + 8 = b + 9 := by omega
  have hF := am_FU_ge
  refine ⟨?_, ?_, fun s => ?_⟩
  · unfold Ln_timesRead
    rw [q_gd_s (bO2 hb), e9, e8, bat10 hb, if_pos hl, q_bd_s, bat9 hb, if_pos hl, q_bd_s, c2, timesRead_L hb C am_FU 0 _ c1 c4 c5 (by omega) (by omega) (by omega) (by omega), c3, Int.zero_add]
  · unfold Ln_readSet
    rw [q_gd_s (bO2 hb), e9, e8, bat10 hb, if_pos hl, q_bd_s, bat9 hb, if_pos hl, q_bd_s, c2, readSet_L hb C am_FU 0 _ c1 c4 (by rw [c3]; exact hsl) S10_0 c5 (by omega) (by omega), c3]
  · unfold Ln_timesRead_
    rw [q_gd_s (bO2 hb), e9, e8, bat10 hb, if_pos hl, q_bd_s, bat9 hb, if_pos hl, q_bd_s, c2, timesRead1_L hb C am_FU 0 _ c1 c4 c5 (by omega) (by omega) (by omega) (by omega), c3, Int.zero_add]
