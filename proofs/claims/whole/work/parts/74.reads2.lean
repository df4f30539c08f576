/-! Readings counted by the reference. -/
theorem hasE_s {l : Int} {ν : am_M} (hl : 0 ≤ l ∧ l < 60) : ∃ e, M_hasE l ν = some (e, ν) ∧ ((e = 1 ∧ hE (ν 1002 l)) ∨ (e = 0 ∧ ¬ hE (ν 1002 l))) := by
  unfold M_hasE hE
  rw [q_ld_s (by omega) (by omega), q_ld_s (by omega) (by omega), q_ld_s (by omega) (by omega)]
  by_cases c1 : ν 1002 l = 1
  · rw [if_pos c1]; exact ⟨1, rfl, Or.inl ⟨rfl, Or.inl c1⟩⟩
  rw [if_neg c1]
  by_cases c5 : ν 1002 l = 5
  · rw [if_pos c5]; exact ⟨1, rfl, Or.inl ⟨rfl, Or.inr (Or.inl c5)⟩⟩
  rw [if_neg c5]
  by_cases c8 : ν 1002 l = 8
  · rw [if_pos c8]; exact ⟨1, rfl, Or.inl ⟨rfl, Or.inr (Or.inr c8)⟩⟩
  rw [if_neg c8]
  exact ⟨0, rfl, Or.inr ⟨rfl, by omega⟩⟩
theorem within_s {v : Int} {ν : am_M} : M_within v 1 10 ν = some (if 1 ≤ v ∧ v ≤ 10 then 1 else 0, ν) := by
  unfold M_within
  by_cases c1 : v < 1
  · rw [if_pos c1, if_neg (by omega)]
  · rw [if_neg c1]
    by_cases c2 : v ≤ 10
    · rw [if_pos c2, if_pos (by omega)]
    · rw [if_neg c2, if_neg (by omega)]
/-- the sources from place i on -/
def srcL (ν : am_M) (l : Int) : Nat → Int → List Int
  | 0, _ => []
  | n + 1, i => if ν 1007 (4 * l + i) < 0 then srcL ν l n (i + 1) else ν 1007 (4 * l + i) :: srcL ν l n (i + 1)
theorem srcL_no {ν : am_M} {l : Int} : ∀ (n : Nat) (i : Int), (∀ j, i ≤ j → j < i + n → ν 1007 (4 * l + j) = -1) → srcL ν l n i = []
  | 0, _, _ => rfl
  | n + 1, i, h => by
    have e : srcL ν l (n + 1) i = if ν 1007 (4 * l + i) < 0 then srcL ν l n (i + 1) else ν 1007 (4 * l + i) :: srcL ν l n (i + 1) := rfl
    rw [e, if_pos (by rw [h i (Int.le_refl _) (by omega)]; decide), srcL_no n (i + 1) (fun j a b => h j (by omega) (by omega))]
theorem srcL_r {ν : am_M} {l : Int} (r : List Int) (hr : ∀ s ∈ r, 0 ≤ s ∧ s < 10) (h4 : r.length ≤ 4) (hg : ∀ i : Nat, i < r.length → r[i]? = some (ν 1007 (4 * l + i))) (hn : ∀ i, (r.length : Int) ≤ i → i < 4 → ν 1007 (4 * l + i) = -1) : srcL ν l 4 0 = r := by
  have go : ∀ (n k : Nat), k + n = 4 → srcL ν l n (k : Int) = r.drop k := by
    intro n
    induction n with
    | zero =>
      intro k hk
      rw [List.drop_eq_nil_of_le (by omega)]
      rfl
    | succ n ih =>
      intro k hk
      have e : srcL ν l (n + 1) (k : Int) = if ν 1007 (4 * l + (k : Int)) < 0 then srcL ν l n ((k : Int) + 1) else ν 1007 (4 * l + (k : Int)) :: srcL ν l n ((k : Int) + 1) := rfl
      have ek : (k : Int) + 1 = ((k + 1 : Nat) : Int) := by omega
      rw [e, ek, ih (k + 1) (by omega)]
      by_cases c : k < r.length
      · have g := hg k c
        have hm : ν 1007 (4 * l + (k : Int)) ∈ r := List.mem_of_getElem? g
        have := hr _ hm
        rw [if_neg (by omega), List.drop_eq_getElem_cons c]
        congr 1
        rw [List.getElem?_eq_getElem c] at g
        exact (Option.some.inj g).symm
      · rw [if_pos (by rw [hn k (by omega) (by omega)]; decide), List.drop_eq_nil_of_le (by omega), List.drop_eq_nil_of_le (by omega)]
  exact go 4 0 (by omega)
theorem readsMany_S {l : Int} {ν : am_M} (hl : 0 ≤ l ∧ l < 60) : ∀ (n f : Nat) (acc i : Int), i + n = 4 → 0 ≤ i → n < f → 0 ≤ acc → acc + n ≤ 2000 → M_readsMany_L58 f l acc i ν = some (acc + (srcL ν l n i).length, ν)
  | n, 0, _, _, _, _, h, _, _ => by omega
  | 0, f + 1, acc, i, h, h0, _, a0, a1 => by
    show M_readsMany_L58_b (M_readsMany_L58 f) l acc i ν = _
    unfold M_readsMany_L58_b
    rw [if_neg (by omega)]
    show some (acc, ν) = some (acc + 0, ν)
    rw [Int.add_zero]
  | n + 1, f + 1, acc, i, h, h0, hf, a0, a1 => by
    show M_readsMany_L58_b (M_readsMany_L58 f) l acc i ν = _
    unfold M_readsMany_L58_b M_readsMany_B82
    have e : srcL ν l (n + 1) i = if ν 1007 (4 * l + i) < 0 then srcL ν l n (i + 1) else ν 1007 (4 * l + i) :: srcL ν l n (i + 1) := rfl
    rw [if_pos (by omega), w32_i (x := 4 * l) (by omega) (by omega), w32_i (x := 4 * l + i) (by omega) (by omega), q_ld_s (by omega) (by omega), e, w32_i (x := i + 1) (by omega) (by omega), w32_i (x := acc + 1) (by omega) (by omega), w32_i (x := acc + 0) (by omega) (by omega)]
    by_cases c : ν 1007 (4 * l + i) < 0
    · rw [if_pos c, if_pos c, readsMany_S hl n f (acc + 0) (i + 1) (by omega) (by omega) (by omega) (by omega) (by omega), Int.add_zero]
    · rw [if_neg c, if_neg c, readsMany_S hl n f (acc + 1) (i + 1) (by omega) (by omega) (by omega) (by omega) (by omega), List.length_cons]
      congr 2
      omega
theorem readsMany_E {l : Int} {ν : am_M} (hl : 0 ≤ l ∧ l < 60) (he : hE (ν 1002 l)) : ∀ (L : List Int) (f : Nat) (acc p : Int), fsg (ν 1012) p L → ν 1011 l = p + L.length → 0 ≤ p → ν 1011 l ≤ 1000 → L.length < f → 0 ≤ acc → acc + L.length ≤ 1900 → M_readsMany_L9 f l acc p ν = M_readsMany_B56 l (acc + (nmL L).length) ν
  | L, 0, _, _, _, _, _, _, h, _, _ => by omega
  | [], f + 1, acc, p, _, ht, h0, h1, _, a0, a1 => by
    have e : (([] : List Int).length : Int) = 0 := rfl
    show M_readsMany_L9_b (M_readsMany_L9 f) l acc p ν = _
    unfold M_readsMany_L9_b
    rw [q_ld_s (by omega) (by omega), if_neg (by omega)]
    show M_readsMany_B56 l acc ν = M_readsMany_B56 l (acc + 0) ν
    rw [Int.add_zero]
  | c :: L, f + 1, acc, p, hs, ht, h0, h1, hf, a0, a1 => by
    rw [List.length_cons] at ht hf a1
    obtain ⟨e, e1, e2⟩ := hasE_s (ν := ν) hl
    have e3 : e = 1 := by
      rcases e2 with z | z
      · exact z.1
      · exact absurd he z.2
    subst e3
    have hg : ν 1012 p = c := hs.1
    show M_readsMany_L9_b (M_readsMany_L9 f) l acc p ν = _
    unfold M_readsMany_L9_b M_readsMany_B48
    rw [q_ld_s (by omega) (by omega), if_pos (by omega), e1, q_bd_s, if_neg (by decide), q_ld_s (by omega) (by omega), hg, within_s, q_bd_s, w32_i (x := p + 1) (by omega) (by omega), w32_i (x := acc + 1) (by omega) (by omega), w32_i (x := acc + 0) (by omega) (by omega), nmL_c]
    have ih := fun a b0 b1 => readsMany_E hl he L f a (p + 1) hs.2 (by omega) (by omega) h1 (by omega) b0 b1
    by_cases q : 1 ≤ c ∧ c ≤ 10
    · rw [if_pos q, if_neg (by decide), if_pos q, ih (acc + 1) (by omega) (by omega), List.length_cons]
      congr 1
      omega
    · rw [if_neg q, if_pos rfl, if_neg q, ih (acc + 0) (by omega) (by omega), Int.add_zero]
theorem readsMany_s {b l : Int} {r : List Int} {μ ν : am_M} (h : RL b l r μ ν) (hl : 0 ≤ l ∧ l < 60) : M_readsMany l ν = some ((r.length : Int), ν) := by
  have hF := am_FU_ge
  unfold M_readsMany
  rw [q_ld_s (by omega) (by omega)]
  rcases h.re with ⟨he, ⟨L, y1, y2, y3, y4, y5, y6⟩, y7⟩ | ⟨he, y1, y2, y3, y4, y5, y6⟩
  · rw [readsMany_E hl he L am_FU 0 _ y1 y2 y4 y5 (by omega) (by omega) (by omega), y3]
    unfold M_readsMany_B56
    have hr : r.length ≤ L.length := by rw [← y3]; exact nmL_len L
    rw [readsMany_S hl 4 am_FU _ 0 (by omega) (by omega) (by omega) (by omega) (by omega), srcL_no 4 0 (fun j a b => y7 j a (by omega))]
    show some (0 + (r.length : Int) + 0, ν) = _
    rw [Int.zero_add, Int.add_zero]
  · have e0 : M_readsMany_L9 am_FU l 0 (ν 1010 l) ν = M_readsMany_B56 l 0 ν := by
      have hF1 : ∃ f, am_FU = f + 1 := ⟨am_FU - 1, by omega⟩
      obtain ⟨f, hF1⟩ := hF1
      rw [hF1]
      show M_readsMany_L9_b (M_readsMany_L9 f) l 0 (ν 1010 l) ν = _
      unfold M_readsMany_L9_b
      rw [q_ld_s (by omega) (by omega)]
      by_cases c : ν 1010 l < ν 1011 l
      · obtain ⟨e, e1, e2⟩ := hasE_s (ν := ν) hl
        have e3 : e = 0 := by
          rcases e2 with z | z
          · exact absurd z.2 he
          · exact z.1
        subst e3
        rw [if_pos c, e1, q_bd_s, if_pos rfl]
      · rw [if_neg c]
    rw [e0]
    unfold M_readsMany_B56
    rw [readsMany_S hl 4 am_FU 0 0 (by omega) (by omega) (by omega) (by omega) (by omega), srcL_r r h.sl y4 y5 y6, Int.zero_add]
theorem readsOf_S {l s : Int} {ν : am_M} (hl : 0 ≤ l ∧ l < 60) (hs : 0 ≤ s) : ∀ (n f : Nat) (acc i : Int), i + n = 4 → 0 ≤ i → n < f → 0 ≤ acc → acc + n ≤ 2000 → M_readsOf_L59 f l s acc i ν = some (acc + cnt s (srcL ν l n i), ν)
  | n, 0, _, _, _, _, h, _, _ => by omega
  | 0, f + 1, acc, i, h, h0, _, a0, a1 => by
    show M_readsOf_L59_b (M_readsOf_L59 f) l s acc i ν = _
    unfold M_readsOf_L59_b
    rw [if_neg (by omega)]
    show some (acc, ν) = some (acc + 0, ν)
    rw [Int.add_zero]
  | n + 1, f + 1, acc, i, h, h0, hf, a0, a1 => by
    show M_readsOf_L59_b (M_readsOf_L59 f) l s acc i ν = _
    unfold M_readsOf_L59_b M_readsOf_B86
    have e : srcL ν l (n + 1) i = if ν 1007 (4 * l + i) < 0 then srcL ν l n (i + 1) else ν 1007 (4 * l + i) :: srcL ν l n (i + 1) := rfl
    have e2 : ∀ x r, cnt s (x :: r) = (if x = s then 1 else 0) + cnt s r := fun _ _ => rfl
    rw [if_pos (by omega), w32_i (x := 4 * l) (by omega) (by omega), w32_i (x := 4 * l + i) (by omega) (by omega), q_ld_s (by omega) (by omega), e, w32_i (x := i + 1) (by omega) (by omega), w32_i (x := acc + 1) (by omega) (by omega), w32_i (x := acc + 0) (by omega) (by omega)]
    by_cases c : ν 1007 (4 * l + i) < 0
    · rw [if_neg (by omega), if_pos c, readsOf_S hl hs n f (acc + 0) (i + 1) (by omega) (by omega) (by omega) (by omega) (by omega), Int.add_zero]
    · rw [if_neg c, e2]
      by_cases c3 : ν 1007 (4 * l + i) = s
      · rw [if_pos c3, if_pos c3, readsOf_S hl hs n f (acc + 1) (i + 1) (by omega) (by omega) (by omega) (by omega) (by omega)]
        congr 2
        omega
      · rw [if_neg c3, if_neg c3, readsOf_S hl hs n f (acc + 0) (i + 1) (by omega) (by omega) (by omega) (by omega) (by omega)]
        congr 2
        omega
theorem readsOf_E {l s : Int} {ν : am_M} (hl : 0 ≤ l ∧ l < 60) (hs : 0 ≤ s ∧ s < 10) (he : hE (ν 1002 l)) : ∀ (L : List Int) (f : Nat) (acc p : Int), fsg (ν 1012) p L → ν 1011 l = p + L.length → 0 ≤ p → ν 1011 l ≤ 1000 → L.length < f → 0 ≤ acc → acc + L.length ≤ 1900 → M_readsOf_L10 f l s acc p ν = M_readsOf_B56 l s (acc + cnt s (nmL L)) ν
  | L, 0, _, _, _, _, _, _, h, _, _ => by omega
  | [], f + 1, acc, p, _, ht, h0, h1, _, a0, a1 => by
    have e : (([] : List Int).length : Int) = 0 := rfl
    show M_readsOf_L10_b (M_readsOf_L10 f) l s acc p ν = _
    unfold M_readsOf_L10_b
    rw [q_ld_s (by omega) (by omega), if_neg (by omega)]
    show M_readsOf_B56 l s acc ν = M_readsOf_B56 l s (acc + 0) ν
    rw [Int.add_zero]
  | c :: L, f + 1, acc, p, hg, ht, h0, h1, hf, a0, a1 => by
    rw [List.length_cons] at ht hf a1
    obtain ⟨e, e1, e2⟩ := hasE_s (ν := ν) hl
    have e3 : e = 1 := by
      rcases e2 with z | z
      · exact z.1
      · exact absurd he z.2
    subst e3
    have hc : ν 1012 p = c := hg.1
    have e4 : ∀ x r, cnt s (x :: r) = (if x = s then 1 else 0) + cnt s r := fun _ _ => rfl
    show M_readsOf_L10_b (M_readsOf_L10 f) l s acc p ν = _
    unfold M_readsOf_L10_b M_readsOf_B48
    rw [q_ld_s (by omega) (by omega), if_pos (by omega), e1, q_bd_s, if_neg (by decide), q_ld_s (by omega) (by omega), hc, w32_i (x := 1 + s) (by omega) (by omega), w32_i (x := p + 1) (by omega) (by omega), w32_i (x := acc + 1) (by omega) (by omega), w32_i (x := acc + 0) (by omega) (by omega), nmL_c]
    have ih := fun a b0 b1 => readsOf_E hl hs he L f a (p + 1) hg.2 (by omega) (by omega) h1 (by omega) b0 b1
    by_cases q : c = 1 + s
    · rw [if_pos q, if_pos (by omega), e4, if_pos (by omega), ih (acc + 1) (by omega) (by omega)]
      congr 1
      omega
    · rw [if_neg q, ih (acc + 0) (by omega) (by omega)]
      by_cases q2 : 1 ≤ c ∧ c ≤ 10
      · rw [if_pos q2, e4, if_neg (by omega)]
        congr 1
        omega
      · rw [if_neg q2, Int.add_zero]
theorem readsOf_s {b l s : Int} {r : List Int} {μ ν : am_M} (h : RL b l r μ ν) (hl : 0 ≤ l ∧ l < 60) (hs : 0 ≤ s ∧ s < 10) : M_readsOf l s ν = some (cnt s r, ν) := by
  have hF := am_FU_ge
  unfold M_readsOf
  rw [q_ld_s (by omega) (by omega)]
  rcases h.re with ⟨he, ⟨L, y1, y2, y3, y4, y5, y6⟩, y7⟩ | ⟨he, y1, y2, y3, y4, y5, y6⟩
  · rw [readsOf_E hl hs he L am_FU 0 _ y1 y2 y4 y5 (by omega) (by omega) (by omega), y3]
    unfold M_readsOf_B56
    have hr : r.length ≤ L.length := by rw [← y3]; exact nmL_len L
    have hcr := cnt_r s r
    rw [readsOf_S hl hs.1 4 am_FU _ 0 (by omega) (by omega) (by omega) (by omega) (by omega), srcL_no 4 0 (fun j a b => y7 j a (by omega))]
    show some (0 + cnt s r + 0, ν) = _
    rw [Int.zero_add, Int.add_zero]
  · have e0 : M_readsOf_L10 am_FU l s 0 (ν 1010 l) ν = M_readsOf_B56 l s 0 ν := by
      have hF1 : ∃ f, am_FU = f + 1 := ⟨am_FU - 1, by omega⟩
      obtain ⟨f, hF1⟩ := hF1
      rw [hF1]
      show M_readsOf_L10_b (M_readsOf_L10 f) l s 0 (ν 1010 l) ν = _
      unfold M_readsOf_L10_b
      rw [q_ld_s (by omega) (by omega)]
      by_cases c : ν 1010 l < ν 1011 l
      · obtain ⟨e, e1, e2⟩ := hasE_s (ν := ν) hl
        have e3 : e = 0 := by
          rcases e2 with z | z
          · exact absurd z.2 he
          · exact z.1
        subst e3
        rw [if_pos c, e1, q_bd_s, if_pos rfl]
      · rw [if_neg c]
    rw [e0]
    unfold M_readsOf_B56
    rw [readsOf_S hl hs.1 4 am_FU 0 0 (by omega) (by omega) (by omega) (by omega) (by omega), srcL_r r h.sl y4 y5 y6, Int.zero_add]
