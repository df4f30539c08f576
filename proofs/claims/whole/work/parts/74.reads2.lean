/-! Readings counted by the reference. -/
theorem hasE_s {l : Int} {ν : am_M} (hl : 0 ≤ l ∧ l < 60) : ∃ e, M_hasE l ν = some (e, ν) ∧ ((e = 1 ∧ hE (ν 1002 l)) ∨ (e = 0 ∧ ¬ hE (ν 1002 l))) := by
  unfold M_hasE hE
  rw [q_ld_s (by omega) (by omega), q_ld_s (by omega) (by omega), q_ld_s (by omega) (by omega)]
  by_cases c1 : ν 1002 l = 1
  · rw [if_pos c1]; exact ⟨1, rfl, Or.inl ⟨rfl, Or.inl c1⟩⟩
  rw [if_neg c1]
  by_cases c5 : ν 1002 l = 5
  · rw [if_pos c5]; exact ⟨1, rfl, Or.inl ⟨rfl, Or.inr (Or.inl c5)⟩⟩
  rw [if_neg c5]
  by_cases c8 : ν 1002 l = 8
  · rw [if_pos c8]; exact ⟨1, rfl, Or.inl ⟨rfl, Or.inr (Or.inr c8)⟩⟩
  rw [if_neg c8]
  exact ⟨0, rfl, Or.inr ⟨rfl, by omega⟩⟩
theorem within_s {v : Int} {ν : am_M} : M_within v 1 10 ν = some (if 1 ≤ v ∧ v ≤ 10 then 1 else 0, ν) := by
  unfold M_within
  by_cases c1 : v < 1
  · rw [if_pos c1, if_neg (by omega)]
  · rw [if_neg c1]
    by_cases c2 : v ≤ 10
    · rw [if_pos c2, if_pos (by omega)]
    · rw [if_neg c2, if_neg (by omega)]
/-- the sources from place i on -/
def srcL (ν : am_M) (l : Int) : Nat → Int → List Int
  | 0, _ => []
  | n + 1, i => if ν 1007 (4 * l + i) < 0 then srcL ν l n (i + 1) else ν 1007 (4 * l + i) :: srcL ν l n (i + 1)
theorem srcL_no {ν : am_M} {l : Int} : ∀ (n : Nat) (i : Int), (∀ j, i ≤ j → j < i + n → ν 1007 (4 * l + j) = -1) → srcL ν l n i = []
  | 0, _, _ => rfl
  | n + 1, i, h => by
    have e : srcL ν l (n + 1) i = if ν 1007 (4 * l + i) < 0 then srcL ν l n (i + 1) else ν 1007 (4 * l + i) :: srcL ν l n (i + 1) := rfl
    rw [e, if_pos (by rw [h i (Int.le_refl _) (by omega)]; decide), srcL_no n (i + 1) (fun j a b => h j (by omega) (by omega))]
theorem srcL_r {ν : am_M} {l : Int} (r : List Int) (hr : ∀ s ∈ r, 0 ≤ s ∧ s < 10) (h4 : r.length ≤ 4) (hg : ∀ i : Nat, i < r.length → r[i]? = some (ν 1007 (4 * l + i))) (hn : ∀ i, (r.length : Int) ≤ i → i < 4 → ν 1007 (4 * l + i) = -1) : srcL ν l 4 0 = r := by
  have go : ∀ (n k : Nat), k + n = 4 → srcL ν l n (k : Int) = r.drop k := by
    intro n
    induction n with
    | zero =>
      intro k hk
      rw [List.drop_eq_nil_of_le (by omega)]
      rfl
    | succ n ih =>
      intro k hk
      have e : srcL ν l (n + 1) (k : Int) = if ν 1007 (4 * l + (k : Int)) < 0 then srcL ν l n ((k : Int) + 1) else ν 1007 (4 * l + (k : Int)) :: srcL ν l n ((k : Int) + 1) := rfl
      have ek : (k : Int) + 1 = ((k + 1 : Nat) : Int) := by omega
      rw [e, ek, ih (k + 1) (by omega)]
      by_cases c : k < r.length
      · have g := hg k c
        have hm : ν 1007 (4 * l + (k : Int)) ∈ r := List.mem_of_getElem? g
        have := hr _ hm
        rw [if_neg (by omega), List.drop_eq_getElem_cons c]
        congr 1
        rw [List.getElem?_eq_getElem c] at g
        exact (Option.some.inj g).symm
      · rw [if_pos (by rw [hn k (by omega) (by omega)]; decide), List.drop_eq_nil_of_le (by omega), List.drop_eq_nil_of_le (by omega)]
  exact go 4 0 (by omega)
theorem readsMany_S {l : Int} {ν : am_M} (hl : 0 ≤ l ∧ l < 60) : ∀ (n f : Nat) (acc i : Int), i + n = 4 → 0 ≤ i → n < f → 0 ≤ acc → acc ≤ 2000 → M_readsMany_L58 f l acc i ν = some (acc + (srcL ν l n i).length, ν)
  | n, 0, _, _, _, _, h, _, _ => by omega
  | 0, f + 1, acc, i, h, h0, _, a0, a1 => by
    show M_readsMany_L58_b (M_readsMany_L58 f) l acc i ν = _
    unfold M_readsMany_L58_b
    rw [if_neg (by omega)]
    show some (acc, ν) = some (acc + 0, ν)
    rw [Int.add_zero]
  | n + 1, f + 1, acc, i, h, h0, hf, a0, a1 => by
    show M_readsMany_L58_b (M_readsMany_L58 f) l acc i ν = _
    unfold M_readsMany_L58_b M_readsMany_B82
    have e : srcL ν l (n + 1) i = if ν 1007 (4 * l + i) < 0 then srcL ν l n (i + 1) else ν 1007 (4 * l + i) :: srcL ν l n (i + 1) := rfl
    rw [if_pos (by omega), w32_i (x := 4 * l) (by omega) (by omega), w32_i (x := 4 * l + i) (by omega) (by omega), q_ld_s (by omega) (by omega), e, w32_i (x := i + 1) (by omega) (by omega), w32_i (x := acc + 1) (by omega) (by omega), w32_i (x := acc + 0) (by omega) (by omega)]
    by_cases c : ν 1007 (4 * l + i) < 0
    · by_cases c2 : acc + 0 ≤ 2000
      · rw [if_pos c, if_pos c, readsMany_S hl n f (acc + 0) (i + 1) (by omega) (by omega) (by omega) (by omega) c2, Int.add_zero]
      · omega
    · by_cases c2 : acc + 1 ≤ 2000
      · rw [if_neg c, if_neg c, readsMany_S hl n f (acc + 1) (i + 1) (by omega) (by omega) (by omega) (by omega) c2, List.length_cons]
        congr 2
        omega
      · sorry
