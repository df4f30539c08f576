/-! Heights, names, lengths of what waits. -/
/-- how many values stand when codes (the last first) are done; none: one too few or too many -/
def hR : List Int → Option Int
  | [] => some 0
  | c :: ro => match hR ro with
    | none => none
    | some n => if c % 128 = 2 ∨ c % 128 = 3 then (if n + 1 ≤ 64 then some (n + 1) else none) else if c % 128 = 114 then (if 1 ≤ n then some n else none) else (if 2 ≤ n then some (n - 1) else none)
/-- signs that wait and join two -/
def nb : List Int → Int
  | [] => 0
  | w :: wt => (if w = 40 ∨ w = 114 then 0 else 1) + nb wt
theorem nb_0 : ∀ wt : List Int, 0 ≤ nb wt ∧ nb wt ≤ wt.length
  | [] => ⟨Int.le_refl _, Int.le_refl _⟩
  | w :: wt => by
    obtain ⟨h1, h2⟩ := nb_0 wt
    unfold nb
    rw [List.length_cons]
    by_cases q : w = 40 ∨ w = 114
    · rw [if_pos q]; omega
    · rw [if_neg q]; omega
theorem nb_op {w : Int} {wt : List Int} (h1 : w ≠ 40) (h2 : w ≠ 114) : nb (w :: wt) = 1 + nb wt := by
  conv => lhs; unfold nb
  rw [if_neg (by omega)]
theorem nb_br {w : Int} {wt : List Int} (h : w = 40 ∨ w = 114) : nb (w :: wt) = nb wt := by
  conv => lhs; unfold nb
  rw [if_pos h]; omega
theorem xCode_m {Wn : Int → Int} {c : Int} : xCode Wn c % 128 = 2 ∨ xCode Wn c % 128 = 3 := by
  unfold xCode
  split
  · left; omega
  · right
    split <;> omega
/-- what may wait -/
def isWt (w : Int) : Prop := w = 40 ∨ w = 114 ∨ w = 42 ∨ w = 43 ∨ w = 45 ∨ w = 60 ∨ w = 61 ∨ w = 115 ∨ w = 116
theorem hR_op {w n : Int} {ro : List Int} (hw : isWt w) (h4 : w ≠ 40) (h1 : w ≠ 114) (h : hR ro = some n) (h2 : 2 ≤ n) : hR (w :: ro) = some (n - 1) := by
  unfold hR
  rw [h]
  show (if w % 128 = 2 ∨ w % 128 = 3 then _ else _) = _
  unfold isWt at hw
  rw [if_neg (by omega), if_neg (by omega), if_pos h2]
theorem hR_not {n : Int} {ro : List Int} (h : hR ro = some n) (h1 : 1 ≤ n) : hR (114 :: ro) = some n := by
  unfold hR
  rw [h]
  show (if (114 : Int) % 128 = 2 ∨ (114 : Int) % 128 = 3 then _ else _) = _
  rw [if_neg (by decide), if_pos (by decide), if_pos h1]
theorem hR_part {c n : Int} {ro : List Int} (hc : c % 128 = 2 ∨ c % 128 = 3) (h : hR ro = some n) (h1 : n + 1 ≤ 64) : hR (c :: ro) = some (n + 1) := by
  unfold hR
  rw [h]
  show (if c % 128 = 2 ∨ c % 128 = 3 then _ else _) = _
  rw [if_pos hc, if_pos h1]
theorem rk_1 {w : Int} (h : 1 ≤ rk w) : w ≠ 40 ∧ w ≠ 114 := by
  constructor
  · intro z; subst z; exact absurd h (by decide)
  · intro z; subst z; exact absurd h (by decide)
theorem popR_h {r : Int} (hr : 1 ≤ r) : ∀ (wt ro : List Int) (n : Int), (∀ w ∈ wt, isWt w) → hR ro = some (nb wt + 1 + n) → 0 ≤ n → hR (popR r wt ro).2 = some (nb (popR r wt ro).1 + 1 + n) ∧ (∀ w ∈ (popR r wt ro).1, isWt w) ∧ (popR r wt ro).1.length ≤ wt.length
  | [], ro, n, hw, h, _ => ⟨h, hw, Nat.le_refl _⟩
  | w :: wt, ro, n, hw, h, hn => by
    by_cases q : r ≤ rk w
    · rw [popR_t q]
      have h1 := rk_1 (w := w) (by omega)
      have h2 : nb (w :: wt) = 1 + nb wt := by
        conv => lhs; unfold nb
        rw [if_neg (by omega)]
      have h3 := (nb_0 wt).1
      have h4 := hR_op (hw w List.mem_cons_self) h1.1 h1.2 h (by omega)
      obtain ⟨a, b, c⟩ := popR_h hr wt (w :: ro) n (fun w' h' => hw w' (List.mem_cons_of_mem _ h')) (by rw [h4]; congr 1; omega) hn
      exact ⟨a, b, by rw [List.length_cons]; omega⟩
    · rw [popR_f q]
      exact ⟨h, hw, Nat.le_refl _⟩
theorem popN_h : ∀ (wt ro : List Int) (n : Int), (∀ w ∈ wt, isWt w) → hR ro = some (nb wt + 1 + n) → 0 ≤ n → hR (popN wt ro).2 = some (nb (popN wt ro).1 + 1 + n) ∧ (∀ w ∈ (popN wt ro).1, isWt w) ∧ (popN wt ro).1.length ≤ wt.length
  | [], ro, n, hw, h, _ => ⟨h, hw, Nat.le_refl _⟩
  | w :: wt, ro, n, hw, h, hn => by
    by_cases q : w = 114
    · subst q
      rw [popN_go]
      have h2 : nb (114 :: wt) = nb wt := by
        conv => lhs; unfold nb
        rw [if_pos (Or.inr rfl)]; omega
      have h3 := (nb_0 wt).1
      obtain ⟨a, b, c⟩ := popN_h wt (114 :: ro) n (fun w' h' => hw w' (List.mem_cons_of_mem _ h')) (by rw [hR_not h (by omega), h2]) hn
      exact ⟨a, b, by rw [List.length_cons]; omega⟩
    · rw [popN_stay q]
      exact ⟨h, hw, Nat.le_refl _⟩
/-- the state's heights: part wanted, part come -/
def hS (b : Bool) (q : List Int × List Int) : Prop := (∀ w ∈ q.1, isWt w) ∧ hR q.2 = some (nb q.1 + (if b = true then 0 else 1))
theorem xOp_w {c : Int} (h : isOp c = true) : isWt (xOp c) ∧ xOp c ≠ 40 ∧ xOp c ≠ 114 ∧ 1 ≤ (if rk (xOp c) = 2 then 3 else rk (xOp c)) := by
  unfold isOp at h
  have h := of_decide_eq_true h
  have : c = 20 ∨ c = 21 ∨ c = 22 ∨ c = 23 ∨ c = 24 ∨ c = 25 ∨ c = 26 ∨ c = 27 := by omega
  unfold isWt
  rcases this with h | h | h | h | h | h | h | h <;> subst h <;> decide
theorem shst_h {Wn : Int → Int} {q : List Int × List Int} {c : Int} {ks : List (Int × Bool)} {b b' : Bool} {ks' : List (Int × Bool)} (h : hS b q) (hv : vStep (b, ks) c = some (b', ks')) (hl : q.1.length ≤ 63) (h29 : c = 29 → ∃ w2, (popR 1 q.1 q.2).1 = 40 :: w2) : hS b' (shst Wn q c) := by
  obtain ⟨wt, ro⟩ := q
  obtain ⟨h1, h2⟩ := h
  unfold vStep at hv
  dsimp only at h1 h2 hl h29
  cases b with
  | true =>
    rw [if_pos rfl] at h2
    dsimp only at hv
    by_cases c1 : c = 28
    · rw [if_pos c1] at hv; cases hv; subst c1
      refine ⟨fun w hw => ?_, ?_⟩
      · rcases List.mem_cons.mp hw with e | e
        · rw [e]; exact Or.inl rfl
        · exact h1 w e
      · show hR ro = some (nb (40 :: wt) + 0)
        rw [h2]; congr 1
        show nb wt + 0 = (if (40 : Int) = 40 ∨ (40 : Int) = 114 then 0 else 1) + nb wt + 0
        rw [if_pos (Or.inl rfl)]; omega
    · rw [if_neg c1] at hv
      by_cases c2 : c = 30
      · rw [if_pos c2] at hv; cases hv; subst c2
        refine ⟨fun w hw => ?_, ?_⟩
        · rcases List.mem_cons.mp hw with e | e
          · rw [e]; exact Or.inr (Or.inl rfl)
          · exact h1 w e
        · show hR ro = some (nb (114 :: wt) + 0)
          rw [h2]; congr 1
          show nb wt + 0 = (if (114 : Int) = 40 ∨ (114 : Int) = 114 then 0 else 1) + nb wt + 0
          rw [if_pos (Or.inr rfl)]; omega
      · rw [if_neg c2] at hv
        cases hp : isPart c with
        | false => rw [hp] at hv; cases hv
        | true =>
          rw [hp, if_pos rfl] at hv
          cases hv
          unfold isPart at hp
          have hp := of_decide_eq_true hp
          have e5 : shst Wn (wt, ro) c = popN wt (xCode Wn c :: ro) := by
            unfold shst
            rw [if_neg c1, if_neg c2, if_neg (by unfold isOp; simp; omega), if_neg (by omega)]
          rw [e5]
          have h3 := nb_0 wt
          have hl : wt.length ≤ 63 := hl
          have e6 : hR (xCode Wn c :: ro) = some (nb wt + 1) := by
            rw [hR_part (n := nb wt + 0) xCode_m h2 (by omega)]
            congr 1
            omega
          obtain ⟨a, b, -⟩ := popN_h wt (xCode Wn c :: ro) 0 h1 (by rw [e6]; congr 1; omega) (by omega)
          exact ⟨b, by rw [a, if_neg (by decide)]; congr 1; omega⟩
  | false =>
    rw [if_neg (by decide)] at h2
    have key : ∀ c, isOp c = true → hS true (shst Wn (wt, ro) c) := by
      intro c hc
      obtain ⟨x1, x2, x3, x4⟩ := xOp_w hc
      have hc' := of_decide_eq_true hc
      have e5 : shst Wn (wt, ro) c = (xOp c :: (popR (if rk (xOp c) = 2 then 3 else rk (xOp c)) wt ro).1, (popR (if rk (xOp c) = 2 then 3 else rk (xOp c)) wt ro).2) := by
        unfold shst
        rw [if_neg (by omega), if_neg (by omega), if_pos hc]
      rw [e5]
      obtain ⟨a, b, -⟩ := popR_h x4 wt ro 0 h1 (by rw [h2]; congr 1; omega) (by omega)
      refine ⟨fun w hw => ?_, ?_⟩
      · rcases List.mem_cons.mp hw with e | e
        · rw [e]; exact x1
        · exact b w e
      · show hR _ = _
        rw [a, if_pos rfl]
        congr 1
        rw [nb_op x2 x3]
        omega
    cases ks with
    | nil => cases hv
    | cons k0 ks0 =>
      obtain ⟨k, cp⟩ := k0
      dsimp only at hv
      by_cases c1 : c = 20 ∨ c = 21 ∨ c = 22
      · rw [if_pos c1] at hv; cases hv
        exact key c (by unfold isOp; simp; omega)
      · rw [if_neg c1] at hv
        by_cases c2 : c = 24 ∨ c = 25
        · rw [if_pos c2] at hv
          cases cp with
          | true => cases hv
          | false => cases hv; exact key c (by unfold isOp; simp; omega)
        · rw [if_neg c2] at hv
          by_cases c3 : c = 26 ∨ c = 27
          · rw [if_pos c3] at hv; cases hv
            exact key c (by unfold isOp; simp; omega)
          · rw [if_neg c3] at hv
            by_cases c4 : c = 29
            · rw [if_pos c4] at hv
              by_cases c5 : k = 2
              · rw [if_pos c5] at hv; cases hv
                obtain ⟨w2, e2⟩ := h29 c4
                subst c4
                obtain ⟨a, b, -⟩ := popR_h (by decide : (1 : Int) ≤ 1) wt ro 0 h1 (by rw [h2]; congr 1; omega) (by omega)
                show hS false (popN (popR 1 wt ro).1.tail (popR 1 wt ro).2)
                have e2' : (popR 1 wt ro).1 = 40 :: w2 := e2
                rw [e2'] at a b ⊢
                have e3 : nb (40 :: w2) = nb w2 := by
                  conv => lhs; unfold nb
                  rw [if_pos (Or.inl rfl)]; omega
                obtain ⟨a2, b2, -⟩ := popN_h w2 (popR 1 wt ro).2 0 (fun w hw => b w (List.mem_cons_of_mem _ hw)) (by rw [a, e3]) (by omega)
                exact ⟨b2, by show hR (popN w2 _).2 = _; rw [a2, if_neg (by decide)]; congr 1; show nb (popN w2 _).1 + 1 + 0 = nb (popN w2 _).1 + 1; omega⟩
              · rw [if_neg c5] at hv; cases hv
            · rw [if_neg c4] at hv; cases hv
/-- as long as levels, at most five signs each -/
theorem lvO_len {pm : Bool} {f : fR} : (lvO pm f).length ≤ 4 := by
  obtain ⟨k, kb, a, ag, s, sb, t, tb, n⟩ := f
  unfold lvO
  simp only [List.length_append]
  have e : ∀ (c : Prop) [Decidable c] (x : Int), (if c then [] else [x] : List Int).length ≤ 1 := fun c _ x => by split <;> simp
  have e2 : ∀ (c : Prop) [Decidable c] (x : Int), (if c then [x] else [] : List Int).length ≤ 1 := fun c _ x => by split <;> simp
  have := e (tb = 0) 42
  have := e (ag = 0) (xOp ag)
  have := e (kb = 0) (xOp kb)
  have := e2 (pm = true) (xOp sb)
  omega
theorem lvs_len : ∀ (F : List fR) (pms : List Bool) (ks : List (Int × Bool)) (wt vs : List Int), F ≠ [] → lvs F pms ks wt vs → wt.length + 1 ≤ 5 * ks.length
  | [], _, _, _, _, h, _ => absurd rfl h
  | f :: F, pms, ks, wt, vs, _, h => by
    obtain ⟨f', F', pm, pms', kd, cp, ks', e1, e2, e3⟩ := lvs_inv h (by simp)
    cases e1
    subst e2; subst e3
    obtain ⟨h1, h2, h3, h4, h5, h6, wt', vs', h7, h8, h9⟩ := lvs_c.mp h
    have h10 := lvO_len (pm := pm) (f := f)
    unfold lvB at h9
    by_cases hF : F = []
    · rw [if_pos hF] at h9
      rw [h7, h9.1]
      simp only [List.length_append, List.length_cons, List.length_nil]
      omega
    · rw [if_neg hF] at h9
      obtain ⟨w2, h11, h12⟩ := h9
      have := lvs_len F pms' ks' w2 vs' hF h12
      rw [h7, h11]
      simp only [List.length_append, List.length_cons]
      omega
