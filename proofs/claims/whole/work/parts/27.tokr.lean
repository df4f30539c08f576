/-! What both readers look at: one token, one name. -/
def wE (B : Int) : List Int → Int
  | [] => 0
  | s :: l => wE B l * B + (s - 96)
def ltr (g : Int → Int) (p : Int) : Nat → List Int
  | 0 => []
  | k + 1 => g (p + k) :: ltr g p k
theorem enc_wE (B : Int) (g : Int → Int) (p : Int) : ∀ k : Nat, enc B g p k = wE B (ltr g p k)
  | 0 => rfl
  | k + 1 => by unfold enc ltr wE; rw [enc_wE B g p k]
theorem ltr_len (g : Int → Int) (p : Int) : ∀ k : Nat, (ltr g p k).length = k
  | 0 => rfl
  | k + 1 => by unfold ltr; rw [List.length_cons, ltr_len g p k]
theorem ltr_in (g : Int → Int) (p : Int) : ∀ k : Nat, (∀ j : Int, p ≤ j → j < p + k → sLet (g j) = true) → ∀ s ∈ ltr g p k, 97 ≤ s ∧ s ≤ 122
  | 0, _, s, h => by cases h
  | k + 1, h0, s, h => by
    unfold ltr at h
    rcases List.mem_cons.mp h with h | h
    · have := h0 (p + k) (by omega) (by omega)
      unfold sLet at this
      rw [h]
      exact of_decide_eq_true this
    · exact ltr_in g p k (fun j a b => h0 j a (by omega)) s h
def lets (L : List Int) : Prop := ∀ s ∈ L, 97 ≤ s ∧ s ≤ 122
theorem wE_0 {B : Int} (hB : B = 27 ∨ B = 32) : ∀ L : List Int, lets L → 0 ≤ wE B L ∧ (L ≠ [] → 0 < wE B L)
  | [], _ => ⟨Int.le_refl _, fun z => absurd rfl z⟩
  | s :: l, h => by
    obtain ⟨h1, -⟩ := wE_0 hB l (fun s hs => h s (List.mem_cons_of_mem _ hs))
    have h2 := h s List.mem_cons_self
    have h3 : 0 < wE B (s :: l) := by
      unfold wE
      rcases hB with e | e <;> subst e <;> omega
    exact ⟨by omega, fun _ => h3⟩
theorem wE_inj {B : Int} (hB : B = 27 ∨ B = 32) : ∀ L L' : List Int, lets L → lets L' → wE B L = wE B L' → L = L'
  | [], [], _, _, _ => rfl
  | [], s :: l, _, h', e => by
    have := (wE_0 hB (s :: l) h').2 (by simp)
    rw [← e] at this
    exact absurd this (by unfold wE; omega)
  | s :: l, [], h, _, e => by
    have := (wE_0 hB (s :: l) h).2 (by simp)
    rw [e] at this
    exact absurd this (by unfold wE; omega)
  | s :: l, s' :: l', h, h', e => by
    have h2 := h s List.mem_cons_self
    have h3 := h' s' List.mem_cons_self
    unfold wE at e
    have e1 : wE B l = wE B l' ∧ s = s' := by
      rcases hB with z | z <;> subst z <;> omega
    rw [wE_inj hB l l' (fun s hs => h s (List.mem_cons_of_mem _ hs)) (fun s hs => h' s (List.mem_cons_of_mem _ hs)) e1.1, e1.2]
/-- a name as the class and as the reference number it -/
def NM (x m : Int) : Prop := ∃ L : List Int, lets L ∧ x = wE 32 L ∧ m = wE 27 L
theorem NM_iff {x m x' m' : Int} (h : NM x m) (h' : NM x' m') : x = x' ↔ m = m' := by
  obtain ⟨L, a1, a2, a3⟩ := h
  obtain ⟨L', b1, b2, b3⟩ := h'
  subst a2; subst a3; subst b2; subst b3
  constructor
  · intro e; rw [wE_inj (Or.inr rfl) L L' a1 b1 e]
  · intro e; rw [wE_inj (Or.inl rfl) L L' a1 b1 e]
def rsv (i : Int) : Int := if i = 0 then 656741 else if i = 1 then 12468 else if i = 2 then 679214 else if i = 3 then 87630 else if i = 4 then 99724 else if i = 5 then 294 else if i = 6 then 176741 else if i = 7 then 5572 else if i = 8 then 239301 else if i = 9 then 755084 else if i = 10 then 75148 else if i = 11 then 505957 else if i = 12 then 441972 else if i = 13 then 51 else if i = 14 then 14836 else if i = 15 then 1476 else if i = 16 then 498 else 0
/-- the number of a word: its kind with the class -/
def kw (m : Int) : Int := if m = 394691 then 100 else if m = 8903 then 101 else if m = 410684 then 102 else if m = 55175 then 103 else if m = 60114 then 104 else if m = 249 then 105 else if m = 107681 then 106 else if m = 4027 then 107 else if m = 144941 then 108 else if m = 453774 then 109 else if m = 46263 then 110 else if m = 305537 then 111 else if m = 267347 then 112 else if m = 46 then 113 else if m = 10631 then 114 else if m = 1111 then 115 else if m = 423 then 116 else 2
theorem rsv0 : NM (rsv 0) 394691 := ⟨[101, 107, 97, 116], by unfold lets; decide, by decide, by decide⟩
theorem rsv1 : NM (rsv 1) 8903 := ⟨[116, 101, 108], by unfold lets; decide, by decide, by decide⟩
theorem rsv2 : NM (rsv 2) 410684 := ⟨[110, 105, 119, 116], by unfold lets; decide, by decide, by decide⟩
theorem rsv3 : NM (rsv 3) 55175 := ⟨[110, 114, 117, 98], by unfold lets; decide, by decide, by decide⟩
theorem rsv4 : NM (rsv 4) 60114 := ⟨[108, 108, 97, 99], by unfold lets; decide, by decide, by decide⟩
theorem rsv5 : NM (rsv 5) 249 := ⟨[102, 105], by unfold lets; decide, by decide, by decide⟩
theorem rsv6 : NM (rsv 6) 107681 := ⟨[101, 115, 108, 101], by unfold lets; decide, by decide, by decide⟩
theorem rsv7 : NM (rsv 7) 4027 := ⟨[100, 110, 101], by unfold lets; decide, by decide, by decide⟩
theorem rsv8 : NM (rsv 8) 144941 := ⟨[101, 118, 105, 103], by unfold lets; decide, by decide, by decide⟩
theorem rsv9 : NM (rsv 9) 453774 := ⟨[108, 108, 97, 119], by unfold lets; decide, by decide, by decide⟩
theorem rsv10 : NM (rsv 10) 46263 := ⟨[108, 108, 105, 98], by unfold lets; decide, by decide, by decide⟩
theorem rsv11 : NM (rsv 11) 305537 := ⟨[101, 99, 110, 111], by unfold lets; decide, by decide, by decide⟩
theorem rsv12 : NM (rsv 12) 267347 := ⟨[116, 115, 111, 109], by unfold lets; decide, by decide, by decide⟩
theorem rsv13 : NM (rsv 13) 46 := ⟨[115, 97], by unfold lets; decide, by decide, by decide⟩
theorem rsv14 : NM (rsv 14) 10631 := ⟨[116, 111, 110], by unfold lets; decide, by decide, by decide⟩
theorem rsv15 : NM (rsv 15) 1111 := ⟨[100, 110, 97], by unfold lets; decide, by decide, by decide⟩
theorem rsv16 : NM (rsv 16) 423 := ⟨[114, 111], by unfold lets; decide, by decide, by decide⟩
theorem kw_s {x m : Int} (h : NM x m) : (if fnd rsv x 17 0 = -1 then 2 else 100 + fnd rsv x 17 0) = kw m := by
  have e0 := NM_iff rsv0 h
  have e1 := NM_iff rsv1 h
  have e2 := NM_iff rsv2 h
  have e3 := NM_iff rsv3 h
  have e4 := NM_iff rsv4 h
  have e5 := NM_iff rsv5 h
  have e6 := NM_iff rsv6 h
  have e7 := NM_iff rsv7 h
  have e8 := NM_iff rsv8 h
  have e9 := NM_iff rsv9 h
  have e10 := NM_iff rsv10 h
  have e11 := NM_iff rsv11 h
  have e12 := NM_iff rsv12 h
  have e13 := NM_iff rsv13 h
  have e14 := NM_iff rsv14 h
  have e15 := NM_iff rsv15 h
  have e16 := NM_iff rsv16 h
  unfold kw
  by_cases q0 : m = 394691
  · rw [if_pos q0]
    have z : fnd rsv x 17 0 = 0 := by
      simp only [fnd, Int.reduceAdd, if_pos (e0.mpr q0.symm)]
    rw [z]; rfl
  rw [if_neg q0]
  by_cases q1 : m = 8903
  · rw [if_pos q1]
    have z : fnd rsv x 17 0 = 1 := by
      simp only [fnd, Int.reduceAdd, if_pos (e1.mpr q1.symm), if_neg (fun z => q0 (e0.mp z).symm)]
    rw [z]; rfl
  rw [if_neg q1]
  by_cases q2 : m = 410684
  · rw [if_pos q2]
    have z : fnd rsv x 17 0 = 2 := by
      simp only [fnd, Int.reduceAdd, if_pos (e2.mpr q2.symm), if_neg (fun z => q0 (e0.mp z).symm), if_neg (fun z => q1 (e1.mp z).symm)]
    rw [z]; rfl
  rw [if_neg q2]
  by_cases q3 : m = 55175
  · rw [if_pos q3]
    have z : fnd rsv x 17 0 = 3 := by
      simp only [fnd, Int.reduceAdd, if_pos (e3.mpr q3.symm), if_neg (fun z => q0 (e0.mp z).symm), if_neg (fun z => q1 (e1.mp z).symm), if_neg (fun z => q2 (e2.mp z).symm)]
    rw [z]; rfl
  rw [if_neg q3]
  by_cases q4 : m = 60114
  · rw [if_pos q4]
    have z : fnd rsv x 17 0 = 4 := by
      simp only [fnd, Int.reduceAdd, if_pos (e4.mpr q4.symm), if_neg (fun z => q0 (e0.mp z).symm), if_neg (fun z => q1 (e1.mp z).symm), if_neg (fun z => q2 (e2.mp z).symm), if_neg (fun z => q3 (e3.mp z).symm)]
    rw [z]; rfl
  rw [if_neg q4]
  by_cases q5 : m = 249
  · rw [if_pos q5]
    have z : fnd rsv x 17 0 = 5 := by
      simp only [fnd, Int.reduceAdd, if_pos (e5.mpr q5.symm), if_neg (fun z => q0 (e0.mp z).symm), if_neg (fun z => q1 (e1.mp z).symm), if_neg (fun z => q2 (e2.mp z).symm), if_neg (fun z => q3 (e3.mp z).symm), if_neg (fun z => q4 (e4.mp z).symm)]
    rw [z]; rfl
  rw [if_neg q5]
  by_cases q6 : m = 107681
  · rw [if_pos q6]
    have z : fnd rsv x 17 0 = 6 := by
      simp only [fnd, Int.reduceAdd, if_pos (e6.mpr q6.symm), if_neg (fun z => q0 (e0.mp z).symm), if_neg (fun z => q1 (e1.mp z).symm), if_neg (fun z => q2 (e2.mp z).symm), if_neg (fun z => q3 (e3.mp z).symm), if_neg (fun z => q4 (e4.mp z).symm), if_neg (fun z => q5 (e5.mp z).symm)]
    rw [z]; rfl
  rw [if_neg q6]
  by_cases q7 : m = 4027
  · rw [if_pos q7]
    have z : fnd rsv x 17 0 = 7 := by
      simp only [fnd, Int.reduceAdd, if_pos (e7.mpr q7.symm), if_neg (fun z => q0 (e0.mp z).symm), if_neg (fun z => q1 (e1.mp z).symm), if_neg (fun z => q2 (e2.mp z).symm), if_neg (fun z => q3 (e3.mp z).symm), if_neg (fun z => q4 (e4.mp z).symm), if_neg (fun z => q5 (e5.mp z).symm), if_neg (fun z => q6 (e6.mp z).symm)]
    rw [z]; rfl
  rw [if_neg q7]
  by_cases q8 : m = 144941
  · rw [if_pos q8]
    have z : fnd rsv x 17 0 = 8 := by
      simp only [fnd, Int.reduceAdd, if_pos (e8.mpr q8.symm), if_neg (fun z => q0 (e0.mp z).symm), if_neg (fun z => q1 (e1.mp z).symm), if_neg (fun z => q2 (e2.mp z).symm), if_neg (fun z => q3 (e3.mp z).symm), if_neg (fun z => q4 (e4.mp z).symm), if_neg (fun z => q5 (e5.mp z).symm), if_neg (fun z => q6 (e6.mp z).symm), if_neg (fun z => q7 (e7.mp z).symm)]
    rw [z]; rfl
  rw [if_neg q8]
  by_cases q9 : m = 453774
  · rw [if_pos q9]
    have z : fnd rsv x 17 0 = 9 := by
      simp only [fnd, Int.reduceAdd, if_pos (e9.mpr q9.symm), if_neg (fun z => q0 (e0.mp z).symm), if_neg (fun z => q1 (e1.mp z).symm), if_neg (fun z => q2 (e2.mp z).symm), if_neg (fun z => q3 (e3.mp z).symm), if_neg (fun z => q4 (e4.mp z).symm), if_neg (fun z => q5 (e5.mp z).symm), if_neg (fun z => q6 (e6.mp z).symm), if_neg (fun z => q7 (e7.mp z).symm), if_neg (fun z => q8 (e8.mp z).symm)]
    rw [z]; rfl
  rw [if_neg q9]
  by_cases q10 : m = 46263
  · rw [if_pos q10]
    have z : fnd rsv x 17 0 = 10 := by
      simp only [fnd, Int.reduceAdd, if_pos (e10.mpr q10.symm), if_neg (fun z => q0 (e0.mp z).symm), if_neg (fun z => q1 (e1.mp z).symm), if_neg (fun z => q2 (e2.mp z).symm), if_neg (fun z => q3 (e3.mp z).symm), if_neg (fun z => q4 (e4.mp z).symm), if_neg (fun z => q5 (e5.mp z).symm), if_neg (fun z => q6 (e6.mp z).symm), if_neg (fun z => q7 (e7.mp z).symm), if_neg (fun z => q8 (e8.mp z).symm), if_neg (fun z => q9 (e9.mp z).symm)]
    rw [z]; rfl
  rw [if_neg q10]
  by_cases q11 : m = 305537
  · rw [if_pos q11]
    have z : fnd rsv x 17 0 = 11 := by
      simp only [fnd, Int.reduceAdd, if_pos (e11.mpr q11.symm), if_neg (fun z => q0 (e0.mp z).symm), if_neg (fun z => q1 (e1.mp z).symm), if_neg (fun z => q2 (e2.mp z).symm), if_neg (fun z => q3 (e3.mp z).symm), if_neg (fun z => q4 (e4.mp z).symm), if_neg (fun z => q5 (e5.mp z).symm), if_neg (fun z => q6 (e6.mp z).symm), if_neg (fun z => q7 (e7.mp z).symm), if_neg (fun z => q8 (e8.mp z).symm), if_neg (fun z => q9 (e9.mp z).symm), if_neg (fun z => q10 (e10.mp z).symm)]
    rw [z]; rfl
  rw [if_neg q11]
  by_cases q12 : m = 267347
  · rw [if_pos q12]
    have z : fnd rsv x 17 0 = 12 := by
      simp only [fnd, Int.reduceAdd, if_pos (e12.mpr q12.symm), if_neg (fun z => q0 (e0.mp z).symm), if_neg (fun z => q1 (e1.mp z).symm), if_neg (fun z => q2 (e2.mp z).symm), if_neg (fun z => q3 (e3.mp z).symm), if_neg (fun z => q4 (e4.mp z).symm), if_neg (fun z => q5 (e5.mp z).symm), if_neg (fun z => q6 (e6.mp z).symm), if_neg (fun z => q7 (e7.mp z).symm), if_neg (fun z => q8 (e8.mp z).symm), if_neg (fun z => q9 (e9.mp z).symm), if_neg (fun z => q10 (e10.mp z).symm), if_neg (fun z => q11 (e11.mp z).symm)]
    rw [z]; rfl
  rw [if_neg q12]
  by_cases q13 : m = 46
  · rw [if_pos q13]
    have z : fnd rsv x 17 0 = 13 := by
      simp only [fnd, Int.reduceAdd, if_pos (e13.mpr q13.symm), if_neg (fun z => q0 (e0.mp z).symm), if_neg (fun z => q1 (e1.mp z).symm), if_neg (fun z => q2 (e2.mp z).symm), if_neg (fun z => q3 (e3.mp z).symm), if_neg (fun z => q4 (e4.mp z).symm), if_neg (fun z => q5 (e5.mp z).symm), if_neg (fun z => q6 (e6.mp z).symm), if_neg (fun z => q7 (e7.mp z).symm), if_neg (fun z => q8 (e8.mp z).symm), if_neg (fun z => q9 (e9.mp z).symm), if_neg (fun z => q10 (e10.mp z).symm), if_neg (fun z => q11 (e11.mp z).symm), if_neg (fun z => q12 (e12.mp z).symm)]
    rw [z]; rfl
  rw [if_neg q13]
  by_cases q14 : m = 10631
  · rw [if_pos q14]
    have z : fnd rsv x 17 0 = 14 := by
      simp only [fnd, Int.reduceAdd, if_pos (e14.mpr q14.symm), if_neg (fun z => q0 (e0.mp z).symm), if_neg (fun z => q1 (e1.mp z).symm), if_neg (fun z => q2 (e2.mp z).symm), if_neg (fun z => q3 (e3.mp z).symm), if_neg (fun z => q4 (e4.mp z).symm), if_neg (fun z => q5 (e5.mp z).symm), if_neg (fun z => q6 (e6.mp z).symm), if_neg (fun z => q7 (e7.mp z).symm), if_neg (fun z => q8 (e8.mp z).symm), if_neg (fun z => q9 (e9.mp z).symm), if_neg (fun z => q10 (e10.mp z).symm), if_neg (fun z => q11 (e11.mp z).symm), if_neg (fun z => q12 (e12.mp z).symm), if_neg (fun z => q13 (e13.mp z).symm)]
    rw [z]; rfl
  rw [if_neg q14]
  by_cases q15 : m = 1111
  · rw [if_pos q15]
    have z : fnd rsv x 17 0 = 15 := by
      simp only [fnd, Int.reduceAdd, if_pos (e15.mpr q15.symm), if_neg (fun z => q0 (e0.mp z).symm), if_neg (fun z => q1 (e1.mp z).symm), if_neg (fun z => q2 (e2.mp z).symm), if_neg (fun z => q3 (e3.mp z).symm), if_neg (fun z => q4 (e4.mp z).symm), if_neg (fun z => q5 (e5.mp z).symm), if_neg (fun z => q6 (e6.mp z).symm), if_neg (fun z => q7 (e7.mp z).symm), if_neg (fun z => q8 (e8.mp z).symm), if_neg (fun z => q9 (e9.mp z).symm), if_neg (fun z => q10 (e10.mp z).symm), if_neg (fun z => q11 (e11.mp z).symm), if_neg (fun z => q12 (e12.mp z).symm), if_neg (fun z => q13 (e13.mp z).symm), if_neg (fun z => q14 (e14.mp z).symm)]
    rw [z]; rfl
  rw [if_neg q15]
  by_cases q16 : m = 423
  · rw [if_pos q16]
    have z : fnd rsv x 17 0 = 16 := by
      simp only [fnd, Int.reduceAdd, if_pos (e16.mpr q16.symm), if_neg (fun z => q0 (e0.mp z).symm), if_neg (fun z => q1 (e1.mp z).symm), if_neg (fun z => q2 (e2.mp z).symm), if_neg (fun z => q3 (e3.mp z).symm), if_neg (fun z => q4 (e4.mp z).symm), if_neg (fun z => q5 (e5.mp z).symm), if_neg (fun z => q6 (e6.mp z).symm), if_neg (fun z => q7 (e7.mp z).symm), if_neg (fun z => q8 (e8.mp z).symm), if_neg (fun z => q9 (e9.mp z).symm), if_neg (fun z => q10 (e10.mp z).symm), if_neg (fun z => q11 (e11.mp z).symm), if_neg (fun z => q12 (e12.mp z).symm), if_neg (fun z => q13 (e13.mp z).symm), if_neg (fun z => q14 (e14.mp z).symm), if_neg (fun z => q15 (e15.mp z).symm)]
    rw [z]; rfl
  rw [if_neg q16]
  have z : fnd rsv x 17 0 = -1 := by
    simp only [fnd, Int.reduceAdd, if_neg (fun z => q0 (e0.mp z).symm), if_neg (fun z => q1 (e1.mp z).symm), if_neg (fun z => q2 (e2.mp z).symm), if_neg (fun z => q3 (e3.mp z).symm), if_neg (fun z => q4 (e4.mp z).symm), if_neg (fun z => q5 (e5.mp z).symm), if_neg (fun z => q6 (e6.mp z).symm), if_neg (fun z => q7 (e7.mp z).symm), if_neg (fun z => q8 (e8.mp z).symm), if_neg (fun z => q9 (e9.mp z).symm), if_neg (fun z => q10 (e10.mp z).symm), if_neg (fun z => q11 (e11.mp z).symm), if_neg (fun z => q12 (e12.mp z).symm), if_neg (fun z => q13 (e13.mp z).symm), if_neg (fun z => q14 (e14.mp z).symm), if_neg (fun z => q15 (e15.mp z).symm), if_neg (fun z => q16 (e16.mp z).symm)]
  rw [z]; rfl
theorem fnd_g {g g' : Int → Int} {v : Int} : ∀ (k : Nat) (i : Int), (∀ j, i ≤ j → j < i + k → g j = g' j) → fnd g v k i = fnd g' v k i
  | k, i, h => fnd_c k i (fun j a b => by rw [h j a b])
/-- a token's kind with the class, out of what the reference has -/
def kOf (tk wd sg : Int) : Int := if tk = 0 then 1 else if tk = 1 then kw wd else if tk = 2 then 3 else if tk = 3 then sg else 0
/-- both tapes, both places -/
def TP (μ ν : am_M) : Prop := (0 ≤ μ 10 2) ∧ (μ 10 2 ≤ 1000) ∧ (ν 1000 3 = μ 10 2) ∧ (ν 1001 = μ 11) ∧ (ν 1000 4 = μ 10 4) ∧ (0 ≤ μ 10 4) ∧ (μ 10 4 ≤ μ 10 2) ∧ (∀ i, 0 ≤ i → i < 17 → μ 12 i = rsv i)
theorem TP.n0 {μ ν : am_M} (h : TP μ ν) : 0 ≤ μ 10 2 := h.1
theorem TP.n1 {μ ν : am_M} (h : TP μ ν) : μ 10 2 ≤ 1000 := h.2.1
theorem TP.len {μ ν : am_M} (h : TP μ ν) : ν 1000 3 = μ 10 2 := h.2.2.1
theorem TP.row {μ ν : am_M} (h : TP μ ν) : ν 1001 = μ 11 := h.2.2.2.1
theorem TP.at1 {μ ν : am_M} (h : TP μ ν) : ν 1000 4 = μ 10 4 := h.2.2.2.2.1
theorem TP.at2 {μ ν : am_M} (h : TP μ ν) : 0 ≤ μ 10 4 := h.2.2.2.2.2.1
theorem TP.at3 {μ ν : am_M} (h : TP μ ν) : μ 10 4 ≤ μ 10 2 := h.2.2.2.2.2.2.1
theorem TP.res {μ ν : am_M} (h : TP μ ν) : ∀ i, 0 ≤ i → i < 17 → μ 12 i = rsv i := h.2.2.2.2.2.2.2
theorem TP.mk {μ ν : am_M} (n0 : 0 ≤ μ 10 2) (n1 : μ 10 2 ≤ 1000) (len : ν 1000 3 = μ 10 2) (row : ν 1001 = μ 11) (at1 : ν 1000 4 = μ 10 4) (at2 : 0 ≤ μ 10 4) (at3 : μ 10 4 ≤ μ 10 2) (res : ∀ i, 0 ≤ i → i < 17 → μ 12 i = rsv i) : TP μ ν := ⟨n0, n1, len, row, at1, at2, at3, res⟩
/-- .. and the token that is looked at -/
def TR (μ ν : am_M) : Prop := (TP μ ν) ∧ (ν 1000 5 = μ 10 3) ∧ (0 ≤ μ 10 3) ∧ (μ 10 3 ≤ μ 10 4) ∧ (μ 10 5 = kOf (ν 1000 6) (ν 1000 7) (μ 11 (μ 10 3))) ∧ (0 ≤ ν 1000 6 ∧ ν 1000 6 ≤ 4) ∧ (ν 1000 6 = 0 ↔ μ 10 3 = μ 10 2) ∧ (ν 1000 6 = 3 → sSgn (μ 11 (μ 10 3)) = true) ∧ (ν 1000 6 ≠ 0 → μ 10 3 < μ 10 4) ∧ (ν 1000 6 = 1 → NM (μ 10 7) (ν 1000 7)) ∧ (ν 1000 6 = 2 → μ 10 6 = ν 1000 8 ∧ 0 ≤ μ 10 6 ∧ μ 10 6 ≤ 9999)
theorem TR.base {μ ν : am_M} (h : TR μ ν) : TP μ ν := h.1
theorem TR.beg {μ ν : am_M} (h : TR μ ν) : ν 1000 5 = μ 10 3 := h.2.1
theorem TR.be0 {μ ν : am_M} (h : TR μ ν) : 0 ≤ μ 10 3 := h.2.2.1
theorem TR.be1 {μ ν : am_M} (h : TR μ ν) : μ 10 3 ≤ μ 10 4 := h.2.2.2.1
theorem TR.kin {μ ν : am_M} (h : TR μ ν) : μ 10 5 = kOf (ν 1000 6) (ν 1000 7) (μ 11 (μ 10 3)) := h.2.2.2.2.1
theorem TR.tok {μ ν : am_M} (h : TR μ ν) : 0 ≤ ν 1000 6 ∧ ν 1000 6 ≤ 4 := h.2.2.2.2.2.1
theorem TR.tok0 {μ ν : am_M} (h : TR μ ν) : ν 1000 6 = 0 ↔ μ 10 3 = μ 10 2 := h.2.2.2.2.2.2.1
theorem TR.sgn {μ ν : am_M} (h : TR μ ν) : ν 1000 6 = 3 → sSgn (μ 11 (μ 10 3)) = true := h.2.2.2.2.2.2.2.1
theorem TR.lst {μ ν : am_M} (h : TR μ ν) : ν 1000 6 ≠ 0 → μ 10 3 < μ 10 4 := h.2.2.2.2.2.2.2.2.1
theorem TR.nam {μ ν : am_M} (h : TR μ ν) : ν 1000 6 = 1 → NM (μ 10 7) (ν 1000 7) := h.2.2.2.2.2.2.2.2.2.1
theorem TR.num {μ ν : am_M} (h : TR μ ν) : ν 1000 6 = 2 → μ 10 6 = ν 1000 8 ∧ 0 ≤ μ 10 6 ∧ μ 10 6 ≤ 9999 := h.2.2.2.2.2.2.2.2.2.2
theorem TR.mk {μ ν : am_M} (base : TP μ ν) (beg : ν 1000 5 = μ 10 3) (be0 : 0 ≤ μ 10 3) (be1 : μ 10 3 ≤ μ 10 4) (kin : μ 10 5 = kOf (ν 1000 6) (ν 1000 7) (μ 11 (μ 10 3))) (tok : 0 ≤ ν 1000 6 ∧ ν 1000 6 ≤ 4) (tok0 : ν 1000 6 = 0 ↔ μ 10 3 = μ 10 2) (sgn : ν 1000 6 = 3 → sSgn (μ 11 (μ 10 3)) = true) (lst : ν 1000 6 ≠ 0 → μ 10 3 < μ 10 4) (nam : ν 1000 6 = 1 → NM (μ 10 7) (ν 1000 7)) (num : ν 1000 6 = 2 → μ 10 6 = ν 1000 8 ∧ 0 ≤ μ 10 6 ∧ μ 10 6 ≤ 9999) : TR μ ν := ⟨base, beg, be0, be1, kin, tok, tok0, sgn, lst, nam, num⟩
theorem kwP {c : Prop} [Decidable c] {a b : Int} (h1 : 100 ≤ a ∧ a ≤ 116) (h2 : b = 2 ∨ (100 ≤ b ∧ b ≤ 116)) : (if c then a else b) = 2 ∨ (100 ≤ (if c then a else b) ∧ (if c then a else b) ≤ 116) := by
  by_cases h : c
  · rw [if_pos h]; exact Or.inr h1
  · rw [if_neg h]; exact h2
theorem kw_100 (m : Int) : kw m = 2 ∨ (100 ≤ kw m ∧ kw m ≤ 116) := by
  unfold kw
  exact kwP (by decide) (kwP (by decide) (kwP (by decide) (kwP (by decide) (kwP (by decide) (kwP (by decide) (kwP (by decide) (kwP (by decide) (kwP (by decide) (kwP (by decide) (kwP (by decide) (kwP (by decide) (kwP (by decide) (kwP (by decide) (kwP (by decide) (kwP (by decide) (kwP (by decide) (Or.inl rfl)))))))))))))))))
theorem TR_adv {μ ν : am_M} (h : TP μ ν) : ∃ μ' ν', Tp_advance μ = some (0, μ') ∧ M_nextToken ν = some (0, ν') ∧ TR μ' ν' ∧ (∀ c i, c ≠ 10 → μ' c i = μ c i) ∧ (∀ c i, ¬ (c = 1000 ∧ 4 ≤ i ∧ i ≤ 8) → ν' c i = ν c i) ∧ μ' 10 2 = μ 10 2 ∧ μ 10 4 ≤ μ' 10 3 := by
  obtain ⟨μ', a1, a2, a3, a4, a5, a6, a7, a8⟩ := Tp_advance_s (n := μ 10 2) rfl h.n1 h.at2 h.at3
  obtain ⟨ν', b1, b2, b3, b4, b5, b6, b7⟩ := M_nextToken_s (n := μ 10 2) h.len h.n1 (by rw [h.at1]; exact h.at2) (by rw [h.at1]; exact h.at3)
  have e11 : μ' 11 = μ 11 := funext fun i => a8 11 i (by decide)
  have e12 : ν' 1001 = ν 1001 := funext fun i => b7 1001 i (by omega)
  rw [h.row, h.at1] at b2 b3 b4 b5 b6
  obtain ⟨t1, t2⟩ := tkS_b (g := μ 11) h.at2 h.at3
  obtain ⟨u1, u2, u3⟩ := tkE_b (g := μ 11) h.at2 h.at3 h.n1
  generalize hS : tkS (μ 11) (μ 10 2) (μ 10 4) = S at *
  generalize hE : tkE (μ 11) (μ 10 2) (μ 10 4) = E at *
  have hL : ((tkL (μ 11) (μ 10 2) (μ 10 4) : Nat) : Int) = E - S := by
    unfold tkL
    rw [hS, hE]
    omega
  refine ⟨μ', ν', a1, b1, ?_, a8, b7, a7, by omega⟩
  have base : TP μ' ν' := ⟨by rw [a7]; exact h.n0, by rw [a7]; exact h.n1, by rw [b7 1000 3 (by omega), a7]; exact h.len, by rw [e12, e11]; exact h.row, by rw [b3, a3], by rw [a3]; have := h.at2; omega, by rw [a3, a7]; exact u2, fun i p q => by rw [a8 12 i (by decide)]; exact h.res i p q⟩
  have hk : ν' 1000 6 = mK (μ 11) (μ 10 2) (μ 10 4) := b4
  by_cases c0 : S = μ 10 2
  · have k1 : xK (μ 11) (μ 12) (μ 10 2) (μ 10 4) = 1 := by unfold xK; rw [hS, if_pos c0]
    have k2 : mK (μ 11) (μ 10 2) (μ 10 4) = 0 := by unfold mK; rw [hS, if_pos c0]
    rw [k1] at a4
    rw [k2] at hk
    exact (TR.mk (base := base) (beg := by rw [b2, a2]) (be0 := by rw [a2]; have := h.at2; omega) (be1 := by rw [a2, a3]; exact u1) (kin := by rw [a4, hk]; rfl) (tok := by rw [hk]; omega) (tok0 := by rw [hk, a2, a7]; exact ⟨fun _ => c0, fun _ => rfl⟩) (sgn := fun z => by rw [hk] at z; omega) (lst := fun z => absurd hk z) (nam := fun z => by rw [hk] at z; omega) (num := fun z => by rw [hk] at z; omega))
  · have lt : S < μ 10 2 := by omega
    have u4 := u3 lt
    by_cases c1 : sLet (μ 11 S) = true
    · by_cases c2 : E - S ≤ 8
      · have hlet := (tkE_let (g := μ 11) (by rw [hS]; exact c0) (by rw [hS]; exact c1)).2
        rw [hS, hE] at hlet
        have hN : NM (enc 32 (μ 11) S (tkL (μ 11) (μ 10 2) (μ 10 4))) (mW (μ 11) (μ 10 2) (μ 10 4)) := by
          refine ⟨ltr (μ 11) S (tkL (μ 11) (μ 10 2) (μ 10 4)), ltr_in _ _ _ (fun j p q => hlet j p (by omega)), enc_wE _ _ _ _, ?_⟩
          unfold mW
          rw [hS, if_pos ⟨c0, c1⟩, Nat.min_eq_left (by omega)]
          exact enc_wE _ _ _ _
        have k1 : xK (μ 11) (μ 12) (μ 10 2) (μ 10 4) = kw (mW (μ 11) (μ 10 2) (μ 10 4)) := by
          rw [← kw_s hN]
          unfold xK
          rw [hS, hE, if_neg c0, if_pos c1, if_pos c2, fnd_g (g' := rsv) 17 0 (fun j p q => h.res j p (by omega))]
        have k2 : mK (μ 11) (μ 10 2) (μ 10 4) = 1 := by unfold mK; rw [hS, hE, if_neg c0, if_pos c1, if_pos c2]
        rw [k1] at a4 a6
        rw [k2] at hk
        exact (TR.mk (base := base) (beg := by rw [b2, a2]) (be0 := by rw [a2]; have := h.at2; omega) (be1 := by rw [a2, a3]; exact u1) (kin := by rw [a4, hk, b5]; rfl) (tok := by rw [hk]; omega) (tok0 := by rw [hk, a2, a7]; exact ⟨fun z => by omega, fun z => absurd z c0⟩) (sgn := fun z => by rw [hk] at z; omega) (lst := fun _ => by rw [a2, a3]; exact u4) (nam := fun _ => by rw [b5, a6 ((kw_100 _).imp (fun z => z) (fun z => z.1))]; exact hN) (num := fun z => by rw [hk] at z; omega))
      · have k1 : xK (μ 11) (μ 12) (μ 10 2) (μ 10 4) = 0 := by unfold xK; rw [hS, hE, if_neg c0, if_pos c1, if_neg c2]
        have k2 : mK (μ 11) (μ 10 2) (μ 10 4) = 4 := by unfold mK; rw [hS, hE, if_neg c0, if_pos c1, if_neg c2]
        rw [k1] at a4
        rw [k2] at hk
        exact (TR.mk (base := base) (beg := by rw [b2, a2]) (be0 := by rw [a2]; have := h.at2; omega) (be1 := by rw [a2, a3]; exact u1) (kin := by rw [a4, hk]; rfl) (tok := by rw [hk]; omega) (tok0 := by rw [hk, a2, a7]; exact ⟨fun z => by omega, fun z => absurd z c0⟩) (sgn := fun z => by rw [hk] at z; omega) (lst := fun _ => by rw [a2, a3]; exact u4) (nam := fun z => by rw [hk] at z; omega) (num := fun z => by rw [hk] at z; omega))
    · by_cases c2 : sDig (μ 11 S) = true
      · by_cases c3 : E - S ≤ 4
        · have hdig := (tkE_dig (g := μ 11) (by rw [hS]; exact c0) (by rw [hS]; exact c2)).2
          rw [hS, hE] at hdig
          have k1 : xK (μ 11) (μ 12) (μ 10 2) (μ 10 4) = 3 := by unfold xK; rw [hS, hE, if_neg c0, if_neg c1, if_pos c2, if_pos c3]
          have k2 : mK (μ 11) (μ 10 2) (μ 10 4) = 2 := by unfold mK; rw [hS, hE, if_neg c0, if_neg c1, if_pos c2, if_pos c3]
          have k3 : mN (μ 11) (μ 10 2) (μ 10 4) = dec (μ 11) S (tkL (μ 11) (μ 10 2) (μ 10 4)) := by
            unfold mN
            rw [hS, if_pos ⟨c0, c2⟩, Nat.min_eq_left (by omega)]
          have k4 := dec_r (g := μ 11) (p := S) (tkL (μ 11) (μ 10 2) (μ 10 4)) (fun j p q => hdig j p (by omega))
          have k5 : (10 : Int) ^ (tkL (μ 11) (μ 10 2) (μ 10 4)) ≤ 10 ^ 4 := by
            have : tkL (μ 11) (μ 10 2) (μ 10 4) ≤ 4 := by omega
            have := Nat.pow_le_pow_right (show 10 > 0 by decide) this
            exact_mod_cast this
          rw [k1] at a4
          rw [k2] at hk
          exact (TR.mk (base := base) (beg := by rw [b2, a2]) (be0 := by rw [a2]; have := h.at2; omega) (be1 := by rw [a2, a3]; exact u1) (kin := by rw [a4, hk]; rfl) (tok := by rw [hk]; omega) (tok0 := by rw [hk, a2, a7]; exact ⟨fun z => by omega, fun z => absurd z c0⟩) (sgn := fun z => by rw [hk] at z; omega) (lst := fun _ => by rw [a2, a3]; exact u4) (nam := fun z => by rw [hk] at z; omega) (num := fun _ => by rw [b6, k3, a5 k1]; exact ⟨rfl, k4.1, by omega⟩))
        · have k1 : xK (μ 11) (μ 12) (μ 10 2) (μ 10 4) = 0 := by unfold xK; rw [hS, hE, if_neg c0, if_neg c1, if_pos c2, if_neg c3]
          have k2 : mK (μ 11) (μ 10 2) (μ 10 4) = 4 := by unfold mK; rw [hS, hE, if_neg c0, if_neg c1, if_pos c2, if_neg c3]
          rw [k1] at a4
          rw [k2] at hk
          exact (TR.mk (base := base) (beg := by rw [b2, a2]) (be0 := by rw [a2]; have := h.at2; omega) (be1 := by rw [a2, a3]; exact u1) (kin := by rw [a4, hk]; rfl) (tok := by rw [hk]; omega) (tok0 := by rw [hk, a2, a7]; exact ⟨fun z => by omega, fun z => absurd z c0⟩) (sgn := fun z => by rw [hk] at z; omega) (lst := fun _ => by rw [a2, a3]; exact u4) (nam := fun z => by rw [hk] at z; omega) (num := fun z => by rw [hk] at z; omega))
      · by_cases c3 : sSgn (μ 11 S) = true
        · have k1 : xK (μ 11) (μ 12) (μ 10 2) (μ 10 4) = μ 11 S := by unfold xK; rw [hS, if_neg c0, if_neg c1, if_neg c2, if_pos c3]
          have k2 : mK (μ 11) (μ 10 2) (μ 10 4) = 3 := by unfold mK; rw [hS, if_neg c0, if_neg c1, if_neg c2, if_pos c3]
          rw [k1] at a4
          rw [k2] at hk
          exact (TR.mk (base := base) (beg := by rw [b2, a2]) (be0 := by rw [a2]; have := h.at2; omega) (be1 := by rw [a2, a3]; exact u1) (kin := by rw [a4, hk, e11, a2]; rfl) (tok := by rw [hk]; omega) (tok0 := by rw [hk, a2, a7]; exact ⟨fun z => by omega, fun z => absurd z c0⟩) (sgn := fun _ => by rw [e11, a2]; exact c3) (lst := fun _ => by rw [a2, a3]; exact u4) (nam := fun z => by rw [hk] at z; omega) (num := fun z => by rw [hk] at z; omega))
        · have k1 : xK (μ 11) (μ 12) (μ 10 2) (μ 10 4) = 0 := by unfold xK; rw [hS, if_neg c0, if_neg c1, if_neg c2, if_neg c3]
          have k2 : mK (μ 11) (μ 10 2) (μ 10 4) = 4 := by unfold mK; rw [hS, if_neg c0, if_neg c1, if_neg c2, if_neg c3]
          rw [k1] at a4
          rw [k2] at hk
          exact (TR.mk (base := base) (beg := by rw [b2, a2]) (be0 := by rw [a2]; have := h.at2; omega) (be1 := by rw [a2, a3]; exact u1) (kin := by rw [a4, hk]; rfl) (tok := by rw [hk]; omega) (tok0 := by rw [hk, a2, a7]; exact ⟨fun z => by omega, fun z => absurd z c0⟩) (sgn := fun z => by rw [hk] at z; omega) (lst := fun _ => by rw [a2, a3]; exact u4) (nam := fun z => by rw [hk] at z; omega) (num := fun z => by rw [hk] at z; omega))
