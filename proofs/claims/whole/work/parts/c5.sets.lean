/-! Sets of sums. -/
def al (N : Int) : Int := ((2 ^ N.toNat : Nat) : Int) - 1
theorem al_all : ∀ n : Fin 11, w32 (aShl 1 (n.val : Int) - 1) = al (n.val : Int) := by decide +kernel
theorem al_w {N : Int} (h : 0 ≤ N ∧ N ≤ 10) : w32 (aShl 1 N - 1) = al N := by
  have := al_all ⟨N.toNat, by omega⟩
  have e : ((N.toNat : Nat) : Int) = N := by omega
  rw [← e]
  exact this
theorem al_r {N : Int} (h : 0 ≤ N ∧ N ≤ 10) : 0 ≤ al N ∧ al N ≤ 1023 := by
  have h1 : 2 ^ N.toNat ≤ 2 ^ 10 := Nat.pow_le_pow_right (by decide) (by omega)
  have h2 : 0 < 2 ^ N.toNat := Nat.pow_pos (by decide)
  unfold al
  omega
theorem al_S {N u : Int} (h : 0 ≤ N ∧ N ≤ 10) (hs : 0 ≤ u ∧ u ≤ al N) : S10 u := by
  have := al_r h
  unfold S10
  omega
theorem al_hi {N u j : Int} (h : 0 ≤ N ∧ N ≤ 10) (hs : 0 ≤ u ∧ u ≤ al N) (hj : N ≤ j) : tb u j = false := by
  rw [tb_nat (al_S h hs)]
  apply Nat.testBit_lt_two_pow
  have h1 : u.toNat < 2 ^ N.toNat := by have := hs.2; unfold al at this; omega
  exact Nat.lt_of_lt_of_le h1 (Nat.pow_le_pow_right (by decide) (by omega))
theorem al_of {N u : Int} (h : 0 ≤ N ∧ N ≤ 10) (hs : S10 u) (hb : ∀ j, N ≤ j → j < 10 → tb u j = false) : u ≤ al N := by
  have : u.toNat < 2 ^ N.toNat := by
    apply Nat.lt_pow_two_of_testBit
    intro i hi
    by_cases c : i < 10
    · have := hb (i : Int) (by omega) (by omega)
      rw [tb_nat hs] at this
      exact this
    · have := S10_hi hs (s := (i : Int)) (by omega)
      rw [tb_nat hs] at this
      exact this
  have := hs.1
  unfold al
  omega
theorem al_tb {N j : Int} (h : 0 ≤ N ∧ N ≤ 10) (h0 : 0 ≤ j) : tb (al N) j = decide (j < N) := by
  have h1 := al_r h
  rw [tb_nat (al_S h ⟨h1.1, Int.le_refl _⟩)]
  have h2 : 0 < 2 ^ N.toNat := Nat.pow_pos (by decide)
  have e : (al N).toNat = 2 ^ N.toNat - 1 := by unfold al; omega
  rw [e, Nat.testBit_two_pow_sub_one]
  by_cases c : j < N
  · rw [decide_eq_true c]; exact decide_eq_true (by omega)
  · rw [decide_eq_false c]; exact decide_eq_false (by omega)
theorem or_le {x y : Int} (hx : S10 x) (hy : S10 y) : x ≤ aOr x y := by
  have hz := S10_or hx hy
  have e : aOr x y = ((x.toNat ||| y.toNat : Nat) : Int) := by
    have b : x.toNat ||| y.toNat < 2 ^ 10 := Nat.or_lt_two_pow (by have := hx.2; omega) (by have := hy.2; omega)
    have hw : S10 ((x.toNat ||| y.toNat : Nat) : Int) := ⟨by omega, by omega⟩
    refine S10_ext hz hw (fun s p q => ?_)
    rw [tb_or, tb_nat hx, tb_nat hy, tb_nat hw, Int.toNat_natCast, Nat.testBit_or]
  have : x.toNat ≤ x.toNat ||| y.toNat := Nat.left_le_or
  have := hx.1
  omega
/-- the set with one more -/
def up (u k : Int) : Int := aOr u (aShl 1 k)
theorem up_tb {u k j : Int} (hk : 0 ≤ k ∧ k < 10) (h0 : 0 ≤ j) (h1 : j < 32) : tb (up u k) j = true ↔ tb u j = true ∨ j = k := by
  unfold up
  rw [tb_or, Bool.or_eq_true, tb_shl hk.1 (by omega) h0 h1, decide_eq_true_eq]
theorem up_gt {N u k : Int} (h : 0 ≤ N ∧ N ≤ 10) (hs : 0 ≤ u ∧ u ≤ al N) (hk : 0 ≤ k ∧ k < N) (hf : tb u k = false) : u < up u k ∧ up u k ≤ al N := by
  have S := al_S h hs
  have Sk := S10_shl hk.1 (show k < 10 by omega)
  have g := or_le S Sk
  have ne : u ≠ up u k := fun z => by
    have := (up_tb (u := u) (k := k) (j := k) (by omega) (by omega) (by omega)).mpr (Or.inr rfl)
    rw [← z, hf] at this
    cases this
  refine ⟨?_, al_of h (S10_or S Sk) (fun j p q => ?_)⟩
  · have : u ≤ up u k := g
    omega
  · cases t : tb (aOr u (aShl 1 k)) j with
    | false => exact t
    | true =>
      rcases (up_tb (u := u) (k := k) (j := j) (by omega) (by omega) (by omega)).mp t with z | z
      · rw [al_hi h hs p] at z; cases z
      · omega
/-- how many of the first -/
noncomputable def lvN (P : Int → Prop) : Nat → Int
  | 0 => 0
  | n + 1 => lvN P n + @ite Int (P n) (Classical.propDecidable _) 1 0
theorem lvN_y {P : Int → Prop} {n : Nat} (h : P n) : lvN P (n + 1) = lvN P n + 1 := by
  unfold lvN
  rw [if_pos h]
  cases n <;> rfl
theorem lvN_n {P : Int → Prop} {n : Nat} (h : ¬ P n) : lvN P (n + 1) = lvN P n := by
  have e : lvN P (n + 1) = lvN P n + @ite Int (P n) (Classical.propDecidable _) 1 0 := rfl
  rw [e, if_neg h]
  omega
theorem lvN_r (P : Int → Prop) : ∀ n : Nat, 0 ≤ lvN P n ∧ lvN P n ≤ n
  | 0 => ⟨Int.le_refl _, Int.le_refl _⟩
  | n + 1 => by
    have := lvN_r P n
    rcases Classical.em (P n) with c | c
    · rw [lvN_y c]; omega
    · rw [lvN_n c]; omega
theorem lvN_cong {P Q : Int → Prop} : ∀ n : Nat, (∀ j : Int, 0 ≤ j → j < n → (P j ↔ Q j)) → lvN P n = lvN Q n
  | 0, _ => rfl
  | n + 1, h => by
    have ih := lvN_cong n (fun j p q => h j p (by omega))
    have := h n (by omega) (by omega)
    rcases Classical.em (P n) with c | c
    · rw [lvN_y c, lvN_y (this.mp c), ih]
    · rw [lvN_n c, lvN_n (fun z => c (this.mpr z)), ih]
theorem lvN_add {P Q : Int → Prop} {k : Int} (h0 : 0 ≤ k) (hk : ¬ P k) (h : ∀ j, 0 ≤ j → (Q j ↔ P j ∨ j = k)) : ∀ n : Nat, lvN Q n = lvN P n + if k < n then 1 else 0
  | 0 => by rw [if_neg (by omega)]; rfl
  | n + 1 => by
    have ih := lvN_add h0 hk h n
    have hn := h n (by omega)
    by_cases c : (n : Int) = k
    · rw [lvN_y (hn.mpr (Or.inr c)), lvN_n (P := P) (by rw [c]; exact hk), ih, if_neg (by omega), if_pos (by omega)]
      omega
    · have e : (if k < ((n + 1 : Nat) : Int) then (1 : Int) else 0) = if k < (n : Int) then 1 else 0 := by
        by_cases d : k < n
        · rw [if_pos d, if_pos (by omega)]
        · rw [if_neg d, if_neg (by omega)]
      rw [e]
      rcases Classical.em (P n) with d | d
      · rw [lvN_y d, lvN_y (hn.mpr (Or.inl d)), ih]; omega
      · rw [lvN_n d, lvN_n (fun z => (hn.mp z).elim d c), ih]
theorem lvN_all {P : Int → Prop} : ∀ n : Nat, (∀ j : Int, 0 ≤ j → j < n → P j) → lvN P n = n
  | 0, _ => rfl
  | n + 1, h => by
    rw [lvN_y (h n (by omega) (by omega)), lvN_all n (fun j p q => h j p (by omega))]
    omega
theorem lvN_0 {P : Int → Prop} : ∀ n : Nat, (∀ j : Int, 0 ≤ j → j < n → ¬ P j) → lvN P n = 0
  | 0, _ => rfl
  | n + 1, h => by rw [lvN_n (h n (by omega) (by omega)), lvN_0 n (fun j p q => h j p (by omega))]
/-- sum k may come next -/
def NXT (R : Int → Int → Prop) (t N u k : Int) : Prop := tb u k = false ∧ ∀ j, 0 ≤ j → j < N → R k (t + j) → tb u j = true
/-- slip s is on the table, wanted yet -/
def LIV (R : Int → Int → Prop) (t N u s : Int) : Prop := (s < t ∨ tb u (s - t) = true) ∧ ∃ k, 0 ≤ k ∧ k ≤ N ∧ R k s ∧ tb u k = false
noncomputable def lv (R : Int → Int → Prop) (t N u : Int) : Int := lvN (LIV R t N u) (t + N).toNat
/-- the least of those that may come next -/
noncomputable def mf (P : Int → Prop) (g : Int → Int) (a : Int) : Nat → Int
  | 0 => a
  | n + 1 => @ite Int (P n) (Classical.propDecidable _) (if g n < mf P g a n then g n else mf P g a n) (mf P g a n)
theorem mf_y {P : Int → Prop} {g : Int → Int} {a : Int} {n : Nat} (h : P n) : mf P g a (n + 1) = if g n < mf P g a n then g n else mf P g a n := if_pos h
theorem mf_n {P : Int → Prop} {g : Int → Int} {a : Int} {n : Nat} (h : ¬ P n) : mf P g a (n + 1) = mf P g a n := if_neg h
theorem mf_cong {P : Int → Prop} {g g' : Int → Int} {a : Int} : ∀ n : Nat, (∀ k : Int, 0 ≤ k → k < n → P k → g k = g' k) → mf P g a n = mf P g' a n
  | 0, _ => rfl
  | n + 1, h => by
    have ih := mf_cong (a := a) n (fun j p q => h j p (by omega))
    rcases Classical.em (P n) with c | c
    · rw [mf_y c, mf_y c, ih, h n (by omega) (by omega) c]
    · rw [mf_n c, mf_n c, ih]
theorem mf_le {P : Int → Prop} {g : Int → Int} {a : Int} : ∀ n : Nat, mf P g a n ≤ a ∧ ∀ k : Int, 0 ≤ k → k < n → P k → mf P g a n ≤ g k
  | 0 => ⟨Int.le_refl _, fun k p q => by omega⟩
  | n + 1 => by
    obtain ⟨i1, i2⟩ := mf_le (P := P) (g := g) (a := a) n
    rcases Classical.em (P n) with c | c
    · rw [mf_y c]
      by_cases d : g n < mf P g a n
      · rw [if_pos d]
        refine ⟨by omega, fun k p q r => ?_⟩
        by_cases y : k = n
        · rw [y]; exact Int.le_refl _
        · have := i2 k p (by omega) r; omega
      · rw [if_neg d]
        refine ⟨i1, fun k p q r => ?_⟩
        by_cases y : k = n
        · rw [y]; omega
        · exact i2 k p (by omega) r
    · rw [mf_n c]
      refine ⟨i1, fun k p q r => ?_⟩
      by_cases y : k = n
      · rw [y] at r; exact absurd r c
      · exact i2 k p (by omega) r
theorem mf_in {P : Int → Prop} {g : Int → Int} {a : Int} : ∀ n : Nat, mf P g a n = a ∨ ∃ k : Int, 0 ≤ k ∧ k < n ∧ P k ∧ mf P g a n = g k
  | 0 => Or.inl rfl
  | n + 1 => by
    have ih := mf_in (P := P) (g := g) (a := a) n
    have old : mf P g a (n + 1) = mf P g a n → mf P g a (n + 1) = a ∨ ∃ k : Int, 0 ≤ k ∧ k < ((n + 1 : Nat) : Int) ∧ P k ∧ mf P g a (n + 1) = g k := by
      intro e
      rw [e]
      rcases ih with z | ⟨k, z1, z2, z3, z4⟩
      · exact Or.inl z
      · exact Or.inr ⟨k, z1, by omega, z3, z4⟩
    rcases Classical.em (P n) with c | c
    · by_cases d : g n < mf P g a n
      · exact Or.inr ⟨n, by omega, by omega, c, by rw [mf_y c, if_pos d]⟩
      · exact old (by rw [mf_y c, if_neg d])
    · exact old (mf_n c)
def mx (x y : Int) : Int := if x < y then y else x
theorem mx_g (x y : Int) : x ≤ mx x y ∧ y ≤ mx x y ∧ (mx x y = x ∨ mx x y = y) := by
  unfold mx
  by_cases c : x < y
  · rw [if_pos c]; omega
  · rw [if_neg c]; omega
/-- the best from every set on -/
def BST (R : Int → Int → Prop) (t N a : Int) (g : Int → Int) : Prop := ∀ u, 0 ≤ u → u ≤ al N → g u = mx (mf (NXT R t N u) (fun k => g (up u k)) (if u = al N then 0 else a) N.toNat) (lv R t N u)
/-- what is read is laid ahead -/
def AHD (R : Int → Int → Prop) (t N : Int) : Prop := (0 ≤ t ∧ 0 ≤ N ∧ t + N ≤ 10) ∧ ∀ k s, 0 ≤ k → k ≤ N → R k s → 0 ≤ s ∧ s < t + k
theorem first_no (u : Int) : ∀ n : Nat, (∀ j : Int, 0 ≤ j → j < n → tb u j = true) ∨ ∃ k : Int, 0 ≤ k ∧ k < n ∧ tb u k = false ∧ ∀ j, 0 ≤ j → j < k → tb u j = true
  | 0 => Or.inl (fun j p q => by omega)
  | n + 1 => by
    rcases first_no u n with h | ⟨k, h1, h2, h3⟩
    · cases c : tb u n with
      | true =>
        refine Or.inl (fun j p q => ?_)
        by_cases y : j = n
        · rw [y]; exact c
        · exact h j p (by omega)
      | false => exact Or.inr ⟨n, by omega, by omega, c, h⟩
    · exact Or.inr ⟨k, h1, by omega, h3⟩
theorem NXT_ex {R : Int → Int → Prop} {t N u : Int} (h : AHD R t N) (hu : 0 ≤ u ∧ u ≤ al N) (hne : u ≠ al N) : ∃ k, 0 ≤ k ∧ k < N ∧ NXT R t N u k := by
  obtain ⟨⟨t0, N0, h10⟩, h2⟩ := h
  have hN : 0 ≤ N ∧ N ≤ 10 := ⟨N0, by omega⟩
  have ar := al_r hN
  rcases first_no u N.toNat with z | ⟨k, z1, z2, z3, z4⟩
  · refine absurd (S10_ext (al_S hN hu) (al_S hN ⟨ar.1, Int.le_refl _⟩) (fun s p q => ?_)) hne
    rw [al_tb hN p]
    by_cases c : s < N
    · rw [decide_eq_true c]; exact z s p (by omega)
    · rw [decide_eq_false c]; exact al_hi hN hu (by omega)
  · refine ⟨k, z1, by omega, z3, fun j p q r => ?_⟩
    have := h2 k (t + j) z1 (by omega) r
    exact z4 j p (by omega)
theorem NXT_al {R : Int → Int → Prop} {t N k : Int} (h : AHD R t N) (hk : 0 ≤ k ∧ k < N) : ¬ NXT R t N (al N) k := by
  obtain ⟨⟨t0, N0, h10⟩, h2⟩ := h
  intro z
  have := z.1
  rw [al_tb ⟨N0, by omega⟩ hk.1, decide_eq_true hk.2] at this
  cases this
theorem lv_r {R : Int → Int → Prop} {t N : Int} (h : AHD R t N) (u : Int) : 0 ≤ lv R t N u ∧ lv R t N u ≤ 10 := by
  obtain ⟨⟨t0, N0, h10⟩, -⟩ := h
  have := lvN_r (LIV R t N u) (t + N).toNat
  unfold lv
  omega
theorem BST_u {R : Int → Int → Prop} {t N a a' : Int} {g g' : Int → Int} (h : AHD R t N) (ha : 1000 ≤ a) (ha' : 1000 ≤ a') (hg : BST R t N a g) (hg' : BST R t N a' g') : ∀ (n : Nat) (u : Int), al N - u = n → 0 ≤ u → g u = g' u ∧ 0 ≤ g u ∧ g u ≤ 10 := by
  have hN : 0 ≤ N ∧ N ≤ 10 := ⟨h.1.2.1, by have := h.1; omega⟩
  intro n
  induction n using Nat.strongRecOn with
  | ind n ih =>
    intro u hn h0
    have e1 := hg u h0 (by omega)
    have e2 := hg' u h0 (by omega)
    have lr := lv_r h u
    have ih' : ∀ k : Int, 0 ≤ k → k < N.toNat → NXT R t N u k → g (up u k) = g' (up u k) ∧ 0 ≤ g (up u k) ∧ g (up u k) ≤ 10 := fun k p q r => by
      have := up_gt hN ⟨h0, by omega⟩ (show 0 ≤ k ∧ k < N by omega) r.1
      exact ih (al N - up u k).toNat (by omega) (up u k) (by omega) (by omega)
    by_cases c : u = al N
    · rw [if_pos c] at e1 e2
      have x1 : mf (NXT R t N u) (fun k => g (up u k)) 0 N.toNat = 0 := by
        rcases mf_in (P := NXT R t N u) (g := fun k => g (up u k)) (a := 0) N.toNat with z | ⟨k, z1, z2, z3, -⟩
        · exact z
        · rw [c] at z3; exact absurd z3 (NXT_al h (by omega))
      have x2 : mf (NXT R t N u) (fun k => g' (up u k)) 0 N.toNat = 0 := by
        rcases mf_in (P := NXT R t N u) (g := fun k => g' (up u k)) (a := 0) N.toNat with z | ⟨k, z1, z2, z3, -⟩
        · exact z
        · rw [c] at z3; exact absurd z3 (NXT_al h (by omega))
      rw [x1] at e1
      rw [x2] at e2
      have := mx_g 0 (lv R t N u)
      rw [e1, e2]
      omega
    · rw [if_neg c] at e1 e2
      obtain ⟨k, k0, k1, k2⟩ := NXT_ex h ⟨h0, by omega⟩ c
      have b := mf_le (P := NXT R t N u) (g := fun k => g (up u k)) (a := a) N.toNat
      have b' := mf_le (P := NXT R t N u) (g := fun k => g' (up u k)) (a := a') N.toNat
      have y1 := b.2 k k0 (by omega) k2
      have y2 := b'.2 k k0 (by omega) k2
      have y3 := ih' k k0 (by omega) k2
      rcases mf_in (P := NXT R t N u) (g := fun k => g (up u k)) (a := a) N.toNat with z | ⟨i, z1, z2, z3, z4⟩
      · have : a ≤ g (up u k) := by rw [← z]; exact y1
        omega
      rcases mf_in (P := NXT R t N u) (g := fun k => g' (up u k)) (a := a') N.toNat with w | ⟨i', w1, w2, w3, w4⟩
      · have : a' ≤ g' (up u k) := by rw [← w]; exact y2
        omega
      have v1 := ih' i z1 z2 z3
      have v2 := ih' i' w1 w2 w3
      have q1 := b.2 i' w1 w2 w3
      have q2 := b'.2 i z1 z2 z3
      have z4' : mf (NXT R t N u) (fun k => g (up u k)) a N.toNat = g (up u i) := z4
      have w4' : mf (NXT R t N u) (fun k => g' (up u k)) a' N.toNat = g' (up u i') := w4
      have q1' : mf (NXT R t N u) (fun k => g (up u k)) a N.toNat ≤ g (up u i') := q1
      have q2' : mf (NXT R t N u) (fun k => g' (up u k)) a' N.toNat ≤ g' (up u i) := q2
      have m1 := mx_g (mf (NXT R t N u) (fun k => g (up u k)) a N.toNat) (lv R t N u)
      have e : mf (NXT R t N u) (fun k => g (up u k)) a N.toNat = mf (NXT R t N u) (fun k => g' (up u k)) a' N.toNat := by omega
      rw [← e] at e2
      rw [e1, e2]
      omega
/-- on the way of the best, there is a next -/
theorem BST_go {R : Int → Int → Prop} {t N a : Int} {g : Int → Int} (h : AHD R t N) (ha : 1000 ≤ a) (hg : BST R t N a g) {u c : Int} (hc : c ≤ 10) (h0 : 0 ≤ u ∧ u ≤ al N) (hne : u ≠ al N) (hu : g u ≤ c) : ∃ k, 0 ≤ k ∧ k < N ∧ NXT R t N u k ∧ g (up u k) ≤ c := by
  have e1 := hg u h0.1 h0.2
  rw [if_neg hne] at e1
  have m1 := mx_g (mf (NXT R t N u) (fun k => g (up u k)) a N.toNat) (lv R t N u)
  rcases mf_in (P := NXT R t N u) (g := fun k => g (up u k)) (a := a) N.toNat with z | ⟨i, z1, z2, z3, z4⟩
  · omega
  · refine ⟨i, z1, by omega, z3, ?_⟩
    have z4' : mf (NXT R t N u) (fun k => g (up u k)) a N.toNat = g (up u i) := z4
    omega
/-- how many are in -/
noncomputable def cb (N u : Int) : Int := lvN (fun j => tb u j = true) N.toNat
theorem cb_0 (N : Int) : cb N 0 = 0 := lvN_0 _ (fun j _ _ => by rw [tb_0]; exact fun z => by cases z)
theorem cb_up {N u k : Int} (hN : 0 ≤ N ∧ N ≤ 10) (hk : 0 ≤ k ∧ k < N) (hf : tb u k = false) : cb N (up u k) = cb N u + 1 := by
  have e : cb N (up u k) = lvN (fun j => tb u j = true ∨ j = k) N.toNat := lvN_cong _ (fun j p q => up_tb (by omega) p (by omega))
  rw [e]
  have := lvN_add (P := fun j => tb u j = true) (Q := fun j => tb u j = true ∨ j = k) (k := k) hk.1 (by rw [hf]; exact fun z => by cases z) (fun j _ => Iff.rfl) N.toNat
  rw [if_pos (by omega)] at this
  exact this
theorem cb_al {N : Int} (hN : 0 ≤ N ∧ N ≤ 10) : cb N (al N) = N := by
  have := lvN_all (P := fun j => tb (al N) j = true) N.toNat (fun j p q => by rw [al_tb hN p]; exact decide_eq_true (by omega))
  unfold cb
  omega
