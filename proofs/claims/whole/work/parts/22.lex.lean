/-! The tape: words, numbers, signs; both readers see the same tokens. -/
def sBlank (s : Int) : Bool := decide (s = 32 ∨ s = 10)
def sLet (s : Int) : Bool := decide (97 ≤ s ∧ s ≤ 122)
def sDig (s : Int) : Bool := decide (48 ≤ s ∧ s ≤ 57)
def sSgn (s : Int) : Bool := decide ((40 ≤ s ∧ s ≤ 43) ∨ s = 45 ∨ (59 ≤ s ∧ s ≤ 61))
/-- from p on as far as P holds, at most to n -/
def scan (P : Int → Bool) (g : Int → Int) (n : Int) : Nat → Int → Int
  | 0, p => p
  | k + 1, p => if p < n ∧ P (g p) = true then scan P g n k (p + 1) else p
theorem scan_ge (P : Int → Bool) (g : Int → Int) (n : Int) : ∀ (k : Nat) (p : Int), p ≤ scan P g n k p
  | 0, p => Int.le_refl _
  | k + 1, p => by
    unfold scan
    split
    · have := scan_ge P g n k (p + 1); omega
    · exact Int.le_refl _
theorem scan_le (P : Int → Bool) (g : Int → Int) (n : Int) : ∀ (k : Nat) (p : Int), p ≤ n → scan P g n k p ≤ n
  | 0, p, h => h
  | k + 1, p, h => by
    unfold scan
    split
    · exact scan_le P g n k (p + 1) (by omega)
    · exact h
theorem scan_in (P : Int → Bool) (g : Int → Int) (n : Int) : ∀ (k : Nat) (p j : Int), p ≤ j → j < scan P g n k p → P (g j) = true
  | 0, p, j, h1, h2 => by unfold scan at h2; omega
  | k + 1, p, j, h1, h2 => by
    unfold scan at h2
    split at h2
    · rename_i hc
      by_cases q : j = p
      · rw [q]; exact hc.2
      · exact scan_in P g n k (p + 1) j (by omega) h2
    · omega
/-- the end: the text's or the first that isn't P -/
theorem scan_end (P : Int → Bool) (g : Int → Int) (n : Int) : ∀ (k : Nat) (p : Int), p ≤ n → n - p ≤ (k : Int) → scan P g n k p = n ∨ (scan P g n k p < n ∧ P (g (scan P g n k p)) = false)
  | 0, p, h, h2 => by unfold scan; left; omega
  | k + 1, p, h, h2 => by
    unfold scan
    split
    · exact scan_end P g n k (p + 1) (by omega) (by omega)
    · rename_i hc
      by_cases q : p < n
      · right
        refine ⟨q, ?_⟩
        cases e : P (g p) with
        | false => rfl
        | true => exact absurd ⟨q, e⟩ hc
      · left; omega
theorem Tp_isBlank_s (v : Int) (μ : am_M) : Tp_isBlank v μ = some (if sBlank v = true then 1 else 0, μ) := by
  unfold Tp_isBlank sBlank
  by_cases h1 : v = 10
  · simp [h1]
  · by_cases h2 : v = 32
    · simp [h2]
    · simp [h1, h2]
theorem Tp_isLetter_s (v : Int) (μ : am_M) : Tp_isLetter v μ = some (if sLet v = true then 1 else 0, μ) := by
  unfold Tp_isLetter sLet
  by_cases h1 : v < 97
  · simp [h1]; omega
  · by_cases h2 : v ≤ 122
    · simp [h1, h2]; try omega
    · simp [h1, h2]
theorem Tp_isDigit_s (v : Int) (μ : am_M) : Tp_isDigit v μ = some (if sDig v = true then 1 else 0, μ) := by
  unfold Tp_isDigit sDig
  by_cases h1 : v < 48
  · simp [h1]; omega
  · by_cases h2 : v ≤ 57
    · simp [h1, h2]; try omega
    · simp [h1, h2]
theorem Tp_isSign_s (v : Int) (μ : am_M) : Tp_isSign v μ = some (if sSgn v = true then 1 else 0, μ) := by
  unfold Tp_isSign sSgn
  by_cases h : 40 ≤ v ∧ v ≤ 61
  · have : v = 40 ∨ v = 41 ∨ v = 42 ∨ v = 43 ∨ v = 44 ∨ v = 45 ∨ v = 46 ∨ v = 47 ∨ v = 48 ∨ v = 49 ∨ v = 50 ∨ v = 51 ∨ v = 52 ∨ v = 53 ∨ v = 54 ∨ v = 55 ∨ v = 56 ∨ v = 57 ∨ v = 58 ∨ v = 59 ∨ v = 60 ∨ v = 61 := by omega
    rcases this with h | h | h | h | h | h | h | h | h | h | h | h | h | h | h | h | h | h | h | h | h | h <;> (subst h; rfl)
  · have e : decide ((40 ≤ v ∧ v ≤ 43) ∨ v = 45 ∨ (59 ≤ v ∧ v ≤ 61)) = false := by
      rw [decide_eq_false_iff_not]; omega
    rw [e]
    have n : ∀ k : Int, 40 ≤ k → k ≤ 61 → ¬ v = k := fun k h1 h2 => by omega
    simp only [n 40 (by decide) (by decide), n 41 (by decide) (by decide), n 42 (by decide) (by decide), n 43 (by decide) (by decide), n 44 (by decide) (by decide), n 45 (by decide) (by decide), n 46 (by decide) (by decide), n 47 (by decide) (by decide), n 48 (by decide) (by decide), n 49 (by decide) (by decide), n 50 (by decide) (by decide), n 51 (by decide) (by decide), n 52 (by decide) (by decide), n 53 (by decide) (by decide), n 54 (by decide) (by decide), n 55 (by decide) (by decide), n 56 (by decide) (by decide), n 57 (by decide) (by decide), n 58 (by decide) (by decide), n 59 (by decide) (by decide), n 60 (by decide) (by decide), n 61 (by decide) (by decide), if_false]
    rfl
theorem w32_i {x : Int} (h1 : -2147483648 ≤ x) (h2 : x < 2147483648) : w32 x = x := w32_id ⟨h1, h2⟩
theorem w64_i {x : Int} (h1 : -9223372036854775808 ≤ x) (h2 : x < 9223372036854775808) : w64 x = x := w64_id ⟨h1, h2⟩
/-! the class's tape -/
theorem Tp_skip {n : Int} (hn : n ≤ 1000) : ∀ (k f : Nat) (p : Int) (μ : am_M), μ 10 2 = n → 0 ≤ p → p ≤ n → n - p ≤ (k : Int) → k < f → Tp_advance_L5 f p μ = Tp_advance_B33 (scan sBlank (μ 11) n k p) μ := by
  intro k
  induction k with
  | zero =>
    intro f p μ hm h0 h1 h2 hf
    cases f with
    | zero => omega
    | succ f =>
      show Tp_advance_L5_b (Tp_advance_L5 f) p μ = _
      unfold Tp_advance_L5_b
      rw [if_neg (by omega)]
      rfl
  | succ k ih =>
    intro f p μ hm h0 h1 h2 hf
    cases f with
    | zero => omega
    | succ f =>
      show Tp_advance_L5_b (Tp_advance_L5 f) p μ = _
      unfold Tp_advance_L5_b
      by_cases hp : p < n
      · rw [if_pos (by omega), X_at_11, q_bd_s, if_pos (by omega), Tp_isBlank_s, q_bd_s]
        unfold scan
        cases hb : sBlank (μ 11 p) with
        | true =>
          rw [if_neg (by simp), if_pos ⟨hp, rfl⟩, w32_i (by omega) (by omega)]
          exact ih f (p + 1) μ hm (by omega) (by omega) (by omega) (by omega)
        | false =>
          rw [if_pos (by simp), if_neg (by simp)]
      · rw [if_neg (by omega)]
        unfold scan
        rw [if_neg (by omega)]
/-- the number that letters come to -/
def enc (B : Int) (g : Int → Int) (p : Int) : Nat → Int
  | 0 => 0
  | k + 1 => enc B g p k * B + (g (p + k) - 96)
theorem enc_r {B : Int} {g : Int → Int} {p : Int} (hB : 27 ≤ B) : ∀ (k : Nat), (∀ j : Int, p ≤ j → j < p + k → sLet (g j) = true) → 0 ≤ enc B g p k ∧ enc B g p k < B ^ k
  | 0, _ => by simp [enc]
  | k + 1, h => by
    obtain ⟨h1, h2⟩ := enc_r hB k (fun j a b => h j a (by omega))
    have h3 := h (p + k) (by omega) (by omega)
    unfold sLet at h3
    have h3 := of_decide_eq_true h3
    unfold enc
    refine ⟨?_, ?_⟩
    · have := Int.mul_nonneg h1 (by omega : (0 : Int) ≤ B); omega
    · have e1 : enc B g p k + 1 ≤ B ^ k := by omega
      have e2 : (enc B g p k + 1) * B ≤ B ^ k * B := Int.mul_le_mul_of_nonneg_right e1 (by omega)
      rw [Int.pow_succ]
      have e3 : (enc B g p k + 1) * B = enc B g p k * B + B := by rw [Int.add_mul, Int.one_mul]
      omega
/-- the number that digits come to -/
def dec (g : Int → Int) (p : Int) : Nat → Int
  | 0 => 0
  | k + 1 => dec g p k * 10 + g (p + k) - 48
theorem dec_r {g : Int → Int} {p : Int} : ∀ (k : Nat), (∀ j : Int, p ≤ j → j < p + k → sDig (g j) = true) → 0 ≤ dec g p k ∧ dec g p k < 10 ^ k
  | 0, _ => by simp [dec]
  | k + 1, h => by
    obtain ⟨h1, h2⟩ := dec_r k (fun j a b => h j a (by omega))
    have h3 := h (p + k) (by omega) (by omega)
    unfold sDig at h3
    have h3 := of_decide_eq_true h3
    unfold dec
    refine ⟨by omega, ?_⟩
    rw [Int.pow_succ]
    omega
/-- the first place from i on, of k, where g is v; -1: none -/
def fnd (g : Int → Int) (v : Int) : Nat → Int → Int
  | 0, _ => -1
  | k + 1, i => if g i = v then i else fnd g v k (i + 1)
theorem fnd_b (g : Int → Int) (v : Int) : ∀ (k : Nat) (i : Int), 0 ≤ i → fnd g v k i = -1 ∨ (i ≤ fnd g v k i ∧ fnd g v k i < i + k ∧ g (fnd g v k i) = v)
  | 0, i, _ => Or.inl rfl
  | k + 1, i, h => by
    unfold fnd
    split
    · rename_i e; right; exact ⟨Int.le_refl _, by omega, e⟩
    · rcases fnd_b g v k (i + 1) (by omega) with h1 | ⟨h1, h2, h3⟩
      · exact Or.inl h1
      · right; exact ⟨by omega, by omega, h3⟩
theorem fnd_n (g : Int → Int) (v : Int) : ∀ (k : Nat) (i j : Int), fnd g v k i = -1 → 0 ≤ i → i ≤ j → j < i + k → g j ≠ v
  | 0, i, j, _, _, h1, h2 => by omega
  | k + 1, i, j, h, h0, h1, h2 => by
    unfold fnd at h
    split at h
    · omega
    · rename_i e
      by_cases q : j = i
      · rw [q]; exact e
      · exact fnd_n g v k (i + 1) j h (by omega) (by omega) (by omega)
theorem fnd_c {g g' : Int → Int} {v v' : Int} : ∀ (k : Nat) (i : Int), (∀ j, i ≤ j → j < i + k → (g j = v ↔ g' j = v')) → fnd g v k i = fnd g' v' k i
  | 0, i, _ => rfl
  | k + 1, i, h => by
    unfold fnd
    have h0 := h i (Int.le_refl _) (by omega)
    by_cases q : g i = v
    · rw [if_pos q, if_pos (h0.mp q)]
    · rw [if_neg q, if_neg (fun z => q (h0.mpr z))]
      exact fnd_c k (i + 1) (fun j a b => h j (by omega) (by omega))
theorem lCmp_0 {a b : Int} : lCmp a b = 0 ↔ a = b := by
  unfold lCmp
  split
  · constructor <;> intro h <;> omega
  · split
    · rename_i h; simp [h]
    · constructor <;> intro h <;> omega
theorem X_find_L {c n v L : Int} {μ : am_M} (hA : am_lenA c = L) (hK : am_lenK 1 c = L) (hn : n ≤ L) (hL : L < 100000) : ∀ (k f : Nat) (i : Int), 0 ≤ i → (i + k : Int) = n → k < f → X_find_L3 f c n v i μ = some (fnd (μ c) v k i, μ) := by
  intro k
  induction k with
  | zero =>
    intro f i h0 hi hf
    cases f with
    | zero => omega
    | succ f =>
      show X_find_L3_b (X_find_L3 f) c n v i μ = _
      unfold X_find_L3_b
      rw [if_neg (by omega)]
      rfl
  | succ k ih =>
    intro f i h0 hi hf
    cases f with
    | zero => omega
    | succ f =>
      show X_find_L3_b (X_find_L3 f) c n v i μ = _
      unfold X_find_L3_b
      rw [if_pos (by omega), q_len_s (by omega), hA, if_pos (by omega), hK, q_ld_s h0 (by omega)]
      unfold fnd
      by_cases q : μ c i = v
      · rw [if_pos (lCmp_0.mpr q), if_pos q]
      · rw [if_neg (fun z => q (lCmp_0.mp z)), if_neg q, w32_i (by omega) (by omega)]
        exact ih f (i + 1) (by omega) (by omega) (by omega)
theorem X_find_s {c n v L : Int} {μ : am_M} (hA : am_lenA c = L) (hK : am_lenK 1 c = L) (h0 : 0 ≤ n) (hn : n ≤ L) (hL : L < 100000) : X_find c n v μ = some (fnd (μ c) v n.toNat 0, μ) :=
  X_find_L hA hK hn hL n.toNat am_FU 0 (Int.le_refl _) (by omega) (by have := am_FU_ge; omega)
/-- letters with the machine's long numbers -/
def e64 (g : Int → Int) (p : Int) : Nat → Int
  | 0 => 0
  | k + 1 => w64 (w64 (e64 g p k * 32) + w32 (w32 (g (p + k) - 97) + 1))
theorem e64_s {g : Int → Int} {p : Int} : ∀ (k : Nat), k ≤ 8 → (∀ j : Int, p ≤ j → j < p + k → sLet (g j) = true) → e64 g p k = enc 32 g p k
  | 0, _, _ => rfl
  | k + 1, hk, h => by
    have ih := e64_s (g := g) (p := p) k (by omega) (fun j a b => h j a (by omega))
    obtain ⟨h1, h2⟩ := enc_r (B := 32) (g := g) (p := p) (by omega) k (fun j a b => h j a (by omega))
    have h3 := h (p + k) (by omega) (by omega)
    unfold sLet at h3
    have h3 := of_decide_eq_true h3
    have h4 : (32 : Int) ^ k ≤ 32 ^ 7 := by
      have : k ≤ 7 := by omega
      exact_mod_cast Nat.pow_le_pow_right (by omega : 0 < 32) this
    unfold e64 enc
    rw [ih]
    rw [w32_i (x := g (p + k) - 97) (by omega) (by omega), w32_i (by omega) (by omega)]
    have h5 : (32 : Int) ^ 7 = 34359738368 := by decide
    rw [w64_i (x := enc 32 g p k * 32) (by omega) (by omega), w64_i (by omega) (by omega)]
    omega
theorem Tp_withLetter_s (v0 v1 : Int) (μ : am_M) : Tp_withLetter v0 v1 μ = some (w64 (w64 (v0 * 32) + w32 (w32 (v1 - 97) + 1)), μ) := rfl
theorem Tp_word_L {n : Int} (hn : n ≤ 1000) {s0 : Int} (hs0 : 0 ≤ s0) {μ : am_M} (hm : μ 10 2 = n) : ∀ (k f : Nat) (p : Int) (c : Nat), s0 + c = p → p ≤ n → n - p ≤ (k : Int) → k < f → Tp_readWord_L5 f s0 (e64 (μ 11) s0 c) p μ = Tp_readWord_B49 s0 (e64 (μ 11) s0 (scan sLet (μ 11) n k p - s0).toNat) (scan sLet (μ 11) n k p) μ := by
  intro k
  induction k with
  | zero =>
    intro f p c hc h1 h2 hf
    cases f with
    | zero => omega
    | succ f =>
      show Tp_readWord_L5_b (Tp_readWord_L5 f) _ _ _ μ = _
      unfold Tp_readWord_L5_b scan
      rw [if_neg (by omega)]
      have : (p - s0).toNat = c := by omega
      rw [this]
  | succ k ih =>
    intro f p c hc h1 h2 hf
    cases f with
    | zero => omega
    | succ f =>
      show Tp_readWord_L5_b (Tp_readWord_L5 f) _ _ _ μ = _
      unfold Tp_readWord_L5_b scan
      by_cases hp : p < n
      · rw [if_pos (by omega), X_at_11, q_bd_s, if_pos (by omega), Tp_isLetter_s, q_bd_s]
        cases hb : sLet (μ 11 p) with
        | true =>
          rw [if_neg (by simp), if_pos ⟨hp, rfl⟩, X_at_11, q_bd_s, if_pos (by omega), Tp_withLetter_s, q_bd_s, w32_i (x := p + 1) (by omega) (by omega)]
          have e1 : w64 (w64 (e64 (μ 11) s0 c * 32) + w32 (w32 (μ 11 p - 97) + 1)) = e64 (μ 11) s0 (c + 1) := by
            conv => rhs; unfold e64
            rw [hc]
          rw [e1]
          exact ih f (p + 1) (c + 1) (by omega) (by omega) (by omega) (by omega)
        | false =>
          rw [if_pos (by simp), if_neg (by simp)]
          have : (p - s0).toNat = c := by omega
          rw [this]
      · rw [if_neg (by omega), if_neg (by omega)]
        have : (p - s0).toNat = c := by omega
        rw [this]
def d32 (g : Int → Int) (p : Int) : Nat → Int
  | 0 => 0
  | k + 1 => w32 (w32 (w32 (d32 g p k * 10) + g (p + k)) - 48)
theorem d32_s {g : Int → Int} {p : Int} : ∀ (k : Nat), k ≤ 4 → (∀ j : Int, p ≤ j → j < p + k → sDig (g j) = true) → d32 g p k = dec g p k
  | 0, _, _ => rfl
  | k + 1, hk, h => by
    have ih := d32_s (g := g) (p := p) k (by omega) (fun j a b => h j a (by omega))
    obtain ⟨h1, h2⟩ := dec_r (g := g) (p := p) k (fun j a b => h j a (by omega))
    have h3 := h (p + k) (by omega) (by omega)
    unfold sDig at h3
    have h3 := of_decide_eq_true h3
    have h4 : (10 : Int) ^ k ≤ 10 ^ 3 := by
      have : k ≤ 3 := by omega
      exact_mod_cast Nat.pow_le_pow_right (by omega : 0 < 10) this
    have h5 : (10 : Int) ^ 3 = 1000 := by decide
    unfold d32 dec
    rw [ih, w32_i (x := dec g p k * 10) (by omega) (by omega), w32_i (x := dec g p k * 10 + g (p + k)) (by omega) (by omega), w32_i (by omega) (by omega)]
theorem Tp_num_L {n : Int} (hn : n ≤ 1000) {s0 : Int} (hs0 : 0 ≤ s0) {μ : am_M} (hm : μ 10 2 = n) : ∀ (k f : Nat) (p : Int) (c : Nat), s0 + c = p → p ≤ n → n - p ≤ (k : Int) → k < f → Tp_readNumber_L4 f s0 (d32 (μ 11) s0 c) p μ = Tp_readNumber_B49 s0 (d32 (μ 11) s0 (scan sDig (μ 11) n k p - s0).toNat) (scan sDig (μ 11) n k p) μ := by
  intro k
  induction k with
  | zero =>
    intro f p c hc h1 h2 hf
    cases f with
    | zero => omega
    | succ f =>
      show Tp_readNumber_L4_b (Tp_readNumber_L4 f) _ _ _ μ = _
      unfold Tp_readNumber_L4_b scan
      rw [if_neg (by omega)]
      have : (p - s0).toNat = c := by omega
      rw [this]
  | succ k ih =>
    intro f p c hc h1 h2 hf
    cases f with
    | zero => omega
    | succ f =>
      show Tp_readNumber_L4_b (Tp_readNumber_L4 f) _ _ _ μ = _
      unfold Tp_readNumber_L4_b scan
      by_cases hp : p < n
      · rw [if_pos (by omega), X_at_11, q_bd_s, if_pos (by omega), Tp_isDigit_s, q_bd_s]
        cases hb : sDig (μ 11 p) with
        | true =>
          rw [if_neg (by simp), if_pos ⟨hp, rfl⟩, X_at_11, q_bd_s, if_pos (by omega), q_lt_d, w32_i (x := p + 1) (by omega) (by omega)]
          have e1 : w32 (w32 (w32 (d32 (μ 11) s0 c * 10) + μ 11 p) - 48) = d32 (μ 11) s0 (c + 1) := by
            conv => rhs; unfold d32
            rw [hc]
          rw [e1]
          exact ih f (p + 1) (c + 1) (by omega) (by omega) (by omega) (by omega)
        | false =>
          rw [if_pos (by simp), if_neg (by simp)]
          have : (p - s0).toNat = c := by omega
          rw [this]
      · rw [if_neg (by omega), if_neg (by omega)]
        have : (p - s0).toNat = c := by omega
        rw [this]
