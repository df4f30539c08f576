/-! How many bits, the lowest bit. -/
def b2 (b : Bool) : Int := if b = true then 1 else 0
def pcn (x : Int) : Nat → Int
  | 0 => 0
  | n + 1 => pcn x n + b2 (tb x n)
def pc (x : Int) : Int := pcn x 10
def bcI (v0 : Int) : Int :=
  let a1 := w32 (v0 - (aAnd (aUshr v0 1) 1431655765))
  let a2 := w32 ((aAnd a1 858993459) + (aAnd (aUshr a1 2) 858993459))
  let a3 := aAnd (w32 (a2 + (aUshr a2 4))) 252645135
  let a4 := w32 ((w32 (a3 + (aUshr a3 8))) + (aUshr (w32 (a3 + (aUshr a3 8))) 16))
  aAnd a4 63
theorem bc_all : ∀ n : Fin 1024, bcI (n.val : Int) = pc (n.val : Int) := by decide +kernel
theorem bitCount_s {x : Int} {μ : am_M} (h : S10 x) : JI_bitCount x μ = some (pc x, μ) := by
  have e : JI_bitCount x μ = some (bcI x, μ) := rfl
  have := bc_all ⟨x.toNat, by have := h.2; omega⟩
  have e1 : ((x.toNat : Nat) : Int) = x := by have := h.1; omega
  simp only [e1] at this
  rw [e, this]
def n74 (v0 v1 : Int) : Int := w32 (v1 + (aUshr v0 1))
def n62 (v0 v1 : Int) : Int := if v0 ≤ 4 then n74 v0 v1 else n74 (aUshr v0 2) (w32 (v1 + 2))
def n49 (v0 v1 : Int) : Int := if v0 ≤ 16 then n62 v0 v1 else n62 (aUshr v0 4) (w32 (v1 + 4))
def n34 (v0 v1 : Int) : Int := if v0 ≤ 256 then n49 v0 v1 else n49 (aUshr v0 8) (w32 (v1 + 8))
def nzI (v0 : Int) : Int := if (aAnd (aXor v0 (-1)) (w32 (v0 - 1))) ≤ 0 then (aAnd (aAnd (aXor v0 (-1)) (w32 (v0 - 1))) 32) else (if (aAnd (aXor v0 (-1)) (w32 (v0 - 1))) ≤ 65536 then n34 (aAnd (aXor v0 (-1)) (w32 (v0 - 1))) 1 else n34 (aUshr (aAnd (aXor v0 (-1)) (w32 (v0 - 1))) 16) (w32 (1 + 16)))
theorem n62_s (v0 v1 : Int) (μ : am_M) : JI_ntz_B62 v0 v1 μ = some (n62 v0 v1, μ) := by
  unfold JI_ntz_B62 n62
  by_cases c : v0 ≤ 4
  · rw [if_pos c, if_pos c]; rfl
  · rw [if_neg c, if_neg c]; rfl
theorem n49_s (v0 v1 : Int) (μ : am_M) : JI_ntz_B49 v0 v1 μ = some (n49 v0 v1, μ) := by
  unfold JI_ntz_B49 n49
  by_cases c : v0 ≤ 16
  · rw [if_pos c, if_pos c, n62_s]
  · rw [if_neg c, if_neg c, n62_s]
theorem n34_s (v0 v1 : Int) (μ : am_M) : JI_ntz_B34 v0 v1 μ = some (n34 v0 v1, μ) := by
  unfold JI_ntz_B34 n34
  by_cases c : v0 ≤ 256
  · rw [if_pos c, if_pos c, n49_s]
  · rw [if_neg c, if_neg c, n49_s]
theorem nz_e (v0 : Int) (μ : am_M) : JI_ntz v0 μ = some (nzI v0, μ) := by
  unfold JI_ntz nzI
  by_cases c : (aAnd (aXor v0 (-1)) (w32 (v0 - 1))) ≤ 0
  · rw [if_pos c, if_pos c]
  · rw [if_neg c, if_neg c]
    by_cases d : (aAnd (aXor v0 (-1)) (w32 (v0 - 1))) ≤ 65536
    · rw [if_pos d, if_pos d, n34_s]
    · rw [if_neg d, if_neg d, q_lt_d, n34_s]
def low (x : Int) : Nat → Int → Int
  | 0, _ => -1
  | n + 1, i => if tb x i = true then i else low x n (i + 1)
theorem nz_all : ∀ n : Fin 1024, n.val ≠ 0 → nzI (n.val : Int) = low (n.val : Int) 10 0 := by decide +kernel
theorem ntz_s {x : Int} {μ : am_M} (h : S10 x) (h0 : x ≠ 0) : JI_ntz x μ = some (low x 10 0, μ) := by
  have e1 : ((x.toNat : Nat) : Int) = x := by have := h.1; omega
  have := nz_all ⟨x.toNat, by have := h.2; omega⟩ (by show x.toNat ≠ 0; omega)
  simp only [e1] at this
  rw [nz_e, this]
theorem low_s {x : Int} : ∀ (n : Nat) (i : Int), (low x n i = -1 ∧ ∀ s, i ≤ s → s < i + n → tb x s = false) ∨ (i ≤ low x n i ∧ low x n i < i + n ∧ tb x (low x n i) = true ∧ ∀ s, i ≤ s → s < low x n i → tb x s = false)
  | 0, i => Or.inl ⟨rfl, fun s a b => by omega⟩
  | n + 1, i => by
    have e : low x (n + 1) i = if tb x i = true then i else low x n (i + 1) := rfl
    rw [e]
    by_cases c : tb x i = true
    · rw [if_pos c]
      exact Or.inr ⟨Int.le_refl _, by omega, c, fun s a b => by omega⟩
    · rw [if_neg c]
      have c' : tb x i = false := by cases h : tb x i with
        | true => exact absurd h c
        | false => rfl
      rcases low_s (x := x) n (i + 1) with ⟨h1, h2⟩ | ⟨h1, h2, h3, h4⟩
      · refine Or.inl ⟨h1, fun s a b => ?_⟩
        by_cases z : s = i
        · rw [z]; exact c'
        · exact h2 s (by omega) (by omega)
      · refine Or.inr ⟨by omega, by omega, h3, fun s a b => ?_⟩
        by_cases z : s = i
        · rw [z]; exact c'
        · exact h4 s (by omega) b
theorem pcn_r (x : Int) : ∀ n : Nat, 0 ≤ pcn x n ∧ pcn x n ≤ n
  | 0 => ⟨Int.le_refl _, Int.le_refl _⟩
  | n + 1 => by
    have := pcn_r x n
    unfold pcn b2
    split <;> omega
theorem pcn_hi {x : Int} (h : S10 x) : pcn x 12 = pc x := by
  show pcn x 10 + b2 (tb x ((10 : Nat) : Int)) + b2 (tb x ((11 : Nat) : Int)) = _
  rw [S10_hi h (by decide), S10_hi h (by decide)]
  show pcn x 10 + 0 + 0 = pcn x 10
  omega
theorem bits_L {x : Int} {ν : am_M} : ∀ (n f : Nat) (k : Nat), k + n = 12 → n < f → M_bits_L4 f x (pcn x k) (k : Int) ν = some (pcn x 12, ν)
  | n, 0, _, _, h => by omega
  | 0, f + 1, k, h, _ => by
    have e : k = 12 := by omega
    subst e
    show M_bits_L4_b (M_bits_L4 f) x (pcn x 12) ((12 : Nat) : Int) ν = _
    unfold M_bits_L4_b
    rw [if_neg (by decide)]
  | n + 1, f + 1, k, h, hf => by
    show M_bits_L4_b (M_bits_L4 f) x (pcn x k) (k : Int) ν = _
    unfold M_bits_L4_b
    have hr := pcn_r x k
    have e1 : w32 (pcn x k + aAnd (aShr x (k : Int)) 1) = pcn x (k + 1) := by
      rw [bit_1 (by omega) (by omega)]
      have : pcn x (k + 1) = pcn x k + b2 (tb x k) := rfl
      rw [this]
      unfold b2
      split
      · rw [w32_i (x := pcn x k + 1) (by omega) (by omega)]
      · rw [w32_i (x := pcn x k + 0) (by omega) (by omega)]
    rw [if_pos (by omega), e1, w32_i (x := (k : Int) + 1) (by omega) (by omega)]
    have e2 : (k : Int) + 1 = ((k + 1 : Nat) : Int) := by omega
    rw [e2]
    exact bits_L n f (k + 1) (by omega) (by omega)
theorem M_bits_s {x : Int} {ν : am_M} (h : S10 x) : M_bits x ν = some (pc x, ν) := by
  rw [← pcn_hi h]
  exact bits_L (x := x) 12 am_FU 0 (by omega) (by have := am_FU_ge; omega)
