/-! Blocks of lines: w 0 kinds, w 1 the else of an if, w 2 the end of an if or else, w 3 the class's mates; w 4 the class's open lines, w 5 the ifs, w 6 whether they have their else. -/
def sK (k : Int) : Prop := 1 ≤ k ∧ k ≤ 4
def blk (w : Int → Int → Int) : Nat → Nat → Int → Int → Prop
  | 0, _, a, z => a = z
  | n + 1, d, a, z => a = z ∨ (a < z ∧ sK (w 0 a) ∧ blk w n d (a + 1) z) ∨ (w 0 a = 5 ∧ 1 ≤ d ∧ a < w 1 a ∧ w 1 a < w 2 a ∧ w 2 a < z ∧ w 0 (w 1 a) = 6 ∧ w 0 (w 2 a) = 7 ∧ w 2 (w 1 a) = w 2 a ∧ w 3 a = w 1 a ∧ w 3 (w 1 a) = w 2 a ∧ blk w n (d - 1) (a + 1) (w 1 a) ∧ blk w n (d - 1) (w 1 a + 1) (w 2 a) ∧ blk w n d (w 2 a + 1) z)
theorem blk_le {w : Int → Int → Int} : ∀ (n d : Nat) (a z : Int), blk w n d a z → a ≤ z
  | 0, _, a, z, h => Int.le_of_eq h
  | n + 1, d, a, z, h => by
    rcases h with h | ⟨h, -⟩ | ⟨-, -, h1, h2, h3, -⟩
    · exact Int.le_of_eq h
    · omega
    · omega
theorem blk_up {w : Int → Int → Int} : ∀ (n d : Nat) (a z : Int), blk w n d a z → blk w (n + 1) d a z
  | 0, _, a, z, h => Or.inl h
  | n + 1, d, a, z, h => by
    rcases h with h | ⟨h1, h2, h3⟩ | ⟨h1, h2, h3, h4, h5, h6, h7, h8, h9, h10, h11, h12, h13⟩
    · exact Or.inl h
    · exact Or.inr (Or.inl ⟨h1, h2, blk_up n d _ _ h3⟩)
    · exact Or.inr (Or.inr ⟨h1, h2, h3, h4, h5, h6, h7, h8, h9, h10, blk_up n _ _ _ h11, blk_up n _ _ _ h12, blk_up n _ _ _ h13⟩)
theorem blk_ups {w : Int → Int → Int} (n d : Nat) (a z : Int) (h : blk w n d a z) : ∀ k : Nat, blk w (n + k) d a z
  | 0 => h
  | k + 1 => blk_up _ _ _ _ (blk_ups n d a z h k)
theorem blk_c {w w' : Int → Int → Int} : ∀ (n d : Nat) (a z : Int), (∀ c x, 0 ≤ c → c ≤ 3 → a ≤ x → x < z → w' c x = w c x) → blk w n d a z → blk w' n d a z
  | 0, _, a, z, _, h => h
  | n + 1, d, a, z, hw, h => by
    rcases h with h | ⟨h1, h2, h3⟩ | ⟨h1, h2, h3, h4, h5, h6, h7, h8, h9, h10, h11, h12, h13⟩
    · exact Or.inl h
    · exact Or.inr (Or.inl ⟨h1, by rw [hw 0 a (by decide) (by decide) (Int.le_refl _) h1]; exact h2, blk_c n d _ _ (fun c x p q r s => hw c x p q (by omega) s) h3⟩)
    · have e0 := hw 0 a (by decide) (by decide) (Int.le_refl _) (by omega)
      have e1 := hw 1 a (by decide) (by decide) (Int.le_refl _) (by omega)
      have e2 := hw 2 a (by decide) (by decide) (Int.le_refl _) (by omega)
      have e3 := hw 3 a (by decide) (by decide) (Int.le_refl _) (by omega)
      have e4 := hw 0 (w 1 a) (by decide) (by decide) (by omega) (by omega)
      have e5 := hw 0 (w 2 a) (by decide) (by decide) (by omega) (by omega)
      have e6 := hw 2 (w 1 a) (by decide) (by decide) (by omega) (by omega)
      have e7 := hw 3 (w 1 a) (by decide) (by decide) (by omega) (by omega)
      refine Or.inr (Or.inr ?_)
      rw [e0, e1, e2, e3, e4, e5, e6, e7]
      exact ⟨h1, h2, h3, h4, h5, h6, h7, h8, h9, h10, blk_c n _ _ _ (fun c x p q r s => hw c x p q (by omega) (by omega)) h11, blk_c n _ _ _ (fun c x p q r s => hw c x p q (by omega) (by omega)) h12, blk_c n _ _ _ (fun c x p q r s => hw c x p q (by omega) s) h13⟩
theorem blk_app {w : Int → Int → Int} : ∀ (n k d : Nat) (a m z : Int), blk w n d a m → blk w k d m z → blk w (n + k) d a z
  | 0, k, d, a, m, z, h, h2 => by
    have h : a = m := h
    subst h
    have e : 0 + k = k := Nat.zero_add k
    rw [e]; exact h2
  | n + 1, k, d, a, m, z, h, h2 => by
    have hz := blk_le k d m z h2
    have e : n + 1 + k = n + k + 1 := by omega
    rw [e]
    rcases h with h | ⟨h1, h3, h4⟩ | ⟨h1, h20, h3, h4, h5, h6, h7, h8, h9, h10, h11, h12, h13⟩
    · subst h
      have := blk_ups k d a z h2 (n + 1)
      have e2 : k + (n + 1) = n + k + 1 := by omega
      rw [e2] at this
      exact this
    · exact Or.inr (Or.inl ⟨by omega, h3, blk_app n k d _ _ _ h4 h2⟩)
    · exact Or.inr (Or.inr ⟨h1, h20, h3, h4, by omega, h6, h7, h8, h9, h10, blk_ups n _ _ _ h11 k, blk_ups n _ _ _ h12 k, blk_app n k d _ _ _ h13 h2⟩)
def BL (w : Int → Int → Int) (d : Nat) (a z : Int) : Prop := ∃ n, blk w n d a z
theorem BL.le {w : Int → Int → Int} {d : Nat} {a z : Int} (h : BL w d a z) : a ≤ z := by
  obtain ⟨n, h⟩ := h
  exact blk_le n d a z h
theorem BL.rf {w : Int → Int → Int} {d : Nat} {a : Int} : BL w d a a := ⟨0, rfl⟩
theorem BL.app {w : Int → Int → Int} {d : Nat} {a m z : Int} (h : BL w d a m) (h2 : BL w d m z) : BL w d a z := by
  obtain ⟨n, h⟩ := h
  obtain ⟨k, h2⟩ := h2
  exact ⟨n + k, blk_app n k d a m z h h2⟩
theorem BL.cong {w w' : Int → Int → Int} {d : Nat} {a z : Int} (h : BL w d a z) (hw : ∀ c x, 0 ≤ c → c ≤ 3 → a ≤ x → x < z → w' c x = w c x) : BL w' d a z := by
  obtain ⟨n, h⟩ := h
  exact ⟨n, blk_c n d a z hw h⟩
theorem BL.one {w : Int → Int → Int} {d : Nat} {a z : Int} (h : BL w d a z) (hk : sK (w 0 z)) : BL w d a (z + 1) := h.app ⟨1, Or.inr (Or.inl ⟨by omega, hk, rfl⟩)⟩
theorem BL.if_ {w : Int → Int → Int} {d : Nat} {a i e z : Int} (h : BL w d a i) (hd : 1 ≤ d) (h0 : w 0 i = 5) (h1 : w 1 i = e) (h2 : w 2 i = z) (h3 : i < e) (h4 : e < z) (h5 : w 0 e = 6) (h6 : w 0 z = 7) (h7 : w 2 e = z) (h8 : w 3 i = e) (h9 : w 3 e = z) (b1 : BL w (d - 1) (i + 1) e) (b2 : BL w (d - 1) (e + 1) z) : BL w d a (z + 1) := by
  obtain ⟨n, b1⟩ := b1
  obtain ⟨k, b2⟩ := b2
  refine h.app ⟨n + k + 1, Or.inr (Or.inr ?_)⟩
  rw [h1, h2]
  have b1' := blk_ups n _ _ _ b1 k
  have b2' := blk_ups k _ _ _ b2 n
  have e : k + n = n + k := Nat.add_comm k n
  rw [e] at b2'
  exact ⟨h0, hd, h3, h4, by omega, h5, h6, h7, h8, h9, b1', b2', blk_ups 0 d (z + 1) (z + 1) rfl (n + k) |> fun y => by rw [Nat.zero_add] at y; exact y⟩
/-- the ifs that stand open -/
def ctx (w : Int → Int → Int) : Nat → Nat → Int → Int → Int → Prop
  | 0, d, _, a, z => BL w d a z
  | m + 1, d, j, a, z => 1 ≤ d ∧ BL w d a (w 5 j) ∧ w 0 (w 5 j) = 5 ∧ ((w 6 j = 0 ∧ w 4 j = w 5 j ∧ ctx w m (d - 1) (j + 1) (w 5 j + 1) z) ∨ (w 6 j = 1 ∧ w 4 j = w 1 (w 5 j) ∧ w 5 j < w 1 (w 5 j) ∧ w 0 (w 1 (w 5 j)) = 6 ∧ w 3 (w 5 j) = w 1 (w 5 j) ∧ BL w (d - 1) (w 5 j + 1) (w 1 (w 5 j)) ∧ ctx w m (d - 1) (j + 1) (w 1 (w 5 j) + 1) z))
theorem ctx_le {w : Int → Int → Int} : ∀ (m d : Nat) (j a z : Int), ctx w m d j a z → a ≤ z
  | 0, _, _, _, _, h => BL.le h
  | m + 1, d, j, a, z, h => by
    obtain ⟨-, h1, -, h2⟩ := h
    have := h1.le
    rcases h2 with ⟨-, -, h2⟩ | ⟨-, -, h3, -, -, -, h2⟩
    · have := ctx_le m _ _ _ _ h2; omega
    · have := ctx_le m _ _ _ _ h2; omega
theorem ctx_in {w : Int → Int → Int} : ∀ (m d : Nat) (j a z : Int), ctx w (m + 1) d j a z → a ≤ w 5 (j + m) ∧ w 5 (j + m) < z ∧ w 0 (w 5 (j + m)) = 5 ∧ ((w 6 (j + m) = 0 ∧ w 4 (j + m) = w 5 (j + m)) ∨ (w 6 (j + m) = 1 ∧ w 4 (j + m) = w 1 (w 5 (j + m)) ∧ w 5 (j + m) < w 1 (w 5 (j + m)) ∧ w 1 (w 5 (j + m)) < z ∧ w 0 (w 1 (w 5 (j + m))) = 6))
  | 0, d, j, a, z, h => by
    have ej : j + ((0 : Nat) : Int) = j := by omega
    rw [ej]
    obtain ⟨-, h1, h0, h2⟩ := h
    have := h1.le
    rcases h2 with ⟨y1, y2, h2⟩ | ⟨y1, y2, h3, y3, -, -, h2⟩
    · have := BL.le h2; exact ⟨by omega, by omega, h0, Or.inl ⟨y1, y2⟩⟩
    · have := BL.le h2; exact ⟨by omega, by omega, h0, Or.inr ⟨y1, y2, h3, by omega, y3⟩⟩
  | m + 1, d, j, a, z, h => by
    have ej : j + ((m + 1 : Nat) : Int) = j + 1 + (m : Int) := by omega
    rw [ej]
    obtain ⟨-, h1, h0, h2⟩ := h
    have := h1.le
    rcases h2 with ⟨y1, y2, h2⟩ | ⟨y1, y2, h3, y3, -, -, h2⟩
    · have := ctx_in m _ _ _ _ h2; exact ⟨by omega, this.2⟩
    · have := ctx_in m _ _ _ _ h2; exact ⟨by omega, this.2⟩
theorem ctx_c {w w' : Int → Int → Int} : ∀ (m d : Nat) (j a z : Int), (∀ c x, 0 ≤ c → c ≤ 3 → a ≤ x → x < z → w' c x = w c x) → (∀ c x, 4 ≤ c → c ≤ 6 → j ≤ x → x < j + m → w' c x = w c x) → ctx w m d j a z → ctx w' m d j a z
  | 0, d, j, a, z, h1, _, h => BL.cong h h1
  | m + 1, d, j, a, z, h1, h2, h => by
    have hin := h
    obtain ⟨y1, y2, y3, y4⟩ := h
    have hle := y2.le
    have e4 := h2 4 j (by decide) (by decide) (Int.le_refl _) (by omega)
    have e5 := h2 5 j (by decide) (by decide) (Int.le_refl _) (by omega)
    have e6 := h2 6 j (by decide) (by decide) (Int.le_refl _) (by omega)
    have hz : w 5 j < z := by
      rcases y4 with ⟨-, -, y⟩ | ⟨-, -, y, -, -, -, y5⟩
      · have := ctx_le m _ _ _ _ y; omega
      · have := ctx_le m _ _ _ _ y5; omega
    have e0 := h1 0 (w 5 j) (by decide) (by decide) hle hz
    have e1 := h1 1 (w 5 j) (by decide) (by decide) hle hz
    have e3 := h1 3 (w 5 j) (by decide) (by decide) hle hz
    refine ⟨y1, ?_⟩
    rw [e4, e5, e6, e0, e1, e3]
    refine ⟨y2.cong (fun c x p q r s => h1 c x p q r (by omega)), y3, ?_⟩
    rcases y4 with ⟨x1, x2, x3⟩ | ⟨x1, x2, x3, x4, x5, x6, x7⟩
    · exact Or.inl ⟨x1, x2, ctx_c m _ _ _ _ (fun c x p q r s => h1 c x p q (by omega) s) (fun c x p q r s => h2 c x p q (by omega) (by omega)) x3⟩
    · have hl7 := ctx_le m _ _ _ _ x7
      have e7 := h1 0 (w 1 (w 5 j)) (by decide) (by decide) (by omega) (by omega)
      rw [e7]
      exact Or.inr ⟨x1, x2, x3, x4, x5, x6.cong (fun c x p q r s => h1 c x p q (by omega) (by omega)), ctx_c m _ _ _ _ (fun c x p q r s => h1 c x p q (by omega) s) (fun c x p q r s => h2 c x p q (by omega) (by omega)) x7⟩
theorem ctx_one {w : Int → Int → Int} : ∀ (m d : Nat) (j a z : Int), ctx w m d j a z → sK (w 0 z) → ctx w m d j a (z + 1)
  | 0, d, j, a, z, h, hk => BL.one h hk
  | m + 1, d, j, a, z, h, hk => by
    obtain ⟨y1, y2, y3, y4⟩ := h
    refine ⟨y1, y2, y3, ?_⟩
    rcases y4 with ⟨x1, x2, x3⟩ | ⟨x1, x2, x3, x4, x5, x6, x7⟩
    · exact Or.inl ⟨x1, x2, ctx_one m _ _ _ _ x3 hk⟩
    · exact Or.inr ⟨x1, x2, x3, x4, x5, x6, ctx_one m _ _ _ _ x7 hk⟩
theorem ctx_if {w : Int → Int → Int} : ∀ (m d : Nat) (j a z : Int), ctx w m d j a z → m < d → w 0 z = 5 → w 4 (j + m) = z → w 5 (j + m) = z → w 6 (j + m) = 0 → ctx w (m + 1) d j a (z + 1)
  | 0, d, j, a, z, h, hd, h0, h4, h5, h6 => by
    have ej : j + ((0 : Nat) : Int) = j := by omega
    rw [ej] at h4 h5 h6
    refine ⟨by omega, ?_⟩
    rw [h5]
    exact ⟨h, h0, Or.inl ⟨h6, h4, BL.rf⟩⟩
  | m + 1, d, j, a, z, h, hd, h0, h4, h5, h6 => by
    have ej : j + ((m + 1 : Nat) : Int) = j + 1 + (m : Int) := by omega
    rw [ej] at h4 h5 h6
    obtain ⟨y1, y2, y3, y4⟩ := h
    refine ⟨y1, y2, y3, ?_⟩
    rcases y4 with ⟨x1, x2, x3⟩ | ⟨x1, x2, x3, x4, x5, x6, x7⟩
    · exact Or.inl ⟨x1, x2, ctx_if m _ _ _ _ x3 (by omega) h0 h4 h5 h6⟩
    · exact Or.inr ⟨x1, x2, x3, x4, x5, x6, ctx_if m _ _ _ _ x7 (by omega) h0 h4 h5 h6⟩
theorem ctx_else {w w' : Int → Int → Int} : ∀ (m d : Nat) (j a z : Int), ctx w (m + 1) d j a z → w 6 (j + m) = 0 → w' 0 z = 6 →
    (∀ c x, 0 ≤ c → c ≤ 3 → x < z → ¬ ((c = 1 ∨ c = 3) ∧ x = w 5 (j + m)) → w' c x = w c x) → (∀ c x, 4 ≤ c → c ≤ 6 → ¬ ((c = 4 ∨ c = 6) ∧ x = j + m) → w' c x = w c x) → w' 1 (w 5 (j + m)) = z → w' 3 (w 5 (j + m)) = z → w' 4 (j + m) = z → w' 6 (j + m) = 1 → ctx w' (m + 1) d j a (z + 1)
  | 0, d, j, a, z, h, h6, h0, f1, f2, e1, e3, e4, e6 => by
    have ej : j + ((0 : Nat) : Int) = j := by omega
    rw [ej] at h6 f1 f2 e1 e3 e4 e6
    obtain ⟨y1, y2, y3, y4⟩ := h
    have hle := y2.le
    have e5 : w' 5 j = w 5 j := f2 5 j (by decide) (by decide) (by omega)
    rcases y4 with ⟨x1, x2, x3⟩ | ⟨x1, -⟩
    · have hl3 := BL.le x3
      refine ⟨y1, ?_⟩
      rw [e5, e1]
      refine ⟨y2.cong (fun c x p q r s => f1 c x p q (by omega) (by omega)), by rw [f1 0 _ (by decide) (by decide) (by omega) (by omega)]; exact y3, Or.inr ⟨e6, e4, by omega, h0, e3, ?_, BL.rf⟩⟩
      have x3 : BL w (d - 1) (w 5 j + 1) z := x3
      exact x3.cong (fun c x p q r s => f1 c x p q (by omega) (by omega))
    · omega
  | m + 1, d, j, a, z, h, h6, h0, f1, f2, e1, e3, e4, e6 => by
    have ej : j + ((m + 1 : Nat) : Int) = j + 1 + (m : Int) := by omega
    rw [ej] at h6 f1 f2 e1 e3 e4 e6
    obtain ⟨y1, y2, y3, y4⟩ := h
    have hle := y2.le
    have g4 : w' 4 j = w 4 j := f2 4 j (by decide) (by decide) (by omega)
    have g5 : w' 5 j = w 5 j := f2 5 j (by decide) (by decide) (by omega)
    have g6 : w' 6 j = w 6 j := f2 6 j (by decide) (by decide) (by omega)
    have hi : w 5 j < w 5 (j + 1 + m) ∧ w 5 (j + 1 + m) < z := by
      rcases y4 with ⟨-, -, x3⟩ | ⟨-, -, x3, -, -, -, x7⟩
      · have := (ctx_in m _ _ _ _ x3); omega
      · have := (ctx_in m _ _ _ _ x7); omega
    have g0 : w' 0 (w 5 j) = w 0 (w 5 j) := f1 0 _ (by decide) (by decide) (by omega) (by omega)
    have g1 : w' 1 (w 5 j) = w 1 (w 5 j) := f1 1 _ (by decide) (by decide) (by omega) (by omega)
    have g3 : w' 3 (w 5 j) = w 3 (w 5 j) := f1 3 _ (by decide) (by decide) (by omega) (by omega)
    refine ⟨y1, ?_⟩
    rw [g4, g5, g6, g0, g1, g3]
    refine ⟨y2.cong (fun c x p q r s => f1 c x p q (by omega) (by omega)), y3, ?_⟩
    rcases y4 with ⟨x1, x2, x3⟩ | ⟨x1, x2, x3, x4, x5, x6, x7⟩
    · exact Or.inl ⟨x1, x2, ctx_else m _ _ _ _ x3 h6 h0 f1 f2 e1 e3 e4 e6⟩
    · have := (ctx_in m _ _ _ _ x7).1
      have g7 : w' 0 (w 1 (w 5 j)) = w 0 (w 1 (w 5 j)) := f1 0 _ (by decide) (by decide) (by omega) (by omega)
      rw [g7]
      exact Or.inr ⟨x1, x2, x3, x4, x5, x6.cong (fun c x p q r s => f1 c x p q (by omega) (by omega)), ctx_else m _ _ _ _ x7 h6 h0 f1 f2 e1 e3 e4 e6⟩
theorem ctx_end {w w' : Int → Int → Int} : ∀ (m d : Nat) (j a z : Int), ctx w (m + 1) d j a z → w 6 (j + m) = 1 → w' 0 z = 7 →
    (∀ c x, 0 ≤ c → c ≤ 3 → x < z → ¬ ((c = 2 ∧ (x = w 5 (j + m) ∨ x = w 4 (j + m))) ∨ (c = 3 ∧ x = w 4 (j + m))) → w' c x = w c x) → (∀ c x, 4 ≤ c → c ≤ 6 → w' c x = w c x) → w' 2 (w 5 (j + m)) = z → w' 2 (w 4 (j + m)) = z → w' 3 (w 4 (j + m)) = z → ctx w' m d j a (z + 1)
  | 0, d, j, a, z, h, h6, h0, f1, f2, e1, e3, e4 => by
    have ej : j + ((0 : Nat) : Int) = j := by omega
    rw [ej] at h6 f1 e1 e3 e4
    obtain ⟨y1, y2, y3, y4⟩ := h
    have hle := y2.le
    rcases y4 with ⟨x1, -⟩ | ⟨x1, x2, x3, x4, x5, x6, x7⟩
    · omega
    · have x7 : BL w (d - 1) (w 1 (w 5 j) + 1) z := x7
      have hl7 := x7.le
      refine BL.if_ (i := w 5 j) (e := w 4 j) (y2.cong (fun c x p q r s => f1 c x p q (by omega) (by omega))) y1 (by rw [f1 0 _ (by decide) (by decide) (by omega) (by omega)]; exact y3) (by rw [f1 1 _ (by decide) (by decide) (by omega) (by omega)]; exact x2.symm) e1 (by omega) (by omega) (by rw [f1 0 _ (by decide) (by decide) (by omega) (by omega), x2]; exact x4) h0 e3 (by rw [f1 3 _ (by decide) (by decide) (by omega) (by omega), x2]; exact x5) e4 ?_ ?_
      · rw [x2]; exact x6.cong (fun c x p q r s => f1 c x p q (by omega) (by omega))
      · rw [x2]; exact x7.cong (fun c x p q r s => f1 c x p q (by omega) (by omega))
  | m + 1, d, j, a, z, h, h6, h0, f1, f2, e1, e3, e4 => by
    have ej : j + ((m + 1 : Nat) : Int) = j + 1 + (m : Int) := by omega
    rw [ej] at h6 f1 e1 e3 e4
    obtain ⟨y1, y2, y3, y4⟩ := h
    have hle := y2.le
    have g4 : w' 4 j = w 4 j := f2 4 j (by decide) (by decide)
    have g5 : w' 5 j = w 5 j := f2 5 j (by decide) (by decide)
    have g6 : w' 6 j = w 6 j := f2 6 j (by decide) (by decide)
    have hi : w 5 j < w 5 (j + 1 + m) ∧ w 5 j < w 4 (j + 1 + m) ∧ w 5 (j + 1 + m) < z := by
      rcases y4 with ⟨-, -, x3⟩ | ⟨-, -, x3, -, -, -, x7⟩
      · have := ctx_in m _ _ _ _ x3; omega
      · have := ctx_in m _ _ _ _ x7; omega
    have g0 : w' 0 (w 5 j) = w 0 (w 5 j) := f1 0 _ (by decide) (by decide) (by omega) (by omega)
    have g1 : w' 1 (w 5 j) = w 1 (w 5 j) := f1 1 _ (by decide) (by decide) (by omega) (by omega)
    have g3 : w' 3 (w 5 j) = w 3 (w 5 j) := f1 3 _ (by decide) (by decide) (by omega) (by omega)
    refine ⟨y1, ?_⟩
    rw [g5, g0]
    refine ⟨y2.cong (fun c x p q r s => f1 c x p q (by omega) (by omega)), y3, ?_⟩
    rw [g4, g6, g1, g3]
    rcases y4 with ⟨x1, x2, x3⟩ | ⟨x1, x2, x3, x4, x5, x6, x7⟩
    · exact Or.inl ⟨x1, x2, ctx_end m _ _ _ _ x3 h6 h0 f1 f2 e1 e3 e4⟩
    · have := ctx_in m _ _ _ _ x7
      have g7 : w' 0 (w 1 (w 5 j)) = w 0 (w 1 (w 5 j)) := f1 0 _ (by decide) (by decide) (by omega) (by omega)
      rw [g7]
      exact Or.inr ⟨x1, x2, x3, x4, x5, x6.cong (fun c x p q r s => f1 c x p q (by omega) (by omega)), ctx_end m _ _ _ _ x7 h6 h0 f1 f2 e1 e3 e4⟩
