/-! The machine: what lies on its table. -/
/-- frames' tables and lines, both sides; d frames deep; c the class's machine -/
def FT (c d : Int) (μ ν : am_M) : Prop := (0 ≤ d ∧ d ≤ 16) ∧ (∀ f, 0 ≤ f → f < d → μ (c + 2) f = ν 1045 f ∧ S10 (ν 1045 f))
theorem FT.d0 {c d : Int} {μ ν : am_M} (h : FT c d μ ν) : 0 ≤ d ∧ d ≤ 16 := h.1
theorem FT.tb {c d : Int} {μ ν : am_M} (h : FT c d μ ν) : ∀ f, 0 ≤ f → f < d → μ (c + 2) f = ν 1045 f ∧ S10 (ν 1045 f) := h.2
theorem FT.mk {c d : Int} {μ ν : am_M} (d0 : 0 ≤ d ∧ d ≤ 16) (tb : ∀ f, 0 ≤ f → f < d → μ (c + 2) f = ν 1045 f ∧ S10 (ν 1045 f)) : FT c d μ ν := ⟨d0, tb⟩
theorem FT.cong {c d : Int} {μ ν μ' ν' : am_M} (h : FT c d μ ν) (f : ∀ i, 0 ≤ i → i < d → μ' (c + 2) i = μ (c + 2) i) (g : ∀ i, 0 ≤ i → i < d → ν' 1045 i = ν 1045 i) : FT c d μ' ν' := (FT.mk (d0 := h.d0) (tb := fun i p q => by rw [f i p q, g i p q]; exact h.tb i p q))
def sumP (g : Int → Int) : Nat → Int → Int
  | 0, _ => 0
  | n + 1, i => (pc (g i) : Int) + sumP g n (i + 1)
def mOk (c : Int) : Prop := c = 300 ∨ c = 310 ∨ c = 320 ∨ c = 330 ∨ c = 340 ∨ c = 350
theorem mO3 {c : Int} (h : mOk c) : am_isO c 3 = true := by rcases h with h | h | h | h | h | h <;> (subst h; rfl)
theorem mA1 {c : Int} (h : mOk c) : am_lenA (c + 1) = 16 := by rcases h with h | h | h | h | h | h <;> (subst h; rfl)
theorem mK1 {c : Int} (h : mOk c) : am_lenK 0 (c + 1) = 16 := by rcases h with h | h | h | h | h | h <;> (subst h; rfl)
theorem mA2 {c : Int} (h : mOk c) : am_lenA (c + 2) = 16 := by rcases h with h | h | h | h | h | h <;> (subst h; rfl)
theorem mK2 {c : Int} (h : mOk c) : am_lenK 0 (c + 2) = 16 := by rcases h with h | h | h | h | h | h <;> (subst h; rfl)
theorem mA3 {c : Int} (h : mOk c) : am_lenA (c + 3) = 160 := by rcases h with h | h | h | h | h | h <;> (subst h; rfl)
theorem mK3 {c : Int} (h : mOk c) : am_lenK 0 (c + 3) = 160 := by rcases h with h | h | h | h | h | h <;> (subst h; rfl)
theorem mat1 {c : Int} (h : mOk c) (i : Int) (μ : am_M) : X_at (c + 1) i μ = some (if 0 ≤ i ∧ i < 16 then μ (c + 1) i else 0, μ) := X_at_s i μ (mA1 h) (mK1 h) (by decide)
theorem mput1 {c : Int} (h : mOk c) (i v : Int) (μ : am_M) : X_put (c + 1) i v μ = some (0, if 0 ≤ i ∧ i < 16 then m_st μ (c + 1) i v else μ) := X_put_s i v μ (mA1 h) (mK1 h) (by decide)
theorem mat2 {c : Int} (h : mOk c) (i : Int) (μ : am_M) : X_at (c + 2) i μ = some (if 0 ≤ i ∧ i < 16 then μ (c + 2) i else 0, μ) := X_at_s i μ (mA2 h) (mK2 h) (by decide)
theorem mput2 {c : Int} (h : mOk c) (i v : Int) (μ : am_M) : X_put (c + 2) i v μ = some (0, if 0 ≤ i ∧ i < 16 then m_st μ (c + 2) i v else μ) := X_put_s i v μ (mA2 h) (mK2 h) (by decide)
theorem mat3 {c : Int} (h : mOk c) (i : Int) (μ : am_M) : X_at (c + 3) i μ = some (if 0 ≤ i ∧ i < 160 then μ (c + 3) i else 0, μ) := X_at_s i μ (mA3 h) (mK3 h) (by decide)
theorem mput3 {c : Int} (h : mOk c) (i v : Int) (μ : am_M) : X_put (c + 3) i v μ = some (0, if 0 ≤ i ∧ i < 160 then m_st μ (c + 3) i v else μ) := X_put_s i v μ (mA3 h) (mK3 h) (by decide)
