/-! The machine: what lies on its table. -/
/-- frames' tables and lines, both sides; d frames deep; c the class's machine -/
def FT (c d : Int) (μ ν : am_M) : Prop := (0 ≤ d ∧ d ≤ 16) ∧ (∀ f, 0 ≤ f → f < d → μ (c + 2) f = ν 1045 f ∧ S10 (ν 1045 f))
theorem FT.d0 {c d : Int} {μ ν : am_M} (h : FT c d μ ν) : 0 ≤ d ∧ d ≤ 16 := h.1
theorem FT.tb {c d : Int} {μ ν : am_M} (h : FT c d μ ν) : ∀ f, 0 ≤ f → f < d → μ (c + 2) f = ν 1045 f ∧ S10 (ν 1045 f) := h.2
theorem FT.mk {c d : Int} {μ ν : am_M} (d0 : 0 ≤ d ∧ d ≤ 16) (tb : ∀ f, 0 ≤ f → f < d → μ (c + 2) f = ν 1045 f ∧ S10 (ν 1045 f)) : FT c d μ ν := ⟨d0, tb⟩
theorem FT.cong {c d : Int} {μ ν μ' ν' : am_M} (h : FT c d μ ν) (f : ∀ i, 0 ≤ i → i < d → μ' (c + 2) i = μ (c + 2) i) (g : ∀ i, 0 ≤ i → i < d → ν' 1045 i = ν 1045 i) : FT c d μ' ν' := (FT.mk (d0 := h.d0) (tb := fun i p q => by rw [f i p q, g i p q]; exact h.tb i p q))
def foldP (g : Int → Int) : Nat → Int → Int → Int
  | 0, v, _ => v
  | n + 1, v, i => foldP g n (w32 (v + pc (g i))) (i + 1)
theorem foldP_c {g g' : Int → Int} : ∀ (n : Nat) (v i : Int), (∀ x, i ≤ x → x < i + n → g' x = g x) → foldP g' n v i = foldP g n v i
  | 0, _, _, _ => rfl
  | n + 1, v, i, h => by
    show foldP g' n (w32 (v + pc (g' i))) (i + 1) = foldP g n (w32 (v + pc (g i))) (i + 1)
    rw [h i (Int.le_refl _) (by omega), foldP_c n _ (i + 1) (fun x p q => h x (by omega) (by omega))]
def mOk (c : Int) : Prop := c = 300 ∨ c = 310 ∨ c = 320 ∨ c = 330 ∨ c = 340 ∨ c = 350
theorem mO3 {c : Int} (h : mOk c) : am_isO c 3 = true := by rcases h with h | h | h | h | h | h <;> (subst h; rfl)
theorem mA1 {c : Int} (h : mOk c) : am_lenA (c + 1) = 16 := by rcases h with h | h | h | h | h | h <;> (subst h; rfl)
theorem mK1 {c : Int} (h : mOk c) : am_lenK 0 (c + 1) = 16 := by rcases h with h | h | h | h | h | h <;> (subst h; rfl)
theorem mA2 {c : Int} (h : mOk c) : am_lenA (c + 2) = 16 := by rcases h with h | h | h | h | h | h <;> (subst h; rfl)
theorem mK2 {c : Int} (h : mOk c) : am_lenK 0 (c + 2) = 16 := by rcases h with h | h | h | h | h | h <;> (subst h; rfl)
theorem mA3 {c : Int} (h : mOk c) : am_lenA (c + 3) = 160 := by rcases h with h | h | h | h | h | h <;> (subst h; rfl)
theorem mK3 {c : Int} (h : mOk c) : am_lenK 0 (c + 3) = 160 := by rcases h with h | h | h | h | h | h <;> (subst h; rfl)
theorem mat1 {c : Int} (h : mOk c) (i : Int) (μ : am_M) : X_at (c + 1) i μ = some (if 0 ≤ i ∧ i < 16 then μ (c + 1) i else 0, μ) := X_at_s i μ (mA1 h) (mK1 h) (by decide)
theorem mput1 {c : Int} (h : mOk c) (i v : Int) (μ : am_M) : X_put (c + 1) i v μ = some (0, if 0 ≤ i ∧ i < 16 then m_st μ (c + 1) i v else μ) := X_put_s i v μ (mA1 h) (mK1 h) (by decide)
theorem mat2 {c : Int} (h : mOk c) (i : Int) (μ : am_M) : X_at (c + 2) i μ = some (if 0 ≤ i ∧ i < 16 then μ (c + 2) i else 0, μ) := X_at_s i μ (mA2 h) (mK2 h) (by decide)
theorem mput2 {c : Int} (h : mOk c) (i v : Int) (μ : am_M) : X_put (c + 2) i v μ = some (0, if 0 ≤ i ∧ i < 16 then m_st μ (c + 2) i v else μ) := X_put_s i v μ (mA2 h) (mK2 h) (by decide)
theorem mat3 {c : Int} (h : mOk c) (i : Int) (μ : am_M) : X_at (c + 3) i μ = some (if 0 ≤ i ∧ i < 160 then μ (c + 3) i else 0, μ) := X_at_s i μ (mA3 h) (mK3 h) (by decide)
theorem mput3 {c : Int} (h : mOk c) (i v : Int) (μ : am_M) : X_put (c + 3) i v μ = some (0, if 0 ≤ i ∧ i < 160 then m_st μ (c + 3) i v else μ) := X_put_s i v μ (mA3 h) (mK3 h) (by decide)
theorem lying_L {c d : Int} {μ ν : am_M} (hc : mOk c) (h : FT c d μ ν) (h5 : μ c 5 = d) : ∀ (n f : Nat) (v i : Int), i + n = d → 0 ≤ i → n < f → Mc_lying_L4 f c v i μ = some (foldP (ν 1045) n v i, μ)
  | n, 0, _, _, _, _, h => by omega
  | 0, f + 1, v, i, hi, h0, _ => by
    show Mc_lying_L4_b (Mc_lying_L4 f) c v i μ = _
    unfold Mc_lying_L4_b
    rw [q_gd_s (mO3 hc), h5, if_neg (by omega)]
    rfl
  | n + 1, f + 1, v, i, hi, h0, hf => by
    have hd := h.d0
    obtain ⟨t1, t2⟩ := h.tb i h0 (by omega)
    show Mc_lying_L4_b (Mc_lying_L4 f) c v i μ = _
    unfold Mc_lying_L4_b
    rw [q_gd_s (mO3 hc), h5, if_pos (by omega), mat2 hc, if_pos (show 0 ≤ i ∧ i < 16 by omega), q_bd_s, t1, bitCount_s t2, q_bd_s, w32_i (x := i + 1) (by omega) (by omega)]
    exact lying_L hc h h5 n f _ (i + 1) (by omega) (by omega) (by omega)
theorem onTable_L {c d : Int} {μ ν : am_M} (h : FT c d μ ν) (h5 : ν 1000 58 = d) : ∀ (n f : Nat) (v i : Int), i + n = d → 0 ≤ i → n < f → M_onTable_L4 f v i ν = some (foldP (ν 1045) n v i, ν)
  | n, 0, _, _, _, _, h => by omega
  | 0, f + 1, v, i, hi, h0, _ => by
    show M_onTable_L4_b (M_onTable_L4 f) v i ν = _
    unfold M_onTable_L4_b
    rw [h5, if_neg (by omega)]
    rfl
  | n + 1, f + 1, v, i, hi, h0, hf => by
    have hd := h.d0
    obtain ⟨t1, t2⟩ := h.tb i h0 (by omega)
    show M_onTable_L4_b (M_onTable_L4 f) v i ν = _
    unfold M_onTable_L4_b
    rw [h5, if_pos (by omega), q_ld_s h0 (by omega), M_bits_s t2, q_bd_s, w32_i (x := i + 1) (by omega) (by omega)]
    exact onTable_L h h5 n f _ (i + 1) (by omega) (by omega) (by omega)
theorem lying_s {c d : Int} {μ ν : am_M} (hc : mOk c) (h : FT c d μ ν) (h5 : μ c 5 = d) (h6 : ν 1000 58 = d) : ∃ r, Mc_lying c μ = some (r, μ) ∧ M_onTable ν = some (r, ν) := by
  have hF := am_FU_ge
  have hd := h.d0
  exact ⟨foldP (ν 1045) d.toNat 0 0, lying_L hc h h5 d.toNat am_FU 0 0 (by omega) (by omega) (by omega), onTable_L h h6 d.toNat am_FU 0 0 (by omega) (by omega) (by omega)⟩
/-- both look at the table -/
theorem looks_s {c d : Int} {μ ν : am_M} (hc : mOk c) (h : FT c d μ ν) (h5 : μ c 5 = d) (h58 : ν 1000 58 = d) (h1 : μ c 1 ≠ 0) (h6 : μ c 6 = ν 1000 57) (h8 : μ c 8 = ν 1000 63) (h12 : μ c 12 = ν 1000 55) : ∃ μ' ν', Mc_lookAtTable c μ = some (0, μ') ∧ M_looks ν = some (0, ν') ∧ μ' c 6 = ν' 1000 57 ∧ (ν' 1000 57 = ν 1000 57 ∨ (ν 1000 57 = 1 ∧ ν' 1000 57 = 3)) ∧ μ' c 8 = ν' 1000 63 ∧ (∀ x i, ¬ (x = c ∧ (i = 6 ∨ i = 8)) → μ' x i = μ x i) ∧ (∀ x i, ¬ (x = 1000 ∧ (i = 57 ∨ i = 63)) → ν' x i = ν x i) := by
  obtain ⟨r, a1, a2⟩ := lying_s hc h h5 h58
  have ql : ∀ (e : Int) (k : Int → am_O), q_lt e k = k e := fun _ _ => rfl
  have ge : ∀ (m : am_M) (c i v : Int), m_st m c i v c i = v := fun m c i v => by rw [m_st_d, if_pos ⟨rfl, rfl⟩]
  generalize hv : (if ν 1000 63 < r then r else ν 1000 63) = v
  have hT : FT c d (m_st μ c 8 v) (m_st ν 1000 63 v) := h.cong (fun i _ _ => m_st_c (by omega)) (fun i _ _ => m_st_c (by decide))
  have b5 : m_st μ c 8 v c 5 = d := by rw [m_st_i (by decide)]; exact h5
  have b58 : m_st ν 1000 63 v 1000 58 = d := by rw [m_st_i (by decide)]; exact h58
  have b2 : M_onTable (m_st ν 1000 63 v) = some (r, m_st ν 1000 63 v) := by
    have hF := am_FU_ge
    have hd := h.d0
    have e1 := onTable_L hT b58 d.toNat am_FU 0 0 (by omega) (by omega) (by omega)
    have e2 := onTable_L h h58 d.toNat am_FU 0 0 (by omega) (by omega) (by omega)
    have e3 : M_onTable ν = some (foldP (ν 1045) d.toNat 0 0, ν) := e2
    rw [e3] at a2
    have e4 : foldP (ν 1045) d.toNat 0 0 = r := by injection a2 with z; exact congrArg Prod.fst z
    have e5 : M_onTable (m_st ν 1000 63 v) = some (foldP ((m_st ν 1000 63 v) 1045) d.toNat 0 0, m_st ν 1000 63 v) := e1
    rw [e5, foldP_c (g := ν 1045) _ _ _ (fun x _ _ => m_st_c (by decide)), e4]
  have c1 : m_st μ c 8 v c 1 = μ c 1 := m_st_i (by decide)
  have c6 : m_st μ c 8 v c 6 = ν 1000 57 := by rw [m_st_i (by decide)]; exact h6
  have c12 : m_st μ c 8 v c 12 = ν 1000 55 := by rw [m_st_i (by decide)]; exact h12
  have d57 : m_st ν 1000 63 v 1000 57 = ν 1000 57 := m_st_i (by decide)
  have d55 : m_st ν 1000 63 v 1000 55 = ν 1000 55 := m_st_i (by decide)
  have g8 : m_st μ c 8 v c 8 = v := ge _ _ _ _
  have g63 : m_st ν 1000 63 v 1000 63 = v := ge _ _ _ _
  have f1 : ∀ x i, ¬ (x = c ∧ (i = 6 ∨ i = 8)) → m_st μ c 8 v x i = μ x i := fun x i z => by rw [m_st_d, if_neg (by omega)]
  have f2 : ∀ x i, ¬ (x = 1000 ∧ (i = 57 ∨ i = 63)) → m_st ν 1000 63 v x i = ν x i := fun x i z => by rw [m_st_d, if_neg (by omega)]
  have eC : Mc_lookAtTable c μ = (if ν 1000 57 = 1 then (if r ≤ ν 1000 55 then (some (0, m_st μ c 8 v)) else (q_pf c 6 3 (m_st μ c 8 v) fun μ6 => some (0, μ6))) else (some (0, m_st μ c 8 v))) := by
    unfold Mc_lookAtTable
    rw [q_gd_s (mO3 hc), a1, q_bd_s, ql, h8, hv, q_pf_d, c1, if_neg h1, c6, c12]
  have eM : M_looks ν = (if ν 1000 57 = 1 then (if r ≤ ν 1000 55 then (some (0, m_st ν 1000 63 v)) else (q_pf 1000 57 3 (m_st ν 1000 63 v) fun μ7 => some (0, μ7))) else (some (0, m_st ν 1000 63 v))) := by
    unfold M_looks
    rw [a2, q_bd_s, ql, hv, q_pf_d, d57, b2, q_bd_s, d55]
  by_cases q1 : ν 1000 57 = 1
  · by_cases q2 : r ≤ ν 1000 55
    · exact ⟨_, _, by rw [eC, if_pos q1, if_pos q2], by rw [eM, if_pos q1, if_pos q2], by rw [c6, d57], Or.inl d57, by rw [g8, g63], f1, f2⟩
    · refine ⟨m_st (m_st μ c 8 v) c 6 3, m_st (m_st ν 1000 63 v) 1000 57 3, by rw [eC, if_pos q1, if_neg q2]; rfl, by rw [eM, if_pos q1, if_neg q2]; rfl, by rw [ge, ge], Or.inr ⟨q1, ge _ _ _ _⟩, ((m_st_i (by decide)).trans g8).trans ((m_st_i (by decide)).trans g63).symm, fun x i z => by rw [m_st_d, if_neg (by omega), f1 x i z], fun x i z => by rw [m_st_d, if_neg (by omega), f2 x i z]⟩
  · exact ⟨_, _, by rw [eC, if_neg q1], by rw [eM, if_neg q1], by rw [c6, d57], Or.inl d57, by rw [g8, g63], f1, f2⟩
