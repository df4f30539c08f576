/-! The machine keeps its bounds: whatever it works. -/
theorem a2k (X : Int) (k : Nat) (hk : k ≤ 8) : aAnd X ((2 ^ k - 1 : Nat) : Int) = X % ((2 ^ k : Nat) : Int) := by
  have hp : 2 ^ k ≤ 2 ^ 8 := Nat.pow_le_pow_right (by decide) hk
  have h1 : 0 < 2 ^ k := Nat.pow_pos (by decide)
  have hd : (2 ^ k) ∣ 2 ^ 32 := Nat.pow_dvd_pow 2 (by omega)
  have h : (Int32.ofInt X &&& Int32.ofInt ((2 ^ k - 1 : Nat) : Int)).toBitVec = BitVec.ofNat 32 (X % ((2 ^ k : Nat) : Int)).toNat := by
    rw [Int32.toBitVec_and]
    apply BitVec.eq_of_toNat_eq
    rw [BitVec.toNat_and]
    show (BitVec.ofInt 32 X).toNat &&& (BitVec.ofInt 32 ((2 ^ k - 1 : Nat) : Int)).toNat = _
    have e1 : (BitVec.ofInt 32 ((2 ^ k - 1 : Nat) : Int)).toNat = 2 ^ k - 1 := by
      rw [BitVec.toNat_ofInt]
      have : 2 ^ k ≤ 256 := hp
      omega
    rw [e1, Nat.and_two_pow_sub_one_eq_mod, BitVec.toNat_ofInt, BitVec.toNat_ofNat]
    have e2 : ((X % ((2 ^ 32 : Nat) : Int)).toNat % 2 ^ k : Nat) = (X % ((2 ^ k : Nat) : Int)).toNat := by
      apply Int.ofNat_inj.mp
      rw [Int.natCast_emod, Int.toNat_of_nonneg (Int.emod_nonneg _ (by decide)), Int.toNat_of_nonneg (Int.emod_nonneg _ (by omega)), Int.emod_emod_of_dvd _ (Int.natCast_dvd_natCast.mpr hd)]
    rw [e2]
    have h3 : X % ((2 ^ k : Nat) : Int) < ((2 ^ k : Nat) : Int) := Int.emod_lt_of_pos _ (by omega)
    have : 2 ^ k ≤ 256 := hp
    omega
  have h3 : X % ((2 ^ k : Nat) : Int) < ((2 ^ k : Nat) : Int) := Int.emod_lt_of_pos _ (by omega)
  have h4 : 0 ≤ X % ((2 ^ k : Nat) : Int) := Int.emod_nonneg _ (by omega)
  have : 2 ^ k ≤ 256 := hp
  show (Int32.ofInt X &&& Int32.ofInt ((2 ^ k - 1 : Nat) : Int)).toBitVec.toInt = _
  rw [h, BitVec.toInt_eq_toNat_of_lt, BitVec.toNat_ofNat]
  · omega
  · rw [BitVec.toNat_ofNat]; omega
theorem a63 (X : Int) : aAnd X 63 = X % 64 := a2k X 6 (by decide)
theorem a15 (X : Int) : aAnd X 15 = X % 16 := a2k X 4 (by decide)
theorem a1 (X : Int) : aAnd X 1 = X % 2 := a2k X 1 (by decide)
def bc1 (x : Int) : Int := w32 (x - aAnd (aUshr x 1) 1431655765)
def bc2 (x : Int) : Int := w32 (aAnd (bc1 x) 858993459 + aAnd (aUshr (bc1 x) 2) 858993459)
def bc3 (x : Int) : Int := aAnd (w32 (bc2 x + aUshr (bc2 x) 4)) 252645135
def bcf (x : Int) : Int := aAnd (w32 (w32 (bc3 x + aUshr (bc3 x) 8) + aUshr (w32 (bc3 x + aUshr (bc3 x) 8)) 16)) 63
theorem bc_s (x : Int) (μ : am_M) : JI_bitCount x μ = some (bcf x, μ) := rfl
theorem bcf_b (x : Int) : 0 ≤ bcf x ∧ bcf x ≤ 63 := by
  unfold bcf
  rw [a63]
  omega
/-- how many lie on so many tables -/
def lyS (T : Int → Int) : Nat → Int
  | 0 => 0
  | n + 1 => lyS T n + bcf (T n)
theorem lyS_b (T : Int → Int) : ∀ n : Nat, 0 ≤ lyS T n ∧ lyS T n ≤ 63 * (n : Int)
  | 0 => ⟨Int.le_refl 0, Int.le_refl 0⟩
  | n + 1 => by
    have h1 := lyS_b T n
    have h2 := bcf_b (T n)
    show 0 ≤ lyS T n + bcf (T n) ∧ lyS T n + bcf (T n) ≤ _
    omega
theorem lyS_c {T T' : Int → Int} : ∀ (n : Nat), (∀ i : Int, 0 ≤ i → i < (n : Int) → T' i = T i) → lyS T' n = lyS T n
  | 0, _ => rfl
  | n + 1, h => by
    show lyS T' n + bcf (T' n) = lyS T n + bcf (T n)
    rw [lyS_c n (fun i h0 h1 => h i h0 (by omega)), h n (by omega) (by omega)]
theorem ly_loop {μ : am_M} (hd : 0 ≤ μ 300 5 ∧ μ 300 5 ≤ 16) : ∀ (k N j : Nat), (j : Int) + k = μ 300 5 → k < N → Mc_lying_L4 N 300 (lyS (μ 302) j) (j : Int) μ = some (lyS (μ 302) (μ 300 5).toNat, μ) := by
  intro k
  induction k with
  | zero =>
    intro N j hj hN
    obtain ⟨N, rfl⟩ : ∃ M, N = M + 1 := ⟨N - 1, by omega⟩
    show Mc_lying_L4_b (Mc_lying_L4 N) 300 _ _ μ = _
    unfold Mc_lying_L4_b
    rw [q_gd_s rfl, if_neg (by omega)]
    have : (μ 300 5).toNat = j := by omega
    rw [this]
  | succ k ih =>
    intro N j hj hN
    obtain ⟨N, rfl⟩ : ∃ M, N = M + 1 := ⟨N - 1, by omega⟩
    show Mc_lying_L4_b (Mc_lying_L4 N) 300 _ _ μ = _
    unfold Mc_lying_L4_b
    have h1 := lyS_b (μ 302) j
    have h2 := bcf_b (μ 302 j)
    rw [q_gd_s rfl, if_pos (by omega), show (300 : Int) + 2 = 302 from rfl, X_at_302, if_pos (by omega), q_bd_s, bc_s, q_bd_s, w32_id (by unfold r32; omega), w32_id (x := (j : Int) + 1) (by unfold r32; omega)]
    exact ih N (j + 1) (by omega) (by omega)
theorem ly_s {μ : am_M} (hd : 0 ≤ μ 300 5 ∧ μ 300 5 ≤ 16) : Mc_lying 300 μ = some (lyS (μ 302) (μ 300 5).toNat, μ) := by
  have hFU := am_FU_ge
  have h := ly_loop hd (μ 300 5).toNat am_FU 0 (by omega) (by omega)
  exact h
/-! rows: they always answer -/
def isA (c : Int) : Prop := ∃ n : Int, am_lenA c = n ∧ am_lenK 0 c = n ∧ 0 ≤ n
theorem xt {c : Int} (h : isA c) (i : Int) (μ : am_M) : ∃ v, X_at c i μ = some (v, μ) := by
  obtain ⟨n, h1, h2, h3⟩ := h
  exact ⟨_, X_at_s i μ h1 h2 h3⟩
theorem xp {c : Int} (h : isA c) (i v : Int) (μ : am_M) : ∃ μ', X_put c i v μ = some (0, μ') ∧ ∀ a j, ¬ (a = c ∧ j = i) → μ' a j = μ a j := by
  obtain ⟨n, h1, h2, h3⟩ := h
  refine ⟨_, X_put_s i v μ h1 h2 h3, fun a j q => ?_⟩
  by_cases z : 0 ≤ i ∧ i < n
  · rw [if_pos z]; exact if_neg q
  · rw [if_neg z]
theorem lA {b k : Int} (hb : bOk b) (h1 : isA (100 + 1 + k)) (h2 : isA (200 + 1 + k)) : isA (b + 1 + k) := by
  rcases hb with h | h <;> subst h
  · exact h1
  · exact h2
theorem lB {b k : Int} (hb : bOk b) (h1 : isA (100 + k)) (h2 : isA (200 + k)) : isA (b + k) := by
  rcases hb with h | h <;> subst h
  · exact h1
  · exact h2
theorem l60 {c : Int} (h1 : am_lenA c = 60) (h2 : am_lenK 0 c = 60) : isA c := ⟨60, h1, h2, by decide⟩
theorem a_kind {b : Int} (hb : bOk b) : isA (b + 1 + 1) := lA hb (l60 rfl rfl) (l60 rfl rfl)
theorem a_laid {b : Int} (hb : bOk b) : isA (b + 1 + 2) := lA hb (l60 rfl rfl) (l60 rfl rfl)
theorem a_besd {b : Int} (hb : bOk b) : isA (b + 1 + 3) := lA hb (l60 rfl rfl) (l60 rfl rfl)
theorem a_call {b : Int} (hb : bOk b) : isA (b + 1 + 5) := lA hb (l60 rfl rfl) (l60 rfl rfl)
theorem a_mate {b : Int} (hb : bOk b) : isA (b + 1 + 6) := lA hb (l60 rfl rfl) (l60 rfl rfl)
theorem a_gone {b : Int} (hb : bOk b) : isA (b + 1 + 7) := lA hb (l60 rfl rfl) (l60 rfl rfl)
theorem a_star {b : Int} (hb : bOk b) : isA (b + 1 + 8) := lA hb (l60 rfl rfl) (l60 rfl rfl)
theorem a_stop {b : Int} (hb : bOk b) : isA (b + 1 + 9) := lA hb (l60 rfl rfl) (l60 rfl rfl)
theorem a_code {b : Int} (hb : bOk b) : isA (b + 1 + 10) := lA hb ⟨1000, rfl, rfl, by decide⟩ ⟨1000, rfl, rfl, by decide⟩
theorem a_frst {b : Int} (hb : bOk b) : isA (b + 15) := lB hb ⟨4, rfl, rfl, by decide⟩ ⟨4, rfl, rfl, by decide⟩
theorem a_takn {b : Int} (hb : bOk b) : isA (b + 17) := lB hb ⟨4, rfl, rfl, by decide⟩ ⟨4, rfl, rfl, by decide⟩
theorem a_41 : isA 41 := ⟨64, rfl, rfl, by decide⟩
theorem a_301 : isA (300 + 1) := ⟨16, rfl, rfl, by decide⟩
theorem a_302 : isA (300 + 2) := ⟨16, rfl, rfl, by decide⟩
theorem a_303 : isA (300 + 3) := ⟨160, rfl, rfl, by decide⟩
theorem kd_t {b : Int} (hb : bOk b) (i : Int) (μ : am_M) : ∃ v, Ln_codeKind (b + 1) i μ = some (v, μ) := by
  unfold Ln_codeKind
  obtain ⟨v, hv⟩ := xt (a_code hb) i μ
  rw [q_gd_s (bO2 hb), hv, q_bd_s]
  exact ⟨_, rfl⟩
theorem cn_t {b : Int} (hb : bOk b) (i : Int) (μ : am_M) : ∃ v, Ln_codeNumber (b + 1) i μ = some (v, μ) := by
  unfold Ln_codeNumber
  obtain ⟨v, hv⟩ := xt (a_code hb) i μ
  rw [q_gd_s (bO2 hb), hv, q_bd_s]
  exact ⟨_, rfl⟩
theorem tr_loop {b : Int} (hb : bOk b) {μ : am_M} : ∀ (k N : Nat) (v2 v3 v4 : Int), v3 - v4 ≤ (k : Int) → 0 ≤ v2 → v2 + k ≤ 100000 → 0 ≤ v4 → v3 ≤ 1000 → k < N → ∃ r, Ln_timesRead_L21 N (b + 1) v2 v3 v4 μ = some (r, μ) ∧ v2 ≤ r ∧ r ≤ v2 + k := by
  intro k
  induction k with
  | zero =>
    intro N v2 v3 v4 h1 h2 h3 h4 h5 hN
    obtain ⟨N, rfl⟩ : ∃ M, N = M + 1 := ⟨N - 1, by omega⟩
    show ∃ r, Ln_timesRead_L21_b (Ln_timesRead_L21 N) (b + 1) v2 v3 v4 μ = _ ∧ _
    unfold Ln_timesRead_L21_b
    rw [if_neg (by omega)]
    exact ⟨v2, rfl, by omega, by omega⟩
  | succ k ih =>
    intro N v2 v3 v4 h1 h2 h3 h4 h5 hN
    obtain ⟨N, rfl⟩ : ∃ M, N = M + 1 := ⟨N - 1, by omega⟩
    show ∃ r, Ln_timesRead_L21_b (Ln_timesRead_L21 N) (b + 1) v2 v3 v4 μ = _ ∧ _
    unfold Ln_timesRead_L21_b
    by_cases q : v4 < v3
    · obtain ⟨v, hv⟩ := kd_t hb v4 μ
      rw [if_pos q, q_gd_s (bO2 hb), hv, q_bd_s]
      have key : ∀ s : Int, s = 1 ∨ s = 0 → ∃ r, Ln_timesRead_B43 (Ln_timesRead_L21 N) (b + 1) v3 v4 v2 s μ = some (r, μ) ∧ v2 ≤ r ∧ r ≤ v2 + ((k + 1 : Nat) : Int) := by
        intro s hs
        unfold Ln_timesRead_B43
        rw [w32_id (x := v2 + s) (by unfold r32; omega), w32_id (x := v4 + 1) (by unfold r32; omega)]
        obtain ⟨r, e, e1, e2⟩ := ih N (v2 + s) v3 (v4 + 1) (by omega) (by omega) (by omega) (by omega) h5 (by omega)
        exact ⟨r, e, by omega, by omega⟩
      by_cases z : v = 2
      · rw [if_pos z]; exact key 1 (Or.inl rfl)
      · rw [if_neg z]; exact key 0 (Or.inr rfl)
    · rw [if_neg q]
      exact ⟨v2, rfl, by omega, by omega⟩
theorem rs_loop {b : Int} (hb : bOk b) {μ : am_M} : ∀ (k N : Nat) (v2 v3 v4 : Int), v3 - v4 ≤ (k : Int) → 0 ≤ v4 → v3 ≤ 1000 → k < N → ∃ r, Ln_readSet_L21 N (b + 1) v2 v3 v4 μ = some (r, μ) := by
  intro k
  induction k with
  | zero =>
    intro N v2 v3 v4 h1 h4 h5 hN
    obtain ⟨N, rfl⟩ : ∃ M, N = M + 1 := ⟨N - 1, by omega⟩
    show ∃ r, Ln_readSet_L21_b (Ln_readSet_L21 N) (b + 1) v2 v3 v4 μ = _
    unfold Ln_readSet_L21_b
    rw [if_neg (by omega)]
    exact ⟨v2, rfl⟩
  | succ k ih =>
    intro N v2 v3 v4 h1 h4 h5 hN
    obtain ⟨N, rfl⟩ : ∃ M, N = M + 1 := ⟨N - 1, by omega⟩
    show ∃ r, Ln_readSet_L21_b (Ln_readSet_L21 N) (b + 1) v2 v3 v4 μ = _
    unfold Ln_readSet_L21_b
    by_cases q : v4 < v3
    · obtain ⟨v, hv⟩ := kd_t hb v4 μ
      obtain ⟨u, hu⟩ := cn_t hb v4 μ
      rw [if_pos q, q_gd_s (bO2 hb), hv, q_bd_s]
      have key : ∀ s : Int, ∃ r, Ln_readSet_B50 (Ln_readSet_L21 N) (b + 1) v3 v4 v2 s μ = some (r, μ) := by
        intro s
        unfold Ln_readSet_B50
        rw [w32_id (x := v4 + 1) (by unfold r32; omega)]
        exact ih N _ v3 (v4 + 1) (by omega) (by omega) h5 (by omega)
      by_cases z : v = 2
      · rw [if_pos z, hu, q_bd_s]; exact key _
      · rw [if_neg z]; exact key 0
    · rw [if_neg q]
      exact ⟨v2, rfl⟩
/-! what is told of each line: where its codes are, where it goes on -/
def TF (n b : Int) (μ : am_M) : Prop := ∀ l : Int, 0 ≤ l → l < n → n ≤ 60 ∧ (0 ≤ μ (b + 1 + 8) l ∧ μ (b + 1 + 8) l ≤ 1000) ∧ (0 ≤ μ (b + 1 + 9) l ∧ μ (b + 1 + 9) l ≤ 1000) ∧ (μ (b + 1 + 1) l ≠ 8 → l + 1 < n) ∧ (μ (b + 1 + 1) l = 5 ∨ μ (b + 1 + 1) l = 6 → 0 ≤ μ (b + 1 + 6) l + 1 ∧ μ (b + 1 + 6) l + 1 < n) ∧ (μ (b + 1 + 1) l = 4 → (0 ≤ μ (b + 1 + 5) l ∧ μ (b + 1 + 5) l < 4) ∧ (0 ≤ μ (b + 17) (μ (b + 1 + 5) l) ∧ μ (b + 17) (μ (b + 1 + 5) l) ≤ 4) ∧ (0 ≤ μ (b + 15) (μ (b + 1 + 5) l) ∧ μ (b + 15) (μ (b + 1 + 5) l) + μ (b + 17) (μ (b + 1 + 5) l) < n))
theorem bOk_r {b : Int} (hb : bOk b) : 100 ≤ b ∧ b ≤ 200 := by rcases hb with h | h <;> omega
theorem x60 {b k : Int} (hb : bOk b) (h1 : am_lenA (100 + 1 + k) = 60 ∧ am_lenK 0 (100 + 1 + k) = 60) (h2 : am_lenA (200 + 1 + k) = 60 ∧ am_lenK 0 (200 + 1 + k) = 60) {i : Int} (h0 : 0 ≤ i) (h6 : i < 60) (μ : am_M) : X_at (b + 1 + k) i μ = some (μ (b + 1 + k) i, μ) := by
  rcases hb with h | h <;> subst h
  · exact X_at_i h1.1 h1.2 h0 h6
  · exact X_at_i h2.1 h2.2 h0 h6
theorem x4 {b k : Int} (hb : bOk b) (h1 : am_lenA (100 + k) = 4 ∧ am_lenK 0 (100 + k) = 4) (h2 : am_lenA (200 + k) = 4 ∧ am_lenK 0 (200 + k) = 4) {i : Int} (h0 : 0 ≤ i) (h6 : i < 4) (μ : am_M) : X_at (b + k) i μ = some (μ (b + k) i, μ) := by
  rcases hb with h | h <;> subst h
  · exact X_at_i h1.1 h1.2 h0 h6
  · exact X_at_i h2.1 h2.2 h0 h6
theorem TF.c {n b : Int} {μ μ' : am_M} (h : TF n b μ) (hf : ∀ c i, b ≤ c → c < b + 23 → μ' c i = μ c i) : TF n b μ' := by
  intro l h0 h1
  have := h l h0 h1
  rw [hf _ l (by omega) (by omega), hf _ l (by omega) (by omega), hf _ l (by omega) (by omega), hf _ l (by omega) (by omega), hf _ l (by omega) (by omega), hf _ _ (by omega) (by omega), hf _ _ (by omega) (by omega)]
  exact this
