/-! Marks: the machine laid aside and gone back to. -/
theorem q_cp_s {c0 sp c1 dp n : Int} {μ : am_M} {k : am_M → am_O} (h : 0 ≤ sp ∧ 0 ≤ dp ∧ 0 ≤ n ∧ sp + n ≤ am_lenK 0 c0 ∧ dp + n ≤ am_lenK 0 c1) : q_cp c0 sp c1 dp n μ k = k (am_cpy μ c0 sp c1 dp n) := if_pos h
def isM (c : Int) : Prop := am_isO c 3 = true ∧ (am_lenA (c + 1) = 16 ∧ am_lenK 0 (c + 1) = 16) ∧ (am_lenA (c + 2) = 16 ∧ am_lenK 0 (c + 2) = 16) ∧ am_lenA (c + 3) = 160 ∧ am_lenK 0 (c + 3) = 160
theorem isM_0 : isM 300 := ⟨rfl, ⟨rfl, rfl⟩, ⟨rfl, rfl⟩, rfl, rfl⟩
theorem isM_k {m : Int} (h0 : 0 ≤ m) (h1 : m < 4) : isM (320 + 10 * m) := by
  have : m = 0 ∨ m = 1 ∨ m = 2 ∨ m = 3 := by omega
  rcases this with h | h | h | h <;> subst h <;> exact ⟨rfl, ⟨rfl, rfl⟩, ⟨rfl, rfl⟩, rfl, rfl⟩
theorem bec_t {c d : Int} (hc : isM c) (hd : isM d) (hne : d + 10 ≤ c ∨ c + 10 ≤ d) (μ : am_M) : ∃ μ', Mc_become c d μ = some (0, μ') ∧ (∀ i, 5 ≤ i → i ≤ 13 → μ' c i = μ d i) ∧ (∀ j, 0 ≤ j → j < 16 → μ' (c + 1) j = μ (d + 1) j ∧ μ' (c + 2) j = μ (d + 2) j) ∧ (∀ a i, ¬ (c ≤ a ∧ a ≤ c + 3) → μ' a i = μ a i) ∧ μ' c 1 = μ c 1 := by
  obtain ⟨c0, ⟨c1, c2⟩, ⟨c3, c4⟩, c5, c6⟩ := hc
  obtain ⟨d0, ⟨d1, d2⟩, ⟨d3, d4⟩, d5, d6⟩ := hd
  unfold Mc_become
  rw [q_gd_s d0, q_gd_s c0, q_len_s (by omega), c1, q_cp_s (by omega), q_len_s (by omega), c3, q_cp_s (by omega), q_len_s (by omega), c5, q_cp_s (by omega)]
  simp only [q_pf_d]
  generalize hX : am_cpy (am_cpy (am_cpy μ (d + 1) 0 (c + 1) 0 16) (d + 2) 0 (c + 2) 0 16) (d + 3) 0 (c + 3) 0 160 = X
  have hX0 : ∀ a i, ¬ (c + 1 ≤ a ∧ a ≤ c + 3) → X a i = μ a i := fun a i h => by
    rw [← hX]
    unfold am_cpy
    rw [if_neg (by omega), if_neg (by omega), if_neg (by omega)]
  have hX1 : ∀ j, 0 ≤ j → j < 16 → X (c + 1) j = μ (d + 1) j := fun j h0 h1 => by
    rw [← hX]
    unfold am_cpy
    rw [if_neg (by omega), if_neg (by omega), if_pos (by omega), show (0 : Int) + (j - 0) = j by omega]
  have hX2 : ∀ j, 0 ≤ j → j < 16 → X (c + 2) j = μ (d + 2) j := fun j h0 h1 => by
    rw [← hX]
    unfold am_cpy
    rw [if_neg (by omega), if_pos (by omega), show (0 : Int) + (j - 0) = j by omega, if_neg (by omega)]
  have hmo : ∀ (Y : am_M) (i v j : Int), m_st Y c i v d j = Y d j := fun Y i v j => mo (fun z => by omega)
  simp only [hmo]
  refine ⟨_, rfl, fun i h5 h13 => ?_, fun j h0 h1 => ⟨?_, ?_⟩, fun a i h => ?_, ?_⟩
  · have hd : ∀ i, X d i = μ d i := fun i => hX0 d i (by omega)
    have : i = 5 ∨ i = 6 ∨ i = 7 ∨ i = 8 ∨ i = 9 ∨ i = 10 ∨ i = 11 ∨ i = 12 ∨ i = 13 := by omega
    have k : ∀ (Y : am_M) (i v j : Int), j ≠ i → m_st Y c i v c j = Y c j := fun Y i v j h => mo (fun z => h z.2)
    rcases this with h | h | h | h | h | h | h | h | h <;> subst h
    · rw [k _ _ _ _ (by decide), k _ _ _ _ (by decide), k _ _ _ _ (by decide), k _ _ _ _ (by decide), k _ _ _ _ (by decide), k _ _ _ _ (by decide), k _ _ _ _ (by decide), k _ _ _ _ (by decide), m_st_eq, hd]
    · rw [k _ _ _ _ (by decide), k _ _ _ _ (by decide), k _ _ _ _ (by decide), k _ _ _ _ (by decide), k _ _ _ _ (by decide), k _ _ _ _ (by decide), k _ _ _ _ (by decide), m_st_eq, hd]
    · rw [k _ _ _ _ (by decide), k _ _ _ _ (by decide), k _ _ _ _ (by decide), k _ _ _ _ (by decide), k _ _ _ _ (by decide), k _ _ _ _ (by decide), m_st_eq, hd]
    · rw [k _ _ _ _ (by decide), k _ _ _ _ (by decide), k _ _ _ _ (by decide), k _ _ _ _ (by decide), k _ _ _ _ (by decide), m_st_eq, hd]
    · rw [k _ _ _ _ (by decide), k _ _ _ _ (by decide), k _ _ _ _ (by decide), k _ _ _ _ (by decide), m_st_eq, hd]
    · rw [k _ _ _ _ (by decide), k _ _ _ _ (by decide), k _ _ _ _ (by decide), m_st_eq, hd]
    · rw [k _ _ _ _ (by decide), k _ _ _ _ (by decide), m_st_eq, hd]
    · rw [k _ _ _ _ (by decide), m_st_eq, hd]
    · rw [m_st_eq, hd]
  · rw [mo (by omega), mo (by omega), mo (by omega), mo (by omega), mo (by omega), mo (by omega), mo (by omega), mo (by omega), mo (by omega), hX1 j h0 h1]
  · rw [mo (by omega), mo (by omega), mo (by omega), mo (by omega), mo (by omega), mo (by omega), mo (by omega), mo (by omega), mo (by omega), hX2 j h0 h1]
  · rw [mo (by omega), mo (by omega), mo (by omega), mo (by omega), mo (by omega), mo (by omega), mo (by omega), mo (by omega), mo (by omega), hX0 a i (by omega)]
  · rw [mo (by omega), mo (by omega), mo (by omega), mo (by omega), mo (by omega), mo (by omega), mo (by omega), mo (by omega), mo (by omega), hX0 c 1 (by omega)]
theorem bit_f : ∀ L : Fin 16, ∀ m : Fin 4, (0 ≤ aOr (L.val : Int) (aShl 1 (m.val : Int)) ∧ aOr (L.val : Int) (aShl 1 (m.val : Int)) < 16) ∧ aAnd (aShr (aOr (L.val : Int) (aShl 1 (m.val : Int))) (m.val : Int)) 1 ≠ 0 := by decide +kernel
theorem bit_g {L m : Int} (hL : 0 ≤ L ∧ L < 16) (hm : 0 ≤ m ∧ m < 4) : (0 ≤ aOr L (aShl 1 m) ∧ aOr L (aShl 1 m) < 16) ∧ aAnd (aShr (aOr L (aShl 1 m)) m) 1 ≠ 0 := by
  have h := bit_f ⟨L.toNat, by omega⟩ ⟨m.toNat, by omega⟩
  have e1 : ((L.toNat : Nat) : Int) = L := by omega
  have e2 : ((m.toNat : Nat) : Int) = m := by omega
  simp only [e1, e2] at h
  exact h
/-- the machine's cells at c are those that it had -/
def SV (c : Int) (μ0 μ : am_M) : Prop := (∀ i, 5 ≤ i → i ≤ 13 → μ c i = μ0 300 i) ∧ ∀ j, 0 ≤ j → j < 16 → μ (c + 1) j = μ0 301 j ∧ μ (c + 2) j = μ0 302 j
theorem mk_lay {m : Int} (hm : 0 ≤ m ∧ m < 4) {μ : am_M} (h7 : μ 70 m = 320 + 10 * m) (hL : 0 ≤ μ 0 10 ∧ μ 0 10 < 16) : ∃ μ', X_mark m 0 μ = some (1, μ') ∧ SV (320 + 10 * m) μ μ' ∧ (0 ≤ μ' 0 10 ∧ μ' 0 10 < 16) ∧ aAnd (aShr (μ' 0 10) m) 1 ≠ 0 ∧ ∀ a i, ¬ (320 ≤ a ∧ a < 360) → ¬ (a = 0 ∧ i = 10) → μ' a i = μ a i := by
  obtain ⟨μ1, e, f1, f2, f3, -⟩ := bec_t (isM_k hm.1 hm.2) isM_0 (by omega) μ
  obtain ⟨b1, b2⟩ := bit_g hL hm
  unfold X_mark X_mark_B43
  rw [if_neg (by omega), if_pos hm.2, q_ld_s hm.1 hm.2, h7, if_neg (by omega), if_pos rfl, if_pos rfl, q_gd_s (isM_k hm.1 hm.2).1, e, q_bd_s, q_pf_d, f3 0 10 (by omega)]
  refine ⟨_, rfl, ⟨fun i h5 h13 => ?_, fun j h0 h1 => ⟨?_, ?_⟩⟩, ?_, ?_, fun a i h1 h2 => ?_⟩
  · rw [mo (by omega)]; exact f1 i h5 h13
  · rw [mo (by omega)]; exact (f2 j h0 h1).1
  · rw [mo (by omega)]; exact (f2 j h0 h1).2
  · rw [m_st_eq]; exact b1
  · rw [m_st_eq]; exact b2
  · rw [mo h2, f3 a i (by omega)]
theorem mk_back {m : Int} (hm : 0 ≤ m ∧ m < 4) {μ0 μ : am_M} (h7 : μ 70 m = 320 + 10 * m) (hb : aAnd (aShr (μ 0 10) m) 1 ≠ 0) (hs : SV (320 + 10 * m) μ0 μ) : ∃ μ', X_mark m 1 μ = some (1, μ') ∧ SV 300 μ0 μ' ∧ (∀ a i, ¬ (300 ≤ a ∧ a ≤ 303) → μ' a i = μ a i) ∧ μ' 300 1 = μ 300 1 := by
  obtain ⟨μ1, e, f1, f2, f3, f4⟩ := bec_t isM_0 (isM_k hm.1 hm.2) (by omega) μ
  unfold X_mark X_mark_B43
  rw [if_neg (by omega), if_pos hm.2, q_ld_s hm.1 hm.2, h7, if_neg (by omega), if_neg (by decide), if_neg hb, if_neg (by decide), e, q_bd_s]
  refine ⟨μ1, rfl, ⟨fun i h5 h13 => (f1 i h5 h13).trans (hs.1 i h5 h13), fun j h0 h1 => ⟨(f2 j h0 h1).1.trans (hs.2 j h0 h1).1, (f2 j h0 h1).2.trans (hs.2 j h0 h1).2⟩⟩, fun a i h => f3 a i (by omega), f4⟩
theorem SV.f {c : Int} {μ0 μ μ' : am_M} (h : SV c μ0 μ) (hf : ∀ a i, c ≤ a → a ≤ c + 2 → μ' a i = μ a i) : SV c μ0 μ' := ⟨fun i a b => (hf c i (by omega) (by omega)).trans (h.1 i a b), fun j a b => ⟨(hf _ j (by omega) (by omega)).trans (h.2 j a b).1, (hf _ j (by omega) (by omega)).trans (h.2 j a b).2⟩⟩
theorem MB.sv {n A : Int} {μ0 μ : am_M} (h : MB n A μ0) (hs : SV 300 μ0 μ) : MB n A μ := by
  obtain ⟨h1, h2, h3, h4, h5, h6⟩ := h
  obtain ⟨s1, s2⟩ := hs
  have e5 := s1 5 (by decide) (by decide)
  have e6 := s1 6 (by decide) (by decide)
  have e8 := s1 8 (by decide) (by decide)
  have e9 := s1 9 (by decide) (by decide)
  have e11 := s1 11 (by decide) (by decide)
  refine ⟨by rw [e5]; exact h1, fun z => ?_, fun i i0 i1 => ?_, ?_, by rw [e9]; exact h5, by rw [e11]; exact h6⟩
  · rw [e6] at z; rw [e5]; exact h2 z
  · rw [e5] at i1
    have := (s2 i i0 (by omega)).1
    rw [show μ 301 i = μ0 301 i from this]
    exact h3 i i0 i1
  · rw [e5, e8, lyS_c (T := μ0 302) (T' := μ 302) _ (fun i a b => (s2 i a (by omega)).2)]
    exact h4
theorem MB.f {n A : Int} {μ μ' : am_M} (h : MB n A μ) (hf : ∀ a i, 300 ≤ a → a ≤ 302 → μ' a i = μ a i) : MB n A μ' := h.sv ⟨fun i _ _ => hf 300 i (by omega) (by omega), fun j _ _ => ⟨hf 301 j (by omega) (by omega), hf 302 j (by omega) (by omega)⟩⟩
theorem MB.rp {n A : Int} {μ μ' : am_M} (h : MB n A μ) (hf : ∀ a i, ¬ (a = 300 ∧ (i = 12 ∨ i = 13)) → μ' a i = μ a i) : MB n A μ' := by
  obtain ⟨h1, h2, h3, h4, h5, h6⟩ := h
  have e : ∀ i, i ≠ 12 → i ≠ 13 → μ' 300 i = μ 300 i := fun i a b => hf 300 i (by omega)
  refine ⟨by rw [e 5 (by decide) (by decide)]; exact h1, fun z => ?_, fun i i0 i1 => ?_, ?_, by rw [e 9 (by decide) (by decide)]; exact h5, by rw [e 11 (by decide) (by decide)]; exact h6⟩
  · rw [e 6 (by decide) (by decide)] at z; rw [e 5 (by decide) (by decide)]; exact h2 z
  · rw [e 5 (by decide) (by decide)] at i1
    rw [hf 301 i (by omega)]
    exact h3 i i0 i1
  · rw [e 5 (by decide) (by decide), e 8 (by decide) (by decide), show μ' 302 = μ 302 from funext fun i => hf 302 i (by omega)]
    exact h4
/-! what the machine tells -/
theorem m0 (μ : am_M) : X_machine 0 μ = some (μ 300 6, μ) := by
  unfold X_machine Mc_tell
  rw [if_pos rfl, q_gd_s rfl, q_bd_s]
theorem m1_y {μ : am_M} (hd : 1 ≤ μ 300 5 ∧ μ 300 5 ≤ 16) (h : μ 300 6 = 1) : X_machine 1 μ = some (μ 301 (μ 300 5 - 1), μ) := by
  unfold X_machine Mc_tell
  rw [if_neg (by decide), if_pos rfl, q_gd_s rfl, if_pos h, w32_id (x := μ 300 5 - 1) (by unfold r32; omega), show (300 : Int) + 1 = 301 from rfl, X_at_301, if_pos (by omega), q_bd_s, q_bd_s]
theorem m1_n {μ : am_M} (h : μ 300 6 ≠ 1) : X_machine 1 μ = some (-1, μ) := by
  unfold X_machine Mc_tell
  rw [if_neg (by decide), if_pos rfl, q_gd_s rfl, if_neg h, q_bd_s]
theorem m2 {μ : am_M} (hd : 0 ≤ μ 300 5 ∧ μ 300 5 ≤ 16) : X_machine 2 μ = some (lyS (μ 302) (μ 300 5).toNat, μ) := by
  unfold X_machine Mc_tell
  rw [if_neg (by decide), if_neg (by decide), if_pos rfl, q_gd_s rfl, ly_s hd, q_bd_s, q_bd_s]
theorem m3 (μ : am_M) : X_machine 3 μ = some (μ 300 8, μ) := by
  unfold X_machine Mc_tell
  rw [if_neg (by decide), if_neg (by decide), if_neg (by decide), if_pos rfl, q_gd_s rfl, q_bd_s]
theorem m4 (μ : am_M) : X_machine 4 μ = some (μ 300 9, μ) := by
  unfold X_machine Mc_tell
  rw [if_neg (by decide), if_neg (by decide), if_neg (by decide), if_neg (by decide), if_pos rfl, q_gd_s rfl, q_bd_s]
theorem m5 (μ : am_M) : X_machine 5 μ = some (μ 300 10, μ) := by
  unfold X_machine Mc_tell
  rw [if_neg (by decide), if_neg (by decide), if_neg (by decide), if_neg (by decide), if_neg (by decide), if_pos rfl, q_gd_s rfl, q_bd_s]
theorem m6 (μ : am_M) : X_machine 6 μ = some (μ 300 11, μ) := by
  unfold X_machine Mc_tell
  rw [if_neg (by decide), if_neg (by decide), if_neg (by decide), if_neg (by decide), if_neg (by decide), if_neg (by decide), if_pos rfl, q_gd_s rfl, q_bd_s]
theorem m7 (μ : am_M) : X_machine 7 μ = some (μ 300 5, μ) := by
  unfold X_machine Mc_tell
  rw [if_neg (by decide), if_neg (by decide), if_neg (by decide), if_neg (by decide), if_neg (by decide), if_neg (by decide), if_neg (by decide), if_pos rfl, q_gd_s rfl, q_bd_s]
/-- what sound asks of the machine, at its end -/
theorem exit_t {n cnt A : Int} {μ : am_M} (hb : bOk (μ 0 8)) (hc : μ (μ 0 8) 13 = cnt) (hn : μ (μ 0 8 + 1) 10 = n) (hM : MB n A μ) (kx : Int → Int → am_M → am_O) : L_sound_L4_b kx n cnt μ = some (1, μ) := by
  obtain ⟨h1, h2, h3, h4, h5, h6⟩ := hM
  have e1 : X_count 1 μ = some (cnt, μ) := by
    unfold X_count
    rw [if_neg (by decide), if_pos rfl, q_gd_s (bO0 hb), hc]
  have e2 : X_count 2 μ = some (n, μ) := by
    unfold X_count
    rw [if_neg (by decide), if_neg (by decide), if_pos rfl, q_gd_s (bO0 hb), q_gd_s (bO2 hb), hn]
  have last : ∀ s : Int, L_sound_B580 s s μ = some (1, μ) := by
    intro s
    unfold L_sound_B580
    rw [if_pos rfl, m2 h1, q_bd_s, m3, q_bd_s, if_pos h4, m7, q_bd_s, if_pos h1.2]
  unfold L_sound_L4_b
  rw [e1, q_bd_s, if_neg (by omega), m0, q_bd_s, e2, q_bd_s, if_pos rfl]
  by_cases q : μ 300 6 = 1
  · have d1 := h2 q
    rw [if_pos q]
    unfold L_sound_B567
    have := h3 (μ 300 5 - 1) (by omega) (by omega)
    rw [m1_y ⟨d1, h1.2⟩ q, q_bd_s, if_neg (by omega)]
    exact last 1
  · rw [if_neg q]
    unfold L_sound_B567
    rw [m1_n q, q_bd_s, if_pos (by decide)]
    exact last 0
