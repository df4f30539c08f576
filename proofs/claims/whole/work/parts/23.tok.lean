/-! Tokens: where they stand, what each reader makes of them. -/
def tkS (g : Int → Int) (n p : Int) : Int := scan sBlank g n 1000 p
def tkE (g : Int → Int) (n p : Int) : Int := if tkS g n p = n then n else if sLet (g (tkS g n p)) = true then scan sLet g n 1000 (tkS g n p) else if sDig (g (tkS g n p)) = true then scan sDig g n 1000 (tkS g n p) else tkS g n p + 1
def tkL (g : Int → Int) (n p : Int) : Nat := (tkE g n p - tkS g n p).toNat
def xK (g R : Int → Int) (n p : Int) : Int := if tkS g n p = n then 1 else if sLet (g (tkS g n p)) = true then (if tkE g n p - tkS g n p ≤ 8 then (if fnd R (enc 32 g (tkS g n p) (tkL g n p)) 17 0 = -1 then 2 else 100 + fnd R (enc 32 g (tkS g n p) (tkL g n p)) 17 0) else 0) else if sDig (g (tkS g n p)) = true then (if tkE g n p - tkS g n p ≤ 4 then 3 else 0) else if sSgn (g (tkS g n p)) = true then g (tkS g n p) else 0
theorem tkS_b {g : Int → Int} {n p : Int} (h0 : 0 ≤ p) (h1 : p ≤ n) : p ≤ tkS g n p ∧ tkS g n p ≤ n := ⟨scan_ge _ _ _ _ _, scan_le _ _ _ _ _ h1⟩
theorem tkE_b {g : Int → Int} {n p : Int} (h0 : 0 ≤ p) (h1 : p ≤ n) (hn : n ≤ 1000) : tkS g n p ≤ tkE g n p ∧ tkE g n p ≤ n ∧ (tkS g n p < n → tkS g n p < tkE g n p) := by
  obtain ⟨a, b⟩ := tkS_b (g := g) h0 h1
  have grow : ∀ (P : Int → Bool), tkS g n p < n → P (g (tkS g n p)) = true → tkS g n p < scan P g n 1000 (tkS g n p) := fun P hlt hP => by
    show _ < scan P g n (999 + 1) _
    unfold scan
    rw [if_pos ⟨hlt, hP⟩]
    exact Int.lt_of_lt_of_le (Int.lt_add_one_of_le (Int.le_refl _)) (scan_ge P g n 999 (tkS g n p + 1))
  unfold tkE
  by_cases e : tkS g n p = n
  · rw [if_pos e]; omega
  · rw [if_neg e]
    by_cases hl : sLet (g (tkS g n p)) = true
    · rw [if_pos hl]
      have := scan_le sLet g n 1000 (tkS g n p) b
      have := grow sLet (by omega) hl
      omega
    · rw [if_neg hl]
      by_cases hd : sDig (g (tkS g n p)) = true
      · rw [if_pos hd]
        have := scan_le sDig g n 1000 (tkS g n p) b
        have := grow sDig (by omega) hd
        omega
      · rw [if_neg hd]; omega
theorem tkE_let {g : Int → Int} {n p : Int} (h : tkS g n p ≠ n) (hl : sLet (g (tkS g n p)) = true) : tkE g n p = scan sLet g n 1000 (tkS g n p) ∧ ∀ j : Int, tkS g n p ≤ j → j < tkE g n p → sLet (g j) = true := by
  have e : tkE g n p = scan sLet g n 1000 (tkS g n p) := by unfold tkE; rw [if_neg h, if_pos hl]
  exact ⟨e, fun j a b => scan_in sLet g n 1000 _ j a (by rw [← e]; exact b)⟩
theorem sLet_nd {s : Int} (h : sDig s = true) : sLet s = false := by
  unfold sDig at h
  have h := of_decide_eq_true h
  unfold sLet
  rw [decide_eq_false_iff_not]; omega
theorem tkE_dig {g : Int → Int} {n p : Int} (h : tkS g n p ≠ n) (hl : sDig (g (tkS g n p)) = true) : tkE g n p = scan sDig g n 1000 (tkS g n p) ∧ ∀ j : Int, tkS g n p ≤ j → j < tkE g n p → sDig (g j) = true := by
  have e : tkE g n p = scan sDig g n 1000 (tkS g n p) := by unfold tkE; rw [if_neg h, if_neg (by rw [sLet_nd hl]; simp), if_pos hl]
  exact ⟨e, fun j a b => scan_in sDig g n 1000 _ j a (by rw [← e]; exact b)⟩
/-- the class looks at its next token -/
theorem Tp_advance_s {μ : am_M} {n : Int} (hm : μ 10 2 = n) (hn : n ≤ 1000) (h0 : 0 ≤ μ 10 4) (h1 : μ 10 4 ≤ n) : ∃ μ', Tp_advance μ = some (0, μ') ∧ μ' 10 3 = tkS (μ 11) n (μ 10 4) ∧ μ' 10 4 = tkE (μ 11) n (μ 10 4) ∧ μ' 10 5 = xK (μ 11) (μ 12) n (μ 10 4) ∧ (xK (μ 11) (μ 12) n (μ 10 4) = 3 → μ' 10 6 = dec (μ 11) (tkS (μ 11) n (μ 10 4)) (tkL (μ 11) n (μ 10 4))) ∧ ((xK (μ 11) (μ 12) n (μ 10 4) = 2 ∨ 100 ≤ xK (μ 11) (μ 12) n (μ 10 4)) → μ' 10 7 = enc 32 (μ 11) (tkS (μ 11) n (μ 10 4)) (tkL (μ 11) n (μ 10 4))) ∧ μ' 10 2 = n ∧ ∀ c i, c ≠ 10 → μ' c i = μ c i := by
  generalize hp : μ 10 4 = p at *
  have hFU := am_FU_ge
  have step1 : Tp_advance μ = Tp_advance_B33 (tkS (μ 11) n p) μ := by
    unfold Tp_advance
    rw [hp, Tp_skip hn 1000 am_FU p μ hm h0 h1 (by omega) (by omega)]
    rfl
  obtain ⟨a, b⟩ := tkS_b (g := μ 11) h0 h1
  obtain ⟨b1, b2, b3⟩ := tkE_b (g := μ 11) h0 h1 hn
  rw [step1]
  unfold Tp_advance_B33
  rw [q_pf_d]
  generalize hS : tkS (μ 11) n p = S at *
  have hlen : m_st μ 10 3 S 10 2 = n := by rw [m_st_i (by decide), hm]
  have h11 : m_st μ 10 3 S 11 = μ 11 := m_st_ne (by decide)
  have h12 : m_st μ 10 3 S 12 = μ 12 := m_st_ne (by decide)
  rw [hlen]
  by_cases hlt : S < n
  · have hSn : tkS (μ 11) n p ≠ n := by omega
    rw [if_pos hlt, X_at_11, q_bd_s, if_pos (by omega), Tp_isLetter_s, q_bd_s]
    rw [h11]
    cases hl : sLet (μ 11 S) with
    | true =>
      rw [if_neg (by simp)]
      obtain ⟨e1, e2⟩ := tkE_let (g := μ 11) hSn (by rw [hS]; exact hl)
      rw [hS] at e1 e2
      have step2 : Tp_readWord S (m_st μ 10 3 S) = Tp_readWord_B49 S (e64 (μ 11) S (tkL (μ 11) n p)) (tkE (μ 11) n p) (m_st μ 10 3 S) := by
        unfold Tp_readWord
        have := Tp_word_L hn (by omega : 0 ≤ S) hlen 1000 am_FU S 0 (by omega) (by omega) (by omega) (by omega)
        rw [h11] at this
        have e0 : e64 (μ 11) S 0 = 0 := rfl
        rw [e0] at this
        rw [this]
        unfold tkL
        rw [hS, e1]
      rw [step2]
      unfold Tp_readWord_B49
      rw [q_pf_d, w32_i (by omega) (by omega)]
      have hk : xK (μ 11) (μ 12) n p = (if tkE (μ 11) n p - S ≤ 8 then (if fnd (μ 12) (enc 32 (μ 11) S (tkL (μ 11) n p)) 17 0 = -1 then 2 else 100 + fnd (μ 12) (enc 32 (μ 11) S (tkL (μ 11) n p)) 17 0) else 0) := by
        unfold xK
        rw [if_neg hSn, hS, if_pos hl]
      by_cases h8 : tkE (μ 11) n p - S ≤ 8
      · have e64e : e64 (μ 11) S (tkL (μ 11) n p) = enc 32 (μ 11) S (tkL (μ 11) n p) := e64_s _ (by unfold tkL; omega) (fun j a b => e2 j a (by unfold tkL at b; omega))
        rw [if_pos h8] at hk ⊢
        rw [e64e, X_find_s (c := 12) (L := 17) rfl rfl (by decide) (by decide) (by decide), q_bd_s]
        have h12' : (m_st (m_st μ 10 3 S) 10 4 (tkE (μ 11) n p)) 12 = μ 12 := by rw [m_st_ne (by decide), m_st_ne (by decide)]
        rw [h12', show (17 : Int).toNat = 17 from rfl]
        have hb := fnd_b (μ 12) (enc 32 (μ 11) S (tkL (μ 11) n p)) 17 0 (Int.le_refl _)
        by_cases hf : fnd (μ 12) (enc 32 (μ 11) S (tkL (μ 11) n p)) 17 0 = -1
        · rw [if_pos hf] at hk ⊢
          unfold Tp_readWord_B101
          rw [q_pf_d, q_pf_d, q_bd_s]
          refine ⟨_, rfl, ?_, ?_, ?_, ?_, ?_, ?_, ?_⟩
          · simp [m_st_d]
          · simp [m_st_d]
          · rw [hk]; simp [m_st_d]
          · intro z; omega
          · intro z; simp [m_st_d]
          · simp [m_st_d, hm]
          · intro c i hc; simp [m_st_d, hc]
        · rw [if_neg hf] at hk ⊢
          unfold Tp_readWord_B101
          rw [q_pf_d, q_pf_d, q_bd_s, w32_i (by omega) (by omega)]
          refine ⟨_, rfl, ?_, ?_, ?_, ?_, ?_, ?_, ?_⟩
          · simp [m_st_d]
          · simp [m_st_d]
          · rw [hk]; simp [m_st_d]
          · intro z; omega
          · intro z; simp [m_st_d]
          · simp [m_st_d, hm]
          · intro c i hc; simp [m_st_d, hc]
      · rw [if_neg h8] at hk ⊢
        rw [q_pf_d, q_bd_s]
        refine ⟨_, rfl, ?_, ?_, ?_, ?_, ?_, ?_, ?_⟩
        · simp [m_st_d]
        · simp [m_st_d]
        · rw [hk]; simp [m_st_d]
        · intro z; omega
        · intro z; omega
        · simp [m_st_d, hm]
        · intro c i hc; simp [m_st_d, hc]
    | false =>
      rw [if_pos (by simp), Tp_isDigit_s, q_bd_s]
      cases hd : sDig (μ 11 S) with
      | true =>
        rw [if_neg (by simp)]
        obtain ⟨e1, e2⟩ := tkE_dig (g := μ 11) hSn (by rw [hS]; exact hd)
        rw [hS] at e1 e2
        have step2 : Tp_readNumber S (m_st μ 10 3 S) = Tp_readNumber_B49 S (d32 (μ 11) S (tkL (μ 11) n p)) (tkE (μ 11) n p) (m_st μ 10 3 S) := by
          unfold Tp_readNumber
          have := Tp_num_L hn (by omega : 0 ≤ S) hlen 1000 am_FU S 0 (by omega) (by omega) (by omega) (by omega)
          rw [h11] at this
          have e0 : d32 (μ 11) S 0 = 0 := rfl
          rw [e0] at this
          rw [this]
          unfold tkL
          rw [hS, e1]
        rw [step2]
        unfold Tp_readNumber_B49
        rw [q_pf_d, w32_i (by omega) (by omega)]
        have hk : xK (μ 11) (μ 12) n p = (if tkE (μ 11) n p - S ≤ 4 then 3 else 0) := by
          unfold xK
          rw [if_neg hSn, hS, if_neg (by rw [hl]; simp), if_pos hd]
        by_cases h8 : tkE (μ 11) n p - S ≤ 4
        · have e64e : d32 (μ 11) S (tkL (μ 11) n p) = dec (μ 11) S (tkL (μ 11) n p) := d32_s _ (by unfold tkL; omega) (fun j a b => e2 j a (by unfold tkL at b; omega))
          rw [if_pos h8] at hk ⊢
          rw [e64e]
          unfold Tp_readNumber_B67
          rw [q_pf_d, q_pf_d, q_bd_s]
          refine ⟨_, rfl, ?_, ?_, ?_, ?_, ?_, ?_, ?_⟩
          · simp [m_st_d]
          · simp [m_st_d]
          · rw [hk]; simp [m_st_d]
          · intro z; simp [m_st_d]
          · intro z; omega
          · simp [m_st_d, hm]
          · intro c i hc; simp [m_st_d, hc]
        · rw [if_neg h8] at hk ⊢
          unfold Tp_readNumber_B67
          rw [q_pf_d, q_pf_d, q_bd_s]
          refine ⟨_, rfl, ?_, ?_, ?_, ?_, ?_, ?_, ?_⟩
          · simp [m_st_d]
          · simp [m_st_d]
          · rw [hk]; simp [m_st_d]
          · intro z; omega
          · intro z; omega
          · simp [m_st_d, hm]
          · intro c i hc; simp [m_st_d, hc]
      | false =>
        rw [if_pos (by simp), Tp_isSign_s, q_bd_s]
        have hE : tkE (μ 11) n p = S + 1 := by unfold tkE; rw [if_neg hSn, hS, if_neg (by rw [hl]; simp), if_neg (by rw [hd]; simp)]
        have hk : xK (μ 11) (μ 12) n p = (if sSgn (μ 11 S) = true then μ 11 S else 0) := by
          unfold xK
          rw [if_neg hSn, hS, if_neg (by rw [hl]; simp), if_neg (by rw [hd]; simp)]
        cases hs : sSgn (μ 11 S) with
        | true =>
          rw [hs, if_pos rfl] at hk
          rw [if_neg (by simp)]
          unfold Tp_advance_B112
          rw [q_pf_d, q_pf_d, w32_i (by omega) (by omega)]
          have hr : 40 ≤ μ 11 S ∧ μ 11 S ≤ 61 := by
            unfold sSgn at hs
            have := of_decide_eq_true hs
            omega
          refine ⟨_, rfl, ?_, ?_, ?_, ?_, ?_, ?_, ?_⟩
          · simp [m_st_d]
          · simp [m_st_d, hE]
          · rw [hk]; simp [m_st_d]
          · intro z; omega
          · intro z; omega
          · simp [m_st_d, hm]
          · intro c i hc; simp [m_st_d, hc]
        | false =>
          rw [hs, if_neg (by simp)] at hk
          rw [if_pos (by simp)]
          unfold Tp_advance_B112
          rw [q_pf_d, q_pf_d, w32_i (by omega) (by omega)]
          refine ⟨_, rfl, ?_, ?_, ?_, ?_, ?_, ?_, ?_⟩
          · simp [m_st_d]
          · simp [m_st_d, hE]
          · rw [hk]; simp [m_st_d]
          · intro z; omega
          · intro z; omega
          · simp [m_st_d, hm]
          · intro c i hc; simp [m_st_d, hc]
  · have hSn : S = n := by omega
    rw [if_neg hlt, q_pf_d, q_pf_d]
    have hE : tkE (μ 11) n p = n := by unfold tkE; rw [if_pos (by rw [hS, hSn])]
    have hk : xK (μ 11) (μ 12) n p = 1 := by unfold xK; rw [if_pos (by rw [hS, hSn])]
    refine ⟨_, rfl, ?_, ?_, ?_, ?_, ?_, ?_, ?_⟩
    · simp [m_st_d]
    · simp [m_st_d, hE, hm]
    · rw [hk]; simp [m_st_d]
    · intro z; omega
    · intro z; omega
    · simp [m_st_d, hm]
    · intro c i hc; simp [m_st_d, hc]
/-! the reference -/
theorem M_signAt_s {μ : am_M} {n i : Int} (hm : μ 1000 3 = n) (hn : n ≤ 1000) (h0 : 0 ≤ i) : M_signAt i μ = some (if i < n then μ 1001 i else 0, μ) := by
  unfold M_signAt
  rw [hm]
  by_cases h : i < n
  · rw [if_pos h, if_pos h, q_ld_s h0 (by omega)]
  · rw [if_neg h, if_neg h]
/-- the token's kind, word and number for the reference -/
def mK (g : Int → Int) (n p : Int) : Int := if tkS g n p = n then 0 else if sLet (g (tkS g n p)) = true then (if tkE g n p - tkS g n p ≤ 8 then 1 else 4) else if sDig (g (tkS g n p)) = true then (if tkE g n p - tkS g n p ≤ 4 then 2 else 4) else if sSgn (g (tkS g n p)) = true then 3 else 4
def mW (g : Int → Int) (n p : Int) : Int := if tkS g n p ≠ n ∧ sLet (g (tkS g n p)) = true then enc 27 g (tkS g n p) (min (tkL g n p) 8) else 0
def mN (g : Int → Int) (n p : Int) : Int := if tkS g n p ≠ n ∧ sDig (g (tkS g n p)) = true then dec g (tkS g n p) (min (tkL g n p) 4) else 0
theorem scan_t {P : Int → Bool} {g : Int → Int} {n p : Int} {k : Nat} (h : p < n) (h2 : P (g p) = true) : scan P g n (k + 1) p = scan P g n k (p + 1) := by
  conv => lhs; unfold scan
  rw [if_pos ⟨h, h2⟩]
theorem scan_f {P : Int → Bool} {g : Int → Int} {n p : Int} {k : Nat} (h : ¬ (p < n ∧ P (g p) = true)) : scan P g n (k + 1) p = p := by
  unfold scan
  rw [if_neg h]
theorem scan_z {P : Int → Bool} {g : Int → Int} {n p : Int} : scan P g n 0 p = p := rfl
def tk14 (a : Int) : Int := if a ≤ 8 then 1 else 4
def tk24 (a : Int) : Int := if a ≤ 4 then 2 else 4
/-- a walk over letters: where it is, what it has -/
theorem M_word_L {n S : Int} (hn : n ≤ 1000) (hS : 0 ≤ S) {g : Int → Int} : ∀ (k f : Nat) (p : Int) (μ : am_M), μ 1000 3 = n → μ 1001 = g → μ 1000 5 = S → μ 1000 4 = p → S ≤ p → p ≤ n → n - p ≤ (k : Int) → k < f → (∀ j : Int, S ≤ j → j < p → sLet (g j) = true) → μ 1000 7 = enc 27 g S (min (p - S).toNat 8) →
    ∃ μ', M_nextToken_L109 f μ = some (0, μ') ∧ μ' 1000 4 = scan sLet g n k p ∧ μ' 1000 7 = enc 27 g S (min (scan sLet g n k p - S).toNat 8) ∧ μ' 1000 6 = tk14 (scan sLet g n k p - S) ∧ ∀ c i, ¬ (c = 1000 ∧ (i = 4 ∨ i = 6 ∨ i = 7)) → μ' c i = μ c i := by
  intro k
  have fin : ∀ (p : Int) (μ : am_M), μ 1000 5 = S → μ 1000 4 = p → S ≤ p → p ≤ n → μ 1000 7 = enc 27 g S (min (p - S).toNat 8) → ∃ μ', M_nextToken_B188 μ = some (0, μ') ∧ μ' 1000 4 = p ∧ μ' 1000 7 = enc 27 g S (min (p - S).toNat 8) ∧ μ' 1000 6 = tk14 (p - S) ∧ ∀ c i, ¬ (c = 1000 ∧ (i = 4 ∨ i = 6 ∨ i = 7)) → μ' c i = μ c i := by
    intro p μ h5 h4 hSp hpn h7
    unfold M_nextToken_B188 M_nextToken_B208
    rw [h5, h4, w32_i (by omega) (by omega)]
    by_cases h8 : p - S ≤ 8
    · rw [if_pos h8, q_pf_d]
      refine ⟨_, rfl, by simp [m_st_d, h4], by simp [m_st_d, h7], by simp [m_st_d, h8, tk14, tk24], ?_⟩
      intro c i hc
      rw [m_st_d, if_neg (fun z => hc ⟨z.1, Or.inr (Or.inl z.2)⟩)]
    · rw [if_neg h8, q_pf_d]
      refine ⟨_, rfl, by simp [m_st_d, h4], by simp [m_st_d, h7], by simp [m_st_d, h8, tk14, tk24], ?_⟩
      intro c i hc
      rw [m_st_d, if_neg (fun z => hc ⟨z.1, Or.inr (Or.inl z.2)⟩)]
  induction k with
  | zero =>
    intro f p μ hm hg h5 h4 hSp hpn hk hf hall h7
    cases f with
    | zero => omega
    | succ f =>
      show ∃ μ', M_nextToken_L109_b (M_nextToken_L109 f) μ = some (0, μ') ∧ _
      unfold M_nextToken_L109_b
      rw [scan_z, h4, M_signAt_s hm hn (by omega), q_bd_s, if_neg (show ¬ p < n by omega), if_pos (show (0 : Int) < 97 by decide)]
      exact fin p μ h5 h4 hSp hpn h7
  | succ k ih =>
    intro f p μ hm hg h5 h4 hSp hpn hk hf hall h7
    cases f with
    | zero => omega
    | succ f =>
      show ∃ μ', M_nextToken_L109_b (M_nextToken_L109 f) μ = some (0, μ') ∧ _
      unfold M_nextToken_L109_b
      by_cases hp : p < n
      · rw [h4, M_signAt_s hm hn (by omega), q_bd_s, if_pos hp, hg]
        cases hl : sLet (g p) with
        | true =>
          have hr : 97 ≤ g p ∧ g p ≤ 122 := by unfold sLet at hl; exact of_decide_eq_true hl
          rw [if_neg (by omega), h4, M_signAt_s hm hn (by omega), q_bd_s, if_pos hp, hg, if_pos hr.2, h4, h5, w32_i (x := p - S) (by omega) (by omega), scan_t hp hl]
          have hall' : ∀ j : Int, S ≤ j → j < p + 1 → sLet (g j) = true := fun j a b => by
            by_cases q : j = p
            · rw [q]; exact hl
            · exact hall j a (by omega)
          by_cases h8 : p - S < 8
          · rw [if_pos h8, M_signAt_s hm hn (by omega), q_bd_s, if_pos hp, hg, q_pf_d]
            unfold M_nextToken_B175
            rw [q_pf_d]
            have e7 : w64 (w64 (w64 (μ 1000 7 * 27) + g p) - 96) = enc 27 g S (min (p + 1 - S).toNat 8) := by
              have m1 : min (p - S).toNat 8 = (p - S).toNat := by omega
              have m2 : min (p + 1 - S).toNat 8 = (p - S).toNat + 1 := by omega
              rw [h7, m1, m2]
              obtain ⟨r1, r2⟩ := enc_r (B := 27) (g := g) (p := S) (by omega) (p - S).toNat (fun j a b => hall j a (by omega))
              have r3 : (27 : Int) ^ (p - S).toNat ≤ 27 ^ 7 := by
                have : (p - S).toNat ≤ 7 := by omega
                exact_mod_cast Nat.pow_le_pow_right (by omega : 0 < 27) this
              have r4 : (27 : Int) ^ 7 = 10460353203 := by decide
              rw [w64_i (x := enc 27 g S (p - S).toNat * 27) (by omega) (by omega), w64_i (x := _ + g p) (by omega) (by omega), w64_i (by omega) (by omega)]
              conv => rhs; unfold enc
              have : S + ((p - S).toNat : Int) = p := by omega
              rw [this]
              omega
            obtain ⟨μ', a1, a2, a3, a4, a5⟩ := ih f (p + 1) (m_st (m_st μ 1000 7 (w64 (w64 (w64 (μ 1000 7 * 27) + g p) - 96))) 1000 4 (w32 (m_st μ 1000 7 (w64 (w64 (w64 (μ 1000 7 * 27) + g p) - 96)) 1000 4 + 1))) (by simp [m_st_d, hm]) (by rw [m_st_ne (by decide), m_st_ne (by decide), hg]) (by simp [m_st_d, h5]) (by rw [m_st_eq, m_st_i (by decide), h4, w32_i (by omega) (by omega)]) (by omega) (by omega) (by omega) (by omega) hall' (by rw [m_st_i (by decide), m_st_eq, e7])
            refine ⟨μ', a1, a2, a3, a4, ?_⟩
            intro c i hc
            rw [a5 c i hc, m_st_d, if_neg (fun z => hc ⟨z.1, Or.inl z.2⟩), m_st_d, if_neg (fun z => hc ⟨z.1, Or.inr (Or.inr z.2)⟩)]
          · rw [if_neg h8]
            unfold M_nextToken_B175
            rw [q_pf_d]
            have e7 : μ 1000 7 = enc 27 g S (min (p + 1 - S).toNat 8) := by
              have m1 : min (p - S).toNat 8 = 8 := by omega
              have m2 : min (p + 1 - S).toNat 8 = 8 := by omega
              rw [h7, m1, m2]
            obtain ⟨μ', a1, a2, a3, a4, a5⟩ := ih f (p + 1) (m_st μ 1000 4 (w32 (μ 1000 4 + 1))) (by simp [m_st_d, hm]) (by rw [m_st_ne (by decide), hg]) (by simp [m_st_d, h5]) (by rw [m_st_eq, h4, w32_i (by omega) (by omega)]) (by omega) (by omega) (by omega) (by omega) hall' (by rw [m_st_i (by decide), e7])
            refine ⟨μ', a1, a2, a3, a4, ?_⟩
            intro c i hc
            rw [a5 c i hc, m_st_d, if_neg (fun z => hc ⟨z.1, Or.inl z.2⟩)]
        | false =>
          have hnl : ¬ (97 ≤ g p ∧ g p ≤ 122) := by unfold sLet at hl; exact of_decide_eq_false hl
          rw [scan_f (fun z => by rw [hl] at z; simp at z)]
          by_cases h97 : g p < 97
          · rw [if_pos h97]
            exact fin p μ h5 h4 hSp hpn h7
          · rw [if_neg h97, h4, M_signAt_s hm hn (by omega), q_bd_s, if_pos hp, hg, if_neg (by omega)]
            exact fin p μ h5 h4 hSp hpn h7
      · rw [h4, M_signAt_s hm hn (by omega), q_bd_s, if_neg hp, if_pos (show (0 : Int) < 97 by decide), scan_f (fun z => hp z.1)]
        exact fin p μ h5 h4 hSp hpn h7
theorem M_num_L {n S : Int} (hn : n ≤ 1000) (hS : 0 ≤ S) {g : Int → Int} : ∀ (k f : Nat) (p : Int) (μ : am_M), μ 1000 3 = n → μ 1001 = g → μ 1000 5 = S → μ 1000 4 = p → S ≤ p → p ≤ n → n - p ≤ (k : Int) → k < f → (∀ j : Int, S ≤ j → j < p → sDig (g j) = true) → μ 1000 8 = dec g S (min (p - S).toNat 4) →
    ∃ μ', M_nextToken_L224 f μ = some (0, μ') ∧ μ' 1000 4 = scan sDig g n k p ∧ μ' 1000 8 = dec g S (min (scan sDig g n k p - S).toNat 4) ∧ μ' 1000 6 = tk24 (scan sDig g n k p - S) ∧ ∀ c i, ¬ (c = 1000 ∧ (i = 4 ∨ i = 6 ∨ i = 8)) → μ' c i = μ c i := by
  intro k
  have fin : ∀ (p : Int) (μ : am_M), μ 1000 5 = S → μ 1000 4 = p → S ≤ p → p ≤ n → μ 1000 8 = dec g S (min (p - S).toNat 4) → ∃ μ', M_nextToken_B299 μ = some (0, μ') ∧ μ' 1000 4 = p ∧ μ' 1000 8 = dec g S (min (p - S).toNat 4) ∧ μ' 1000 6 = tk24 (p - S) ∧ ∀ c i, ¬ (c = 1000 ∧ (i = 4 ∨ i = 6 ∨ i = 8)) → μ' c i = μ c i := by
    intro p μ h5 h4 hSp hpn h7
    unfold M_nextToken_B299 M_nextToken_B318
    rw [h5, h4, w32_i (by omega) (by omega)]
    by_cases h8 : p - S ≤ 4
    · rw [if_pos h8, q_pf_d]
      refine ⟨_, rfl, by simp [m_st_d, h4], by simp [m_st_d, h7], by simp [m_st_d, h8, tk14, tk24], ?_⟩
      intro c i hc
      rw [m_st_d, if_neg (fun z => hc ⟨z.1, Or.inr (Or.inl z.2)⟩)]
    · rw [if_neg h8, q_pf_d]
      refine ⟨_, rfl, by simp [m_st_d, h4], by simp [m_st_d, h7], by simp [m_st_d, h8, tk14, tk24], ?_⟩
      intro c i hc
      rw [m_st_d, if_neg (fun z => hc ⟨z.1, Or.inr (Or.inl z.2)⟩)]
  induction k with
  | zero =>
    intro f p μ hm hg h5 h4 hSp hpn hk hf hall h7
    cases f with
    | zero => omega
    | succ f =>
      show ∃ μ', M_nextToken_L224_b (M_nextToken_L224 f) μ = some (0, μ') ∧ _
      unfold M_nextToken_L224_b
      rw [scan_z, h4, M_signAt_s hm hn (by omega), q_bd_s, if_neg (show ¬ p < n by omega), if_pos (show (0 : Int) < 48 by decide)]
      exact fin p μ h5 h4 hSp hpn h7
  | succ k ih =>
    intro f p μ hm hg h5 h4 hSp hpn hk hf hall h7
    cases f with
    | zero => omega
    | succ f =>
      show ∃ μ', M_nextToken_L224_b (M_nextToken_L224 f) μ = some (0, μ') ∧ _
      unfold M_nextToken_L224_b
      by_cases hp : p < n
      · rw [h4, M_signAt_s hm hn (by omega), q_bd_s, if_pos hp, hg]
        cases hl : sDig (g p) with
        | true =>
          have hr : 48 ≤ g p ∧ g p ≤ 57 := by unfold sDig at hl; exact of_decide_eq_true hl
          rw [if_neg (by omega), h4, M_signAt_s hm hn (by omega), q_bd_s, if_pos hp, hg, if_pos hr.2, h4, h5, w32_i (x := p - S) (by omega) (by omega), scan_t hp hl]
          have hall' : ∀ j : Int, S ≤ j → j < p + 1 → sDig (g j) = true := fun j a b => by
            by_cases q : j = p
            · rw [q]; exact hl
            · exact hall j a (by omega)
          by_cases h8 : p - S < 4
          · rw [if_pos h8, M_signAt_s hm hn (by omega), q_bd_s, if_pos hp, hg, q_pf_d]
            unfold M_nextToken_B286
            rw [q_pf_d]
            have e7 : w32 (w32 (w32 (μ 1000 8 * 10) + g p) - 48) = dec g S (min (p + 1 - S).toNat 4) := by
              have m1 : min (p - S).toNat 4 = (p - S).toNat := by omega
              have m2 : min (p + 1 - S).toNat 4 = (p - S).toNat + 1 := by omega
              rw [h7, m1, m2]
              obtain ⟨r1, r2⟩ := dec_r (g := g) (p := S) (p - S).toNat (fun j a b => hall j a (by omega))
              have r3 : (10 : Int) ^ (p - S).toNat ≤ 10 ^ 3 := by
                have : (p - S).toNat ≤ 3 := by omega
                exact_mod_cast Nat.pow_le_pow_right (by omega : 0 < 10) this
              have r4 : (10 : Int) ^ 3 = 1000 := by decide
              rw [w32_i (x := dec g S (p - S).toNat * 10) (by omega) (by omega), w32_i (x := _ + g p) (by omega) (by omega), w32_i (by omega) (by omega)]
              conv => rhs; unfold dec
              have : S + ((p - S).toNat : Int) = p := by omega
              rw [this]
            obtain ⟨μ', a1, a2, a3, a4, a5⟩ := ih f (p + 1) (m_st (m_st μ 1000 8 (w32 (w32 (w32 (μ 1000 8 * 10) + g p) - 48))) 1000 4 (w32 (m_st μ 1000 8 (w32 (w32 (w32 (μ 1000 8 * 10) + g p) - 48)) 1000 4 + 1))) (by simp [m_st_d, hm]) (by rw [m_st_ne (by decide), m_st_ne (by decide), hg]) (by simp [m_st_d, h5]) (by rw [m_st_eq, m_st_i (by decide), h4, w32_i (by omega) (by omega)]) (by omega) (by omega) (by omega) (by omega) hall' (by rw [m_st_i (by decide), m_st_eq, e7])
            refine ⟨μ', a1, a2, a3, a4, ?_⟩
            intro c i hc
            rw [a5 c i hc, m_st_d, if_neg (fun z => hc ⟨z.1, Or.inl z.2⟩), m_st_d, if_neg (fun z => hc ⟨z.1, Or.inr (Or.inr z.2)⟩)]
          · rw [if_neg h8]
            unfold M_nextToken_B286
            rw [q_pf_d]
            have e7 : μ 1000 8 = dec g S (min (p + 1 - S).toNat 4) := by
              have m1 : min (p - S).toNat 4 = 4 := by omega
              have m2 : min (p + 1 - S).toNat 4 = 4 := by omega
              rw [h7, m1, m2]
            obtain ⟨μ', a1, a2, a3, a4, a5⟩ := ih f (p + 1) (m_st μ 1000 4 (w32 (μ 1000 4 + 1))) (by simp [m_st_d, hm]) (by rw [m_st_ne (by decide), hg]) (by simp [m_st_d, h5]) (by rw [m_st_eq, h4, w32_i (by omega) (by omega)]) (by omega) (by omega) (by omega) (by omega) hall' (by rw [m_st_i (by decide), e7])
            refine ⟨μ', a1, a2, a3, a4, ?_⟩
            intro c i hc
            rw [a5 c i hc, m_st_d, if_neg (fun z => hc ⟨z.1, Or.inl z.2⟩)]
        | false =>
          have hnl : ¬ (48 ≤ g p ∧ g p ≤ 57) := by unfold sDig at hl; exact of_decide_eq_false hl
          rw [scan_f (fun z => by rw [hl] at z; simp at z)]
          by_cases h97 : g p < 48
          · rw [if_pos h97]
            exact fin p μ h5 h4 hSp hpn h7
          · rw [if_neg h97, h4, M_signAt_s hm hn (by omega), q_bd_s, if_pos hp, hg, if_neg (by omega)]
            exact fin p μ h5 h4 hSp hpn h7
      · rw [h4, M_signAt_s hm hn (by omega), q_bd_s, if_neg hp, if_pos (show (0 : Int) < 48 by decide), scan_f (fun z => hp z.1)]
        exact fin p μ h5 h4 hSp hpn h7
/-- blanks -/
theorem M_skip {n : Int} (hn : n ≤ 1000) {g : Int → Int} : ∀ (k f : Nat) (p : Int) (μ : am_M), μ 1000 3 = n → μ 1001 = g → μ 1000 4 = p → 0 ≤ p → p ≤ n → n - p ≤ (k : Int) → k < f → ∃ μ', M_nextToken_L0 f μ = M_nextToken_B52 μ' ∧ μ' 1000 4 = scan sBlank g n k p ∧ ∀ c i, ¬ (c = 1000 ∧ i = 4) → μ' c i = μ c i := by
  intro k
  induction k with
  | zero =>
    intro f p μ hm hg h4 h0 h1 hk hf
    cases f with
    | zero => omega
    | succ f =>
      refine ⟨μ, ?_, by rw [scan_z, h4], fun _ _ _ => rfl⟩
      show M_nextToken_L0_b (M_nextToken_L0 f) μ = _
      unfold M_nextToken_L0_b
      rw [if_neg (by omega)]
  | succ k ih =>
    intro f p μ hm hg h4 h0 h1 hk hf
    cases f with
    | zero => omega
    | succ f =>
      show ∃ μ', M_nextToken_L0_b (M_nextToken_L0 f) μ = _ ∧ _
      unfold M_nextToken_L0_b
      by_cases hp : p < n
      · rw [if_pos (by omega), h4, q_ld_s h0 (by omega), hg]
        have go : ∃ μ', M_nextToken_B39 (M_nextToken_L0 f) μ = M_nextToken_B52 μ' ∧ μ' 1000 4 = scan sBlank g n k (p + 1) ∧ ∀ c i, ¬ (c = 1000 ∧ i = 4) → μ' c i = μ c i := by
          unfold M_nextToken_B39
          rw [q_pf_d, h4, w32_i (by omega) (by omega)]
          obtain ⟨μ', a1, a2, a3⟩ := ih f (p + 1) (m_st μ 1000 4 (p + 1)) (by simp [m_st_d, hm]) (by rw [m_st_ne (by decide), hg]) m_st_eq (by omega) (by omega) (by omega) (by omega)
          exact ⟨μ', a1, a2, fun c i hc => by rw [a3 c i hc, m_st_d, if_neg hc]⟩
        by_cases q1 : g p = 32
        · rw [if_pos q1, scan_t hp (by unfold sBlank; simp [q1])]
          exact go
        · rw [if_neg q1, q_ld_s h0 (by omega), hg]
          by_cases q2 : g p = 10
          · rw [if_pos q2, scan_t hp (by unfold sBlank; simp [q2])]
            exact go
          · rw [if_neg q2, scan_f (by unfold sBlank; simp [q1, q2])]
            exact ⟨μ, rfl, h4, fun _ _ _ => rfl⟩
      · rw [if_neg (by omega), scan_f (fun z => hp z.1)]
        exact ⟨μ, rfl, h4, fun _ _ _ => rfl⟩
/-- the reference looks at its next token -/
theorem M_nextToken_s {μ : am_M} {n : Int} (hm : μ 1000 3 = n) (hn : n ≤ 1000) (h0 : 0 ≤ μ 1000 4) (h1 : μ 1000 4 ≤ n) : ∃ μ', M_nextToken μ = some (0, μ') ∧ μ' 1000 5 = tkS (μ 1001) n (μ 1000 4) ∧ μ' 1000 4 = tkE (μ 1001) n (μ 1000 4) ∧ μ' 1000 6 = mK (μ 1001) n (μ 1000 4) ∧ μ' 1000 7 = mW (μ 1001) n (μ 1000 4) ∧ μ' 1000 8 = mN (μ 1001) n (μ 1000 4) ∧ ∀ c i, ¬ (c = 1000 ∧ 4 ≤ i ∧ i ≤ 8) → μ' c i = μ c i := by
  generalize hp : μ 1000 4 = p at *
  generalize hg : μ 1001 = g
  have hFU := am_FU_ge
  obtain ⟨μ1, e1, e2, e3⟩ := M_skip hn 1000 am_FU p μ hm hg hp h0 h1 (by omega) (by omega)
  unfold M_nextToken
  rw [e1]
  have e2 : μ1 1000 4 = tkS g n p := e2
  obtain ⟨a, b⟩ := tkS_b (g := g) h0 h1
  obtain ⟨b1, b2, b3⟩ := tkE_b (g := g) h0 h1 hn
  have hm1 : μ1 1000 3 = n := by rw [e3 _ _ (by decide), hm]
  have hg1 : μ1 1001 = g := by funext j; rw [e3 _ _ (fun z => by omega), ← hg]
  unfold M_nextToken_B52
  rw [q_pf_d, q_pf_d, q_pf_d, e2]
  generalize hS : tkS g n p = S at *
  generalize hμ : m_st (m_st (m_st μ1 1000 5 S) 1000 7 0) 1000 8 0 = μ2
  have f4 : μ2 1000 4 = S := by rw [← hμ]; simp [m_st_d, e2]
  have f3 : μ2 1000 3 = n := by rw [← hμ]; simp [m_st_d, hm1]
  have f5 : μ2 1000 5 = S := by rw [← hμ]; simp [m_st_d]
  have f7 : μ2 1000 7 = 0 := by rw [← hμ]; simp [m_st_d]
  have f8 : μ2 1000 8 = 0 := by rw [← hμ]; simp [m_st_d]
  have fg : μ2 1001 = g := by rw [← hμ, m_st_ne (by decide), m_st_ne (by decide), m_st_ne (by decide), hg1]
  have fr : ∀ c i, ¬ (c = 1000 ∧ 4 ≤ i ∧ i ≤ 8) → μ2 c i = μ c i := by
    intro c i hc
    rw [← hμ, m_st_d, if_neg (fun z => hc ⟨z.1, by omega⟩), m_st_d, if_neg (fun z => hc ⟨z.1, by omega⟩), m_st_d, if_neg (fun z => hc ⟨z.1, by omega⟩), e3 c i (fun z => hc ⟨z.1, by omega⟩)]
  rw [f4, f3]
  by_cases hSn : S = n
  · rw [if_pos hSn, q_pf_d]
    refine ⟨_, rfl, ?_, ?_, ?_, ?_, ?_, ?_⟩
    · rw [m_st_i (by decide), f5]
    · rw [m_st_i (by decide), f4]; unfold tkE; rw [if_pos (by rw [hS, hSn]), hSn]
    · rw [m_st_eq]; unfold mK; rw [if_pos (by rw [hS, hSn])]
    · rw [m_st_i (by decide), f7]; unfold mW; rw [if_neg (fun z => z.1 (by rw [hS, hSn]))]
    · rw [m_st_i (by decide), f8]; unfold mN; rw [if_neg (fun z => z.1 (by rw [hS, hSn]))]
    · intro c i hc; rw [m_st_d, if_neg (fun z => hc ⟨z.1, by omega⟩), fr c i hc]
  · have hSn' : tkS g n p ≠ n := by rw [hS]; exact hSn
    rw [if_neg hSn, q_ld_s (by omega) (by omega), fg]
    -- the letter, the number, the sign
    have hw0 : sLet (g S) = false → mW g n p = 0 := fun h => by unfold mW; rw [if_neg (by rw [hS, h]; simp)]
    have hn0 : sDig (g S) = false → mN g n p = 0 := fun h => by unfold mN; rw [if_neg (by rw [hS, h]; simp)]
    have sgn : sLet (g S) = false → sDig (g S) = false → ∃ μ', M_nextToken_B322 (g S) μ2 = some (0, μ') ∧ μ' 1000 5 = S ∧ μ' 1000 4 = tkE g n p ∧ μ' 1000 6 = mK g n p ∧ μ' 1000 7 = mW g n p ∧ μ' 1000 8 = mN g n p ∧ ∀ c i, ¬ (c = 1000 ∧ 4 ≤ i ∧ i ≤ 8) → μ' c i = μ c i := by
      intro hl hd
      have hE : tkE g n p = S + 1 := by unfold tkE; rw [if_neg hSn', hS, if_neg (by rw [hl]; simp), if_neg (by rw [hd]; simp)]
      have hK : mK g n p = if sSgn (g S) = true then 3 else 4 := by unfold mK; rw [if_neg hSn', hS, if_neg (by rw [hl]; simp), if_neg (by rw [hd]; simp)]
      have key : M_nextToken_B322 (g S) μ2 = M_nextToken_B368 (if sSgn (g S) = true then 3 else 4) (m_st μ2 1000 4 (S + 1)) := by
        unfold M_nextToken_B322
        rw [q_pf_d, f4, w32_i (by omega) (by omega)]
        unfold M_nextToken_B345 M_nextToken_B363 M_nextToken_B367 sSgn
        by_cases c1 : g S < 40
        · rw [if_pos c1, if_neg (by omega), if_pos (by omega), if_neg (by simp; omega)]
        · rw [if_neg c1]
          by_cases c2 : g S ≤ 43
          · rw [if_pos c2, if_pos (by simp; omega)]
          · rw [if_neg c2]
            by_cases c3 : g S = 45
            · rw [if_pos c3, if_pos (by simp; omega)]
            · rw [if_neg c3]
              by_cases c4 : g S < 59
              · rw [if_pos c4, if_neg (by simp; omega)]
              · rw [if_neg c4]
                by_cases c5 : g S ≤ 61
                · rw [if_pos c5, if_pos (by simp; omega)]
                · rw [if_neg c5, if_neg (by simp; omega)]
      rw [key]
      unfold M_nextToken_B368
      rw [q_pf_d]
      refine ⟨_, rfl, ?_, ?_, ?_, ?_, ?_, ?_⟩
      · simp [m_st_d, f5]
      · simp [m_st_d, hE]
      · rw [m_st_eq, hK]
      · simp [m_st_d, f7, hw0 hl]
      · simp [m_st_d, f8, hn0 hd]
      · intro c i hc; rw [m_st_d, if_neg (fun z => hc ⟨z.1, by omega⟩), m_st_d, if_neg (fun z => hc ⟨z.1, by omega⟩), fr c i hc]
    have num : sLet (g S) = false → ∃ μ', M_nextToken_B212 (g S) μ2 = some (0, μ') ∧ μ' 1000 5 = S ∧ μ' 1000 4 = tkE g n p ∧ μ' 1000 6 = mK g n p ∧ μ' 1000 7 = mW g n p ∧ μ' 1000 8 = mN g n p ∧ ∀ c i, ¬ (c = 1000 ∧ 4 ≤ i ∧ i ≤ 8) → μ' c i = μ c i := by
      intro hl
      unfold M_nextToken_B212
      by_cases c1 : g S < 48
      · rw [if_pos c1]
        exact sgn hl (by unfold sDig; rw [decide_eq_false_iff_not]; omega)
      · rw [if_neg c1]
        by_cases c2 : g S ≤ 57
        · have hd : sDig (g S) = true := by unfold sDig; rw [decide_eq_true_eq]; omega
          rw [if_pos c2]
          obtain ⟨x1, x2⟩ := tkE_dig (g := g) hSn' (by rw [hS]; exact hd)
          rw [hS] at x1 x2
          obtain ⟨μ', y1, y2, y3, y4, y5⟩ := M_num_L hn (by omega : 0 ≤ S) 1000 am_FU S μ2 f3 fg f5 f4 (Int.le_refl _) (by omega) (by omega) (by omega) (fun j a b => by omega) (by rw [f8, Int.sub_self]; rfl)
          rw [← x1] at y2 y3 y4
          refine ⟨μ', y1, ?_, y2, ?_, ?_, ?_, ?_⟩
          · rw [y5 _ _ (by decide), f5]
          · rw [y4]; unfold mK; rw [if_neg hSn', hS, if_neg (by rw [hl]; simp), if_pos hd]; rfl
          · rw [y5 _ _ (by decide), f7, hw0 hl]
          · rw [y3]; unfold mN tkL; rw [if_pos ⟨hSn', by rw [hS]; exact hd⟩, hS]
          · intro c i hc; rw [y5 c i (fun z => hc ⟨z.1, by omega⟩), fr c i hc]
        · rw [if_neg c2]
          exact sgn hl (by unfold sDig; rw [decide_eq_false_iff_not]; omega)
    by_cases c1 : g S < 97
    · rw [if_pos c1]
      exact num (by unfold sLet; rw [decide_eq_false_iff_not]; omega)
    · rw [if_neg c1]
      by_cases c2 : g S ≤ 122
      · have hl : sLet (g S) = true := by unfold sLet; rw [decide_eq_true_eq]; omega
        rw [if_pos c2]
        obtain ⟨x1, x2⟩ := tkE_let (g := g) hSn' (by rw [hS]; exact hl)
        rw [hS] at x1 x2
        obtain ⟨μ', y1, y2, y3, y4, y5⟩ := M_word_L hn (by omega : 0 ≤ S) 1000 am_FU S μ2 f3 fg f5 f4 (Int.le_refl _) (by omega) (by omega) (by omega) (fun j a b => by omega) (by rw [f7, Int.sub_self]; rfl)
        rw [← x1] at y2 y3 y4
        have hd : sDig (g S) = false := by unfold sDig; rw [decide_eq_false_iff_not]; omega
        refine ⟨μ', y1, ?_, y2, ?_, ?_, ?_, ?_⟩
        · rw [y5 _ _ (by decide), f5]
        · rw [y4]; unfold mK; rw [if_neg hSn', hS, if_pos hl]; rfl
        · rw [y3]; unfold mW tkL; rw [if_pos ⟨hSn', by rw [hS]; exact hl⟩, hS]
        · rw [y5 _ _ (by decide), f8, hn0 hd]
        · intro c i hc; rw [y5 c i (fun z => hc ⟨z.1, by omega⟩), fr c i hc]
      · rw [if_neg c2]
        exact num (by unfold sLet; rw [decide_eq_false_iff_not]; omega)
