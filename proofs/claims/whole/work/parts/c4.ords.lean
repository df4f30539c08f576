/-! Orders: the class makes ready. -/
/-- sum k (the last one: give) reads slip s -/
def rdk (b F t : Int) (μ : am_M) (k s : Int) : Prop := s ∈ RR b μ (F + t + k)
def OS (b F t N : Int) (μ0 μ : am_M) : Prop := (μ 60 7 = t) ∧ (μ 60 8 = N) ∧ (TF b μ0 μ)
theorem OS.o7 {b F t N : Int} {μ0 μ : am_M} (h : OS b F t N μ0 μ) : μ 60 7 = t := h.1
theorem OS.o8 {b F t N : Int} {μ0 μ : am_M} (h : OS b F t N μ0 μ) : μ 60 8 = N := h.2.1
theorem OS.tf {b F t N : Int} {μ0 μ : am_M} (h : OS b F t N μ0 μ) : TF b μ0 μ := h.2.2
theorem OS.mk {b F t N : Int} {μ0 μ : am_M} (o7 : μ 60 7 = t) (o8 : μ 60 8 = N) (tf : TF b μ0 μ) : OS b F t N μ0 μ := ⟨o7, o8, tf⟩
theorem slipOf_s {k : Int} {b F t N : Int} {μ0 μ : am_M} (h : OS b F t N μ0 μ) (h0 : 0 ≤ t + k ∧ t + k ≤ 100) : Or_slipOf k μ = some (t + k, μ) := by
  unfold Or_slipOf
  rw [h.o7, w32_i (x := t + k) (by omega) (by omega)]
theorem OS.cong {b F t N : Int} {μ0 μ μ' : am_M} (h : OS b F t N μ0 μ) (hb : bOk b) (f : ∀ c i, c < 60 ∨ (c = 60 ∧ i ≤ 8) ∨ 70 ≤ c → μ' c i = μ c i) : OS b F t N μ0 μ' := (OS.mk (o7 := by rw [f 60 7 (by omega)]; exact h.o7) (o8 := by rw [f 60 8 (by omega)]; exact h.o8) (tf := fun c p q => by
  have hb' : b = 100 ∨ b = 200 := hb
  rw [← h.tf c p q]
  exact funext fun i => f c i (by omega)))
theorem stand_L {b F E t N k : Int} {k2 : Int → Int → Int → am_M → am_O} {μ0 ν : am_M} (h : PL b F E t N μ0 ν) (hk : 0 ≤ k ∧ k ≤ N) : ∀ (n fu : Nat) (s : Int) (μ : am_M), s + n = t + N → 0 ≤ s → n < fu → OS b F t N μ0 μ → ∃ μ', Or_countStands_L13 k2 fu (b + 1) (F + t) k s μ = k2 (b + 1) (F + t) (k + 1) μ' ∧ (∀ i, s ≤ i → i < t + N → μ' 61 (k * 10 + i) = cnt i (RR b μ0 (F + t + k))) ∧ (∀ c i, ¬ (c = 61 ∧ k * 10 + s ≤ i ∧ i < k * 10 + (t + N)) → μ' c i = μ c i)
  | n, 0, _, _, _, _, h, _ => by omega
  | 0, fu + 1, s, μ, hs, h0, _, ho => by
    have F0 := h.F0
    have t0 := h.t0
    have N0 := h.N0
    refine ⟨μ, ?_, fun i p q => by omega, fun _ _ _ => rfl⟩
    show Or_countStands_L13_b k2 (Or_countStands_L13 k2 fu) (b + 1) (F + t) k s μ = _
    unfold Or_countStands_L13_b
    rw [ho.o8, slipOf_s ho (by omega), q_bd_s, if_neg (by omega), w32_i (x := k + 1) (by omega) (by omega)]
  | n + 1, fu + 1, s, μ, hs, h0, hf, ho => by
    have F0 := h.F0
    have t0 := h.t0
    have N0 := h.N0
    have NE := h.NE
    have hb := h.bo
    have hb' : b = 100 ∨ b = 200 := hb
    have ck := h.ck (F + t + k) (by omega) (by omega)
    have rl : RL b (F + t + k) (RR b μ0 (F + t + k)) μ ν := ck.rl.cg (fun c p q _ => ho.tf c (by omega) (by omega)) (fun _ _ _ => rfl)
    obtain ⟨μ', a1, a2, a3⟩ := stand_L (k2 := k2) h hk n fu (s + 1) (m_st μ 61 (k * 10 + s) (cnt s (RR b μ0 (F + t + k)))) (by omega) (by omega) (by omega) (ho.cong hb (fun c i p => m_st_c (by omega)))
    refine ⟨μ', ?_, fun i p q => ?_, fun c i z => by rw [a3 c i (by omega), m_st_d, if_neg (by omega)]⟩
    · rw [← a1]
      show Or_countStands_L13_b k2 (Or_countStands_L13 k2 fu) (b + 1) (F + t) k s μ = _
      unfold Or_countStands_L13_b
      rw [ho.o8, slipOf_s ho (by omega), q_bd_s, if_pos (by omega), q_gd_s (bO2 hb), w32_i (x := F + t + k) (by omega) (by omega), (timesRead_s hb rl ck.l0).2.2 s, q_bd_s, w32_i (x := k * 10) (by omega) (by omega), w32_i (x := k * 10 + s) (by omega) (by omega), X_put_61, if_pos (by omega), q_bd_s, w32_i (x := s + 1) (by omega) (by omega)]
    · by_cases y : i = s
      · rw [y, a3 _ _ (by omega), m_st_d, if_pos ⟨rfl, rfl⟩]
      · exact a2 i (by omega) q
/-- how often slips stand in sums -/
def STD (b F t N : Int) (μ0 μ : am_M) : Prop := ∀ k s, 0 ≤ k → k ≤ N → 0 ≤ s → s < t + N → μ 61 (k * 10 + s) = cnt s (RR b μ0 (F + t + k))
theorem stands_L {b F E t N : Int} {μ0 ν : am_M} (h : PL b F E t N μ0 ν) : ∀ (n fu : Nat) (k : Int) (μ : am_M), k + n = N + 1 → 0 ≤ k → n < fu → OS b F t N μ0 μ → (∀ j s, 0 ≤ j → j < k → 0 ≤ s → s < t + N → μ 61 (j * 10 + s) = cnt s (RR b μ0 (F + t + j))) → ∃ μ', Or_countStands_L2 fu (b + 1) (F + t) k μ = some (0, μ') ∧ STD b F t N μ0 μ' ∧ (∀ c i, c ≠ 61 → μ' c i = μ c i)
  | n, 0, _, _, _, _, h, _, _ => by omega
  | 0, fu + 1, k, μ, hk, h0, _, ho, hd => by
    refine ⟨μ, ?_, fun j s p q r u => hd j s p (by omega) r u, fun _ _ _ => rfl⟩
    show Or_countStands_L2_b (Or_countStands_L2 fu) (b + 1) (F + t) k μ = _
    unfold Or_countStands_L2_b
    rw [ho.o8, if_neg (by omega)]
  | n + 1, fu + 1, k, μ, hk, h0, hf, ho, hd => by
    have hFU := am_FU_ge
    have t0 := h.t0
    have N0 := h.N0
    obtain ⟨μ1, a1, a2, a3⟩ := stand_L (k := k) (k2 := Or_countStands_L2 fu) h (by omega) (t + N).toNat am_FU 0 μ (by omega) (by omega) (by omega) ho
    obtain ⟨μ', b1, b2, b3⟩ := stands_L h n fu (k + 1) μ1 (by omega) (by omega) (by omega) (ho.cong h.bo (fun c i p => a3 c i (by omega))) (fun j s p q r u => by
      by_cases y : j = k
      · rw [y]; exact a2 s r u
      · rw [a3 _ _ (by omega)]; exact hd j s p (by omega) r u)
    refine ⟨μ', ?_, b2, fun c i z => by rw [b3 c i z, a3 c i (by omega)]⟩
    rw [← b1, ← a1]
    show Or_countStands_L2_b (Or_countStands_L2 fu) (b + 1) (F + t) k μ = _
    unfold Or_countStands_L2_b
    rw [ho.o8, if_pos (by omega)]
theorem standing_s {b F t N k s : Int} {μ0 μ : am_M} (h : STD b F t N μ0 μ) (hk : 0 ≤ k ∧ k ≤ N) (hs : 0 ≤ s ∧ s < t + N) (h10 : t + N ≤ 10) (t0 : 0 ≤ t) : Or_standing k s μ = some (cnt s (RR b μ0 (F + t + k)), μ) := by
  unfold Or_standing
  rw [w32_i (x := k * 10) (by omega) (by omega), w32_i (x := k * 10 + s) (by omega) (by omega), X_at_61, if_pos (by omega), q_bd_s, h k s hk.1 hk.2 hs.1 hs.2]
/-- which sums read a slip: those under k -/
def RBK (b F t N k : Int) (μ0 μ : am_M) (s : Int) : Prop := r32 (μ 63 s) ∧ ∀ j, 0 ≤ j → j < 32 → (tb (μ 63 s) j = true ↔ j < k ∧ rdk b F t μ0 j s)
theorem finds_L {b F E t N k : Int} {k31 : Int → am_M → am_O} {μ0 ν : am_M} (h : PL b F E t N μ0 ν) (hk : 0 ≤ k ∧ k ≤ N) : ∀ (n fu : Nat) (s x : Int) (μ : am_M), s + n = t + N → 0 ≤ s → n < fu → OS b F t N μ0 μ → STD b F t N μ0 μ → r32 x → (∀ j, 0 ≤ j → j < 32 → (tb x j = true ↔ t + j < s ∧ rdk b F t μ0 k (t + j))) → (∀ i, s ≤ i → i < t + N → RBK b F t N k μ0 μ i) → ∃ y μ', Or_findReaders_L43 k31 fu k x s μ = q_bd (X_put 62 k y μ') (fun _ μ4 => k31 (k + 1) μ4) ∧ (∀ j, 0 ≤ j → j < 32 → (tb y j = true ↔ j < N ∧ rdk b F t μ0 k (t + j))) ∧ (∀ i, s ≤ i → i < t + N → RBK b F t N (k + 1) μ0 μ' i) ∧ (∀ c i, ¬ (c = 63 ∧ s ≤ i) → μ' c i = μ c i)
  | n, 0, _, _, _, _, _, h, _, _, _, _, _ => by omega
  | 0, fu + 1, s, x, μ, hs, h0, _, ho, hS, hx, hb, _ => by
    have t0 := h.t0
    have N0 := h.N0
    refine ⟨x, μ, ?_, fun j p q => by rw [hb j p q]; exact ⟨fun z => ⟨by omega, z.2⟩, fun z => ⟨by omega, z.2⟩⟩, fun i p q => by omega, fun _ _ _ => rfl⟩
    show Or_findReaders_L43_b k31 (Or_findReaders_L43 k31 fu) k x s μ = _
    unfold Or_findReaders_L43_b
    rw [ho.o8, slipOf_s ho (by omega), q_bd_s, if_neg (by omega), w32_i (x := k + 1) (by omega) (by omega)]
  | n + 1, fu + 1, s, x, μ, hs, h0, hf, ho, hS, hx, hb, hR => by
    have t0 := h.t0
    have N0 := h.N0
    have hbo := h.bo
    have hc := cnt_0 s (RR b μ0 (F + t + k))
    have e0 : Or_findReaders_L43 k31 (fu + 1) k x s μ = Or_findReaders_L43_b k31 (Or_findReaders_L43 k31 fu) k x s μ := rfl
    obtain ⟨r1, r2⟩ := hR s (Int.le_refl _) (by omega)
    have e1 : Or_findReaders_L43_b k31 (Or_findReaders_L43 k31 fu) k x s μ = if cnt s (RR b μ0 (F + t + k)) ≤ 0 then Or_findReaders_L43 k31 fu k x (s + 1) μ else (if s < t then Or_findReaders_L43 k31 fu k (aOr x 0) (s + 1) (m_st μ 63 s (aOr (μ 63 s) (aShl 1 k))) else Or_findReaders_L43 k31 fu k (aOr x (aShl 1 (s - t))) (s + 1) (m_st μ 63 s (aOr (μ 63 s) (aShl 1 k)))) := by
      have e7 : m_st μ 63 s (aOr (μ 63 s) (aShl 1 k)) 60 7 = t := by rw [m_st_c (by decide)]; exact ho.o7
      unfold Or_findReaders_L43_b Or_findReaders_B107 Or_findReaders_B105 Or_findReaders_B107
      rw [ho.o8, slipOf_s ho (by omega), q_bd_s, if_pos (by omega), standing_s hS hk (by omega) N0.2 t0.1, q_bd_s, w32_i (x := s + 1) (by omega) (by omega)]
      by_cases c : cnt s (RR b μ0 (F + t + k)) ≤ 0
      · rw [if_pos c, if_pos c]
      · rw [if_neg c, if_neg c, X_at_63, if_pos (by omega), q_bd_s, X_put_63, if_pos (by omega), q_bd_s, e7]
        by_cases d : s < t
        · rw [if_pos d, if_pos d]
        · rw [if_neg d, if_neg d, w32_i (x := s - t) (by omega) (by omega)]
    rw [e0, e1]
    by_cases c : cnt s (RR b μ0 (F + t + k)) ≤ 0
    · have nr : ¬ rdk b F t μ0 k s := fun z => by have := hc.mpr z; omega
      rw [if_pos c]
      obtain ⟨y, μ', a1, a2, a3, a4⟩ := finds_L (k31 := k31) h hk n fu (s + 1) x μ (by omega) (by omega) (by omega) ho hS hx (fun j p q => by
        rw [hb j p q]
        refine ⟨fun z => ⟨by omega, z.2⟩, fun z => ⟨?_, z.2⟩⟩
        by_cases w : t + j = s
        · rw [w] at z; exact absurd z.2 nr
        · omega) (fun i p q => hR i (by omega) q)
      refine ⟨y, μ', a1, a2, fun i p q => ?_, fun c i z => a4 c i (by omega)⟩
      by_cases w : i = s
      · subst w
        unfold RBK
        rw [a4 _ _ (by omega)]
        refine ⟨r1, fun j p q => ?_⟩
        rw [r2 j p q]
        refine ⟨fun z => ⟨by omega, z.2⟩, fun z => ⟨?_, z.2⟩⟩
        by_cases w2 : j = k
        · rw [w2] at z; exact absurd z.2 nr
        · omega
      · exact a3 i (by omega) q
    · have yr : rdk b F t μ0 k s := hc.mp (by omega)
      rw [if_neg c]
      generalize hμ1 : m_st μ 63 s (aOr (μ 63 s) (aShl 1 k)) = μ1
      have f1 : ∀ c i, ¬ (c = 63 ∧ i = s) → μ1 c i = μ c i := fun c i z => by rw [← hμ1, m_st_d, if_neg z]
      have v1 : μ1 63 s = aOr (μ 63 s) (aShl 1 k) := by rw [← hμ1, m_st_d, if_pos ⟨rfl, rfl⟩]
      have ho1 : OS b F t N μ0 μ1 := ho.cong hbo (fun c i p => f1 c i (by omega))
      have hS1 : STD b F t N μ0 μ1 := fun a i p q r u => by rw [f1 _ _ (by omega)]; exact hS a i p q r u
      have fin : ∀ z, r32 z → (∀ j, 0 ≤ j → j < 32 → (tb z j = true ↔ t + j < s + 1 ∧ rdk b F t μ0 k (t + j))) → ∃ y μ', Or_findReaders_L43 k31 fu k z (s + 1) μ1 = q_bd (X_put 62 k y μ') (fun _ μ4 => k31 (k + 1) μ4) ∧ (∀ j, 0 ≤ j → j < 32 → (tb y j = true ↔ j < N ∧ rdk b F t μ0 k (t + j))) ∧ (∀ i, s ≤ i → i < t + N → RBK b F t N (k + 1) μ0 μ' i) ∧ (∀ c i, ¬ (c = 63 ∧ s ≤ i) → μ' c i = μ c i) := by
        intro z hz hzb
        obtain ⟨y, μ', a1, a2, a3, a4⟩ := finds_L (k31 := k31) h hk n fu (s + 1) z μ1 (by omega) (by omega) (by omega) ho1 hS1 hz hzb (fun i p q => by
          unfold RBK
          rw [f1 _ _ (by omega)]
          exact hR i (by omega) q)
        refine ⟨y, μ', a1, a2, fun i p q => ?_, fun c i w => by rw [a4 c i (by omega), f1 c i (by omega)]⟩
        by_cases w : i = s
        · subst w
          unfold RBK
          rw [a4 _ _ (by omega), v1]
          refine ⟨aOr_r _ _, fun j p q => ?_⟩
          rw [tb_or, Bool.or_eq_true, r2 j p q, tb_shl hk.1 (by omega) p q, decide_eq_true_eq]
          constructor
          · rintro (u | u)
            · exact ⟨by omega, u.2⟩
            · rw [u]; exact ⟨by omega, yr⟩
          · intro u
            by_cases w2 : j = k
            · exact Or.inr w2
            · exact Or.inl ⟨by omega, u.2⟩
        · exact a3 i (by omega) q
      by_cases d : s < t
      · rw [if_pos d]
        refine fin _ (aOr_r _ _) (fun j p q => ?_)
        rw [tb_or, tb_0, Bool.or_false, hb j p q]
        exact ⟨fun z => ⟨by omega, z.2⟩, fun z => ⟨by omega, z.2⟩⟩
      · rw [if_neg d]
        refine fin _ (aOr_r _ _) (fun j p q => ?_)
        rw [tb_or, Bool.or_eq_true, hb j p q, tb_shl (by omega) (by omega) p q, decide_eq_true_eq]
        constructor
        · rintro (u | u)
          · exact ⟨by omega, u.2⟩
          · have e : t + j = s := by omega
            rw [e]
            exact ⟨by omega, yr⟩
        · intro u
          by_cases w2 : t + j = s
          · exact Or.inr (by omega)
          · exact Or.inl ⟨by omega, u.2⟩
/-- what is to be reckoned ahead of sums under k -/
def BHK (b F t N k : Int) (μ0 μ : am_M) : Prop := ∀ a, 0 ≤ a → a < k → a < N → ∀ j, 0 ≤ j → j < 32 → (tb (μ 62 a) j = true ↔ j < N ∧ rdk b F t μ0 a (t + j))
theorem readers_L {b F E t N : Int} {μ0 ν : am_M} (h : PL b F E t N μ0 ν) : ∀ (n fu : Nat) (k : Int) (μ : am_M), k + n = N + 1 → 0 ≤ k → n < fu → OS b F t N μ0 μ → STD b F t N μ0 μ → (∀ i, 0 ≤ i → i < t + N → RBK b F t N k μ0 μ i) → BHK b F t N k μ0 μ → ∃ μ', Or_findReaders_L31 fu k μ = some (0, μ') ∧ (∀ i, 0 ≤ i → i < t + N → RBK b F t N (N + 1) μ0 μ' i) ∧ BHK b F t N (N + 1) μ0 μ' ∧ (∀ c i, c ≠ 62 → c ≠ 63 → μ' c i = μ c i)
  | n, 0, _, _, _, _, h, _, _, _, _ => by omega
  | 0, fu + 1, k, μ, hk, h0, _, ho, hS, hR, hB => by
    have e : k = N + 1 := by omega
    subst e
    refine ⟨μ, ?_, hR, hB, fun _ _ _ _ => rfl⟩
    show Or_findReaders_L31_b (Or_findReaders_L31 fu) (N + 1) μ = _
    unfold Or_findReaders_L31_b
    rw [ho.o8, if_neg (by omega)]
  | n + 1, fu + 1, k, μ, hk, h0, hf, ho, hS, hR, hB => by
    have hFU := am_FU_ge
    have t0 := h.t0
    have N0 := h.N0
    have hbo := h.bo
    obtain ⟨y, μ1, a1, a2, a3, a4⟩ := finds_L (k := k) (k31 := Or_findReaders_L31 fu) h (by omega) (t + N).toNat am_FU 0 0 μ (by omega) (by omega) (by omega) ho hS (by unfold r32; omega) (fun j p q => by rw [tb_0]; exact ⟨fun z => (by cases z), fun z => by omega⟩) hR
    generalize hμ2 : (if 0 ≤ k ∧ k < 10 then m_st μ1 62 k y else μ1) = μ2
    have f2 : ∀ c i, ¬ (c = 62 ∧ i = k) → μ2 c i = μ1 c i := fun c i z => by
      rw [← hμ2]
      split
      · rw [m_st_d, if_neg z]
      · rfl
    have v2 : k < N → μ2 62 k = y := fun z => by rw [← hμ2, if_pos (by omega), m_st_d, if_pos ⟨rfl, rfl⟩]
    obtain ⟨μ', b1, b2, b3, b4⟩ := readers_L h n fu (k + 1) μ2 (by omega) (by omega) (by omega) (ho.cong hbo (fun c i p => by rw [f2 c i (by omega), a4 c i (by omega)])) (fun a i p q r u => by rw [f2 _ _ (by omega), a4 _ _ (by omega)]; exact hS a i p q r u) (fun i p q => by
      unfold RBK
      rw [f2 _ _ (by omega)]
      exact a3 i p q) (fun a p q r j j0 j1 => by
      by_cases w : a = k
      · subst w
        rw [v2 r]
        exact a2 j j0 j1
      · rw [f2 _ _ (by omega), a4 _ _ (by omega)]
        exact hB a p (by omega) r j j0 j1)
    refine ⟨μ', ?_, b2, b3, fun c i p q => by rw [b4 c i p q, f2 c i (by omega), a4 c i (by omega)]⟩
    rw [← b1]
    show Or_findReaders_L31_b (Or_findReaders_L31 fu) k μ = _
    unfold Or_findReaders_L31_b
    rw [ho.o8, if_pos (by omega), a1, X_put_62, q_bd_s, hμ2]
theorem zero63_L {b F E t N : Int} {μ0 ν : am_M} (h : PL b F E t N μ0 ν) : ∀ (n fu : Nat) (s : Int) (μ : am_M), s + n = t + N → 0 ≤ s → n < fu → OS b F t N μ0 μ → ∃ μ', Or_findReaders_L2 fu s μ = Or_findReaders_L31 am_FU 0 μ' ∧ (∀ i, s ≤ i → i < t + N → μ' 63 i = 0) ∧ (∀ c i, ¬ (c = 63 ∧ s ≤ i) → μ' c i = μ c i)
  | n, 0, _, _, _, _, h, _ => by omega
  | 0, fu + 1, s, μ, hs, h0, _, ho => by
    have t0 := h.t0
    have N0 := h.N0
    refine ⟨μ, ?_, fun i p q => by omega, fun _ _ _ => rfl⟩
    show Or_findReaders_L2_b (Or_findReaders_L2 fu) s μ = _
    unfold Or_findReaders_L2_b
    rw [ho.o8, slipOf_s ho (by omega), q_bd_s, if_neg (by omega)]
  | n + 1, fu + 1, s, μ, hs, h0, hf, ho => by
    have t0 := h.t0
    have N0 := h.N0
    obtain ⟨μ', a1, a2, a3⟩ := zero63_L h n fu (s + 1) (m_st μ 63 s 0) (by omega) (by omega) (by omega) (ho.cong h.bo (fun c i p => m_st_c (by omega)))
    refine ⟨μ', ?_, fun i p q => ?_, fun c i z => by rw [a3 c i (by omega), m_st_d, if_neg (by omega)]⟩
    · rw [← a1]
      show Or_findReaders_L2_b (Or_findReaders_L2 fu) s μ = _
      unfold Or_findReaders_L2_b
      rw [ho.o8, slipOf_s ho (by omega), q_bd_s, if_pos (by omega), X_put_63, if_pos (by omega), q_bd_s, w32_i (x := s + 1) (by omega) (by omega)]
    · by_cases y : i = s
      · rw [y, a3 _ _ (by omega), m_st_d, if_pos ⟨rfl, rfl⟩]
      · exact a2 i (by omega) q
theorem findR_s {b F E t N : Int} {μ0 ν μ : am_M} (h : PL b F E t N μ0 ν) (ho : OS b F t N μ0 μ) (hS : STD b F t N μ0 μ) : ∃ μ', Or_findReaders μ = some (0, μ') ∧ (∀ i, 0 ≤ i → i < t + N → RBK b F t N (N + 1) μ0 μ' i) ∧ BHK b F t N (N + 1) μ0 μ' ∧ (∀ c i, c ≠ 62 → c ≠ 63 → μ' c i = μ c i) := by
  have hFU := am_FU_ge
  have t0 := h.t0
  have N0 := h.N0
  obtain ⟨μ1, a1, a2, a3⟩ := zero63_L h (t + N).toNat am_FU 0 μ (by omega) (by omega) (by omega) ho
  obtain ⟨μ', b1, b2, b3, b4⟩ := readers_L h (N + 1).toNat am_FU 0 μ1 (by omega) (by omega) (by omega) (ho.cong h.bo (fun c i p => a3 c i (by omega))) (fun a i p q r u => by rw [a3 _ _ (by omega)]; exact hS a i p q r u) (fun i p q => by
    unfold RBK
    rw [a2 i p q]
    refine ⟨by unfold r32; omega, fun j j0 j1 => ?_⟩
    rw [tb_0]
    exact ⟨fun z => (by cases z), fun z => by omega⟩) (fun a p q => by omega)
  exact ⟨μ', by unfold Or_findReaders; rw [a1, b1], b2, b3, fun c i p q => by rw [b4 c i p q, a3 c i (by omega)]⟩
