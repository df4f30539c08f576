/-! Orders: the class finds the best. -/
theorem PL.ah {b F E t N : Int} {μ ν : am_M} (h : PL b F E t N μ ν) : AHD (rdk b F t μ) t N := by
  have t0 := h.t0
  have N0 := h.N0
  have NE := h.NE
  refine ⟨⟨t0.1, N0.1, N0.2⟩, fun k s p q r => ?_⟩
  have := h.rd (F + t + k) s (by omega) (by omega) r
  omega
theorem RBK_0 {b F t N s u : Int} {μ0 μ : am_M} (hN : 0 ≤ N ∧ N ≤ 10) (h : RBK b F t N (N + 1) μ0 μ s) : aAnd (μ 63 s) (aXor u (-1)) = 0 ↔ ¬ ∃ k, 0 ≤ k ∧ k ≤ N ∧ rdk b F t μ0 k s ∧ tb u k = false := by
  rw [sub_0]
  constructor
  · rintro z ⟨k, k0, k1, k2, k3⟩
    have := z k k0 (by omega) ((h.2 k k0 (by omega)).mpr ⟨by omega, k2⟩)
    rw [k3] at this
    cases this
  · intro z j p q r
    have := (h.2 j p q).mp r
    cases c : tb u j with
    | true => rfl
    | false => exact absurd ⟨j, p, by omega, this.2, c⟩ z
theorem ctLying_L {b F E t N u : Int} {μ0 ν μ : am_M} (h : PL b F E t N μ0 ν) (ho : OS b F t N μ0 μ) (hR : ∀ i, 0 ≤ i → i < t + N → RBK b F t N (N + 1) μ0 μ i) : ∀ (n fu : Nat) (s : Nat), s + n = (t + N).toNat → n < fu → Or_countLying_L4 fu u (lvN (LIV (rdk b F t μ0) t N u) s) s μ = some (lv (rdk b F t μ0) t N u, μ)
  | n, 0, _, _, h => by omega
  | 0, fu + 1, s, hs, _ => by
    have t0 := h.t0
    have N0 := h.N0
    show Or_countLying_L4_b (Or_countLying_L4 fu) u _ s μ = _
    unfold Or_countLying_L4_b
    rw [ho.o8, slipOf_s ho (by omega), q_bd_s, if_neg (by omega)]
    have e : s = (t + N).toNat := by omega
    rw [e]
    rfl
  | n + 1, fu + 1, s, hs, hf => by
    have t0 := h.t0
    have N0 := h.N0
    have hr := lvN_r (LIV (rdk b F t μ0) t N u) s
    have e0 : ∀ x, Or_countLying_L4 (fu + 1) u x s μ = Or_countLying_L4_b (Or_countLying_L4 fu) u x s μ := fun _ => rfl
    have ih := ctLying_L (u := u) h ho hR n fu (s + 1) (by omega) (by omega)
    have e1 : ((s + 1 : Nat) : Int) = (s : Int) + 1 := by omega
    rw [e1] at ih
    -- one slip
    have b42 : Or_countLying_B42 (Or_countLying_L4 fu) u (lvN (LIV (rdk b F t μ0) t N u) s) s 1 μ = if aAnd (μ 63 s) (aXor u (-1)) = 0 then Or_countLying_L4 fu u (lvN (LIV (rdk b F t μ0) t N u) s) (s + 1) μ else Or_countLying_L4 fu u (lvN (LIV (rdk b F t μ0) t N u) s + 1) (s + 1) μ := by
      unfold Or_countLying_B42 Or_countLying_B69 Or_countLying_B70
      rw [if_neg (show ¬ (1 : Int) = 0 by decide), X_at_63, if_pos (by omega), q_bd_s, w32_i (x := (s : Int) + 1) (by omega) (by omega), w32_i (x := lvN (LIV (rdk b F t μ0) t N u) s + 1) (by omega) (by omega), w32_i (x := lvN (LIV (rdk b F t μ0) t N u) s + 0) (by omega) (by omega), Int.add_zero]
    have b0 : Or_countLying_B42 (Or_countLying_L4 fu) u (lvN (LIV (rdk b F t μ0) t N u) s) s 0 μ = Or_countLying_L4 fu u (lvN (LIV (rdk b F t μ0) t N u) s) (s + 1) μ := by
      unfold Or_countLying_B42 Or_countLying_B69 Or_countLying_B70
      rw [if_pos rfl, w32_i (x := (s : Int) + 1) (by omega) (by omega), w32_i (x := lvN (LIV (rdk b F t μ0) t N u) s + 0) (by omega) (by omega), Int.add_zero]
    have on1 : ((s : Int) < t ∨ tb u (s - t) = true) → Or_countLying_B42 (Or_countLying_L4 fu) u (lvN (LIV (rdk b F t μ0) t N u) s) s 1 μ = some (lv (rdk b F t μ0) t N u, μ) := by
      intro z
      have hb := RBK_0 (u := u) ⟨N0.1, by omega⟩ (hR s (by omega) (by omega))
      rw [b42]
      by_cases c : aAnd (μ 63 s) (aXor u (-1)) = 0
      · rw [if_pos c]
        rw [lvN_n (P := LIV (rdk b F t μ0) t N u) (n := s) (fun y => hb.mp c y.2)] at ih
        exact ih
      · rw [if_neg c]
        rw [lvN_y (P := LIV (rdk b F t μ0) t N u) (n := s) ⟨z, Classical.byContradiction (fun y => c (hb.mpr y))⟩] at ih
        exact ih
    rw [e0]
    unfold Or_countLying_L4_b Or_countLying_B37
    rw [ho.o8, slipOf_s ho (by omega), q_bd_s, if_pos (by omega), ho.o7]
    by_cases c : (s : Int) < t
    · rw [if_pos c]; exact on1 (Or.inl c)
    · rw [if_neg c, w32_i (x := (s : Int) - t) (by omega) (by omega)]
      by_cases d : tb u (s - t) = true
      · rw [if_neg (fun z => by rw [bit_0 (by omega) (by omega), d] at z; cases z)]
        exact on1 (Or.inr d)
      · rw [if_pos ((bit_0 (by omega) (by omega)).mpr (by cases z : tb u (s - t) with
          | true => exact absurd z d
          | false => rfl)), b0]
        rw [lvN_n (P := LIV (rdk b F t μ0) t N u) (n := s) (fun y => y.1.elim c d)] at ih
        exact ih
theorem ctLying_s {b F E t N u : Int} {μ0 ν μ : am_M} (h : PL b F E t N μ0 ν) (ho : OS b F t N μ0 μ) (hR : ∀ i, 0 ≤ i → i < t + N → RBK b F t N (N + 1) μ0 μ i) : Or_countLying u μ = some (lv (rdk b F t μ0) t N u, μ) := by
  have hFU := am_FU_ge
  have t0 := h.t0
  have N0 := h.N0
  unfold Or_countLying
  exact ctLying_L h ho hR (t + N).toNat am_FU 0 (by omega) (by omega)
theorem follow_s {b F t N u k : Int} {μ0 μ : am_M} (hN : 0 ≤ N ∧ N ≤ 10) (hB : BHK b F t N (N + 1) μ0 μ) (hk : 0 ≤ k ∧ k < N) : (NXT (rdk b F t μ0) t N u k ∧ Or_mayFollow k u μ = some (1, μ)) ∨ (¬ NXT (rdk b F t μ0) t N u k ∧ Or_mayFollow k u μ = some (0, μ)) := by
  unfold Or_mayFollow
  by_cases c : tb u k = false
  · have bk := hB k hk.1 (by omega) hk.2
    rw [if_pos ((bit_0 hk.1 (by omega)).mpr c), X_at_62, if_pos (by omega), q_bd_s]
    have e : aAnd (μ 62 k) (aXor u (-1)) = 0 ↔ NXT (rdk b F t μ0) t N u k := by
      rw [sub_0]
      constructor
      · intro z
        exact ⟨c, fun j p q r => z j p (by omega) ((bk j p (by omega)).mpr ⟨q, r⟩)⟩
      · intro z j p q r
        have := (bk j p q).mp r
        exact z.2 j p this.1 this.2
    by_cases d : aAnd (μ 62 k) (aXor u (-1)) = 0
    · rw [if_pos d]; exact Or.inl ⟨e.mp d, rfl⟩
    · rw [if_neg d]; exact Or.inr ⟨fun z => d (e.mpr z), rfl⟩
  · rw [if_neg (fun z => c ((bit_0 hk.1 (by omega)).mp z))]
    exact Or.inr ⟨fun z => c z.1, rfl⟩
/-- found from set u on -/
def FBK (R : Int → Int → Prop) (t N : Int) (μ : am_M) (u : Int) : Prop := μ 65 u = lv R t N u ∧ μ 66 u = mx (mf (NXT R t N u) (fun k => μ 66 (up u k)) (if u = al N then 0 else 2147483647) N.toNat) (lv R t N u)
theorem FBK.cong {R : Int → Int → Prop} {t N u : Int} {μ μ' : am_M} (h : FBK R t N μ u) (hN : 0 ≤ N ∧ N ≤ 10) (hu : 0 ≤ u ∧ u ≤ al N) (f : ∀ c i, u ≤ i → i ≤ al N → c = 65 ∨ c = 66 → μ' c i = μ c i) : FBK R t N μ' u := by
  unfold FBK
  rw [f 65 u (Int.le_refl _) hu.2 (Or.inl rfl), f 66 u (Int.le_refl _) hu.2 (Or.inr rfl)]
  refine ⟨h.1, ?_⟩
  rw [h.2]
  rw [mf_cong (P := NXT R t N u) (g := fun k => μ 66 (up u k)) (g' := fun k => μ' 66 (up u k)) N.toNat (fun k p q r => ?_)]
  have := up_gt hN hu (show 0 ≤ k ∧ k < N by omega) r.1
  exact (f 66 (up u k) (by omega) (by omega) (Or.inr rfl)).symm
theorem bestIn_L {b F t N u a : Int} {k5 : Int → am_M → am_O} {μ0 μ : am_M} (hN : 0 ≤ N ∧ N ≤ 10) (o8 : μ 60 8 = N) (hB : BHK b F t N (N + 1) μ0 μ) (hu : 0 ≤ u ∧ u ≤ al N) : ∀ (n fu : Nat) (k : Nat), k + n = N.toNat → n < fu → Or_findBest_L39 k5 fu u (mf (NXT (rdk b F t μ0) t N u) (fun k => μ 66 (up u k)) a k) k μ = k5 (w32 (u + (-1))) (m_st μ 66 u (mx (mf (NXT (rdk b F t μ0) t N u) (fun k => μ 66 (up u k)) a N.toNat) (μ 65 u)))
  | n, 0, _, _, h => by omega
  | 0, fu + 1, k, hk, _ => by
    have ar := al_r hN
    show Or_findBest_L39_b k5 (Or_findBest_L39 k5 fu) u _ k μ = _
    unfold Or_findBest_L39_b
    rw [o8, if_neg (by omega), X_at_65, if_pos (by omega), q_bd_s, q_lt_d, X_put_66, if_pos (by omega), q_bd_s]
    have e : k = N.toNat := by omega
    rw [e]
    rfl
  | n + 1, fu + 1, k, hk, hf => by
    have ar := al_r hN
    have e0 : ∀ x, Or_findBest_L39 k5 (fu + 1) u x k μ = Or_findBest_L39_b k5 (Or_findBest_L39 k5 fu) u x k μ := fun _ => rfl
    have ih := bestIn_L (a := a) (k5 := k5) hN o8 hB hu n fu (k + 1) (by omega) (by omega)
    have e1 : ((k + 1 : Nat) : Int) = (k : Int) + 1 := by omega
    rw [e1] at ih
    rw [e0]
    unfold Or_findBest_L39_b Or_findBest_B73
    rw [o8, if_pos (by omega)]
    rcases follow_s (u := u) hN hB (show 0 ≤ (k : Int) ∧ (k : Int) < N by omega) with ⟨z1, z2⟩ | ⟨z1, z2⟩
    · have g := up_gt hN hu (show 0 ≤ (k : Int) ∧ (k : Int) < N by omega) z1.1
      have g' : 0 ≤ aOr u (aShl 1 k) ∧ aOr u (aShl 1 k) < 1024 := by
        have e : aOr u (aShl 1 k) = up u k := rfl
        rw [e]
        omega
      rw [z2, q_bd_s, if_neg (show ¬ (1 : Int) = 0 by decide), X_at_66, if_pos g', q_bd_s, q_lt_d, w32_i (x := (k : Int) + 1) (by omega) (by omega)]
      rw [mf_y (P := NXT (rdk b F t μ0) t N u) (n := k) z1] at ih
      exact ih
    · rw [z2, q_bd_s, if_pos rfl, w32_i (x := (k : Int) + 1) (by omega) (by omega)]
      rw [mf_n (P := NXT (rdk b F t μ0) t N u) (n := k) z1] at ih
      exact ih
theorem best_L {b F E t N : Int} {μ0 ν : am_M} (h : PL b F E t N μ0 ν) : ∀ (n fu : Nat) (u : Int) (μ : am_M), u + 1 = n → u ≤ al N → n < fu → OS b F t N μ0 μ → (∀ i, 0 ≤ i → i < t + N → RBK b F t N (N + 1) μ0 μ i) → BHK b F t N (N + 1) μ0 μ → (∀ w, u < w → w ≤ al N → FBK (rdk b F t μ0) t N μ w) → ∃ μ', Or_findBest_L5 fu u μ = some (0, μ') ∧ (∀ w, 0 ≤ w → w ≤ al N → FBK (rdk b F t μ0) t N μ' w) ∧ (∀ c i, c ≠ 65 → c ≠ 66 → μ' c i = μ c i)
  | n, 0, _, _, _, _, h, _, _, _, _ => by omega
  | 0, fu + 1, u, μ, hu, hl, _, ho, hR, hB, hd => by
    refine ⟨μ, ?_, fun w p q => hd w (by omega) q, fun _ _ _ _ => rfl⟩
    show Or_findBest_L5_b (Or_findBest_L5 fu) u μ = _
    unfold Or_findBest_L5_b
    rw [if_pos (by omega)]
  | n + 1, fu + 1, u, μ, hu, hl, hf, ho, hR, hB, hd => by
    have hFU := am_FU_ge
    have t0 := h.t0
    have N0 := h.N0
    have hbo := h.bo
    have hN : 0 ≤ N ∧ N ≤ 10 := ⟨N0.1, by omega⟩
    have ar := al_r hN
    generalize hμ1 : m_st μ 65 u (lv (rdk b F t μ0) t N u) = μ1
    have f1 : ∀ c i, ¬ (c = 65 ∧ i = u) → μ1 c i = μ c i := fun c i z => by rw [← hμ1, m_st_d, if_neg z]
    have v1 : μ1 65 u = lv (rdk b F t μ0) t N u := by rw [← hμ1, m_st_d, if_pos ⟨rfl, rfl⟩]
    have hB1 : BHK b F t N (N + 1) μ0 μ1 := fun a p q r j j0 j1 => by rw [f1 _ _ (by omega)]; exact hB a p q r j j0 j1
    have o81 : μ1 60 8 = N := by rw [f1 _ _ (by omega)]; exact ho.o8
    generalize hμ2 : m_st μ1 66 u (mx (mf (NXT (rdk b F t μ0) t N u) (fun k => μ1 66 (up u k)) (if u = al N then 0 else 2147483647) N.toNat) (μ1 65 u)) = μ2
    have f2 : ∀ c i, ¬ (c = 66 ∧ i = u) → μ2 c i = μ1 c i := fun c i z => by rw [← hμ2, m_st_d, if_neg z]
    have v2 : μ2 66 u = mx (mf (NXT (rdk b F t μ0) t N u) (fun k => μ1 66 (up u k)) (if u = al N then 0 else 2147483647) N.toNat) (μ1 65 u) := by rw [← hμ2, m_st_d, if_pos ⟨rfl, rfl⟩]
    have e0 : Or_findBest_L5 (fu + 1) u μ = Or_findBest_L5 fu (w32 (u + (-1))) μ2 := by
      show Or_findBest_L5_b (Or_findBest_L5 fu) u μ = _
      unfold Or_findBest_L5_b Or_findBest_B36 Or_allSums
      rw [if_neg (by omega), ctLying_s h ho hR, q_bd_s, X_put_65, if_pos (by omega), q_bd_s, hμ1, q_bd_s, o81, al_w hN]
      by_cases c : u = al N
      · rw [if_pos c]
        have := bestIn_L (a := 0) (k5 := Or_findBest_L5 fu) hN o81 hB1 ⟨by omega, hl⟩ N.toNat am_FU 0 (by omega) (by omega)
        rw [if_pos c] at hμ2
        rw [hμ2] at this
        exact this
      · rw [if_neg c]
        have := bestIn_L (a := 2147483647) (k5 := Or_findBest_L5 fu) hN o81 hB1 ⟨by omega, hl⟩ N.toNat am_FU 0 (by omega) (by omega)
        rw [if_neg c] at hμ2
        rw [hμ2] at this
        exact this
    have fbu : FBK (rdk b F t μ0) t N μ2 u := by
      unfold FBK
      rw [f2 65 u (by omega), v1, v2, v1]
      refine ⟨rfl, ?_⟩
      rw [mf_cong (P := NXT (rdk b F t μ0) t N u) (g := fun k => μ1 66 (up u k)) (g' := fun k => μ2 66 (up u k)) N.toNat (fun k p q r => ?_)]
      have := up_gt hN ⟨by omega, hl⟩ (show 0 ≤ k ∧ k < N by omega) r.1
      exact (f2 66 (up u k) (by omega)).symm
    obtain ⟨μ', b1, b2, b3⟩ := best_L h n fu (u - 1) μ2 (by omega) (by omega) (by omega) (ho.cong hbo (fun c i p => by rw [f2 c i (by omega), f1 c i (by omega)])) (fun i p q => by
      unfold RBK
      rw [f2 _ _ (by omega), f1 _ _ (by omega)]
      exact hR i p q) (fun a p q r j j0 j1 => by rw [f2 _ _ (by omega)]; exact hB1 a p q r j j0 j1) (fun w p q => by
      by_cases y : w = u
      · rw [y]; exact fbu
      · exact (hd w (by omega) q).cong hN (by omega) (fun c i p q z => by rw [f2 c i (by omega), f1 c i (by omega)]))
    refine ⟨μ', ?_, b2, fun c i p q => by rw [b3 c i p q, f2 c i (by omega), f1 c i (by omega)]⟩
    rw [e0, w32_i (x := u + (-1)) (by omega) (by omega), ← b1]
    rfl
theorem best_o {b F E t N : Int} {μ0 ν μ : am_M} (h : PL b F E t N μ0 ν) (ho : OS b F t N μ0 μ) (hR : ∀ i, 0 ≤ i → i < t + N → RBK b F t N (N + 1) μ0 μ i) (hB : BHK b F t N (N + 1) μ0 μ) : ∃ μ', Or_findBest μ = some (0, μ') ∧ (∀ w, 0 ≤ w → w ≤ al N → FBK (rdk b F t μ0) t N μ' w) ∧ (∀ c i, c ≠ 65 → c ≠ 66 → μ' c i = μ c i) := by
  have hFU := am_FU_ge
  have N0 := h.N0
  have t0 := h.t0
  have hN : 0 ≤ N ∧ N ≤ 10 := ⟨N0.1, by omega⟩
  have ar := al_r hN
  obtain ⟨μ', a1, a2, a3⟩ := best_L h (al N + 1).toNat am_FU (al N) μ (by omega) (Int.le_refl _) (by omega) ho hR hB (fun w p q => by omega)
  refine ⟨μ', ?_, a2, a3⟩
  unfold Or_findBest Or_allSums
  rw [q_bd_s, ho.o8, al_w hN, a1]
