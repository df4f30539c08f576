/-! The promises of fewest, order, orders and asTold. -/
def OFC (μ μ' : am_M) : Prop := ∀ c i, c < 60 ∨ 67 < c → μ' c i = μ c i
def OFR (ν ν' : am_M) : Prop := ∀ c i, ¬ (1054 ≤ c ∧ c ≤ 1061) → ¬ (c = 1000 ∧ (i = 0 ∨ i = 79)) → ν' c i = ν c i
theorem OFR.tg {ν ν' : am_M} (h : OFR ν ν') : TG ν ν' := fun c p => funext fun i => h c i (by omega) (by omega)
theorem OCK.bst {b F t N : Int} {μ : am_M} (h : OCK b F t N μ) : BST (rdk b F t μ) t N 2147483647 (μ 66) := fun u p q => (h.fb u p q).2
/-- both bests are alike -/
def BAL (N : Int) (μ ν : am_M) : Prop := ∀ u, 0 ≤ u → u ≤ al N → μ 66 u = ν 1059 u ∧ 0 ≤ μ 66 u ∧ μ 66 u ≤ 10
theorem BAL_of {b F t N : Int} {μ ν : am_M} (ha : AHD (rdk b F t μ) t N) (h : OCK b F t N μ) (h' : BST (rdk b F t μ) t N 1000 (ν 1059)) : BAL N μ ν := fun u p q => BST_u ha (by decide) (by decide) h.bst h' (al N - u).toNat u (by omega) p
theorem RDY.go {b B v F E t N : Int} {μ ν μ' ν' : am_M} (h : RDY b B v F E t N μ ν μ' ν') (f : TF b μ μ') (g : LFR ν ν') : PL b F E t N μ' ν' ∧ AHD (rdk b F t μ') t N ∧ (0 ≤ t ∧ 0 ≤ N ∧ t + N ≤ 10) ∧ (0 ≤ v ∧ v < 4) := by
  obtain ⟨h1, h2, -⟩ := h
  have p := g.pl (h2.cong f (fun _ _ _ => rfl))
  have t0 := p.t0
  have N0 := p.N0
  exact ⟨p, p.ah, ⟨t0.1, N0.1, N0.2⟩, h1.1, by omega⟩
theorem fewest_p {b B W n v : Int} {Wn : Int → Int} {μ ν : am_M} (h8 : μ 0 8 = b) (h : TB b B W n Wn μ ν) (hc : OCH b B μ ν) : ∃ r μ' ν', X_fewest v μ = some (r, μ') ∧ M_fewest v ν = some (r, ν') ∧ OCH b B μ' ν' ∧ OFC μ μ' ∧ OFR ν ν' := by
  have hb' : b = 100 ∨ b = 200 := h.bo
  have h1 := h.z (i := 0) (v := 0)
  unfold X_fewest M_fewest
  rw [h8, q_pf_d]
  generalize hν1 : m_st ν 1000 0 0 = ν1 at *
  have f1 : OFR ν ν1 := fun c i p q => by rw [← hν1, m_st_d, if_neg (by omega)]
  obtain ⟨μ2, ν2, a1, a2, a3, a4⟩ := ready_s (v := v) h1 (hc.cong (fun _ _ _ => rfl) f1.tg (fun _ _ _ => rfl))
  have tf : TF b μ μ2 := fun x p q => funext fun i => a1 x i (by omega)
  have fc : OFC μ μ2 := fun c i p => a1 c i (by omega)
  have f2 : OFR ν ν2 := fun c i p q => by rw [a3 c i (by omega) (by omega), f1 c i p q]
  rcases a4 with ⟨z1, z2⟩ | ⟨z1, z2, F, E, t, N, rd⟩
  · rw [z1, z2, q_bd_s, q_bd_s, if_pos rfl, if_pos rfl]
    exact ⟨_, _, _, rfl, rfl, a2, fc, f2⟩
  obtain ⟨pl, ah, hN, hv⟩ := rd.go tf a3
  obtain ⟨-, -, oc, ld, v20, -⟩ := rd
  obtain ⟨ν3, b1, b2, b3⟩ := leasts_s ld hN hv v20
  have ar := al_r (N := N) ⟨by omega, by omega⟩
  have ba := BAL_of ah oc b2 0 (Int.le_refl _) ar.1
  rw [z1, z2, q_bd_s, q_bd_s, if_neg (show ¬ (1 : Int) = 0 by decide), if_neg (show ¬ (1 : Int) = 0 by decide), b1, q_bd_s, q_ld_s (by decide) (by decide)]
  unfold Or_least
  rw [X_at_66, if_pos (by decide), q_bd_s, q_bd_s]
  have f3 : OFR ν ν3 := fun c i p q => by rw [b3 c i (by omega), f2 c i p q]
  exact ⟨μ2 66 0, μ2, ν3, rfl, by rw [ba.1], a2.cong (fun _ _ _ => rfl) (fun x p => funext fun i => b3 x i (by omega)) (fun _ _ _ => rfl), fc, f3⟩
theorem first_of (Q : Int → Prop) : ∀ m : Nat, (∀ j : Int, 0 ≤ j → j < m → ¬ Q j) ∨ ∃ k : Int, 0 ≤ k ∧ k < m ∧ Q k ∧ ∀ j, 0 ≤ j → j < k → ¬ Q j
  | 0 => Or.inl (fun j p q => by omega)
  | m + 1 => by
    rcases first_of Q m with h | ⟨k, h1, h2, h3⟩
    · rcases Classical.em (Q m) with c | c
      · exact Or.inr ⟨m, by omega, by omega, c, h⟩
      · refine Or.inl (fun j p q => ?_)
        by_cases y : j = m
        · rw [y]; exact c
        · exact h j p (by omega)
    · exact Or.inr ⟨k, h1, by omega, h3⟩
theorem ffol_L {b F t N u k : Int} {μ : am_M} (hN : 0 ≤ N ∧ N ≤ 10) (oc : OCK b F t N μ) (hu : 0 ≤ u ∧ u ≤ al N) (hk : 0 ≤ k ∧ k < N) (h1 : NXT (rdk b F t μ) t N u k ∧ μ 66 (up u k) ≤ μ 66 0) (h2 : ∀ j, 0 ≤ j → j < k → ¬ (NXT (rdk b F t μ) t N u j ∧ μ 66 (up u j) ≤ μ 66 0)) : ∀ (n fu : Nat) (j : Int), j + n = k → 0 ≤ j → n < fu → Or_firstFollowing_L2 fu u j μ = some (k, μ)
  | n, 0, _, _, _, h => by omega
  | 0, fu + 1, j, hj, h0, _ => by
    have e : j = k := by omega
    subst e
    have ar := al_r hN
    have g := up_gt hN hu hk h1.1.1
    have g' : 0 ≤ aOr u (aShl 1 j) ∧ aOr u (aShl 1 j) < 1024 := by
      have e : aOr u (aShl 1 j) = up u j := rfl
      rw [e]
      omega
    have f : Or_mayFollow j u μ = some (1, μ) := by
      rcases follow_s (u := u) hN oc.bh hk with ⟨-, z⟩ | ⟨z, -⟩
      · exact z
      · exact absurd h1.1 z
    show Or_firstFollowing_L2_b (Or_firstFollowing_L2 fu) u j μ = _
    unfold Or_firstFollowing_L2_b Or_least
    rw [oc.o8, if_pos hk.2, f, q_bd_s, if_neg (show ¬ (1 : Int) = 0 by decide), X_at_66, if_pos g', q_bd_s, X_at_66, if_pos (by decide), q_bd_s, q_bd_s, if_pos (show μ 66 (aOr u (aShl 1 j)) ≤ μ 66 0 from h1.2)]
  | n + 1, fu + 1, j, hj, h0, hf => by
    have ar := al_r hN
    have no := h2 j h0 (by omega)
    have ih := ffol_L hN oc hu hk h1 h2 n fu (j + 1) (by omega) (by omega) (by omega)
    show Or_firstFollowing_L2_b (Or_firstFollowing_L2 fu) u j μ = _
    unfold Or_firstFollowing_L2_b Or_firstFollowing_B40 Or_least
    rw [oc.o8, if_pos (by omega), w32_i (x := j + 1) (by omega) (by omega)]
    rcases follow_s (u := u) hN oc.bh (show 0 ≤ j ∧ j < N by omega) with ⟨z1, z2⟩ | ⟨z1, z2⟩
    · have g := up_gt hN hu (show 0 ≤ j ∧ j < N by omega) z1.1
      have g' : 0 ≤ aOr u (aShl 1 j) ∧ aOr u (aShl 1 j) < 1024 := by
        have e : aOr u (aShl 1 j) = up u j := rfl
        rw [e]
        omega
      rw [z2, q_bd_s, if_neg (show ¬ (1 : Int) = 0 by decide), X_at_66, if_pos g', q_bd_s, X_at_66, if_pos (by decide), q_bd_s, q_bd_s, if_neg (show ¬ μ 66 (aOr u (aShl 1 j)) ≤ μ 66 0 from fun y => no ⟨z1, y⟩)]
      exact ih
    · rw [z2, q_bd_s, if_pos rfl]
      exact ih
theorem rfol_L {b F t N u k i s : Int} {k42 : Int → Int → Int → Int → am_M → am_O} {μ ν : am_M} (hN : 0 ≤ t ∧ 0 ≤ N ∧ t + N ≤ 10) (ld : LD b F t N μ ν) (hs : 0 ≤ s ∧ s ≤ 20) (hu : 0 ≤ u ∧ u ≤ al N) (hk : 0 ≤ k ∧ k < N) (h1 : NXT (rdk b F t μ) t N u k ∧ ν 1059 (up u k) ≤ ν 1059 0) (h2 : ∀ j, 0 ≤ j → j < k → ¬ (NXT (rdk b F t μ) t N u j ∧ ν 1059 (up u j) ≤ ν 1059 0)) : ∀ (n fu : Nat) (j : Int), j + n = k → 0 ≤ j → n < fu → M_order_L51 k42 fu i u j s ν = k42 i (aOr u (aShl 1 k)) k (s + 1) ν
  | n, 0, _, _, _, h => by omega
  | 0, fu + 1, j, hj, h0, _ => by
    have e : j = k := by omega
    subst e
    have hN' : 0 ≤ N ∧ N ≤ 10 := ⟨by omega, by omega⟩
    have ar := al_r hN'
    have g := up_gt hN' hu hk h1.1.1
    have g' : 0 ≤ aOr u (aShl 1 j) ∧ aOr u (aShl 1 j) < 4096 := by
      have e : aOr u (aShl 1 j) = up u j := rfl
      rw [e]
      omega
    have f : M_isNext u j ν = some (1, ν) := by
      rcases rNext_s (u := u) ld hN hk with ⟨-, z⟩ | ⟨z, -⟩
      · exact z
      · exact absurd h1.1 z
    show M_order_L51_b k42 (M_order_L51 k42 fu) i u j s ν = _
    unfold M_order_L51_b
    rw [f, q_bd_s, if_neg (show ¬ (1 : Int) = 0 by decide), q_ld_s g'.1 g'.2, q_ld_s (by decide) (by decide), if_pos (show ν 1059 (aOr u (aShl 1 j)) ≤ ν 1059 0 from h1.2), w32_i (x := s + 1) (by omega) (by omega)]
  | n + 1, fu + 1, j, hj, h0, hf => by
    have hN' : 0 ≤ N ∧ N ≤ 10 := ⟨by omega, by omega⟩
    have ar := al_r hN'
    have no := h2 j h0 (by omega)
    have ih := rfol_L (i := i) (k42 := k42) hN ld hs hu hk h1 h2 n fu (j + 1) (by omega) (by omega) (by omega)
    show M_order_L51_b k42 (M_order_L51 k42 fu) i u j s ν = _
    unfold M_order_L51_b M_order_B81
    rw [w32_i (x := j + 1) (by omega) (by omega)]
    rcases rNext_s (u := u) ld hN (show 0 ≤ j ∧ j < N by omega) with ⟨z1, z2⟩ | ⟨z1, z2⟩
    · have g := up_gt hN' hu (show 0 ≤ j ∧ j < N by omega) z1.1
      have g' : 0 ≤ aOr u (aShl 1 j) ∧ aOr u (aShl 1 j) < 4096 := by
        have e : aOr u (aShl 1 j) = up u j := rfl
        rw [e]
        omega
      rw [z2, q_bd_s, if_neg (show ¬ (1 : Int) = 0 by decide), q_ld_s g'.1 g'.2, q_ld_s (by decide) (by decide), if_neg (show ¬ ν 1059 (aOr u (aShl 1 j)) ≤ ν 1059 0 from fun y => no ⟨z1, y⟩)]
      exact ih
    · rw [z2, q_bd_s, if_pos rfl]
      exact ih
theorem sumAt_L {b F t N i : Int} {μ ν : am_M} (ah : AHD (rdk b F t μ) t N) (oc : OCK b F t N μ) (ld : LD b F t N μ ν) (ba : BAL N μ ν) (hi : 0 ≤ i ∧ i < N) : ∀ (n fu fu' : Nat) (u a s : Int), s + n = i + 1 → 0 ≤ s → n < fu → n < fu' → 0 ≤ u ∧ u ≤ al N → cb N u = s → μ 66 u ≤ μ 66 0 → ∃ r, Or_sumAt_L21 fu i u a s μ = some (r, μ) ∧ M_order_L42 fu' i u a s ν = some (r, ν)
  | n, 0, _, _, _, _, _, _, h, _, _, _, _ => by omega
  | n, _, 0, _, _, _, _, _, _, h, _, _, _ => by omega
  | 0, fu + 1, fu' + 1, u, a, s, hs, h0, _, _, hu, hc, hb => by
    refine ⟨a, ?_, ?_⟩
    · show Or_sumAt_L21_b (Or_sumAt_L21 fu) i u a s μ = _
      unfold Or_sumAt_L21_b
      rw [if_neg (by omega)]
    · show M_order_L42_b (M_order_L42 fu') i u a s ν = _
      unfold M_order_L42_b
      rw [if_neg (by omega)]
  | n + 1, fu + 1, fu' + 1, u, a, s, hs, h0, hfu, hfu', hu, hc, hb => by
    have hFU := am_FU_ge
    have hN := ah.1
    have hN' : 0 ≤ N ∧ N ≤ 10 := ⟨by omega, by omega⟩
    have ar := al_r hN'
    have ne : u ≠ al N := fun z => by rw [z, cb_al hN'] at hc; omega
    have b0 := ba 0 (Int.le_refl _) ar.1
    obtain ⟨k0, k1, k2, k3, k4⟩ := BST_go ah (by decide) oc.bst b0.2.2 hu ne hb
    rcases first_of (fun k => NXT (rdk b F t μ) t N u k ∧ μ 66 (up u k) ≤ μ 66 0) N.toNat with z | ⟨k, z1, z2, z3, z4⟩
    · exact absurd ⟨k3, k4⟩ (z k0 k1 (by omega))
    have hk : 0 ≤ k ∧ k < N := ⟨z1, by omega⟩
    have g := up_gt hN' hu hk z3.1.1
    have bk := ba (up u k) (by omega) (by omega)
    obtain ⟨r, r1, r2⟩ := sumAt_L ah oc ld ba hi n fu fu' (up u k) k (s + 1) (by omega) (by omega) (by omega) (by omega) (by omega) (by rw [cb_up hN' hk z3.1.1, hc]) z3.2
    refine ⟨r, ?_, ?_⟩
    · rw [← r1]
      show Or_sumAt_L21_b (Or_sumAt_L21 fu) i u a s μ = _
      unfold Or_sumAt_L21_b Or_sumAt_B46 Or_firstFollowing
      rw [if_pos (by omega), ffol_L hN' oc hu hk z3 z4 k.toNat am_FU 0 (by omega) (by omega) (by omega), q_bd_s, if_neg (by omega), w32_i (x := s + 1) (by omega) (by omega)]
      rfl
    · rw [← r2]
      show M_order_L42_b (M_order_L42 fu') i u a s ν = _
      unfold M_order_L42_b
      rw [if_pos (by omega), rfol_L (i := i) (k42 := M_order_L42 fu') hN ld (show 0 ≤ s ∧ s ≤ 20 by omega) hu hk ⟨z3.1, by have := z3.2; omega⟩ (fun j p q y => z4 j p q ⟨y.1, by
        have g := up_gt hN' hu (show 0 ≤ j ∧ j < N by omega) y.1.1
        have := ba (up u j) (by omega) (by omega)
        have := y.2
        omega⟩) k.toNat am_FU 0 (by omega) (by omega) (by omega)]
      rfl
theorem order_p {b B W n v i : Int} {Wn : Int → Int} {μ ν : am_M} (h8 : μ 0 8 = b) (h : TB b B W n Wn μ ν) (hc : OCH b B μ ν) : ∃ r μ' ν', X_order v i μ = some (r, μ') ∧ M_order v i ν = some (r, ν') ∧ OCH b B μ' ν' ∧ OFC μ μ' ∧ OFR ν ν' := by
  have hFU := am_FU_ge
  have hb' : b = 100 ∨ b = 200 := h.bo
  have h1 := h.z (i := 0) (v := 0)
  unfold X_order M_order
  rw [h8, q_pf_d]
  generalize hν1 : m_st ν 1000 0 0 = ν1 at *
  have f1 : OFR ν ν1 := fun c i p q => by rw [← hν1, m_st_d, if_neg (by omega)]
  obtain ⟨μ2, ν2, a1, a2, a3, a4⟩ := ready_s (v := v) h1 (hc.cong (fun _ _ _ => rfl) f1.tg (fun _ _ _ => rfl))
  have tf : TF b μ μ2 := fun x p q => funext fun i => a1 x i (by omega)
  have fc : OFC μ μ2 := fun c i p => a1 c i (by omega)
  have f2 : OFR ν ν2 := fun c i p q => by rw [a3 c i (by omega) (by omega), f1 c i p q]
  rcases a4 with ⟨z1, z2⟩ | ⟨z1, z2, F, E, t, N, rd⟩
  · rw [z1, z2, q_bd_s, q_bd_s, if_pos rfl, if_pos rfl]
    exact ⟨_, _, _, rfl, rfl, a2, fc, f2⟩
  obtain ⟨pl, ah, hN, hv⟩ := rd.go tf a3
  obtain ⟨-, -, oc, ld, v20, -⟩ := rd
  rw [z1, z2, q_bd_s, q_bd_s, if_neg (show ¬ (1 : Int) = 0 by decide), if_neg (show ¬ (1 : Int) = 0 by decide)]
  unfold Or_sumAt
  rw [oc.o8, ld.n9]
  by_cases i0 : i < 0
  · rw [if_pos i0, if_pos i0, q_bd_s]
    exact ⟨_, _, _, rfl, rfl, a2, fc, f2⟩
  rw [if_neg i0, if_neg i0]
  by_cases i1 : i < N
  rotate_left
  · rw [if_neg i1, if_neg i1, q_bd_s]
    exact ⟨_, _, _, rfl, rfl, a2, fc, f2⟩
  obtain ⟨ν3, b1, b2, b3⟩ := leasts_s ld hN hv v20
  have ar := al_r (N := N) ⟨by omega, by omega⟩
  have ba := BAL_of ah oc b2
  obtain ⟨r, r1, r2⟩ := sumAt_L ah oc (ld.cong (ν' := ν3) (fun c i p => b3 c i (by omega))) ba ⟨by omega, i1⟩ (i + 1).toNat am_FU am_FU 0 (-1) 0 (by omega) (by omega) (by omega) (by omega) ⟨Int.le_refl _, ar.1⟩ (cb_0 N) (Int.le_refl _)
  rw [if_pos i1, if_pos i1, b1, q_bd_s, r1, r2, q_bd_s]
  have f3 : OFR ν ν3 := fun c i p q => by rw [b3 c i (by omega), f2 c i p q]
  exact ⟨r, μ2, ν3, rfl, rfl, a2.cong (fun _ _ _ => rfl) (fun x p => funext fun i => b3 x i (by omega)) (fun _ _ _ => rfl), fc, f3⟩
theorem told_L {b F t N v : Int} {μ ν : am_M} (oc : OCK b F t N μ) (ld : LD b F t N μ ν) (hN : 0 ≤ t ∧ 0 ≤ N ∧ t + N ≤ 10) (hv : 0 ≤ v ∧ v < 4) (v20 : ν 1020 v = t + N) : ∀ (n fu fu' : Nat) (a k : Int), k + n = N + 1 → 0 ≤ k → n < fu → n < fu' → ∃ r, Or_greatestAsTold_L4 fu a k μ = some (r, μ) ∧ M_asTold_L21 fu' v a k ν = some (r, ν)
  | n, 0, _, _, _, _, _, h, _ => by omega
  | n, _, 0, _, _, _, _, _, h => by omega
  | 0, fu + 1, fu' + 1, a, k, hk, h0, _, _ => by
    refine ⟨a, ?_, ?_⟩
    · show Or_greatestAsTold_L4_b (Or_greatestAsTold_L4 fu) a k μ = _
      unfold Or_greatestAsTold_L4_b
      rw [oc.o8, if_neg (by omega)]
    · show M_asTold_L21_b (M_asTold_L21 fu') v a k ν = _
      unfold M_asTold_L21_b
      rw [ld.n9, if_neg (by omega)]
  | n + 1, fu + 1, fu' + 1, a, k, hk, h0, hfu, hfu' => by
    have hN' : 0 ≤ N ∧ N ≤ 10 := ⟨by omega, by omega⟩
    have hk' : 0 ≤ k ∧ k ≤ 10 := ⟨h0, by omega⟩
    have ar := al_r hN'
    have ak := al_r hk'
    have le : al k ≤ al N := by
      have : 2 ^ k.toNat ≤ 2 ^ N.toNat := Nat.pow_le_pow_right (by decide) (by omega)
      unfold al
      omega
    obtain ⟨r, r1, r2⟩ := told_L oc ld hN hv v20 n fu fu' (mx a (lv (rdk b F t μ) t N (al k))) (k + 1) (by omega) (by omega) (by omega) (by omega)
    refine ⟨r, ?_, ?_⟩
    · rw [← r1]
      show Or_greatestAsTold_L4_b (Or_greatestAsTold_L4 fu) a k μ = _
      unfold Or_greatestAsTold_L4_b
      rw [oc.o8, if_pos (by omega), al_w hk', X_at_65, if_pos (by omega), q_bd_s, q_lt_d, (oc.fb (al k) ak.1 le).1, w32_i (x := k + 1) (by omega) (by omega)]
      rfl
    · rw [← r2]
      show M_asTold_L21_b (M_asTold_L21 fu') v a k ν = _
      unfold M_asTold_L21_b
      rw [ld.n9, if_pos (by omega), al_w hk', live_s ld hN ⟨ak.1, le⟩ hv v20, q_bd_s, q_lt_d, w32_i (x := k + 1) (by omega) (by omega)]
      rfl
theorem asTold_p {b B W n v : Int} {Wn : Int → Int} {μ ν : am_M} (h8 : μ 0 8 = b) (h : TB b B W n Wn μ ν) (hc : OCH b B μ ν) : ∃ r μ' ν', X_asTold v μ = some (r, μ') ∧ M_asTold v ν = some (r, ν') ∧ OCH b B μ' ν' ∧ OFC μ μ' ∧ OFR ν ν' := by
  have hFU := am_FU_ge
  have hb' : b = 100 ∨ b = 200 := h.bo
  have h1 := h.z (i := 0) (v := 0)
  unfold X_asTold M_asTold
  rw [h8, q_pf_d]
  generalize hν1 : m_st ν 1000 0 0 = ν1 at *
  have f1 : OFR ν ν1 := fun c i p q => by rw [← hν1, m_st_d, if_neg (by omega)]
  obtain ⟨μ2, ν2, a1, a2, a3, a4⟩ := ready_s (v := v) h1 (hc.cong (fun _ _ _ => rfl) f1.tg (fun _ _ _ => rfl))
  have tf : TF b μ μ2 := fun x p q => funext fun i => a1 x i (by omega)
  have fc : OFC μ μ2 := fun c i p => a1 c i (by omega)
  have f2 : OFR ν ν2 := fun c i p q => by rw [a3 c i (by omega) (by omega), f1 c i p q]
  rcases a4 with ⟨z1, z2⟩ | ⟨z1, z2, F, E, t, N, rd⟩
  · rw [z1, z2, q_bd_s, q_bd_s, if_pos rfl, if_pos rfl]
    exact ⟨_, _, _, rfl, rfl, a2, fc, f2⟩
  obtain ⟨pl, ah, hN, hv⟩ := rd.go tf a3
  obtain ⟨-, -, oc, ld, v20, -⟩ := rd
  obtain ⟨r, r1, r2⟩ := told_L oc ld hN hv v20 (N + 1).toNat am_FU am_FU 0 0 (by omega) (by omega) (by omega) (by omega)
  unfold Or_greatestAsTold
  rw [z1, z2, q_bd_s, q_bd_s, if_neg (show ¬ (1 : Int) = 0 by decide), if_neg (show ¬ (1 : Int) = 0 by decide), r1, r2, q_bd_s]
  exact ⟨r, μ2, ν2, rfl, rfl, a2, fc, f2⟩
