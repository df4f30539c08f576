/-! The promise of orders. -/
/-- all that may come next, added up -/
noncomputable def sm (P : Int → Prop) (g : Int → Int) (a : Int) : Nat → Int
  | 0 => a
  | n + 1 => @ite Int (P n) (Classical.propDecidable _) (w64 (sm P g a n + g n)) (sm P g a n)
theorem sm_y {P : Int → Prop} {g : Int → Int} {a : Int} {n : Nat} (h : P n) : sm P g a (n + 1) = w64 (sm P g a n + g n) := if_pos h
theorem sm_n {P : Int → Prop} {g : Int → Int} {a : Int} {n : Nat} (h : ¬ P n) : sm P g a (n + 1) = sm P g a n := if_neg h
theorem sm_cong {P : Int → Prop} {g g' : Int → Int} {a : Int} : ∀ n : Nat, (∀ k : Int, 0 ≤ k → k < n → P k → g k = g' k) → sm P g a n = sm P g' a n
  | 0, _ => rfl
  | n + 1, h => by
    have ih := sm_cong (a := a) n (fun j p q => h j p (by omega))
    rcases Classical.em (P n) with c | c
    · rw [sm_y c, sm_y c, ih, h n (by omega) (by omega) c]
    · rw [sm_n c, sm_n c, ih]
theorem sm_no {P : Int → Prop} {g : Int → Int} {a : Int} : ∀ n : Nat, (∀ k : Int, 0 ≤ k → k < n → ¬ P k) → sm P g a n = a
  | 0, _ => rfl
  | n + 1, h => by rw [sm_n (h n (by omega) (by omega)), sm_no n (fun j p q => h j p (by omega))]
/-- the number for a set -/
def CNE (R : Int → Int → Prop) (t N x u : Int) (g : Int → Int) : Prop := g u = if lv R t N u ≤ x then sm (NXT R t N u) (fun k => g (up u k)) (if u = al N then 1 else 0) N.toNat else 0
theorem CNE.cong {R : Int → Int → Prop} {t N x u : Int} {g g' : Int → Int} (h : CNE R t N x u g) (hN : 0 ≤ N ∧ N ≤ 10) (hu : 0 ≤ u ∧ u ≤ al N) (f : ∀ w, u ≤ w → w ≤ al N → g' w = g w) : CNE R t N x u g' := by
  unfold CNE at h ⊢
  rw [f u (Int.le_refl _) hu.2, h]
  rw [sm_cong (P := NXT R t N u) (g := fun k => g (up u k)) (g' := fun k => g' (up u k)) N.toNat (fun k p q r => ?_)]
  have := up_gt hN hu (show 0 ≤ k ∧ k < N by omega) r.1
  exact (f (up u k) (by omega) (by omega)).symm
theorem CNE_u {R : Int → Int → Prop} {t N x : Int} {g g' : Int → Int} (hN : 0 ≤ N ∧ N ≤ 10) (hg : ∀ u, 0 ≤ u → u ≤ al N → CNE R t N x u g) (hg' : ∀ u, 0 ≤ u → u ≤ al N → CNE R t N x u g') : ∀ (n : Nat) (u : Int), al N - u = n → 0 ≤ u → g u = g' u := by
  intro n
  induction n using Nat.strongRecOn with
  | ind n ih =>
    intro u hn h0
    have e1 := hg u h0 (by omega)
    have e2 := hg' u h0 (by omega)
    unfold CNE at e1 e2
    rw [e1, e2]
    rw [sm_cong (P := NXT R t N u) (g := fun k => g (up u k)) (g' := fun k => g' (up u k)) N.toNat (fun k p q r => ?_)]
    have := up_gt hN ⟨h0, by omega⟩ (show 0 ≤ k ∧ k < N by omega) r.1
    exact ih (al N - up u k).toNat (by omega) (up u k) (by omega) (by omega)
theorem cfol_L {b F t N u : Int} {μ0 μ : am_M} (hN : 0 ≤ N ∧ N ≤ 10) (o8 : μ 60 8 = N) (hB : BHK b F t N (N + 1) μ0 μ) (hu : 0 ≤ u ∧ u ≤ al N) : ∀ (n fu : Nat) (k : Nat), k + n = N.toNat → n < fu → Or_countFollowing_L5 fu u (sm (NXT (rdk b F t μ0) t N u) (fun k => μ 67 (up u k)) 0 k) k μ = some (sm (NXT (rdk b F t μ0) t N u) (fun k => μ 67 (up u k)) 0 N.toNat, μ)
  | n, 0, _, _, h => by omega
  | 0, fu + 1, k, hk, _ => by
    have e : k = N.toNat := by omega
    show Or_countFollowing_L5_b (Or_countFollowing_L5 fu) u _ k μ = _
    unfold Or_countFollowing_L5_b
    rw [o8, if_neg (by omega), e]
  | n + 1, fu + 1, k, hk, hf => by
    have ar := al_r hN
    have ih := cfol_L hN o8 hB hu n fu (k + 1) (by omega) (by omega)
    have e1 : ((k + 1 : Nat) : Int) = (k : Int) + 1 := by omega
    rw [e1] at ih
    show Or_countFollowing_L5_b (Or_countFollowing_L5 fu) u _ k μ = _
    unfold Or_countFollowing_L5_b Or_countFollowing_B52
    rw [o8, if_pos (by omega), w32_i (x := (k : Int) + 1) (by omega) (by omega)]
    rcases follow_s (u := u) hN hB (show 0 ≤ (k : Int) ∧ (k : Int) < N by omega) with ⟨z1, z2⟩ | ⟨z1, z2⟩
    · have g := up_gt hN hu (show 0 ≤ (k : Int) ∧ (k : Int) < N by omega) z1.1
      have g' : 0 ≤ aOr u (aShl 1 k) ∧ aOr u (aShl 1 k) < 1024 := by
        have e : aOr u (aShl 1 k) = up u k := rfl
        rw [e]
        omega
      rw [z2, q_bd_s, if_neg (show ¬ (1 : Int) = 0 by decide), if_pos g'.2, q_ld_s g'.1 g'.2]
      rw [sm_y (P := NXT (rdk b F t μ0) t N u) (n := k) z1] at ih
      exact ih
    · rw [z2, q_bd_s, if_pos rfl]
      rw [sm_n (P := NXT (rdk b F t μ0) t N u) (n := k) z1] at ih
      exact ih
theorem howMany_L {b F t N x : Int} {μ0 : am_M} (ah : AHD (rdk b F t μ0) t N) : ∀ (n fu : Nat) (u : Int) (μ : am_M), u + 1 = n → u ≤ al N → n < fu → μ 60 8 = N → BHK b F t N (N + 1) μ0 μ → (∀ w, 0 ≤ w → w ≤ al N → μ 65 w = lv (rdk b F t μ0) t N w) → (∀ w, u < w → w ≤ al N → CNE (rdk b F t μ0) t N x w (μ 67)) → ∃ μ', Or_howMany_L5 fu x u μ = some (μ' 67 0, μ') ∧ (∀ w, 0 ≤ w → w ≤ al N → CNE (rdk b F t μ0) t N x w (μ' 67)) ∧ (∀ c i, c ≠ 67 → μ' c i = μ c i)
  | n, 0, _, _, _, _, h, _, _, _, _ => by omega
  | 0, fu + 1, u, μ, hu, hl, _, o8, hB, hL, hd => by
    refine ⟨μ, ?_, fun w p q => hd w (by omega) q, fun _ _ _ => rfl⟩
    show Or_howMany_L5_b (Or_howMany_L5 fu) x u μ = _
    unfold Or_howMany_L5_b Or_howMany_B63
    rw [if_pos (by omega), q_ld_s (by decide) (by decide)]
  | n + 1, fu + 1, u, μ, hu, hl, hf, o8, hB, hL, hd => by
    have hFU := am_FU_ge
    have hN : 0 ≤ N ∧ N ≤ 10 := by have := ah.1; omega
    have ar := al_r hN
    have go : ∀ y, Or_howMany_L5 (fu + 1) x u μ = Or_howMany_L5 fu x (u + (-1)) (m_st μ 67 u y) → y = (if lv (rdk b F t μ0) t N u ≤ x then sm (NXT (rdk b F t μ0) t N u) (fun k => μ 67 (up u k)) (if u = al N then 1 else 0) N.toNat else 0) → ∃ μ', Or_howMany_L5 (fu + 1) x u μ = some (μ' 67 0, μ') ∧ (∀ w, 0 ≤ w → w ≤ al N → CNE (rdk b F t μ0) t N x w (μ' 67)) ∧ (∀ c i, c ≠ 67 → μ' c i = μ c i) := by
      intro y e0 ey
      generalize hμ1 : m_st μ 67 u y = μ1 at *
      have f1 : ∀ c i, ¬ (c = 67 ∧ i = u) → μ1 c i = μ c i := fun c i z => by rw [← hμ1, m_st_d, if_neg z]
      have w1 : μ1 67 u = y := by rw [← hμ1, m_st_d, if_pos ⟨rfl, rfl⟩]
      obtain ⟨μ', b1, b2, b3⟩ := howMany_L ah n fu (u + (-1)) μ1 (by omega) (by omega) (by omega) (by rw [f1 _ _ (by omega)]; exact o8) (fun a p q r j j0 j1 => by rw [f1 _ _ (by omega)]; exact hB a p q r j j0 j1) (fun w p q => by rw [f1 _ _ (by omega)]; exact hL w p q) (fun w p q => by
        by_cases c : w = u
        · rw [c]
          unfold CNE
          rw [w1, ey]
          rw [sm_cong (P := NXT (rdk b F t μ0) t N u) (g := fun k => μ 67 (up u k)) (g' := fun k => μ1 67 (up u k)) N.toNat (fun k k0 k1 r => ?_)]
          have := up_gt hN (show 0 ≤ u ∧ u ≤ al N by omega) (show 0 ≤ k ∧ k < N by omega) r.1
          exact (f1 67 (up u k) (by omega)).symm
        · exact (hd w (by omega) q).cong hN (by omega) (fun z z0 z1 => f1 67 z (by omega)))
      exact ⟨μ', by rw [e0, b1], b2, fun c i p => by rw [b3 c i p, f1 c i (by omega)]⟩
    have e1 : Or_howMany_L5 (fu + 1) x u μ = if lv (rdk b F t μ0) t N u ≤ x then (if u = al N then Or_howMany_L5 fu x (u + (-1)) (m_st μ 67 u 1) else Or_howMany_L5 fu x (u + (-1)) (m_st μ 67 u (sm (NXT (rdk b F t μ0) t N u) (fun k => μ 67 (up u k)) 0 N.toNat))) else Or_howMany_L5 fu x (u + (-1)) (m_st μ 67 u 0) := by
      have cf := cfol_L hN o8 hB (show 0 ≤ u ∧ u ≤ al N by omega) N.toNat am_FU 0 (by omega) (by omega)
      have cf' : Or_countFollowing u μ = some (sm (NXT (rdk b F t μ0) t N u) (fun k => μ 67 (up u k)) 0 N.toNat, μ) := cf
      show Or_howMany_L5_b (Or_howMany_L5 fu) x u μ = _
      unfold Or_howMany_L5_b Or_howMany_B49 Or_howMany_B50 Or_allSums
      rw [if_neg (by omega), if_pos (by omega), X_at_65, if_pos (by omega), q_bd_s, hL u (by omega) hl, q_bd_s, o8, al_w hN, cf', q_bd_s, q_st_s (by omega) (by omega), q_st_s (by omega) (by omega), q_st_s (by omega) (by omega), w32_i (x := u + (-1)) (by omega) (by omega)]
    by_cases c : lv (rdk b F t μ0) t N u ≤ x
    · rw [if_pos c] at e1 go
      by_cases d : u = al N
      · rw [if_pos d] at e1 go
        refine go 1 e1 ?_
        rw [sm_no N.toNat (fun k p q => by rw [d]; exact NXT_al ah (by omega))]
      · rw [if_neg d] at e1 go
        exact go _ e1 rfl
    · rw [if_neg c] at e1 go
      exact go 0 e1 rfl
theorem rcnt_L {b F t N u x a v : Int} {k41 : Int → Int → Int → Int → am_M → am_O} {μ ν : am_M} (h : LD b F t N μ ν) (hN : 0 ≤ t ∧ 0 ≤ N ∧ t + N ≤ 10) (hu : 0 ≤ u ∧ u ≤ al N) (hv : 0 ≤ v ∧ v < 4) (v20 : ν 1020 v = t + N) : ∀ (n fu : Nat) (k : Nat), k + n = N.toNat → n < fu → M_orders_L62 k41 fu v x (al N) u (sm (NXT (rdk b F t μ) t N u) (fun k => ν 1060 (up u k)) a k) k ν = k41 v x (al N) (w32 (u + (-1))) (m_st ν 1060 u (if lv (rdk b F t μ) t N u ≤ x then sm (NXT (rdk b F t μ) t N u) (fun k => ν 1060 (up u k)) a N.toNat else 0))
  | n, 0, _, _, h => by omega
  | 0, fu + 1, k, hk, _ => by
    have ar := al_r (N := N) ⟨by omega, by omega⟩
    have e : k = N.toNat := by omega
    show M_orders_L62_b k41 (M_orders_L62 k41 fu) v x (al N) u _ k ν = _
    unfold M_orders_L62_b M_orders_B128
    rw [h.n9, if_neg (by omega), live_s h hN hu hv v20, q_bd_s, q_st_s hu.1 (by omega), q_st_s hu.1 (by omega), e]
    by_cases c : lv (rdk b F t μ) t N u ≤ x
    · rw [if_pos c, if_pos c]
    · rw [if_neg c, if_neg c]
  | n + 1, fu + 1, k, hk, hf => by
    have ar := al_r (N := N) ⟨by omega, by omega⟩
    have ih := rcnt_L (x := x) (a := a) (k41 := k41) h hN hu hv v20 n fu (k + 1) (by omega) (by omega)
    have e1 : ((k + 1 : Nat) : Int) = (k : Int) + 1 := by omega
    rw [e1] at ih
    show M_orders_L62_b k41 (M_orders_L62 k41 fu) v x (al N) u _ k ν = _
    unfold M_orders_L62_b M_orders_B99
    rw [h.n9, if_pos (by omega), w32_i (x := (k : Int) + 1) (by omega) (by omega)]
    rcases rNext_s (u := u) h hN (show 0 ≤ (k : Int) ∧ (k : Int) < N by omega) with ⟨z1, z2⟩ | ⟨z1, z2⟩
    · have g := up_gt (N := N) ⟨by omega, by omega⟩ hu (show 0 ≤ (k : Int) ∧ (k : Int) < N by omega) z1.1
      have g' : 0 ≤ aOr u (aShl 1 k) ∧ aOr u (aShl 1 k) < 4096 := by
        have e : aOr u (aShl 1 k) = up u k := rfl
        rw [e]
        omega
      rw [z2, q_bd_s, if_neg (show ¬ (1 : Int) = 0 by decide), q_ld_s g'.1 g'.2]
      rw [sm_y (P := NXT (rdk b F t μ) t N u) (n := k) z1] at ih
      exact ih
    · rw [z2, q_bd_s, if_pos rfl]
      rw [sm_n (P := NXT (rdk b F t μ) t N u) (n := k) z1] at ih
      exact ih
theorem rorders_L {b F t N x v : Int} {μ : am_M} (hN : 0 ≤ t ∧ 0 ≤ N ∧ t + N ≤ 10) (hv : 0 ≤ v ∧ v < 4) : ∀ (n fu : Nat) (u : Int) (ν : am_M), u + 1 = n → u ≤ al N → n < fu → LD b F t N μ ν → ν 1020 v = t + N → (∀ w, u < w → w ≤ al N → CNE (rdk b F t μ) t N x w (ν 1060)) → ∃ ν', M_orders_L41 fu v x (al N) u ν = some (ν' 1060 0, ν') ∧ (∀ w, 0 ≤ w → w ≤ al N → CNE (rdk b F t μ) t N x w (ν' 1060)) ∧ (∀ c i, c ≠ 1060 → ν' c i = ν c i)
  | n, 0, _, _, _, _, h, _, _, _ => by omega
  | 0, fu + 1, u, ν, hu, hl, _, h, _, hd => by
    refine ⟨ν, ?_, fun w p q => hd w (by omega) q, fun _ _ _ => rfl⟩
    show M_orders_L41_b (M_orders_L41 fu) v x (al N) u ν = _
    unfold M_orders_L41_b
    rw [if_pos (by omega), q_ld_s (by decide) (by decide)]
  | n + 1, fu + 1, u, ν, hu, hl, hf, h, v20, hd => by
    have hFU := am_FU_ge
    have hN' : 0 ≤ N ∧ N ≤ 10 := ⟨by omega, by omega⟩
    have ar := al_r hN'
    generalize hν1 : m_st ν 1060 u (if lv (rdk b F t μ) t N u ≤ x then sm (NXT (rdk b F t μ) t N u) (fun k => ν 1060 (up u k)) (if u = al N then 1 else 0) N.toNat else 0) = ν1
    have f1 : ∀ c i, ¬ (c = 1060 ∧ i = u) → ν1 c i = ν c i := fun c i z => by rw [← hν1, m_st_d, if_neg z]
    have w1 : ν1 1060 u = (if lv (rdk b F t μ) t N u ≤ x then sm (NXT (rdk b F t μ) t N u) (fun k => ν 1060 (up u k)) (if u = al N then 1 else 0) N.toNat else 0) := by rw [← hν1, m_st_d, if_pos ⟨rfl, rfl⟩]
    have e0 : M_orders_L41 (fu + 1) v x (al N) u ν = M_orders_L41 fu v x (al N) (w32 (u + (-1))) ν1 := by
      show M_orders_L41_b (M_orders_L41 fu) v x (al N) u ν = _
      unfold M_orders_L41_b M_orders_B57
      rw [if_neg (by omega)]
      by_cases c : u = al N
      · rw [if_pos c]
        have := rcnt_L (x := x) (a := 1) (k41 := M_orders_L41 fu) h hN ⟨by omega, hl⟩ hv v20 N.toNat am_FU 0 (by omega) (by omega)
        rw [if_pos c] at hν1
        rw [hν1] at this
        exact this
      · rw [if_neg c]
        have := rcnt_L (x := x) (a := 0) (k41 := M_orders_L41 fu) h hN ⟨by omega, hl⟩ hv v20 N.toNat am_FU 0 (by omega) (by omega)
        rw [if_neg c] at hν1
        rw [hν1] at this
        exact this
    obtain ⟨ν', b1, b2, b3⟩ := rorders_L hN hv n fu (u - 1) ν1 (by omega) (by omega) (by omega) (h.cong (fun c i p => f1 c i (by omega))) (by rw [f1 _ _ (by omega)]; exact v20) (fun w p q => by
      by_cases c : w = u
      · rw [c]
        unfold CNE
        rw [w1]
        rw [sm_cong (P := NXT (rdk b F t μ) t N u) (g := fun k => ν 1060 (up u k)) (g' := fun k => ν1 1060 (up u k)) N.toNat (fun k k0 k1 r => ?_)]
        have := up_gt hN' (show 0 ≤ u ∧ u ≤ al N by omega) (show 0 ≤ k ∧ k < N by omega) r.1
        exact (f1 1060 (up u k) (by omega)).symm
      · exact (hd w (by omega) q).cong hN' (by omega) (fun z z0 z1 => f1 1060 z (by omega)))
    refine ⟨ν', ?_, b2, fun c i p => by rw [b3 c i p, f1 c i (by omega)]⟩
    rw [e0, w32_i (x := u + (-1)) (by omega) (by omega), ← b1]
    rfl
theorem orders_p {b B W n v x : Int} {Wn : Int → Int} {μ ν : am_M} (h8 : μ 0 8 = b) (h : TB b B W n Wn μ ν) (hc : OCH b B μ ν) : ∃ r μ' ν', X_orders v x μ = some (r, μ') ∧ M_orders v x ν = some (r, ν') ∧ OCH b B μ' ν' ∧ OFC μ μ' ∧ OFR ν ν' := by
  have hFU := am_FU_ge
  have hb' : b = 100 ∨ b = 200 := h.bo
  have h1 := h.z (i := 0) (v := 0)
  unfold X_orders M_orders
  rw [q_pf_d]
  generalize hν1 : m_st ν 1000 0 0 = ν1 at *
  have f1 : OFR ν ν1 := fun c i p q => by rw [← hν1, m_st_d, if_neg (by omega)]
  have hc1 : OCH b B μ ν1 := hc.cong (fun _ _ _ => rfl) f1.tg (fun _ _ _ => rfl)
  rw [within_g, q_bd_s]
  by_cases cx : 0 ≤ x ∧ x ≤ 20
  rotate_left
  · have hw : (if 0 ≤ x ∧ x ≤ 20 then (1 : Int) else 0) = 0 := if_neg cx
    rw [hw, if_pos (show (0 : Int) = 0 from rfl)]
    refine ⟨-1, μ, ν1, ?_, rfl, hc1, fun _ _ _ => rfl, f1⟩
    by_cases c0 : x < 0
    · rw [if_pos c0]
    · rw [if_neg c0, if_neg (by omega)]
  have hw : (if 0 ≤ x ∧ x ≤ 20 then (1 : Int) else 0) = 1 := if_pos cx
  rw [hw, if_neg (show ¬ (1 : Int) = 0 by decide), if_neg (show ¬ x < 0 by omega), if_pos cx.2, h8]
  obtain ⟨μ2, ν2, a1, a2, a3, a4⟩ := ready_s (v := v) h1 hc1
  have tf : TF b μ μ2 := fun x p q => funext fun i => a1 x i (by omega)
  have fc : OFC μ μ2 := fun c i p => a1 c i (by omega)
  have f2 : OFR ν ν2 := fun c i p q => by rw [a3 c i (by omega) (by omega), f1 c i p q]
  rcases a4 with ⟨z1, z2⟩ | ⟨z1, z2, F, E, t, N, rd⟩
  · rw [z1, z2, q_bd_s, q_bd_s, if_pos rfl, if_pos rfl]
    exact ⟨_, _, _, rfl, rfl, a2, fc, f2⟩
  obtain ⟨pl, ah, hN, hv⟩ := rd.go tf a3
  obtain ⟨-, -, oc, ld, v20, -⟩ := rd
  have hN' : 0 ≤ N ∧ N ≤ 10 := ⟨by omega, by omega⟩
  have ar := al_r hN'
  obtain ⟨μ3, b1, b2, b3⟩ := howMany_L (x := x) ah (al N + 1).toNat am_FU (al N) μ2 (by omega) (Int.le_refl _) (by omega) oc.o8 oc.bh (fun w p q => (oc.fb w p q).1) (fun w p q => by omega)
  obtain ⟨ν3, d1, d2, d3⟩ := rorders_L (x := x) hN hv (al N + 1).toNat am_FU (al N) ν2 (by omega) (Int.le_refl _) (by omega) ld v20 (fun w p q => by omega)
  have e := CNE_u hN' b2 d2 (al N).toNat 0 (by omega) (Int.le_refl _)
  unfold Or_howMany Or_allSums
  rw [z1, z2, q_bd_s, q_bd_s, if_neg (show ¬ (1 : Int) = 0 by decide), q_bd_s, if_neg (show ¬ (1 : Int) = 0 by decide), oc.o8, ld.n9, al_w hN', b1, q_bd_s, d1]
  refine ⟨μ3 67 0, μ3, ν3, rfl, by rw [e], a2.cong (fun x p q => funext fun i => b3 x i (by omega)) (fun x p => funext fun i => d3 x i (by omega)) (fun c i p => b3 c i (by omega)), fun c i p => by rw [b3 c i (by omega), fc c i p], fun c i p q => by rw [d3 c i (by omega), f2 c i p q]⟩
