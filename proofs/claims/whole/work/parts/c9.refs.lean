/-! Orders: the reference's sets, and both ready. -/
theorem rNext_s {b F t N u k : Int} {μ ν : am_M} (h : LD b F t N μ ν) (hN : 0 ≤ t ∧ 0 ≤ N ∧ t + N ≤ 10) (hk : 0 ≤ k ∧ k < N) : (NXT (rdk b F t μ) t N u k ∧ M_isNext u k ν = some (1, ν)) ∨ (¬ NXT (rdk b F t μ) t N u k ∧ M_isNext u k ν = some (0, ν)) := by
  unfold M_isNext
  by_cases c : tb u k = false
  · have bk := h.nd k hk.1 hk.2
    rw [if_pos ((bit_0 hk.1 (by omega)).mpr c), q_ld_s hk.1 (by omega)]
    have e : aAnd (ν 1055 k) (aXor u (-1)) = 0 ↔ NXT (rdk b F t μ) t N u k := by
      rw [sub_0]
      constructor
      · intro z
        exact ⟨c, fun j p q r => z j p (by omega) ((bk j p (by omega)).mpr ⟨by omega, q, r⟩)⟩
      · intro z j p q r
        have := (bk j p q).mp r
        exact z.2 j p this.2.1 this.2.2
    by_cases d : aAnd (ν 1055 k) (aXor u (-1)) = 0
    · rw [if_pos d]; exact Or.inl ⟨e.mp d, rfl⟩
    · rw [if_neg d]; exact Or.inr ⟨fun z => d (e.mpr z), rfl⟩
  · rw [if_neg (fun z => c ((bit_0 hk.1 (by omega)).mp z))]
    exact Or.inr ⟨fun z => c z.1, rfl⟩
/-- no one wants it -/
def NWA (b F t N u : Int) (μ : am_M) (s : Int) : Prop := ¬ ∃ k, 0 ≤ k ∧ k ≤ N ∧ rdk b F t μ k s ∧ tb u k = false
theorem NWA_s {b F t N u s : Int} {μ ν : am_M} (h : LD b F t N μ ν) (hN : 0 ≤ t ∧ 0 ≤ N ∧ t + N ≤ 10) (hu : 0 ≤ u ∧ u ≤ al N) (hs : 0 ≤ s ∧ s < 10) : (ν 1057 s = 0 ∧ aAnd (ν 1056 s) (aXor u (-1)) = 0) ↔ NWA b F t N u μ s := by
  have g := h.gv s hs.1 hs.2
  have r := h.rr s hs.1 hs.2
  unfold NWA
  rw [sub_0]
  constructor
  · rintro ⟨z1, z2⟩ ⟨k, k0, k1, k2, k3⟩
    by_cases c : k = N
    · rw [c] at k2; exact g.1 z1 k2
    · have := z2 k k0 (by omega) ((r k k0 (by omega)).mpr ⟨by omega, k2⟩)
      rw [k3] at this
      cases this
  · intro z
    refine ⟨Classical.byContradiction (fun y => z ⟨N, hN.2.1, Int.le_refl _, g.2 y, al_hi ⟨hN.2.1, by omega⟩ hu (Int.le_refl _)⟩), fun j p q w => ?_⟩
    have := (r j p q).mp w
    cases c : tb u j with
    | true => rfl
    | false => exact absurd ⟨j, p, by omega, this.2, c⟩ z
theorem live_L {b F t N u v : Int} {μ ν : am_M} (h : LD b F t N μ ν) (hN : 0 ≤ t ∧ 0 ≤ N ∧ t + N ≤ 10) (hu : 0 ≤ u ∧ u ≤ al N) (hv : 0 ≤ v ∧ v < 4) (v20 : ν 1020 v = t + N) : ∀ (n fu : Nat) (s : Nat), s + n = (t + N).toNat → n < fu → M_live_L5 fu v u (lvN (LIV (rdk b F t μ) t N u) s) s ν = some (lv (rdk b F t μ) t N u, ν)
  | n, 0, _, _, h => by omega
  | 0, fu + 1, s, hs, _ => by
    show M_live_L5_b (M_live_L5 fu) v u _ s ν = _
    unfold M_live_L5_b
    rw [q_ld_s hv.1 (by omega), v20, if_neg (by omega)]
    have e : s = (t + N).toNat := by omega
    rw [e]
    rfl
  | n + 1, fu + 1, s, hs, hf => by
    have hr := lvN_r (LIV (rdk b F t μ) t N u) s
    have ih := live_L h hN hu hv v20 n fu (s + 1) (by omega) (by omega)
    have e1 : ((s + 1 : Nat) : Int) = (s : Int) + 1 := by omega
    rw [e1] at ih
    have lb := h.lb s (by omega) (by omega)
    have b82 : M_live_B82 (M_live_L5 fu) v u s (lvN (LIV (rdk b F t μ) t N u) s) ν = M_live_L5 fu v u (lvN (LIV (rdk b F t μ) t N u) s) (s + 1) ν := by
      unfold M_live_B82 M_live_B83
      rw [w32_i (x := (s : Int) + 1) (by omega) (by omega), w32_i (x := lvN (LIV (rdk b F t μ) t N u) s + 0) (by omega) (by omega), Int.add_zero]
    have b78 : M_live_B78 (M_live_L5 fu) v u s (lvN (LIV (rdk b F t μ) t N u) s) ν = M_live_L5 fu v u (lvN (LIV (rdk b F t μ) t N u) s + 1) (s + 1) ν := by
      unfold M_live_B78 M_live_B83
      rw [w32_i (x := (s : Int) + 1) (by omega) (by omega), w32_i (x := lvN (LIV (rdk b F t μ) t N u) s + 1) (by omega) (by omega)]
    have on1 : ((s : Int) < t ∨ tb u (s - t) = true) → M_live_B46 (M_live_L5 fu) v u (lvN (LIV (rdk b F t μ) t N u) s) s 1 ν = some (lv (rdk b F t μ) t N u, ν) := by
      intro z
      have hb := NWA_s h hN hu (show 0 ≤ (s : Int) ∧ (s : Int) < 10 by omega)
      have yes : ¬ NWA b F t N u μ s → M_live_L5 fu v u (lvN (LIV (rdk b F t μ) t N u) s + 1) (s + 1) ν = some (lv (rdk b F t μ) t N u, ν) := by
        intro y
        rw [lvN_y (P := LIV (rdk b F t μ) t N u) (n := s) ⟨z, Classical.byContradiction y⟩] at ih
        exact ih
      unfold M_live_B46
      rw [if_neg (show ¬ (1 : Int) = 0 by decide), q_ld_s (by omega) (by omega), q_ld_s (by omega) (by omega)]
      by_cases c : ν 1057 s = 0
      · rw [if_pos c]
        by_cases d : aAnd (ν 1056 s) (aXor u (-1)) = 0
        · rw [if_pos d, b82]
          have nw := hb.mp ⟨c, d⟩
          rw [lvN_n (P := LIV (rdk b F t μ) t N u) (n := s) (fun y => nw y.2)] at ih
          exact ih
        · rw [if_neg d, b78]
          exact yes (fun y => d (hb.mpr y).2)
      · rw [if_neg c, b78]
        exact yes (fun y => c (hb.mpr y).1)
    show M_live_L5_b (M_live_L5 fu) v u _ s ν = _
    unfold M_live_L5_b M_live_B41
    rw [q_ld_s hv.1 (by omega), v20, if_pos (by omega), q_ld_s (by omega) (by omega)]
    by_cases c : (s : Int) < t
    · rw [lb.2 (by omega), if_pos (by decide)]
      exact on1 (Or.inl c)
    · rw [lb.1 (by omega), if_neg (by omega), q_ld_s (by omega) (by omega), lb.1 (by omega), bit_1 (by omega) (by omega)]
      by_cases d : tb u (s - t) = true
      · rw [if_pos d, if_pos rfl]
        exact on1 (Or.inr d)
      · rw [if_neg d, if_neg (show ¬ (0 : Int) = 1 by decide)]
        unfold M_live_B46
        rw [if_pos rfl, b82]
        rw [lvN_n (P := LIV (rdk b F t μ) t N u) (n := s) (fun y => y.1.elim c d)] at ih
        exact ih
theorem live_s {b F t N u v : Int} {μ ν : am_M} (h : LD b F t N μ ν) (hN : 0 ≤ t ∧ 0 ≤ N ∧ t + N ≤ 10) (hu : 0 ≤ u ∧ u ≤ al N) (hv : 0 ≤ v ∧ v < 4) (v20 : ν 1020 v = t + N) : M_live v u ν = some (lv (rdk b F t μ) t N u, ν) := by
  have hFU := am_FU_ge
  unfold M_live
  exact live_L h hN hu hv v20 (t + N).toNat am_FU 0 (by omega) (by omega)
theorem LD.cong {b F t N : Int} {μ ν ν' : am_M} (h : LD b F t N μ ν) (f : ∀ c i, (1054 ≤ c ∧ c ≤ 1058) ∨ (c = 1000 ∧ i = 79) → ν' c i = ν c i) : LD b F t N μ ν' := (LD.mk (n9 := by rw [f _ _ (by omega)]; exact h.n9) (nd := fun k p q j j0 j1 => by rw [f _ _ (by omega)]; exact h.nd k p q j j0 j1) (rr := fun i p q j j0 j1 => by rw [f _ _ (by omega)]; exact h.rr i p q j j0 j1) (gv := fun i p q => by rw [f _ _ (by omega)]; exact h.gv i p q) (lb := fun s p q => by rw [f _ _ (by omega)]; exact h.lb s p q))
/-- found from set u on -/
def LBK (R : Int → Int → Prop) (t N : Int) (ν : am_M) (u : Int) : Prop := ν 1059 u = mx (mf (NXT R t N u) (fun k => ν 1059 (up u k)) (if u = al N then 0 else 1000) N.toNat) (lv R t N u)
theorem leastIn_L {b F t N u a v : Int} {k11 : Int → Int → Int → am_M → am_O} {μ ν : am_M} (h : LD b F t N μ ν) (hN : 0 ≤ t ∧ 0 ≤ N ∧ t + N ≤ 10) (hu : 0 ≤ u ∧ u ≤ al N) (hv : 0 ≤ v ∧ v < 4) (v20 : ν 1020 v = t + N) : ∀ (n fu : Nat) (k : Nat), k + n = N.toNat → n < fu → M_leasts_L32 k11 fu v (al N) u (mf (NXT (rdk b F t μ) t N u) (fun k => ν 1059 (up u k)) a k) k ν = k11 v (al N) (w32 (u + (-1))) (m_st ν 1059 u (mx (mf (NXT (rdk b F t μ) t N u) (fun k => ν 1059 (up u k)) a N.toNat) (lv (rdk b F t μ) t N u)))
  | n, 0, _, _, h => by omega
  | 0, fu + 1, k, hk, _ => by
    have ar := al_r (N := N) ⟨by omega, by omega⟩
    show M_leasts_L32_b k11 (M_leasts_L32 k11 fu) v (al N) u _ k ν = _
    unfold M_leasts_L32_b
    rw [h.n9, if_neg (by omega), live_s h hN hu hv v20, q_bd_s, q_lt_d, q_st_s hu.1 (by omega)]
    have e : k = N.toNat := by omega
    rw [e]
    rfl
  | n + 1, fu + 1, k, hk, hf => by
    have ar := al_r (N := N) ⟨by omega, by omega⟩
    have ih := leastIn_L (a := a) (k11 := k11) h hN hu hv v20 n fu (k + 1) (by omega) (by omega)
    have e1 : ((k + 1 : Nat) : Int) = (k : Int) + 1 := by omega
    rw [e1] at ih
    show M_leasts_L32_b k11 (M_leasts_L32 k11 fu) v (al N) u _ k ν = _
    unfold M_leasts_L32_b M_leasts_B69
    rw [h.n9, if_pos (by omega)]
    rcases rNext_s (u := u) h hN (show 0 ≤ (k : Int) ∧ (k : Int) < N by omega) with ⟨z1, z2⟩ | ⟨z1, z2⟩
    · have g := up_gt (N := N) ⟨by omega, by omega⟩ hu (show 0 ≤ (k : Int) ∧ (k : Int) < N by omega) z1.1
      have g' : 0 ≤ aOr u (aShl 1 k) ∧ aOr u (aShl 1 k) < 4096 := by
        have e : aOr u (aShl 1 k) = up u k := rfl
        rw [e]
        omega
      rw [z2, q_bd_s, if_neg (show ¬ (1 : Int) = 0 by decide), q_ld_s g'.1 g'.2, q_lt_d, w32_i (x := (k : Int) + 1) (by omega) (by omega)]
      rw [mf_y (P := NXT (rdk b F t μ) t N u) (n := k) z1] at ih
      exact ih
    · rw [z2, q_bd_s, if_pos rfl, w32_i (x := (k : Int) + 1) (by omega) (by omega)]
      rw [mf_n (P := NXT (rdk b F t μ) t N u) (n := k) z1] at ih
      exact ih
theorem leasts_L {b F t N v : Int} {μ : am_M} (hN : 0 ≤ t ∧ 0 ≤ N ∧ t + N ≤ 10) (hv : 0 ≤ v ∧ v < 4) : ∀ (n fu : Nat) (u : Int) (ν : am_M), u + 1 = n → u ≤ al N → n < fu → LD b F t N μ ν → ν 1020 v = t + N → (∀ w, u < w → w ≤ al N → LBK (rdk b F t μ) t N ν w) → ∃ ν', M_leasts_L11 fu v (al N) u ν = some (0, ν') ∧ (∀ w, 0 ≤ w → w ≤ al N → LBK (rdk b F t μ) t N ν' w) ∧ (∀ c i, c ≠ 1059 → ν' c i = ν c i)
  | n, 0, _, _, _, _, h, _, _, _ => by omega
  | 0, fu + 1, u, ν, hu, hl, _, h, _, hd => by
    refine ⟨ν, ?_, fun w p q => hd w (by omega) q, fun _ _ _ => rfl⟩
    show M_leasts_L11_b (M_leasts_L11 fu) v (al N) u ν = _
    unfold M_leasts_L11_b
    rw [if_pos (by omega)]
  | n + 1, fu + 1, u, ν, hu, hl, hf, h, v20, hd => by
    have hFU := am_FU_ge
    have hN' : 0 ≤ N ∧ N ≤ 10 := ⟨by omega, by omega⟩
    have ar := al_r hN'
    generalize hν1 : m_st ν 1059 u (mx (mf (NXT (rdk b F t μ) t N u) (fun k => ν 1059 (up u k)) (if u = al N then 0 else 1000) N.toNat) (lv (rdk b F t μ) t N u)) = ν1
    have f1 : ∀ c i, ¬ (c = 1059 ∧ i = u) → ν1 c i = ν c i := fun c i z => by rw [← hν1, m_st_d, if_neg z]
    have w1 : ν1 1059 u = mx (mf (NXT (rdk b F t μ) t N u) (fun k => ν 1059 (up u k)) (if u = al N then 0 else 1000) N.toNat) (lv (rdk b F t μ) t N u) := by rw [← hν1, m_st_d, if_pos ⟨rfl, rfl⟩]
    have e0 : M_leasts_L11 (fu + 1) v (al N) u ν = M_leasts_L11 fu v (al N) (w32 (u + (-1))) ν1 := by
      show M_leasts_L11_b (M_leasts_L11 fu) v (al N) u ν = _
      unfold M_leasts_L11_b M_leasts_B27
      rw [if_neg (by omega)]
      by_cases c : u = al N
      · rw [if_pos c]
        have := leastIn_L (a := 0) (k11 := M_leasts_L11 fu) h hN ⟨by omega, hl⟩ hv v20 N.toNat am_FU 0 (by omega) (by omega)
        rw [if_pos c] at hν1
        rw [hν1] at this
        exact this
      · rw [if_neg c]
        have := leastIn_L (a := 1000) (k11 := M_leasts_L11 fu) h hN ⟨by omega, hl⟩ hv v20 N.toNat am_FU 0 (by omega) (by omega)
        rw [if_neg c] at hν1
        rw [hν1] at this
        exact this
    have tr : ∀ w, u ≤ w → w ≤ al N → ∀ x, mf (NXT (rdk b F t μ) t N w) (fun k => ν1 1059 (up w k)) x N.toNat = mf (NXT (rdk b F t μ) t N w) (fun k => ν 1059 (up w k)) x N.toNat := fun w p q x => mf_cong N.toNat (fun k k0 k1 r => by
      have := up_gt hN' ⟨by omega, q⟩ (show 0 ≤ k ∧ k < N by omega) r.1
      exact f1 1059 (up w k) (by omega))
    obtain ⟨ν', b1, b2, b3⟩ := leasts_L hN hv n fu (u - 1) ν1 (by omega) (by omega) (by omega) (h.cong (fun c i p => f1 c i (by omega))) (by rw [f1 _ _ (by omega)]; exact v20) (fun w p q => by
      unfold LBK
      rw [tr w (by omega) q]
      by_cases y : w = u
      · rw [y]; exact w1
      · rw [f1 _ _ (by omega)]
        exact hd w (by omega) q)
    refine ⟨ν', ?_, b2, fun c i p => by rw [b3 c i p, f1 c i (by omega)]⟩
    rw [e0, w32_i (x := u + (-1)) (by omega) (by omega), ← b1]
    rfl
theorem leasts_s {b F t N v : Int} {μ ν : am_M} (h : LD b F t N μ ν) (hN : 0 ≤ t ∧ 0 ≤ N ∧ t + N ≤ 10) (hv : 0 ≤ v ∧ v < 4) (v20 : ν 1020 v = t + N) : ∃ ν', M_leasts v ν = some (0, ν') ∧ BST (rdk b F t μ) t N 1000 (ν' 1059) ∧ (∀ c i, c ≠ 1059 → ν' c i = ν c i) := by
  have hFU := am_FU_ge
  have hN' : 0 ≤ N ∧ N ≤ 10 := ⟨by omega, by omega⟩
  have ar := al_r hN'
  obtain ⟨ν', a1, a2, a3⟩ := leasts_L hN hv (al N + 1).toNat am_FU (al N) ν (by omega) (Int.le_refl _) (by omega) h v20 (fun w p q => by omega)
  refine ⟨ν', ?_, a2, a3⟩
  unfold M_leasts
  rw [h.n9, al_w hN', a1]
/-- both ready, or neither -/
def RDY (b B v F E t N : Int) (μ ν μ' ν' : am_M) : Prop := (0 ≤ v ∧ v < B ∧ B ≤ 4) ∧ PL b F E t N μ ν ∧ OCK b F t N μ' ∧ LD b F t N μ' ν' ∧ ν' 1020 v = t + N ∧ (ν 1017 v = F ∧ ν 1017 v + ν 1018 v = E)
theorem LD.tf {b F t N : Int} {μ μ' ν : am_M} (h : LD b F t N μ ν) (f : TF b μ μ') : LD b F t N μ' ν := (LD.mk (n9 := h.n9) (nd := fun k p q j j0 j1 => by rw [rdk_tf f]; exact h.nd k p q j j0 j1) (rr := fun i p q j j0 j1 => by rw [rdk_tf f]; exact h.rr i p q j j0 j1) (gv := fun i p q => by rw [rdk_tf f]; exact h.gv i p q) (lb := h.lb))
theorem ready_s {b B W n v : Int} {Wn : Int → Int} {μ ν : am_M} (h : TB b B W n Wn μ ν) (hc : OCH b B μ ν) : ∃ μ' ν', (∀ c i, c < 60 ∨ 66 < c → μ' c i = μ c i) ∧ OCH b B μ' ν' ∧ LFR ν ν' ∧ ((Or_prepare b v μ = some (0, μ') ∧ M_isLaidOut v 12 ν = some (0, ν')) ∨ (Or_prepare b v μ = some (1, μ') ∧ M_isLaidOut v 12 ν = some (1, ν') ∧ ∃ F E t N, RDY b B v F E t N μ ν μ' ν')) := by
  have hbo := h.bo
  have hb' : b = 100 ∨ b = 200 := hbo
  have hB := h.cB
  have h1 := h.z (i := 79) (v := 0)
  generalize hν1 : m_st ν 1000 79 0 = ν1 at *
  have f1 : LFR ν ν1 := fun c i p q => by rw [← hν1, m_st_d, if_neg q]
  have tg1 : TG ν ν1 := fun c p => funext fun i => f1 c i (by omega) (by omega)
  have e13 : ν1 1013 1 = B := by rw [f1 1013 1 (by omega) (by omega)]; exact hB.2.1
  obtain ⟨e, μ', a1, a2, a3, a4⟩ := prep_s (v := v) h1 (hc.cong (fun _ _ _ => rfl) tg1 (fun _ _ _ => rfl))
  have tf : TF b μ μ' := fun x p q => funext fun i => a2 x i (by omega)
  rcases a4 with ⟨z, y⟩ | ⟨z, c, y, pl, v20, oc⟩
  · rw [z] at a1
    refine ⟨μ', ν1, a2, a3, f1, Or.inl ⟨a1, ?_⟩⟩
    unfold M_isLaidOut
    rw [q_pf_d, hν1, isBill_p e13, q_bd_s]
    rcases y with y | ⟨c, y⟩
    · rw [if_pos (if_neg y)]
    · have hz : (if 0 ≤ v ∧ v < B then (1 : Int) else 0) = 1 := if_pos c
      rw [hz, if_neg (show ¬ (1 : Int) = 0 by decide), y, q_bd_s, if_pos rfl]
  · rw [z] at a1
    have g : ∀ x i, ¬ (1054 ≤ x ∧ x ≤ 1058) → ¬ (x = 1000 ∧ i = 79) → ν1 x i = ν x i := f1
    have pl0 : PL b (ν1 1017 v) (ν1 1017 v + ν1 1018 v) (ν1 1019 v) (ν1 1018 v - ν1 1019 v - 1) μ ν := pl.cong (fun _ _ _ => rfl) (fun x p q => funext fun i => by rw [← hν1, m_st_c (by omega)])
    obtain ⟨ν', b1, b2, b3⟩ := laid_s (v := v) (B := B) pl0 ⟨hB.2.1, hB.2.2.2⟩ c (by rw [f1 1017 v (by omega) (by omega)]) (by rw [f1 1017 v (by omega) (by omega), f1 1018 v (by omega) (by omega)]) (by rw [hν1]; exact y)
    have f2 : LFR ν1 ν' := fun x i p q => by rw [b3 x i p q, f1 x i p q]
    refine ⟨μ', ν', a2, a3.cong (fun _ _ _ => rfl) (fun x p => funext fun i => f2 x i (by omega) (by omega)) (fun _ _ _ => rfl), b3, Or.inr ⟨a1, b1, _, _, _, _, ⟨c.1, c.2, hB.2.2.2⟩, pl0, oc, b2.tf tf, ?_, by rw [f1 1017 v (by omega) (by omega)], by rw [f1 1017 v (by omega) (by omega), f1 1018 v (by omega) (by omega)]⟩⟩
    rw [f2 1020 v (by omega) (by omega), v20]
    omega
