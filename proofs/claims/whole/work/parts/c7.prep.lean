/-! Orders: ready. -/
theorem RR_tf {b : Int} {μ μ' : am_M} (f : TF b μ μ') (l : Int) : RR b μ' l = RR b μ l := by
  unfold RR
  rw [f (b + 11) (by omega) (by omega), f (b + 9) (by omega) (by omega), f (b + 10) (by omega) (by omega)]
theorem rdk_tf {b F t : Int} {μ μ' : am_M} (f : TF b μ μ') : rdk b F t μ' = rdk b F t μ := by
  funext k s
  unfold rdk
  rw [RR_tf f]
theorem PL.cong {b F E t N : Int} {μ ν μ' ν' : am_M} (h : PL b F E t N μ ν) (f : TF b μ μ') (g : ∀ c, 1001 ≤ c → c ≤ 1020 → ν' c = ν c) : PL b F E t N μ' ν' := by
  have f' : ∀ c, b + 1 ≤ c → c ≤ b + 11 → c ≠ b + 8 → μ' c = μ c := fun c p q _ => f c (by omega) (by omega)
  exact (PL.mk (bo := h.bo) (F0 := h.F0) (t0 := h.t0) (N0 := h.N0) (NE := h.NE) (ck := fun l p q => by rw [RR_tf f]; exact (h.ck l p q).cg f' g) (k0 := by rw [g 1002 (by omega) (by omega)]; exact h.k0) (k1 := by rw [g 1002 (by omega) (by omega)]; exact h.k1) (k8 := by rw [g 1002 (by omega) (by omega)]; exact h.k8) (la := by rw [g 1003 (by omega) (by omega)]; exact h.la) (rd := fun l s p q r => by rw [RR_tf f] at r; exact h.rd l s p q r) (r0 := fun j p q => by rw [RR_tf f]; exact h.r0 j p q))
/-- what the class keeps of orders -/
def OCK (b F t N : Int) (μ : am_M) : Prop := (μ 60 7 = t) ∧ (μ 60 8 = N) ∧ (STD b F t N μ μ) ∧ (BHK b F t N (N + 1) μ μ) ∧ (∀ w, 0 ≤ w → w ≤ al N → FBK (rdk b F t μ) t N μ w)
theorem OCK.o7 {b F t N : Int} {μ : am_M} (h : OCK b F t N μ) : μ 60 7 = t := h.1
theorem OCK.o8 {b F t N : Int} {μ : am_M} (h : OCK b F t N μ) : μ 60 8 = N := h.2.1
theorem OCK.sd {b F t N : Int} {μ : am_M} (h : OCK b F t N μ) : STD b F t N μ μ := h.2.2.1
theorem OCK.bh {b F t N : Int} {μ : am_M} (h : OCK b F t N μ) : BHK b F t N (N + 1) μ μ := h.2.2.2.1
theorem OCK.fb {b F t N : Int} {μ : am_M} (h : OCK b F t N μ) : ∀ w, 0 ≤ w → w ≤ al N → FBK (rdk b F t μ) t N μ w := h.2.2.2.2
theorem OCK.mk {b F t N : Int} {μ : am_M} (o7 : μ 60 7 = t) (o8 : μ 60 8 = N) (sd : STD b F t N μ μ) (bh : BHK b F t N (N + 1) μ μ) (fb : ∀ w, 0 ≤ w → w ≤ al N → FBK (rdk b F t μ) t N μ w) : OCK b F t N μ := ⟨o7, o8, sd, bh, fb⟩
theorem OCK.cong {b F t N : Int} {μ μ' : am_M} (h : OCK b F t N μ) (f : TF b μ μ') (g : ∀ c i, (c = 60 ∧ (i = 7 ∨ i = 8)) ∨ c = 61 ∨ c = 62 ∨ c = 65 ∨ c = 66 → μ' c i = μ c i) : OCK b F t N μ' := (OCK.mk (o7 := by rw [g _ _ (by omega)]; exact h.o7) (o8 := by rw [g _ _ (by omega)]; exact h.o8) (sd := fun k s p q r u => by rw [g _ _ (by omega), RR_tf f]; exact h.sd k s p q r u) (bh := fun a p q r j j0 j1 => by rw [g _ _ (by omega), rdk_tf f]; exact h.bh a p q r j j0 j1) (fb := fun w p q => by
    have z := h.fb w p q
    have e66 : μ' 66 = μ 66 := funext fun i => g _ _ (by omega)
    have e65 : μ' 65 = μ 65 := funext fun i => g _ _ (by omega)
    unfold FBK at z ⊢
    rw [rdk_tf f, e66, e65]
    exact z))
def OCH (b B : Int) (μ ν : am_M) : Prop := μ 60 9 = -1 ∨ (0 ≤ μ 60 9 ∧ μ 60 9 < B ∧ OCK b (ν 1017 (μ 60 9)) (ν 1019 (μ 60 9)) (ν 1018 (μ 60 9) - ν 1019 (μ 60 9) - 1) μ)
theorem OCH.cong {b B : Int} {μ ν μ' ν' : am_M} (h : OCH b B μ ν) (f : TF b μ μ') (g : TG ν ν') (k : ∀ c i, (c = 60 ∧ 7 ≤ i ∧ i ≤ 9) ∨ c = 61 ∨ c = 62 ∨ c = 65 ∨ c = 66 → μ' c i = μ c i) : OCH b B μ' ν' := by
  unfold OCH
  rw [k 60 9 (by omega), g 1017 (by omega), g 1018 (by omega), g 1019 (by omega)]
  rcases h with z | ⟨z1, z2, z3⟩
  · exact Or.inl z
  · exact Or.inr ⟨z1, z2, z3.cong f (fun c i p => k c i (by omega))⟩
theorem prep_s {b B W n v : Int} {Wn : Int → Int} {μ ν : am_M} (h : TB b B W n Wn μ ν) (hc : OCH b B μ ν) : ∃ e μ', Or_prepare b v μ = some (e, μ') ∧ (∀ c i, c < 60 ∨ 66 < c → μ' c i = μ c i) ∧ OCH b B μ' ν ∧ ((e = 0 ∧ (¬ (0 ≤ v ∧ v < B) ∨ (0 ≤ v ∧ v < B) ∧ M_isPlain v ν = some (0, ν))) ∨ (e = 1 ∧ (0 ≤ v ∧ v < B) ∧ M_isPlain v ν = some (1, ν) ∧ PL b (ν 1017 v) (ν 1017 v + ν 1018 v) (ν 1019 v) (ν 1018 v - ν 1019 v - 1) μ ν ∧ ν 1020 v = ν 1018 v - 1 ∧ OCK b (ν 1017 v) (ν 1019 v) (ν 1018 v - ν 1019 v - 1) μ')) := by
  have hFU := am_FU_ge
  have hbo := h.bo
  have hb' : b = 100 ∨ b = 200 := hbo
  have hB := h.cB
  unfold Or_prepare
  rw [q_gd_s (bO0 hbo), has_s hbo hB.1, q_bd_s]
  by_cases c : 0 ≤ v ∧ v < B
  rotate_left
  · rw [if_pos (if_neg c)]; exact ⟨0, μ, rfl, fun _ _ _ => rfl, hc, Or.inl ⟨rfl, Or.inl c⟩⟩
  have hz : (if 0 ≤ v ∧ v < B then (1 : Int) else 0) = 1 := if_pos c
  obtain ⟨e, a1, a2, a3⟩ := isPlain_s h c
  rw [hz, if_neg (show ¬ (1 : Int) = 0 by decide), a1, q_bd_s]
  rcases a3 with z | ⟨z, pl, a4⟩
  · rw [z] at a2 ⊢
    rw [if_pos rfl]
    exact ⟨0, μ, rfl, fun _ _ _ => rfl, hc, Or.inl ⟨rfl, Or.inr ⟨c, a2⟩⟩⟩
  rw [z] at a2 ⊢
  have bi := BI_of h c
  have kk := bi.kk
  have fn := bi.fn
  have t0 := pl.t0
  have N0 := pl.N0
  have F0 := pl.F0
  have r15 := bi.r15
  have r16 := bi.r16
  have r17 := bi.r17
  generalize hF : ν 1017 v = F at *
  generalize ht : ν 1019 v = t at *
  generalize hm : ν 1018 v = m at *
  generalize hN : m - t - 1 = N at *
  rw [if_neg (show ¬ (1 : Int) = 0 by decide), bat16 hbo, if_pos (by omega), q_bd_s, bat17 hbo, if_pos (by omega), q_bd_s, r16, r17, w32_i (x := m - t) (by omega) (by omega), w32_i (x := m - t - 1) (by omega) (by omega), hN, if_pos (show N ≤ 12 by omega), if_pos (show N ≤ 10 by omega)]
  by_cases c9 : μ 60 9 = v
  · rw [if_pos c9]
    refine ⟨1, μ, rfl, fun _ _ _ => rfl, hc, Or.inr ⟨rfl, c, a2, pl, a4, ?_⟩⟩
    rcases hc with y | ⟨y1, y2, y3⟩
    · omega
    · rw [c9, hF, ht, hm, hN] at y3
      exact y3
  rw [if_neg c9, bat17 hbo, if_pos (by omega), q_bd_s, r17, q_pf_d, q_pf_d]
  generalize hμ1 : m_st (m_st μ 60 7 t) 60 8 N = μ1
  have f1 : ∀ x i, ¬ (x = 60 ∧ (i = 7 ∨ i = 8)) → μ1 x i = μ x i := fun x i p => by rw [← hμ1, m_st_d, if_neg (by omega), m_st_d, if_neg (by omega)]
  have o7 : μ1 60 7 = t := by rw [← hμ1, m_st_d, if_neg (by omega), m_st_d, if_pos ⟨rfl, rfl⟩]
  have o8 : μ1 60 8 = N := by rw [← hμ1, m_st_d, if_pos ⟨rfl, rfl⟩]
  have os1 : OS b F t N μ μ1 := (OS.mk (o7 := o7) (o8 := o8) (tf := fun x p q => funext fun i => f1 x i (by omega)))
  rw [bat15 hbo, if_pos (by omega), q_bd_s, f1 _ _ (by omega), r15, o7, w32_i (x := F + t) (by omega) (by omega)]
  obtain ⟨μ2, b1, b2, b3⟩ := stands_L pl (N + 1).toNat am_FU 0 μ1 (by omega) (by omega) (by omega) os1 (fun j s p q => by omega)
  have os2 : OS b F t N μ μ2 := os1.cong hbo (fun x i p => b3 x i (by omega))
  obtain ⟨μ3, d1, d2, d3, d4⟩ := findR_s pl os2 b2
  have os3 : OS b F t N μ μ3 := os2.cong hbo (fun x i p => d4 x i (by omega) (by omega))
  obtain ⟨μ4, g1, g2, g3⟩ := best_o pl os3 d2 d3
  have eq1 : Or_countStands (b + 1) (F + t) μ1 = some (0, μ2) := by unfold Or_countStands; exact b1
  rw [eq1, q_bd_s, d1, q_bd_s, g1, q_bd_s, q_pf_d]
  generalize hμ5 : m_st μ4 60 9 v = μ5
  have f5 : ∀ x i, ¬ (x = 60 ∧ i = 9) → μ5 x i = μ4 x i := fun x i p => by rw [← hμ5, m_st_d, if_neg (by omega)]
  have v5 : μ5 60 9 = v := by rw [← hμ5, m_st_d, if_pos ⟨rfl, rfl⟩]
  have fr : ∀ x i, x < 60 ∨ 66 < x → μ5 x i = μ x i := fun x i p => by rw [f5 x i (by omega), g3 x i (by omega) (by omega), d4 x i (by omega) (by omega), b3 x i (by omega), f1 x i (by omega)]
  have tf : TF b μ μ5 := fun x p q => funext fun i => fr x i (by omega)
  have oc : OCK b F t N μ5 := (OCK.mk (o7 := by rw [f5 _ _ (by omega), g3 _ _ (by omega) (by omega)]; exact os3.o7) (o8 := by rw [f5 _ _ (by omega), g3 _ _ (by omega) (by omega)]; exact os3.o8) (sd := fun k s p q r u => by rw [f5 _ _ (by omega), g3 _ _ (by omega) (by omega), d4 _ _ (by omega) (by omega), RR_tf tf]; exact b2 k s p q r u) (bh := fun a p q r j j0 j1 => by rw [f5 _ _ (by omega), g3 _ _ (by omega) (by omega), rdk_tf tf]; exact d3 a p q r j j0 j1) (fb := fun w p q => by
      have y := g2 w p q
      have e66 : μ5 66 = μ4 66 := funext fun i => f5 _ _ (by omega)
      have e65 : μ5 65 = μ4 65 := funext fun i => f5 _ _ (by omega)
      unfold FBK at y ⊢
      rw [rdk_tf tf, e66, e65]
      exact y))
  refine ⟨1, μ5, rfl, fr, Or.inr ?_, Or.inr ⟨rfl, c, a2, pl, a4, oc⟩⟩
  rw [v5, hF, ht, hm, hN]
  exact ⟨c.1, c.2, oc⟩
