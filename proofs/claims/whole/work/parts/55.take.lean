/-! take. -/
theorem M_readsTake_L {ν : am_M} {B' S ln : Int} (hB : 3 ≤ B') (hB8 : B' < 8) (hS : ν 1020 B' = S) (h1 : S ≤ 10) : ∀ (k f : Nat) (i : Int), 0 ≤ i → (i + k : Int) = S → k < f → M_readsTake_L72 f B' ln i ν = (if fnd (ν 1021) (ν 1000 7) k i = -1 then M_readsTake_L72_b (M_readsTake_L72 (f - k - 1)) B' ln S ν else q_bd (M_fails 3 ν) fun a18 μ19 => q_rb a18 (some (a18, μ19)))
  | k, 0, _, _, _, h => by omega
  | 0, f + 1, i, h0, h2, _ => by
    have e : M_readsTake_L72 (f + 1) B' ln i ν = M_readsTake_L72_b (M_readsTake_L72 f) B' ln i ν := rfl
    have e2 : i = S := by omega
    rw [e, e2, if_pos (by rfl)]
    rfl
  | k + 1, f + 1, i, h0, h2, h3 => by
    have e : M_readsTake_L72 (f + 1) B' ln i ν = M_readsTake_L72_b (M_readsTake_L72 f) B' ln i ν := rfl
    have ih := M_readsTake_L (ln := ln) hB hB8 hS h1 k f (i + 1) (by omega) (by omega) (by omega)
    have ef : f + 1 - (k + 1) - 1 = f - k - 1 := by omega
    rw [e, ef]
    have u : M_readsTake_L72_b (M_readsTake_L72 f) B' ln i ν = (q_ld 10 1021 i ν fun a17 => if (lCmp a17 (ν 1000 7)) = 0 then (q_bd (M_fails 3 ν) fun a18 μ19 => q_rb a18 (some (a18, μ19))) else (M_readsTake_L72 f B' ln (w32 (i + 1)) ν)) := by
      unfold M_readsTake_L72_b
      rw [q_ld_s (by omega) hB8, hS, if_pos (by omega)]
    rw [u, q_ld_s h0 (by omega), w32_i (x := i + 1) (by omega) (by omega), ih]
    have eu : fnd (ν 1021) (ν 1000 7) (k + 1) i = if ν 1021 i = ν 1000 7 then i else fnd (ν 1021) (ν 1000 7) k (i + 1) := rfl
    rw [eu]
    by_cases q : ν 1021 i = ν 1000 7
    · rw [if_pos (lCmp_0.mpr q), if_pos q, if_neg (by omega)]
    · rw [if_neg (fun z => q (lCmp_0.mp z)), if_neg q]
theorem line_endG {b B W l p : Int} {P : am_M → am_M → Prop} {μ ν μ1 ν1 : am_M} (hb : bOk b) (ln1 : LN b B W l p μ1 ν1) (hA : FA b μ μ1) (hN : FN ν ν1)
    (H : ∀ μ2 ν2, LN b B W l p μ2 ν2 → (∀ c i, c ≠ 10 → μ2 c i = μ1 c i) → (∀ c i, ¬ (c = 1000 ∧ 4 ≤ i ∧ i ≤ 8) → ν2 c i = ν1 c i) → P μ2 ν2) : LOG b μ ν P (some (1, μ1)) (q_bd (M_ends ν1) fun a7 μ8 => if a7 = 0 then (some (0, μ8)) else (some (1, μ8))) := by
  obtain ⟨r2, μ3, ν3, c1, c2, c3⟩ := ends_s ln1.tr ln1.rd.rf
  rw [c2, q_bd_s]
  refine ⟨1, μ1, rfl, Or.inr ⟨rfl, r2, μ3, ν3, c1, ?_, ?_⟩⟩
  · rcases c3 with ⟨d1, -⟩ | ⟨d1, -⟩ <;> (subst d1; rfl)
  · rcases c3 with ⟨d1, d2, d3, d4⟩ | ⟨d1, d2, d3, d4, d5⟩
    · exact Or.inl ⟨d1, d2, hA.tr (FA_f d3), hN.tr (FN_f d4)⟩
    · exact Or.inr ⟨d1, H μ3 ν3 (LN_adv hb ln1 d2 d3 d4 d5) d3 d4⟩
/-- a line that takes: what comes behind take -/
theorem take_s {b B W l p q T : Int} {Wn : Int → Int} {μ ν : am_M} (hb : bOk b) (h : LB b B W l p 0 μ ν) (hk : μ 20 11 = B - 1) (hB4 : B ≤ 4) (hT1 : μ (b + 17) (B - 1) = T) (hT2 : ν 1019 (3 + B) = T) (hT : 0 ≤ T ∧ T ≤ 3) (hS : μ 20 6 = T) (hq : ν 1000 30 = q) :
    LOG b μ ν (fun μ2 ν2 => LZ b B W l p q T Wn (m_st μ (b + 17) (B - 1) (T + 1)) (m_st ν 1019 (3 + B) (T + 1)) μ2 ν2 ∧ μ2 20 6 = T + 1 ∧ ν2 1003 (60 + l) = T) (q_bd (Rd_isUntaken μ) fun a4 μ5 => if a4 = 0 then (some (0, μ5)) else (q_bd (Rd_readSlip 1 μ5) fun a6 μ7 => if a6 = 0 then (some (0, μ7)) else (q_bd (Rd_readKind μ7) fun a8 μ9 => if a8 = 0 then (some (0, μ9)) else (some (1, μ9)))))
      (q_bd (M_isKept ν) fun a5 μ6 => if a5 = 0 then (q_bd (M_wallOf μ6) fun a7 μ8 => if a7 < 0 then (M_readsTake_L72 am_FU (3 + B) (60 + l) 0 μ8) else (q_bd (M_fails 3 μ8) fun a9 μ10 => q_rb a9 (some (a9, μ10)))) else (q_bd (M_fails 1 μ6) fun a11 μ12 => q_rb a11 (some (a11, μ12)))) := by
  have hb' : b = 100 ∨ b = 200 := hb
  have hl := h.ln.l0
  have hpc := h.pc
  have hB1 := h.ln.B1
  have hcB := h.ln.cB
  have hW := h.ln.nw.w0
  have hsc := h.ln.sl.sc
  rw [hcB] at hsc
  -- the class's counting
  have kf : ∀ c i, ¬ (c = b + 17 ∧ i = B - 1) → m_st μ (b + 17) (B - 1) (T + 1) c i = μ c i := fun c i z => by rw [m_st_d, if_neg z]
  have e39 : Rd_isUntaken_B39 μ = some (1, m_st μ (b + 17) (B - 1) (T + 1)) := by
    unfold Rd_isUntaken_B39
    rw [h.ln.rd.rb, q_gd_s (bO0 hb), hk, bat17 hb, if_pos (by omega), q_bd_s, hT1, bput17 hb, if_pos (by omega), q_bd_s, w32_i (x := T + 1) (by omega) (by omega)]
  have lna : LN b B W l p (m_st μ (b + 17) (B - 1) (T + 1)) ν := by
    have h1 := h.ln
    exact (LN.mk (tr := h1.tr.cong (fun c i z => kf c i (by omega)) (fun _ _ _ => rfl)) (rd := h1.rd.cong (fun i z => kf _ _ (by omega))) (nw := h1.nw.cong (fun c i z => kf c i (by omega)) (fun _ _ _ => rfl)) (sl := h1.sl.cong (fun c i z => kf c i (by omega)) (fun _ _ _ => rfl)) (cB := h1.cB) (cW := h1.cW) (B1 := h1.B1) (cnt := by rw [kf _ _ (by omega)]; exact h1.cnt) (reg := by rw [kf _ _ (by omega)]; exact h1.reg) (l0 := h1.l0) (st := by rw [kf _ _ (by omega)]; exact h1.st) (sp := by rw [kf _ _ (by omega), kf _ _ (by omega)]; exact h1.sp) (p0 := by rw [kf _ _ (by omega)]; exact h1.p0) (cap := by rw [kf _ _ (by omega), kf _ _ (by omega)]; exact h1.cap) (q0 := h1.q0) (caq := by rw [kf _ _ (by omega)]; exact h1.caq))
  have hqq := h.ln.q0
  have faa : FA b μ (m_st μ (b + 17) (B - 1) (T + 1)) := fun c i z => kf c i (by omega)
  rw [isKp h.ln.tr, q_bd_s]
  unfold Rd_isUntaken
  by_cases c2 : μ 10 5 = 2
  rotate_left
  · rw [if_neg c2, if_neg c2, if_neg (by decide), e39, q_bd_s, if_neg (by decide)]
    obtain ⟨x1, x2, x3⟩ := fail_s (k := 1) lna.tr lna.rd.rf (by decide)
    unfold Rd_readSlip
    rw [if_neg (by rw [kf _ _ (by omega)]; exact c2), x1, x2, q_bd_s, q_bd_s, q_rb0, q_rb0, q_bd_s, if_pos rfl]
    exact ⟨0, _, rfl, Or.inl ⟨rfl, _, rfl, x3, faa.tr FA_fail, FN_fail⟩⟩
  rw [if_pos c2, if_pos c2, if_pos rfl]
  have hk1 := (tkN h.ln.tr).2.2 c2
  have hwf := wf_s hb h.ln.tr h.ln.nw hk1
  have hsf := sf_s (b := b) h.ln.tr h.ln.sl hk1
  have hwr : wf ν = -1 ∨ (0 ≤ wf ν ∧ wf ν < ν 1013 3) := by
    unfold wf
    rcases fnd_b (ν 1014) (ν 1000 7) (ν 1013 3).toNat 0 (Int.le_refl _) with z | ⟨z1, z2, -⟩
    · exact Or.inl z
    · right; omega
  rw [hwf.2, q_bd_s, hsf, q_bd_s]
  obtain ⟨x1, x2, x3⟩ := fail_s (k := 3) h.ln.tr h.ln.rd.rf (by decide)
  by_cases c3 : wf ν = -1
  rotate_left
  · rw [if_neg (show ¬ wf ν < 0 by omega), x2, q_bd_s, q_rb0]
    by_cases c4 : sf ν = -1
    · -- the wall is met by readSlip
      rw [if_pos c4, e39, q_bd_s, if_neg (by decide)]
      have hk2 := hk1
      obtain ⟨r, μ1, s, ν1, a1, a2, a3, a4, a5⟩ := slip_read (pt := 1) hb (Or.inr (Or.inl rfl)) lna
      have a2' := a2
      unfold M_needsSlip at a2'
      rw [isKp h.ln.tr, q_bd_s, if_pos c2, if_pos rfl, hwf.2, q_bd_s, if_neg (show ¬ wf ν < 0 by omega), x2, q_bd_s, if_pos rfl] at a2'
      have a6 := Prod.mk.inj (Option.some.inj a2')
      rcases a5 with ⟨b1, b2, b3⟩ | ⟨b1, b2, -⟩
      · rw [a1, q_bd_s, if_pos b1]
        exact ⟨0, μ1, rfl, Or.inl ⟨rfl, _, rfl, by rw [a6.2]; exact b3, faa.tr (FL1.fa (l := l) (p := p) a3.one), FN_fail⟩⟩
      · omega
    · rw [if_neg c4, x1, q_bd_s, q_rb0, q_bd_s, if_pos rfl]
      exact ⟨0, _, rfl, Or.inl ⟨rfl, _, rfl, x3, FA_fail, FN_fail⟩⟩
  rw [if_pos (show wf ν < 0 by omega)]
  have e3 : sf ν = fnd (ν 1021) (ν 1000 7) T.toNat 0 := by unfold sf; rw [hcB, hsc, hS]
  rw [M_readsTake_L (B' := 3 + B) (S := T) (ln := 60 + l) (by omega) (by omega) (by rw [hsc, hS]) (by omega) T.toNat am_FU 0 (Int.le_refl _) (by omega) (by have := am_FU_ge; omega), ← e3]
  by_cases c4 : sf ν = -1
  rotate_left
  · rw [if_neg c4, if_neg c4, x1, x2, q_bd_s, q_bd_s, q_rb0, q_rb0, q_bd_s, if_pos rfl]
    exact ⟨0, _, rfl, Or.inl ⟨rfl, _, rfl, x3, FA_fail, FN_fail⟩⟩
  rw [if_pos c4, if_pos c4, e39, q_bd_s, if_neg (by decide)]
  unfold M_readsTake_L72_b
  rw [q_ld_s (by omega) (by omega), hsc, hS, if_neg (by omega)]
  obtain ⟨r3, μ3, s1, ν3, g1, g2, g3, g4, g5⟩ := slip_read (pt := 1) hb (Or.inr (Or.inl rfl)) lna
  rw [g1, g2, q_bd_s, q_bd_s, q_st_s (by omega) (by omega)]
  have e8 : m_st ν3 1003 (60 + l) s1 1003 (60 + l) = s1 := by rw [m_st_d, if_pos ⟨rfl, rfl⟩]
  have e9 : ∀ c i, ¬ (c = 1003 ∧ i = 60 + l) → m_st ν3 1003 (60 + l) s1 c i = ν3 c i := fun c i z => by rw [m_st_d, if_neg z]
  rcases g5 with ⟨i1, i2, i3⟩ | ⟨i1, i2, i3, i4, i5, i6, -, i7, -, i8, -, -, i9, -⟩
  · -- an eleventh slip is not possible here
    exfalso
    obtain ⟨s, μs, νs, s1', s2', -, -, -, -, s7, s8, -⟩ := slip_s h.ln.tr h.ln.nw h.ln.sl hk1 (by omega)
    have a2' := g2
    unfold M_needsSlip at a2'
    rw [isKp h.ln.tr, q_bd_s, if_pos c2, if_pos rfl, hwf.2, q_bd_s, if_pos (show wf ν < 0 by omega), s2', q_bd_s] at a2'
    have hs : s ≠ -1 := by
      intro z
      have e2 : ∃ f, M_slipOf ν = (if fnd (ν 1021) (ν 1000 7) (μ 20 6).toNat 0 = -1 then M_slipOf_L11_b (M_slipOf_L11 f) (3 + ν 1013 4) (μ 20 6) ν else some (fnd (ν 1021) (ν 1000 7) (μ 20 6).toNat 0, ν)) := by
        refine ⟨am_FU - (μ 20 6).toNat - 1, ?_⟩
        unfold M_slipOf
        rw [q_ld_s (by decide) (by decide), w32_i (by omega) (by omega)]
        exact M_slipOf_L (B := 3 + ν 1013 4) (S := μ 20 6) (by omega) (by omega) h.ln.sl.sc (by omega) (μ 20 6).toNat am_FU 0 (Int.le_refl _) (by omega) (by have := am_FU_ge; omega)
      obtain ⟨fu, e2⟩ := e2
      rw [s2', hS, ← e3, if_pos c4] at e2
      unfold M_slipOf_L11_b at e2
      rw [q_ld_s (by omega) (by omega), hcB, hsc, hS, if_neg (by omega), q_ld_s (by omega) (by omega), hsc, hS, if_neg (by omega), q_ld_s (by omega) (by omega), hsc, hS, q_st_s (by omega) (by omega)] at e2
      have f1 : ∀ i, m_st ν 1021 T (ν 1000 7) 1020 i = ν 1020 i := fun i => m_st_c (by decide)
      rw [q_ld_s (by omega) (by omega), f1, hsc, hS, q_st_s (by omega) (by omega), w32_i (by omega) (by omega), q_ld_s (by omega) (by omega)] at e2
      have f2 : ∀ v, m_st (m_st ν 1021 T (ν 1000 7)) 1020 (3 + B) v 1020 (3 + B) = v := fun v => by rw [m_st_d, if_pos ⟨rfl, rfl⟩]
      rw [f2, w32_i (by omega) (by omega)] at e2
      have := (Prod.mk.inj (Option.some.inj e2)).1
      omega
    rcases s7 with z | ⟨z, -, -⟩
    · exact hs z
    · rw [if_neg (by omega)] at a2'
      cases hA : M_nextToken νs with
      | none => rw [hA] at a2'; exact absurd a2' (by intro y; cases y)
      | some x =>
        obtain ⟨xa, xb⟩ := x
        rw [hA, q_bd_s] at a2'
        have := (Prod.mk.inj (Option.some.inj a2')).1
        omega
  subst i1
  rw [if_neg (by decide)]
  have k3 := i7 rfl
  have es := i9 c4
  rw [kf 20 6 (by omega), hS] at es
  have ln3 := LN_set (c := 1003) (i := 60 + l) (v := s1) i5 (by decide)
  generalize hν4 : m_st ν3 1003 (60 + l) s1 = ν4 at *
  rw [kindAt_s ln3.tr, q_bd_s, q_st_s (by omega) (by omega), q_ld_s (by omega) (by omega)]
  obtain ⟨j1, j2, j3⟩ := readKind_s hb ln3
  have e5 : ∀ v, m_st ν4 1005 (60 + l) v 1005 (60 + l) = v := fun v => by rw [m_st_d, if_pos ⟨rfl, rfl⟩]
  rw [e5]
  have go : ∀ x y : Int, (x = 1 ∧ y = 1) ∨ (x = 0 ∧ y = 2) → ν4 1000 6 ≠ 0 → LOG b μ ν (fun μ2 ν2 => LZ b B W l p q T Wn (m_st μ (b + 17) (B - 1) (T + 1)) (m_st ν 1019 (3 + B) (T + 1)) μ2 ν2 ∧ μ2 20 6 = T + 1 ∧ ν2 1003 (60 + l) = T) (q_bd (q_bd (Tp_advance (m_st μ3 (b + 5) l x)) fun _ z => some (1, z)) fun a8 μ9 => if a8 = 0 then (some (0, μ9)) else (some (1, μ9))) (q_ld 8 1019 (3 + B) (m_st ν4 1005 (60 + l) y) fun a9 => q_st 8 1019 (3 + B) (w32 (a9 + 1)) (m_st ν4 1005 (60 + l) y) fun μ10 => q_bd (M_nextToken μ10) fun a11 μ12 => q_bd (M_ends μ12) fun a13 μ14 => q_rb a13 (some (a13, μ14))) := by
    intro x y hxy ht
    have et : m_st ν4 1005 (60 + l) y 1019 (3 + B) = T := by rw [m_st_c (by decide), ← hν4, m_st_c (by decide), g4 _ _ (by omega)]; exact hT2
    rw [q_ld_s (by omega) (by omega), et, w32_i (x := T + 1) (by omega) (by omega), q_st_s (by omega) (by omega)]
    have ln4 := LN_set (c := 1005) (i := 60 + l) (v := y) ln3 (by decide)
    have ln5 : LN b B W l p μ3 (m_st (m_st ν4 1005 (60 + l) y) 1019 (3 + B) (T + 1)) := by
      have g : ∀ c i, ¬ (c = 1019 ∧ i = 3 + B) → m_st (m_st ν4 1005 (60 + l) y) 1019 (3 + B) (T + 1) c i = m_st ν4 1005 (60 + l) y c i := fun c i z => by rw [m_st_d, if_neg z]
      exact (LN.mk (tr := ln4.tr.cong (fun _ _ _ => rfl) (fun c i z => g c i (by omega))) (rd := ln4.rd) (nw := ln4.nw.cong (fun _ _ _ => rfl) (fun c i z => g c i (by omega))) (sl := ln4.sl.cong (fun _ _ _ => rfl) (fun c i z => g c i (by omega))) (cB := by rw [g _ _ (by omega)]; exact ln4.cB) (cW := by rw [g _ _ (by omega)]; exact ln4.cW) (B1 := ln4.B1) (cnt := ln4.cnt) (reg := ln4.reg) (l0 := ln4.l0) (st := ln4.st) (sp := ln4.sp) (p0 := ln4.p0) (cap := ln4.cap) (q0 := by rw [g _ _ (by omega)]; exact ln4.q0) (caq := by rw [g _ _ (by omega)]; exact ln4.caq))
    have ef : ∀ c i, ¬ (c = 1005 ∧ i = 60 + l) → ¬ (c = 1019 ∧ i = 3 + B) → m_st (m_st ν4 1005 (60 + l) y) 1019 (3 + B) (T + 1) c i = ν4 c i := fun c i z w => by rw [m_st_d, if_neg w, m_st_d, if_neg z]
    have ey : m_st (m_st ν4 1005 (60 + l) y) 1019 (3 + B) (T + 1) 1005 (60 + l) = y := by rw [m_st_c (by decide)]; exact e5 y
    have et2 : m_st (m_st ν4 1005 (60 + l) y) 1019 (3 + B) (T + 1) 1019 (3 + B) = T + 1 := by rw [m_st_d, if_pos ⟨rfl, rfl⟩]
    have kf5 : ∀ c i, ¬ (c = b + 5 ∧ i = l) → m_st μ3 (b + 5) l x c i = μ3 c i := fun c i z => by rw [m_st_d, if_neg z]
    have kx : m_st μ3 (b + 5) l x (b + 5) l = x := by rw [m_st_d, if_pos ⟨rfl, rfl⟩]
    have f1d : FL1 b l p (m_st μ (b + 17) (B - 1) (T + 1)) (m_st μ3 (b + 5) l x) := g3.one.tr (fun c i z => kf5 c i (by omega))
    have f2d : FL2 B l q (m_st ν 1019 (3 + B) (T + 1)) (m_st (m_st ν4 1005 (60 + l) y) 1019 (3 + B) (T + 1)) := by
      intro c i z
      by_cases w : c = 1019 ∧ i = 3 + B
      · rw [m_st_d, if_pos w, m_st_d, if_pos w]
      · rw [ef c i (by omega) w, m_st_d, if_neg w, e9 c i (by omega), g4 c i (by omega)]
    generalize m_st (m_st ν4 1005 (60 + l) y) 1019 (3 + B) (T + 1) = ν5 at *
    generalize m_st μ3 (b + 5) l x = μ5 at *
    obtain ⟨μ', ν', a1, a2, a3, a4, a5, a6⟩ := LN_next (μ2 := μ5) (ν2 := ν5) hb ln5 (by rw [ef _ _ (by omega) (by omega)]; exact ht) (ln5.sl.cong (fun c i z => kf5 _ _ (by omega)) (fun _ _ _ => rfl)) (fun c i z => kf5 _ _ (by omega)) (fun _ _ _ => rfl) (by rw [kf5 _ _ (by omega), kf5 _ _ (by omega)]; exact ln5.sp) (by rw [kf5 _ _ (by omega)]; omega)
    rw [a1, a2, q_bd_s, q_bd_s, q_bd_s, if_neg (by decide), ends_rb a3.tr a3.rd.rf]
    have r0 : ∀ c i, b + 1 ≤ c → c ≤ b + 11 → ¬ (c = b + 3 ∧ i = l) → ¬ (c = b + 5 ∧ i = l) → μ' c i = μ c i := fun c i u v w z => by rw [a4 _ _ (by omega), kf5 _ _ z, g3.row hb ⟨u, v⟩ (fun q => by omega) (fun _ => w) (fun q => by omega), kf _ _ (by omega)]
    have n0 : ∀ c i, c ≠ 1000 → ¬ (c = 1005 ∧ i = 60 + l) → ¬ (c = 1003 ∧ i = 60 + l) → c < 1019 → ν' c i = ν c i := fun c i u v w z => by rw [a5 _ _ (by omega), ef _ _ v (by omega), e9 _ _ w, g4 _ _ (by omega)]
    have e6 : μ' 20 6 = T + 1 := by rw [a4 _ _ (by decide), kf5 _ _ (by omega)]; exact es.2
    have e3' : ν' 1003 (60 + l) = T := by rw [a5 _ _ (by omega), ef _ _ (by omega) (by omega)]; rw [e8]; exact es.1
    have hn0 : nS 0 0 = 0 := rfl
    have e30 : ν' 1000 30 = ν 1000 30 := by rw [a5 _ _ (by omega), ef _ _ (by omega) (by omega), e9 _ _ (by omega), g4 _ _ (by omega)]
    have hs0 := a3.sl.s0
    have fna : FN ν (m_st ν 1019 (3 + B) (T + 1)) := fun c i z => by rw [m_st_d, if_neg (by omega)]
    refine line_endG hb a3 (faa.tr (f1d.tr (FL1_10 a4)).fa) (fna.tr ((f2d.tr (FL2_t a5)).fn (by omega) (by omega) hB1)) (fun μ6 ν6 ln6 q1 q2 => ?_)
    have o6 : μ6 20 6 = μ' 20 6 := q1 _ _ (by decide)
    have m2 : ν6 1002 (60 + l) = 0 := by rw [q2 _ _ (by omega), n0 _ _ (by omega) (by omega) (by omega) (by omega)]; exact h.m2
    have m3 : ν6 1003 (60 + l) = T := by rw [q2 _ _ (by omega)]; exact e3'
    have eS : m_st μ (b + 17) (B - 1) (T + 1) 20 6 = T := by rw [kf _ _ (by omega)]; exact hS
    refine ⟨⟨(f1d.tr (FL1_10 a4)).tr (FL1_10 q1), (f2d.tr (FL2_t a5)).tr (FL2_t q2), ln6, ⟨by rw [q2 _ _ (by omega), n0 _ _ (by omega) (by omega) (by omega) (by omega), h.m10]; exact hq, by rw [q2 _ _ (by omega), q2 _ _ (by omega), n0 _ _ (by omega) (by omega) (by omega) (by omega), h.m11, e30]⟩, 0, LR_ne (k0 := 0) (t := 0) (s1 := T) (s2 := -1) (cl := -1) (kp := y) hb h ln6 (by unfold hE; omega) (by decide) (by omega) (by rw [q1 _ _ (by omega), r0 _ _ (by omega) (by omega) (by omega) (by omega)]; exact h.k2) (by rw [q1 _ _ (by omega), a4 _ _ (by omega), kf5 _ _ (by omega), k3]; exact es.1) (by rw [q1 _ _ (by omega), r0 _ _ (by omega) (by omega) (by omega) (by omega)]; exact h.k4) (by rw [q1 _ _ (by omega), a4 _ _ (by omega), kx]; rcases hxy with ⟨u, v⟩ | ⟨u, v⟩ <;> (subst u; subst v; rfl)) (by rw [q1 _ _ (by omega), r0 _ _ (by omega) (by omega) (by omega) (by omega)]; exact h.k6) m2 m3 (by rw [q2 _ _ (by omega), n0 _ _ (by omega) (by omega) (by omega) (by omega)]; exact h.m4) (by rw [q2 _ _ (by omega), a5 _ _ (by omega)]; exact ey) (by rw [q2 _ _ (by omega), n0 _ _ (by omega) (by omega) (by omega) (by omega)]; exact h.m6) (by rw [q2 _ _ (by omega), n0 _ _ (by omega) (by omega) (by omega) (by omega)]; exact h.m10) (by rw [q2 _ _ (by omega), n0 _ _ (by omega) (by omega) (by omega) (by omega)]; exact h.m11) (by omega) (by omega) (by omega) (by decide) (by omega) (by omega) (by omega) (by omega) (by rw [q1 _ _ (by omega), r0 _ _ (by omega) (by omega) (by omega) (by omega), hn0, hpc]; omega) (fun i u v => by omega) (fun i u v => by rw [q2 _ _ (by omega), n0 _ _ (by omega) (by omega) (by omega) (by omega)]; exact h.m7 i (by omega) v), (LQ.mk (cl := fun z => by omega) (la := fun _ => by rw [m3]; exact Int.le_refl _) (ns := fun _ n u v => by rw [m3]; left; omega) (ss := by omega) (n0 := fun _ n u v => by rw [m3]; omega))⟩, by omega, m3⟩
  have tk := (tkN ln3.tr).2.1
  by_cases c5 : μ3 10 5 = 111
  · rw [if_pos c5, if_neg (by decide), j1 c5]
    exact go 1 1 (Or.inl ⟨rfl, rfl⟩) (fun z => by have := tk.mp z; omega)
  rw [if_neg c5]
  by_cases c6 : μ3 10 5 = 112
  · rw [if_pos c6, if_neg (by decide), j2 c6]
    exact go 0 2 (Or.inr ⟨rfl, rfl⟩) (fun z => by have := tk.mp z; omega)
  rw [if_neg c6, if_pos rfl, j3 c5 c6, q_bd_s, if_pos rfl]
  have ln4 := LN_set (c := 1005) (i := 60 + l) (v := 0) ln3 (by decide)
  have kf5 : ∀ c i, ¬ (c = b + 5 ∧ i = l) → m_st μ3 (b + 5) l 0 c i = μ3 c i := fun c i z => by rw [m_st_d, if_neg z]
  have tr5 : TR (m_st μ3 (b + 5) l 0) (m_st ν4 1005 (60 + l) 0) := ln4.tr.cong (fun c i z => kf5 _ _ (by omega)) (fun _ _ _ => rfl)
  obtain ⟨z1, z2, z3⟩ := fail_s (k := 1) tr5 (by rw [kf5 _ _ (by omega)]; exact ln3.rd.rf) (by decide)
  rw [kf5 10 3 (by omega)] at z2 z3
  rw [z2, q_bd_s, q_rb0]
  have fb : FL1 b l p (m_st μ (b + 17) (B - 1) (T + 1)) (m_st μ3 (b + 5) l 0) := g3.one.tr (fun c i z => kf5 c i (by omega))
  have fn1 : FN ν (m_st ν4 1005 (60 + l) 0) := fun c i z => by rw [m_st_d, if_neg (by omega), ← hν4, m_st_d, if_neg (by omega), g4 c i (by omega)]
  exact ⟨0, _, rfl, Or.inl ⟨rfl, _, rfl, z3, (faa.tr fb.fa).tr FA_fail, fn1.tr FN_fail⟩⟩
