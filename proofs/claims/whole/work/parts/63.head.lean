/-! Heads: a wall, a bill. -/
theorem newName_s {b : Int} {μ ν : am_M} (hb : bOk b) (h : TR μ ν) (hr : RD b μ) (hn : NW b μ ν) : (μ 10 5 ≠ 2 → Rd_readNewName μ = some (0, m_st μ 20 10 (1 + 16 * μ 10 3))) ∧ (μ 10 5 = 2 → (wf ν ≠ -1 ∨ bf ν ≠ -1) → Rd_readNewName μ = some (0, m_st μ 20 10 (3 + 16 * μ 10 3))) ∧ (μ 10 5 = 2 → wf ν = -1 → bf ν = -1 → Rd_readNewName μ = q_bd (Tp_advance μ) fun _ x => some (1, x)) := by
  obtain ⟨x1, -, -⟩ := fail_s (k := 1) h hr.rf (by decide)
  obtain ⟨y1, -, -⟩ := fail_s (k := 3) h hr.rf (by decide)
  unfold Rd_readNewName
  refine ⟨fun c => ?_, fun c d => ?_, fun c d e => ?_⟩
  · rw [if_neg c]
    unfold Rd_readNewName_B31 Rd_expect
    rw [if_neg c, x1, q_bd_s, q_rb0, q_bd_s, q_rb0]
  · have hk := (tkN h).2.2 c
    rw [if_pos c, Rd_isWall_s hb h hr hn hk, q_bd_s]
    unfold Rd_readNewName_B25
    by_cases z : wf ν = -1
    · rw [if_pos z, if_pos rfl, Rd_isBill_s hb h hr hn hk, q_bd_s, if_neg (show ¬ bf ν = -1 by omega), if_neg (by decide), y1, q_bd_s, q_rb0]
    · rw [if_neg z, if_neg (by decide), y1, q_bd_s, q_rb0]
  · have hk := (tkN h).2.2 c
    rw [if_pos c, Rd_isWall_s hb h hr hn hk, q_bd_s, if_pos d, if_pos rfl, Rd_isBill_s hb h hr hn hk, q_bd_s, if_pos e, if_pos rfl]
    unfold Rd_readNewName_B31 Rd_expect
    rw [if_pos c]
    cases hA : Tp_advance μ with
    | none => rfl
    | some x =>
      obtain ⟨a, μ2⟩ := x
      rw [q_bd_s, q_bd_s, q_rb1]
theorem ft_r {f : Int → Int} {v : Int} {n : Int} (hn : 0 ≤ n) : fnd f v n.toNat 0 = -1 ∨ (0 ≤ fnd f v n.toNat 0 ∧ fnd f v n.toNat 0 < n) := by
  rcases fnd_b f v n.toNat 0 (Int.le_refl _) with z | ⟨z1, z2, -⟩
  · exact Or.inl z
  · right; omega
/-- a fault told at the token that is looked at -/
theorem RES_f {b : Int} {Q : am_M → am_M → Prop} {X : (am_M → am_O) → am_O} {y : am_O} {μ0 ν0 μ ν : am_M} {k : Int} (h : TR μ ν) (hf : μ 20 10 = 0) (hk : 1 ≤ k ∧ k ≤ 5) (hX : ∀ K, X K = K (m_st μ 20 10 (k + 16 * μ 10 3))) (hy : y = (q_bd (M_fails k ν) fun a x => q_rb a (some (a, x)))) (hA : FA b μ0 μ) (hN : FN ν0 ν) : RES b μ0 ν0 Q X y := by
  obtain ⟨-, x2, x3⟩ := fail_s (k := k) h hf hk
  refine ⟨_, hX, hA.tr FA_fail, _, hN.tr FN_fail, Or.inl ⟨?_, x3⟩⟩
  rw [hy, x2, q_bd_s, q_rb0]
/-- a wall more -/
theorem wall_ps {b W : Int} {Wn : Int → Int} {μ ν μ5 ν4 : am_M} (hb : bOk b) (h : PB b 0 W Wn μ ν) (hcl : ν 1000 43 = 0) (hcn : ν 1013 5 = 0) (hW : 0 ≤ W ∧ W < 4) (tr : TR μ5 ν4) (m : ∀ c i, c ≠ 10 → ¬ ((c = b + 12 ∧ i = W) ∨ (c = b + 13 ∧ i = W) ∨ (c = b ∧ i = 12)) → μ5 c i = μ c i) (n : ∀ c i, ¬ (c = 1000 ∧ 4 ≤ i ∧ i ≤ 8) → ¬ ((c = 1015 ∧ i = 4 + W) ∨ (c = 1013 ∧ i = 3) ∨ (c = 1014 ∧ i = W)) → ν4 c i = ν c i) (v12 : μ5 b 12 = W + 1) (n3 : ν4 1013 3 = W + 1) (hnam : NM (μ5 (b + 12) W) (ν4 1014 W)) (hnum : μ5 (b + 13) W = ν4 1015 (4 + W) ∧ 0 ≤ μ5 (b + 13) W ∧ μ5 (b + 13) W ≤ 9999) (h3 : μ 10 3 ≤ μ5 10 3) : (∃ Wn', PS b 0 (W + 1) Wn' μ5 ν4) ∧ ν4 1013 5 = 0 := by
  have hb' : b = 100 ∨ b = 200 := hb
  have hcB := h.cB
  have hcW := h.cW
  have n5 : ν4 1013 5 = 0 := by rw [n _ _ (by omega) (by omega)]; exact hcn
  have n43 : ν4 1000 43 = 0 := by rw [n _ _ (by omega) (by omega)]; exact hcl
  have n30 : ν4 1000 30 = ν 1000 30 := n _ _ (by omega) (by omega)
  have m11 : μ5 (b + 1) 11 = μ (b + 1) 11 := m _ _ (by omega) (by omega)
  have hcap := h.cap
  have hcaq := h.caq
  refine ⟨⟨fun w => if 0 ≤ w ∧ w ≤ W then ν4 1015 (4 + w) else 0, ?_, fun _ => n5, Or.inl ⟨n43, fun k k0 k1 => by omega⟩⟩, n5⟩
  refine (PB.mk (tr := tr) (rd := (RD.mk (rb := by rw [m _ _ (by omega) (by omega)]; exact h.rd.rb) (rl := by rw [m _ _ (by omega) (by omega)]; exact h.rd.rl) (rf := by rw [m _ _ (by omega) (by omega)]; exact h.rd.rf))) (nw := ?_) (cB := by rw [n _ _ (by omega) (by omega)]; exact hcB) (cW := n3) (cn := by rw [n5, m _ _ (by omega) (by omega), h.cn]; exact hcn) (c6 := by rw [n5]; omega) (p0 := by rw [m11]; exact h.p0) (cap := by rw [m11]; omega) (q0 := by rw [n30]; exact h.q0) (caq := by rw [n30]; omega) (op := by rw [n43, m _ _ (by omega) (by omega), h.op]; exact hcl) (wr := ?_) (wn := fun w x y => by rw [if_pos (by omega)]) (al := fun l x y => by rw [n5] at y; omega))
  · refine (NW.mk (w0 := by rw [n3]; omega) (b0 := by rw [n _ _ (by omega) (by omega)]; exact h.nw.b0) (wc := by rw [n3]; exact v12) (bc := by rw [m _ _ (by omega) (by omega), n _ _ (by omega) (by omega)]; exact h.nw.bc) (wn := fun i p q => ?_) (wv := fun i p q => ?_) (bn := fun i p q => by rw [n _ _ (by omega) (by omega), hcB] at q; omega))
    · rw [n3] at q
      by_cases z : i = W
      · subst z; exact hnam
      · rw [m _ _ (by omega) (by omega), n _ _ (by omega) (by omega)]; exact h.nw.wn i p (by omega)
    · rw [n3] at q
      by_cases z : i = W
      · subst z; exact hnum
      · rw [m _ _ (by omega) (by omega), n _ _ (by omega) (by omega)]; exact h.nw.wv i p (by omega)
  · intro w
    show r32 (if 0 ≤ w ∧ w ≤ W then ν4 1015 (4 + w) else 0)
    by_cases z : 0 ≤ w ∧ w ≤ W
    · rw [if_pos z]
      by_cases y : w = W
      · rw [y]; unfold r32; omega
      · rw [n _ _ (by omega) (by omega)]
        have := h.nw.wv w (by omega) (by omega)
        unfold r32; omega
    · rw [if_neg z]; unfold r32; omega
set_option maxHeartbeats 2000000 in
theorem wall_s {b W : Int} {Wn : Int → Int} {μ ν : am_M} (hb : bOk b) (h : PB b 0 W Wn μ ν) (hcl : ν 1000 43 = 0) (hcn : ν 1013 5 = 0) (hK : μ 10 5 = 109) : RES b μ ν (fun μ' ν' => (∃ Wn', PS b 0 (W + 1) Wn' μ' ν') ∧ ν' 1013 5 = 0) (fun K => q_bd (Rd_readHead μ) fun _ x => K x) (M_readsWall ν) := by
  have hb' : b = 100 ∨ b = 200 := hb
  have hcB := h.cB
  have hcW := h.cW
  have hw0 := h.nw.w0
  have hbc := h.nw.bc
  have hwc := h.nw.wc
  have eH : Rd_readHead μ = Rd_readHead_B53 1 μ := by
    unfold Rd_readHead
    rw [if_pos hK, h.rd.rb, q_gd_s (bO0 hb), if_pos (by omega)]
    unfold Rd_readHead_B27
    rw [if_neg (by decide)]
  unfold M_readsWall
  rw [q_ld_s (by decide) (by decide), hcB, if_pos (by decide), q_ld_s (by decide) (by decide), hcW]
  by_cases c4 : W = 4
  · rw [if_pos c4]
    refine RES_f h.tr h.rd.rf (by decide : (1 : Int) ≤ 5 ∧ (5 : Int) ≤ 5) (fun K => ?_) rfl FA.rf FN.rf
    have hf := (fail_s (k := 5) h.tr h.rd.rf (by decide)).1
    rw [eH]
    unfold Rd_readHead_B53 Rd_readHead_B82
    rw [if_neg (by decide), h.rd.rb, q_gd_s (bO0 hb), if_neg (by omega), hf, q_bd_s, q_bd_s]
  rw [if_neg c4]
  have eH2 : Rd_readHead μ = Rd_readHead_B91 1 μ := by
    rw [eH]
    unfold Rd_readHead_B53
    rw [if_neg (by decide), h.rd.rb, q_gd_s (bO0 hb), if_pos (by omega)]
  obtain ⟨μ1, ν1, a1, a2, a3, a4, a5, a6, a7⟩ := TR_adv h.tr.base
  have hl1 := h.tr.lst (fun z => by have := (tkN h.tr).2.1.mp z; omega)
  have rd1 : RD b μ1 := h.rd.cong (fun i z => a4 _ _ (by omega))
  have nw1 : NW b μ1 ν1 := h.nw.cong (fun c i z => a4 _ _ (by omega)) (fun c i z => a5 _ _ (by omega))
  rw [a2, q_bd_s, isKp a3, q_bd_s]
  have eH3 : ∀ K : am_M → am_O, (q_bd (Rd_readHead μ) fun _ x => K x) = q_bd (q_bd (Rd_readNewName μ1) fun a3 μ4 => if a3 = 0 then (some (0, μ4)) else (q_bd (Rd_endHead 1 (μ1 10 7) μ4) fun a5 μ6 => some (0, μ6))) fun _ x => K x := by
    intro K
    rw [eH2]
    unfold Rd_readHead_B91
    rw [a1, q_bd_s]
  obtain ⟨n1, n2, n3⟩ := newName_s hb a3 rd1 nw1
  by_cases c2 : μ1 10 5 = 2
  rotate_left
  · rw [if_neg c2, if_neg (by decide)]
    refine RES_f a3 rd1.rf (by decide : (1 : Int) ≤ 1 ∧ (1 : Int) ≤ 5) (fun K => ?_) rfl (FA_10 a4) (FN_t a5)
    show (q_bd (Rd_readHead μ) fun _ x => K x) = _
    rw [eH3, n1 c2, q_bd_s, if_pos rfl, q_bd_s]
  have hk := (tkN a3).2.2 c2
  have hwf := wf_s hb a3 nw1 hk
  have ec3 : ν1 1013 3 = W := by rw [a5 _ _ (by omega)]; exact hcW
  have ec4 : ν1 1013 4 = 0 := by rw [a5 _ _ (by omega)]; exact hcB
  have hbf : bf ν1 = -1 := by unfold bf; rw [ec4]; rfl
  have hwr : wf ν1 = -1 ∨ (0 ≤ wf ν1 ∧ wf ν1 < ν1 1013 3) := ft_r (by omega)
  rw [if_pos c2, if_pos rfl, hwf.2, q_bd_s]
  by_cases c3 : wf ν1 = -1
  rotate_left
  · rw [if_neg (show ¬ wf ν1 < 0 by omega)]
    refine RES_f a3 rd1.rf (by decide : (1 : Int) ≤ 3 ∧ (3 : Int) ≤ 5) (fun K => ?_) rfl (FA_10 a4) (FN_t a5)
    show (q_bd (Rd_readHead μ) fun _ x => K x) = _
    rw [eH3, n2 c2 (Or.inl c3), q_bd_s, if_pos rfl, q_bd_s]
  rw [if_pos (show wf ν1 < 0 by omega), q_ld_s (by decide) (by decide), ec3, q_st_s (by omega) (by omega)]
  have hnam := a3.nam hk
  have gA : ∀ c i, ¬ (c = 1014 ∧ i = W) → m_st ν1 1014 W (ν1 1000 7) c i = ν1 c i := fun c i z => by rw [m_st_d, if_neg z]
  have vA : m_st ν1 1014 W (ν1 1000 7) 1014 W = ν1 1000 7 := by rw [m_st_d, if_pos ⟨rfl, rfl⟩]
  generalize m_st ν1 1014 W (ν1 1000 7) = νA at *
  have trA : TR μ1 νA := a3.cong (fun _ _ _ => rfl) (fun c i z => gA c i (by omega))
  have fnA : FN ν νA := (FN_t a5).tr (fun c i z => gA c i (by omega))
  obtain ⟨μ2, ν2, b1, b2, b3, b4, b5, b6, b7⟩ := TR_adv trA.base
  have rf2 : μ2 20 10 = 0 := by rw [b4 _ _ (by decide)]; exact rd1.rf
  rw [b2, q_bd_s]
  have eH4 : ∀ K : am_M → am_O, (q_bd (Rd_readHead μ) fun _ x => K x) = q_bd (q_bd (Rd_endHead 1 (μ1 10 7) μ2) fun a5 μ6 => some (0, μ6)) fun _ x => K x := by
    intro K
    rw [eH3, n3 c2 c3 hbf, b1, q_bd_s, q_bd_s, if_neg (by decide)]
  have eX3 : μ2 10 5 ≠ 3 → Rd_endHead 1 (μ1 10 7) μ2 = some (0, m_st μ2 20 10 (1 + 16 * μ2 10 3)) := by
    intro z
    unfold Rd_endHead Rd_expect
    rw [if_neg (by decide), if_neg z, (fail_s (k := 1) b3 rf2 (by decide)).1, q_bd_s, q_rb0, q_bd_s, if_pos rfl]
  by_cases c5 : ν2 1000 6 = 2
  rotate_left
  · rw [if_neg c5]
    refine RES_f b3 rf2 (by decide : (1 : Int) ≤ 1 ∧ (1 : Int) ≤ 5) (fun K => ?_) rfl ((FA_10 a4).tr (FA_10 b4)) (fnA.tr (FN_t b5))
    show (q_bd (Rd_readHead μ) fun _ x => K x) = _
    rw [eH4, eX3 (fun z => c5 ((tkN b3).1.mpr z)), q_bd_s, q_bd_s]
  have hnum := b3.num c5
  have e33 : ν2 1013 3 = W := by rw [b5 _ _ (by omega), gA _ _ (by omega)]; exact ec3
  have gB : ∀ c i, ¬ ((c = 1015 ∧ i = 4 + W) ∨ (c = 1013 ∧ i = 3)) → m_st (m_st ν2 1015 (4 + W) (ν2 1000 8)) 1013 3 (W + 1) c i = ν2 c i := fun c i z => by rw [m_st_d, if_neg (by omega), m_st_d, if_neg (by omega)]
  have vB1 : m_st (m_st ν2 1015 (4 + W) (ν2 1000 8)) 1013 3 (W + 1) 1015 (4 + W) = ν2 1000 8 := by rw [m_st_c (by decide), m_st_d, if_pos ⟨rfl, rfl⟩]
  have vB2 : m_st (m_st ν2 1015 (4 + W) (ν2 1000 8)) 1013 3 (W + 1) 1013 3 = W + 1 := by rw [m_st_d, if_pos ⟨rfl, rfl⟩]
  have e3b : m_st ν2 1015 (4 + W) (ν2 1000 8) 1013 3 = W := by rw [m_st_c (by decide)]; exact e33
  rw [if_pos c5, q_ld_s (by decide) (by decide), e33, w32_i (x := 4 + W) (by omega) (by omega), q_st_s (by omega) (by omega), q_ld_s (by decide) (by decide), e3b, w32_i (x := W + 1) (by omega) (by omega), q_st_s (by decide) (by decide)]
  generalize m_st (m_st ν2 1015 (4 + W) (ν2 1000 8)) 1013 3 (W + 1) = νB at *
  have trB : TR μ2 νB := b3.cong (fun _ _ _ => rfl) (fun c i z => gB c i (by omega))
  have fnB : FN ν νB := (fnA.tr (FN_t b5)).tr (fun c i z => gB c i (by omega))
  obtain ⟨μ3, ν3, d1, d2, d3, d4, d5, d6, d7⟩ := TR_adv trB.base
  have rf3 : μ3 20 10 = 0 := by rw [d4 _ _ (by decide)]; exact rf2
  rw [d2, q_bd_s]
  have eH5 : ∀ K : am_M → am_O, (q_bd (Rd_readHead μ) fun _ x => K x) = q_bd (q_bd (q_bd (Rd_expect 59 μ3) fun a13 μ14 => if a13 = 0 then (some (0, μ14)) else (q_gd 0 (μ14 20 4) <| q_bd (Bi_addWall (μ14 20 4) (μ1 10 7) (μ2 10 6) μ14) fun a16 μ17 => some (0, μ17))) fun a5 μ6 => some (0, μ6)) fun _ x => K x := by
    intro K
    have e3 : Rd_expect 3 μ2 = some (1, μ3) := by
      unfold Rd_expect
      rw [if_pos ((tkN b3).1.mp c5), d1, q_bd_s]
    rw [eH4]
    unfold Rd_endHead
    rw [if_neg (by decide), e3, q_bd_s, if_neg (by decide)]
  obtain ⟨r, μ4, ν4, g1, g2, g3⟩ := ends_s d3 rf3
  rw [g2, q_bd_s]
  rcases g3 with ⟨z1, z2, za, zb⟩ | ⟨z1, z2, z3, z4, z5⟩
  · subst z1
    refine ⟨μ4, fun K => ?_, (((FA_10 a4).tr (FA_10 b4)).tr (FA_10 d4)).tr (FA_f za), ν4, (fnB.tr (FN_t d5)).tr (FN_f zb), Or.inl ⟨q_rb0, z2⟩⟩
    show (q_bd (Rd_readHead μ) fun _ x => K x) = _
    rw [eH5, g1, q_bd_s, if_pos rfl, q_bd_s, q_bd_s]
  · subst z1
    have m4 : ∀ c i, c ≠ 10 → μ4 c i = μ c i := fun c i z => by rw [z3 c i z, d4 c i z, b4 c i z, a4 c i z]
    have n4 : ∀ c i, ¬ (c = 1000 ∧ 4 ≤ i ∧ i ≤ 8) → ¬ ((c = 1015 ∧ i = 4 + W) ∨ (c = 1013 ∧ i = 3)) → ¬ (c = 1014 ∧ i = W) → ν4 c i = ν c i := fun c i x y z => by rw [z4 c i x, d5 c i x, gB c i y, b5 c i x, gA c i z, a5 c i x]
    have eW : μ4 b 12 = W := by rw [m4 _ _ (by omega)]; omega
    have eA : Bi_addWall b (μ1 10 7) (μ2 10 6) μ4 = some (0, m_st (m_st (m_st μ4 (b + 12) W (μ1 10 7)) (b + 13) W (μ2 10 6)) b 12 (W + 1)) := by
      unfold Bi_addWall
      have q1 : m_st μ4 (b + 12) W (μ1 10 7) b 12 = W := by rw [m_st_c (by omega)]; exact eW
      have q2 : m_st (m_st μ4 (b + 12) W (μ1 10 7)) (b + 13) W (μ2 10 6) b 12 = W := by rw [m_st_c (by omega)]; exact q1
      rw [q_gd_s (bO0 hb), eW, if_pos (by omega), q_st_s (by omega) (by rw [bLK12 hb]; omega), q1, bput13 hb, if_pos (by omega), q_bd_s, q2, w32_i (x := W + 1) (by omega) (by omega), q_pf_d]
    refine ⟨m_st (m_st (m_st μ4 (b + 12) W (μ1 10 7)) (b + 13) W (μ2 10 6)) b 12 (W + 1), fun K => ?_, (FA_10 m4).tr (fun c i z => by rw [m_st_d, if_neg (by omega), m_st_d, if_neg (by omega), m_st_d, if_neg (by omega)]), ν4, (fnB.tr (FN_t d5)).tr (FN_t z4), Or.inr ⟨q_rb1, ?_⟩⟩
    · show (q_bd (Rd_readHead μ) fun _ x => K x) = _
      have e4 : μ4 20 4 = b := by rw [m4 _ _ (by omega)]; exact h.rd.rb
      rw [eH5, g1, q_bd_s, if_neg (by decide), e4, q_gd_s (bO0 hb), eA, q_bd_s, q_bd_s, q_bd_s]
    have gC : ∀ c i, ¬ ((c = b + 12 ∧ i = W) ∨ (c = b + 13 ∧ i = W) ∨ (c = b ∧ i = 12)) → m_st (m_st (m_st μ4 (b + 12) W (μ1 10 7)) (b + 13) W (μ2 10 6)) b 12 (W + 1) c i = μ4 c i := fun c i z => by rw [m_st_d, if_neg (by omega), m_st_d, if_neg (by omega), m_st_d, if_neg (by omega)]
    have vC1 : m_st (m_st (m_st μ4 (b + 12) W (μ1 10 7)) (b + 13) W (μ2 10 6)) b 12 (W + 1) (b + 12) W = μ1 10 7 := by rw [m_st_c (by omega), m_st_c (by omega), m_st_d, if_pos ⟨rfl, rfl⟩]
    have vC2 : m_st (m_st (m_st μ4 (b + 12) W (μ1 10 7)) (b + 13) W (μ2 10 6)) b 12 (W + 1) (b + 13) W = μ2 10 6 := by rw [m_st_c (by omega), m_st_d, if_pos ⟨rfl, rfl⟩]
    have vC3 : m_st (m_st (m_st μ4 (b + 12) W (μ1 10 7)) (b + 13) W (μ2 10 6)) b 12 (W + 1) b 12 = W + 1 := by rw [m_st_d, if_pos ⟨rfl, rfl⟩]
    generalize m_st (m_st (m_st μ4 (b + 12) W (μ1 10 7)) (b + 13) W (μ2 10 6)) b 12 (W + 1) = μ5 at *
    have n3W : ν4 1013 3 = W + 1 := by rw [z4 _ _ (by decide), d5 _ _ (by decide)]; exact vB2
    have n14 : ν4 1014 W = ν1 1000 7 := by rw [z4 _ _ (fun z => absurd z.1 (by decide)), d5 _ _ (fun z => absurd z.1 (by decide)), gB _ _ (by simp), b5 _ _ (fun z => absurd z.1 (by decide))]; exact vA
    have n15 : ν4 1015 (4 + W) = ν2 1000 8 := by rw [z4 _ _ (fun z => absurd z.1 (by decide)), d5 _ _ (fun z => absurd z.1 (by decide))]; exact vB1
    have t4 := d3.be1
    have t3 := b3.be1
    have t2 := a3.be1
    have h53 : μ 10 3 ≤ μ5 10 3 := by
      have : μ5 10 3 = μ4 10 3 := gC _ _ (by omega)
      omega
    have trC : TR μ5 ν4 := z2.cong (fun c i z => gC c i (by clear a4 a5 b4 b5 d4 d5 z3 z4 gA gB m4 n4; omega)) (fun _ _ _ => rfl)
    exact wall_ps hb h hcl hcn (by omega) trC (fun c i x y => by rw [gC c i y, m4 c i x]) (fun c i x y => n4 c i x (fun z => y (by rcases z with z | z <;> simp [z])) (fun z => y (by simp [z]))) vC3 n3W (by rw [vC1, n14]; exact hnam) (by rw [vC2, n15]; exact hnum) h53
