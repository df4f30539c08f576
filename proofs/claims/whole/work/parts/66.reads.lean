/-! The whole reading, both sides. -/
noncomputable def rfR (ν : am_M) : am_O := q_bd (M_isWord 453774 ν) fun a3 μ4 => if a3 = 0 then (q_bd (M_isWord 46263 μ4) fun a5 μ6 => if a5 = 0 then (M_readsLine μ6) else (M_readsBill μ6)) else (M_readsWall μ4)
noncomputable def xR (K : am_M → am_O) (μ : am_M) : am_O := if (μ 20 13) = 0 then (q_bd (Rd_readHead μ) fun a7 μ8 => K μ8) else (q_bd (Rd_startLine μ) fun a1 μ2 => if a1 = 0 then K μ2 else (q_bd (Rd_readRest μ2) fun a3 μ4 => if a3 = 0 then K μ4 else (q_bd (Rd_endLine μ4) fun a5 μ6 => K μ6)))
theorem RES.mono {Q Q' : am_M → am_M → Prop} {X : (am_M → am_O) → am_O} {y : am_O} {b : Int} {μ ν : am_M} (h : RES b μ ν Q X y) (H : ∀ μ ν, Q μ ν → Q' μ ν) : RES b μ ν Q' X y := by
  obtain ⟨μ', a1, aa, ν', ab, a2⟩ := h
  refine ⟨μ', a1, aa, ν', ab, ?_⟩
  rcases a2 with z | ⟨z1, z2⟩
  · exact Or.inl z
  · exact Or.inr ⟨z1, H _ _ z2⟩
theorem rl_no {μ ν : am_M} (h : TR μ ν) (hk : ¬ (100 ≤ μ 10 5 ∧ μ 10 5 ≤ 108) ∨ ν 1000 43 = 0) : M_readsLine ν = (q_bd (M_fails 1 ν) fun a x => q_rb a (some (a, x))) := by
  have hko := kol_s h
  unfold M_readsLine
  rw [hko, q_bd_s]
  by_cases c : 100 ≤ μ 10 5 ∧ μ 10 5 ≤ 108
  · rcases hk with z | z
    · exact absurd c z
    · rw [if_pos c, if_neg (by omega), if_pos z]; rfl
  · rw [if_neg c, if_pos (by decide)]; rfl
theorem round_s {b B W : Int} {Wn : Int → Int} {μ ν : am_M} (hb : bOk b) (h : PS b B W Wn μ ν) (hK : μ 10 5 ≠ 1) : RES b μ ν (fun μ' ν' => ∃ B' W' Wn', PS b B' W' Wn' μ' ν' ∧ B' + W' + ν' 1013 5 = B + W + ν 1013 5 + 1) (fun K => xR K μ) (rfR ν) := by
  have hb' : b = 100 ∨ b = 200 := hb
  obtain ⟨pb, hB0, h2⟩ := h
  have hw9 := isWd pb.tr (by decide : (100 : Int) ≤ 109) kwI9
  have hw10 := isWd pb.tr (by decide : (100 : Int) ≤ 110) kwI10
  have hop := pb.op
  have hnB := pb.nw.b0
  have hcB := pb.cB
  have hbc := pb.nw.bc
  unfold rfR xR
  rw [hw9, q_bd_s]
  rcases h2 with ⟨z1, z2⟩ | ⟨z1, f, T, D, σ, z2, z3⟩
  · have e0 : μ 20 13 = 0 := by omega
    have fl : Rd_readHead μ = (q_bd (Rd_fail 1 μ) fun a1 μ2 => some (0, μ2)) → RES b μ ν (fun μ' ν' => ∃ B' W' Wn', PS b B' W' Wn' μ' ν' ∧ B' + W' + ν' 1013 5 = B + W + ν 1013 5 + 1) (fun K => if (μ 20 13) = 0 then (q_bd (Rd_readHead μ) fun a7 μ8 => K μ8) else (q_bd (Rd_startLine μ) fun a1 μ2 => if a1 = 0 then K μ2 else (q_bd (Rd_readRest μ2) fun a3 μ4 => if a3 = 0 then K μ4 else (q_bd (Rd_endLine μ4) fun a5 μ6 => K μ6)))) (q_bd (M_fails 1 ν) fun a x => q_rb a (some (a, x))) := by
      intro e
      refine RES_f pb.tr pb.rd.rf (by decide : (1 : Int) ≤ 1 ∧ (1 : Int) ≤ 5) (fun K => ?_) rfl FA.rf FN.rf
      have hf := (fail_s (k := 1) pb.tr pb.rd.rf (by decide)).1
      show (if (μ 20 13) = 0 then (q_bd (Rd_readHead μ) fun a7 μ8 => K μ8) else _) = _
      rw [if_pos e0, e, hf, q_bd_s, q_bd_s]
    by_cases c9 : μ 10 5 = 109
    · rw [if_pos c9, if_neg (by decide)]
      by_cases cB : B = 0
      · subst cB
        refine RES.cong ((wall_s hb pb z1 (hB0 rfl) c9).mono (fun μ' ν' q => ?_)) (fun K => by rw [if_pos e0]) rfl
        obtain ⟨⟨Wn', q1⟩, q2⟩ := q
        exact ⟨0, W + 1, Wn', q1, by have := hB0 rfl; omega⟩
      · have ew : M_readsWall ν = (q_bd (M_fails 1 ν) fun a x => q_rb a (some (a, x))) := by
          unfold M_readsWall
          rw [q_ld_s (by decide) (by decide), if_neg (by omega)]
        rw [ew]
        refine fl ?_
        unfold Rd_readHead
        rw [if_pos c9, pb.rd.rb, q_gd_s (bO0 hb), if_neg (by omega)]
        unfold Rd_readHead_B26 Rd_readHead_B27
        rw [if_pos rfl, if_neg (by omega)]
    rw [if_neg c9, if_pos rfl, hw10, q_bd_s]
    by_cases c10 : μ 10 5 = 110
    · rw [if_pos c10, if_neg (by decide)]
      refine RES.cong ((bill_s hb pb z2 z1 c10).mono (fun μ' ν' q => ?_)) (fun K => by rw [if_pos e0]) rfl
      exact ⟨B + 1, W, Wn, q.1, by have := q.2; omega⟩
    · rw [if_neg c10, if_pos rfl, rl_no pb.tr (Or.inr z1)]
      refine fl ?_
      unfold Rd_readHead
      rw [if_neg c9]
      unfold Rd_readHead_B26 Rd_readHead_B27
      rw [if_pos rfl, if_neg c10]
  · have e1 : μ 20 13 ≠ 0 := by omega
    have hb1 := z3.b1
    have hl := line_s hb pb z2 z3 z1
    have ey : (if (if μ 10 5 = 109 then (1 : Int) else 0) = 0 then (q_bd (M_isWord 46263 ν) fun a5 μ6 => if a5 = 0 then (M_readsLine μ6) else (M_readsBill μ6)) else (M_readsWall ν)) = M_readsLine ν := by
      by_cases c9 : μ 10 5 = 109
      · rw [if_pos c9, if_neg (by decide), rl_no pb.tr (Or.inl (by omega))]
        unfold M_readsWall
        rw [q_ld_s (by decide) (by decide), if_neg (by omega)]
      · rw [if_neg c9, if_pos rfl, hw10, q_bd_s]
        by_cases c10 : μ 10 5 = 110
        · rw [if_pos c10, if_neg (by decide), rl_no pb.tr (Or.inl (by omega))]
          unfold M_readsBill
          rw [if_neg (by omega)]
        · rw [if_neg c10, if_pos rfl]
    rw [ey]
    refine RES.cong (hl.mono (fun μ' ν' q => ?_)) (fun K => by rw [if_neg e1]) rfl
    exact ⟨B, W, Wn, q.1, by have := q.2.1; omega⟩
theorem fail_no {k : Int} {μ : am_M} (h : μ 20 10 ≠ 0) : Rd_fail k μ = some (0, μ) := by
  unfold Rd_fail
  rw [if_neg h]
theorem B102_f {μ : am_M} (h : μ 20 10 ≠ 0) : Rd_readInto_B102 μ = some (μ 20 10, μ) := by
  unfold Rd_readInto_B102 Rd_readInto_B115
  by_cases c : μ 20 13 = 0
  · rw [if_pos c]
  · rw [if_neg c, fail_no h, q_bd_s]
theorem L39_f {μ : am_M} (h : μ 20 10 ≠ 0) (f : Nat) (v : Int) : Rd_readInto_L39 (f + 1) v μ = some (μ 20 10, μ) := by
  show Rd_readInto_L39_b (Rd_readInto_L39 f) v μ = _
  unfold Rd_readInto_L39_b
  rw [if_neg h, B102_f h]
  by_cases c : v ≤ 1000
  · rw [if_pos c]
  · rw [if_neg c]
theorem reads_L {b : Int} (hb : bOk b) : ∀ (n f1 f2 : Nat) (v B W : Int) (Wn : Int → Int) (μ ν : am_M), PS b B W Wn μ ν → 68 - (B + W + ν 1013 5) ≤ (n : Int) → n + 1 < f1 → n < f2 → 0 ≤ v → v ≤ B + W + ν 1013 5 →
    ∃ r μ' ν', Rd_readInto_L39 f1 v μ = some (μ' 20 10, μ') ∧ M_readsAll_L55 f2 ν = some (r, ν') ∧ ((r = 0 ∧ FL μ' ν') ∨ (r = 1 ∧ μ' 20 10 = 0 ∧ ∃ B W Wn, PS b B W Wn μ' ν' ∧ ν' 1000 43 = 0)) ∧ FA b μ μ' ∧ FN ν ν'
  | n, 0, _, _, _, _, _, _, _, _, _, h1, _, _, _ => by omega
  | n, _ + 1, 0, _, _, _, _, _, _, _, _, _, h2, _, _ => by omega
  | n, f1 + 1, f2 + 1, v, B, W, Wn, μ, ν, h, hn, h1, h2, v0, v1 => by
    have pb := h.1
    have hnB := pb.nw.b0
    have hcB := pb.cB
    have hnW := pb.nw.w0
    have hcW := pb.cW
    have hc6 := pb.c6
    have hop := pb.op
    have hT := tkN pb.tr
    have e1 : Rd_readInto_L39 (f1 + 1) v μ = Rd_readInto_L39_b (Rd_readInto_L39 f1) v μ := rfl
    have e2 : M_readsAll_L55 (f2 + 1) ν = M_readsAll_L55_b (M_readsAll_L55 f2) ν := rfl
    rw [e1, e2]
    unfold Rd_readInto_L39_b M_readsAll_L55_b
    rw [if_pos (by omega), if_pos pb.rd.rf]
    by_cases c1 : μ 10 5 = 1
    · rw [if_pos c1, if_pos (hT.2.1.mpr c1)]
      unfold Rd_readInto_B102 Rd_readInto_B115
      rcases h.2.2 with ⟨z1, -⟩ | ⟨z1, -⟩
      · rw [if_pos (by omega), if_pos z1]
        exact ⟨1, μ, ν, rfl, rfl, Or.inr ⟨rfl, pb.rd.rf, B, W, Wn, h, z1⟩, FA.rf, FN.rf⟩
      · rw [if_neg (by omega), if_neg (by omega)]
        obtain ⟨x1, x2, x3⟩ := fail_s (k := 1) pb.tr pb.rd.rf (by decide)
        rw [x1, x2, q_bd_s, q_bd_s, if_pos rfl]
        exact ⟨0, _, _, rfl, rfl, Or.inl ⟨rfl, x3⟩, FA_fail, FN_fail⟩
    · rw [if_neg c1, if_neg (fun z => c1 (hT.2.1.mp z))]
      obtain ⟨μ', q1, qa, ν', qb, q2⟩ := round_s hb h c1
      have ex : (if (μ 20 13) = 0 then (q_bd (Rd_readHead μ) fun a7 μ8 => Rd_readInto_B96 (Rd_readInto_L39 f1) v μ8) else (q_bd (Rd_startLine μ) fun a1 μ2 => if a1 = 0 then (Rd_readInto_B96 (Rd_readInto_L39 f1) v μ2) else (q_bd (Rd_readRest μ2) fun a3 μ4 => if a3 = 0 then (Rd_readInto_B96 (Rd_readInto_L39 f1) v μ4) else (q_bd (Rd_endLine μ4) fun a5 μ6 => Rd_readInto_B96 (Rd_readInto_L39 f1) v μ6)))) = Rd_readInto_L39 f1 (v + 1) μ' := by
        have := q1 (Rd_readInto_B96 (Rd_readInto_L39 f1) v)
        have e : Rd_readInto_B96 (Rd_readInto_L39 f1) v μ' = Rd_readInto_L39 f1 (v + 1) μ' := by
          unfold Rd_readInto_B96
          rw [w32_i (x := v + 1) (by omega) (by omega)]
        rw [← e, ← this]
        rfl
      have ey : (q_bd (M_isWord 453774 ν) fun a3 μ4 => if a3 = 0 then (q_bd (M_isWord 46263 μ4) fun a5 μ6 => if a5 = 0 then (q_bd (M_readsLine μ6) fun a7 μ8 => if a7 = 0 then (some (0, μ8)) else (M_readsAll_L55 f2 μ8)) else (q_bd (M_readsBill μ6) fun a9 μ10 => if a9 = 0 then (some (0, μ10)) else (M_readsAll_L55 f2 μ10))) else (q_bd (M_readsWall μ4) fun a11 μ12 => if a11 = 0 then (some (0, μ12)) else (M_readsAll_L55 f2 μ12))) = q_bd (rfR ν) fun a z => if a = 0 then (some (0, z)) else (M_readsAll_L55 f2 z) := by
        have hw9 := isWd pb.tr (by decide : (100 : Int) ≤ 109) kwI9
        have hw10 := isWd pb.tr (by decide : (100 : Int) ≤ 110) kwI10
        unfold rfR
        rw [hw9, q_bd_s, q_bd_s]
        by_cases c9 : μ 10 5 = 109
        · rw [if_pos c9, if_neg (by decide), if_neg (by decide)]
        · rw [if_neg c9, if_pos rfl, if_pos rfl, hw10, q_bd_s, q_bd_s]
          by_cases c10 : μ 10 5 = 110
          · rw [if_pos c10, if_neg (by decide), if_neg (by decide)]
          · rw [if_neg c10, if_pos rfl, if_pos rfl]
      rw [ex, ey]
      rcases q2 with ⟨y1, y2⟩ | ⟨y1, B', W', Wn', y2, y3⟩
      · rw [y1, q_bd_s, if_pos rfl]
        cases f1 with
        | zero => omega
        | succ f1 =>
          rw [L39_f y2.2]
          exact ⟨0, μ', ν', rfl, rfl, Or.inl ⟨rfl, y2⟩, qa, qb⟩
      · rw [y1, q_bd_s, if_neg (by decide)]
        have p2 := y2.1
        have hnB' := p2.nw.b0
        have hcB' := p2.cB
        have hnW' := p2.nw.w0
        have hcW' := p2.cW
        have hc6' := p2.c6
        cases n with
        | zero => omega
        | succ n =>
          obtain ⟨r, μ9, ν9, w1, w2, w3, w4, w5⟩ := reads_L hb n f1 f2 (v + 1) B' W' Wn' μ' ν' y2 (by omega) (by omega) (by omega) (by omega) (by omega)
          exact ⟨r, μ9, ν9, w1, w2, w3, qa.tr w4, qb.tr w5⟩
