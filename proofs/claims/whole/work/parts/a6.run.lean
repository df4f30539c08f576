/-! The promises of begin, run, machine. -/
theorem MR.mv {b c c' B W n d st : Int} {Wn : Int → Int} {μ ν μ' ν' : am_M} (h : MR b c B W n d st Wn μ ν) (hc : mOk c') (f : TF b μ μ') (g : TG ν ν') (a1 : ∀ i, 0 ≤ i → i < 16 → μ' (c' + 1) i = μ (c + 1) i) (a2 : ∀ i, 0 ≤ i → i < 16 → μ' (c' + 2) i = μ (c + 2) i) (a3 : ∀ i, 0 ≤ i → i < 160 → μ' (c' + 3) i = μ (c + 3) i) (a4 : ∀ i, 5 ≤ i → i ≤ 13 → μ' c' i = μ c i) (a5 : μ' c' 1 = 1) (b1 : ∀ i, (55 ≤ i ∧ i ≤ 58) ∨ (63 ≤ i ∧ i ≤ 67) → ν' 1000 i = ν 1000 i) (b2 : ∀ x i, 1043 ≤ x → x ≤ 1045 → 0 ≤ i → i < 16 → ν' x i = ν x i) (b3 : ∀ i, 0 ≤ i → i < 160 → ν' 1046 i = ν 1046 i) : MR b c' B W n d st Wn μ' ν' := by
  have hd := h.dd
  refine (MR.mk (cd := h.cd.cong f (fun c p q => g c (Or.inl ⟨p, q⟩)) (fun c p q => g c (Or.inr ⟨p, q⟩))) (mc := hc) (dd := h.dd) (c5 := by rw [a4 _ (by decide) (by decide)]; exact h.c5) (r5 := by rw [b1 _ (by decide)]; exact h.r5) (c6 := by rw [a4 _ (by decide) (by decide)]; exact h.c6) (r6 := by rw [b1 _ (by decide)]; exact h.r6) (s4 := h.s4) (rm := by rw [a4 _ (by decide) (by decide), b1 _ (by decide)]; exact h.rm) (pr := by rw [a4 _ (by decide) (by decide), b1 _ (by decide)]; exact h.pr) (cn := ?_) (cz := ?_) (gf := by rw [a4 _ (by decide) (by decide), b1 _ (by decide)]; exact h.gf) (nl := fun f p q => by rw [a1 f p (by omega), b2 1044 f (by decide) (by decide) p (by omega)]; exact h.nl f p q) (ft := (FT.mk (d0 := h.ft.d0) (tb := fun i p q => by rw [a2 i p (by omega), b2 1045 i (by decide) (by decide) p (by omega)]; exact h.ft.tb i p q))) (vl := fun f s p q s0 s1 => ?_) (fr := fun i p q => ?_) (s1 := h.s1) (bu := a5))
  · rw [a4 8 (by decide) (by decide), a4 9 (by decide) (by decide), a4 10 (by decide) (by decide), a4 11 (by decide) (by decide), b1 63 (by decide), b1 64 (by decide), b1 65 (by decide), b1 66 (by decide)]
    exact h.cn
  · rw [a4 8 (by decide) (by decide), a4 9 (by decide) (by decide), a4 10 (by decide) (by decide), a4 11 (by decide) (by decide)]
    exact h.cz
  · rw [a3 _ (by omega) (by omega), b2 1045 f (by decide) (by decide) p (by omega), b3 _ (by omega) (by omega)]
    exact h.vl f s p q s0 s1
  · rw [b2 1043 i (by decide) (by decide) p (by omega), b2 1044 i (by decide) (by decide) p (by omega), b2 1045 i (by decide) (by decide) p (by omega)]
    exact (h.fr _ p q).cong f g
theorem MR.cong {b c B W n d st : Int} {Wn : Int → Int} {μ ν μ' ν' : am_M} (h : MR b c B W n d st Wn μ ν) (f : ∀ x i, x < 1000 → μ' x i = μ x i) (g : ∀ x i, 1000 < x → ν' x i = ν x i) (g0 : ∀ i, i ≠ 0 → ν' 1000 i = ν 1000 i) : MR b c B W n d st Wn μ' ν' := by
  have hr := h.mc.r
  have hb' : b = 100 ∨ b = 200 := h.cd.tb.bo
  exact h.mv h.mc (fun x p q => funext fun i => f x i (by omega)) (fun x p => funext fun i => g x i (by omega)) (fun i _ _ => f _ i (by omega)) (fun i _ _ => f _ i (by omega)) (fun i _ _ => f _ i (by omega)) (fun i _ _ => f _ i (by omega)) (by rw [f _ _ (by omega)]; exact h.bu) (fun i p => g0 i (by omega)) (fun x i p q _ _ => g x i (by omega)) (fun i _ _ => g _ i (by omega))
theorem MR.z {b c B W n d st v : Int} {Wn : Int → Int} {μ ν : am_M} (h : MR b c B W n d st Wn μ ν) : MR b c B W n d st Wn μ (m_st ν 1000 0 v) := h.cong (fun _ _ _ => rfl) (fun x i p => m_st_c (by omega)) (fun i p => m_st_i p)
theorem w32_st {a s k : Int} (h : w32 (a - s) = k) (h0 : 0 ≤ k ∧ k < 2000) : w32 (w32 (a + 1) - s) = k + 1 := by
  unfold w32 at *
  omega
theorem go_L {b c B W n v s0 : Int} {Wn : Int → Int} (hv : v ≤ 1000) : ∀ (m fu fu' : Nat) (k d st : Int) (μ ν : am_M), k + m = v → 0 ≤ k → m < fu → m + 1 < fu' → MR b c B W n d st Wn μ ν → ((st = 0 ∧ k = 0) ∨ (st ≠ 0 ∧ w32 (ν 1000 66 - s0) = k)) → ∃ r μ' ν' d' st', Mc_go_L2 fu c b v k μ = some (r, μ') ∧ M_run_L25 fu' v s0 k ν = some (r, ν') ∧ MR b c B W n d' st' Wn μ' ν' ∧ (st' = 0 ↔ st = 0) ∧ SFC c μ μ' ∧ SFR ν ν'
  | m, 0, _, _, _, _, _, _, _, _, h, _, _, _ => by omega
  | m, _ + 1, 0, _, _, _, _, _, _, _, _, h, _, _ => by omega
  | 0, fu + 1, fu' + 1, k, d, st, μ, ν, hk, h0, _, _, h, hs => by
    refine ⟨k, μ, ν, d, st, ?_, ?_, h, Iff.rfl, SFC.rf, SFR.rf⟩
    · show Mc_go_L2_b (Mc_go_L2 fu) c b v k μ = _
      unfold Mc_go_L2_b
      rw [if_neg (by omega)]
    · show M_run_L25_b (M_run_L25 fu') v s0 k ν = _
      unfold M_run_L25_b M_run_B48
      rw [if_neg (by omega), h.r6]
      rcases hs with ⟨z, y⟩ | ⟨z, y⟩
      · rw [if_pos z, y]
      · rw [if_neg z, y]
  | m + 1, fu + 1, fu' + 1, k, d, st, μ, ν, hk, h0, hf, hf', h, hs => by
    have e1 : Mc_go_L2 (fu + 1) c b v k μ = Mc_go_L2_b (Mc_go_L2 fu) c b v k μ := rfl
    have e2 : M_run_L25 (fu' + 1) v s0 k ν = M_run_L25_b (M_run_L25 fu') v s0 k ν := rfl
    rw [e1, e2]
    unfold Mc_go_L2_b M_run_L25_b
    rw [if_pos (show k < v by omega), if_pos (show k < v by omega), q_gd_s (mO3 h.mc), h.c6, h.r6]
    by_cases z : st = 1
    · subst z
      rw [if_pos rfl, if_pos rfl]
      have hw : w32 (ν 1000 66 - s0) = k := by rcases hs with ⟨z, -⟩ | ⟨-, y⟩; omega; exact y
      obtain ⟨r, μ1, ν1, d1, st1, a1, a2, a3, a4, a5, a6, a7⟩ := work_s h
      rw [a1, q_bd_s, a2, q_bd_s, w32_i (x := k + 1) (by omega) (by omega)]
      rcases a7 with ⟨y1, y2, y3⟩ | ⟨y1, y2⟩
      · refine ⟨k, μ1, ν1, d1, st1, by rw [if_pos y1], ?_, a3, by omega, a5, a6⟩
        cases fu' with
        | zero => omega
        | succ fu' =>
          show M_run_L25_b (M_run_L25 fu') v s0 (k + 1) ν1 = _
          have e3 : M_run_B48 s0 ν1 = some (k, ν1) := by
            unfold M_run_B48
            rw [a3.r6, if_neg a4, y3, hw]
          unfold M_run_L25_b
          rw [a3.r6, if_neg (show ¬ st1 = 1 by omega), e3]
          split <;> rfl
      · rw [if_neg (by omega)]
        obtain ⟨r', μ', ν', d', st', b1, b2, b3, b4, b5, b6⟩ := go_L hv m fu fu' (k + 1) d1 st1 μ1 ν1 (by omega) (by omega) (by omega) (by omega) a3 (Or.inr ⟨a4, by rw [y2]; exact w32_st hw ⟨h0, by omega⟩⟩)
        exact ⟨r', μ', ν', d', st', b1, b2, b3, by omega, a5.tr b5, a6.tr b6⟩
    · rw [if_neg z, if_neg z]
      refine ⟨k, μ, ν, d, st, rfl, ?_, h, Iff.rfl, SFC.rf, SFR.rf⟩
      unfold M_run_B48
      rw [h.r6]
      rcases hs with ⟨z, y⟩ | ⟨z, y⟩
      · rw [if_pos z, y]
      · rw [if_neg z, y]
theorem run_p {b B W n d st v : Int} {Wn : Int → Int} {μ ν : am_M} (h8 : μ 0 8 = b) (h : MR b 300 B W n d st Wn μ ν) : ∃ r μ' ν' d' st', X_run v μ = some (r, μ') ∧ M_run v ν = some (r, ν') ∧ MR b 300 B W n d' st' Wn μ' ν' ∧ SFC 300 μ μ' ∧ SFR (m_st ν 1000 0 0) ν' := by
  have hF := am_FU_ge
  have hz := h.z (v := 0)
  unfold X_run M_run
  rw [q_pf_d, within_g, q_bd_s]
  by_cases c : 0 ≤ v ∧ v ≤ 1000
  · have hw : (if 0 ≤ v ∧ v ≤ 1000 then (1 : Int) else 0) = 1 := if_pos c
    rw [hw, if_neg (show ¬ v < 0 by omega), if_pos c.2, if_neg (show ¬ (1 : Int) = 0 by decide), h8]
    obtain ⟨r, μ', ν', d', st', a1, a2, a3, a4, a5, a6⟩ := go_L (s0 := m_st ν 1000 0 0 1000 66) c.2 v.toNat am_FU am_FU 0 d st μ (m_st ν 1000 0 0) (by omega) (by omega) (by omega) (by omega) hz (by
      by_cases z : st = 0
      · exact Or.inl ⟨z, rfl⟩
      · refine Or.inr ⟨z, ?_⟩
        have e : m_st ν 1000 0 0 1000 66 - m_st ν 1000 0 0 1000 66 = 0 := by omega
        rw [e]
        rfl)
    have e1 : Mc_go 300 b v μ = some (r, μ') := a1
    rw [e1, q_bd_s, a2]
    exact ⟨r, μ', ν', d', st', rfl, rfl, a3, a5, a6⟩
  · have hw : (if 0 ≤ v ∧ v ≤ 1000 then (1 : Int) else 0) = 0 := if_neg c
    rw [hw, if_pos (show (0 : Int) = 0 from rfl)]
    refine ⟨-1, μ, _, d, st, ?_, rfl, hz, SFC.rf, SFR.rf⟩
    by_cases c0 : v < 0
    · rw [if_pos c0]
    · rw [if_neg c0, if_neg (by omega)]
theorem machine_p {b B W n d st v : Int} {Wn : Int → Int} {μ ν : am_M} (h : MR b 300 B W n d st Wn μ ν) : ∃ r, X_machine v μ = some (r, μ) ∧ M_machine v ν = some (r, m_st ν 1000 0 0) := by
  have hF := am_FU_ge
  have hz := h.z (v := 0)
  have hd := h.dd
  unfold X_machine Mc_tell M_machine
  rw [q_pf_d, within_g, q_bd_s]
  generalize m_st ν 1000 0 0 = ν1 at *
  rw [q_gd_s (mO3 h.mc), q_gd_s (mO3 h.mc), q_gd_s (mO3 h.mc), q_gd_s (mO3 h.mc), q_gd_s (mO3 h.mc), q_gd_s (mO3 h.mc), q_gd_s (mO3 h.mc), q_gd_s (mO3 h.mc), h.c6, hz.r6]
  by_cases c : 0 ≤ v ∧ v ≤ 7
  rotate_left
  · have hw : (if 0 ≤ v ∧ v ≤ 7 then (1 : Int) else 0) = 0 := if_neg c
    rw [hw, if_pos (show (0 : Int) = 0 from rfl), if_neg (by omega), if_neg (by omega), if_neg (by omega), if_neg (by omega), if_neg (by omega), if_neg (by omega), if_neg (by omega), if_neg (by omega), q_bd_s]
    exact ⟨_, rfl, rfl⟩
  have hw : (if 0 ≤ v ∧ v ≤ 7 then (1 : Int) else 0) = 1 := if_pos c
  rw [hw, if_neg (show ¬ (1 : Int) = 0 by decide)]
  by_cases c0 : v = 0
  · rw [if_pos c0, if_pos c0, q_bd_s]; exact ⟨_, rfl, rfl⟩
  rw [if_neg c0, if_neg c0]
  by_cases c1 : v = 1
  · rw [if_pos c1, if_pos c1]
    by_cases z : st = 1
    · have hd1 := h.s1 z
      rw [if_pos z, if_pos z, h.c5, hz.r5, w32_i (x := d - 1) (by omega) (by omega), mat1 h.mc, if_pos (show 0 ≤ d - 1 ∧ d - 1 < 16 by omega), q_bd_s, q_bd_s, q_ld_s (by omega) (by omega), h.nl (d - 1) (by omega) (by omega), ← hz.nl (d - 1) (by omega) (by omega), h.nl (d - 1) (by omega) (by omega)]
      exact ⟨_, rfl, rfl⟩
    · rw [if_neg z, if_neg z, q_bd_s]; exact ⟨_, rfl, rfl⟩
  rw [if_neg c1, if_neg c1]
  by_cases z : st = 0
  · obtain ⟨d0, y8, y9, y10, y11⟩ := h.cz z
    subst d0
    have ly : Mc_lying 300 μ = some (0, μ) := lying_L h.mc h.ft h.c5 0 am_FU 0 0 (by omega) (by omega) (by omega)
    rw [if_pos z, ly, q_bd_s, y8, y9, y10, y11, h.c5]
    refine ⟨0, ?_, rfl⟩
    have go : (if v = 2 then some ((0 : Int), μ) else if v = 3 then some (0, μ) else if v = 4 then some (0, μ) else if v = 5 then some (0, μ) else if v = 6 then some (0, μ) else if v = 7 then some (0, μ) else some (-1, μ)) = some (0, μ) := by
      have : v = 2 ∨ v = 3 ∨ v = 4 ∨ v = 5 ∨ v = 6 ∨ v = 7 := by omega
      rcases this with z | z | z | z | z | z <;> (rw [z]; rfl)
    rw [go, q_bd_s]
  · obtain ⟨y8, y9, y10, y11, -, -⟩ := hz.cn z
    rw [if_neg z, y8, y9, y10, y11, h.c5, hz.r5]
    obtain ⟨r, l1, l2⟩ := lying_s h.mc hz.ft h.c5 hz.r5
    rw [l1, l2, q_bd_s, q_bd_s]
    by_cases c2 : v = 2
    · rw [if_pos c2, if_pos c2, q_bd_s]; exact ⟨_, rfl, rfl⟩
    rw [if_neg c2, if_neg c2]
    by_cases c3 : v = 3
    · rw [if_pos c3, if_pos c3, q_bd_s]; exact ⟨_, rfl, rfl⟩
    rw [if_neg c3, if_neg c3]
    by_cases c4 : v = 4
    · rw [if_pos c4, if_pos c4, q_bd_s]; exact ⟨_, rfl, rfl⟩
    rw [if_neg c4, if_neg c4]
    by_cases c5 : v = 5
    · rw [if_pos c5, if_pos c5, q_bd_s]; exact ⟨_, rfl, rfl⟩
    rw [if_neg c5, if_neg c5]
    by_cases c6 : v = 6
    · rw [if_pos c6, if_pos c6, q_bd_s]; exact ⟨_, rfl, rfl⟩
    rw [if_neg c6, if_neg c6, if_pos (by omega), q_bd_s]
    exact ⟨_, rfl, rfl⟩
theorem mtake_s {c v1 v2 v3 v4 : Int} {μ : am_M} (hc : mOk c) : ∃ μ', Mc_take c v1 v2 v3 v4 μ = some (0, μ') ∧ (∀ i, 0 ≤ i → i < 4 → μ' (c + 3) i = if i = 0 then v1 else if i = 1 then v2 else if i = 2 then v3 else v4) ∧ (∀ y i, y ≠ c + 3 → μ' y i = μ y i) := by
  refine ⟨m_st (m_st (m_st (m_st μ (c + 3) 0 v1) (c + 3) 1 v2) (c + 3) 2 v3) (c + 3) 3 v4, ?_, fun i p q => ?_, fun y i p => by rw [m_st_c p, m_st_c p, m_st_c p, m_st_c p]⟩
  · unfold Mc_take
    rw [q_gd_s (mO3 hc), mput3 hc, if_pos (by decide), q_bd_s, mput3 hc, if_pos (by decide), q_bd_s, mput3 hc, if_pos (by decide), q_bd_s, mput3 hc, if_pos (by decide), q_bd_s]
  · have : i = 0 ∨ i = 1 ∨ i = 2 ∨ i = 3 := by omega
    rcases this with z | z | z | z <;> (subst z; simp [m_st_d])
theorem begin_p {b B W n d st v v1 v2 v3 v4 : Int} {Wn : Int → Int} {μ ν : am_M} (h8 : μ 0 8 = b) (h : MR b 300 B W n d st Wn μ ν) (r1 : r32 v1) (r2 : r32 v2) (r3 : r32 v3) (r4 : r32 v4) : ∃ r μ' ν' d' st', X_begin v v1 v2 v3 v4 μ = some (r, μ') ∧ M_begin v v1 v2 v3 v4 ν = some (r, ν') ∧ MR b 300 B W n d' st' Wn μ' ν' ∧ SFC 300 μ μ' ∧ SFR (m_st ν 1000 0 0) ν' := by
  have hF := am_FU_ge
  have hbo := h.cd.tb.bo
  have hb' : b = 100 ∨ b = 200 := hbo
  have hz := h.z (v := 0)
  unfold X_begin M_begin
  rw [h8, q_gd_s (bO0 hbo), q_pf_d]
  generalize m_st ν 1000 0 0 = ν1 at *
  have hB := hz.cd.tb.cB
  rw [has_s hbo hB.1, isBill_p hB.2.1, q_bd_s, q_bd_s]
  by_cases c : 0 ≤ v ∧ v < B
  rotate_left
  · rw [if_pos (if_neg c), if_pos (if_neg c)]; exact ⟨_, _, _, d, st, rfl, rfl, hz, SFC.rf, SFR.rf⟩
  have hzz : (if 0 ≤ v ∧ v < B then (1 : Int) else 0) = 1 := if_pos c
  have hs := isSound_r (HS.of hz.cd.tb) c (P := fun k => μ (b + 22) k ≠ 0) (fun k k0 k1 => hz.cd.sr k k0 k1)
  rw [hzz, if_neg (show ¬ (1 : Int) = 0 by decide), if_neg (show ¬ (1 : Int) = 0 by decide), h8, q_gd_s (bO0 hbo), bat22 hbo, if_pos (by omega), q_bd_s]
  by_cases sd : μ (b + 22) v = 0
  · rcases hs with ⟨-, y⟩ | ⟨y, -⟩
    · exact absurd sd y
    · rw [if_pos sd, y, q_bd_s, if_pos rfl]
      exact ⟨_, _, _, d, st, rfl, rfl, hz, SFC.rf, SFR.rf⟩
  rcases hs with ⟨y, -⟩ | ⟨-, y⟩
  rotate_left
  · exact absurd sd y
  rw [if_neg sd, y, q_bd_s, if_neg (by decide)]
  -- the class
  obtain ⟨μ1, a1, a2, a3⟩ := mtake_s (c := 300) (v1 := v1) (v2 := v2) (v3 := v3) (v4 := v4) (μ := μ) h.mc
  obtain ⟨μ2, b1, b2, b3⟩ := stand_s (c := 300) (m := μ1) rfl
  have bi := BI_of hz.cd.tb c
  have htt := bi.tt
  have hfn := bi.fn
  generalize hμ3 : m_st μ2 300 6 1 = μ3
  have m3 : ∀ y i, ¬ (y = 303) → ¬ (y = 300 ∧ 5 ≤ i ∧ i ≤ 11) → μ3 y i = μ y i := fun y i p q => by rw [← hμ3, m_st_d, if_neg (by omega), b3 y i (by omega), a3 y i (by omega)]
  have bi3 : BI b B v μ3 ν1 := (BI.mk (bo := bi.bo) (kk := bi.kk) (r15 := by rw [m3 _ _ (by omega) (by omega)]; exact bi.r15) (r16 := by rw [m3 _ _ (by omega) (by omega)]; exact bi.r16) (r17 := by rw [m3 _ _ (by omega) (by omega)]; exact bi.r17) (r18 := by rw [m3 _ _ (by omega) (by omega)]; exact bi.r18) (fn := bi.fn) (tt := bi.tt) (sx := bi.sx) (tk := bi.tk))
  obtain ⟨μ4, c1, c2, c3, c4, c5⟩ := enter_s (c := 300) (d := 0) h.mc (by omega) bi3 (by rw [← hμ3, m_st_i (by decide)]; exact b2 5 (by decide) (by decide))
  have m4 : ∀ y i, ¬ (301 ≤ y ∧ y ≤ 303) → ¬ (y = 300 ∧ 5 ≤ i ∧ i ≤ 11) → μ4 y i = μ y i := fun y i p q => by rw [c5 y i (by omega) (by omega) (by omega), m3 y i (by omega) q]
  have z4 : ∀ i, 7 ≤ i → i ≤ 11 → μ4 300 i = 0 := fun i p q => by rw [c5 _ _ (by omega) (by omega) (by omega), ← hμ3, m_st_i (by omega)]; exact b2 i (by omega) q
  have v4' : ∀ i, 0 ≤ i → i < 4 → μ4 303 i = if i = 0 then v1 else if i = 1 then v2 else if i = 2 then v3 else v4 := fun i p q => by
    rw [c5 _ _ (by omega) (by omega) (by omega), ← hμ3, m_st_c (by decide), b3 _ _ (by omega)]
    exact a2 i p q
  -- the reference
  generalize hν2 : m_st (m_st (m_st (m_st ν1 1047 0 v1) 1047 1 v2) 1047 2 v3) 1047 3 v4 = ν2
  generalize hν3 : m_st (m_st (m_st (m_st (m_st (m_st ν2 1000 58 0) 1000 63 0) 1000 64 0) 1000 65 0) 1000 66 0) 1000 57 1 = ν3
  have w2 : ∀ i, 0 ≤ i → i < 4 → ν2 1047 i = if i = 0 then v1 else if i = 1 then v2 else if i = 2 then v3 else v4 := fun i p q => by
    rw [← hν2]
    have : i = 0 ∨ i = 1 ∨ i = 2 ∨ i = 3 := by omega
    rcases this with z | z | z | z <;> (subst z; simp [m_st_d])
  have n2 : ∀ y i, y ≠ 1047 → ν2 y i = ν1 y i := fun y i p => by rw [← hν2, m_st_c p, m_st_c p, m_st_c p, m_st_c p]
  have n3 : ∀ y i, ¬ (y = 1000 ∧ (i = 57 ∨ i = 58 ∨ (63 ≤ i ∧ i ≤ 66))) → ν3 y i = ν2 y i := fun y i p => by rw [← hν3, m_st_d, if_neg (by omega), m_st_d, if_neg (by omega), m_st_d, if_neg (by omega), m_st_d, if_neg (by omega), m_st_d, if_neg (by omega), m_st_d, if_neg (by omega)]
  have x3 : ν3 1000 58 = 0 ∧ ν3 1000 63 = 0 ∧ ν3 1000 64 = 0 ∧ ν3 1000 65 = 0 ∧ ν3 1000 66 = 0 ∧ ν3 1000 57 = 1 := by
    rw [← hν3]
    simp [m_st_d]
  have g3 : ∀ y, 1001 ≤ y → y ≤ 1046 → ν3 y = ν1 y := fun y p q => funext fun i => by rw [n3 y i (by omega), n2 y i (by omega)]
  have bi4 : BI b B v μ ν3 := (BI.mk (bo := bi.bo) (kk := bi.kk) (r15 := by rw [g3 1017 (by decide) (by decide)]; exact bi.r15) (r16 := by rw [g3 1018 (by decide) (by decide)]; exact bi.r16) (r17 := by rw [g3 1019 (by decide) (by decide)]; exact bi.r17) (r18 := by rw [g3 1020 (by decide) (by decide)]; exact bi.r18) (fn := by rw [g3 1017 (by decide) (by decide), g3 1018 (by decide) (by decide), g3 1019 (by decide) (by decide)]; exact bi.fn) (tt := by rw [g3 1019 (by decide) (by decide)]; exact bi.tt) (sx := by rw [g3 1020 (by decide) (by decide)]; exact bi.sx) (tk := by rw [g3 1019 (by decide) (by decide), g3 1017 (by decide) (by decide), g3 1002 (by decide) (by decide), g3 1003 (by decide) (by decide)]; exact bi.tk))
  obtain ⟨ν4, d1, d2, d3, d4, d5, d6, d7⟩ := opensB_s (d := 0) (by omega) bi4 x3.1
  rw [g3 1017 (by decide) (by decide), g3 1019 (by decide) (by decide)] at d3
  rw [g3 1019 (by decide) (by decide)] at d4 d6
  have n4 : ∀ y i, ¬ (y = 1000 ∧ (i = 57 ∨ i = 58 ∨ (63 ≤ i ∧ i ≤ 66))) → ¬ (1043 ≤ y ∧ y ≤ 1047) → ν4 y i = ν1 y i := fun y i p q => by rw [d7 y i (by omega) (by omega) (by omega), n3 y i p, n2 y i (by omega)]
  have y4 : ∀ i, i ≠ 58 → ν4 1000 i = ν3 1000 i := fun i p => d7 _ _ (by omega) (by omega) (by omega)
  have sc4 : SFC 300 μ μ4 := fun y i p q w => m4 y i (by omega) p
  have sr4 : SFR ν1 ν4 := fun y i p q w => n4 y i (by omega) w
  have g := sc4.tf hbo h.mc
  have gg := sr4.tg
  have t19 := tset_s htt
  have mr : MR b 300 B W n 1 1 Wn μ4 ν4 := by
    have F : ∀ f, 0 ≤ f → f < 1 → FB1 b 300 B 1 f μ4 ν4 := by
      intro f p q
      have ef : f = 0 := by omega
      subst ef
      have cd4 : CD b B W n B Wn μ4 ν4 := hz.cd.cong g (fun c p q => gg c (Or.inl ⟨p, q⟩)) (fun c p q => gg c (Or.inr ⟨p, q⟩))
      unfold FB1
      rw [d2, d3, d4]
      refine ⟨c2, ⟨c3, t19.1⟩, fun s p0 p1 y => ?_, ?_⟩
      · have s2 := (t19.2 s p0 p1).mp y
        have e0 : (10 : Int) * 0 + s = s := by omega
        have d6' := d6 s p0 s2
        rw [e0] at d6' ⊢
        have e3 : (300 : Int) + 3 = 303 := rfl
        rw [e3, v4' s p0 (by omega), d6', n3 _ _ (by omega), w2 s p0 (by omega)]
        refine ⟨rfl, ?_⟩
        split
        · exact r1
        · split
          · exact r2
          · split
            · exact r3
            · exact r4
      · have := FO_new (w := (0 : Int) < 1 - 1) cd4 c (by rw [g (b + 22) (by omega) (by omega)]; exact sd) (by decide)
        rw [gg 1017 (by omega), gg 1019 (by omega)] at this
        exact this
    exact (MR.mk (cd := hz.cd.cong g (fun c p q => gg c (Or.inl ⟨p, q⟩)) (fun c p q => gg c (Or.inr ⟨p, q⟩))) (mc := h.mc) (dd := by omega) (c5 := c4) (r5 := d5) (c6 := by rw [c5 _ _ (by omega) (by omega) (by omega), ← hμ3, m_st_d, if_pos ⟨rfl, rfl⟩]) (r6 := by rw [y4 _ (by decide)]; exact x3.2.2.2.2.2) (s4 := by omega) (rm := by rw [m4 _ _ (by omega) (by omega), n4 _ _ (by omega) (by omega)]; exact hz.rm) (pr := by rw [m4 _ _ (by omega) (by omega), n4 _ _ (by omega) (by omega)]; exact hz.pr) (cn := fun _ => by rw [z4 8 (by decide) (by decide), z4 9 (by decide) (by decide), z4 10 (by decide) (by decide), z4 11 (by decide) (by decide), y4 63 (by decide), y4 64 (by decide), y4 65 (by decide), y4 66 (by decide), x3.2.1, x3.2.2.1, x3.2.2.2.1, x3.2.2.2.2.1]; exact ⟨rfl, rfl, rfl, rfl, by unfold r32; omega, by unfold r32; omega⟩) (cz := fun z => by omega) (gf := fun z => by omega) (nl := fun f p q => (F f p q).1) (ft := (FT.mk (d0 := by omega) (tb := fun f p q => (F f p q).2.1))) (vl := fun f s p q s0 s1 y => (F f p q).2.2.1 s s0 s1 y) (fr := fun f p q => (F f p q).2.2.2) (s1 := fun _ => by omega) (bu := by rw [m4 _ _ (by omega) (by omega)]; exact h.bu))
  obtain ⟨μ5, ν5, st5, e1, e2, e3, e4, e5, e6, -⟩ := MR_looks mr (by decide)
  refine ⟨1, μ5, ν5, 1, st5, ?_, ?_, e3, sc4.tr e5, sr4.tr e6⟩
  · have h8' : μ1 0 8 = b := by rw [a3 _ _ (by decide)]; exact h8
    unfold Mc_start
    rw [a1, q_bd_s, h8', q_gd_s (mO3 h.mc), b1, q_bd_s, q_pf_d, hμ3, c1, q_bd_s, e1, q_bd_s, q_bd_s]
  · rw [q_st_s (by decide) (by decide), q_st_s (by decide) (by decide), q_st_s (by decide) (by decide), q_st_s (by decide) (by decide), hν2, q_pf_d, q_pf_d, q_pf_d, q_pf_d, q_pf_d, q_pf_d, hν3, d1, q_bd_s, e2, q_bd_s]
