/-! given, slip, free: what decides them. -/
theorem given_s {b b' B W n d st : Int} {Wn : Int → Int} {μ ν : am_M} (x : GX b b' B W n d st Wn μ ν) : (μ 300 6 = 2 ∧ M_given ν = some (μ 300 7, m_st ν 1000 0 0)) ∨ (μ 300 6 ≠ 2 ∧ M_given ν = some (0, m_st ν 1000 0 1)) := by
  have c6 := x.mr.c6
  have r6 := x.mr.r6
  unfold M_given M_given_B14
  by_cases c : st = 2
  · refine Or.inl ⟨by omega, ?_⟩
    rw [if_pos (by omega), q_pf_d, if_neg (by rw [m_st_d, if_pos ⟨rfl, rfl⟩]; decide), m_st_i (by decide), x.mr.gf c]
  · refine Or.inr ⟨by omega, ?_⟩
    rw [if_neg (by omega), q_pf_d, if_pos (by rw [m_st_d, if_pos ⟨rfl, rfl⟩])]
theorem slip_no {p : Int} {ν : am_M} : M_slip_B42 p ν = some (0, m_st ν 1000 0 1) := by
  unfold M_slip_B42 M_slip_B43
  rw [q_pf_d, if_pos (by rw [m_st_d, if_pos ⟨rfl, rfl⟩])]
theorem slip_s2 {b b' B W n d st p : Int} {Wn : Int → Int} {μ ν : am_M} (x : GX b b' B W n d st Wn μ ν) : (μ 300 6 = 1 ∧ Mc_shows 300 p μ = some (1, μ) ∧ ∃ y, Mc_saying 300 p μ = some (y, μ) ∧ M_slip p ν = some (y, m_st ν 1000 0 0)) ∨ (μ 300 6 = 1 ∧ Mc_shows 300 p μ = some (0, μ) ∧ M_slip p ν = some (0, m_st ν 1000 0 1)) ∨ (μ 300 6 ≠ 1 ∧ M_slip p ν = some (0, m_st ν 1000 0 1)) := by
  have m := x.mr
  have c6 := m.c6
  have r6 := m.r6
  have c5 := m.c5
  have r5 := m.r5
  have dd := m.dd
  by_cases c : st = 1
  rotate_left
  · refine Or.inr (Or.inr ⟨by omega, ?_⟩)
    unfold M_slip
    rw [if_neg (by omega)]
    exact slip_no
  have d1 := m.s1 c
  have e2 : (300 : Int) + 2 = 302 := rfl
  have e3 : (300 : Int) + 3 = 303 := rfl
  have at2 : ∀ i (μ : am_M), X_at 302 i μ = some (if 0 ≤ i ∧ i < 16 then μ 302 i else 0, μ) := fun i μ => mat2 m.mc i μ
  have at3 : ∀ i (μ : am_M), X_at 303 i μ = some (if 0 ≤ i ∧ i < 160 then μ 303 i else 0, μ) := fun i μ => mat3 m.mc i μ
  unfold Mc_shows M_slip
  rw [if_pos (show ν 1000 57 = 1 by omega), within_g, q_bd_s]
  by_cases cp : 0 ≤ p ∧ p ≤ 9
  rotate_left
  · refine Or.inr (Or.inl ⟨by omega, ?_, ?_⟩)
    · by_cases c0 : p < 0
      · rw [if_pos c0]
      · rw [if_neg c0, if_neg (by omega)]
    · rw [if_pos (if_neg cp)]
      exact slip_no
  have hw : (if 0 ≤ p ∧ p ≤ 9 then (1 : Int) else 0) = 1 := if_pos cp
  have ft := m.ft.tb (d - 1) (by omega) (by omega)
  rw [e2] at ft
  rw [hw, if_neg (show ¬ (1 : Int) = 0 by decide), if_neg (show ¬ p < 0 by omega), if_pos (show p < 10 by omega), q_gd_s (mO3 m.mc), e2, at2, c5, r5, w32_i (x := d - 1) (by omega) (by omega), if_pos (by omega), q_bd_s, q_ld_s (by omega) (by omega), ft.1, bit_1 cp.1 (by omega)]
  by_cases ct : tb (ν 1045 (d - 1)) p = true
  · refine Or.inl ⟨by omega, ?_, ν 1046 (10 * (d - 1) + p), ?_, ?_⟩
    · rw [if_pos ct, if_neg (show ¬ (1 : Int) = 0 by decide)]
    · have vl := (m.vl (d - 1) p (by omega) (by omega) cp.1 (by omega) ct).1
      rw [e3] at vl
      unfold Mc_saying
      rw [q_gd_s (mO3 m.mc), e3, c5, w32_i (x := d - 1) (by omega) (by omega), w32_i (x := (d - 1) * 10) (by omega) (by omega), w32_i (x := (d - 1) * 10 + p) (by omega) (by omega), at3, if_pos (by omega), q_bd_s, ← vl]
      have e : (d - 1) * 10 + p = 10 * (d - 1) + p := by omega
      rw [e]
    · unfold M_slip_B43
      rw [if_pos ct, if_pos rfl, q_pf_d, if_neg (by rw [m_st_d, if_pos ⟨rfl, rfl⟩]; decide), m_st_i (by decide), r5, w32_i (x := d - 1) (by omega) (by omega), w32_i (x := 10 * (d - 1)) (by omega) (by omega), w32_i (x := 10 * (d - 1) + p) (by omega) (by omega), q_ld_s (by omega) (by omega), m_st_c (by decide)]
  · refine Or.inr (Or.inl ⟨by omega, ?_, ?_⟩)
    · rw [if_neg ct, if_pos rfl]
    · rw [if_neg ct, if_neg (show ¬ (0 : Int) = 1 by decide)]
      exact slip_no
theorem GX.fr {b b' B W n d st : Int} {Wn : Int → Int} {μ ν μ' ν' : am_M} (x : GX b b' B W n d st Wn μ ν) (e : SFC 310 μ μ') (q : SFF ν ν') : GX b b' B W n d st Wn μ' ν' := by
  have bb := x.bb
  have t : TF b μ μ' := fun c p q => funext fun i => e c i (by omega) (by omega) (by omega)
  have g : TH ν ν' := TG.th (fun c p => funext fun i => q c i (by omega) (by omega) (by omega))
  exact (GX.mk (ti := x.ti.mv (fun c i p q => e c i (by omega) (by omega) (by omega)) (q _ _ (by omega) (by omega) (by omega)) (funext fun i => q _ _ (by omega) (by omega) (by omega))) (s8 := by rw [e _ _ (by omega) (by omega) (by omega)]; exact x.s8) (s9 := by rw [e _ _ (by omega) (by omega) (by omega)]; exact x.s9) (bb := x.bb) (mr := x.mr2 t (fun c i p w => e c i (by omega) (by omega) (by omega)) g (fun i p => q _ _ (by omega) (by omega) (by omega)) (fun c i p w => q c i (by omega) (by omega) (by omega))) (mks := x.mk2 t (fun c i p => e c i (by omega) (by omega) (by omega)) g (fun c i p => q c i (by omega) (by omega) (by omega))) (nc := x.nc2 t (fun c i p => e c i (by omega) (by omega) (by omega)) g) (oc := x.oc2 t (fun c i p => e c i (by omega) (by omega) (by omega)) g) (bu := by rw [e _ _ (by omega) (by omega) (by omega)]; exact x.bu))
theorem SFC.tr2 {c : Int} {μ μ1 μ2 : am_M} (h : SFC c μ μ1) (h2 : SFC c μ1 μ2) : SFC c μ μ2 := fun y i p q r => by rw [h2 y i p q r, h y i p q r]
/-- given in one memory -/
theorem given_o {m : am_M} (g : GR m m) : ∃ m2, GR m2 m2 ∧ ((m 300 6 = 2 ∧ M_given m = some (m 300 7, m2) ∧ m2 1000 0 = 0) ∨ (m 300 6 ≠ 2 ∧ M_given m = some (0, m2) ∧ m2 1000 0 = 1)) := by
  obtain ⟨b, b', B, W, n, d, st, Wn, x⟩ := g
  have go : ∀ v, GR (m_st m 1000 0 v) (m_st m 1000 0 v) := fun v => GR.own ⟨b, b', B, W, n, d, st, Wn, x.z (v := v)⟩ (fun c i p => m_st_c (by omega)) (fun _ _ _ => rfl)
  rcases given_s x with ⟨a1, a2⟩ | ⟨a1, a2⟩
  · exact ⟨_, go 0, Or.inl ⟨a1, a2, by rw [m_st_d, if_pos ⟨rfl, rfl⟩]⟩⟩
  · exact ⟨_, go 1, Or.inr ⟨a1, a2, by rw [m_st_d, if_pos ⟨rfl, rfl⟩]⟩⟩
theorem slip_o {m : am_M} (p : Int) (g : GR m m) : ∃ m2, GR m2 m2 ∧ ((m 300 6 = 1 ∧ Mc_shows 300 p m = some (1, m) ∧ ∃ y, Mc_saying 300 p m = some (y, m) ∧ M_slip p m = some (y, m2) ∧ m2 1000 0 = 0) ∨ (m 300 6 = 1 ∧ Mc_shows 300 p m = some (0, m) ∧ M_slip p m = some (0, m2) ∧ m2 1000 0 = 1) ∨ (m 300 6 ≠ 1 ∧ M_slip p m = some (0, m2) ∧ m2 1000 0 = 1)) := by
  obtain ⟨b, b', B, W, n, d, st, Wn, x⟩ := g
  have go : ∀ v, GR (m_st m 1000 0 v) (m_st m 1000 0 v) := fun v => GR.own ⟨b, b', B, W, n, d, st, Wn, x.z (v := v)⟩ (fun c i p => m_st_c (by omega)) (fun _ _ _ => rfl)
  have ev : ∀ v, m_st m 1000 0 v 1000 0 = v := fun v => by rw [m_st_d, if_pos ⟨rfl, rfl⟩]
  rcases slip_s2 (p := p) x with ⟨a1, a2, y, a3, a4⟩ | ⟨a1, a2, a3⟩ | ⟨a1, a2⟩
  · exact ⟨_, go 0, Or.inl ⟨a1, a2, y, a3, a4, ev 0⟩⟩
  · exact ⟨_, go 1, Or.inr (Or.inl ⟨a1, a2, a3, ev 1⟩)⟩
  · exact ⟨_, go 1, Or.inr (Or.inr ⟨a1, a2, ev 1⟩)⟩
theorem free_o {m : am_M} (v v1 v2 v3 v4 : Int) (r1 : r32 v1) (r2 : r32 v2) (r3 : r32 v3) (r4 : r32 v4) (g : GR m m) : bOk (m 0 8) ∧ ((Bi_has (m 0 8) v m = some (0, m) ∧ ∃ m2, M_free v v1 v2 v3 v4 m = some (0, m2) ∧ m2 1000 0 = 1 ∧ GR m2 m2) ∨ (Bi_has (m 0 8) v m = some (1, m) ∧ ∃ m1 m2 m3 r m4, Mc_take 310 v1 v2 v3 v4 m = some (0, m1) ∧ Mc_start 310 (m 0 8) v m1 = some (0, m2) ∧ Mc_go 310 (m 0 8) 3000 m2 = some (r, m3) ∧ m1 0 8 = m 0 8 ∧ m2 0 8 = m 0 8 ∧ GR m4 m4 ∧ ((m3 310 6 = 2 ∧ M_free v v1 v2 v3 v4 m3 = some (m3 310 7, m4) ∧ m4 1000 0 = 0) ∨ (m3 310 6 ≠ 2 ∧ M_free v v1 v2 v3 v4 m3 = some (0, m4) ∧ m4 1000 0 = 1)))) := by
  have g0 := g
  obtain ⟨b, b', B, W, n, d, st, Wn, x⟩ := g
  have hbo := x.mr.cd.tb.bo
  have hB := x.mr.cd.tb.cB
  rw [x.s8]
  refine ⟨hbo, ?_⟩
  rw [has_s hbo hB.1]
  by_cases c : 0 ≤ v ∧ v < B
  rotate_left
  · rw [if_neg c]
    exact Or.inl ⟨rfl, _, free_no hB.2.1 c, by rw [m_st_d, if_pos ⟨rfl, rfl⟩], GR.own ⟨b, b', B, W, n, d, st, Wn, x.z (v := 1)⟩ (fun c i p => m_st_c (by omega)) (fun _ _ _ => rfl)⟩
  rw [if_pos c]
  obtain ⟨m1, m2, m3, r, ν', a1, a2, a3, a4, a5, a6, a7, a8⟩ := free_s x.mr.cd.tb c x.bu r1 r2 r3 r4
  have sc : SFC 310 m m3 := (a4.tr2 a5).tr2 a6
  have g3 : GR m m3 := g0.own (fun _ _ _ => rfl) (fun c i p => sc c i (by omega) (by omega) (by omega))
  have t3 : TB b B W n Wn m m3 := x.mr.cd.tb.cong (fun _ _ _ _ _ => rfl) (fun c i z => by unfold Lo at z; exact sc c i (by omega) (by omega) (by omega))
  obtain ⟨p1, p2, p3, r', m4, b1, b2, b3, b4, b5, b6, b7, b8⟩ := free_s t3 c x.bu r1 r2 r3 r4
  have e1 : m1 = p1 := congrArg Prod.snd (Option.some.inj (a1.symm.trans b1))
  rw [← e1] at b2
  have e2 : m2 = p2 := congrArg Prod.snd (Option.some.inj (a2.symm.trans b2))
  rw [← e2] at b3
  have e3 : m3 = p3 := congrArg Prod.snd (Option.some.inj (a3.symm.trans b3))
  rw [← e3] at b8
  have x3 : GX b b' B W n d st Wn m m3 := by
    have th : TH m m3 := ⟨fun c i z => by unfold Lo at z; exact sc c i (by omega) (by omega) (by omega), fun c p q => funext fun i => sc c i (by omega) (by omega) (by omega)⟩
    have t : TF b m m := fun _ _ _ => rfl
    exact (GX.mk (ti := x.ti.mv (fun _ _ _ _ => rfl) (sc _ _ (by omega) (by omega) (by omega)) (funext fun i => sc _ _ (by omega) (by omega) (by omega))) (s8 := x.s8) (s9 := x.s9) (bb := x.bb) (mr := x.mr2 t (fun _ _ _ _ => rfl) th (fun i p => sc _ _ (by omega) (by omega) (by omega)) (fun c i p w => sc c i (by omega) (by omega) (by omega))) (mks := x.mk2 t (fun _ _ _ => rfl) th (fun c i p => sc c i (by omega) (by omega) (by omega))) (nc := x.nc2 t (fun _ _ _ => rfl) th) (oc := x.oc2 t (fun _ _ _ => rfl) th) (bu := x.bu))
  have x4 : GX b b' B W n d st Wn m3 m4 := (x3.z (v := m4 1000 0)).fr sc b7
  have g4 : GR m4 m4 := GR.own ⟨b, b', B, W, n, d, st, Wn, x4⟩ (fun c i p => by rw [b7 c i (by omega) (by omega) (by omega)]; exact m_st_c (by omega)) (fun _ _ _ => rfl)
  refine Or.inr ⟨rfl, m1, m2, m3, r, m4, a1, a2, a3, by rw [a4 _ _ (by omega) (by omega) (by omega)]; exact x.s8, by rw [a5 _ _ (by omega) (by omega) (by omega), a4 _ _ (by omega) (by omega) (by omega)]; exact x.s8, g4, ?_⟩
  rcases b8 with ⟨y1, y2, y3⟩ | ⟨y1, y2, y3⟩
  · exact Or.inl ⟨y1, y2, y3⟩
  · exact Or.inr ⟨y1, y2, y3⟩
