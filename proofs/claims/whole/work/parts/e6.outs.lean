/-! given, slip, free in one memory, what the class answers written into the law's own row. -/
theorem GX.ow {b b' B W n d st : Int} {Wn : Int → Int} {μ ν μ' ν' : am_M} (x : GX b b' B W n d st Wn μ ν) (e : ∀ c i, c ≠ 2000 → μ' c i = μ c i) (q : ∀ c i, c ≠ 2000 → ν' c i = ν c i) : GX b b' B W n d st Wn μ' ν' := by
  have bb := x.bb
  have t : TF b μ μ' := fun c p q => funext fun i => e c i (by omega)
  have g : TH ν ν' := TG.th (fun c p => funext fun i => q c i (by omega))
  exact (GX.mk (ti := x.ti.mv (fun c i p q => e c i (by omega)) (q _ _ (by omega)) (funext fun i => q _ _ (by omega))) (s8 := by rw [e _ _ (by omega)]; exact x.s8) (s9 := by rw [e _ _ (by omega)]; exact x.s9) (bb := x.bb) (mr := x.mr2 t (fun c i p w => e c i (by omega)) g (fun i p => q _ _ (by omega)) (fun c i p w => q c i (by omega))) (mks := x.mk2 t (fun c i p => e c i (by omega)) g (fun c i p => q c i (by omega))) (nc := x.nc2 t (fun c i p => e c i (by omega)) g) (oc := x.oc2 t (fun c i p => e c i (by omega)) g) (bu := by rw [e _ _ (by omega)]; exact x.bu))
theorem given_q {m : am_M} (g : GR m m) : ∃ m2, GR m2 m2 ∧ ((m 300 6 = 2 ∧ M_given (m_st m 2000 0 (m 300 7)) = some (m 300 7, m2) ∧ m2 1000 0 = 0 ∧ m2 2000 0 = m 300 7) ∨ (m 300 6 ≠ 2 ∧ M_given m = some (0, m2) ∧ m2 1000 0 = 1)) := by
  by_cases h : m 300 6 = 2
  · obtain ⟨b, b', B, W, n, d, st, Wn, x⟩ := g
    have o : ∀ c i, c ≠ 2000 → m_st m 2000 0 (m 300 7) c i = m c i := fun c i p => m_st_c p
    have x1 := x.ow (μ' := m) (fun _ _ _ => rfl) o
    have x2 := x.ow o o
    rcases given_s x1 with ⟨a1, a2⟩ | ⟨a1, a2⟩
    · exact ⟨_, GR.own ⟨b, b', B, W, n, d, st, Wn, x2.z (v := 0)⟩ (fun c i p => m_st_c (by omega)) (fun _ _ _ => rfl), Or.inl ⟨a1, a2, by rw [m_st_d, if_pos ⟨rfl, rfl⟩], by rw [m_st_c (by decide), m_st_d, if_pos ⟨rfl, rfl⟩]⟩⟩
    · exact absurd h a1
  · obtain ⟨m2, g2, a⟩ := given_o g
    rcases a with ⟨a1, -⟩ | ⟨a1, a2, a3⟩
    · exact absurd a1 h
    · exact ⟨m2, g2, Or.inr ⟨a1, a2, a3⟩⟩
theorem slip_q {m : am_M} (p : Int) (g : GR m m) : ∃ m2, GR m2 m2 ∧ ((m 300 6 = 1 ∧ Mc_shows 300 p m = some (1, m) ∧ ∃ y, Mc_saying 300 p m = some (y, m) ∧ M_slip p (m_st m 2000 0 y) = some (y, m2) ∧ m2 1000 0 = 0 ∧ m2 2000 0 = y) ∨ ((m 300 6 ≠ 1 ∨ (m 300 6 = 1 ∧ Mc_shows 300 p m = some (0, m))) ∧ M_slip p m = some (0, m2) ∧ m2 1000 0 = 1)) := by
  obtain ⟨b, b', B, W, n, d, st, Wn, x⟩ := g
  have g0 : GR m m := ⟨b, b', B, W, n, d, st, Wn, x⟩
  rcases slip_s2 (p := p) x with ⟨a1, a2, y, a3, a4⟩ | ⟨a1, a2, a3⟩ | ⟨a1, a2⟩
  · have o : ∀ c i, c ≠ 2000 → m_st m 2000 0 y c i = m c i := fun c i p => m_st_c p
    have x1 := x.ow (μ' := m) (fun _ _ _ => rfl) o
    have x2 := x.ow o o
    rcases slip_s2 (p := p) x1 with ⟨c1, c2, y', c3, c4⟩ | ⟨c1, c2, c3⟩ | ⟨c1, c2⟩
    · have ey : y = y' := congrArg Prod.fst (Option.some.inj (a3.symm.trans c3))
      subst ey
      exact ⟨_, GR.own ⟨b, b', B, W, n, d, st, Wn, x2.z (v := 0)⟩ (fun c i p => m_st_c (by omega)) (fun _ _ _ => rfl), Or.inl ⟨a1, a2, y, a3, c4, by rw [m_st_d, if_pos ⟨rfl, rfl⟩], by rw [m_st_c (by decide), m_st_d, if_pos ⟨rfl, rfl⟩]⟩⟩
    · have e1 : (1 : Int) = 0 := congrArg Prod.fst (Option.some.inj (a2.symm.trans c2))
      exact absurd e1 (by decide)
    · exact absurd a1 c1
  · exact ⟨_, GR.own ⟨b, b', B, W, n, d, st, Wn, x.z (v := 1)⟩ (fun c i p => m_st_c (by omega)) (fun _ _ _ => rfl), Or.inr ⟨Or.inr ⟨a1, a2⟩, a3, by rw [m_st_d, if_pos ⟨rfl, rfl⟩]⟩⟩
  · exact ⟨_, GR.own ⟨b, b', B, W, n, d, st, Wn, x.z (v := 1)⟩ (fun c i p => m_st_c (by omega)) (fun _ _ _ => rfl), Or.inr ⟨Or.inl a1, a2, by rw [m_st_d, if_pos ⟨rfl, rfl⟩]⟩⟩
theorem free_q {m : am_M} (v v1 v2 v3 v4 : Int) (r1 : r32 v1) (r2 : r32 v2) (r3 : r32 v3) (r4 : r32 v4) (g : GR m m) : bOk (m 0 8) ∧ ((Bi_has (m 0 8) v m = some (0, m) ∧ ∃ m2, M_free v v1 v2 v3 v4 m = some (0, m2) ∧ m2 1000 0 = 1 ∧ GR m2 m2) ∨ (Bi_has (m 0 8) v m = some (1, m) ∧ ∃ m1 m2 m3 r m4, Mc_take 310 v1 v2 v3 v4 m = some (0, m1) ∧ Mc_start 310 (m1 0 8) v m1 = some (0, m2) ∧ Mc_go 310 (m2 0 8) 3000 m2 = some (r, m3) ∧ GR m4 m4 ∧ ((m3 310 6 = 2 ∧ M_free v v1 v2 v3 v4 (m_st m3 2000 0 (m3 310 7)) = some (m3 310 7, m4) ∧ m4 1000 0 = 0 ∧ m4 2000 0 = m3 310 7) ∨ (m3 310 6 ≠ 2 ∧ M_free v v1 v2 v3 v4 m3 = some (0, m4) ∧ m4 1000 0 = 1)))) := by
  have g0 := g
  obtain ⟨b, b', B, W, n, d, st, Wn, x⟩ := g
  have hbo := x.mr.cd.tb.bo
  have hB := x.mr.cd.tb.cB
  rw [x.s8]
  refine ⟨hbo, ?_⟩
  rw [has_s hbo hB.1]
  by_cases c : 0 ≤ v ∧ v < B
  rotate_left
  · rw [if_neg c]
    exact Or.inl ⟨rfl, _, free_no hB.2.1 c, by rw [m_st_d, if_pos ⟨rfl, rfl⟩], GR.own ⟨b, b', B, W, n, d, st, Wn, x.z (v := 1)⟩ (fun c i p => m_st_c (by omega)) (fun _ _ _ => rfl)⟩
  rw [if_pos c]
  obtain ⟨m1, m2, m3, r, ν', a1, a2, a3, a4, a5, a6, a7, a8⟩ := free_s x.mr.cd.tb c x.bu r1 r2 r3 r4
  have sc : SFC 310 m m3 := (a4.tr2 a5).tr2 a6
  have s1 : m1 0 8 = b := by rw [a4 _ _ (by omega) (by omega) (by omega)]; exact x.s8
  have s2 : m2 0 8 = b := by rw [a5 _ _ (by omega) (by omega) (by omega)]; exact s1
  obtain ⟨n3, hn, hv⟩ : ∃ n3 : am_M, (∀ c i, c ≠ 2000 → n3 c i = m3 c i) ∧ ((m3 310 6 = 2 ∧ n3 = m_st m3 2000 0 (m3 310 7)) ∨ (m3 310 6 ≠ 2 ∧ n3 = m3)) := by
    by_cases z : m3 310 6 = 2
    · exact ⟨_, fun c i p => m_st_c p, Or.inl ⟨z, rfl⟩⟩
    · exact ⟨m3, fun _ _ _ => rfl, Or.inr ⟨z, rfl⟩⟩
  have sn : ∀ y i, ¬ (y = 310 ∧ 5 ≤ i ∧ i ≤ 11) → ¬ (311 ≤ y ∧ y ≤ 313) → y ≠ 41 → y ≠ 2000 → n3 y i = m y i := fun y i p1 p2 p3 p4 => by rw [hn y i p4]; exact sc y i p1 (by omega) p3
  have t3 : TB b B W n Wn m n3 := x.mr.cd.tb.cong (fun _ _ _ _ _ => rfl) (fun c i z => by unfold Lo at z; exact sn c i (by omega) (by omega) (by omega) (by omega))
  obtain ⟨p1, p2, p3, r', m4, b1, b2, b3, b4, b5, b6, b7, b8⟩ := free_s t3 c x.bu r1 r2 r3 r4
  have e1 : m1 = p1 := congrArg Prod.snd (Option.some.inj (a1.symm.trans b1))
  rw [← e1] at b2
  have e2 : m2 = p2 := congrArg Prod.snd (Option.some.inj (a2.symm.trans b2))
  rw [← e2] at b3
  have e3 : m3 = p3 := congrArg Prod.snd (Option.some.inj (a3.symm.trans b3))
  rw [← e3] at b8
  have x3 : GX b b' B W n d st Wn m n3 := by
    have th : TH m n3 := ⟨fun c i z => by unfold Lo at z; exact sn c i (by omega) (by omega) (by omega) (by omega), fun c p q => funext fun i => sn c i (by omega) (by omega) (by omega) (by omega)⟩
    have t : TF b m m := fun _ _ _ => rfl
    exact (GX.mk (ti := x.ti.mv (fun _ _ _ _ => rfl) (sn _ _ (by omega) (by omega) (by omega) (by omega)) (funext fun i => sn _ _ (by omega) (by omega) (by omega) (by omega))) (s8 := x.s8) (s9 := x.s9) (bb := x.bb) (mr := x.mr2 t (fun _ _ _ _ => rfl) th (fun i p => sn _ _ (by omega) (by omega) (by omega) (by omega)) (fun c i p w => sn c i (by omega) (by omega) (by omega) (by omega))) (mks := x.mk2 t (fun _ _ _ => rfl) th (fun c i p => sn c i (by omega) (by omega) (by omega) (by omega))) (nc := x.nc2 t (fun _ _ _ => rfl) th) (oc := x.oc2 t (fun _ _ _ => rfl) th) (bu := x.bu))
  have x4 : GX b b' B W n d st Wn m3 m4 := (x3.z (v := m4 1000 0)).fr sc b7
  have g4 : GR m4 m4 := GR.own ⟨b, b', B, W, n, d, st, Wn, x4⟩ (fun c i p => by rw [b7 c i (by omega) (by omega) (by omega), m_st_c (by omega)]; exact hn c i (by omega)) (fun _ _ _ => rfl)
  refine Or.inr ⟨rfl, m1, m2, m3, r, m4, a1, by rw [s1]; exact a2, by rw [s2]; exact a3, g4, ?_⟩
  rcases hv with ⟨z, e⟩ | ⟨z, e⟩
  · rcases b8 with ⟨y1, y2, y3⟩ | ⟨y1, -⟩
    · refine Or.inl ⟨y1, by rw [← e]; exact y2, y3, ?_⟩
      rw [b7 2000 0 (by omega) (by omega) (by omega), m_st_c (by decide), e, m_st_d, if_pos ⟨rfl, rfl⟩]
    · exact absurd z y1
  · rcases b8 with ⟨y1, -⟩ | ⟨y1, y2, y3⟩
    · exact absurd y1 z
    · exact Or.inr ⟨y1, by rw [← e]; exact y2, y3⟩
