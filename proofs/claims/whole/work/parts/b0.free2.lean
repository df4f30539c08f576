/-! Free use, both sides: lines. -/
noncomputable def rF (d l : Int) (ν : am_M) : am_M := m_st ν 1049 (d - 1) (l + 1)
theorem rF_f {d l y i : Int} {ν : am_M} (h : ¬ (y = 1049 ∧ i = d - 1)) : rF d l ν y i = ν y i := by
  unfold rF
  rw [m_st_d, if_neg h]
theorem rF_n {d l : Int} {ν : am_M} : rF d l ν 1049 (d - 1) = l + 1 := by
  unfold rF
  rw [m_st_d, if_pos ⟨rfl, rfl⟩]
noncomputable def cF (d l : Int) (μ : am_M) : am_M := m_st μ 311 (d - 1) (l + 1)
theorem cF_f {d l y i : Int} {μ : am_M} (h : ¬ (y = 311 ∧ i = d - 1)) : cF d l μ y i = μ y i := by
  unfold cF
  rw [m_st_d, if_neg h]
theorem cF_n {d l : Int} {μ : am_M} : cF d l μ 311 (d - 1) = l + 1 := by
  unfold cF
  rw [m_st_d, if_pos ⟨rfl, rfl⟩]
def KF (b B W n d l kd : Int) (Wn : Int → Int) (μ ν : am_M) : Prop := ∃ μ2 ν2 d', Mc_workKind 310 b l kd (cF d l μ) = some (0, μ2) ∧ M_worksFree_B44 (d - 1) l ν = some (1, ν2) ∧ FM b B W n d' Wn μ2 ν2 ∧ SFC 310 μ μ2 ∧ SFF ν ν2
theorem KF.top {b B W n d k l x kd : Int} {Wn : Int → Int} {r : List Int} {μ ν μ2 ν2 : am_M} (h : FTP b B W n d k l x Wn r μ ν) (l' x' : Int)
    (e1 : Mc_workKind 310 b l kd (cF d l μ) = some (0, μ2)) (e2 : M_worksFree_B44 (d - 1) l ν = some (1, ν2))
    (c1 : μ2 311 (d - 1) = l') (c2 : μ2 312 (d - 1) = x')
    (cf : ∀ y i, ¬ (y = 310 ∧ (i = 9 ∨ i = 10)) → ¬ (y = 311 ∧ i = d - 1) → ¬ (y = 312 ∧ i = d - 1) → ¬ (y = 313 ∧ 10 * (d - 1) ≤ i) → y ≠ 41 → μ2 y i = μ y i)
    (r1 : ν2 1049 (d - 1) = l') (r2 : ν2 1050 (d - 1) = x')
    (rf : ∀ y i, ¬ (1024 ≤ y ∧ y ≤ 1033) → ¬ (y = 1049 ∧ i = d - 1) → ¬ (y = 1050 ∧ i = d - 1) → ¬ (y = 1051 ∧ 10 * (d - 1) ≤ i) → ν2 y i = ν y i)
    (cv : ∀ s, 0 ≤ s → s < 10 → tb x' s = true → μ2 313 (10 * (d - 1) + s) = ν2 1051 (10 * (d - 1) + s) ∧ r32 (ν2 1051 (10 * (d - 1) + s)))
    (sx : S10 x') (lr : ν 1017 k + ν 1019 k ≤ l' ∧ l' < ν 1017 k + ν 1018 k) : KF b B W n d l kd Wn μ ν := by
  have m := h.fm
  have hd := m.dd
  have hd1 := h.d1
  have hbo := h.bi.bo
  have sc : SFC 310 μ μ2 := fun y i p q w => cf y i (by omega) (by omega) (by omega) (by omega) w
  have sr : SFF ν ν2 := fun y i p q w => rf y i q (by omega) (by omega) (by omega)
  have g := sc.tf hbo m310
  have gg := sr.tg
  have cm : ∀ i, ¬ (9 ≤ i ∧ i ≤ 10) → μ2 310 i = μ 310 i := fun i z => cf 310 i (by omega) (by omega) (by omega) (by omega) (by omega)
  have rm : ∀ i, ν2 1000 i = ν 1000 i := fun i => rf 1000 i (by omega) (by omega) (by omega) (by omega)
  refine ⟨μ2, ν2, d, e1, e2, ?_, sc, sr⟩
  refine m.gen (d - 1) (by omega) (Or.inr (Int.le_refl _)) hd g gg (by rw [cm 5 (by omega)]; exact m.c5) (by rw [rm 73]; exact m.r5) (fun z => by rw [cm 6 (by omega)]; exact m.s1 z) (fun z => by omega) (cm 1 (by omega)) (fun y i p q => cf y i (by omega) (by omega) (by omega) (by omega) (by omega)) (fun i p => cf _ i (by omega) (by omega) (by omega) (by omega) (by omega)) (fun y i p q w => rf y i (by omega) (by omega) (by omega) (by omega)) (fun i p => rf _ i (by omega) (by omega) (by omega) (by omega)) ?_
  intro f p q
  have e : f = d - 1 := by omega
  subst e
  unfold FF
  rw [r1, r2]
  refine ⟨c1, ⟨c2, sx⟩, cv, k, ⟨h.bi.kk.1, h.bi.kk.2.1⟩, ?_, fun z => by omega⟩
  rw [gg 1017 (by omega), gg 1018 (by omega), gg 1019 (by omega)]; exact lr
theorem FTP.vr {b B W n d k l x : Int} {Wn : Int → Int} {r : List Int} {μ ν : am_M} (h : FTP b B W n d k l x Wn r μ ν) (ht : ∀ s ∈ r, tb x s = true) : ∀ s ∈ r, (0 ≤ s ∧ s < 10) ∧ μ 313 (10 * (d - 1) + s) = ν 1051 (10 * (d - 1) + s) ∧ r32 (ν 1051 (10 * (d - 1) + s)) := fun s hs => by
  have hd1 := h.d1
  have s0 := h.li.ck.rl.sl s hs
  refine ⟨s0, (h.fm.fb (d - 1) (by omega) (by omega)).2.2.1 s s0.1 s0.2 ?_⟩
  rw [h.ex]
  exact ht s hs
theorem FTP.rc {b B W n d k l x : Int} {Wn : Int → Int} {r L : List Int} {μ ν : am_M} (h : FTP b B W n d k l x Wn r μ ν) (ht : ∀ s ∈ r, tb x s = true) (he : EE b l W Wn r L μ ν) : ∃ v μ' ν', r32 v ∧ Mc_reckoned 310 (b + 1) l (cF d l μ) = some (v, μ') ∧ (∀ y i, y ≠ 41 → μ' y i = cF d l μ y i) ∧ M_reckons l (10 * (d - 1)) 1 (rF d l ν) = some (v, ν') ∧ (∀ y i, ¬ (1024 ≤ y ∧ y ≤ 1033) → ν' y i = rF d l ν y i) := by
  have hd := h.fm.dd
  have hd1 := h.d1
  have hb' : b = 100 ∨ b = 200 := h.bi.bo
  have e1 : EE b l W Wn r L (cF d l μ) (rF d l ν) := he.cong (fun y p q => funext fun i => cF_f (by omega)) (fun y p => funext fun i => rF_f (by omega))
  obtain ⟨μ', a1, a2⟩ := EE_c (V := fun s => ν 1051 (10 * (d - 1) + s)) e1 (mA3 m310) (mK3 m310) (by decide) (o := 10 * (d - 1)) (by omega) (fun s hs => (h.vr ht s hs).1) (fun s hs => by
    rw [cF_f (by omega)]
    exact (h.vr ht s hs).2)
  obtain ⟨ν', b1, b2⟩ := EE_r (V := fun s => ν 1051 (10 * (d - 1) + s)) (v := 1) (A := 1051) e1 (o := 10 * (d - 1)) (by omega) (Or.inr ⟨rfl, rfl⟩) (fun s hs => rF_f (by omega))
  exact ⟨_, μ', ν', ifx_r, mreck_s m310 (d := d) (by omega) (by rw [cF_f (by omega)]; exact h.fm.c5) a1, a2, b1, b2⟩
theorem FTP.vl {b B W n d k l x : Int} {Wn : Int → Int} {r : List Int} {μ ν : am_M} (h : FTP b B W n d k l x Wn r μ ν) : ∀ s, 0 ≤ s → s < 10 → tb x s = true → μ 313 (10 * (d - 1) + s) = ν 1051 (10 * (d - 1) + s) ∧ r32 (ν 1051 (10 * (d - 1) + s)) := fun s p q y => by
  have hd1 := h.d1
  exact (h.fm.fb (d - 1) (by omega) (by omega)).2.2.1 s p q (by rw [h.ex]; exact y)
theorem FTP.q2 {b B W n d k l x : Int} {Wn : Int → Int} {r : List Int} {μ ν : am_M} (h : FTP b B W n d k l x Wn r μ ν) (K : Int → am_O) : q_ld 120 1002 l (rF d l ν) K = K (ν 1002 l) := by
  have l0 := h.li.ck.l0
  rw [q_ld_s (by omega) (by omega), rF_f (by omega)]
theorem FTP.tx {b B W n d k l x : Int} {Wn : Int → Int} {r : List Int} {μ ν : am_M} (h : FTP b B W n d k l x Wn r μ ν) : μ 312 (d - 1) = x := by
  have hd1 := h.d1
  rw [← h.ex]
  exact (h.fm.fb (d - 1) (by omega) (by omega)).2.1.1
theorem kf_let {b B W n d k l x : Int} {Wn : Int → Int} {r : List Int} {μ ν : am_M} (h : FTP b B W n d k l x Wn r μ ν) (hk : ν 1002 l = 1) (ht : ∀ s ∈ r, tb x s = true) : KF b B W n d l 1 Wn μ ν := by
  have hd := h.fm.dd
  have hd1 := h.d1
  have hbo := h.bi.bo
  have hb' : b = 100 ∨ b = 200 := hbo
  have l0 := h.li.ck.l0
  have hla := h.li.ck.la
  have hbe := h.li.ck.be
  have s0 := h.li.la.mpr (Or.inl hk)
  have be1 : ν 1004 l = -1 := by have := h.li.be; omega
  have rg := h.li.rg
  have le : l < ν 1017 k + ν 1018 k - 1 := by have := h.li.k8; omega
  obtain ⟨L, he⟩ := h.li.ee (by unfold hE; omega)
  obtain ⟨v, μ2, ν2, hvr, a1, a2, b1, b2⟩ := h.rc ht he
  have m2 : ∀ y i, ¬ (y = 311 ∧ i = d - 1) → y ≠ 41 → μ2 y i = μ y i := fun y i p z => by rw [a2 y i z, cF_f p]
  have n2 : ∀ y i, ¬ (y = 1049 ∧ i = d - 1) → ¬ (1024 ≤ y ∧ y ≤ 1033) → ν2 y i = ν y i := fun y i p z => by rw [b2 y i z, rF_f p]
  obtain ⟨μ3, c1, c2, c3, c4⟩ := mlay_s (c := 310) (d := d) (s := ν 1003 l) (v := v) (x := x) (μ := μ2) m310 (by omega) (by rw [m2 _ _ (by omega) (by omega)]; exact h.fm.c5) (by rw [m2 _ _ (by omega) (by omega)]; exact h.tx) ⟨s0, hla.2.2⟩
  obtain ⟨ν3, d1, d2, d3, d4⟩ := laysF_s (f := d - 1) (s := ν 1003 l) (v := v) (ν := ν2) (by omega) ⟨s0, hla.2.2⟩
  rw [n2 _ _ (by omega) (by omega), h.ex] at d2
  have f4 : ∀ w y i, ¬ (y = 310 ∧ i = 10) → m_st μ3 310 10 w y i = μ3 y i := fun w y i z => by rw [m_st_d, if_neg z]
  have eC : ∃ w, Mc_workKind 310 b l 1 (cF d l μ) = some (0, m_st μ3 310 10 w) := by
    have e3 : b + 1 + 2 = b + 3 := by omega
    have e4 : b + 1 + 3 = b + 4 := by omega
    refine ⟨w32 (μ3 310 10 + 0), ?_⟩
    unfold Mc_workKind Mc_workKind_B60 Mc_workKind_B117
    rw [q_gd_s (bO0 hbo), q_gd_s (mO3 m310), if_pos rfl, q_gd_s (mO3 m310), a1, q_bd_s, q_gd_s (bO2 hbo), e3, e4, bat3 hbo, if_pos l0, q_bd_s, m2 _ _ (by omega) (by omega), hla.1, c1, q_bd_s, bat4 hbo, if_pos l0, q_bd_s, c4 _ _ (by omega) (by omega), m2 _ _ (by omega) (by omega), hbe.1, be1, mlay_n, q_bd_s, if_neg (by decide), q_gd_s (mO3 m310), q_pf_d]
  obtain ⟨w, eC⟩ := eC
  have eR : M_worksFree_B44 (d - 1) l ν = some (1, ν3) := by
    have er : m_st ν 1049 (d - 1) (l + 1) = rF d l ν := rfl
    unfold M_worksFree_B44
    rw [w32_i (x := l + 1) (by omega) (by omega), q_st_s (by omega) (by omega), er, h.q2, if_pos hk, q_ld_s (by omega) (by omega), rF_f (by omega), w32_i (x := 10 * (d - 1)) (by omega) (by omega), b1, q_bd_s, d1, q_bd_s]
  refine KF.top h (l + 1) (aOr x (aShl 1 (ν 1003 l))) eC eR (by rw [f4 _ _ _ (by omega), c4 _ _ (by omega) (by omega), a2 _ _ (by omega)]; exact cF_n) (by rw [f4 _ _ _ (by omega)]; exact c2) (fun y i p q w z u => by rw [f4 _ y i (by omega), c4 y i (by omega) (by omega), m2 y i q u]) (by rw [d4 _ _ (by omega) (by omega), b2 _ _ (by omega)]; exact rF_n) d2 (fun y i q w z u => by rw [d4 y i z (by omega), n2 y i w q]) ?_ (S10_or h.sx (S10_shl s0 hla.2.2)) (by omega)
  intro s p q y
  rw [f4 _ _ _ (by omega)]
  by_cases z : s = ν 1003 l
  · rw [z, d3]
    exact ⟨c3, hvr⟩
  · have y1 := ((lay_tb ⟨s0, hla.2.2⟩ p q).mp y).elim (fun w => w) (fun w => absurd w z)
    rw [c4 _ _ (by omega) (by omega), d4 _ _ (by omega) (by omega), m2 _ _ (by omega) (by omega), n2 _ _ (by omega) (by omega)]
    exact h.vl s p q y1
theorem one_f {b B W n d k l x s : Int} {Wn : Int → Int} {r : List Int} {μ ν : am_M} (h : FTP b B W n d k l x Wn r μ ν) (hk : ¬ hE (ν 1002 l)) (hr : r = [s]) (hs : ν 1007 (4 * l) = s) (ht : ∀ s ∈ r, tb x s = true) : ∃ μ', Mc_reckoned 310 (b + 1) l (cF d l μ) = some (ν 1051 (10 * (d - 1) + s), μ') ∧ (∀ y i, y ≠ 41 → μ' y i = cF d l μ y i) := by
  have hd := h.fm.dd
  have hd1 := h.d1
  have hb' : b = 100 ∨ b = 200 := h.bi.bo
  obtain ⟨c1, c2, c3, c4⟩ := h.li.cs hk
  have s0 := h.vr ht s (by rw [hr]; exact List.mem_cons_self)
  have c4 := c4 0 (by rw [hr]; exact Nat.one_pos)
  have hl : (r.length : Nat) = 1 := by rw [hr]; rfl
  have e0 : ((0 : Nat) : Int) = 0 := rfl
  have e1 : μ (b + 9) l + 0 = μ (b + 9) l := by omega
  have e2 : 4 * l + 0 = 4 * l := by omega
  rw [e0, e1, e2, hs] at c4
  have g : ∀ y, b + 9 ≤ y → y ≤ b + 11 → cF d l μ y = μ y := fun y p q => funext fun i => cF_f (by omega)
  obtain ⟨v, μ', a1, a2, a3⟩ := reckon_C (b := b) (l := l) (x := 310 + 3) (o := 10 * (d - 1)) (env := fun t => cF d l μ 313 (10 * (d - 1) + t)) (C := [2 + s * 128]) (μ := cF d l μ) h.bi.bo h.li.ck.l0 (mA3 m310) (mK3 m310) (by decide) (by omega) (by rw [g _ (by omega) (by omega), g _ (by omega) (by omega)]; exact ⟨c4, trivial⟩) (by rw [g _ (by omega) (by omega), g _ (by omega) (by omega), c1, hl]; rfl) (fun w hw => by
      rw [List.mem_singleton] at hw
      rw [hw]; unfold cOk; omega) (fun t ht => by
      rw [nm_c, if_pos (by omega)] at ht
      rcases List.mem_cons.mp ht with z | z
      · omega
      · cases z) (by rw [g _ (by omega) (by omega)]; exact c2) (by rw [g _ (by omega) (by omega)]; exact c3) (by
      show (if (2 + s * 128) % 128 = 2 ∨ (2 + s * 128) % 128 = 3 then (if (0 : Int) + 1 ≤ 64 then some ((0 : Int) + 1) else none) else _) = _
      rw [if_pos (by omega)]; rfl) (fun _ _ => rfl)
  have ev : evR (fun t => cF d l μ 313 (10 * (d - 1) + t)) [2 + s * 128].reverse = [cF d l μ 313 (10 * (d - 1) + (2 + s * 128) / 128)] := by
    show stp _ (2 + s * 128) [] = _
    unfold stp
    rw [if_neg (by omega), if_pos (by omega)]
  rw [ev] at a2
  injection a2 with a2
  have e3 : (2 + s * 128) / 128 = s := by omega
  rw [e3, cF_f (by omega), s0.2.1] at a2
  exact ⟨μ', mreck_s (d := d) m310 (by omega) (by rw [cF_f (by omega)]; exact h.fm.c5) (by rw [a1, ← a2]), a3⟩
theorem kf_twin {b B W n d k l x : Int} {Wn : Int → Int} {r : List Int} {μ ν : am_M} (h : FTP b B W n d k l x Wn r μ ν) (hk : ν 1002 l = 2) (ht : ∀ s ∈ r, tb x s = true) : KF b B W n d l 2 Wn μ ν := by
  have hd := h.fm.dd
  have hd1 := h.d1
  have hbo := h.bi.bo
  have hb' : b = 100 ∨ b = 200 := hbo
  have l0 := h.li.ck.l0
  have hla := h.li.ck.la
  have hbe := h.li.ck.be
  have s0 := h.li.la.mpr (Or.inr (Or.inl hk))
  have s1 := h.li.be.mpr hk
  have rg := h.li.rg
  have le : l < ν 1017 k + ν 1018 k - 1 := by have := h.li.k8; omega
  obtain ⟨s, r1, r2, r3⟩ := one_r h.li (Or.inl hk)
  have hvs := h.vr ht s (by rw [r1]; exact List.mem_cons_self)
  obtain ⟨μ2, a1, a2⟩ := one_f h (by unfold hE; omega) r1 r2 ht
  generalize hv : ν 1051 (10 * (d - 1) + s) = v at *
  have hvr : r32 v := hvs.2.2
  have m2 : ∀ y i, ¬ (y = 311 ∧ i = d - 1) → y ≠ 41 → μ2 y i = μ y i := fun y i p z => by rw [a2 y i z, cF_f p]
  have m5 : μ2 310 5 = d := by rw [m2 _ _ (by omega) (by omega)]; exact h.fm.c5
  obtain ⟨μ3, c1, c2, c3, c4⟩ := mlay_s (c := 310) (d := d) (s := ν 1003 l) (v := v) (x := x) (μ := μ2) m310 (by omega) m5 (by rw [m2 _ _ (by omega) (by omega)]; exact h.tx) ⟨s0, hla.2.2⟩
  obtain ⟨μ4, g1, g2, g3, g4⟩ := mlay_s (c := 310) (d := d) (s := ν 1004 l) (v := v) (x := aOr x (aShl 1 (ν 1003 l))) (μ := μ3) m310 (by omega) (by rw [c4 _ _ (by omega) (by omega)]; exact m5) c2 ⟨s1, hbe.2.2⟩
  obtain ⟨ν3, d1, d2, d3, d4⟩ := laysF_s (f := d - 1) (s := ν 1003 l) (v := v) (ν := rF d l ν) (by omega) ⟨s0, hla.2.2⟩
  obtain ⟨ν4, e1, e2, e3, e4⟩ := laysF_s (f := d - 1) (s := ν 1004 l) (v := v) (ν := ν3) (by omega) ⟨s1, hbe.2.2⟩
  rw [rF_f (by omega), h.ex] at d2
  rw [d2] at e2
  have f4 : ∀ w y i, ¬ (y = 310 ∧ i = 10) → m_st μ4 310 10 w y i = μ4 y i := fun w y i z => by rw [m_st_d, if_neg z]
  have eC : ∃ w, Mc_workKind 310 b l 2 (cF d l μ) = some (0, m_st μ4 310 10 w) := by
    have e3 : b + 1 + 2 = b + 3 := by omega
    have e4 : b + 1 + 3 = b + 4 := by omega
    refine ⟨w32 (μ4 310 10 + μ4 310 13), ?_⟩
    unfold Mc_workKind Mc_workKind_B60 Mc_workKind_B117
    rw [q_gd_s (bO0 hbo), q_gd_s (mO3 m310), if_neg (by decide), if_pos rfl, q_gd_s (mO3 m310), a1, q_bd_s, q_gd_s (bO2 hbo), e3, e4, bat3 hbo, if_pos l0, q_bd_s, m2 _ _ (by omega) (by omega), hla.1, c1, q_bd_s, bat4 hbo, if_pos l0, q_bd_s, c4 _ _ (by omega) (by omega), m2 _ _ (by omega) (by omega), hbe.1, g1, q_bd_s, if_pos rfl, q_gd_s (mO3 m310), q_pf_d]
  obtain ⟨w, eC⟩ := eC
  have eR : M_worksFree_B44 (d - 1) l ν = some (1, ν4) := by
    have er : m_st ν 1049 (d - 1) (l + 1) = rF d l ν := rfl
    have g7 : rF d l ν 1007 (4 * l) = s := by rw [rF_f (by omega)]; exact r2
    have g8 : rF d l ν 1051 (10 * (d - 1) + s) = v := by rw [rF_f (by omega)]; exact hv
    unfold M_worksFree_B44
    rw [w32_i (x := l + 1) (by omega) (by omega), q_st_s (by omega) (by omega), er, h.q2, if_neg (by omega), h.q2, if_pos hk, w32_i (x := 4 * l) (by omega) (by omega), q_ld_s (by omega) (by omega), g7, w32_i (x := 10 * (d - 1)) (by omega) (by omega), w32_i (x := 10 * (d - 1) + s) (by omega) (by omega), q_ld_s (by omega) (by omega), g8, q_ld_s (by omega) (by omega), rF_f (by omega), d1, q_bd_s, q_ld_s (by omega) (by omega), d4 _ _ (by omega) (by omega), rF_f (by omega), e1, q_bd_s]
  have lt2 : ∀ t, 0 ≤ t → t < 10 → (tb (aOr (aOr x (aShl 1 (ν 1003 l))) (aShl 1 (ν 1004 l))) t = true ↔ (tb x t = true ∨ t = ν 1003 l) ∨ t = ν 1004 l) := fun t p q => by rw [lay_tb ⟨s1, hbe.2.2⟩ p q, lay_tb ⟨s0, hla.2.2⟩ p q]
  refine KF.top h (l + 1) (aOr (aOr x (aShl 1 (ν 1003 l))) (aShl 1 (ν 1004 l))) eC eR (by rw [f4 _ _ _ (by omega), g4 _ _ (by omega) (by omega), c4 _ _ (by omega) (by omega), a2 _ _ (by omega)]; exact cF_n) (by rw [f4 _ _ _ (by omega)]; exact g2) (fun y i p q w z u => by rw [f4 _ y i (by omega), g4 y i (by omega) (by omega), c4 y i (by omega) (by omega), m2 y i q u]) (by rw [e4 _ _ (by omega) (by omega), d4 _ _ (by omega) (by omega)]; exact rF_n) e2 (fun y i q w z u => by rw [e4 y i z (by omega), d4 y i z (by omega), rF_f w]) ?_ (S10_or (S10_or h.sx (S10_shl s0 hla.2.2)) (S10_shl s1 hbe.2.2)) (by omega)
  intro t p q y
  rw [f4 _ _ _ (by omega)]
  by_cases z2 : t = ν 1004 l
  · rw [z2, e3]
    exact ⟨g3, hvr⟩
  rw [g4 _ _ (by omega) (by omega), e4 _ _ (by omega) (by omega)]
  by_cases z : t = ν 1003 l
  · rw [z, d3]
    exact ⟨c3, hvr⟩
  · have y1 : tb x t = true := ((lt2 t p q).mp y).elim (fun w => w.elim (fun w => w) (fun w => absurd w z)) (fun w => absurd w z2)
    rw [c4 _ _ (by omega) (by omega), m2 _ _ (by omega) (by omega), d4 _ _ (by omega) (by omega), rF_f (by omega)]
    exact h.vl t p q y1
theorem kf_if {b B W n d k l x : Int} {Wn : Int → Int} {r : List Int} {μ ν : am_M} (h : FTP b B W n d k l x Wn r μ ν) (hk : ν 1002 l = 5) (ht : ∀ s ∈ r, tb x s = true) : KF b B W n d l 5 Wn μ ν := by
  have hd := h.fm.dd
  have hd1 := h.d1
  have hbo := h.bi.bo
  have hb' : b = 100 ∨ b = 200 := hbo
  have l0 := h.li.ck.l0
  have rg := h.li.rg
  have hfn := h.bi.fn
  have k5 := h.li.k5 hk
  have n5 := h.n5 hk
  have le : l < ν 1017 k + ν 1018 k - 1 := by have := h.li.k8; omega
  obtain ⟨L, he⟩ := h.li.ee (by unfold hE; omega)
  obtain ⟨v, μ2, ν2, hvr, a1, a2, b1, b2⟩ := h.rc ht he
  have m2 : ∀ y i, ¬ (y = 311 ∧ i = d - 1) → y ≠ 41 → μ2 y i = μ y i := fun y i p z => by rw [a2 y i z, cF_f p]
  have n2 : ∀ y i, ¬ (y = 1049 ∧ i = d - 1) → ¬ (1024 ≤ y ∧ y ≤ 1033) → ν2 y i = ν y i := fun y i p z => by rw [b2 y i z, rF_f p]
  have m5 : cF d l μ 310 5 = d := by rw [cF_f (by omega)]; exact h.fm.c5
  have er : m_st ν 1049 (d - 1) (l + 1) = rF d l ν := rfl
  have eC : Mc_workKind 310 b l 5 (cF d l μ) = if v = 0 then some (0, m_st μ2 311 (d - 1) (ν 1008 l + 1)) else some (0, μ2) := by
    have e7 : b + 1 + 6 = b + 7 := by omega
    unfold Mc_workKind
    rw [q_gd_s (bO0 hbo), q_gd_s (mO3 m310), if_neg (by decide), if_neg (by decide), if_neg (by decide), if_neg (by decide), if_pos rfl, a1, q_bd_s, q_gd_s (bO2 hbo), e7, bat7 hbo, if_pos l0, q_bd_s, m2 _ _ (by omega) (by omega), k5, m5, w32_i (x := d - 1) (by omega) (by omega), w32_i (x := ν 1008 l + 1) (by omega) (by omega), mput1 m310, if_pos (show 0 ≤ d - 1 ∧ d - 1 < 16 by omega), q_bd_s]
    rfl
  have eR : M_worksFree_B44 (d - 1) l ν = if v = 0 then some (1, m_st ν2 1049 (d - 1) (ν 1008 l + 1)) else some (1, ν2) := by
    unfold M_worksFree_B44
    rw [w32_i (x := l + 1) (by omega) (by omega), q_st_s (by omega) (by omega), er, h.q2, if_neg (by omega), h.q2, if_neg (by omega), h.q2, if_neg (by omega), h.q2, if_pos hk, w32_i (x := 10 * (d - 1)) (by omega) (by omega), b1, q_bd_s, q_ld_s (by omega) (by omega), n2 1008 l (by omega) (by omega), w32_i (x := ν 1008 l + 1) (by omega) (by omega), q_st_s (by omega) (by omega)]
  by_cases z : v = 0
  · rw [if_pos z] at eC eR
    have f1 : ∀ y i, ¬ (y = 311 ∧ i = d - 1) → m_st μ2 311 (d - 1) (ν 1008 l + 1) y i = μ2 y i := fun y i w => by rw [m_st_d, if_neg w]
    have f2 : ∀ y i, ¬ (y = 1049 ∧ i = d - 1) → m_st ν2 1049 (d - 1) (ν 1008 l + 1) y i = ν2 y i := fun y i w => by rw [m_st_d, if_neg w]
    refine KF.top h (ν 1008 l + 1) x eC eR (by rw [m_st_d, if_pos ⟨rfl, rfl⟩]) (by rw [f1 _ _ (by omega), m2 _ _ (by omega) (by omega)]; exact h.tx) (fun y i p q w z u => by rw [f1 y i q, m2 y i q u]) (by rw [m_st_d, if_pos ⟨rfl, rfl⟩]) (by rw [f2 _ _ (by omega), n2 _ _ (by omega) (by omega)]; exact h.ex) (fun y i q w z u => by rw [f2 y i w, n2 y i w q]) ?_ h.sx (by omega)
    intro t p q y
    rw [f1 _ _ (by omega), f2 _ _ (by omega), m2 _ _ (by omega) (by omega), n2 _ _ (by omega) (by omega)]
    exact h.vl t p q y
  · rw [if_neg z] at eC eR
    refine KF.top h (l + 1) x eC eR (by rw [a2 _ _ (by omega)]; exact cF_n) (by rw [m2 _ _ (by omega) (by omega)]; exact h.tx) (fun y i p q w z u => m2 y i q u) (by rw [b2 _ _ (by omega)]; exact rF_n) (by rw [n2 _ _ (by omega) (by omega)]; exact h.ex) (fun y i q w z u => n2 y i w q) ?_ h.sx (by omega)
    intro t p q y
    rw [m2 _ _ (by omega) (by omega), n2 _ _ (by omega) (by omega)]
    exact h.vl t p q y
/-- burn, else, end -/
theorem kf_rest {b B W n d k l x : Int} {Wn : Int → Int} {r : List Int} {μ ν : am_M} (h : FTP b B W n d k l x Wn r μ ν) (hk : ν 1002 l = 3 ∨ ν 1002 l = 6 ∨ ν 1002 l = 7) : KF b B W n d l (ν 1002 l) Wn μ ν := by
  have hd := h.fm.dd
  have hd1 := h.d1
  have hbo := h.bi.bo
  have hb' : b = 100 ∨ b = 200 := hbo
  have l0 := h.li.ck.l0
  have rg := h.li.rg
  have hfn := h.bi.fn
  have le : l < ν 1017 k + ν 1018 k - 1 := by have := h.li.k8; omega
  have er : m_st ν 1049 (d - 1) (l + 1) = rF d l ν := rfl
  have hbu : cF d l μ 310 1 = 0 := by rw [cF_f (by omega)]; exact h.fm.bu
  have m5 : cF d l μ 310 5 = d := by rw [cF_f (by omega)]; exact h.fm.c5
  have eD : Mc_dropGone 310 (b + 1) l (cF d l μ) = some (0, cF d l μ) := by
    unfold Mc_dropGone
    rw [q_gd_s (mO3 m310), if_pos hbu]
  by_cases k6 : ν 1002 l = 6
  · have e6 := h.li.k6 k6
    have n6 := h.n6 k6
    have f1 : ∀ y i, ¬ (y = 311 ∧ i = d - 1) → m_st (cF d l μ) 311 (d - 1) (ν 1009 l + 1) y i = μ y i := fun y i w => by rw [m_st_d, if_neg w, cF_f w]
    have f2 : ∀ y i, ¬ (y = 1049 ∧ i = d - 1) → m_st (rF d l ν) 1049 (d - 1) (ν 1009 l + 1) y i = ν y i := fun y i w => by rw [m_st_d, if_neg w, rF_f w]
    have eC : Mc_workKind 310 b l (ν 1002 l) (cF d l μ) = some (0, m_st (cF d l μ) 311 (d - 1) (ν 1009 l + 1)) := by
      have e7 : b + 1 + 6 = b + 7 := by omega
      unfold Mc_workKind
      rw [q_gd_s (bO0 hbo), q_gd_s (mO3 m310), if_neg (by omega), if_neg (by omega), if_neg (by omega), if_neg (by omega), if_neg (by omega), if_pos k6, eD, q_bd_s, q_gd_s (bO2 hbo), e7, bat7 hbo, if_pos l0, q_bd_s, m5, cF_f (by omega), e6, w32_i (x := d - 1) (by omega) (by omega), w32_i (x := ν 1009 l + 1) (by omega) (by omega), mput1 m310, if_pos (by omega), q_bd_s]
      rfl
    have eR : M_worksFree_B44 (d - 1) l ν = some (1, m_st (rF d l ν) 1049 (d - 1) (ν 1009 l + 1)) := by
      unfold M_worksFree_B44
      rw [w32_i (x := l + 1) (by omega) (by omega), q_st_s (by omega) (by omega), er, h.q2, if_neg (by omega), h.q2, if_neg (by omega), h.q2, if_neg (by omega), h.q2, if_neg (by omega), h.q2, if_pos k6, q_ld_s (by omega) (by omega), rF_f (by omega), w32_i (x := ν 1009 l + 1) (by omega) (by omega), q_st_s (by omega) (by omega)]
    refine KF.top h (ν 1009 l + 1) x eC eR (by rw [m_st_d, if_pos ⟨rfl, rfl⟩]) (by rw [f1 _ _ (by omega)]; exact h.tx) (fun y i p q w z u => f1 y i q) (by rw [m_st_d, if_pos ⟨rfl, rfl⟩]) (by rw [f2 _ _ (by omega)]; exact h.ex) (fun y i q w z u => f2 y i w) ?_ h.sx (by omega)
    intro t p q y
    rw [f1 _ _ (by omega), f2 _ _ (by omega)]
    exact h.vl t p q y
  · have eC : Mc_workKind 310 b l (ν 1002 l) (cF d l μ) = some (0, cF d l μ) := by
      unfold Mc_workKind
      rw [q_gd_s (bO0 hbo), q_gd_s (mO3 m310), if_neg (by omega), if_neg (by omega)]
      by_cases k3 : ν 1002 l = 3
      · rw [if_pos k3]
      · rw [if_neg k3, if_neg (by omega), if_neg (by omega), if_neg (by omega), if_pos (by omega), eD, q_bd_s]
    have eR : M_worksFree_B44 (d - 1) l ν = some (1, rF d l ν) := by
      unfold M_worksFree_B44
      rw [w32_i (x := l + 1) (by omega) (by omega), q_st_s (by omega) (by omega), er, h.q2, if_neg (by omega), h.q2, if_neg (by omega), h.q2, if_neg (by omega), h.q2, if_neg (by omega), h.q2, if_neg (by omega), h.q2, if_neg (by omega)]
    refine KF.top h (l + 1) x eC eR cF_n (by rw [cF_f (by omega)]; exact h.tx) (fun y i p q w z u => cF_f q) rF_n (by rw [rF_f (by omega)]; exact h.ex) (fun y i q w z u => rF_f w) ?_ h.sx (by omega)
    intro t p q y
    rw [cF_f (by omega), rF_f (by omega)]
    exact h.vl t p q y
