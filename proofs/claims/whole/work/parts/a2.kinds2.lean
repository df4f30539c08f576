/-! The machine, both sides: twin, burn, if, else, end. -/
/-- a line that reads one slip and has no E -/
theorem one_c {b c d k l x X B W n s : Int} {Wn : Int → Int} {T : Int → Int → Prop} {r : List Int} {μ ν μ1 : am_M} (h : TOP b c B W n d k l x Wn T r μ ν) (hm : MD b c d l x X r μ μ1) (hk : ¬ hE (ν 1002 l)) (hr : r = [s]) (hs : ν 1007 (4 * l) = s) : ∃ μ', Mc_reckoned c (b + 1) l μ1 = some (ν 1046 (10 * (d - 1) + s), μ') ∧ (∀ y i, y ≠ 41 → μ' y i = μ1 y i) := by
  have hd := h.mr.dd
  have hd1 := h.d1
  have hrc := h.mr.mc.r
  have hb' : b = 100 ∨ b = 200 := h.bi.bo
  obtain ⟨c1, c2, c3, c4⟩ := h.li.cs hk
  have s0 := h.vr s (by rw [hr]; exact List.mem_cons_self)
  have c4 := c4 0 (by rw [hr]; exact Nat.one_pos)
  have hl : (r.length : Nat) = 1 := by rw [hr]; rfl
  have e0 : ((0 : Nat) : Int) = 0 := rfl
  have e1 : μ (b + 9) l + 0 = μ (b + 9) l := by omega
  have e2 : 4 * l + 0 = 4 * l := by omega
  rw [e0, e1, e2, hs] at c4
  have g : ∀ y, b + 9 ≤ y → y ≤ b + 11 → μ1 y = μ y := fun y p q => funext fun i => hm.fr y i (by omega) (by omega) (by omega)
  obtain ⟨v, μ', a1, a2, a3⟩ := reckon_C (b := b) (l := l) (x := c + 3) (o := 10 * (d - 1)) (env := fun t => μ1 (c + 3) (10 * (d - 1) + t)) (C := [2 + s * 128]) (μ := μ1) h.bi.bo h.li.ck.l0 (mA3 h.mr.mc) (mK3 h.mr.mc) (by omega) (by omega) (by rw [g _ (by omega) (by omega), g _ (by omega) (by omega)]; exact ⟨c4, trivial⟩) (by rw [g _ (by omega) (by omega), g _ (by omega) (by omega), c1, hl]; rfl) (fun w hw => by
      rw [List.mem_singleton] at hw
      rw [hw]; unfold cOk; omega) (fun t ht => by
      rw [nm_c, if_pos (by omega)] at ht
      rcases List.mem_cons.mp ht with z | z
      · omega
      · cases z) (by rw [g _ (by omega) (by omega)]; exact c2) (by rw [g _ (by omega) (by omega)]; exact c3) (by
      show (if (2 + s * 128) % 128 = 2 ∨ (2 + s * 128) % 128 = 3 then (if (0 : Int) + 1 ≤ 64 then some ((0 : Int) + 1) else none) else _) = _
      rw [if_pos (by omega)]; rfl) (fun _ _ => rfl)
  have ev : evR (fun t => μ1 (c + 3) (10 * (d - 1) + t)) [2 + s * 128].reverse = [μ1 (c + 3) (10 * (d - 1) + (2 + s * 128) / 128)] := by
    show stp _ (2 + s * 128) [] = _
    unfold stp
    rw [if_neg (by omega), if_pos (by omega)]
  rw [ev] at a2
  injection a2 with a2
  have e3 : (2 + s * 128) / 128 = s := by omega
  rw [e3, hm.fr _ _ (by omega) (by omega) (by omega), s0.2.1] at a2
  exact ⟨μ', mreck_s (d := d) h.mr.mc (by omega) (by rw [hm.fr _ _ (by omega) (by omega) (by omega)]; exact h.mr.c5) (by rw [a1, ← a2]), a3⟩
theorem one_r {b B k l W : Int} {Wn : Int → Int} {r : List Int} {μ ν : am_M} (h : LI b B k l W Wn r μ ν) (hk : ν 1002 l = 2 ∨ ν 1002 l = 3) : ∃ s, r = [s] ∧ ν 1007 (4 * l) = s ∧ 0 ≤ s ∧ s < 10 := by
  have h1 := h.n1 hk
  obtain ⟨s, hs⟩ := List.length_eq_one_iff.mp h1
  have h2 := h.so (by unfold hE; omega) 0 (by omega)
  rw [hs] at h2
  have e2 : 4 * l + ((0 : Nat) : Int) = 4 * l := by show 4 * l + 0 = _; omega
  rw [e2] at h2
  injection h2 with h2
  exact ⟨s, hs, h2.symm, h.ck.rl.sl s (by rw [hs]; exact List.mem_cons_self)⟩
theorem kd_twin {b c B W n d k l x X : Int} {Wn : Int → Int} {T : Int → Int → Prop} {r : List Int} {μ ν μ1 : am_M} (h : TOP b c B W n d k l x Wn T r μ ν) (hm : MD b c d l x X r μ μ1) (hk : ν 1002 l = 2) : KD b c B W n d l 2 Wn μ ν μ1 := by
  have hd := h.mr.dd
  have hd1 := h.d1
  have hr := h.mr.mc.r
  have hbo := h.bi.bo
  have hb' : b = 100 ∨ b = 200 := hbo
  have l0 := h.li.ck.l0
  have hcn := h.mr.cn (by decide)
  have hla := h.li.ck.la
  have hbe := h.li.ck.be
  have s0 := h.li.la.mpr (Or.inr (Or.inl hk))
  have s1 := h.li.be.mpr hk
  have rg := h.li.rg
  have le : l < ν 1017 k + ν 1018 k - 1 := by have := h.li.k8; omega
  obtain ⟨s, r1, r2, r3⟩ := one_r h.li (Or.inl hk)
  have hvs := h.vr s (by rw [r1]; exact List.mem_cons_self)
  obtain ⟨μ2, a1, a2⟩ := one_c h hm (by unfold hE; omega) r1 r2
  generalize hv : ν 1046 (10 * (d - 1) + s) = v at *
  have hvr : r32 v := hvs.2.2
  have m2 : ∀ y i, ¬ (y = c + 1 ∧ i = d - 1) → ¬ (y = c + 2 ∧ i = d - 1) → ¬ (y = c ∧ i = 9) → y ≠ 41 → μ2 y i = μ y i := fun y i p q w z => by rw [a2 y i z, hm.fr y i p q w]
  have m5 : μ2 c 5 = d := by rw [m2 _ _ (by omega) (by omega) (by omega) (by omega)]; exact h.mr.c5
  obtain ⟨μ3, c1, c2, c3, c4⟩ := mlay_s (c := c) (d := d) (s := ν 1003 l) (v := v) (x := X) (μ := μ2) h.mr.mc (by omega) m5 (by rw [a2 _ _ (by omega)]; exact hm.t1) ⟨s0, hla.2.2⟩
  obtain ⟨μ4, g1, g2, g3, g4⟩ := mlay_s (c := c) (d := d) (s := ν 1004 l) (v := v) (x := aOr X (aShl 1 (ν 1003 l))) (μ := μ3) h.mr.mc (by omega) (by rw [c4 _ _ (by omega) (by omega)]; exact m5) c2 ⟨s1, hbe.2.2⟩
  obtain ⟨ν2, b1, b2, b3, b4⟩ := burnsIn_s (f := d - 1) (s := s) (ν := rB d l ν) (by omega) r3
  rw [rB_f (by omega) (by omega), hv] at b1
  rw [rB_f (by omega) (by omega), h.ex] at b2
  rw [rB_f (by omega) (by omega)] at b3
  have xx : ν2 1045 (d - 1) = X := by
    rw [b2]
    refine S10_eq (S10_clr h.sx) hm.sX (fun t p q => ?_)
    rw [clr_tb r3 p q, hm.bX t p q, r1, List.mem_singleton]
  obtain ⟨ν3, d1, d2, d3, d4⟩ := laysIn_s (f := d - 1) (s := ν 1003 l) (v := v) (ν := ν2) (by omega) ⟨s0, hla.2.2⟩
  obtain ⟨ν4, e1, e2, e3, e4⟩ := laysIn_s (f := d - 1) (s := ν 1004 l) (v := v) (ν := ν3) (by omega) ⟨s1, hbe.2.2⟩
  have m4 : ∀ y i, ¬ (y = c + 1 ∧ i = d - 1) → ¬ (y = c + 2 ∧ i = d - 1) → ¬ (y = c ∧ i = 9) → ¬ (y = c + 3 ∧ i = 10 * (d - 1) + ν 1003 l) → ¬ (y = c + 3 ∧ i = 10 * (d - 1) + ν 1004 l) → y ≠ 41 → μ4 y i = μ y i := fun y i p q w z z2 u => by rw [g4 y i q z2, c4 y i q z, m2 y i p q w u]
  have n2 : ∀ y i, ¬ (y = 1000 ∧ (i = 64 ∨ i = 66)) → ¬ (y = 1044 ∧ i = d - 1) → ¬ (y = 1045 ∧ i = d - 1) → ν2 y i = ν y i := fun y i p w z => by rw [b4 y i z (by omega), rB_f (by omega) w]
  have n4 : ∀ y i, ¬ (y = 1000 ∧ (i = 64 ∨ i = 66)) → ¬ (y = 1044 ∧ i = d - 1) → ¬ (y = 1045 ∧ i = d - 1) → ¬ (y = 1046 ∧ i = 10 * (d - 1) + ν 1003 l) → ¬ (y = 1046 ∧ i = 10 * (d - 1) + ν 1004 l) → ν4 y i = ν y i := fun y i p w z u u2 => by rw [e4 y i z u2, d4 y i z u, n2 y i p w z]
  have c10 : μ4 c 10 = ν 1000 65 := by rw [m4 _ _ (by omega) (by omega) (by omega) (by omega) (by omega) (by omega)]; exact hcn.2.2.1
  have c13 : μ4 c 13 = ν 1000 56 := by rw [m4 _ _ (by omega) (by omega) (by omega) (by omega) (by omega) (by omega)]; exact h.mr.pr
  have f4 : ∀ v y i, ¬ (y = c ∧ i = 10) → m_st μ4 c 10 v y i = μ4 y i := fun v y i z => by rw [m_st_d, if_neg z]
  have eC : Mc_workKind c b l 2 μ1 = some (0, m_st μ4 c 10 (w32 (ν 1000 65 + ν 1000 56))) := by
    have e3 : b + 1 + 2 = b + 3 := by omega
    have e4 : b + 1 + 3 = b + 4 := by omega
    unfold Mc_workKind Mc_workKind_B60 Mc_workKind_B117
    rw [q_gd_s (bO0 hbo), q_gd_s (mO3 h.mr.mc), if_neg (by decide), if_pos rfl, q_gd_s (mO3 h.mr.mc), a1, q_bd_s, q_gd_s (bO2 hbo), e3, e4, bat3 hbo, if_pos l0, q_bd_s, m2 _ _ (by omega) (by omega) (by omega) (by omega), hla.1, c1, q_bd_s, bat4 hbo, if_pos l0, q_bd_s, c4 _ _ (by omega) (by omega), m2 _ _ (by omega) (by omega) (by omega) (by omega), hbe.1, g1, q_bd_s, if_pos rfl, q_gd_s (mO3 h.mr.mc), q_pf_d, c10, c13]
  have f65 : ∀ v y i, ¬ (y = 1000 ∧ i = 65) → m_st ν4 1000 65 v y i = ν4 y i := fun v y i z => by rw [m_st_d, if_neg z]
  have eR : M_works_B39 (d - 1) l ν = M_works_B296 (m_st ν4 1000 65 (w32 (ν 1000 65 + ν 1000 56))) := by
    have q2 : ∀ k, q_ld 120 1002 l (rB d l ν) k = k (ν 1002 l) := fun k => by rw [q_ld_s (by omega) (by omega), rB_f (by omega) (by omega)]
    have g7 : rB d l ν 1007 (4 * l) = s := by rw [rB_f (by omega) (by omega)]; exact r2
    have er : m_st (m_st ν 1000 66 (w32 (ν 1000 66 + 1))) 1044 (d - 1) (l + 1) = rB d l ν := rfl
    unfold M_works_B39
    rw [q_pf_d, w32_i (x := l + 1) (by omega) (by omega), q_st_s (by omega) (by omega), er, q2, if_neg (by omega), q2, if_pos hk, w32_i (x := 4 * l) (by omega) (by omega), q_ld_s (by omega) (by omega), g7, b1, q_bd_s, q_ld_s (by omega) (by omega), n2 1003 l (by omega) (by omega) (by omega), d1, q_bd_s, q_ld_s (by omega) (by omega), d4 1004 l (by omega) (by omega), n2 1004 l (by omega) (by omega) (by omega), e1, q_bd_s, q_pf_d, n4 1000 65 (by omega) (by omega) (by omega) (by omega) (by omega), n4 1000 56 (by omega) (by omega) (by omega) (by omega) (by omega)]
  have hfl := (h.fl le).1 (by omega)
  have lt2 : ∀ t, 0 ≤ t → t < 10 → (tb (aOr (aOr X (aShl 1 (ν 1003 l))) (aShl 1 (ν 1004 l))) t = true ↔ (tb X t = true ∨ t = ν 1003 l) ∨ t = ν 1004 l) := fun t p q => by rw [lay_tb ⟨s1, hbe.2.2⟩ p q, lay_tb ⟨s0, hla.2.2⟩ p q]
  refine KD.top h (l + 1) (aOr (aOr X (aShl 1 (ν 1003 l))) (aShl 1 (ν 1004 l))) eC eR (by rw [f4 _ _ _ (by omega), g4 _ _ (by omega) (by omega), c4 _ _ (by omega) (by omega), a2 _ _ (by omega)]; exact hm.n1) (by rw [f4 _ _ _ (by omega)]; exact g2) (fun y i p q w z u => by rw [f4 _ y i (by omega), m4 y i q w (by omega) (by omega) (by omega) u]) (by rw [f65 _ _ _ (by omega), e4 _ _ (by omega) (by omega), d4 _ _ (by omega) (by omega), b4 _ _ (by omega) (by omega)]; exact rB_n) (by rw [f65 _ _ _ (by omega), e2, d2, xx]) (fun y i p q w z u => by rw [f65 _ y i (by omega), n4 y i (by omega) w z (by omega) (by omega)]) ⟨?_, ?_⟩ ⟨?_, ?_⟩ ?_ ?_ (S10_or (S10_or hm.sX (S10_shl s0 hla.2.2)) (S10_shl s1 hbe.2.2)) (by omega) ?_
  · rw [f4 _ _ _ (by omega), g4 _ _ (by omega) (by omega), c4 _ _ (by omega) (by omega), a2 _ _ (by omega), hm.a9, f65 _ _ _ (by omega), e4 _ _ (by omega) (by omega), d4 _ _ (by omega) (by omega), b3, hcn.2.1, r1]
    rfl
  · rw [f65 _ _ _ (by omega), e4 _ _ (by omega) (by omega), d4 _ _ (by omega) (by omega), b3]; exact w32_r _
  · rw [m_st_d, if_pos ⟨rfl, rfl⟩, m_st_d, if_pos ⟨rfl, rfl⟩]
  · rw [m_st_d, if_pos ⟨rfl, rfl⟩]; exact w32_r _
  · rw [f65 _ _ _ (by omega), e4 _ _ (by omega) (by omega), d4 _ _ (by omega) (by omega), b4 _ _ (by omega) (by omega)]; exact rB_s
  · intro t p q y
    rw [f4 _ _ _ (by omega), f65 _ _ _ (by omega)]
    by_cases z2 : t = ν 1004 l
    · rw [z2, g3, e3]
      exact ⟨rfl, hvr⟩
    rw [g4 _ _ (by omega) (by omega), e4 _ _ (by omega) (by omega)]
    by_cases z : t = ν 1003 l
    · rw [z, c3, d3]
      exact ⟨rfl, hvr⟩
    · have y1 : tb X t = true := ((lt2 t p q).mp y).elim (fun w => w.elim (fun w => w) (fun w => absurd w z)) (fun w => absurd w z2)
      rw [c4 _ _ (by omega) (by omega), m2 _ _ (by omega) (by omega) (by omega) (by omega), d4 _ _ (by omega) (by omega), n2 _ _ (by omega) (by omega) (by omega)]
      exact h.mr.vl (d - 1) t (by omega) (by omega) p q (by rw [h.ex]; exact ((hm.bX t p q).mp y1).1)
  · intro t p q
    rw [lt2 t p q, hm.bX t p q, hfl t p q, h.tt t p q, or_assoc]
theorem kd_burn {b c B W n d k l x X : Int} {Wn : Int → Int} {T : Int → Int → Prop} {r : List Int} {μ ν μ1 : am_M} (h : TOP b c B W n d k l x Wn T r μ ν) (hm : MD b c d l x X r μ μ1) (hk : ν 1002 l = 3) : KD b c B W n d l 3 Wn μ ν μ1 := by
  have hd := h.mr.dd
  have hd1 := h.d1
  have hr := h.mr.mc.r
  have hbo := h.bi.bo
  have l0 := h.li.ck.l0
  have hcn := h.mr.cn (by decide)
  have hla := h.li.ck.la
  have hbe := h.li.ck.be
  have la1 : ν 1003 l = -1 := by have := h.li.la; omega
  have be1 : ν 1004 l = -1 := by have := h.li.be; omega
  have rg := h.li.rg
  have le : l < ν 1017 k + ν 1018 k - 1 := by have := h.li.k8; omega
  obtain ⟨s, r1, r2, r3⟩ := one_r h.li (Or.inr hk)
  obtain ⟨ν2, b1, b2, b3, b4⟩ := burnsIn_s (f := d - 1) (s := s) (ν := rB d l ν) (by omega) r3
  rw [rB_f (by omega) (by omega), h.ex] at b2
  rw [rB_f (by omega) (by omega)] at b3
  have xx : ν2 1045 (d - 1) = X := by
    rw [b2]
    refine S10_eq (S10_clr h.sx) hm.sX (fun t p q => ?_)
    rw [clr_tb r3 p q, hm.bX t p q, r1, List.mem_singleton]
  have n2 : ∀ y i, ¬ (y = 1000 ∧ (i = 64 ∨ i = 66)) → ¬ (y = 1044 ∧ i = d - 1) → ¬ (y = 1045 ∧ i = d - 1) → ν2 y i = ν y i := fun y i p w z => by rw [b4 y i z (by omega), rB_f (by omega) w]
  have eC : Mc_workKind c b l 3 μ1 = some (0, μ1) := by
    unfold Mc_workKind
    rw [q_gd_s (bO0 hbo), q_gd_s (mO3 h.mr.mc), if_neg (by decide), if_neg (by decide), if_pos rfl]
  have eR : M_works_B39 (d - 1) l ν = M_works_B296 ν2 := by
    have q2 : ∀ k, q_ld 120 1002 l (rB d l ν) k = k (ν 1002 l) := fun k => by rw [q_ld_s (by omega) (by omega), rB_f (by omega) (by omega)]
    have g7 : rB d l ν 1007 (4 * l) = s := by rw [rB_f (by omega) (by omega)]; exact r2
    have er : m_st (m_st ν 1000 66 (w32 (ν 1000 66 + 1))) 1044 (d - 1) (l + 1) = rB d l ν := rfl
    unfold M_works_B39
    rw [q_pf_d, w32_i (x := l + 1) (by omega) (by omega), q_st_s (by omega) (by omega), er, q2, if_neg (by omega), q2, if_neg (by omega), q2, if_pos hk, w32_i (x := 4 * l) (by omega) (by omega), q_ld_s (by omega) (by omega), g7, b1, q_bd_s]
  have hfl := (h.fl le).1 (by omega)
  refine KD.top h (l + 1) X eC eR hm.n1 hm.t1 (fun y i p q w z u => hm.fr y i q w (by omega)) (by rw [b4 _ _ (by omega) (by omega)]; exact rB_n) xx (fun y i p q w z u => n2 y i (by omega) w z) ⟨?_, ?_⟩ ⟨?_, ?_⟩ ?_ ?_ hm.sX (by omega) ?_
  · rw [hm.a9, b3, hcn.2.1, r1]
    rfl
  · rw [b3]; exact w32_r _
  · rw [hm.fr _ _ (by omega) (by omega) (by omega), n2 _ _ (by omega) (by omega) (by omega)]; exact hcn.2.2.1
  · rw [n2 _ _ (by omega) (by omega) (by omega)]; exact hcn.2.2.2.2.2
  · rw [b4 _ _ (by omega) (by omega)]; exact rB_s
  · intro t p q y
    rw [hm.fr _ _ (by omega) (by omega) (by omega), n2 _ _ (by omega) (by omega) (by omega)]
    exact h.mr.vl (d - 1) t (by omega) (by omega) p q (by rw [h.ex]; exact ((hm.bX t p q).mp y).1)
  · intro t p q
    rw [hm.bX t p q, hfl t p q, h.tt t p q, la1, be1]
    exact ⟨Or.inl, fun z => z.elim (fun w => w) (fun w => by omega)⟩
theorem kd_if {b c B W n d k l x X : Int} {Wn : Int → Int} {T : Int → Int → Prop} {r : List Int} {μ ν μ1 : am_M} (h : TOP b c B W n d k l x Wn T r μ ν) (hm : MD b c d l x X r μ μ1) (hk : ν 1002 l = 5) : KD b c B W n d l 5 Wn μ ν μ1 := by
  have hd := h.mr.dd
  have hd1 := h.d1
  have hr := h.mr.mc.r
  have hbo := h.bi.bo
  have hb' : b = 100 ∨ b = 200 := hbo
  have l0 := h.li.ck.l0
  have hcn := h.mr.cn (by decide)
  have rg := h.li.rg
  have k5 := h.li.k5 hk
  have le : l < ν 1017 k + ν 1018 k - 1 := by have := h.li.k8; omega
  obtain ⟨y1, y2, y3⟩ := (h.fl le).2.1 hk
  have hfn := h.bi.fn
  obtain ⟨L, he⟩ := h.li.ee (by unfold hE; omega)
  obtain ⟨μ2, a1, a2⟩ := h.rc hm he
  obtain ⟨ν2, b1, b2, b3, b4, b5, b6⟩ := h.rr hm he
  generalize hv : ifx (envR r (fun s => ν 1046 (10 * (d - 1) + s))) Wn L = v at *
  have m2 : ∀ y i, ¬ (y = c + 1 ∧ i = d - 1) → ¬ (y = c + 2 ∧ i = d - 1) → ¬ (y = c ∧ i = 9) → y ≠ 41 → μ2 y i = μ y i := fun y i p q w z => by rw [a2 y i z, hm.fr y i p q w]
  have q2 : ∀ k, q_ld 120 1002 l (rB d l ν) k = k (ν 1002 l) := fun k => by rw [q_ld_s (by omega) (by omega), rB_f (by omega) (by omega)]
  have m5 : μ1 c 5 = d := by rw [hm.fr _ _ (by omega) (by omega) (by omega)]; exact h.mr.c5
  have er : m_st (m_st ν 1000 66 (w32 (ν 1000 66 + 1))) 1044 (d - 1) (l + 1) = rB d l ν := rfl
  have vv : ∀ t, 0 ≤ t → t < 10 → tb X t = true → μ2 (c + 3) (10 * (d - 1) + t) = ν2 1046 (10 * (d - 1) + t) ∧ r32 (ν2 1046 (10 * (d - 1) + t)) := fun t p q y => by
    rw [m2 _ _ (by omega) (by omega) (by omega) (by omega), b6 _ _ (by omega) (by omega) (by omega) (by omega)]
    exact h.mr.vl (d - 1) t (by omega) (by omega) p q (by rw [h.ex]; exact ((hm.bX t p q).mp y).1)
  have ca : μ2 c 9 = ν2 1000 64 := by rw [a2 _ _ (by omega), hm.a9, b3, hcn.2.1]
  have ca2 : r32 (ν2 1000 64) := by rw [b3]; exact w32_r _
  have cc : μ2 c 10 = ν2 1000 65 := by rw [m2 _ _ (by omega) (by omega) (by omega) (by omega), b6 _ _ (by omega) (by omega) (by omega) (by omega)]; exact hcn.2.2.1
  have cc2 : r32 (ν2 1000 65) := by rw [b6 _ _ (by omega) (by omega) (by omega) (by omega)]; exact hcn.2.2.2.2.2
  have t2 : μ2 (c + 2) (d - 1) = X := by rw [a2 _ _ (by omega)]; exact hm.t1
  have eC : Mc_workKind c b l 5 μ1 = if v = 0 then some (0, m_st μ2 (c + 1) (d - 1) (ν 1008 l + 1)) else some (0, μ2) := by
    have e7 : b + 1 + 6 = b + 7 := by omega
    unfold Mc_workKind
    rw [q_gd_s (bO0 hbo), q_gd_s (mO3 h.mr.mc), if_neg (by decide), if_neg (by decide), if_neg (by decide), if_neg (by decide), if_pos rfl, a1, q_bd_s, q_gd_s (bO2 hbo), e7, bat7 hbo, if_pos l0, q_bd_s, m2 _ _ (by omega) (by omega) (by omega) (by omega), k5, m5, w32_i (x := d - 1) (by omega) (by omega), w32_i (x := ν 1008 l + 1) (by omega) (by omega), mput1 h.mr.mc, if_pos (show 0 ≤ d - 1 ∧ d - 1 < 16 by omega), q_bd_s]
  have eR : M_works_B39 (d - 1) l ν = if v = 0 then M_works_B296 (m_st ν2 1044 (d - 1) (ν 1008 l + 1)) else M_works_B296 ν2 := by
    unfold M_works_B39
    rw [q_pf_d, w32_i (x := l + 1) (by omega) (by omega), q_st_s (by omega) (by omega), er, q2, if_neg (by omega), q2, if_neg (by omega), q2, if_neg (by omega), q2, if_neg (by omega), q2, if_pos hk, b1, q_bd_s, q_ld_s (by omega) (by omega), b6 1008 l (by omega) (by omega) (by omega) (by omega), w32_i (x := ν 1008 l + 1) (by omega) (by omega), q_st_s (by omega) (by omega)]
  by_cases z : v = 0
  · rw [if_pos z] at eC eR
    have f1 : ∀ y i, ¬ (y = c + 1 ∧ i = d - 1) → m_st μ2 (c + 1) (d - 1) (ν 1008 l + 1) y i = μ2 y i := fun y i w => by rw [m_st_d, if_neg w]
    have f2 : ∀ y i, ¬ (y = 1044 ∧ i = d - 1) → m_st ν2 1044 (d - 1) (ν 1008 l + 1) y i = ν2 y i := fun y i w => by rw [m_st_d, if_neg w]
    refine KD.top h (ν 1008 l + 1) X eC eR (by rw [m_st_d, if_pos ⟨rfl, rfl⟩]) (by rw [f1 _ _ (by omega)]; exact t2) (fun y i p q w z u => by rw [f1 y i q, m2 y i q w (by omega) u]) (by rw [m_st_d, if_pos ⟨rfl, rfl⟩]) (by rw [f2 _ _ (by omega)]; exact b2) (fun y i p q w z u => by rw [f2 y i w, b6 y i (by omega) q w z]) ⟨?_, ?_⟩ ⟨?_, ?_⟩ ?_ ?_ hm.sX (by omega) ?_
    · rw [f1 _ _ (by omega), f2 _ _ (by omega)]; exact ca
    · rw [f2 _ _ (by omega)]; exact ca2
    · rw [f1 _ _ (by omega), f2 _ _ (by omega)]; exact cc
    · rw [f2 _ _ (by omega)]; exact cc2
    · rw [f2 _ _ (by omega)]; exact b4
    · intro t p q y
      rw [f1 _ _ (by omega), f2 _ _ (by omega)]
      exact vv t p q y
    · intro t p q
      rw [hm.bX t p q, (y3 t p q).2, h.tt t p q]
  · rw [if_neg z] at eC eR
    refine KD.top h (l + 1) X eC eR (by rw [a2 _ _ (by omega)]; exact hm.n1) t2 (fun y i p q w z u => m2 y i q w (by omega) u) b5 b2 (fun y i p q w z u => b6 y i (by omega) q w z) ⟨ca, ca2⟩ ⟨cc, cc2⟩ b4 vv hm.sX (by omega) ?_
    intro t p q
    rw [hm.bX t p q, (y3 t p q).1, h.tt t p q]
theorem kd_drop {b c B W n d k l x X e : Int} {Wn : Int → Int} {T : Int → Int → Prop} {r : List Int} {μ ν μ1 : am_M} (h : TOP b c B W n d k l x Wn T r μ ν) (hm : MD b c d l x X r μ μ1) (hk : (ν 1002 l = 6 ∧ e = ν 1009 l) ∨ (ν 1002 l = 7 ∧ e = l)) (he : l ≤ e ∧ e < ν 1017 k + ν 1018 k - 1) (hG : S10 (μ (b + 8) l)) (hT : ∀ t, 0 ≤ t → t < 10 → (T (e + 1) t ↔ T l t ∧ tb (μ (b + 8) l) t = false) ∧ (T (e + 1) t ↔ tb (ν 1042 e) t = true)) : KD b c B W n d l (ν 1002 l) Wn μ ν μ1 := by
  have hd := h.mr.dd
  have hd1 := h.d1
  have hr := h.mr.mc.r
  have hbo := h.bi.bo
  have hb' : b = 100 ∨ b = 200 := hbo
  have l0 := h.li.ck.l0
  have hcn := h.mr.cn (by decide)
  have rg := h.li.rg
  have hfn := h.bi.fn
  have rn : r = [] := (h.li.ck.n0 (by omega)).1
  have hXx : X = x := S10_eq hm.sX h.sx (fun t p q => by rw [hm.bX t p q, rn]; simp)
  subst hXx
  have a9 : μ1 c 9 = ν 1000 64 := by
    have e0 : (((([] : List Int).length : Nat)) : Int) = 0 := rfl
    have e1 : ν 1000 64 + 0 = ν 1000 64 := by omega
    rw [hm.a9, rn, e0, hcn.2.1, e1, w32_id hcn.2.2.2.2.1]
  have hy : ∀ t, 0 ≤ t → t < 10 → tb (aAnd X (μ (b + 8) l)) t = (tb X t && !tb (ν 1042 e) t) := by
    intro t p q
    obtain ⟨z1, z2⟩ := hT t p q
    have z3 := h.tt t p q
    rw [tb_and]
    cases c1 : tb X t with
    | false => rfl
    | true =>
      have z4 := z3.mp c1
      cases c2 : tb (μ (b + 8) l) t with
      | false =>
        have := z2.mp (z1.mpr ⟨z4, c2⟩)
        rw [this]; rfl
      | true =>
        cases c3 : tb (ν 1042 e) t with
        | false => rfl
        | true =>
          have := (z1.mp (z2.mpr c3)).2
          rw [c2] at this; cases this
  obtain ⟨ν2, b1, b2, b3, b4, b5⟩ := clears_s (f := d - 1) (set := ν 1042 e) (y := aAnd X (μ (b + 8) l)) (ν := rB d l ν) (by omega) (by rw [rB_f (by omega) (by omega), h.ex]; exact h.sx) (by rw [rB_f (by omega) (by omega)]; exact hcn.2.2.2.2.1) (fun t p q => by rw [rB_f (by omega) (by omega), h.ex]; exact hy t p q)
  rw [rB_f (by omega) (by omega)] at b3 b4
  rw [h.ex] at b3
  have q2 : ∀ k, q_ld 120 1002 l (rB d l ν) k = k (ν 1002 l) := fun k => by rw [q_ld_s (by omega) (by omega), rB_f (by omega) (by omega)]
  have g9 : rB d l ν 1009 l = ν 1009 l := rB_f (by omega) (by omega)
  have g42 : rB d l ν 1042 e = ν 1042 e := rB_f (by omega) (by omega)
  have m5 : μ1 c 5 = d := by rw [hm.fr _ _ (by omega) (by omega) (by omega)]; exact h.mr.c5
  have er : m_st (m_st ν 1000 66 (w32 (ν 1000 66 + 1))) 1044 (d - 1) (l + 1) = rB d l ν := rfl
  generalize hX' : aAnd X (aXor (μ (b + 8) l) (-1)) = X'
  have sX' : S10 X' := by rw [← hX']; exact S10_and h.sx
  have bX' : ∀ t, 0 ≤ t → t < 10 → (tb X' t = true ↔ T (e + 1) t) := fun t p q => by
    rw [← hX', tb_and, tb_not p (by omega), Bool.and_eq_true, Bool.not_eq_true', (hT t p q).1, h.tt t p q]
  have xx : ν2 1045 (d - 1) = X' := S10_eq b2 sX' (fun t p q => by
    rw [b3 t p q, bX' t p q]
    obtain ⟨z1, z2⟩ := hT t p q
    rw [h.tt t p q]
    exact ⟨fun z => z2.mpr z.2, fun z => ⟨(z1.mp z).1, z2.mp z⟩⟩)
  generalize hμ2 : m_st (m_st μ1 c 9 (w32 (ν 1000 64 + pc (aAnd X (μ (b + 8) l))))) (c + 2) (d - 1) X' = μ2
  have m2 : ∀ y i, ¬ (y = c ∧ i = 9) → ¬ (y = c + 2 ∧ i = d - 1) → μ2 y i = μ1 y i := fun y i p q => by rw [← hμ2, m_st_d, if_neg q, m_st_d, if_neg p]
  have eD : Mc_dropGone c (b + 1) l μ1 = some (0, μ2) := by
    have e8 : b + 1 + 7 = b + 8 := by omega
    have e1 : μ1 c 1 = 1 := by rw [hm.fr _ _ (by omega) (by omega) (by omega)]; exact h.mr.bu
    unfold Mc_dropGone
    rw [q_gd_s (mO3 h.mr.mc), if_neg (by rw [e1]; decide), m5, w32_i (x := d - 1) (by omega) (by omega), mat2 h.mr.mc, if_pos (by omega), q_bd_s, q_gd_s (bO2 hbo), e8, bat8 hbo, if_pos l0, q_bd_s, hm.t1, hm.fr (b + 8) l (by omega) (by omega) (by omega), bitCount_s (S10_and h.sx), q_bd_s, q_pf_d, a9]
    have e5 : m_st μ1 c 9 (w32 (ν 1000 64 + pc (aAnd X (μ (b + 8) l)))) c 5 = d := by rw [m_st_i (by decide)]; exact m5
    rw [e5, w32_i (x := d - 1) (by omega) (by omega), mput2 h.mr.mc, if_pos (by omega), q_bd_s, hX', hμ2]
  have eC : ∃ μ3, Mc_workKind c b l (ν 1002 l) μ1 = some (0, μ3) ∧ μ3 (c + 1) (d - 1) = e + 1 ∧ (∀ y i, ¬ (y = c + 1 ∧ i = d - 1) → μ3 y i = μ2 y i) := by
    rcases hk with ⟨z, y⟩ | ⟨z, y⟩
    · have k6 := h.li.k6 z
      have e7 : b + 1 + 6 = b + 7 := by omega
      refine ⟨m_st μ2 (c + 1) (d - 1) (e + 1), ?_, by rw [m_st_d, if_pos ⟨rfl, rfl⟩], fun y i w => by rw [m_st_d, if_neg w]⟩
      unfold Mc_workKind
      rw [q_gd_s (bO0 hbo), q_gd_s (mO3 h.mr.mc), if_neg (by omega), if_neg (by omega), if_neg (by omega), if_neg (by omega), if_neg (by omega), if_pos z, eD, q_bd_s, q_gd_s (bO2 hbo), e7, bat7 hbo, if_pos l0, q_bd_s, m2 _ _ (by omega) (by omega), hm.fr (b + 7) l (by omega) (by omega) (by omega), k6, ← y, m5, w32_i (x := d - 1) (by omega) (by omega), w32_i (x := e + 1) (by omega) (by omega), mput1 h.mr.mc, if_pos (by omega), q_bd_s]
    · refine ⟨μ2, ?_, by rw [m2 _ _ (by omega) (by omega), y]; exact hm.n1, fun _ _ _ => rfl⟩
      unfold Mc_workKind
      rw [q_gd_s (bO0 hbo), q_gd_s (mO3 h.mr.mc), if_neg (by omega), if_neg (by omega), if_neg (by omega), if_neg (by omega), if_neg (by omega), if_neg (by omega), if_pos z, eD, q_bd_s]
  obtain ⟨μ3, c1, c2, c3⟩ := eC
  have f2 : ∀ y i, ¬ (y = 1044 ∧ i = d - 1) → m_st ν2 1044 (d - 1) (e + 1) y i = ν2 y i := fun y i w => by rw [m_st_d, if_neg w]
  have eB : M_works_B275 (d - 1) e (rB d l ν) = M_works_B296 (m_st ν2 1044 (d - 1) (e + 1)) := by
    unfold M_works_B275
    rw [q_ld_s (by omega) (by omega), g42, b1, q_bd_s, w32_i (x := e + 1) (by omega) (by omega), q_st_s (by omega) (by omega)]
  have eR : M_works_B39 (d - 1) l ν = M_works_B296 (m_st ν2 1044 (d - 1) (e + 1)) := by
    rw [← eB]
    unfold M_works_B39
    rw [q_pf_d, w32_i (x := l + 1) (by omega) (by omega), q_st_s (by omega) (by omega), er, q2, if_neg (by omega), q2, if_neg (by omega), q2, if_neg (by omega), q2, if_neg (by omega), q2, if_neg (by omega), q2, if_neg (by omega), q2]
    rcases hk with ⟨z, y⟩ | ⟨z, y⟩
    · rw [if_pos z, q_ld_s (by omega) (by omega), g9, ← y]
    · rw [if_neg (by omega), ← y]
  have n2 : ∀ y i, ¬ (y = 1000 ∧ (i = 64 ∨ i = 66)) → ¬ (y = 1044 ∧ i = d - 1) → ¬ (y = 1045 ∧ i = d - 1) → ν2 y i = ν y i := fun y i p w z => by rw [b5 y i z (by omega), rB_f (by omega) w]
  refine KD.top h (e + 1) X' c1 eR c2 (by rw [c3 _ _ (by omega), ← hμ2, m_st_d, if_pos ⟨rfl, rfl⟩]) (fun y i p q w z u => by rw [c3 y i q, m2 y i (by omega) w, hm.fr y i q w (by omega)]) (by rw [m_st_d, if_pos ⟨rfl, rfl⟩]) (by rw [f2 _ _ (by omega)]; exact xx) (fun y i p q w z u => by rw [f2 y i w, n2 y i (by omega) w z]) ⟨?_, ?_⟩ ⟨?_, ?_⟩ ?_ ?_ sX' (by omega) bX'
  · rw [c3 _ _ (by omega), f2 _ _ (by omega), b4, ← hμ2, m_st_c (by omega), m_st_d, if_pos ⟨rfl, rfl⟩]
  · rw [f2 _ _ (by omega), b4]; exact w32_r _
  · rw [c3 _ _ (by omega), m2 _ _ (by omega) (by omega), hm.fr _ _ (by omega) (by omega) (by omega), f2 _ _ (by omega), n2 _ _ (by omega) (by omega) (by omega)]; exact hcn.2.2.1
  · rw [f2 _ _ (by omega), n2 _ _ (by omega) (by omega) (by omega)]; exact hcn.2.2.2.2.2
  · rw [f2 _ _ (by omega), b5 _ _ (by omega) (by omega)]; exact rB_s
  · intro t p q y
    rw [c3 _ _ (by omega), m2 _ _ (by omega) (by omega), hm.fr _ _ (by omega) (by omega) (by omega), f2 _ _ (by omega), n2 _ _ (by omega) (by omega) (by omega)]
    refine h.mr.vl (d - 1) t (by omega) (by omega) p q ?_
    rw [h.ex]
    exact (h.tt t p q).mpr (((hT t p q).1.mp ((bX' t p q).mp y)).1)
