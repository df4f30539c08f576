/-! The machine, both sides: give; a step. -/
theorem kd_give {b c B W n d k l x X : Int} {Wn : Int → Int} {T : Int → Int → Prop} {r : List Int} {μ ν μ1 : am_M} (h : TOP b c B W n d k l x Wn T r μ ν) (hm : MD b c d l x X r μ μ1) (hk : ν 1002 l = 8) : KD b c B W n d l 8 Wn μ ν μ1 := by
  have hd := h.mr.dd
  have hd1 := h.d1
  have hr := h.mr.mc.r
  have hbo := h.bi.bo
  have hb' : b = 100 ∨ b = 200 := hbo
  have l0 := h.li.ck.l0
  have hcn := h.mr.cn (by decide)
  have rg := h.li.rg
  obtain ⟨L, he⟩ := h.li.ee (by unfold hE; omega)
  obtain ⟨μ2, a1, a2⟩ := h.rc hm he
  obtain ⟨ν2, b1, b2, b3, b4, b5, b6⟩ := h.rr hm he
  generalize hv : ifx (envR r (fun s => ν 1046 (10 * (d - 1) + s))) Wn L = v at *
  have hvr : r32 v := by rw [← hv]; exact ifx_r
  have m2 : ∀ y i, ¬ (y = c + 1 ∧ i = d - 1) → ¬ (y = c + 2 ∧ i = d - 1) → ¬ (y = c ∧ i = 9) → y ≠ 41 → μ2 y i = μ y i := fun y i p q w z => by rw [a2 y i z, hm.fr y i p q w]
  have m5 : μ2 c 5 = d := by rw [m2 _ _ (by omega) (by omega) (by omega) (by omega)]; exact h.mr.c5
  have t2 : μ2 (c + 2) (d - 1) = X := by rw [a2 _ _ (by omega)]; exact hm.t1
  have a9 : μ2 c 9 = ν2 1000 64 := by rw [a2 _ _ (by omega), hm.a9, b3, hcn.2.1]
  -- the reference clears
  obtain ⟨ν3, c1, c2, c3, c4, c5⟩ := clears_s (f := d - 1) (set := 0) (y := X) (ν := ν2) (by omega) (by rw [b2]; exact hm.sX) (by rw [b3]; exact w32_r _) (fun t p q => by rw [b2, tb_0]; simp)
  generalize hν4 : m_st ν3 1000 58 (d - 1) = ν4
  have n4 : ∀ y i, ¬ (y = 1000 ∧ (i = 58 ∨ i = 64 ∨ i = 66)) → ¬ (1024 ≤ y ∧ y ≤ 1033) → ¬ (y = 1044 ∧ i = d - 1) → ¬ (y = 1045 ∧ i = d - 1) → ν4 y i = ν y i := fun y i p q w z => by rw [← hν4, m_st_d, if_neg (by omega), c5 y i z (by omega), b6 y i (by omega) q w z]
  have e58 : ν3 1000 58 = d := by rw [c5 _ _ (by omega) (by omega), b6 _ _ (by omega) (by omega) (by omega) (by omega)]; exact h.mr.r5
  have v58 : ν4 1000 58 = d - 1 := by rw [← hν4, m_st_d, if_pos ⟨rfl, rfl⟩]
  have v64 : ν4 1000 64 = w32 (ν2 1000 64 + pc X) := by rw [← hν4, m_st_d, if_neg (by omega), c4]
  have v66 : ν4 1000 66 = w32 (ν 1000 66 + 1) := by rw [← hν4, m_st_d, if_neg (by omega), c5 _ _ (by omega) (by omega)]; exact b4
  -- the class
  generalize hμ4 : m_st (m_st μ2 c 9 (w32 (ν2 1000 64 + pc X))) c 5 (d - 1) = μ4
  have m4 : ∀ y i, ¬ (y = c + 1 ∧ i = d - 1) → ¬ (y = c + 2 ∧ i = d - 1) → ¬ (y = c ∧ (i = 5 ∨ i = 9)) → y ≠ 41 → μ4 y i = μ y i := fun y i p q w z => by rw [← hμ4, m_st_d, if_neg (by omega), m_st_d, if_neg (by omega), m2 y i p q (by omega) z]
  have u5 : μ4 c 5 = d - 1 := by rw [← hμ4, m_st_d, if_pos ⟨rfl, rfl⟩]
  have u9 : μ4 c 9 = ν4 1000 64 := by rw [← hμ4, m_st_i (by decide), m_st_d, if_pos ⟨rfl, rfl⟩, v64]
  have u10 : μ4 c 10 = ν4 1000 65 := by rw [m4 _ _ (by omega) (by omega) (by omega) (by omega), n4 _ _ (by omega) (by omega) (by omega) (by omega)]; exact hcn.2.2.1
  have u11 : μ4 c 11 = ν 1000 66 := by rw [m4 _ _ (by omega) (by omega) (by omega) (by omega)]; exact hcn.2.2.2.1
  have u8 : μ4 c 8 = ν4 1000 63 := by rw [m4 _ _ (by omega) (by omega) (by omega) (by omega), n4 _ _ (by omega) (by omega) (by omega) (by omega)]; exact hcn.1
  have r64 : r32 (ν4 1000 64) := by rw [v64]; exact w32_r _
  have r65 : r32 (ν4 1000 65) := by rw [n4 _ _ (by omega) (by omega) (by omega) (by omega)]; exact hcn.2.2.2.2.2
  have er : m_st (m_st ν 1000 66 (w32 (ν 1000 66 + 1))) 1044 (d - 1) (l + 1) = rB d l ν := rfl
  have q2 : ∀ k, q_ld 120 1002 l (rB d l ν) k = k (ν 1002 l) := fun k => by rw [q_ld_s (by omega) (by omega), rB_f (by omega) (by omega)]
  -- both, so far
  have eC : Mc_workKind c b l 8 μ1 = q_bd (if d - 1 = 0 then (q_pf c 6 2 μ4 fun μ15 => q_pf c 7 v μ15 fun μ16 => some (0, μ16)) else (q_bd (X_at (c + 1) (w32 (d - 1 - 1)) μ4) fun a8 μ9 => q_gd 2 (b + 1) <| q_bd (X_at (b + 3) (w32 (a8 - 1)) μ9) fun a11 μ12 => q_bd (Mc_lay c a11 v μ12) fun a13 μ14 => some (0, μ14))) fun _ μ24 => some (0, μ24) := by
    have e3 : b + 1 + 2 = b + 3 := by omega
    have e5 : ∀ w, m_st μ2 c 9 w c 5 = d := fun w => by rw [m_st_i (by decide)]; exact m5
    have e6 : ∀ w, m_st (m_st μ2 c 9 w) c 5 (d - 1) c 5 = d - 1 := fun w => by rw [m_st_d, if_pos ⟨rfl, rfl⟩]
    unfold Mc_workKind Mc_workGive
    rw [q_gd_s (bO0 hbo), q_gd_s (mO3 h.mr.mc), if_neg (by decide), if_neg (by decide), if_neg (by decide), if_neg (by decide), if_neg (by decide), if_neg (by decide), if_neg (by decide), if_pos rfl, a1, q_bd_s, q_gd_s (mO3 h.mr.mc), m5, w32_i (x := d - 1) (by omega) (by omega), mat2 h.mr.mc, if_pos (show 0 ≤ d - 1 ∧ d - 1 < 16 by omega), q_bd_s, t2, bitCount_s hm.sX, q_bd_s, q_pf_d, a9, q_pf_d, e5, w32_i (x := d - 1) (by omega) (by omega), e6, hμ4, e3]
  have eR : M_works_B39 (d - 1) l ν = q_bd (if d - 1 = 0 then (q_pf 1000 67 v ν4 fun μ10 => q_pf 1000 57 2 μ10 fun μ11 => some (0, μ11)) else (q_ld 16 1044 (w32 (d - 1 - 1)) ν4 fun a6 => q_ld 120 1003 (w32 (a6 - 1)) ν4 fun a7 => q_bd (M_laysIn (w32 (d - 1 - 1)) a7 v ν4) fun a8 μ9 => some (0, μ9))) fun _ μ12 => M_works_B296 μ12 := by
    unfold M_works_B39 M_gives
    rw [q_pf_d, w32_i (x := l + 1) (by omega) (by omega), q_st_s (by omega) (by omega), er, q2, if_neg (by omega), q2, if_neg (by omega), q2, if_neg (by omega), q2, if_neg (by omega), q2, if_neg (by omega), q2, if_pos hk, b1, q_bd_s, c1, q_bd_s, q_pf_d, e58, w32_i (x := d - 1) (by omega) (by omega), hν4, v58]
  by_cases z : d - 1 = 0
  · rw [if_pos z, q_pf_d, q_pf_d, q_bd_s] at eC eR
    generalize hμ5 : m_st (m_st μ4 c 6 2) c 7 v = μ5 at *
    generalize hν5 : m_st (m_st ν4 1000 67 v) 1000 57 2 = ν5 at *
    have m5f : ∀ y i, ¬ (y = c ∧ (i = 6 ∨ i = 7)) → μ5 y i = μ4 y i := fun y i w => by rw [← hμ5, m_st_d, if_neg (by omega), m_st_d, if_neg (by omega)]
    have n5f : ∀ y i, ¬ (y = 1000 ∧ (i = 57 ∨ i = 67)) → ν5 y i = ν4 y i := fun y i w => by rw [← hν5, m_st_d, if_neg (by omega), m_st_d, if_neg (by omega)]
    have sc5 : SFC c μ μ5 := fun y i p q w => by rw [m5f y i (by omega), m4 y i (by omega) (by omega) (by omega) w]
    have sr : SFR ν ν5 := fun y i p q w => by rw [n5f y i (by omega), n4 y i (by omega) q (by omega) (by omega)]
    have s66 : ν5 1000 66 = w32 (ν 1000 66 + 1) := by rw [n5f _ _ (by omega)]; exact v66
    refine ⟨μ5, ν5, 0, 2, eC, eR, ?_, Or.inr rfl, sc5, sr, s66⟩
    have c11 : μ5 c 11 = ν 1000 66 := by rw [m5f _ _ (by omega)]; exact u11
    rw [c11]
    generalize hμ6 : m_st μ5 c 11 (w32 (ν 1000 66 + 1)) = μ6
    have m6 : ∀ y i, ¬ (y = c ∧ i = 11) → μ6 y i = μ5 y i := fun y i w => by rw [← hμ6, m_st_d, if_neg w]
    have sc : SFC c μ μ6 := sc5.tr (fun y i p q w => m6 y i (by omega))
    have g := sc.tf hbo h.mr.mc
    have gg := sr.tg
    have F : ∀ i, ¬ (5 ≤ i ∧ i ≤ 11) → μ6 c i = μ c i := fun i w => by rw [m6 c i (by omega), m5f c i (by omega), m4 c i (by omega) (by omega) (by omega) (by omega)]
    have R : ∀ i, i = 55 ∨ i = 56 → ν5 1000 i = ν 1000 i := fun i w => by rw [n5f 1000 i (by omega), n4 1000 i (by omega) (by omega) (by omega) (by omega)]
    exact h.mr.gen 0 (by omega) (Or.inl rfl) (by omega) g gg (by rw [m6 _ _ (by omega), m5f _ _ (by omega), u5, z]) (by rw [n5f _ _ (by omega), v58, z]) (by rw [m6 _ _ (by omega), ← hμ5, m_st_i (by decide), m_st_d, if_pos ⟨rfl, rfl⟩]) (by rw [← hν5, m_st_d, if_pos ⟨rfl, rfl⟩]) (by decide) ⟨F 12 (by omega), R 55 (by omega)⟩ ⟨F 13 (by omega), R 56 (by omega)⟩ ⟨by rw [m6 _ _ (by omega), m5f _ _ (by omega), n5f _ _ (by omega)]; exact u8, by rw [m6 _ _ (by omega), m5f _ _ (by omega), n5f _ _ (by omega)]; exact u9, by rw [m6 _ _ (by omega), m5f _ _ (by omega), n5f _ _ (by omega)]; exact u10, by rw [← hμ6, m_st_d, if_pos ⟨rfl, rfl⟩, s66], by rw [n5f _ _ (by omega)]; exact r64, by rw [n5f _ _ (by omega)]; exact r65⟩ (fun _ => by rw [m6 _ _ (by omega), ← hμ5, m_st_d, if_pos ⟨rfl, rfl⟩, ← hν5, m_st_i (by decide), m_st_d, if_pos ⟨rfl, rfl⟩]) (fun y => by omega) (F 1 (by omega)) (fun y i p q => by rw [m6 _ _ (by omega), m5f _ _ (by omega), m4 _ _ (by omega) (by omega) (by omega) (by omega)]) (fun i p => by
      rw [m6 _ _ (by omega), m5f _ _ (by omega), m4 _ _ (by omega) (by omega) (by omega) (by omega)]) (fun y i p q w => by rw [n5f _ _ (by omega), n4 _ _ (by omega) (by omega) (by omega) (by omega)]) (fun i p => by rw [n5f _ _ (by omega), n4 _ _ (by omega) (by omega) (by omega) (by omega)]) (fun f p q => by omega)
  · -- what waited goes on
    obtain ⟨-, -, -, T', w1, w2, w3, w4, w5⟩ := h.mr.fb (f := d - 2) (by omega) (by omega)
    rcases w5 with ⟨w5, -⟩ | ⟨-, w5, w6, r', w7, w8⟩
    · omega
    generalize hk' : ν 1043 (d - 2) = k' at *
    generalize hl' : ν 1044 (d - 2) = l' at *
    generalize hx' : ν 1045 (d - 2) = x' at *
    have hft := h.mr.ft.tb (d - 2) (by omega) (by omega)
    rw [hx'] at hft
    have hnl := h.mr.nl (d - 2) (by omega) (by omega)
    rw [hl'] at hnl
    have li' := LI_of h.mr.cd.tb w2 ⟨w5, by omega⟩ w7
    have bi' := BI_of h.mr.cd.tb w2
    have hfn' := bi'.fn
    have htt' := bi'.tt
    have le' : l' - 1 < ν 1017 k' + ν 1018 k' - 1 := by omega
    obtain ⟨r2, f1, -, f3, -⟩ := w1.2.1 (l' - 1) (by omega) le'
    have f3 := f3 (by omega)
    have err : r2 = r' := f1.rl.u w7.rl
    have hla := w7.la
    have hbe := w7.be
    have s0 := li'.la.mpr (Or.inr (Or.inr w6))
    have be1 : ν 1004 (l' - 1) = -1 := by have := li'.be; omega
    have e2 : d - 1 - 1 = d - 2 := by omega
    have l1 := w7.l0
    obtain ⟨μ5, g1, g2, g3, g4⟩ := mlay_s (c := c) (d := d - 1) (s := ν 1003 (l' - 1)) (v := v) (x := x') (μ := μ4) h.mr.mc (by omega) u5 (by rw [e2, m4 _ _ (by omega) (by omega) (by omega) (by omega)]; exact hft.1) ⟨s0, hla.2.2⟩
    obtain ⟨ν5, j1, j2, j3, j4⟩ := laysIn_s (f := d - 2) (s := ν 1003 (l' - 1)) (v := v) (ν := ν4) (by omega) ⟨s0, hla.2.2⟩
    rw [e2] at g2 g3 g4
    rw [n4 _ _ (by omega) (by omega) (by omega) (by omega), hx'] at j2
    have eC2 : Mc_workKind c b l 8 μ1 = some (0, μ5) := by
      rw [eC, if_neg z, e2, w32_i (x := d - 2) (by omega) (by omega), mat1 h.mr.mc, if_pos (show 0 ≤ d - 2 ∧ d - 2 < 16 by omega), q_bd_s, m4 (c + 1) (d - 2) (by omega) (by omega) (by omega) (by omega), hnl, q_gd_s (bO2 hbo), w32_i (x := l' - 1) (by omega) (by omega), bat3 hbo, if_pos (show 0 ≤ l' - 1 ∧ l' - 1 < 60 by omega), q_bd_s, m4 (b + 3) _ (by omega) (by omega) (by omega) (by omega), hla.1, g1, q_bd_s, q_bd_s]
    have eR2 : M_works_B39 (d - 1) l ν = M_works_B296 ν5 := by
      rw [eR, if_neg z, e2, w32_i (x := d - 2) (by omega) (by omega), q_ld_s (by omega) (by omega), n4 1044 (d - 2) (by omega) (by omega) (by omega) (by omega), hl', w32_i (x := l' - 1) (by omega) (by omega), q_ld_s (by omega) (by omega), n4 1003 _ (by omega) (by omega) (by omega) (by omega), j1, q_bd_s, q_bd_s]
    have m5f : ∀ y i, ¬ (y = c + 2 ∧ i = d - 2) → ¬ (y = c + 3 ∧ 10 * (d - 2) ≤ i) → μ5 y i = μ4 y i := fun y i p w => g4 y i p (by omega)
    have n5f : ∀ y i, ¬ (y = 1045 ∧ i = d - 2) → ¬ (y = 1046 ∧ 10 * (d - 2) ≤ i) → ν5 y i = ν4 y i := fun y i p w => j4 y i p (by omega)
    have sc5 : SFC c μ μ5 := fun y i p q w => by rw [m5f y i (by omega) (by omega), m4 y i (by omega) (by omega) (by omega) w]
    have sr : SFR ν ν5 := fun y i p q w => by rw [n5f y i (by omega) (by omega), n4 y i (by omega) q (by omega) (by omega)]
    have s66 : ν5 1000 66 = w32 (ν 1000 66 + 1) := by rw [n5f _ _ (by omega) (by omega)]; exact v66
    refine ⟨μ5, ν5, d - 1, 1, eC2, eR2, ?_, Or.inl rfl, sc5, sr, s66⟩
    have c11 : μ5 c 11 = ν 1000 66 := by rw [m5f _ _ (by omega) (by omega)]; exact u11
    rw [c11]
    generalize hμ6 : m_st μ5 c 11 (w32 (ν 1000 66 + 1)) = μ6
    have m6 : ∀ y i, ¬ (y = c ∧ i = 11) → μ6 y i = μ5 y i := fun y i w => by rw [← hμ6, m_st_d, if_neg w]
    have sc : SFC c μ μ6 := sc5.tr (fun y i p q w => m6 y i (by omega))
    have g := sc.tf hbo h.mr.mc
    have gg := sr.tg
    have F : ∀ i, ¬ (i = 5 ∨ i = 9 ∨ i = 11) → μ6 c i = μ c i := fun i w => by rw [m6 c i (by omega), m5f c i (by omega) (by omega), m4 c i (by omega) (by omega) (by omega) (by omega)]
    have R : ∀ i, ¬ (i = 58 ∨ i = 64 ∨ i = 66) → ν5 1000 i = ν 1000 i := fun i w => by rw [n5f 1000 i (by omega) (by omega), n4 1000 i (by omega) (by omega) (by omega) (by omega)]
    refine h.mr.gen (d - 2) (by omega) (Or.inr (by omega)) (by omega) g gg (by rw [m6 _ _ (by omega), m5f _ _ (by omega) (by omega), u5]) (by rw [n5f _ _ (by omega) (by omega), v58]) (by rw [F 6 (by omega)]; exact h.mr.c6) (by rw [R 57 (by omega)]; exact h.mr.r6) (by decide) ⟨F 12 (by omega), R 55 (by omega)⟩ ⟨F 13 (by omega), R 56 (by omega)⟩ ⟨by rw [m6 _ _ (by omega), m5f _ _ (by omega) (by omega), n5f _ _ (by omega) (by omega)]; exact u8, by rw [m6 _ _ (by omega), m5f _ _ (by omega) (by omega), n5f _ _ (by omega) (by omega)]; exact u9, by rw [m6 _ _ (by omega), m5f _ _ (by omega) (by omega), n5f _ _ (by omega) (by omega)]; exact u10, by rw [← hμ6, m_st_d, if_pos ⟨rfl, rfl⟩, s66], by rw [n5f _ _ (by omega) (by omega)]; exact r64, by rw [n5f _ _ (by omega) (by omega)]; exact r65⟩ (fun y => by omega) (fun _ => by omega) (F 1 (by omega)) (fun y i p q => by rw [m6 _ _ (by omega), m5f _ _ (by omega) (by omega), m4 _ _ (by omega) (by omega) (by omega) (by omega)]) (fun i p => by rw [m6 _ _ (by omega), m5f _ _ (by omega) (by omega), m4 _ _ (by omega) (by omega) (by omega) (by omega)]) (fun y i p q w => by rw [n5f _ _ (by omega) (by omega), n4 _ _ (by omega) (by omega) (by omega) (by omega)]) (fun i p => by rw [n5f _ _ (by omega) (by omega), n4 _ _ (by omega) (by omega) (by omega) (by omega)]) ?_
    intro f p q
    have ef : f = d - 2 := by omega
    subst ef
    have e43 : ν5 1043 (d - 2) = k' := by rw [n5f _ _ (by omega) (by omega), n4 _ _ (by omega) (by omega) (by omega) (by omega)]; exact hk'
    have e44 : ν5 1044 (d - 2) = l' := by rw [n5f _ _ (by omega) (by omega), n4 _ _ (by omega) (by omega) (by omega) (by omega)]; exact hl'
    unfold FB1
    rw [e43, e44, j2]
    refine ⟨by rw [m6 _ _ (by omega), m5f _ _ (by omega) (by omega), m4 _ _ (by omega) (by omega) (by omega) (by omega)]; exact hnl, ⟨by rw [m6 _ _ (by omega)]; exact g2, S10_or hft.2 (S10_shl s0 hla.2.2)⟩, fun s p0 p1 y => ?_, T', w1.cong g gg, w2, by rw [g (b + 22) (by omega) (by omega)]; exact w3, by rw [gg 1017 (by omega), gg 1018 (by omega), gg 1019 (by omega)]; exact w4, Or.inl ⟨by omega, fun t p0 p1 => ?_⟩⟩
    · rw [m6 _ _ (by omega)]
      by_cases y2 : s = ν 1003 (l' - 1)
      · rw [y2, g3, j3]
        exact ⟨rfl, hvr⟩
      · have y1 := ((lay_tb ⟨s0, hla.2.2⟩ p0 p1).mp y).elim (fun w => w) (fun w => absurd w y2)
        rw [g4 _ _ (by omega) (by omega), j4 _ _ (by omega) (by omega), m4 _ _ (by omega) (by omega) (by omega) (by omega), n4 _ _ (by omega) (by omega) (by omega) (by omega)]
        exact h.mr.vl (d - 2) s (by omega) (by omega) p0 p1 (by rw [hx']; exact y1)
    · have el : l' - 1 + 1 = l' := by omega
      have f4 := f3 t p0 p1
      rw [el, be1, err] at f4
      rw [lay_tb ⟨s0, hla.2.2⟩ p0 p1, w8 t p0 p1, f4]
      constructor
      · rintro (y | y)
        · exact Or.inl y
        · exact Or.inr (Or.inl y)
      · rintro (y | y | y)
        · exact Or.inl y
        · exact Or.inr y
        · omega
/-- a step -/
theorem work_s {b c B W n d : Int} {Wn : Int → Int} {μ ν : am_M} (h : MR b c B W n d 1 Wn μ ν) : ∃ r μ' ν' d' st', Mc_work c b μ = some (r, μ') ∧ M_works ν = some (0, ν') ∧ MR b c B W n d' st' Wn μ' ν' ∧ st' ≠ 0 ∧ SFC c μ μ' ∧ SFR ν ν' ∧ ((r = 0 ∧ st' = 4 ∧ ν' 1000 66 = ν 1000 66) ∨ (r = 1 ∧ ν' 1000 66 = w32 (ν 1000 66 + 1))) := by
  obtain ⟨k, l, x, T, r, ht⟩ := TOP_of h
  have hd := h.dd
  have hd1 := ht.d1
  have hr := h.mc.r
  have hbo := ht.bi.bo
  have l0 := ht.li.ck.l0
  have hkd := ht.li.ck.kd
  have k0 := ht.li.k0
  have hcn := h.cn (by decide)
  have e2 : b + 1 + 1 = b + 2 := by omega
  have hnl : μ (c + 1) (d - 1) = l := by rw [h.nl (d - 1) (by omega) (by omega), ht.el]
  have eC : Mc_work c b μ = if ν 1002 l = 4 then (if d < 16 then Mc_work_B55 c b (b + 1) (d - 1) l (ν 1002 l) μ else q_pf c 6 4 μ fun μ8 => some (0, μ8)) else Mc_work_B55 c b (b + 1) (d - 1) l (ν 1002 l) μ := by
    unfold Mc_work
    rw [q_gd_s (bO0 hbo), q_gd_s (mO3 h.mc), h.c5, w32_i (x := d - 1) (by omega) (by omega), mat1 h.mc, if_pos (show 0 ≤ d - 1 ∧ d - 1 < 16 by omega), q_bd_s, hnl, q_gd_s (bO2 hbo), e2, bat2 hbo, if_pos l0, q_bd_s, hkd.1, h.c5]
  have eR : M_works ν = if ν 1002 l = 4 then (if d = 16 then (q_pf 1000 57 4 ν fun μ3 => some (0, μ3)) else M_works_B39 (d - 1) l ν) else M_works_B39 (d - 1) l ν := by
    unfold M_works
    rw [h.r5, w32_i (x := d - 1) (by omega) (by omega), q_ld_s (by omega) (by omega), ht.el, q_ld_s (by omega) (by omega)]
  by_cases z : ν 1002 l = 4 ∧ d = 16
  · rw [if_pos z.1, if_neg (by omega), q_pf_d] at eC
    rw [if_pos z.1, if_pos z.2, q_pf_d] at eR
    have f1 : ∀ y i, ¬ (y = c ∧ i = 6) → m_st μ c 6 4 y i = μ y i := fun y i w => by rw [m_st_d, if_neg w]
    have f2 : ∀ y i, ¬ (y = 1000 ∧ i = 57) → m_st ν 1000 57 4 y i = ν y i := fun y i w => by rw [m_st_d, if_neg w]
    have sc : SFC c μ (m_st μ c 6 4) := fun y i p q w => f1 y i (by omega)
    have sr : SFR ν (m_st ν 1000 57 4) := fun y i p q w => f2 y i (by omega)
    have g := sc.tf hbo h.mc
    have gg := sr.tg
    refine ⟨0, _, _, d, 4, eC, eR, ?_, by decide, sc, sr, Or.inl ⟨rfl, rfl, f2 _ _ (by omega)⟩⟩
    refine h.gen (d - 1) (by omega) (Or.inr (Int.le_refl _)) hd g gg (by rw [f1 _ _ (by omega)]; exact h.c5) (by rw [f2 _ _ (by omega)]; exact h.r5) (by rw [m_st_d, if_pos ⟨rfl, rfl⟩]) (by rw [m_st_d, if_pos ⟨rfl, rfl⟩]) (by decide) ⟨f1 _ _ (by omega), f2 _ _ (by omega)⟩ ⟨f1 _ _ (by omega), f2 _ _ (by omega)⟩ ?_ (fun y => by omega) (fun y => by omega) (f1 _ _ (by omega)) (fun y i p q => f1 _ _ (by omega)) (fun i p => f1 _ _ (by omega)) (fun y i p q w => f2 _ _ (by omega)) (fun i p => f2 _ _ (by omega)) ?_
    · rw [f1 _ _ (by omega), f1 _ _ (by omega), f1 _ _ (by omega), f1 _ _ (by omega), f2 _ _ (by omega), f2 _ _ (by omega), f2 _ _ (by omega), f2 _ _ (by omega)]
      exact hcn
    · intro f p q
      obtain ⟨a1, a2, a3, a4⟩ := h.fb (f := f) (by omega) q
      unfold FB1
      rw [f1 _ _ (by omega), f1 _ _ (by omega), f2 _ _ (by omega), f2 _ _ (by omega), f2 _ _ (by omega)]
      exact ⟨a1, a2, fun s p q y => by rw [f1 _ _ (by omega), f2 _ _ (by omega)]; exact a3 s p q y, a4.cong g gg⟩
  · have eC2 : Mc_work c b μ = Mc_work_B55 c b (b + 1) (d - 1) l (ν 1002 l) μ := by
      rw [eC]
      by_cases y : ν 1002 l = 4
      · rw [if_pos y, if_pos (by omega)]
      · rw [if_neg y]
    have eR2 : M_works ν = M_works_B39 (d - 1) l ν := by
      rw [eR]
      by_cases y : ν 1002 l = 4
      · rw [if_pos y, if_neg (by omega)]
      · rw [if_neg y]
    obtain ⟨X, μ0, μ1, a1, a2, hm⟩ := MD_of ht
    have K : KD b c B W n d l (ν 1002 l) Wn μ ν μ1 := by
      have rg := ht.li.rg
      have cases : ν 1002 l = 1 ∨ ν 1002 l = 2 ∨ ν 1002 l = 3 ∨ ν 1002 l = 4 ∨ ν 1002 l = 5 ∨ ν 1002 l = 6 ∨ ν 1002 l = 7 ∨ ν 1002 l = 8 := by omega
      rcases cases with y | y | y | y | y | y | y | y
      · rw [y]; exact kd_let ht hm y
      · rw [y]; exact kd_twin ht hm y
      · rw [y]; exact kd_burn ht hm y
      · rw [y]; exact kd_call ht hm y (by omega)
      · rw [y]; exact kd_if ht hm y
      · have le : l < ν 1017 k + ν 1018 k - 1 := by have := ht.li.k8; omega
        obtain ⟨p1, p2, p3, p4⟩ := (ht.fl le).2.2.1 y
        exact kd_drop ht hm (Or.inl ⟨y, rfl⟩) ⟨by omega, p2⟩ p3 p4
      · have le : l < ν 1017 k + ν 1018 k - 1 := by have := ht.li.k8; omega
        obtain ⟨p3, p2, p4⟩ := (ht.fl le).2.2.2 y
        exact kd_drop ht hm (Or.inr ⟨y, rfl⟩) ⟨by omega, by omega⟩ p3 p4
      · rw [y]; exact kd_give ht hm y
    obtain ⟨μ2, ν2, d', st', b1, b2, b3, b4, b5, b6, b7⟩ := K
    obtain ⟨μ3, ν3, st2, c1, c2, c3, c4, c5, c6, c7⟩ := MR_looks b3 (by omega)
    refine ⟨1, μ3, ν3, d', st2, ?_, ?_, c3, by omega, ?_, b6.tr c6, Or.inr ⟨rfl, by rw [c7, b7]⟩⟩
    · rw [eC2]
      unfold Mc_work_B55
      rw [q_gd_s (mO3 h.mc), a1, q_bd_s, if_neg (by decide), a2, q_bd_s, b1, q_bd_s, q_pf_d, c1, q_bd_s]
    · rw [eR2, b2]
      unfold M_works_B296
      rw [c2, q_bd_s]
    · exact (b5.tr (fun y i p q w => by rw [m_st_d, if_neg (by omega)])).tr c5
