/-! burn. -/
theorem FRS.fl1 {b l p pt : Int} {μ μ' : am_M} (h : FRS b l pt μ μ') (hp : μ (b + 1) 11 = p) : FL1 b l p μ μ' := fun c i z => h c i (by omega)
theorem FMS.fl2 {B l q : Int} {ν ν' : am_M} (h : FMS B ν ν') : FL2 B l q ν ν' := fun c i z => h c i (by omega)
set_option maxHeartbeats 4000000 in
theorem burn_s {b B W l p q : Int} {Wn : Int → Int} {μ ν : am_M} (hb : bOk b) (h : LB b B W l p 3 μ ν) (hq : ν 1000 30 = q) : LO b B W l p q 0 Wn μ ν (q_bd (Rd_readSlip 0 μ) fun a24 μ25 => q_rb a24 (some (a24, μ25))) (q_bd (M_needsSlip ν) fun a3 μ4 => q_st 480 1007 (w32 (4 * (60 + l))) a3 μ4 fun μ5 => q_ld 480 1007 (w32 (4 * (60 + l))) μ5 fun a6 => if a6 < 0 then (some (0, μ5)) else (q_bd (M_ends μ5) fun a7 μ8 => if a7 = 0 then (some (0, μ8)) else (some (1, μ8)))) := by
  have hb' : b = 100 ∨ b = 200 := hb
  have hl := h.ln.l0
  have hpc := h.pc
  obtain ⟨r, μ1, s, ν1, a1, a2, a3, a4, a5⟩ := slip_read hb (Or.inl rfl) h.ln
  rw [a1, a2, q_bd_s, q_bd_s, w32_i (x := 4 * (60 + l)) (by omega) (by omega), q_st_s (by omega) (by omega), q_ld_s (by omega) (by omega)]
  have e7 : m_st ν1 1007 (4 * (60 + l)) s 1007 (4 * (60 + l)) = s := by rw [m_st_d, if_pos ⟨rfl, rfl⟩]
  have g7 : ∀ c i, ¬ (c = 1007 ∧ i = 4 * (60 + l)) → m_st ν1 1007 (4 * (60 + l)) s c i = ν1 c i := fun c i z => by rw [m_st_d, if_neg z]
  rw [e7]
  generalize hν2 : m_st ν1 1007 (4 * (60 + l)) s = ν2 at *
  have f2 : FL2 B l q ν ν2 := fun c i z => by rw [g7 c i (by omega), a4.fl2 c i z]
  rcases a5 with ⟨b1, b2, b3⟩ | ⟨b1, b2, b3, b4, b5, b6, b7, -, -, b8, -⟩
  · subst b1; subst b2
    rw [q_rb0, if_pos (by decide)]
    refine ⟨0, μ1, rfl, a3.fl1 hpc, Or.inl ⟨rfl, ν2, rfl, ⟨?_, b3.2⟩, f2⟩⟩
    rw [b3.1, g7 _ _ (by omega)]
  · subst b1
    rw [q_rb1, if_neg (by omega)]
    have tr2 : TR μ1 ν2 := b5.tr.cong (fun _ _ _ => rfl) (fun c i z => g7 c i (by omega))
    have ln2 : LN b B W l p μ1 ν2 := (LN.mk (tr := tr2) (rd := b5.rd) (nw := b5.nw.cong (fun _ _ _ => rfl) (fun c i z => g7 c i (by omega))) (sl := b5.sl.cong (fun _ _ _ => rfl) (fun c i z => g7 c i (by omega))) (cB := by rw [g7 _ _ (by omega)]; exact b5.cB) (cW := by rw [g7 _ _ (by omega)]; exact b5.cW) (B1 := b5.B1) (cnt := b5.cnt) (reg := b5.reg) (l0 := b5.l0) (st := b5.st) (sp := b5.sp) (p0 := b5.p0) (cap := b5.cap) (q0 := by rw [g7 _ _ (by omega)]; exact b5.q0) (caq := by rw [g7 _ _ (by omega)]; exact b5.caq))
    obtain ⟨r2, μ3, ν3, c1, c2, c3⟩ := ends_s tr2 ln2.rd.rf
    rw [c2, q_bd_s]
    refine ⟨1, μ1, rfl, a3.fl1 hpc, Or.inr ⟨rfl, r2, μ3, ν3, c1, ?_, ?_⟩⟩
    · rcases c3 with ⟨d1, -⟩ | ⟨d1, -⟩ <;> (subst d1; rfl)
    · rcases c3 with ⟨d1, d2, d3, d4⟩ | ⟨d1, d2, d3, d4, d5⟩
      · exact ⟨fun c i z => by rw [d3 c i (by omega), a3.fl1 hpc c i z], fun c i z => by rw [d4 c i (by omega), f2 c i z], Or.inl ⟨d1, d2⟩⟩
      · refine ⟨fun c i z => by rw [d3 c i (by omega), a3.fl1 hpc c i z], fun c i z => by rw [d4 c i (by omega), f2 c i z], Or.inr ⟨d1, LN_adv hb ln2 d2 d3 d4 d5, ?_, by rw [d3 _ _ (by omega)]; exact b8, by omega, by rw [d4 _ _ (by omega), g7 _ _ (by omega), a4 _ _ (by omega)], by rw [d4 _ _ (by omega), g7 _ _ (by omega), a4 _ _ (by omega)], by rw [d4 _ _ (by omega), g7 _ _ (by omega), a4 _ _ (by omega)]⟩⟩
        have ln3 := LN_adv hb ln2 d2 d3 d4 d5
        have em : ∀ c, b + 2 ≤ c → c ≤ b + 6 → μ3 c l = μ c l := fun c x y => by rw [d3 c l (by omega), a3 c l (by omega)]
        have en : ∀ c i, ¬ ((c = 1000 ∧ 4 ≤ i ∧ i ≤ 9) ∨ (c = 1020 ∧ i = 3 + B) ∨ c = 1021 ∨ (c = 1007 ∧ i = 4 * (60 + l))) → ν3 c i = ν c i := fun c i z => by rw [d4 c i (by omega), g7 c i (by omega), a4 c i (by omega)]
        have es : ν3 1007 (4 * (60 + l)) = s := by rw [d4 _ _ (by omega), ← hν2, m_st_d, if_pos ⟨rfl, rfl⟩]
        have e6 : μ3 20 6 = μ1 20 6 := d3 _ _ (by omega)
        have ecc : μ3 (b + 1) 11 = p + 1 := by rw [d3 _ _ (by omega), (b7 rfl).1, hpc]
        have eco : μ3 (b + 11) p = 2 + s * 128 := by rw [d3 _ _ (by omega), ← hpc]; exact (b7 rfl).2
        have est := ln3.st
        have esp := ln3.sp
        have ecap := ln3.cap
        have ehp := ln3.p0
        have ebe := ln3.tr.be1
        have eat := ln3.tr.base.at3
        have en1 := ln3.tr.base.n1
        have ecq := h.ln.caq
        have ecq0 := h.ln.q0
        have es0 := h.ln.sl.s0
        have hbe := h.ln.tr.be1
        have hat := h.ln.tr.base.at3
        have hn1 := h.ln.tr.base.n1
        have src : ∀ i, 0 ≤ i → i < 4 → (i = 0 ∧ ν3 1007 (4 * (60 + l) + i) = s) ∨ (i ≠ 0 ∧ ν3 1007 (4 * (60 + l) + i) = -1) := by
          intro i x y
          by_cases z : i = 0
          · left; refine ⟨z, ?_⟩
            have : 4 * (60 + l) + i = 4 * (60 + l) := by omega
            rw [this]; exact es
          · right; exact ⟨z, by rw [en _ _ (by omega)]; exact h.m7 i x y⟩
        have m2 : ν3 1002 (60 + l) = 3 := by rw [en _ _ (by omega)]; exact h.m2
        have m3 : ν3 1003 (60 + l) = -1 := by rw [en _ _ (by omega)]; exact h.m3
        have m4 : ν3 1004 (60 + l) = -1 := by rw [en _ _ (by omega)]; exact h.m4
        have m5 : ν3 1005 (60 + l) = 1 := by rw [en _ _ (by omega)]; exact h.m5
        have m6 : ν3 1006 (60 + l) = -1 := by rw [en _ _ (by omega)]; exact h.m6
        have m10 : ν3 1010 (60 + l) = ν 1000 30 := by rw [en _ _ (by omega)]; exact h.m10
        have m11 : ν3 1011 (60 + l) = ν 1000 30 := by rw [en _ _ (by omega)]; exact h.m11
        clear d3 d4 a3 a4 g7 f2 c1 c2
        refine (LR.mk (kd := by rw [em _ (by omega) (by omega), h.k2, m2]; omega) (la := by rw [em _ (by omega) (by omega), h.k3, m3]; omega) (be := by rw [em _ (by omega) (by omega), h.k4, m4]; omega) (on := Or.inl ⟨m5, by rw [em _ (by omega) (by omega), h.k5]⟩) (ca := by rw [em _ (by omega) (by omega), h.k6, m6]; omega) (st := by rw [est]; omega) (fr := by rw [m10, m11]; omega) (so := fun i x y => by rcases src i x y with ⟨-, z⟩ | ⟨-, z⟩ <;> (rw [z]; omega)) (ee := fun z => by rw [m2] at z; unfold hE at z; omega) (ne := ?_) (sl := by rw [m2, m3]; omega) (sb := by rw [m2, m4]; omega) (sc := by rw [m2, m6]; omega) (sk := fun z => by omega) (t0 := by decide))
        intro _
        rw [m2, est, esp, ecc]
        refine ⟨rfl, fun i x y => ?_, fun i x y => ?_⟩
        · have y : i < 1 := y
          have hi : i = 0 := by omega
          subst hi
          rcases src 0 (by decide) (by decide) with ⟨-, z⟩ | ⟨z, -⟩
          · rw [z]
            have : p + 0 = p := by omega
            rw [this]
            exact ⟨b2, eco⟩
          · exact absurd rfl z
        · have x : 1 ≤ i := x
          rcases src i (by omega) y with ⟨z, -⟩ | ⟨-, z⟩
          · omega
          · exact z
