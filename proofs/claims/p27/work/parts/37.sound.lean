/-! sound answers true, and leaves all as it should be. Printed by program (wip/p27/ev8.py). -/
theorem fu_ex (k : Nat) (h : k ≤ 1000) : ∃ N, am_FU = N + k := ⟨am_FU - k, by have := am_FU_ge; omega⟩
theorem exit_to {n cnt A : Int} {b : Int} {μ : am_M} (h : TO n cnt b μ) (hM : MB n A μ) (kx : Int → Int → am_M → am_O) : L_sound_L4_b kx n cnt μ = some (1, μ) := by
  obtain ⟨h1, h2, -, h4, -, h6, -⟩ := h
  exact exit_t (by rw [h2]; exact h1) (by rw [h2]; exact h4.2.1) (by rw [h2]; exact h6) hM kx
theorem so_0_0_0_0 {A : Int} {μ : am_M} (h1 : eKL 0 μ KS_0_100) (h2 : eKL 0 μ KF_0_m1) (h3 : eKL 0 μ KR_0_m1) (hM : MB 30 A μ) (hL : (0 ≤ μ 0 10 ∧ μ 0 10 < 16) ∧ J4 μ) : ∃ μ', L_sound μ = some (1, μ') ∧ INV A μ' := by
  obtain ⟨N, hN⟩ := fu_ex 9 (by decide)
  unfold L_sound
  rw [hN]
  obtain ⟨μ1, e1, a1, b1, c1, f1⟩ := ev_s_0_100_m1_m1_0 h1 h2 h3 (L_sound_L4 (N + 8))
  rw [show L_sound_L4 (N + 9) 0 0 μ = _ from e1]
  obtain ⟨μ2, e2, a2, b2, c2, f2⟩ := ev_s_0_100_0_m1_1 a1 b1 c1 (L_sound_L4 (N + 7))
  rw [show L_sound_L4 (N + 8) 6 1 μ1 = _ from e2]
  obtain ⟨μ3, e3, a3, b3, c3, f3⟩ := ev_s_0_100_1_m1_2 a2 b2 c2 (L_sound_L4 (N + 6))
  rw [show L_sound_L4 (N + 7) 21 2 μ2 = _ from e3]
  have hF := ((f1.t f2).t f3)
  have hM2 := hF.MB hM
  refine ⟨μ3, exit_to (toc_s toc_0_0 (Or.inl rfl) ⟨by decide, by decide, by decide⟩ a3) hM2 (L_sound_L4 (N + 5)), 0, 0, 1, 0, by decide, by decide, by decide, by decide, a3, b3, c3, hM2, by rw [hF.2.1]; exact hL.1, hF.2.2 hL.2⟩
theorem so_0_0_1_0 {A : Int} {μ : am_M} (h1 : eKL 0 μ KS_0_100) (h2 : eKL 0 μ KF_0_2) (h3 : eKL 0 μ KR_0_m1) (hM : MB 30 A μ) (hL : (0 ≤ μ 0 10 ∧ μ 0 10 < 16) ∧ J4 μ) : ∃ μ', L_sound μ = some (1, μ') ∧ INV A μ' := by
  obtain ⟨N, hN⟩ := fu_ex 9 (by decide)
  unfold L_sound
  rw [hN]
  obtain ⟨μ1, e1, a1, b1, c1, f1⟩ := ev_s_0_100_2_m1_0 h1 h2 h3 (L_sound_L4 (N + 8))
  rw [show L_sound_L4 (N + 9) 0 0 μ = _ from e1]
  obtain ⟨μ2, e2, a2, b2, c2, f2⟩ := ev_s_0_100_0_m1_1 a1 b1 c1 (L_sound_L4 (N + 7))
  rw [show L_sound_L4 (N + 8) 6 1 μ1 = _ from e2]
  obtain ⟨μ3, e3, a3, b3, c3, f3⟩ := ev_s_0_100_1_m1_2 a2 b2 c2 (L_sound_L4 (N + 6))
  rw [show L_sound_L4 (N + 7) 21 2 μ2 = _ from e3]
  have hF := ((f1.t f2).t f3)
  have hM2 := hF.MB hM
  refine ⟨μ3, exit_to (toc_s toc_0_0 (Or.inl rfl) ⟨by decide, by decide, by decide⟩ a3) hM2 (L_sound_L4 (N + 5)), 0, 0, 1, 0, by decide, by decide, by decide, by decide, a3, b3, c3, hM2, by rw [hF.2.1]; exact hL.1, hF.2.2 hL.2⟩
theorem so_0_1_0_0 {A : Int} {μ : am_M} (h1 : eKL 0 μ KS_0_200) (h2 : eKL 0 μ KF_0_m1) (h3 : eKL 0 μ KR_0_m1) (hM : MB 30 A μ) (hL : (0 ≤ μ 0 10 ∧ μ 0 10 < 16) ∧ J4 μ) : ∃ μ', L_sound μ = some (1, μ') ∧ INV A μ' := by
  obtain ⟨N, hN⟩ := fu_ex 9 (by decide)
  unfold L_sound
  rw [hN]
  obtain ⟨μ1, e1, a1, b1, c1, f1⟩ := ev_s_0_200_m1_m1_0 h1 h2 h3 (L_sound_L4 (N + 8))
  rw [show L_sound_L4 (N + 9) 0 0 μ = _ from e1]
  obtain ⟨μ2, e2, a2, b2, c2, f2⟩ := ev_s_0_200_0_m1_1 a1 b1 c1 (L_sound_L4 (N + 7))
  rw [show L_sound_L4 (N + 8) 6 1 μ1 = _ from e2]
  obtain ⟨μ3, e3, a3, b3, c3, f3⟩ := ev_s_0_200_1_m1_2 a2 b2 c2 (L_sound_L4 (N + 6))
  rw [show L_sound_L4 (N + 7) 21 2 μ2 = _ from e3]
  have hF := ((f1.t f2).t f3)
  have hM2 := hF.MB hM
  refine ⟨μ3, exit_to (toc_s toc_0_1 (Or.inr rfl) ⟨by decide, by decide, by decide⟩ a3) hM2 (L_sound_L4 (N + 5)), 0, 1, 1, 0, by decide, by decide, by decide, by decide, a3, b3, c3, hM2, by rw [hF.2.1]; exact hL.1, hF.2.2 hL.2⟩
theorem so_0_1_1_0 {A : Int} {μ : am_M} (h1 : eKL 0 μ KS_0_200) (h2 : eKL 0 μ KF_0_2) (h3 : eKL 0 μ KR_0_m1) (hM : MB 30 A μ) (hL : (0 ≤ μ 0 10 ∧ μ 0 10 < 16) ∧ J4 μ) : ∃ μ', L_sound μ = some (1, μ') ∧ INV A μ' := by
  obtain ⟨N, hN⟩ := fu_ex 9 (by decide)
  unfold L_sound
  rw [hN]
  obtain ⟨μ1, e1, a1, b1, c1, f1⟩ := ev_s_0_200_2_m1_0 h1 h2 h3 (L_sound_L4 (N + 8))
  rw [show L_sound_L4 (N + 9) 0 0 μ = _ from e1]
  obtain ⟨μ2, e2, a2, b2, c2, f2⟩ := ev_s_0_200_0_m1_1 a1 b1 c1 (L_sound_L4 (N + 7))
  rw [show L_sound_L4 (N + 8) 6 1 μ1 = _ from e2]
  obtain ⟨μ3, e3, a3, b3, c3, f3⟩ := ev_s_0_200_1_m1_2 a2 b2 c2 (L_sound_L4 (N + 6))
  rw [show L_sound_L4 (N + 7) 21 2 μ2 = _ from e3]
  have hF := ((f1.t f2).t f3)
  have hM2 := hF.MB hM
  refine ⟨μ3, exit_to (toc_s toc_0_1 (Or.inr rfl) ⟨by decide, by decide, by decide⟩ a3) hM2 (L_sound_L4 (N + 5)), 0, 1, 1, 0, by decide, by decide, by decide, by decide, a3, b3, c3, hM2, by rw [hF.2.1]; exact hL.1, hF.2.2 hL.2⟩
theorem so_1_0_0_0 {A : Int} {μ : am_M} (h1 : eKL 0 μ KS_1_100) (h2 : eKL 0 μ KF_1_m1) (h3 : eKL 0 μ KR_1_m1) (hM : MB 14 A μ) (hL : (0 ≤ μ 0 10 ∧ μ 0 10 < 16) ∧ J4 μ) : ∃ μ', L_sound μ = some (1, μ') ∧ INV A μ' := by
  obtain ⟨N, hN⟩ := fu_ex 9 (by decide)
  unfold L_sound
  rw [hN]
  obtain ⟨μ1, e1, a1, b1, c1, f1⟩ := ev_s_1_100_m1_m1_0 h1 h2 h3 (L_sound_L4 (N + 8))
  rw [show L_sound_L4 (N + 9) 0 0 μ = _ from e1]
  obtain ⟨μ2, e2, a2, b2, c2, f2⟩ := ev_s_1_100_0_0_1 a1 b1 c1 (L_sound_L4 (N + 7))
  rw [show L_sound_L4 (N + 8) 7 1 μ1 = _ from e2]
  obtain ⟨μ3, e3, a3, b3, c3, f3⟩ := ev_s_1_100_1_1_2 a2 b2 c2 (L_sound_L4 (N + 6))
  rw [show L_sound_L4 (N + 7) 9 2 μ2 = _ from e3]
  have hF := ((f1.t f2).t f3)
  have hM2 := hF.MB hM
  refine ⟨μ3, exit_to (toc_s toc_1_0 (Or.inl rfl) ⟨by decide, by decide, by decide⟩ a3) hM2 (L_sound_L4 (N + 5)), 1, 0, 1, 3, by decide, by decide, by decide, by decide, a3, b3, c3, hM2, by rw [hF.2.1]; exact hL.1, hF.2.2 hL.2⟩
theorem so_1_0_0_1 {A : Int} {μ : am_M} (h1 : eKL 0 μ KS_1_100) (h2 : eKL 0 μ KF_1_m1) (h3 : eKL 0 μ KR_1_0) (hM : MB 14 A μ) (hL : (0 ≤ μ 0 10 ∧ μ 0 10 < 16) ∧ J4 μ) : ∃ μ', L_sound μ = some (1, μ') ∧ INV A μ' := by
  obtain ⟨N, hN⟩ := fu_ex 9 (by decide)
  unfold L_sound
  rw [hN]
  obtain ⟨μ1, e1, a1, b1, c1, f1⟩ := ev_s_1_100_m1_0_0 h1 h2 h3 (L_sound_L4 (N + 8))
  rw [show L_sound_L4 (N + 9) 0 0 μ = _ from e1]
  obtain ⟨μ2, e2, a2, b2, c2, f2⟩ := ev_s_1_100_0_0_1 a1 b1 c1 (L_sound_L4 (N + 7))
  rw [show L_sound_L4 (N + 8) 7 1 μ1 = _ from e2]
  obtain ⟨μ3, e3, a3, b3, c3, f3⟩ := ev_s_1_100_1_1_2 a2 b2 c2 (L_sound_L4 (N + 6))
  rw [show L_sound_L4 (N + 7) 9 2 μ2 = _ from e3]
  have hF := ((f1.t f2).t f3)
  have hM2 := hF.MB hM
  refine ⟨μ3, exit_to (toc_s toc_1_0 (Or.inl rfl) ⟨by decide, by decide, by decide⟩ a3) hM2 (L_sound_L4 (N + 5)), 1, 0, 1, 3, by decide, by decide, by decide, by decide, a3, b3, c3, hM2, by rw [hF.2.1]; exact hL.1, hF.2.2 hL.2⟩
theorem so_1_0_0_2 {A : Int} {μ : am_M} (h1 : eKL 0 μ KS_1_100) (h2 : eKL 0 μ KF_1_m1) (h3 : eKL 0 μ KR_1_1) (hM : MB 14 A μ) (hL : (0 ≤ μ 0 10 ∧ μ 0 10 < 16) ∧ J4 μ) : ∃ μ', L_sound μ = some (1, μ') ∧ INV A μ' := by
  obtain ⟨N, hN⟩ := fu_ex 9 (by decide)
  unfold L_sound
  rw [hN]
  obtain ⟨μ1, e1, a1, b1, c1, f1⟩ := ev_s_1_100_m1_1_0 h1 h2 h3 (L_sound_L4 (N + 8))
  rw [show L_sound_L4 (N + 9) 0 0 μ = _ from e1]
  obtain ⟨μ2, e2, a2, b2, c2, f2⟩ := ev_s_1_100_0_0_1 a1 b1 c1 (L_sound_L4 (N + 7))
  rw [show L_sound_L4 (N + 8) 7 1 μ1 = _ from e2]
  obtain ⟨μ3, e3, a3, b3, c3, f3⟩ := ev_s_1_100_1_1_2 a2 b2 c2 (L_sound_L4 (N + 6))
  rw [show L_sound_L4 (N + 7) 9 2 μ2 = _ from e3]
  have hF := ((f1.t f2).t f3)
  have hM2 := hF.MB hM
  refine ⟨μ3, exit_to (toc_s toc_1_0 (Or.inl rfl) ⟨by decide, by decide, by decide⟩ a3) hM2 (L_sound_L4 (N + 5)), 1, 0, 1, 3, by decide, by decide, by decide, by decide, a3, b3, c3, hM2, by rw [hF.2.1]; exact hL.1, hF.2.2 hL.2⟩
theorem so_1_0_0_3 {A : Int} {μ : am_M} (h1 : eKL 0 μ KS_1_100) (h2 : eKL 0 μ KF_1_m1) (h3 : eKL 0 μ KR_1_2) (hM : MB 14 A μ) (hL : (0 ≤ μ 0 10 ∧ μ 0 10 < 16) ∧ J4 μ) : ∃ μ', L_sound μ = some (1, μ') ∧ INV A μ' := by
  obtain ⟨N, hN⟩ := fu_ex 9 (by decide)
  unfold L_sound
  rw [hN]
  obtain ⟨μ1, e1, a1, b1, c1, f1⟩ := ev_s_1_100_m1_2_0 h1 h2 h3 (L_sound_L4 (N + 8))
  rw [show L_sound_L4 (N + 9) 0 0 μ = _ from e1]
  obtain ⟨μ2, e2, a2, b2, c2, f2⟩ := ev_s_1_100_0_0_1 a1 b1 c1 (L_sound_L4 (N + 7))
  rw [show L_sound_L4 (N + 8) 7 1 μ1 = _ from e2]
  obtain ⟨μ3, e3, a3, b3, c3, f3⟩ := ev_s_1_100_1_1_2 a2 b2 c2 (L_sound_L4 (N + 6))
  rw [show L_sound_L4 (N + 7) 9 2 μ2 = _ from e3]
  have hF := ((f1.t f2).t f3)
  have hM2 := hF.MB hM
  refine ⟨μ3, exit_to (toc_s toc_1_0 (Or.inl rfl) ⟨by decide, by decide, by decide⟩ a3) hM2 (L_sound_L4 (N + 5)), 1, 0, 1, 3, by decide, by decide, by decide, by decide, a3, b3, c3, hM2, by rw [hF.2.1]; exact hL.1, hF.2.2 hL.2⟩
theorem so_1_0_1_0 {A : Int} {μ : am_M} (h1 : eKL 0 μ KS_1_100) (h2 : eKL 0 μ KF_1_2) (h3 : eKL 0 μ KR_1_m1) (hM : MB 14 A μ) (hL : (0 ≤ μ 0 10 ∧ μ 0 10 < 16) ∧ J4 μ) : ∃ μ', L_sound μ = some (1, μ') ∧ INV A μ' := by
  obtain ⟨N, hN⟩ := fu_ex 9 (by decide)
  unfold L_sound
  rw [hN]
  obtain ⟨μ1, e1, a1, b1, c1, f1⟩ := ev_s_1_100_2_m1_0 h1 h2 h3 (L_sound_L4 (N + 8))
  rw [show L_sound_L4 (N + 9) 0 0 μ = _ from e1]
  obtain ⟨μ2, e2, a2, b2, c2, f2⟩ := ev_s_1_100_0_0_1 a1 b1 c1 (L_sound_L4 (N + 7))
  rw [show L_sound_L4 (N + 8) 7 1 μ1 = _ from e2]
  obtain ⟨μ3, e3, a3, b3, c3, f3⟩ := ev_s_1_100_1_1_2 a2 b2 c2 (L_sound_L4 (N + 6))
  rw [show L_sound_L4 (N + 7) 9 2 μ2 = _ from e3]
  have hF := ((f1.t f2).t f3)
  have hM2 := hF.MB hM
  refine ⟨μ3, exit_to (toc_s toc_1_0 (Or.inl rfl) ⟨by decide, by decide, by decide⟩ a3) hM2 (L_sound_L4 (N + 5)), 1, 0, 1, 3, by decide, by decide, by decide, by decide, a3, b3, c3, hM2, by rw [hF.2.1]; exact hL.1, hF.2.2 hL.2⟩
theorem so_1_0_1_1 {A : Int} {μ : am_M} (h1 : eKL 0 μ KS_1_100) (h2 : eKL 0 μ KF_1_2) (h3 : eKL 0 μ KR_1_0) (hM : MB 14 A μ) (hL : (0 ≤ μ 0 10 ∧ μ 0 10 < 16) ∧ J4 μ) : ∃ μ', L_sound μ = some (1, μ') ∧ INV A μ' := by
  obtain ⟨N, hN⟩ := fu_ex 9 (by decide)
  unfold L_sound
  rw [hN]
  obtain ⟨μ1, e1, a1, b1, c1, f1⟩ := ev_s_1_100_2_0_0 h1 h2 h3 (L_sound_L4 (N + 8))
  rw [show L_sound_L4 (N + 9) 0 0 μ = _ from e1]
  obtain ⟨μ2, e2, a2, b2, c2, f2⟩ := ev_s_1_100_0_0_1 a1 b1 c1 (L_sound_L4 (N + 7))
  rw [show L_sound_L4 (N + 8) 7 1 μ1 = _ from e2]
  obtain ⟨μ3, e3, a3, b3, c3, f3⟩ := ev_s_1_100_1_1_2 a2 b2 c2 (L_sound_L4 (N + 6))
  rw [show L_sound_L4 (N + 7) 9 2 μ2 = _ from e3]
  have hF := ((f1.t f2).t f3)
  have hM2 := hF.MB hM
  refine ⟨μ3, exit_to (toc_s toc_1_0 (Or.inl rfl) ⟨by decide, by decide, by decide⟩ a3) hM2 (L_sound_L4 (N + 5)), 1, 0, 1, 3, by decide, by decide, by decide, by decide, a3, b3, c3, hM2, by rw [hF.2.1]; exact hL.1, hF.2.2 hL.2⟩
theorem so_1_0_1_2 {A : Int} {μ : am_M} (h1 : eKL 0 μ KS_1_100) (h2 : eKL 0 μ KF_1_2) (h3 : eKL 0 μ KR_1_1) (hM : MB 14 A μ) (hL : (0 ≤ μ 0 10 ∧ μ 0 10 < 16) ∧ J4 μ) : ∃ μ', L_sound μ = some (1, μ') ∧ INV A μ' := by
  obtain ⟨N, hN⟩ := fu_ex 9 (by decide)
  unfold L_sound
  rw [hN]
  obtain ⟨μ1, e1, a1, b1, c1, f1⟩ := ev_s_1_100_2_1_0 h1 h2 h3 (L_sound_L4 (N + 8))
  rw [show L_sound_L4 (N + 9) 0 0 μ = _ from e1]
  obtain ⟨μ2, e2, a2, b2, c2, f2⟩ := ev_s_1_100_0_0_1 a1 b1 c1 (L_sound_L4 (N + 7))
  rw [show L_sound_L4 (N + 8) 7 1 μ1 = _ from e2]
  obtain ⟨μ3, e3, a3, b3, c3, f3⟩ := ev_s_1_100_1_1_2 a2 b2 c2 (L_sound_L4 (N + 6))
  rw [show L_sound_L4 (N + 7) 9 2 μ2 = _ from e3]
  have hF := ((f1.t f2).t f3)
  have hM2 := hF.MB hM
  refine ⟨μ3, exit_to (toc_s toc_1_0 (Or.inl rfl) ⟨by decide, by decide, by decide⟩ a3) hM2 (L_sound_L4 (N + 5)), 1, 0, 1, 3, by decide, by decide, by decide, by decide, a3, b3, c3, hM2, by rw [hF.2.1]; exact hL.1, hF.2.2 hL.2⟩
theorem so_1_0_1_3 {A : Int} {μ : am_M} (h1 : eKL 0 μ KS_1_100) (h2 : eKL 0 μ KF_1_2) (h3 : eKL 0 μ KR_1_2) (hM : MB 14 A μ) (hL : (0 ≤ μ 0 10 ∧ μ 0 10 < 16) ∧ J4 μ) : ∃ μ', L_sound μ = some (1, μ') ∧ INV A μ' := by
  obtain ⟨N, hN⟩ := fu_ex 9 (by decide)
  unfold L_sound
  rw [hN]
  obtain ⟨μ1, e1, a1, b1, c1, f1⟩ := ev_s_1_100_2_2_0 h1 h2 h3 (L_sound_L4 (N + 8))
  rw [show L_sound_L4 (N + 9) 0 0 μ = _ from e1]
  obtain ⟨μ2, e2, a2, b2, c2, f2⟩ := ev_s_1_100_0_0_1 a1 b1 c1 (L_sound_L4 (N + 7))
  rw [show L_sound_L4 (N + 8) 7 1 μ1 = _ from e2]
  obtain ⟨μ3, e3, a3, b3, c3, f3⟩ := ev_s_1_100_1_1_2 a2 b2 c2 (L_sound_L4 (N + 6))
  rw [show L_sound_L4 (N + 7) 9 2 μ2 = _ from e3]
  have hF := ((f1.t f2).t f3)
  have hM2 := hF.MB hM
  refine ⟨μ3, exit_to (toc_s toc_1_0 (Or.inl rfl) ⟨by decide, by decide, by decide⟩ a3) hM2 (L_sound_L4 (N + 5)), 1, 0, 1, 3, by decide, by decide, by decide, by decide, a3, b3, c3, hM2, by rw [hF.2.1]; exact hL.1, hF.2.2 hL.2⟩
theorem so_1_1_0_0 {A : Int} {μ : am_M} (h1 : eKL 0 μ KS_1_200) (h2 : eKL 0 μ KF_1_m1) (h3 : eKL 0 μ KR_1_m1) (hM : MB 14 A μ) (hL : (0 ≤ μ 0 10 ∧ μ 0 10 < 16) ∧ J4 μ) : ∃ μ', L_sound μ = some (1, μ') ∧ INV A μ' := by
  obtain ⟨N, hN⟩ := fu_ex 9 (by decide)
  unfold L_sound
  rw [hN]
  obtain ⟨μ1, e1, a1, b1, c1, f1⟩ := ev_s_1_200_m1_m1_0 h1 h2 h3 (L_sound_L4 (N + 8))
  rw [show L_sound_L4 (N + 9) 0 0 μ = _ from e1]
  obtain ⟨μ2, e2, a2, b2, c2, f2⟩ := ev_s_1_200_0_0_1 a1 b1 c1 (L_sound_L4 (N + 7))
  rw [show L_sound_L4 (N + 8) 7 1 μ1 = _ from e2]
  obtain ⟨μ3, e3, a3, b3, c3, f3⟩ := ev_s_1_200_1_1_2 a2 b2 c2 (L_sound_L4 (N + 6))
  rw [show L_sound_L4 (N + 7) 9 2 μ2 = _ from e3]
  have hF := ((f1.t f2).t f3)
  have hM2 := hF.MB hM
  refine ⟨μ3, exit_to (toc_s toc_1_1 (Or.inr rfl) ⟨by decide, by decide, by decide⟩ a3) hM2 (L_sound_L4 (N + 5)), 1, 1, 1, 3, by decide, by decide, by decide, by decide, a3, b3, c3, hM2, by rw [hF.2.1]; exact hL.1, hF.2.2 hL.2⟩
theorem so_1_1_0_1 {A : Int} {μ : am_M} (h1 : eKL 0 μ KS_1_200) (h2 : eKL 0 μ KF_1_m1) (h3 : eKL 0 μ KR_1_0) (hM : MB 14 A μ) (hL : (0 ≤ μ 0 10 ∧ μ 0 10 < 16) ∧ J4 μ) : ∃ μ', L_sound μ = some (1, μ') ∧ INV A μ' := by
  obtain ⟨N, hN⟩ := fu_ex 9 (by decide)
  unfold L_sound
  rw [hN]
  obtain ⟨μ1, e1, a1, b1, c1, f1⟩ := ev_s_1_200_m1_0_0 h1 h2 h3 (L_sound_L4 (N + 8))
  rw [show L_sound_L4 (N + 9) 0 0 μ = _ from e1]
  obtain ⟨μ2, e2, a2, b2, c2, f2⟩ := ev_s_1_200_0_0_1 a1 b1 c1 (L_sound_L4 (N + 7))
  rw [show L_sound_L4 (N + 8) 7 1 μ1 = _ from e2]
  obtain ⟨μ3, e3, a3, b3, c3, f3⟩ := ev_s_1_200_1_1_2 a2 b2 c2 (L_sound_L4 (N + 6))
  rw [show L_sound_L4 (N + 7) 9 2 μ2 = _ from e3]
  have hF := ((f1.t f2).t f3)
  have hM2 := hF.MB hM
  refine ⟨μ3, exit_to (toc_s toc_1_1 (Or.inr rfl) ⟨by decide, by decide, by decide⟩ a3) hM2 (L_sound_L4 (N + 5)), 1, 1, 1, 3, by decide, by decide, by decide, by decide, a3, b3, c3, hM2, by rw [hF.2.1]; exact hL.1, hF.2.2 hL.2⟩
theorem so_1_1_0_2 {A : Int} {μ : am_M} (h1 : eKL 0 μ KS_1_200) (h2 : eKL 0 μ KF_1_m1) (h3 : eKL 0 μ KR_1_1) (hM : MB 14 A μ) (hL : (0 ≤ μ 0 10 ∧ μ 0 10 < 16) ∧ J4 μ) : ∃ μ', L_sound μ = some (1, μ') ∧ INV A μ' := by
  obtain ⟨N, hN⟩ := fu_ex 9 (by decide)
  unfold L_sound
  rw [hN]
  obtain ⟨μ1, e1, a1, b1, c1, f1⟩ := ev_s_1_200_m1_1_0 h1 h2 h3 (L_sound_L4 (N + 8))
  rw [show L_sound_L4 (N + 9) 0 0 μ = _ from e1]
  obtain ⟨μ2, e2, a2, b2, c2, f2⟩ := ev_s_1_200_0_0_1 a1 b1 c1 (L_sound_L4 (N + 7))
  rw [show L_sound_L4 (N + 8) 7 1 μ1 = _ from e2]
  obtain ⟨μ3, e3, a3, b3, c3, f3⟩ := ev_s_1_200_1_1_2 a2 b2 c2 (L_sound_L4 (N + 6))
  rw [show L_sound_L4 (N + 7) 9 2 μ2 = _ from e3]
  have hF := ((f1.t f2).t f3)
  have hM2 := hF.MB hM
  refine ⟨μ3, exit_to (toc_s toc_1_1 (Or.inr rfl) ⟨by decide, by decide, by decide⟩ a3) hM2 (L_sound_L4 (N + 5)), 1, 1, 1, 3, by decide, by decide, by decide, by decide, a3, b3, c3, hM2, by rw [hF.2.1]; exact hL.1, hF.2.2 hL.2⟩
theorem so_1_1_0_3 {A : Int} {μ : am_M} (h1 : eKL 0 μ KS_1_200) (h2 : eKL 0 μ KF_1_m1) (h3 : eKL 0 μ KR_1_2) (hM : MB 14 A μ) (hL : (0 ≤ μ 0 10 ∧ μ 0 10 < 16) ∧ J4 μ) : ∃ μ', L_sound μ = some (1, μ') ∧ INV A μ' := by
  obtain ⟨N, hN⟩ := fu_ex 9 (by decide)
  unfold L_sound
  rw [hN]
  obtain ⟨μ1, e1, a1, b1, c1, f1⟩ := ev_s_1_200_m1_2_0 h1 h2 h3 (L_sound_L4 (N + 8))
  rw [show L_sound_L4 (N + 9) 0 0 μ = _ from e1]
  obtain ⟨μ2, e2, a2, b2, c2, f2⟩ := ev_s_1_200_0_0_1 a1 b1 c1 (L_sound_L4 (N + 7))
  rw [show L_sound_L4 (N + 8) 7 1 μ1 = _ from e2]
  obtain ⟨μ3, e3, a3, b3, c3, f3⟩ := ev_s_1_200_1_1_2 a2 b2 c2 (L_sound_L4 (N + 6))
  rw [show L_sound_L4 (N + 7) 9 2 μ2 = _ from e3]
  have hF := ((f1.t f2).t f3)
  have hM2 := hF.MB hM
  refine ⟨μ3, exit_to (toc_s toc_1_1 (Or.inr rfl) ⟨by decide, by decide, by decide⟩ a3) hM2 (L_sound_L4 (N + 5)), 1, 1, 1, 3, by decide, by decide, by decide, by decide, a3, b3, c3, hM2, by rw [hF.2.1]; exact hL.1, hF.2.2 hL.2⟩
theorem so_1_1_1_0 {A : Int} {μ : am_M} (h1 : eKL 0 μ KS_1_200) (h2 : eKL 0 μ KF_1_2) (h3 : eKL 0 μ KR_1_m1) (hM : MB 14 A μ) (hL : (0 ≤ μ 0 10 ∧ μ 0 10 < 16) ∧ J4 μ) : ∃ μ', L_sound μ = some (1, μ') ∧ INV A μ' := by
  obtain ⟨N, hN⟩ := fu_ex 9 (by decide)
  unfold L_sound
  rw [hN]
  obtain ⟨μ1, e1, a1, b1, c1, f1⟩ := ev_s_1_200_2_m1_0 h1 h2 h3 (L_sound_L4 (N + 8))
  rw [show L_sound_L4 (N + 9) 0 0 μ = _ from e1]
  obtain ⟨μ2, e2, a2, b2, c2, f2⟩ := ev_s_1_200_0_0_1 a1 b1 c1 (L_sound_L4 (N + 7))
  rw [show L_sound_L4 (N + 8) 7 1 μ1 = _ from e2]
  obtain ⟨μ3, e3, a3, b3, c3, f3⟩ := ev_s_1_200_1_1_2 a2 b2 c2 (L_sound_L4 (N + 6))
  rw [show L_sound_L4 (N + 7) 9 2 μ2 = _ from e3]
  have hF := ((f1.t f2).t f3)
  have hM2 := hF.MB hM
  refine ⟨μ3, exit_to (toc_s toc_1_1 (Or.inr rfl) ⟨by decide, by decide, by decide⟩ a3) hM2 (L_sound_L4 (N + 5)), 1, 1, 1, 3, by decide, by decide, by decide, by decide, a3, b3, c3, hM2, by rw [hF.2.1]; exact hL.1, hF.2.2 hL.2⟩
theorem so_1_1_1_1 {A : Int} {μ : am_M} (h1 : eKL 0 μ KS_1_200) (h2 : eKL 0 μ KF_1_2) (h3 : eKL 0 μ KR_1_0) (hM : MB 14 A μ) (hL : (0 ≤ μ 0 10 ∧ μ 0 10 < 16) ∧ J4 μ) : ∃ μ', L_sound μ = some (1, μ') ∧ INV A μ' := by
  obtain ⟨N, hN⟩ := fu_ex 9 (by decide)
  unfold L_sound
  rw [hN]
  obtain ⟨μ1, e1, a1, b1, c1, f1⟩ := ev_s_1_200_2_0_0 h1 h2 h3 (L_sound_L4 (N + 8))
  rw [show L_sound_L4 (N + 9) 0 0 μ = _ from e1]
  obtain ⟨μ2, e2, a2, b2, c2, f2⟩ := ev_s_1_200_0_0_1 a1 b1 c1 (L_sound_L4 (N + 7))
  rw [show L_sound_L4 (N + 8) 7 1 μ1 = _ from e2]
  obtain ⟨μ3, e3, a3, b3, c3, f3⟩ := ev_s_1_200_1_1_2 a2 b2 c2 (L_sound_L4 (N + 6))
  rw [show L_sound_L4 (N + 7) 9 2 μ2 = _ from e3]
  have hF := ((f1.t f2).t f3)
  have hM2 := hF.MB hM
  refine ⟨μ3, exit_to (toc_s toc_1_1 (Or.inr rfl) ⟨by decide, by decide, by decide⟩ a3) hM2 (L_sound_L4 (N + 5)), 1, 1, 1, 3, by decide, by decide, by decide, by decide, a3, b3, c3, hM2, by rw [hF.2.1]; exact hL.1, hF.2.2 hL.2⟩
theorem so_1_1_1_2 {A : Int} {μ : am_M} (h1 : eKL 0 μ KS_1_200) (h2 : eKL 0 μ KF_1_2) (h3 : eKL 0 μ KR_1_1) (hM : MB 14 A μ) (hL : (0 ≤ μ 0 10 ∧ μ 0 10 < 16) ∧ J4 μ) : ∃ μ', L_sound μ = some (1, μ') ∧ INV A μ' := by
  obtain ⟨N, hN⟩ := fu_ex 9 (by decide)
  unfold L_sound
  rw [hN]
  obtain ⟨μ1, e1, a1, b1, c1, f1⟩ := ev_s_1_200_2_1_0 h1 h2 h3 (L_sound_L4 (N + 8))
  rw [show L_sound_L4 (N + 9) 0 0 μ = _ from e1]
  obtain ⟨μ2, e2, a2, b2, c2, f2⟩ := ev_s_1_200_0_0_1 a1 b1 c1 (L_sound_L4 (N + 7))
  rw [show L_sound_L4 (N + 8) 7 1 μ1 = _ from e2]
  obtain ⟨μ3, e3, a3, b3, c3, f3⟩ := ev_s_1_200_1_1_2 a2 b2 c2 (L_sound_L4 (N + 6))
  rw [show L_sound_L4 (N + 7) 9 2 μ2 = _ from e3]
  have hF := ((f1.t f2).t f3)
  have hM2 := hF.MB hM
  refine ⟨μ3, exit_to (toc_s toc_1_1 (Or.inr rfl) ⟨by decide, by decide, by decide⟩ a3) hM2 (L_sound_L4 (N + 5)), 1, 1, 1, 3, by decide, by decide, by decide, by decide, a3, b3, c3, hM2, by rw [hF.2.1]; exact hL.1, hF.2.2 hL.2⟩
theorem so_1_1_1_3 {A : Int} {μ : am_M} (h1 : eKL 0 μ KS_1_200) (h2 : eKL 0 μ KF_1_2) (h3 : eKL 0 μ KR_1_2) (hM : MB 14 A μ) (hL : (0 ≤ μ 0 10 ∧ μ 0 10 < 16) ∧ J4 μ) : ∃ μ', L_sound μ = some (1, μ') ∧ INV A μ' := by
  obtain ⟨N, hN⟩ := fu_ex 9 (by decide)
  unfold L_sound
  rw [hN]
  obtain ⟨μ1, e1, a1, b1, c1, f1⟩ := ev_s_1_200_2_2_0 h1 h2 h3 (L_sound_L4 (N + 8))
  rw [show L_sound_L4 (N + 9) 0 0 μ = _ from e1]
  obtain ⟨μ2, e2, a2, b2, c2, f2⟩ := ev_s_1_200_0_0_1 a1 b1 c1 (L_sound_L4 (N + 7))
  rw [show L_sound_L4 (N + 8) 7 1 μ1 = _ from e2]
  obtain ⟨μ3, e3, a3, b3, c3, f3⟩ := ev_s_1_200_1_1_2 a2 b2 c2 (L_sound_L4 (N + 6))
  rw [show L_sound_L4 (N + 7) 9 2 μ2 = _ from e3]
  have hF := ((f1.t f2).t f3)
  have hM2 := hF.MB hM
  refine ⟨μ3, exit_to (toc_s toc_1_1 (Or.inr rfl) ⟨by decide, by decide, by decide⟩ a3) hM2 (L_sound_L4 (N + 5)), 1, 1, 1, 3, by decide, by decide, by decide, by decide, a3, b3, c3, hM2, by rw [hF.2.1]; exact hL.1, hF.2.2 hL.2⟩
theorem so_2_0_0_0 {A : Int} {μ : am_M} (h1 : eKL 0 μ KS_2_100) (h2 : eKL 0 μ KF_2_m1) (h3 : eKL 0 μ KR_2_m1) (hM : MB 1 A μ) (hL : (0 ≤ μ 0 10 ∧ μ 0 10 < 16) ∧ J4 μ) : ∃ μ', L_sound μ = some (1, μ') ∧ INV A μ' := by
  obtain ⟨N, hN⟩ := fu_ex 9 (by decide)
  unfold L_sound
  rw [hN]
  obtain ⟨μ1, e1, a1, b1, c1, f1⟩ := ev_s_2_100_m1_m1_0 h1 h2 h3 (L_sound_L4 (N + 8))
  rw [show L_sound_L4 (N + 9) 0 0 μ = _ from e1]
  have hF := f1
  have hM2 := hF.MB hM
  refine ⟨μ1, exit_to (toc_s toc_2_0 (Or.inl rfl) ⟨by decide, by decide, by decide⟩ a1) hM2 (L_sound_L4 (N + 7)), 2, 0, 1, 1, by decide, by decide, by decide, by decide, a1, b1, c1, hM2, by rw [hF.2.1]; exact hL.1, hF.2.2 hL.2⟩
theorem so_2_0_0_1 {A : Int} {μ : am_M} (h1 : eKL 0 μ KS_2_100) (h2 : eKL 0 μ KF_2_m1) (h3 : eKL 0 μ KR_2_0) (hM : MB 1 A μ) (hL : (0 ≤ μ 0 10 ∧ μ 0 10 < 16) ∧ J4 μ) : ∃ μ', L_sound μ = some (1, μ') ∧ INV A μ' := by
  obtain ⟨N, hN⟩ := fu_ex 9 (by decide)
  unfold L_sound
  rw [hN]
  obtain ⟨μ1, e1, a1, b1, c1, f1⟩ := ev_s_2_100_m1_0_0 h1 h2 h3 (L_sound_L4 (N + 8))
  rw [show L_sound_L4 (N + 9) 0 0 μ = _ from e1]
  have hF := f1
  have hM2 := hF.MB hM
  refine ⟨μ1, exit_to (toc_s toc_2_0 (Or.inl rfl) ⟨by decide, by decide, by decide⟩ a1) hM2 (L_sound_L4 (N + 7)), 2, 0, 1, 1, by decide, by decide, by decide, by decide, a1, b1, c1, hM2, by rw [hF.2.1]; exact hL.1, hF.2.2 hL.2⟩
theorem so_2_0_1_0 {A : Int} {μ : am_M} (h1 : eKL 0 μ KS_2_100) (h2 : eKL 0 μ KF_2_0) (h3 : eKL 0 μ KR_2_m1) (hM : MB 1 A μ) (hL : (0 ≤ μ 0 10 ∧ μ 0 10 < 16) ∧ J4 μ) : ∃ μ', L_sound μ = some (1, μ') ∧ INV A μ' := by
  obtain ⟨N, hN⟩ := fu_ex 9 (by decide)
  unfold L_sound
  rw [hN]
  obtain ⟨μ1, e1, a1, b1, c1, f1⟩ := ev_s_2_100_0_m1_0 h1 h2 h3 (L_sound_L4 (N + 8))
  rw [show L_sound_L4 (N + 9) 0 0 μ = _ from e1]
  have hF := f1
  have hM2 := hF.MB hM
  refine ⟨μ1, exit_to (toc_s toc_2_0 (Or.inl rfl) ⟨by decide, by decide, by decide⟩ a1) hM2 (L_sound_L4 (N + 7)), 2, 0, 1, 1, by decide, by decide, by decide, by decide, a1, b1, c1, hM2, by rw [hF.2.1]; exact hL.1, hF.2.2 hL.2⟩
theorem so_2_0_1_1 {A : Int} {μ : am_M} (h1 : eKL 0 μ KS_2_100) (h2 : eKL 0 μ KF_2_0) (h3 : eKL 0 μ KR_2_0) (hM : MB 1 A μ) (hL : (0 ≤ μ 0 10 ∧ μ 0 10 < 16) ∧ J4 μ) : ∃ μ', L_sound μ = some (1, μ') ∧ INV A μ' := by
  obtain ⟨N, hN⟩ := fu_ex 9 (by decide)
  unfold L_sound
  rw [hN]
  obtain ⟨μ1, e1, a1, b1, c1, f1⟩ := ev_s_2_100_0_0_0 h1 h2 h3 (L_sound_L4 (N + 8))
  rw [show L_sound_L4 (N + 9) 0 0 μ = _ from e1]
  have hF := f1
  have hM2 := hF.MB hM
  refine ⟨μ1, exit_to (toc_s toc_2_0 (Or.inl rfl) ⟨by decide, by decide, by decide⟩ a1) hM2 (L_sound_L4 (N + 7)), 2, 0, 1, 1, by decide, by decide, by decide, by decide, a1, b1, c1, hM2, by rw [hF.2.1]; exact hL.1, hF.2.2 hL.2⟩
theorem so_2_1_0_0 {A : Int} {μ : am_M} (h1 : eKL 0 μ KS_2_200) (h2 : eKL 0 μ KF_2_m1) (h3 : eKL 0 μ KR_2_m1) (hM : MB 1 A μ) (hL : (0 ≤ μ 0 10 ∧ μ 0 10 < 16) ∧ J4 μ) : ∃ μ', L_sound μ = some (1, μ') ∧ INV A μ' := by
  obtain ⟨N, hN⟩ := fu_ex 9 (by decide)
  unfold L_sound
  rw [hN]
  obtain ⟨μ1, e1, a1, b1, c1, f1⟩ := ev_s_2_200_m1_m1_0 h1 h2 h3 (L_sound_L4 (N + 8))
  rw [show L_sound_L4 (N + 9) 0 0 μ = _ from e1]
  have hF := f1
  have hM2 := hF.MB hM
  refine ⟨μ1, exit_to (toc_s toc_2_1 (Or.inr rfl) ⟨by decide, by decide, by decide⟩ a1) hM2 (L_sound_L4 (N + 7)), 2, 1, 1, 1, by decide, by decide, by decide, by decide, a1, b1, c1, hM2, by rw [hF.2.1]; exact hL.1, hF.2.2 hL.2⟩
theorem so_2_1_0_1 {A : Int} {μ : am_M} (h1 : eKL 0 μ KS_2_200) (h2 : eKL 0 μ KF_2_m1) (h3 : eKL 0 μ KR_2_0) (hM : MB 1 A μ) (hL : (0 ≤ μ 0 10 ∧ μ 0 10 < 16) ∧ J4 μ) : ∃ μ', L_sound μ = some (1, μ') ∧ INV A μ' := by
  obtain ⟨N, hN⟩ := fu_ex 9 (by decide)
  unfold L_sound
  rw [hN]
  obtain ⟨μ1, e1, a1, b1, c1, f1⟩ := ev_s_2_200_m1_0_0 h1 h2 h3 (L_sound_L4 (N + 8))
  rw [show L_sound_L4 (N + 9) 0 0 μ = _ from e1]
  have hF := f1
  have hM2 := hF.MB hM
  refine ⟨μ1, exit_to (toc_s toc_2_1 (Or.inr rfl) ⟨by decide, by decide, by decide⟩ a1) hM2 (L_sound_L4 (N + 7)), 2, 1, 1, 1, by decide, by decide, by decide, by decide, a1, b1, c1, hM2, by rw [hF.2.1]; exact hL.1, hF.2.2 hL.2⟩
theorem so_2_1_1_0 {A : Int} {μ : am_M} (h1 : eKL 0 μ KS_2_200) (h2 : eKL 0 μ KF_2_0) (h3 : eKL 0 μ KR_2_m1) (hM : MB 1 A μ) (hL : (0 ≤ μ 0 10 ∧ μ 0 10 < 16) ∧ J4 μ) : ∃ μ', L_sound μ = some (1, μ') ∧ INV A μ' := by
  obtain ⟨N, hN⟩ := fu_ex 9 (by decide)
  unfold L_sound
  rw [hN]
  obtain ⟨μ1, e1, a1, b1, c1, f1⟩ := ev_s_2_200_0_m1_0 h1 h2 h3 (L_sound_L4 (N + 8))
  rw [show L_sound_L4 (N + 9) 0 0 μ = _ from e1]
  have hF := f1
  have hM2 := hF.MB hM
  refine ⟨μ1, exit_to (toc_s toc_2_1 (Or.inr rfl) ⟨by decide, by decide, by decide⟩ a1) hM2 (L_sound_L4 (N + 7)), 2, 1, 1, 1, by decide, by decide, by decide, by decide, a1, b1, c1, hM2, by rw [hF.2.1]; exact hL.1, hF.2.2 hL.2⟩
theorem so_2_1_1_1 {A : Int} {μ : am_M} (h1 : eKL 0 μ KS_2_200) (h2 : eKL 0 μ KF_2_0) (h3 : eKL 0 μ KR_2_0) (hM : MB 1 A μ) (hL : (0 ≤ μ 0 10 ∧ μ 0 10 < 16) ∧ J4 μ) : ∃ μ', L_sound μ = some (1, μ') ∧ INV A μ' := by
  obtain ⟨N, hN⟩ := fu_ex 9 (by decide)
  unfold L_sound
  rw [hN]
  obtain ⟨μ1, e1, a1, b1, c1, f1⟩ := ev_s_2_200_0_0_0 h1 h2 h3 (L_sound_L4 (N + 8))
  rw [show L_sound_L4 (N + 9) 0 0 μ = _ from e1]
  have hF := f1
  have hM2 := hF.MB hM
  refine ⟨μ1, exit_to (toc_s toc_2_1 (Or.inr rfl) ⟨by decide, by decide, by decide⟩ a1) hM2 (L_sound_L4 (N + 7)), 2, 1, 1, 1, by decide, by decide, by decide, by decide, a1, b1, c1, hM2, by rw [hF.2.1]; exact hL.1, hF.2.2 hL.2⟩
theorem sound_t {A : Int} {μ : am_M} (h : INV A μ) : ∃ μ', L_sound μ = some (1, μ') ∧ INV A μ' := by
  obtain ⟨w, b, f, r, hw, hb, hf, hr, h1, h2, h3, hM, hL⟩ := h
  match w, b, f, r, hw, hb, hf, hr, h1, h2, h3, hM with
  | 0, 0, 0, 0, _, _, _, _, h1, h2, h3, hM => exact so_0_0_0_0 h1 h2 h3 hM hL
  | 0, 0, 1, 0, _, _, _, _, h1, h2, h3, hM => exact so_0_0_1_0 h1 h2 h3 hM hL
  | 0, 1, 0, 0, _, _, _, _, h1, h2, h3, hM => exact so_0_1_0_0 h1 h2 h3 hM hL
  | 0, 1, 1, 0, _, _, _, _, h1, h2, h3, hM => exact so_0_1_1_0 h1 h2 h3 hM hL
  | 1, 0, 0, 0, _, _, _, _, h1, h2, h3, hM => exact so_1_0_0_0 h1 h2 h3 hM hL
  | 1, 0, 0, 1, _, _, _, _, h1, h2, h3, hM => exact so_1_0_0_1 h1 h2 h3 hM hL
  | 1, 0, 0, 2, _, _, _, _, h1, h2, h3, hM => exact so_1_0_0_2 h1 h2 h3 hM hL
  | 1, 0, 0, 3, _, _, _, _, h1, h2, h3, hM => exact so_1_0_0_3 h1 h2 h3 hM hL
  | 1, 0, 1, 0, _, _, _, _, h1, h2, h3, hM => exact so_1_0_1_0 h1 h2 h3 hM hL
  | 1, 0, 1, 1, _, _, _, _, h1, h2, h3, hM => exact so_1_0_1_1 h1 h2 h3 hM hL
  | 1, 0, 1, 2, _, _, _, _, h1, h2, h3, hM => exact so_1_0_1_2 h1 h2 h3 hM hL
  | 1, 0, 1, 3, _, _, _, _, h1, h2, h3, hM => exact so_1_0_1_3 h1 h2 h3 hM hL
  | 1, 1, 0, 0, _, _, _, _, h1, h2, h3, hM => exact so_1_1_0_0 h1 h2 h3 hM hL
  | 1, 1, 0, 1, _, _, _, _, h1, h2, h3, hM => exact so_1_1_0_1 h1 h2 h3 hM hL
  | 1, 1, 0, 2, _, _, _, _, h1, h2, h3, hM => exact so_1_1_0_2 h1 h2 h3 hM hL
  | 1, 1, 0, 3, _, _, _, _, h1, h2, h3, hM => exact so_1_1_0_3 h1 h2 h3 hM hL
  | 1, 1, 1, 0, _, _, _, _, h1, h2, h3, hM => exact so_1_1_1_0 h1 h2 h3 hM hL
  | 1, 1, 1, 1, _, _, _, _, h1, h2, h3, hM => exact so_1_1_1_1 h1 h2 h3 hM hL
  | 1, 1, 1, 2, _, _, _, _, h1, h2, h3, hM => exact so_1_1_1_2 h1 h2 h3 hM hL
  | 1, 1, 1, 3, _, _, _, _, h1, h2, h3, hM => exact so_1_1_1_3 h1 h2 h3 hM hL
  | 2, 0, 0, 0, _, _, _, _, h1, h2, h3, hM => exact so_2_0_0_0 h1 h2 h3 hM hL
  | 2, 0, 0, 1, _, _, _, _, h1, h2, h3, hM => exact so_2_0_0_1 h1 h2 h3 hM hL
  | 2, 0, 1, 0, _, _, _, _, h1, h2, h3, hM => exact so_2_0_1_0 h1 h2 h3 hM hL
  | 2, 0, 1, 1, _, _, _, _, h1, h2, h3, hM => exact so_2_0_1_1 h1 h2 h3 hM hL
  | 2, 1, 0, 0, _, _, _, _, h1, h2, h3, hM => exact so_2_1_0_0 h1 h2 h3 hM hL
  | 2, 1, 0, 1, _, _, _, _, h1, h2, h3, hM => exact so_2_1_0_1 h1 h2 h3 hM hL
  | 2, 1, 1, 0, _, _, _, _, h1, h2, h3, hM => exact so_2_1_1_0 h1 h2 h3 hM hL
  | 2, 1, 1, 1, _, _, _, _, h1, h2, h3, hM => exact so_2_1_1_1 h1 h2 h3 hM hL
  | w + 3, _, _, _, hw, _, _, _, _, _, _, _ => omega
  | _, b + 2, _, _, _, hb, _, _, _, _, _, _ => omega
  | _, _, f + 2, _, _, _, hf, _, _, _, _, _ => omega
  | 0, _, _, r + 1, _, _, _, hr, _, _, _, _ => exact absurd (show r + 1 < 1 from hr) (by omega)
  | 1, _, _, r + 4, _, _, _, hr, _, _, _, _ => exact absurd (show r + 4 < 4 from hr) (by omega)
  | 2, _, _, r + 2, _, _, _, hr, _, _, _, _ => exact absurd (show r + 2 < 2 from hr) (by omega)
