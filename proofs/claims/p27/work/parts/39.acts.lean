/-! The acts: each answers true and keeps the state. Printed by program (wip/p27/ev10.py). -/
/-- what an act may change: the machines, the marks, the stack -/
def GM (μ μ' : am_M) : Prop := (∀ a i, a ≠ 41 → ¬ (300 ≤ a ∧ a < 360) → ¬ (a = 0 ∧ i = 10) → μ' a i = μ a i) ∧ μ' 300 1 = μ 300 1 ∧ μ' 310 1 = μ 310 1
theorem GM.t {μ μ' μ'' : am_M} (h1 : GM μ μ') (h2 : GM μ' μ'') : GM μ μ'' := ⟨fun a i p q r => (h2.1 a i p q r).trans (h1.1 a i p q r), h2.2.1.trans h1.2.1, h2.2.2.trans h1.2.2⟩
theorem GM.r (μ : am_M) : GM μ μ := ⟨fun _ _ _ _ _ => rfl, rfl, rfl⟩
theorem NM.G {μ μ' : am_M} (h : NM μ μ') (h1 : μ' 300 1 = μ 300 1) : GM μ μ' := ⟨fun a i p q _ => h a i p (by omega), h1, h 310 1 (by decide) (by decide)⟩
noncomputable def e_gm (k : Nat) : Bool := eB (eB (Nat.ble 41984 k) (Nat.ble k 43007) false) true (eB (eB (Nat.ble 307200 k) (Nat.ble k 368639) false) (eB (Nat.beq k 307201) false (eB (Nat.beq k 317441) false true)) (Nat.beq k 10))
theorem eB_cases {c a b : Bool} (h : eB c a b = false) : (c = true ∧ a = false) ∨ (c = false ∧ b = false) := by
  cases c with
  | true => exact Or.inl ⟨rfl, h⟩
  | false => exact Or.inr ⟨rfl, h⟩
theorem beq_f {a b : Nat} (h : Nat.beq a b = false) : a ≠ b := Nat.ne_of_beq_eq_false h
theorem ble_and {a b k : Nat} (h : eB (Nat.ble a k) (Nat.ble k b) false = true) : a ≤ k ∧ k ≤ b := by
  obtain ⟨h1, h2⟩ := eB_and h
  exact ⟨Nat.le_of_ble_eq_true h1, Nat.le_of_ble_eq_true h2⟩
theorem ble_nand {a b k : Nat} (h : eB (Nat.ble a k) (Nat.ble k b) false = false) : ¬ (a ≤ k ∧ k ≤ b) := fun z => by
  rw [eB_t (Nat.ble_eq_true_of_le z.1), Nat.ble_eq_true_of_le z.2] at h
  cases h
theorem eKL_fk {c : Int} {μ μ' : am_M} {t : e_T} {p : Nat → Bool} (h : eKL c μ t) (ht : e_tn p t = true) (hf : ∀ k : Nat, p k = false → μ' ((k / 1024 : Nat) : Int) ((k % 1024 : Nat) : Int) = μ ((k / 1024 : Nat) : Int) ((k % 1024 : Nat) : Int)) : eKL c μ' t := by
  induction t with
  | leaf x =>
    have ht : eB (p (x / 340282366920938463463374607431768211456)) false true = true := ht
    have hp : p (x / 340282366920938463463374607431768211456) = false := by
      cases q : p (x / 340282366920938463463374607431768211456) with
      | false => rfl
      | true => rw [q] at ht; cases ht
    show x % 340282366920938463463374607431768211456 = 0 ∨ _
    rw [hf _ hp]
    exact h
  | branch m l r ihl ihr =>
    obtain ⟨h1, h2⟩ := eB_and (a := e_tn p l) (b := e_tn p r) ht
    obtain ⟨q1, q2⟩ : eKL c μ l ∧ eKL c μ r := h
    exact ⟨ihl q1 h1, ihr q2 h2⟩
theorem GM.f {μ μ' : am_M} (h : GM μ μ') : ∀ k : Nat, e_gm k = false → μ' ((k / 1024 : Nat) : Int) ((k % 1024 : Nat) : Int) = μ ((k / 1024 : Nat) : Int) ((k % 1024 : Nat) : Int) := by
  intro k hp
  unfold e_gm at hp
  rcases eB_cases hp with ⟨-, z⟩ | ⟨z1, z2⟩
  · cases z
  · have n1 := ble_nand z1
    rcases eB_cases z2 with ⟨y1, y2⟩ | ⟨y1, y2⟩
    · rcases eB_cases y2 with ⟨x1, -⟩ | ⟨x1, x2⟩
      · have e := Nat.eq_of_beq_eq_true x1
        subst e
        exact h.2.1
      · rcases eB_cases x2 with ⟨w1, -⟩ | ⟨-, w2⟩
        · have e := Nat.eq_of_beq_eq_true w1
          subst e
          exact h.2.2
        · cases w2
    · have n2 := ble_nand y1
      have n3 := beq_f y2
      exact h.1 _ _ (by omega) (by omega) (by omega)
theorem GM.k {μ μ' : am_M} (h : GM μ μ') {t : e_T} (ht : e_tn e_gm t = true) (hk : eKL 0 μ t) : eKL 0 μ' t := eKL_fk hk ht h.f
set_option maxRecDepth 100000 in
theorem gm_S {w b : Nat} (hw : w < 3) (hb : b < 2) : e_tn e_gm (tS w b) = true := by
  match w, b, hw, hb with
  | 0, 0, _, _ => exact (by decide +kernel : e_tn e_gm KS_0_100 = true)
  | 0, 1, _, _ => exact (by decide +kernel : e_tn e_gm KS_0_200 = true)
  | 1, 0, _, _ => exact (by decide +kernel : e_tn e_gm KS_1_100 = true)
  | 1, 1, _, _ => exact (by decide +kernel : e_tn e_gm KS_1_200 = true)
  | 2, 0, _, _ => exact (by decide +kernel : e_tn e_gm KS_2_100 = true)
  | 2, 1, _, _ => exact (by decide +kernel : e_tn e_gm KS_2_200 = true)
  | w + 3, _, hw, _ => omega
  | _, b + 2, _, hb => omega
theorem gm_F {w f : Nat} (hw : w < 3) (hf : f < 2) : e_tn e_gm (tFn w f) = true ∧ e_tn e_p9 (tFn w f) = true ∧ e_tn e_po (tFn w f) = true := by
  match w, f, hw, hf with
  | 0, 0, _, _ => exact (by decide +kernel : e_tn e_gm KF_0_m1 = true ∧ e_tn e_p9 KF_0_m1 = true ∧ e_tn e_po KF_0_m1 = true)
  | 0, 1, _, _ => exact (by decide +kernel : e_tn e_gm KF_0_2 = true ∧ e_tn e_p9 KF_0_2 = true ∧ e_tn e_po KF_0_2 = true)
  | 1, 0, _, _ => exact (by decide +kernel : e_tn e_gm KF_1_m1 = true ∧ e_tn e_p9 KF_1_m1 = true ∧ e_tn e_po KF_1_m1 = true)
  | 1, 1, _, _ => exact (by decide +kernel : e_tn e_gm KF_1_2 = true ∧ e_tn e_p9 KF_1_2 = true ∧ e_tn e_po KF_1_2 = true)
  | 2, 0, _, _ => exact (by decide +kernel : e_tn e_gm KF_2_m1 = true ∧ e_tn e_p9 KF_2_m1 = true ∧ e_tn e_po KF_2_m1 = true)
  | 2, 1, _, _ => exact (by decide +kernel : e_tn e_gm KF_2_0 = true ∧ e_tn e_p9 KF_2_0 = true ∧ e_tn e_po KF_2_0 = true)
  | w + 3, _, hw, _ => omega
  | _, f + 2, _, hf => omega
theorem gm_R {w r : Nat} (hw : w < 3) (hr : r < wR w) : e_tn e_gm (tRn w r) = true ∧ e_tn e_p9 (tRn w r) = true := by
  match w, r, hw, hr with
  | 0, 0, _, _ => exact (by decide +kernel : e_tn e_gm KR_0_m1 = true ∧ e_tn e_p9 KR_0_m1 = true)
  | 1, 0, _, _ => exact (by decide +kernel : e_tn e_gm KR_1_m1 = true ∧ e_tn e_p9 KR_1_m1 = true)
  | 1, 1, _, _ => exact (by decide +kernel : e_tn e_gm KR_1_0 = true ∧ e_tn e_p9 KR_1_0 = true)
  | 1, 2, _, _ => exact (by decide +kernel : e_tn e_gm KR_1_1 = true ∧ e_tn e_p9 KR_1_1 = true)
  | 1, 3, _, _ => exact (by decide +kernel : e_tn e_gm KR_1_2 = true ∧ e_tn e_p9 KR_1_2 = true)
  | 2, 0, _, _ => exact (by decide +kernel : e_tn e_gm KR_2_m1 = true ∧ e_tn e_p9 KR_2_m1 = true)
  | 2, 1, _, _ => exact (by decide +kernel : e_tn e_gm KR_2_0 = true ∧ e_tn e_p9 KR_2_0 = true)
  | w + 3, _, hw, _ => omega
  | 0, r + 1, _, hr => exact absurd (show r + 1 < 1 from hr) (by omega)
  | 1, r + 4, _, hr => exact absurd (show r + 4 < 4 from hr) (by omega)
  | 2, r + 2, _, hr => exact absurd (show r + 2 < 2 from hr) (by omega)
/-- the state, opened -/
def IV (w b f r : Nat) (A : Int) (μ : am_M) : Prop := (w < 3 ∧ b < 2 ∧ f < 2 ∧ r < wR w) ∧ eKL 0 μ (tS w b) ∧ eKL 0 μ (tFn w f) ∧ eKL 0 μ (tRn w r) ∧ MB (wN w) A μ ∧ (0 ≤ μ 0 10 ∧ μ 0 10 < 16) ∧ J4 μ
theorem IV.I {w b f r : Nat} {A : Int} {μ : am_M} (h : IV w b f r A μ) : INV A μ := ⟨w, b, f, r, h.1.1, h.1.2.1, h.1.2.2.1, h.1.2.2.2, h.2⟩
theorem IV.g {w b f r : Nat} {A A' : Int} {μ μ' : am_M} (h : IV w b f r A μ) (hg : GM μ μ') (hM : MB (wN w) A' μ') (hL : 0 ≤ μ' 0 10 ∧ μ' 0 10 < 16) : IV w b f r A' μ' := by
  obtain ⟨⟨hw, hb, hf, hr⟩, h1, h2, h3, -, -, hJ⟩ := h
  exact ⟨⟨hw, hb, hf, hr⟩, hg.k (gm_S hw hb) h1, hg.k (gm_F hw hf).1 h2, hg.k (gm_R hw hr).1 h3, hM, hL, fun j hj => by rw [hg.1 70 j (by decide) (by decide) (by omega)]; exact hJ j hj⟩
theorem IV.o {w b f r : Nat} {A : Int} {μ : am_M} (h : IV w b f r A μ) : TO (wN w) (wC w) (bN b) μ := to_s h.1.1 h.1.2.1 h.2.1
theorem cnt_t {n cnt b : Int} {μ : am_M} (h : TO n cnt b μ) : X_count 1 μ = some (cnt, μ) := by
  obtain ⟨h1, h2, -, h4, -⟩ := h
  unfold X_count
  rw [if_neg (by decide), if_pos rfl, h2, q_gd_s (bO0 h1), h4.2.1]
theorem bill5 {n cnt b k : Int} {μ : am_M} (h : TO n cnt b μ) (k0 : 0 ≤ k) (k1 : k < cnt) : X_bill k 5 μ = some (μ (b + 22) k, μ) := by
  obtain ⟨h1, h2, -, h4, -⟩ := h
  have := h4.1.2.2
  unfold X_bill Bi_has
  rw [h2, q_gd_s (bO0 h1), if_neg (by omega), q_gd_s (bO0 h1), h4.2.1, if_pos k1, q_bd_s, if_neg (by decide), if_neg (by decide), if_neg (by decide), if_neg (by decide), if_neg (by decide), if_neg (by decide), if_pos rfl, h2, q_gd_s (bO0 h1), x4 h1 ⟨rfl, rfl⟩ ⟨rfl, rfl⟩ k0 (by omega), q_bd_s]
/-- begin, in an act -/
theorem ac_begin {w b f r : Nat} {A k v3 v4 : Int} {μ : am_M} (h : IV w b f r A μ) (hA : 0 ≤ A) (k0 : 0 ≤ k) (k1 : k < (wC w : Int)) : ∃ μ', L_act_B126 v3 v4 k μ = some (1, μ') ∧ INV A μ' := by
  have hO := h.o
  have hO2 := hO
  obtain ⟨h1, h2, hT, hG, hS, -, hB, -⟩ := hO2
  have hM := h.2.2.2.2.1
  have hL := h.2.2.2.2.2.1
  unfold L_act_B126
  rcases hS k k0 k1 with q | q
  · rw [begin_n (n := wN w) (cnt := wC w) (by rw [h2]; exact h1) (by rw [h2]; exact hG) k0 k1 (by rw [h2]; exact q), q_bd_s, bill5 hO k0 k1, q_bd_s, q, if_neg (by decide)]
    unfold L_act_B156
    rw [if_pos rfl]
    exact ⟨μ, rfl, h.I⟩
  · obtain ⟨μ', e, hM', ⟨b1, -, -⟩, nm⟩ := begin_t (n := wN w) (cnt := wC w) (v2 := aRem v3 9) (v3 := v4) (v4 := 1) (v5 := 1) (by rw [h2]; exact h1) (by rw [h2]; exact hG) k0 k1 hB (by rw [h2, q]; decide)
    have g := nm.G (by rw [b1, hB])
    have h' : IV w b f r A μ' := h.g g (hM'.w hA) (by rw [nm 0 10 (by decide) (by decide)]; exact hL)
    have hO' := h'.o
    rw [e, q_bd_s, bill5 hO' k0 k1, q_bd_s, nm _ _ (by have := bOk_r h1; omega) (by have := bOk_r h1; omega), q, if_pos rfl]
    unfold L_act_B156
    rw [if_pos rfl]
    exact ⟨μ', rfl, h'.I⟩
theorem ac_run {w b f r : Nat} {A v : Int} {μ : am_M} (h : IV w b f r A μ) (hA : A ≤ 800000000) (v0 : 0 ≤ v) (v1 : v ≤ 1000) : ∃ μ', L_act_B165 v μ = some (1, μ') ∧ INV (A + 1063000) μ' := by
  have hO := h.o
  have hO2 := hO
  obtain ⟨h1, h2, hT, hG, hS, -, hB, -⟩ := hO2
  have hM := h.2.2.2.2.1
  have hL := h.2.2.2.2.2.1
  obtain ⟨d, μ', e, ⟨g1, g2⟩, g3, g4, g5, g6, g7, ⟨g8, -, -⟩, nm⟩ := run_t (n := wN w) (A := A) (v := v) (by rw [h2]; exact h1) (by rw [h2]; exact hT) hM hB v0 v1 hA
  have h' : IV w b f r (A + 1063000) μ' := h.g (nm.G (by rw [g8, hB])) g6 (by rw [nm 0 10 (by decide) (by decide)]; exact hL)
  unfold L_act_B165
  rw [m0, q_bd_s, m6, q_bd_s, m4, q_bd_s, e, q_bd_s, if_neg (by omega), if_pos g2]
  have fin : ∃ μ'', L_act_B216 v (μ 300 11) (μ 300 9) d μ' = some (1, μ'') ∧ INV (A + 1063000) μ'' := by
    unfold L_act_B216
    rw [m6, q_bd_s, if_pos g4, m4, q_bd_s, if_neg (by omega)]
    by_cases q : d = v
    · rw [if_pos q]
      exact ⟨μ', rfl, h'.I⟩
    · rw [if_neg q, m0, q_bd_s, if_neg (g5.resolve_left q)]
      exact ⟨μ', rfl, h'.I⟩
  by_cases q : μ 300 6 = 1
  · rw [if_pos q]; exact fin
  · rw [if_neg q, if_pos (by have := g3 q; omega)]; exact fin
theorem st_12 {w b f r : Nat} {A i v : Int} {μ : am_M} (h : IV w b f r A μ) (hi : i = 12 ∨ i = 13) : IV w b f r A (m_st μ 300 i v) := by
  have f0 : ∀ a j, ¬ (a = 300 ∧ (j = 12 ∨ j = 13)) → m_st μ 300 i v a j = μ a j := fun a j q => mo (fun z => q ⟨z.1, by omega⟩)
  refine h.g ⟨fun a j p q s => f0 a j (by omega), f0 300 1 (by decide), f0 310 1 (by decide)⟩ (h.2.2.2.2.1.rp f0) ?_
  rw [f0 0 10 (by decide)]
  exact h.2.2.2.2.2.1
theorem ac_room {w b f r : Nat} {A v : Int} {μ : am_M} (h : IV w b f r A μ) (v0 : 0 ≤ v) (v1 : v ≤ 63) : ∃ μ', L_act_B263 v μ = some (1, μ') ∧ INV A μ' := by
  unfold L_act_B263
  have e : w32 (1 + v) = 1 + v := w32_id (by unfold r32; omega)
  have e1 : X_room (1 + v) μ = some (1, m_st μ 300 12 (1 + v)) := by
    unfold X_room
    rw [if_neg (by omega), if_pos (by omega), q_pf_d]
  have e2 : X_count 3 (m_st μ 300 12 (1 + v)) = some (1 + v, m_st μ 300 12 (1 + v)) := by
    unfold X_count
    rw [if_neg (by decide), if_neg (by decide), if_neg (by decide), if_pos rfl, m_st_eq]
  rw [e, e1, q_bd_s, if_neg (by decide), e2, q_bd_s, if_pos rfl]
  exact ⟨_, rfl, (st_12 h (Or.inl rfl)).I⟩
theorem ac_price {w b f r : Nat} {A v : Int} {μ : am_M} (h : IV w b f r A μ) (v0 : 0 ≤ v) (v1 : v ≤ 63) : ∃ μ', L_act_B290 v μ = some (1, μ') ∧ INV A μ' := by
  unfold L_act_B290
  have e1 : X_price v μ = some (1, m_st μ 300 13 v) := by
    unfold X_price
    rw [if_neg (by omega), if_pos (by omega), q_pf_d]
  have e2 : X_count 4 (m_st μ 300 13 v) = some (v, m_st μ 300 13 v) := by
    unfold X_count
    rw [if_neg (by decide), if_neg (by decide), if_neg (by decide), if_neg (by decide), if_pos rfl, m_st_eq]
  rw [e1, q_bd_s, if_neg (by decide), e2, q_bd_s, if_pos rfl]
  exact ⟨_, rfl, (st_12 h (Or.inr rfl)).I⟩
theorem ac_not {w b f r : Nat} {A : Int} {μ : am_M} (h : IV w b f r A μ) : ∃ μ', L_act_B553 μ = some (1, μ') ∧ INV A μ' := by
  have hO := h.o
  have hO2 := hO
  obtain ⟨h1, h2, hT, hG, hS, -, hB, -⟩ := hO2
  have e1 : X_room 0 μ = some (0, μ) := by
    unfold X_room
    rw [if_pos (by decide)]
  have e2 : X_price (-1) μ = some (0, μ) := by
    unfold X_price
    rw [if_pos (by decide)]
  unfold L_act_B553
  rw [run_n (by decide), q_bd_s, if_pos rfl, cnt_t hO, q_bd_s, begin_o (n := wN w) (cnt := wC w) (by rw [h2]; exact h1) (by rw [h2]; exact hG) (by have := hG.1.2.1; omega) (Int.le_refl _), q_bd_s, if_pos rfl, e1, q_bd_s, if_pos rfl, e2, q_bd_s, if_pos rfl]
  exact ⟨μ, rfl, h.I⟩
theorem bk_t {w b f r : Nat} {A A' A'' : Int} {μ0 μ μ' : am_M} (h0 : IV w b f r A μ0) (h : IV w b f r A' μ) (hs : SV 300 μ0 μ') (hf : ∀ a i, ¬ (300 ≤ a ∧ a ≤ 303) → μ' a i = μ a i) (h1 : μ' 300 1 = μ 300 1) (hA : A ≤ A'') : IV w b f r A'' μ' := by
  refine h.g ⟨fun a i p q s => hf a i (by omega), h1, hf 310 1 (by decide)⟩ ((h0.2.2.2.2.1.sv hs).w hA) ?_
  rw [hf 0 10 (by decide)]
  exact h.2.2.2.2.2.1
theorem lay_I {w b f r : Nat} {A : Int} {μ μ' : am_M} (h : IV w b f r A μ) (hL : 0 ≤ μ' 0 10 ∧ μ' 0 10 < 16) (hf : ∀ a i, ¬ (320 ≤ a ∧ a < 360) → ¬ (a = 0 ∧ i = 10) → μ' a i = μ a i) : IV w b f r A μ' :=
  h.g ⟨fun a i p q s => hf a i (by omega) s, hf 300 1 (by decide) (by decide), hf 310 1 (by decide) (by decide)⟩ (h.2.2.2.2.1.f (fun a i p q => hf a i (by omega) (by omega))) hL
theorem ac_mark {w b f r : Nat} {A v2 v4 : Int} {μ : am_M} (h : IV w b f r A μ) (hA : 0 ≤ A ∧ A ≤ 700000000) (q0 : 0 ≤ v4) (q1 : v4 ≤ 1000) : ∃ μ', L_act_B450 v2 v4 μ = some (1, μ') ∧ INV (A + 2126000) μ' := by
  have hm : 0 ≤ aAnd v2 1 ∧ aAnd v2 1 < 4 := by rw [a1]; omega
  generalize hmm : aAnd v2 1 = m at hm
  have hO := h.o
  obtain ⟨h1, h2, hT, hG, hS, -, hB, -, h7⟩ := hO
  obtain ⟨μ1, e1, s1, L1, b1, f1⟩ := mk_lay hm (h7 m hm.1 hm.2) h.2.2.2.2.2.1
  have i1 := lay_I h L1 f1
  have o1 := i1.o
  obtain ⟨t1, t2, tT, tG, -, -, tB, -⟩ := o1
  obtain ⟨d2, μ2, e2, -, -, -, -, M2, -, ⟨B2, -, -⟩, nm2⟩ := run_t (n := wN w) (A := A) (v := 3) (by rw [t2]; exact t1) (by rw [t2]; exact tT) i1.2.2.2.2.1 tB (by decide) (by decide) (by omega)
  have i2 : IV w b f r (A + 1063000) μ2 := i1.g (nm2.G (by rw [B2, tB])) M2 (by rw [nm2 0 10 (by decide) (by decide)]; exact L1)
  have e3 : X_price 99 μ2 = some (1, m_st μ2 300 13 99) := by
    unfold X_price
    rw [if_neg (by decide), if_pos (by decide), q_pf_d]
  have i3 : IV w b f r (A + 1063000) (m_st μ2 300 13 99) := st_12 i2 (Or.inr rfl)
  have o3 := i3.o
  obtain ⟨u1, u2, uT, uG, -, -, uB, -⟩ := o3
  obtain ⟨d4, μ4, e4, -, -, -, -, M4, -, ⟨B4, -, -⟩, nm4⟩ := run_t (n := wN w) (A := A + 1063000) (v := v4) (by rw [u2]; exact u1) (by rw [u2]; exact uT) i3.2.2.2.2.1 uB q0 q1 (by omega)
  have hL4 : μ4 0 10 = μ1 0 10 := by rw [nm4 0 10 (by decide) (by decide), mo (by decide), nm2 0 10 (by decide) (by decide)]
  have i4 : IV w b f r (A + 1063000 + 1063000) μ4 := i3.g (nm4.G (by rw [B4, uB])) M4 (by rw [hL4]; exact L1)
  have s4 : SV (320 + 10 * m) μ μ4 := s1.f (fun a i p q => by rw [nm4 a i (by omega) (by omega), mo (by omega), nm2 a i (by omega) (by omega)])
  obtain ⟨μ5, e5, s5, f5, g5⟩ := mk_back hm (i4.o.2.2.2.2.2.2.2.2 m hm.1 hm.2) (by rw [hL4]; exact b1) s4
  have i5 : IV w b f r (A + 2126000) μ5 := bk_t h i4 s5 f5 g5 (by omega)
  have k11 : μ1 300 11 = μ 300 11 := f1 300 11 (by decide) (by decide)
  have k10 : μ1 300 10 = μ 300 10 := f1 300 10 (by decide) (by decide)
  have k6 : μ1 300 6 = μ 300 6 := f1 300 6 (by decide) (by decide)
  have k5 : μ1 300 5 = μ 300 5 := f1 300 5 (by decide) (by decide)
  have j6 := s5.1 6 (by decide) (by decide)
  have j5 := s5.1 5 (by decide) (by decide)
  have nx : ∃ x, X_machine 1 μ1 = some (x, μ1) ∧ X_machine 1 μ5 = some (x, μ5) := by
    obtain ⟨hd, hd1, -⟩ := h.2.2.2.2.1
    by_cases q : μ 300 6 = 1
    · have hd1 := hd1 q
      refine ⟨μ 301 (μ 300 5 - 1), ?_, ?_⟩
      · rw [m1_y (by rw [k5]; omega) (by rw [k6]; exact q), k5, f1 301 _ (by decide) (by omega)]
      · rw [m1_y (by rw [j5]; omega) (by rw [j6]; exact q), j5, show μ5 301 (μ 300 5 - 1) = μ 301 (μ 300 5 - 1) from (s5.2 _ (by omega) (by omega)).1]
    · exact ⟨-1, m1_n (by rw [k6]; exact q), m1_n (by rw [j6]; exact q)⟩
  obtain ⟨x, n1, n5⟩ := nx
  unfold L_act_B450
  rw [hmm, e1, q_bd_s, if_neg (by decide), m6, q_bd_s, n1, q_bd_s, m5, q_bd_s, e2, q_bd_s, e3, q_bd_s, e4, q_bd_s, e5, q_bd_s, if_neg (by decide), m6, q_bd_s, if_pos ((s5.1 11 (by decide) (by decide)).trans k11.symm), n5, q_bd_s, if_pos rfl, m5, q_bd_s, if_pos ((s5.1 10 (by decide) (by decide)).trans k10.symm)]
  exact ⟨μ5, rfl, i5.I⟩
