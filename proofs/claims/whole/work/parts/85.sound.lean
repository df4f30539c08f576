/-! Soundness. -/
def Cal (ν : am_M) (v c : Int) : Prop := ∃ l, ν 1017 v ≤ l ∧ l < ν 1017 v + ν 1018 v ∧ ν 1006 l = c ∧ 0 ≤ c
def Wr (ν : am_M) (v : Int) : Prop := 0 < ν 1039 v
def OKn (ν : am_M) : Nat → Int → Prop
  | 0, _ => True
  | n + 1, v => ¬ Wr ν v ∧ ∀ c, Cal ν v c → OKn ν n c
def Clo (ν : am_M) (B : Int) (Q : Int → Prop) : Prop := ∀ v c, 0 ≤ v → v < B → Q v → Cal ν v c → Q c
def HS (B : Int) (ν : am_M) : Prop := (ν 1013 1 = B ∧ 0 ≤ B ∧ B ≤ 4) ∧ (∀ v, 0 ≤ v → v < B → 0 ≤ ν 1017 v ∧ 0 ≤ ν 1018 v ∧ ν 1017 v + ν 1018 v ≤ 60) ∧ (∀ v, 0 ≤ v → v < B → ∀ l, ν 1017 v ≤ l → l < ν 1017 v + ν 1018 v → -1 ≤ ν 1006 l ∧ ν 1006 l ≤ v)
theorem HS.cB {B : Int} {ν : am_M} (h : HS B ν) : ν 1013 1 = B ∧ 0 ≤ B ∧ B ≤ 4 := h.1
theorem HS.rw {B : Int} {ν : am_M} (h : HS B ν) : ∀ v, 0 ≤ v → v < B → 0 ≤ ν 1017 v ∧ 0 ≤ ν 1018 v ∧ ν 1017 v + ν 1018 v ≤ 60 := h.2.1
theorem HS.cl {B : Int} {ν : am_M} (h : HS B ν) : ∀ v, 0 ≤ v → v < B → ∀ l, ν 1017 v ≤ l → l < ν 1017 v + ν 1018 v → -1 ≤ ν 1006 l ∧ ν 1006 l ≤ v := h.2.2
theorem HS.mk {B : Int} {ν : am_M} (cB : ν 1013 1 = B ∧ 0 ≤ B ∧ B ≤ 4) (rw : ∀ v, 0 ≤ v → v < B → 0 ≤ ν 1017 v ∧ 0 ≤ ν 1018 v ∧ ν 1017 v + ν 1018 v ≤ 60) (cl : ∀ v, 0 ≤ v → v < B → ∀ l, ν 1017 v ≤ l → l < ν 1017 v + ν 1018 v → -1 ≤ ν 1006 l ∧ ν 1006 l ≤ v) : HS B ν := ⟨cB, rw, cl⟩
theorem HS.of {b B W n : Int} {Wn : Int → Int} {μ ν : am_M} (h : TB b B W n Wn μ ν) : HS B ν := by
  have hB := h.cB
  have hn := h.cn
  refine (HS.mk (cB := ⟨hB.2.1, hB.2.2⟩) (rw := fun v v0 v1 => ?_) (cl := fun v v0 v1 l l0 l1 => ?_))
  · obtain ⟨f, m, t, S, σ, e, w⟩ := h.bw v v0 v1
    have e0 : (0 : Int) + v = v := by omega
    have r15 := w.r15
    have r16 := w.r16
    have := w.fn
    have := w.tt
    rw [e0] at r15 r16
    omega
  · obtain ⟨f, m, t, S, σ, e, w⟩ := h.bw v v0 v1
    have e0 : (0 : Int) + v = v := by omega
    have r15 := w.r15
    have r16 := w.r16
    rw [e0] at r15 r16
    obtain ⟨u, a1, a2⟩ := w.ln l (by omega) (by omega)
    have ca := a1.ca
    have sc := a1.sc
    have cl := a2.cl
    have el : (0 : Int) + l = l := by omega
    rw [el] at ca sc cl
    refine ⟨ca.2, ?_⟩
    by_cases z : 0 ≤ ν 1006 l
    · have := (cl (sc.mp z)).1; omega
    · omega
theorem snd_58 {k6 : Int → Int → am_M → am_O} {k14 : Int → Int → Int → am_M → am_O} {B v j : Int} {ν : am_M} (h : HS B ν) (v0 : 0 ≤ v) (v1 : v < B) : ∀ (n f : Nat) (l s : Int), l + n = ν 1017 v + ν 1018 v → ν 1017 v ≤ l → n < f → S10 s → ∃ s', M_isSound_L58 k6 k14 f s j v l ν = k14 s' j (v + 1) ν ∧ S10 s' ∧ ∀ c, 0 ≤ c → c < 10 → (tb s' c = true ↔ tb s c = true ∨ ∃ x, l ≤ x ∧ x < ν 1017 v + ν 1018 v ∧ ν 1006 x = c)
  | n, 0, _, _, _, _, h, _ => by omega
  | 0, f + 1, l, s, hl, h0, _, hs => by
    have hc := h.cB
    have hr := h.rw v v0 v1
    refine ⟨s, ?_, hs, fun c _ _ => ⟨fun z => Or.inl z, fun z => z.elim (fun y => y) (fun ⟨x, p, q, _⟩ => by omega)⟩⟩
    show M_isSound_L58_b k6 k14 (M_isSound_L58 k6 k14 f) s j v l ν = _
    unfold M_isSound_L58_b M_isSound_B101
    rw [last_s (k := v) (by omega) rfl (by omega), q_bd_s, if_neg (by omega), w32_i (x := v + 1) (by omega) (by omega)]
  | n + 1, f + 1, l, s, hl, h0, hf, hs => by
    have hc := h.cB
    have hr := h.rw v v0 v1
    have hx := h.cl v v0 v1 l h0 (by omega)
    have go : ∀ s1, S10 s1 → (∀ c, 0 ≤ c → c < 10 → (tb s1 c = true ↔ tb s c = true ∨ ν 1006 l = c)) → ∃ s', M_isSound_L58 k6 k14 f s1 j v (l + 1) ν = k14 s' j (v + 1) ν ∧ S10 s' ∧ ∀ c, 0 ≤ c → c < 10 → (tb s' c = true ↔ tb s c = true ∨ ∃ x, l ≤ x ∧ x < ν 1017 v + ν 1018 v ∧ ν 1006 x = c) := by
      intro s1 h1 h2
      obtain ⟨s', a1, a2, a3⟩ := snd_58 (k6 := k6) (k14 := k14) (j := j) h v0 v1 n f (l + 1) s1 (by omega) (by omega) (by omega) h1
      refine ⟨s', a1, a2, fun c c0 c1 => ?_⟩
      rw [a3 c c0 c1, h2 c c0 c1]
      constructor
      · rintro ((z | z) | ⟨x, p, q, r⟩)
        · exact Or.inl z
        · exact Or.inr ⟨l, Int.le_refl _, by omega, z⟩
        · exact Or.inr ⟨x, by omega, q, r⟩
      · rintro (z | ⟨x, p, q, r⟩)
        · exact Or.inl (Or.inl z)
        · by_cases y : x = l
          · subst y; exact Or.inl (Or.inr r)
          · exact Or.inr ⟨x, by omega, q, r⟩
    have e0 : M_isSound_L58 k6 k14 (f + 1) s j v l ν = M_isSound_L58_b k6 k14 (M_isSound_L58 k6 k14 f) s j v l ν := rfl
    rw [e0]
    unfold M_isSound_L58_b M_isSound_B93
    rw [last_s (k := v) (by omega) rfl (by omega), q_bd_s, if_pos (by omega), q_ld_s (by omega) (by omega), q_ld_s (by omega) (by omega), w32_i (x := l + 1) (by omega) (by omega)]
    by_cases q : ν 1006 l < 0
    · rw [if_pos q]
      refine go (aOr s 0) (S10_or hs S10_0) (fun c c0 c1 => ?_)
      rw [aOr_0 hs]
      exact ⟨fun z => Or.inl z, fun z => z.elim (fun y => y) (fun y => by omega)⟩
    · rw [if_neg q]
      refine go (aOr s (aShl 1 (ν 1006 l))) (S10_or hs (S10_shl (by omega) (by omega))) (fun c c0 c1 => ?_)
      rw [tb_or, tb_shl (by omega) (by omega) c0 (by omega), Bool.or_eq_true, decide_eq_true_eq]
      exact ⟨fun z => z.elim Or.inl (fun y => Or.inr y.symm), fun z => z.elim Or.inl (fun y => Or.inr y.symm)⟩
theorem snd_14 {k6 : Int → Int → am_M → am_O} {B j : Int} {ν : am_M} (h : HS B ν) : ∀ (n f : Nat) (i s : Int), i + n = B → 0 ≤ i → n < f → S10 s →
    (M_isSound_L14 k6 f s j i ν = some (0, ν) ∧ ∀ Q, Clo ν B Q → (∀ c, 0 ≤ c → c < 10 → tb s c = true → Q c) → ∃ v, 0 ≤ v ∧ v < B ∧ Q v ∧ Wr ν v) ∨
    (∃ s', M_isSound_L14 k6 f s j i ν = k6 s' (w32 (j + 1)) ν ∧ S10 s' ∧ (∀ c, 0 ≤ c → c < 10 → tb s c = true → tb s' c = true) ∧ (∀ v, i ≤ v → v < B → tb s v = true → ¬ Wr ν v ∧ ∀ c, Cal ν v c → tb s' c = true) ∧ ∀ Q, Clo ν B Q → (∀ c, 0 ≤ c → c < 10 → tb s c = true → Q c) → ∀ c, 0 ≤ c → c < 10 → tb s' c = true → Q c)
  | n, 0, _, _, _, _, h, _ => by omega
  | 0, f + 1, i, s, hi, h0, _, hs => by
    have hc := h.cB
    refine Or.inr ⟨s, ?_, hs, fun _ _ _ z => z, fun v p q => by omega, fun Q _ z => z⟩
    show M_isSound_L14_b k6 (M_isSound_L14 k6 f) s j i ν = _
    unfold M_isSound_L14_b
    rw [q_ld_s (by omega) (by omega), hc.1, if_neg (by omega)]
  | n + 1, f + 1, i, s, hi, h0, hf, hs => by
    have hc := h.cB
    have hr := h.rw i h0 (by omega)
    have hF := am_FU_ge
    have e0 : M_isSound_L14 k6 (f + 1) s j i ν = M_isSound_L14_b k6 (M_isSound_L14 k6 f) s j i ν := rfl
    rw [e0]
    unfold M_isSound_L14_b M_isSound_B101
    rw [q_ld_s (by omega) (by omega), hc.1, if_pos (show i < B by omega), w32_i (x := i + 1) (by omega) (by omega)]
    by_cases q : tb s i = true
    · rw [if_neg (fun z => by rw [bit_0 h0 (by omega)] at z; rw [z] at q; cases q), q_ld_s (by omega) (by omega)]
      by_cases w : ν 1039 i ≤ 0
      · rw [if_pos w, q_ld_s (by omega) (by omega)]
        obtain ⟨s1, a1, a2, a3⟩ := snd_58 (k6 := k6) (k14 := M_isSound_L14 k6 f) (j := j) h h0 (by omega) (ν 1018 i).toNat am_FU (ν 1017 i) s (by omega) (Int.le_refl _) (by omega) hs
        rw [a1]
        have up : ∀ c, 0 ≤ c → c < 10 → tb s c = true → tb s1 c = true := fun c c0 c1 z => (a3 c c0 c1).mpr (Or.inl z)
        have cq : ∀ Q, Clo ν B Q → (∀ c, 0 ≤ c → c < 10 → tb s c = true → Q c) → ∀ c, 0 ≤ c → c < 10 → tb s1 c = true → Q c := by
          intro Q hQ hq c c0 c1 z
          rcases (a3 c c0 c1).mp z with y | ⟨x, x0, x1, x2⟩
          · exact hq c c0 c1 y
          · exact hQ i c h0 (by omega) (hq i h0 (by omega) q) ⟨x, x0, x1, x2, c0⟩
        rcases snd_14 (k6 := k6) (j := j) h n f (i + 1) s1 (by omega) (by omega) (by omega) a2 with ⟨b1, b2⟩ | ⟨s', b1, b2, b3, b4, b5⟩
        · exact Or.inl ⟨b1, fun Q hQ hq => b2 Q hQ (cq Q hQ hq)⟩
        · refine Or.inr ⟨s', b1, b2, fun c c0 c1 z => b3 c c0 c1 (up c c0 c1 z), fun v p0 p1 p2 => ?_, fun Q hQ hq => b5 Q hQ (cq Q hQ hq)⟩
          by_cases y : v = i
          · subst y
            refine ⟨fun z => by unfold Wr at z; omega, fun c ⟨x, x0, x1, x2, x3⟩ => ?_⟩
            have := h.cl v h0 p1 x x0 x1
            exact b3 c x3 (by omega) ((a3 c x3 (by omega)).mpr (Or.inr ⟨x, x0, x1, x2⟩))
          · exact b4 v (by omega) p1 (up v (by omega) (by omega) p2)
      · rw [if_neg w]
        exact Or.inl ⟨rfl, fun Q _ hq => ⟨i, h0, by omega, hq i h0 (by omega) q, by unfold Wr; omega⟩⟩
    · have q' : tb s i = false := by cases z : tb s i with
        | true => exact absurd z q
        | false => rfl
      rw [if_pos ((bit_0 h0 (by omega)).mpr q')]
      rcases snd_14 (k6 := k6) (j := j) h n f (i + 1) s (by omega) (by omega) (by omega) hs with x | ⟨s', b1, b2, b3, b4, b5⟩
      · exact Or.inl x
      · refine Or.inr ⟨s', b1, b2, b3, fun v p0 p1 p2 => ?_, b5⟩
        by_cases y : v = i
        · subst y; exact absurd p2 q
        · exact b4 v (by omega) p1 p2
theorem snd_6 {B : Int} {ν : am_M} (h : HS B ν) : ∀ (n f : Nat) (j s : Int), j + n = 4 → 0 ≤ j → n < f → S10 s →
    (M_isSound_L6 f s j ν = some (0, ν) ∧ ∀ Q, Clo ν B Q → (∀ c, 0 ≤ c → c < 10 → tb s c = true → Q c) → ∃ v, 0 ≤ v ∧ v < B ∧ Q v ∧ Wr ν v) ∨
    (M_isSound_L6 f s j ν = some (1, ν) ∧ ∀ v, 0 ≤ v → v < B → tb s v = true → OKn ν n v)
  | n, 0, _, _, _, _, h, _ => by omega
  | 0, f + 1, j, s, hj, h0, _, hs => by
    refine Or.inr ⟨?_, fun _ _ _ _ => trivial⟩
    show M_isSound_L6_b (M_isSound_L6 f) s j ν = _
    unfold M_isSound_L6_b
    rw [if_neg (by omega)]
  | n + 1, f + 1, j, s, hj, h0, hf, hs => by
    have hc := h.cB
    have hF := am_FU_ge
    have e0 : M_isSound_L6 (f + 1) s j ν = M_isSound_L6_b (M_isSound_L6 f) s j ν := rfl
    rw [e0]
    unfold M_isSound_L6_b
    rw [if_pos (show j < 4 by omega)]
    rcases snd_14 (k6 := M_isSound_L6 f) (j := j) h B.toNat am_FU 0 s (by omega) (by omega) (by omega) hs with x | ⟨s', b1, b2, b3, b4, b5⟩
    · exact Or.inl x
    · rw [b1, w32_i (x := j + 1) (by omega) (by omega)]
      rcases snd_6 h n f (j + 1) s' (by omega) (by omega) (by omega) b2 with ⟨a1, a2⟩ | ⟨a1, a2⟩
      · exact Or.inl ⟨a1, fun Q hQ hq => a2 Q hQ (b5 Q hQ hq)⟩
      · refine Or.inr ⟨a1, fun v v0 v1 z => ⟨(b4 v v0 v1 z).1, fun c y => ?_⟩⟩
        have := (b4 v v0 v1 z).2 c y
        obtain ⟨x, x0, x1, x2, x3⟩ := y
        have hx := h.cl v v0 v1 x x0 x1
        exact a2 c x3 (by omega) this
theorem OKn_P {B : Int} {ν : am_M} {P : Int → Prop} (h : HS B ν) (hP : ∀ v, 0 ≤ v → v < B → (P v ↔ ¬ Wr ν v ∧ ∀ c, Cal ν v c → c = v ∨ P c)) : ∀ (n : Nat) (v : Int), 0 ≤ v → v < B → v < n → OKn ν n v → P v
  | 0, v, v0, _, hv, _ => by omega
  | n + 1, v, v0, v1, hv, ho => by
    refine (hP v v0 v1).mpr ⟨ho.1, fun c y => ?_⟩
    have hy := ho.2 c y
    obtain ⟨x, x0, x1, x2, x3⟩ := y
    have hx := h.cl v v0 v1 x x0 x1
    by_cases z : c = v
    · exact Or.inl z
    · exact Or.inr (OKn_P h hP n c x3 (by omega) (by omega) hy)
/-- the reference's answer -/
theorem isSound_r {B k : Int} {ν : am_M} {P : Int → Prop} (h : HS B ν) (hk : 0 ≤ k ∧ k < B) (hP : ∀ v, 0 ≤ v → v < B → (P v ↔ ¬ Wr ν v ∧ ∀ c, Cal ν v c → c = v ∨ P c)) : (M_isSound k ν = some (1, ν) ∧ P k) ∨ (M_isSound k ν = some (0, ν) ∧ ¬ P k) := by
  have hc := h.cB
  have hF := am_FU_ge
  unfold M_isSound
  rcases snd_6 h 4 am_FU 0 (aShl 1 k) (by omega) (by omega) (by omega) (S10_shl hk.1 (by omega)) with ⟨a1, a2⟩ | ⟨a1, a2⟩
  · refine Or.inr ⟨a1, fun z => ?_⟩
    obtain ⟨v, v0, v1, v2, v3⟩ := a2 P (fun v c v0 v1 p y => by
      rcases ((hP v v0 v1).mp p).2 c y with e | e
      · subst e; exact p
      · exact e) (fun c c0 c1 y => by
      rw [tb_shl hk.1 (by omega) c0 (by omega), decide_eq_true_eq] at y
      subst y; exact z)
    exact ((hP v v0 v1).mp v2).1 v3
  · refine Or.inl ⟨a1, OKn_P h hP 4 k hk.1 hk.2 (by omega) (a2 k hk.1 hk.2 ?_)⟩
    rw [tb_shl hk.1 (by omega) hk.1 (by omega), decide_eq_true rfl]
