/-! What is known of a memory; what an evaluation comes to. Printed by program (wip/p27/ev5.py). -/
def eKn (c : Int) (t : e_T) (μ : am_M) : Prop := ∀ a i : Int, e_lk t a i = 0 ∨ vr c (e_lk t a i - 1) (μ a i)
theorem eKn_R {c : Int} {t : e_T} {μ : am_M} (h : eKn c t μ) : e_R c μ t μ := by
  intro a i
  by_cases q : e_lk t a i = 0
  · exact Or.inl ⟨q, rfl⟩
  · exact Or.inr ⟨q, (h a i).resolve_left q⟩
/-- each leaf of the first is one of the second -/
noncomputable def e_sb (t1 t : e_T) : Bool := eAll (fun x => eB (Nat.beq (Nat.mod x 340282366920938463463374607431768211456) 0) true (Nat.beq (e_get t (Nat.div x 340282366920938463463374607431768211456)) (Nat.mod x 340282366920938463463374607431768211456))) t1
theorem e_sb_s {t1 t : e_T} {k : Nat} (h : e_sb t1 t = true) : e_get t1 k = 0 ∨ e_get t k = e_get t1 k := by
  by_cases q : e_get t1 k = 0
  · exact Or.inl q
  · right
    have h1 := eAll_get h q
    have hl := e_get_lt t1 k
    generalize e_get t1 k = w at q h1 hl ⊢
    have e1 : Nat.div (k * 340282366920938463463374607431768211456 + w) 340282366920938463463374607431768211456 = k := by show (k * 340282366920938463463374607431768211456 + w) / 340282366920938463463374607431768211456 = k; omega
    have e2 : Nat.mod (k * 340282366920938463463374607431768211456 + w) 340282366920938463463374607431768211456 = w := by show (k * 340282366920938463463374607431768211456 + w) % 340282366920938463463374607431768211456 = w; omega
    rw [e1, e2] at h1
    cases r : Nat.beq w 0 with
    | true => exact absurd (Nat.eq_of_beq_eq_true r) q
    | false =>
      rw [r] at h1
      exact Nat.eq_of_beq_eq_true h1
theorem e_sb_lk {t1 t : e_T} (h : e_sb t1 t = true) (a i : Int) : e_lk t1 a i = 0 ∨ e_lk t a i = e_lk t1 a i := by
  unfold e_lk
  by_cases q : 0 ≤ a ∧ 0 ≤ i ∧ i < 1024
  · rw [if_pos q, if_pos q]; exact e_sb_s h
  · rw [if_neg q, if_neg q]; exact Or.inl rfl
theorem eKn_sb {c : Int} {t1 t : e_T} {μ : am_M} (h : eKn c t μ) (hs : e_sb t1 t = true) : eKn c t1 μ := by
  intro a i
  rcases e_sb_lk hs a i with q | q
  · exact Or.inl q
  · by_cases r : e_lk t1 a i = 0
    · exact Or.inl r
    · right
      rw [← q]
      exact (h a i).resolve_left (by rw [q]; exact r)
theorem eKn_fr {c : Int} {t : e_T} {μ μ' : am_M} (h : eKn c t μ) (hf : ∀ a i, e_lk t a i ≠ 0 → μ' a i = μ a i) : eKn c t μ' := by
  intro a i
  by_cases r : e_lk t a i = 0
  · exact Or.inl r
  · rw [hf a i r]; exact h a i
/-- places that are touched all have p -/
noncomputable def e_tc (p : Nat → Bool) (t : e_T) : Bool := eAll (fun x => eB (Nat.beq (Nat.mod x 340282366920938463463374607431768211456) 0) true (p (Nat.div x 340282366920938463463374607431768211456))) t
theorem e_tc_s {p : Nat → Bool} {t : e_T} (h : e_tc p t = true) (k : Nat) (hk : p k = false) : e_get t k = 0 := by
  refine Classical.byContradiction (fun q => ?_)
  have h1 := eAll_get h q
  have hl := e_get_lt t k
  generalize e_get t k = w at q h1 hl
  have e1 : Nat.div (k * 340282366920938463463374607431768211456 + w) 340282366920938463463374607431768211456 = k := by show (k * 340282366920938463463374607431768211456 + w) / 340282366920938463463374607431768211456 = k; omega
  have e2 : Nat.mod (k * 340282366920938463463374607431768211456 + w) 340282366920938463463374607431768211456 = w := by show (k * 340282366920938463463374607431768211456 + w) % 340282366920938463463374607431768211456 = w; omega
  rw [e1, e2] at h1
  cases r : Nat.beq w 0 with
  | true => exact absurd (Nat.eq_of_beq_eq_true r) q
  | false =>
    rw [r, eB_f rfl, hk] at h1
    cases h1
noncomputable def e_ck (r : e_O) (v : Nat) (t1 : e_T) (p : Nat → Bool) : Bool := Option.rec false (fun q => eB (Nat.beq q.1 v) (eB (e_sb t1 q.2) (e_tc p q.2) false) false) r
/-- a place of a memory -/
def e_pl (p : Nat → Bool) (a i : Int) : Bool := decide (0 ≤ a ∧ 0 ≤ i ∧ i < 1024) && p (a.toNat * 1024 + i.toNat)
theorem e_fin {c : Int} {μ : am_M} {r : e_O} {x : am_O} {v : Nat} {t1 : e_T} {p : Nat → Bool} (h : so c μ r x) (hc : e_ck r v t1 p = true) : ∃ y μ', x = some (y, μ') ∧ vr c v y ∧ eKn c t1 μ' ∧ ∀ a i, e_pl p a i = false → μ' a i = μ a i := by
  cases r with
  | none => cases hc
  | some q =>
    obtain ⟨v1, t⟩ := q
    obtain ⟨h1, h2⟩ := eB_and (a := Nat.beq v1 v) (b := eB (e_sb t1 t) (e_tc p t) false) hc
    obtain ⟨h2, h3⟩ := eB_and h2
    have h1 := Nat.eq_of_beq_eq_true h1
    subst h1
    obtain ⟨y, μ', e, hv, hR⟩ := h v1 t rfl
    refine ⟨y, μ', e, hv, ?_, fun a i hp => ?_⟩
    · intro a i
      rcases e_sb_lk h2 a i with q | q
      · exact Or.inl q
      · rcases hR a i with ⟨r, -⟩ | ⟨r, s⟩
        · exact Or.inl (by rw [← q]; exact r)
        · exact Or.inr (by rw [← q]; exact s)
    · rcases hR a i with ⟨-, s⟩ | ⟨r, -⟩
      · exact s
      · refine absurd ?_ r
        unfold e_lk at r ⊢
        unfold e_pl at hp
        by_cases q : 0 ≤ a ∧ 0 ≤ i ∧ i < 1024
        · rw [if_pos q]
          rw [decide_eq_true q, Bool.true_and] at hp
          exact e_tc_s h3 _ hp
        · rw [if_neg q]
