/-! Knowledge by leaves. -/
def eKL (c : Int) (μ : am_M) (t : e_T) : Prop := Lean.RArray.rec (motive := fun _ => Prop) (fun x => x % 340282366920938463463374607431768211456 = 0 ∨ vr c (x % 340282366920938463463374607431768211456 - 1) (μ ((x / 340282366920938463463374607431768211456 / 1024 : Nat) : Int) ((x / 340282366920938463463374607431768211456 % 1024 : Nat) : Int))) (fun _ _ _ L R => L ∧ R) t
theorem eKL_get {c : Int} {μ : am_M} {t : e_T} (h : eKL c μ t) (k : Nat) : e_get t k = 0 ∨ vr c (e_get t k - 1) (μ ((k / 1024 : Nat) : Int) ((k % 1024 : Nat) : Int)) := by
  induction t with
  | leaf x =>
    rw [e_get_l]
    by_cases q : x / 340282366920938463463374607431768211456 = k
    · rw [if_pos q, ← q]; exact h
    · rw [if_neg q]; exact Or.inl rfl
  | branch m l r ihl ihr =>
    obtain ⟨h1, h2⟩ : eKL c μ l ∧ eKL c μ r := h
    rw [e_get_b]
    by_cases q : m ≤ k
    · rw [if_pos q]; exact ihr h2
    · rw [if_neg q]; exact ihl h1
theorem eKn_of {c : Int} {μ : am_M} {t : e_T} (h : ∀ k, e_get t k = 0 ∨ vr c (e_get t k - 1) (μ ((k / 1024 : Nat) : Int) ((k % 1024 : Nat) : Int))) : eKn c t μ := by
  intro a i
  unfold e_lk
  by_cases q : 0 ≤ a ∧ 0 ≤ i ∧ i < 1024
  · rw [if_pos q]
    have := h (a.toNat * 1024 + i.toNat)
    have e1 : (((a.toNat * 1024 + i.toNat) / 1024 : Nat) : Int) = a := by omega
    have e2 : (((a.toNat * 1024 + i.toNat) % 1024 : Nat) : Int) = i := by omega
    rw [e1, e2] at this
    exact this
  · rw [if_neg q]; exact Or.inl rfl
theorem eKn_get {c : Int} {μ : am_M} {t : e_T} (h : eKn c t μ) (k : Nat) : e_get t k = 0 ∨ vr c (e_get t k - 1) (μ ((k / 1024 : Nat) : Int) ((k % 1024 : Nat) : Int)) := by
  have h1 := h ((k / 1024 : Nat) : Int) ((k % 1024 : Nat) : Int)
  unfold e_lk at h1
  rw [if_pos (by omega)] at h1
  have e : (((k / 1024 : Nat) : Int)).toNat * 1024 + (((k % 1024 : Nat) : Int)).toNat = k := by omega
  rw [e] at h1
  exact h1
theorem eKL_n {c : Int} {μ : am_M} {t : e_T} (h : eKL c μ t) : eKn c t μ := eKn_of (eKL_get h)
/-- all leaves of the first, put into the second -/
noncomputable def e_un (t1 : e_T) : e_T → e_T := Lean.RArray.rec (motive := fun _ => e_T → e_T) (fun x t => eB (Nat.beq (Nat.mod x 340282366920938463463374607431768211456) 0) t (e_set t (Nat.div x 340282366920938463463374607431768211456) (Nat.mod x 340282366920938463463374607431768211456))) (fun _ _ _ L R t => R (L t)) t1
theorem eKn_un {c : Int} {μ : am_M} {t1 : e_T} (h1 : eKL c μ t1) : ∀ {t : e_T}, eKn c t μ → eKn c (e_un t1 t) μ := by
  induction t1 with
  | leaf x =>
    intro t h
    show eKn c (eB (Nat.beq (x % 340282366920938463463374607431768211456) 0) t (e_set t (x / 340282366920938463463374607431768211456) (x % 340282366920938463463374607431768211456))) μ
    cases q : Nat.beq (x % 340282366920938463463374607431768211456) 0 with
    | true => exact h
    | false =>
      have q := Nat.ne_of_beq_eq_false q
      rw [eB_f rfl]
      refine eKn_of (fun k => ?_)
      rw [e_get_set _ _ _ _ (by omega)]
      by_cases z : k = x / 340282366920938463463374607431768211456
      · rw [if_pos z, z]
        exact Or.inr (Or.resolve_left (show x % 340282366920938463463374607431768211456 = 0 ∨ _ from h1) q)
      · rw [if_neg z]
        exact eKn_get h k
  | branch m l r ihl ihr =>
    intro t h
    obtain ⟨q1, q2⟩ : eKL c μ l ∧ eKL c μ r := h1
    exact ihr q2 (ihl q1 h)
/-- nothing known -/
noncomputable def e_em (t : e_T) : Bool := eAll (fun x => Nat.beq (Nat.mod x 340282366920938463463374607431768211456) 0) t
theorem e_em_n {c : Int} {μ : am_M} {t : e_T} (h : e_em t = true) : eKn c t μ := by
  refine eKn_of (fun k => Or.inl ?_)
  refine Classical.byContradiction (fun q => ?_)
  have h1 := eAll_get h q
  have hl := e_get_lt t k
  generalize e_get t k = w at q h1 hl
  have e2 : Nat.mod (k * 340282366920938463463374607431768211456 + w) 340282366920938463463374607431768211456 = w := by show (k * 340282366920938463463374607431768211456 + w) % 340282366920938463463374607431768211456 = w; omega
  rw [e2] at h1
  exact q (Nat.eq_of_beq_eq_true h1)
theorem e_sb_L {c : Int} {μ μ0 : am_M} {t1 t : e_T} (h : e_sb t1 t = true) (hR : e_R c μ0 t μ) : eKL c μ t1 := by
  induction t1 with
  | leaf x =>
    show x % 340282366920938463463374607431768211456 = 0 ∨ _
    have h : eB (Nat.beq (x % 340282366920938463463374607431768211456) 0) true (Nat.beq (e_get t (x / 340282366920938463463374607431768211456)) (x % 340282366920938463463374607431768211456)) = true := h
    cases q : Nat.beq (x % 340282366920938463463374607431768211456) 0 with
    | true => exact Or.inl (Nat.eq_of_beq_eq_true q)
    | false =>
      rw [q, eB_f rfl] at h
      have h := Nat.eq_of_beq_eq_true h
      right
      have h2 := e_R_vr hR ((x / 340282366920938463463374607431768211456 / 1024 : Nat) : Int) ((x / 340282366920938463463374607431768211456 % 1024 : Nat) : Int)
      unfold e_lk at h2
      rw [if_pos (by omega)] at h2
      have e : (((x / 340282366920938463463374607431768211456 / 1024 : Nat) : Int)).toNat * 1024 + (((x / 340282366920938463463374607431768211456 % 1024 : Nat) : Int)).toNat = x / 340282366920938463463374607431768211456 := by omega
      rw [e, h] at h2
      exact h2
  | branch m l r ihl ihr =>
    obtain ⟨h1, h2⟩ := eB_and (a := e_sb l t) (b := e_sb r t) h
    exact ⟨ihl h1, ihr h2⟩
theorem e_fi {c : Int} {μ : am_M} {r : e_O} {x : am_O} {v : Nat} {t1 : e_T} {p : Nat → Bool} (h : so c μ r x) (hc : e_ck r v t1 p = true) : ∃ y μ', x = some (y, μ') ∧ vr c v y ∧ eKL c μ' t1 ∧ ∀ a i, e_pl p a i = false → μ' a i = μ a i := by
  obtain ⟨y, μ', e, hv, -, hf⟩ := e_fin h hc
  refine ⟨y, μ', e, hv, ?_, hf⟩
  cases r with
  | none => cases hc
  | some q =>
    obtain ⟨v1, t⟩ := q
    obtain ⟨h1, h2⟩ := eB_and (a := Nat.beq v1 v) (b := eB (e_sb t1 t) (e_tc p t) false) hc
    obtain ⟨h2, h3⟩ := eB_and h2
    obtain ⟨y', μ'', e', hv', hR⟩ := h v1 t rfl
    rw [e] at e'
    cases e'
    exact e_sb_L h2 hR
noncomputable def e_tn (p : Nat → Bool) (t : e_T) : Bool := eAll (fun x => eB (p (Nat.div x 340282366920938463463374607431768211456)) false true) t
theorem eKL_fr {c : Int} {μ μ' : am_M} {t : e_T} {p : Nat → Bool} (h : eKL c μ t) (ht : e_tn p t = true) (hf : ∀ a i, e_pl p a i = false → μ' a i = μ a i) : eKL c μ' t := by
  induction t with
  | leaf x =>
    have ht : eB (p (x / 340282366920938463463374607431768211456)) false true = true := ht
    have hp : p (x / 340282366920938463463374607431768211456) = false := by
      cases q : p (x / 340282366920938463463374607431768211456) with
      | false => rfl
      | true => rw [q] at ht; cases ht
    show x % 340282366920938463463374607431768211456 = 0 ∨ _
    rw [hf]
    · exact h
    · unfold e_pl
      have e : (((x / 340282366920938463463374607431768211456 / 1024 : Nat) : Int)).toNat * 1024 + (((x / 340282366920938463463374607431768211456 % 1024 : Nat) : Int)).toNat = x / 340282366920938463463374607431768211456 := by omega
      rw [e, hp, Bool.and_false]
  | branch m l r ihl ihr =>
    obtain ⟨h1, h2⟩ := eB_and (a := e_tn p l) (b := e_tn p r) ht
    obtain ⟨q1, q2⟩ : eKL c μ l ∧ eKL c μ r := h
    exact ⟨ihl q1 h1, ihr q2 h2⟩
/-- what is known of one place -/
theorem eKL_at {c : Int} {μ : am_M} {t : e_T} (h : eKL c μ t) (k v : Nat) (hg : e_get t k = Nat.succ v) (hv : decide (0 < v ∧ v < 1180591620717411303424) = true) : μ ((k / 1024 : Nat) : Int) ((k % 1024 : Nat) : Int) = (v : Int) - 9223372036854775809 := by
  have hv := of_decide_eq_true hv
  have h1 := (eKL_get h k).resolve_left (by rw [hg]; omega)
  rw [hg] at h1
  exact vr_use h1 hv.1 hv.2
/-- a place of none of the machines, but for those that are known -/
noncomputable def e_pm (k : Nat) : Bool := eB (eB (Nat.ble 307200 k) (Nat.ble k 368639) false) (eB (Nat.beq k 307201) true (Nat.beq k 317441)) (eB (eB (Nat.ble 71684 k) (Nat.ble k 72703) false) false (eB (Nat.beq k 10) false true))
theorem pm_70 {j : Int} (h : ¬ (0 ≤ j ∧ j < 4)) : e_pl e_pm 70 j = false := by
  unfold e_pl
  by_cases q : 0 ≤ (70 : Int) ∧ 0 ≤ j ∧ j < 1024
  · rw [decide_eq_true q, Bool.true_and]
    have e : (70 : Int).toNat * 1024 + j.toNat = 71680 + j.toNat := rfl
    unfold e_pm
    rw [e, eB_f (c := eB (Nat.ble 307200 _) _ _), eB_t (c := eB (Nat.ble 71684 _) _ _)]
    · rw [eB_t (Nat.ble_eq_true_of_le (by omega))]
      exact Nat.ble_eq_true_of_le (by omega)
    · rw [eB_f]
      cases r : Nat.ble 307200 (71680 + j.toNat) with
      | false => rfl
      | true => have := Nat.le_of_ble_eq_true r; omega
  · rw [decide_eq_false q, Bool.false_and]
/-- a row of machines: nothing beyond the cells that there are -/
def J4 (μ : am_M) : Prop := ∀ j : Int, ¬ (0 ≤ j ∧ j < 4) → μ 70 j < 3000
def FRM (μ μ' : am_M) : Prop := (∀ a i : Int, 300 ≤ a → a < 360 → μ' a i = μ a i) ∧ μ' 0 10 = μ 0 10 ∧ (J4 μ → J4 μ')
theorem FRM_of {μ μ' : am_M} (hf : ∀ a i, e_pl e_pm a i = false → μ' a i = μ a i) (h1 : μ' 300 1 = μ 300 1) (h2 : μ' 310 1 = μ 310 1) : FRM μ μ' := by
  refine ⟨fun a i ha hb => ?_, hf 0 10 (by decide +kernel), fun hJ j hj => by rw [hf 70 j (pm_70 hj)]; exact hJ j hj⟩
  by_cases q1 : a = 300 ∧ i = 1
  · rw [q1.1, q1.2]; exact h1
  by_cases q2 : a = 310 ∧ i = 1
  · rw [q2.1, q2.2]; exact h2
  refine hf a i ?_
  unfold e_pl
  by_cases q : 0 ≤ a ∧ 0 ≤ i ∧ i < 1024
  · rw [decide_eq_true q, Bool.true_and]
    unfold e_pm
    rw [eB_t (c := Nat.ble 307200 _) (Nat.ble_eq_true_of_le (by omega)), eB_t (c := Nat.ble _ 368639) (Nat.ble_eq_true_of_le (by omega)), eB_f]
    · cases r : Nat.beq (a.toNat * 1024 + i.toNat) 317441 with
      | false => rfl
      | true => have := Nat.eq_of_beq_eq_true r; omega
    · cases r : Nat.beq (a.toNat * 1024 + i.toNat) 307201 with
      | false => rfl
      | true => have := Nat.eq_of_beq_eq_true r; omega
  · rw [decide_eq_false q, Bool.false_and]
