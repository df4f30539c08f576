/-! The evaluator's memory and steps. Printed by program (wip/p27/ev3.py). -/
noncomputable def e_get (t : e_T) (k : Nat) : Nat := Lean.RArray.rec (motive := fun _ => Nat) (fun x => eB (Nat.beq (Nat.div x 340282366920938463463374607431768211456) k) (Nat.mod x 340282366920938463463374607431768211456) 0) (fun p _ _ l r => eB (Nat.ble p k) r l) t
noncomputable def e_set (t : e_T) (k v : Nat) : e_T := Lean.RArray.rec (motive := fun _ => e_T) (fun x => eB (Nat.beq (Nat.div x 340282366920938463463374607431768211456) k) (Lean.RArray.leaf (Nat.add (Nat.mul k 340282366920938463463374607431768211456) v)) (eB (Nat.ble (Nat.div x 340282366920938463463374607431768211456) k) (Lean.RArray.branch k (Lean.RArray.leaf x) (Lean.RArray.leaf (Nat.add (Nat.mul k 340282366920938463463374607431768211456) v))) (Lean.RArray.branch (Nat.div x 340282366920938463463374607431768211456) (Lean.RArray.leaf (Nat.add (Nat.mul k 340282366920938463463374607431768211456) v)) (Lean.RArray.leaf x)))) (fun p l r L R => eB (Nat.ble p k) (Lean.RArray.branch p l R) (Lean.RArray.branch p L r)) t
theorem e_get_l (x k : Nat) : e_get (Lean.RArray.leaf x) k = if x / 340282366920938463463374607431768211456 = k then x % 340282366920938463463374607431768211456 else 0 := by
  show eB (Nat.beq (x / 340282366920938463463374607431768211456) k) (x % 340282366920938463463374607431768211456) 0 = _
  by_cases h : x / 340282366920938463463374607431768211456 = k
  · rw [if_pos h, eB_t (by rw [h]; exact Nat.beq_refl k)]
  · rw [if_neg h, eB_f]
    cases e : Nat.beq (x / 340282366920938463463374607431768211456) k with
    | false => rfl
    | true => exact absurd (Nat.eq_of_beq_eq_true e) h
theorem e_get_b (p : Nat) (l r : e_T) (k : Nat) : e_get (Lean.RArray.branch p l r) k = if p ≤ k then e_get r k else e_get l k := by
  show eB (Nat.ble p k) (e_get r k) (e_get l k) = _
  by_cases h : p ≤ k
  · rw [if_pos h, eB_t (Nat.ble_eq_true_of_le h)]
  · rw [if_neg h, eB_f]
    cases e : Nat.ble p k with
    | false => rfl
    | true => exact absurd (Nat.le_of_ble_eq_true e) h
theorem e_set_l (x k v : Nat) : e_set (Lean.RArray.leaf x) k v = if x / 340282366920938463463374607431768211456 = k then Lean.RArray.leaf (k * 340282366920938463463374607431768211456 + v) else if x / 340282366920938463463374607431768211456 ≤ k then Lean.RArray.branch k (Lean.RArray.leaf x) (Lean.RArray.leaf (k * 340282366920938463463374607431768211456 + v)) else Lean.RArray.branch (x / 340282366920938463463374607431768211456) (Lean.RArray.leaf (k * 340282366920938463463374607431768211456 + v)) (Lean.RArray.leaf x) := by
  show eB (Nat.beq (x / 340282366920938463463374607431768211456) k) (Lean.RArray.leaf (k * 340282366920938463463374607431768211456 + v)) (eB (Nat.ble (x / 340282366920938463463374607431768211456) k) (Lean.RArray.branch k (Lean.RArray.leaf x) (Lean.RArray.leaf (k * 340282366920938463463374607431768211456 + v))) (Lean.RArray.branch (x / 340282366920938463463374607431768211456) (Lean.RArray.leaf (k * 340282366920938463463374607431768211456 + v)) (Lean.RArray.leaf x))) = _
  by_cases h : x / 340282366920938463463374607431768211456 = k
  · rw [if_pos h, eB_t (by rw [h]; exact Nat.beq_refl k)]
  · rw [if_neg h, eB_f]
    · by_cases h2 : x / 340282366920938463463374607431768211456 ≤ k
      · rw [if_pos h2, eB_t (Nat.ble_eq_true_of_le h2)]
      · rw [if_neg h2, eB_f]
        cases e : Nat.ble (x / 340282366920938463463374607431768211456) k with
        | false => rfl
        | true => exact absurd (Nat.le_of_ble_eq_true e) h2
    · cases e : Nat.beq (x / 340282366920938463463374607431768211456) k with
      | false => rfl
      | true => exact absurd (Nat.eq_of_beq_eq_true e) h
theorem e_set_b (p : Nat) (l r : e_T) (k v : Nat) : e_set (Lean.RArray.branch p l r) k v = if p ≤ k then Lean.RArray.branch p l (e_set r k v) else Lean.RArray.branch p (e_set l k v) r := by
  show eB (Nat.ble p k) (Lean.RArray.branch p l (e_set r k v)) (Lean.RArray.branch p (e_set l k v) r) = _
  by_cases h : p ≤ k
  · rw [if_pos h, eB_t (Nat.ble_eq_true_of_le h)]
  · rw [if_neg h, eB_f]
    cases e : Nat.ble p k with
    | false => rfl
    | true => exact absurd (Nat.le_of_ble_eq_true e) h
theorem e_get_set (t : e_T) (k v k' : Nat) (hv : v < 340282366920938463463374607431768211456) : e_get (e_set t k v) k' = if k' = k then v else e_get t k' := by
  induction t with
  | leaf x =>
    have h1 : (k * 340282366920938463463374607431768211456 + v) / 340282366920938463463374607431768211456 = k := by omega
    have h2 : (k * 340282366920938463463374607431768211456 + v) % 340282366920938463463374607431768211456 = v := by omega
    rw [e_set_l, e_get_l]
    by_cases h : x / 340282366920938463463374607431768211456 = k
    · rw [if_pos h, e_get_l, h1, h2, h]
      by_cases q : k' = k
      · rw [if_pos q, if_pos q.symm]
      · rw [if_neg q, if_neg (Ne.symm q), if_neg (Ne.symm q)]
    · rw [if_neg h]
      by_cases h3 : x / 340282366920938463463374607431768211456 ≤ k
      · rw [if_pos h3, e_get_b, e_get_l, e_get_l, h1, h2]
        by_cases q : k' = k
        · rw [if_pos q, if_pos (by omega), if_pos q.symm]
        · rw [if_neg q]
          by_cases q2 : k ≤ k'
          · rw [if_pos q2, if_neg (Ne.symm q), if_neg (by omega)]
          · rw [if_neg q2]
      · rw [if_neg h3, e_get_b, e_get_l, e_get_l, h1, h2]
        by_cases q : k' = k
        · rw [if_pos q, if_neg (by omega), if_pos q.symm]
        · rw [if_neg q]
          by_cases q2 : x / 340282366920938463463374607431768211456 ≤ k'
          · rw [if_pos q2]
          · rw [if_neg q2, if_neg (Ne.symm q), if_neg (by omega)]
  | branch p l r ihl ihr =>
    rw [e_set_b, e_get_b]
    by_cases h : p ≤ k
    · rw [if_pos h, e_get_b]
      by_cases q : p ≤ k'
      · rw [if_pos q, if_pos q, ihr]
      · rw [if_neg q, if_neg q, if_neg (by omega)]
    · rw [if_neg h, e_get_b]
      by_cases q : p ≤ k'
      · rw [if_pos q, if_pos q, if_neg (by omega)]
      · rw [if_neg q, if_neg q, ihl]
noncomputable def eAll (p : Nat → Bool) (t : e_T) : Bool := Lean.RArray.rec (motive := fun _ => Bool) p (fun _ _ _ l r => eB l r false) t
theorem eAll_get {p : Nat → Bool} {t : e_T} {k : Nat} (h : eAll p t = true) (h0 : e_get t k ≠ 0) : p (k * 340282366920938463463374607431768211456 + e_get t k) = true := by
  induction t with
  | leaf x =>
    rw [e_get_l] at h0 ⊢
    by_cases q : x / 340282366920938463463374607431768211456 = k
    · rw [if_pos q, ← q]
      have : x / 340282366920938463463374607431768211456 * 340282366920938463463374607431768211456 + x % 340282366920938463463374607431768211456 = x := by omega
      rw [this]
      exact h
    · rw [if_neg q] at h0; exact absurd rfl h0
  | branch m l r ihl ihr =>
    obtain ⟨h1, h2⟩ := eB_and (a := eAll p l) (b := eAll p r) h
    rw [e_get_b] at h0 ⊢
    by_cases q : m ≤ k
    · rw [if_pos q] at h0 ⊢; exact ihr h2 h0
    · rw [if_neg q] at h0 ⊢; exact ihl h1 h0
/-- what is kept of a cell's place: 0: nothing (as at first), else one above its code -/
noncomputable def e_lk (t : e_T) (a i : Int) : Nat := if 0 ≤ a ∧ 0 ≤ i ∧ i < 1024 then e_get t (a.toNat * 1024 + i.toNat) else 0
def e_R (c : Int) (μ0 : am_M) (t : e_T) (μ : am_M) : Prop := ∀ a i : Int, (e_lk t a i = 0 ∧ μ a i = μ0 a i) ∨ (e_lk t a i ≠ 0 ∧ vr c (e_lk t a i - 1) (μ a i))
def so (c : Int) (μ0 : am_M) (r : e_O) (x : am_O) : Prop := ∀ v t, r = some (v, t) → ∃ y μ, x = some (y, μ) ∧ vr c v y ∧ e_R c μ0 t μ
theorem e_R_vr {c : Int} {μ0 μ : am_M} {t : e_T} (hR : e_R c μ0 t μ) (a i : Int) : vr c (e_lk t a i - 1) (μ a i) := by
  rcases hR a i with ⟨h, -⟩ | ⟨-, h⟩
  · rw [h]; exact vr_0
  · exact h
/-- a place whose cell and index are known -/
noncomputable def eAd (a i : Nat) : Bool := eB (eB (Nat.ble 9223372036854775809 a) (Nat.ble a 1180591620717411303423) false) (eB (Nat.ble 9223372036854775809 i) (Nat.ble i 9223372036854776832) false) false
noncomputable def eKy (a i : Nat) : Nat := Nat.add (Nat.mul (Nat.sub a 9223372036854775809) 1024) (Nat.sub i 9223372036854775809)
theorem eAd_s {c x y : Int} {a i : Nat} (h : eAd a i = true) (ha : vr c a x) (hi : vr c i y) : 0 ≤ x ∧ 0 ≤ y ∧ y < 1024 ∧ eKy a i = x.toNat * 1024 + y.toNat := by
  obtain ⟨h1, h2⟩ := eB_and h
  obtain ⟨h1, h3⟩ := eB_and h1
  obtain ⟨h2, h4⟩ := eB_and h2
  have h1 := Nat.le_of_ble_eq_true h1
  have h2 := Nat.le_of_ble_eq_true h2
  have h3 := Nat.le_of_ble_eq_true h3
  have h4 := Nat.le_of_ble_eq_true h4
  have e1 := vr_use ha (by omega) (by omega)
  have e2 := vr_use hi (by omega) (by omega)
  refine ⟨by omega, by omega, by omega, ?_⟩
  show (a - 9223372036854775809) * 1024 + (i - 9223372036854775809) = _
  omega
noncomputable def e_rd (t : e_T) (a i : Nat) : Nat := eB (eAd a i) (Nat.pred (e_get t (eKy a i))) 0
theorem vr_rd {c x y : Int} {μ0 μ : am_M} {t : e_T} {a i : Nat} (hR : e_R c μ0 t μ) (ha : vr c a x) (hi : vr c i y) : vr c (e_rd t a i) (μ x y) := by
  unfold e_rd
  cases h : eAd a i with
  | false => exact vr_0
  | true =>
    obtain ⟨h1, h2, h3, h4⟩ := eAd_s h ha hi
    rw [eB_t rfl, h4]
    have := e_R_vr hR x y
    unfold e_lk at this
    rw [if_pos ⟨h1, h2, h3⟩] at this
    exact this
/-- .. at a written place -/
noncomputable def e_rk (t : e_T) (k : Nat) : Nat := Nat.pred (e_get t k)
theorem vr_rk {c : Int} {μ0 μ : am_M} {t : e_T} (hR : e_R c μ0 t μ) {x y : Int} {k : Nat} (h : decide (0 ≤ x ∧ 0 ≤ y ∧ y < 1024 ∧ k = x.toNat * 1024 + y.toNat) = true) : vr c (e_rk t k) (μ x y) := by
  obtain ⟨h1, h2, h3, h4⟩ := of_decide_eq_true h
  have := e_R_vr hR x y
  unfold e_lk at this
  rw [if_pos ⟨h1, h2, h3⟩, ← h4] at this
  exact this
noncomputable def e_w (a i v : Nat) (t : e_T) (k : e_T → e_O) : e_O := eB (eB (eAd a i) (Nat.ble v 340282366920938463463374607431768211454) false) (k (e_set t (eKy a i) (Nat.succ v))) none
theorem e_R_set {c x y z : Int} {μ0 μ : am_M} {t : e_T} {v k : Nat} (hR : e_R c μ0 t μ) (h1 : 0 ≤ x) (h2 : 0 ≤ y) (h3 : y < 1024) (hk : k = x.toNat * 1024 + y.toNat) (hv : vr c v z) (hq : v ≤ 340282366920938463463374607431768211454) : e_R c μ0 (e_set t k (Nat.succ v)) (m_st μ x y z) := by
  intro a i
  have key : e_lk (e_set t k (Nat.succ v)) a i = if a = x ∧ i = y then Nat.succ v else e_lk t a i := by
    unfold e_lk
    by_cases q : 0 ≤ a ∧ 0 ≤ i ∧ i < 1024
    · rw [if_pos q, if_pos q, e_get_set _ _ _ _ (by omega)]
      by_cases r : a = x ∧ i = y
      · rw [if_pos r, if_pos (by rw [hk, r.1, r.2])]
      · rw [if_neg r, if_neg (by omega)]
    · rw [if_neg q, if_neg q, if_neg (fun r => q ⟨by omega, by omega, by omega⟩)]
  rw [key]
  by_cases r : a = x ∧ i = y
  · rw [if_pos r, r.1, r.2]
    exact Or.inr ⟨by omega, by rw [m_st_eq]; exact hv⟩
  · rw [if_neg r, show m_st μ x y z a i = μ a i from if_neg r]
    exact hR a i
theorem so_w {c x y z : Int} {μ0 μ : am_M} {t : e_T} {a i v : Nat} {k : e_T → e_O} {k' : am_M → am_O} (ha : vr c a x) (hi : vr c i y) (hv : vr c v z) (hR : e_R c μ0 t μ) (hk : ∀ t μ, e_R c μ0 t μ → so c μ0 (k t) (k' μ)) : so c μ0 (e_w a i v t k) (k' (m_st μ x y z)) := by
  intro w t' e
  obtain ⟨h1, h2⟩ := eB_some e
  obtain ⟨h1, h3⟩ := eB_and h1
  obtain ⟨p1, p2, p3, p4⟩ := eAd_s h1 ha hi
  exact hk _ _ (e_R_set hR p1 p2 p3 p4 hv (Nat.le_of_ble_eq_true h3)) w t' h2
theorem so_pf {c x y z : Int} {μ0 μ : am_M} {t : e_T} {a i v : Nat} {k : e_T → e_O} {k' : am_M → am_O} (ha : vr c a x) (hi : vr c i y) (hv : vr c v z) (hR : e_R c μ0 t μ) (hk : ∀ t μ, e_R c μ0 t μ → so c μ0 (k t) (k' μ)) : so c μ0 (e_w a i v t k) (q_pf x y z μ k') := so_w ha hi hv hR hk
noncomputable def e_01 (v : Nat) : Bool := eB (Nat.ble 9223372036854775809 v) (Nat.ble v 9223372036854775810) false
theorem e_01_s {c z : Int} {v : Nat} (h : e_01 v = true) (hv : vr c v z) : z = 0 ∨ z = 1 := by
  obtain ⟨h1, h2⟩ := eB_and h
  have h1 := Nat.le_of_ble_eq_true h1
  have h2 := Nat.le_of_ble_eq_true h2
  have := vr_use hv (by omega) (by omega)
  omega
noncomputable def e_wb (a i v : Nat) (t : e_T) (k : e_T → e_O) : e_O := eB (e_01 v) (e_w a i v t k) none
theorem so_pfb {c x y z : Int} {μ0 μ : am_M} {t : e_T} {a i v : Nat} {k : e_T → e_O} {k' : am_M → am_O} (ha : vr c a x) (hi : vr c i y) (hv : vr c v z) (hR : e_R c μ0 t μ) (hk : ∀ t μ, e_R c μ0 t μ → so c μ0 (k t) (k' μ)) : so c μ0 (e_wb a i v t k) (q_pfb x y z μ k') := by
  intro w t' e
  obtain ⟨h1, h2⟩ := eB_some e
  unfold q_pfb
  rw [if_pos (e_01_s h1 hv)]
  exact so_w ha hi hv hR hk w t' h2
theorem so_ret {c y : Int} {μ0 μ : am_M} {t : e_T} {a : Nat} (ha : vr c a y) (hR : e_R c μ0 t μ) : so c μ0 (some (a, t)) (some (y, μ)) := by
  intro w t' e
  cases e
  exact ⟨y, μ, rfl, ha, hR⟩
noncomputable def e_rb (v : Nat) (t : e_T) : e_O := eB (e_01 v) (some (v, t)) none
theorem so_rb {c y : Int} {μ0 μ : am_M} {t : e_T} {a : Nat} (ha : vr c a y) (hR : e_R c μ0 t μ) : so c μ0 (e_rb a t) (q_rb y (some (y, μ))) := by
  intro w t' e
  obtain ⟨h1, h2⟩ := eB_some e
  unfold q_rb
  rw [if_pos (e_01_s h1 ha)]
  exact so_ret ha hR w t' h2
theorem so_none {c : Int} {μ0 : am_M} {x : am_O} : so c μ0 none x := fun v t e => by cases e
theorem so_bd {c : Int} {μ0 : am_M} {r : e_O} {x : am_O} {k : Nat → e_T → e_O} {k' : Int → am_M → am_O} (h : so c μ0 r x) (hk : ∀ v y t μ, vr c v y → e_R c μ0 t μ → so c μ0 (k v t) (k' y μ)) : so c μ0 (e_bd r k) (q_bd x k') := by
  intro w t' e
  cases r with
  | none => cases e
  | some q =>
    obtain ⟨v, t⟩ := q
    obtain ⟨y, μ, rfl, hv, hR⟩ := h v t rfl
    have e : eF v (fun v => k v t) = some (w, t') := e
    rw [eF_d] at e
    exact hk v y t μ hv hR w t' e
theorem so_F {c y : Int} {μ0 : am_M} {a : Nat} {k : Nat → e_O} {x : am_O} (ha : vr c a y) (hk : ∀ a, vr c a y → so c μ0 (k a) x) : so c μ0 (eF a k) x := by rw [eF_d]; exact hk a ha
theorem so_lt {c y : Int} {μ0 : am_M} {a : Nat} {k : Nat → e_O} {k' : Int → am_O} (ha : vr c a y) (hk : ∀ a y, vr c a y → so c μ0 (k a) (k' y)) : so c μ0 (eF a k) (q_lt y k') := by rw [eF_d]; exact hk a y ha
noncomputable def e_eq (a b : Nat) (A B : e_O) : e_O := eB (eK2 a b) (eB (Nat.beq a b) A B) (eB (eB (Nat.ble 1180591620717411303424 a) (Nat.beq a b) false) A none)
noncomputable def e_lt (a b : Nat) (A B : e_O) : e_O := eB (eK2 a b) (eB (Nat.ble (Nat.succ a) b) A B) none
noncomputable def e_le (a b : Nat) (A B : e_O) : e_O := eB (eK2 a b) (eB (Nat.ble a b) A B) none
theorem so_eq {c x y : Int} {μ0 : am_M} {a b : Nat} {A B : e_O} {A' B' : am_O} {dc : Decidable (x = y)} (ha : vr c a x) (hb : vr c b y) (hA : so c μ0 A A') (hB : so c μ0 B B') : so c μ0 (e_eq a b A B) (@ite _ (x = y) dc A' B') := by
  unfold e_eq
  cases h : eK2 a b with
  | true =>
    rw [eB_t rfl]
    obtain ⟨⟨h1, h2⟩, h3, h4⟩ := eK2_s h
    have e1 := vr_use ha h1 h2
    have e2 := vr_use hb h3 h4
    cases q : Nat.beq a b with
    | true =>
      have := Nat.eq_of_beq_eq_true q
      rw [eB_t rfl, if_pos (by omega)]; exact hA
    | false =>
      have := Nat.ne_of_beq_eq_false q
      rw [eB_f rfl, if_neg (by omega)]; exact hB
  | false =>
    rw [eB_f rfl]
    cases q : eB (Nat.ble 1180591620717411303424 a) (Nat.beq a b) false with
    | false => exact so_none
    | true =>
      obtain ⟨q1, q2⟩ := eB_and q
      have q1 := Nat.le_of_ble_eq_true q1
      have q2 := Nat.eq_of_beq_eq_true q2
      subst q2
      rw [eB_t rfl, if_pos ((ha.resolve_left (by omega)).trans (hb.resolve_left (by omega)).symm)]
      exact hA
theorem so_ltc {c x y : Int} {μ0 : am_M} {a b : Nat} {A B : e_O} {A' B' : am_O} {dc : Decidable (x < y)} (ha : vr c a x) (hb : vr c b y) (hA : so c μ0 A A') (hB : so c μ0 B B') : so c μ0 (e_lt a b A B) (@ite _ (x < y) dc A' B') := by
  unfold e_lt
  cases h : eK2 a b with
  | true =>
    rw [eB_t rfl]
    obtain ⟨⟨h1, h2⟩, h3, h4⟩ := eK2_s h
    have e1 := vr_use ha h1 h2
    have e2 := vr_use hb h3 h4
    cases q : Nat.ble (Nat.succ a) b with
    | true =>
      have := Nat.le_of_ble_eq_true q
      rw [eB_t rfl, if_pos (by omega)]; exact hA
    | false =>
      rw [eB_f rfl, if_neg (fun z => by
        have : Nat.ble (Nat.succ a) b = true := Nat.ble_eq_true_of_le (by omega)
        rw [q] at this; cases this)]; exact hB
  | false => exact so_none
theorem so_lec {c x y : Int} {μ0 : am_M} {a b : Nat} {A B : e_O} {A' B' : am_O} {dc : Decidable (x ≤ y)} (ha : vr c a x) (hb : vr c b y) (hA : so c μ0 A A') (hB : so c μ0 B B') : so c μ0 (e_le a b A B) (@ite _ (x ≤ y) dc A' B') := by
  unfold e_le
  cases h : eK2 a b with
  | true =>
    rw [eB_t rfl]
    obtain ⟨⟨h1, h2⟩, h3, h4⟩ := eK2_s h
    have e1 := vr_use ha h1 h2
    have e2 := vr_use hb h3 h4
    cases q : Nat.ble a b with
    | true =>
      have := Nat.le_of_ble_eq_true q
      rw [eB_t rfl, if_pos (by omega)]; exact hA
    | false =>
      rw [eB_f rfl, if_neg (fun z => by
        have : Nat.ble a b = true := Nat.ble_eq_true_of_le (by omega)
        rw [q] at this; cases this)]; exact hB
  | false => exact so_none
/-! the cells' kinds and lengths -/
def e_tb : e_T := .branch 119 (.branch 61 (.branch 35 (.branch 22 (.branch 12 (.branch 10 (.leaf 1245185) (.branch 11 (.leaf 3402823669209384634633746074317683228673) (.leaf 3743106036130323098097120681749450327017))) (.branch 20 (.leaf 4083388403051261561560495289181218603026) (.branch 21 (.leaf 6805647338418769269267492148635365212161) (.leaf 7145929705339707732730866756067132506123)))) (.branch 31 (.branch 23 (.leaf 7486212072260646196194241363498900652036) (.branch 30 (.leaf 7826494439181584659657615970930668863553) (.leaf 10208471007628153903901238222953047064577))) (.branch 33 (.branch 32 (.leaf 10548753374549092367364612830384814555140) (.leaf 10889035741470030830827987437816582766596)) (.branch 34 (.leaf 11229318108390969294291362045248350978052) (.leaf 11569600475311907757754736652680119189508))))) (.branch 53 (.branch 50 (.branch 40 (.leaf 11909882842232846221218111260111887400964) (.branch 41 (.leaf 13611294676837538538534984297270729506817) (.leaf 13951577043758477001998358904702496669761))) (.branch 51 (.leaf 17014118346046923173168730371588411752449) (.branch 52 (.leaf 17354400712967861636632104979020178784260) (.leaf 17694683079888800100095479586451946995716)))) (.branch 56 (.branch 54 (.leaf 18034965446809738563558854193883715207172) (.branch 55 (.leaf 18375247813730677027022228801315483418628) (.leaf 18715530180651615490485603408747251630091))) (.branch 58 (.branch 57 (.leaf 19055812547572553953948978016179019841597) (.leaf 19396094914493492417412352623610788053053)) (.branch 60 (.leaf 19736377281414430880875727231042556264453) (.leaf 20416942015256307807802476445906093604865)))))) (.branch 105 (.branch 67 (.branch 64 (.branch 62 (.leaf 20757224382177246271265851053337860898927) (.branch 63 (.leaf 21097506749098184734729225660769629110283) (.leaf 21437789116019123198192600268201397321739))) (.branch 65 (.leaf 21778071482940061661655974875633165533195) (.branch 66 (.leaf 22118353849861000125119349483064933745665) (.leaf 22458636216781938588582724090496701957121)))) (.branch 101 (.branch 70 (.leaf 22798918583702877052046098697928470234113) (.branch 100 (.leaf 23819765684465692442436222520223774998533) (.leaf 34028236692093846346337460743176821800961))) (.branch 103 (.branch 102 (.leaf 34368519059014784809800835350608590143489) (.leaf 34708801425935723273264209958040357568573)) (.branch 104 (.leaf 35049083792856661736727584565472125780029) (.leaf 35389366159777600200190959172903893991485))))) (.branch 112 (.branch 108 (.branch 106 (.leaf 35729648526698538663654333780335662202941) (.branch 107 (.leaf 36069930893619477127117708387767430414397) (.leaf 36410213260540415590581082995199198625853))) (.branch 110 (.branch 109 (.leaf 36750495627461354054044457602630966837309) (.leaf 37090777994382292517507832210062735048765)) (.branch 111 (.leaf 37431060361303230980971206817494503260221) (.leaf 37771342728224169444434581424926271472617)))) (.branch 115 (.branch 113 (.leaf 38111625095145107907897956032358039748613) (.branch 114 (.leaf 38451907462066046371361330639789807894533) (.leaf 38792189828986984834824705247221576171525))) (.branch 117 (.branch 116 (.leaf 39132472195907923298288079854653344317445) (.leaf 39472754562828861761751454462085112528901)) (.branch 118 (.leaf 39813036929749800225214829069516880740357) (.leaf 40153319296670738688678203676948648951813))))))) (.branch 222 (.branch 209 (.branch 202 (.branch 122 (.branch 120 (.leaf 40493601663591677152141578284380417163269) (.branch 121 (.leaf 40833884030512615615604952891812185374725) (.leaf 41174166397433554079068327499243953586181))) (.branch 200 (.leaf 41514448764354492542531702106675721797637) (.branch 201 (.leaf 68056473384187692692674921486353642946561) (.leaf 68396755751108631156138296093785411289089)))) (.branch 205 (.branch 203 (.leaf 68737038118029569619601670701217178714173) (.branch 204 (.leaf 69077320484950508083065045308648946925629) (.leaf 69417602851871446546528419916080715137085))) (.branch 207 (.branch 206 (.leaf 69757885218792385009991794523512483348541) (.leaf 70098167585713323473455169130944251559997)) (.branch 208 (.leaf 70438449952634261936918543738376019771453) (.leaf 70778732319555200400381918345807787982909))))) (.branch 215 (.branch 212 (.branch 210 (.leaf 71119014686476138863845292953239556194365) (.branch 211 (.leaf 71459297053397077327308667560671324405821) (.leaf 71799579420318015790772042168103092618217))) (.branch 213 (.leaf 72139861787238954254235416775534860894213) (.branch 214 (.leaf 72480144154159892717698791382966629040133) (.leaf 72820426521080831181162165990398397317125)))) (.branch 218 (.branch 216 (.leaf 73160708888001769644625540597830165463045) (.branch 217 (.leaf 73500991254922708108088915205261933674501) (.leaf 73841273621843646571552289812693701885957))) (.branch 220 (.branch 219 (.leaf 74181555988764585035015664420125470097413) (.leaf 74521838355685523498479039027557238308869)) (.branch 221 (.leaf 74862120722606461961942413634989006520325) (.leaf 75202403089527400425405788242420774731781)))))) (.branch 330 (.branch 311 (.branch 302 (.branch 300 (.leaf 75542685456448338888869162849852542943237) (.branch 301 (.leaf 102084710076281539039012382229530464288769) (.leaf 102424992443202477502475756836962231648273))) (.branch 303 (.leaf 102765274810123415965939131444393999859729) (.branch 310 (.leaf 103105557177044354429402506051825768071329) (.leaf 105487533745490923673646128303848146403329)))) (.branch 320 (.branch 312 (.leaf 105827816112411862137109502911279913762833) (.branch 313 (.leaf 106168098479332800600572877518711681974289) (.leaf 106508380846253739064036252126143450185889))) (.branch 322 (.branch 321 (.leaf 108890357414700308308279874378165828517889) (.leaf 109230639781621246771743248985597595877393)) (.branch 323 (.leaf 109570922148542185235206623593029364088849) (.leaf 109911204515463123698669998200461132300449))))) (.branch 343 (.branch 333 (.branch 331 (.leaf 112293181083909692942913620452483510632449) (.branch 332 (.leaf 112633463450830631406376995059915277991953) (.leaf 112973745817751569869840369667347046203409))) (.branch 341 (.branch 340 (.leaf 113314028184672508333303744274778814415009) (.leaf 115696004753119077577547366526801192747009)) (.branch 342 (.leaf 116036287120040016041010741134232960106513) (.leaf 116376569486960954504474115741664728317969)))) (.branch 352 (.branch 350 (.leaf 116716851853881892967937490349096496529569) (.branch 351 (.leaf 119098828422328462212181112601118874861569) (.leaf 119439110789249400675644487208550642221073))) (.branch 3000 (.branch 353 (.leaf 119779393156170339139107861815982410432529) (.leaf 120119675523091277602571236423414178644129)) (.branch 3010 (.leaf 1020847100762815390390123822295304634368951) (.leaf 1024249924432024775024757568369622316548100)))))))
noncomputable def e_sh (a : Nat) : Nat := eB (eB (Nat.ble 9223372036854775809 a) (Nat.ble a 1180591620717411303423) false) (e_get e_tb (Nat.sub a 9223372036854775809)) 0
set_option maxRecDepth 20000 in
theorem e_tb_ok : eAll (fun x => decide (am_shp ((x / 340282366920938463463374607431768211456 : Nat) : Int) = some ((x % 340282366920938463463374607431768211456 - 1) / 65536, (x % 340282366920938463463374607431768211456 - 1) % 65536)) && decide (0 < x % 340282366920938463463374607431768211456)) e_tb = true := by decide +kernel
theorem e_get_lt (t : e_T) (k : Nat) : e_get t k < 340282366920938463463374607431768211456 := by
  induction t with
  | leaf x =>
    rw [e_get_l]
    split <;> omega
  | branch m l r ihl ihr =>
    rw [e_get_b]
    split
    · exact ihr
    · exact ihl
theorem e_sh_s {c x : Int} {a : Nat} (h : e_sh a ≠ 0) (ha : vr c a x) : am_shp x = some ((e_sh a - 1) / 65536, (e_sh a - 1) % 65536) := by
  unfold e_sh at h ⊢
  cases q : eB (Nat.ble 9223372036854775809 a) (Nat.ble a 1180591620717411303423) false with
  | false => rw [q] at h; exact absurd rfl h
  | true =>
    rw [q, eB_t rfl] at h
    rw [eB_t rfl]
    obtain ⟨h1, h2⟩ := eB_and q
    have h1 := Nat.le_of_ble_eq_true h1
    have h2 := Nat.le_of_ble_eq_true h2
    have e1 := vr_use ha (by omega) (by omega)
    have h3 := eAll_get e_tb_ok h
    rw [Bool.and_eq_true] at h3
    have h3 := of_decide_eq_true h3.1
    have hl := e_get_lt e_tb (Nat.sub a 9223372036854775809)
    generalize e_get e_tb (Nat.sub a 9223372036854775809) = w at h h3 hl ⊢
    have e2 : (Nat.sub a 9223372036854775809 * 340282366920938463463374607431768211456 + w) / 340282366920938463463374607431768211456 = Nat.sub a 9223372036854775809 := by omega
    have e3 : (Nat.sub a 9223372036854775809 * 340282366920938463463374607431768211456 + w) % 340282366920938463463374607431768211456 = w := by omega
    rw [e2, e3] at h3
    have e4 : x = ((Nat.sub a 9223372036854775809 : Nat) : Int) := by
      show x = ((a - 9223372036854775809 : Nat) : Int)
      omega
    rw [e4]
    exact h3
noncomputable def e_gd (ci a : Nat) (k : e_O) : e_O := eB (Nat.beq (Nat.div (Nat.pred (e_sh a)) 65536) (Nat.add 10 ci)) k none
theorem so_gd {c x : Int} {μ0 : am_M} {ci a : Nat} {k : e_O} {k' : am_O} (ha : vr c a x) (hk : so c μ0 k k') : so c μ0 (e_gd ci a k) (q_gd ci x k') := by
  intro w t' e
  obtain ⟨h1, h2⟩ := eB_some e
  have h1 : (e_sh a - 1) / 65536 = 10 + ci := Nat.eq_of_beq_eq_true h1
  have h3 := e_sh_s (a := a) (by omega) ha
  unfold q_gd
  rw [if_pos (by unfold am_isO; rw [h3]; show Nat.beq ((e_sh a - 1) / 65536) (10 + ci) = true; rw [h1]; exact Nat.beq_refl _)]
  exact hk w t' h2
/-- code of a row's length, 0: none such -/
noncomputable def e_lK (kd a : Nat) : Nat := eB (eB (Nat.ble 1 (e_sh a)) (Nat.beq (Nat.div (Nat.pred (e_sh a)) 65536) kd) false) (Nat.add (Nat.mod (Nat.pred (e_sh a)) 65536) 9223372036854775809) 0
theorem e_lK_s {c x : Int} {kd a : Nat} (h : e_lK kd a ≠ 0) (ha : vr c a x) : am_lenK kd x = (e_lK kd a : Int) - 9223372036854775809 ∧ e_lK kd a < 9223372036854775809 + 65536 ∧ 9223372036854775809 ≤ e_lK kd a := by
  unfold e_lK at h ⊢
  cases q : eB (Nat.ble 1 (e_sh a)) (Nat.beq (Nat.div (Nat.pred (e_sh a)) 65536) kd) false with
  | false => rw [q] at h; exact absurd rfl h
  | true =>
    rw [eB_t rfl]
    obtain ⟨h1, h2⟩ := eB_and q
    have h1 := Nat.le_of_ble_eq_true h1
    have h2 : (e_sh a - 1) / 65536 = kd := Nat.eq_of_beq_eq_true h2
    have h3 := e_sh_s (a := a) (by omega) ha
    unfold am_lenK
    rw [h3]
    show (if (e_sh a - 1) / 65536 = kd then (((e_sh a - 1) % 65536 : Nat) : Int) else -1) = (((e_sh a - 1) % 65536 + 9223372036854775809 : Nat) : Int) - 9223372036854775809 ∧ (e_sh a - 1) % 65536 + 9223372036854775809 < 9223372036854775809 + 65536 ∧ 9223372036854775809 ≤ (e_sh a - 1) % 65536 + 9223372036854775809
    rw [if_pos h2]
    omega
noncomputable def e_ln (a : Nat) : Nat := eB (eB (Nat.ble 1 (e_sh a)) (Nat.ble (Nat.div (Nat.pred (e_sh a)) 65536) 9) false) (Nat.add (Nat.mod (Nat.pred (e_sh a)) 65536) 9223372036854775809) 0
noncomputable def e_len (a : Nat) (k : Nat → e_O) : e_O := eB (Nat.ble 1 (e_ln a)) (k (e_ln a)) none
theorem so_len {c x : Int} {μ0 : am_M} {a : Nat} {k : Nat → e_O} {k' : Int → am_O} (ha : vr c a x) (hk : ∀ v y, vr c v y → so c μ0 (k v) (k' y)) : so c μ0 (e_len a k) (q_len x k') := by
  intro w t' e
  obtain ⟨h1, h2⟩ := eB_some e
  have h1 : 1 ≤ e_ln a := Nat.le_of_ble_eq_true h1
  have key : 0 ≤ am_lenA x ∧ vr c (e_ln a) (am_lenA x) := by
    unfold e_ln at h1 ⊢
    cases q : eB (Nat.ble 1 (e_sh a)) (Nat.ble (Nat.div (Nat.pred (e_sh a)) 65536) 9) false with
    | false => rw [q] at h1; exact absurd (show 1 ≤ 0 from h1) (by decide)
    | true =>
      rw [eB_t rfl]
      obtain ⟨h3, h4⟩ := eB_and q
      have h3 := Nat.le_of_ble_eq_true h3
      have h4 : (e_sh a - 1) / 65536 ≤ 9 := Nat.le_of_ble_eq_true h4
      have h5 := e_sh_s (a := a) (by omega) ha
      have e1 : am_lenA x = (((e_sh a - 1) % 65536 : Nat) : Int) := by
        unfold am_lenA
        rw [h5]
        exact if_pos (by omega)
      rw [e1]
      refine ⟨by omega, vr_k ?_ ?_⟩
      · show (e_sh a - 1) % 65536 + 9223372036854775809 < 1180591620717411303424
        omega
      · show _ = (((e_sh a - 1) % 65536 + 9223372036854775809 : Nat) : Int) - 9223372036854775809
        omega
  unfold q_len
  rw [if_pos key.1]
  exact hk _ _ key.2 w t' h2
/-- a place within a row of so many -/
noncomputable def e_in (n i : Nat) : Bool := eB (Nat.ble 9223372036854775809 i) (eB (Nat.ble (Nat.succ i) n) (Nat.ble n 1180591620717411303423) false) false
theorem e_in_s {c y m : Int} {n i : Nat} (h : e_in n i = true) (hn : vr c n m) (hi : vr c i y) : 0 ≤ y ∧ y < m := by
  obtain ⟨h1, h2⟩ := eB_and h
  obtain ⟨h2, h3⟩ := eB_and h2
  have h1 := Nat.le_of_ble_eq_true h1
  have h2 := Nat.le_of_ble_eq_true h2
  have h3 := Nat.le_of_ble_eq_true h3
  have e1 := vr_use hn (by omega) (by omega)
  have e2 := vr_use hi (by omega) (by omega)
  omega
theorem vr_lK {c x : Int} (kd : Nat) {a : Nat} (ha : vr c a x) : vr c (e_lK kd a) (am_lenK kd x) := by
  by_cases h : e_lK kd a = 0
  · rw [h]; exact vr_0
  · obtain ⟨h1, h2, h3⟩ := e_lK_s h ha
    exact vr_k (by omega) h1
noncomputable def e_ld (n a i : Nat) (t : e_T) (k : Nat → e_O) : e_O := eB (e_in n i) (eF (e_rd t a i) k) none
theorem so_ld {c x y m : Int} {μ0 μ : am_M} {t : e_T} {n a i : Nat} {k : Nat → e_O} {k' : Int → am_O} (hn : vr c n m) (ha : vr c a x) (hi : vr c i y) (hR : e_R c μ0 t μ) (hk : ∀ v y, vr c v y → so c μ0 (k v) (k' y)) : so c μ0 (e_ld n a i t k) (q_ld m x y μ k') := by
  intro w t' e
  obtain ⟨h1, h2⟩ := eB_some e
  rw [eF_d] at h2
  unfold q_ld
  rw [if_pos (e_in_s h1 hn hi)]
  exact hk _ _ (vr_rd hR ha hi) w t' h2
noncomputable def e_st (n a i v : Nat) (t : e_T) (k : e_T → e_O) : e_O := eB (e_in n i) (e_w a i v t k) none
theorem so_st {c x y z m : Int} {μ0 μ : am_M} {t : e_T} {n a i v : Nat} {k : e_T → e_O} {k' : am_M → am_O} (hn : vr c n m) (ha : vr c a x) (hi : vr c i y) (hv : vr c v z) (hR : e_R c μ0 t μ) (hk : ∀ t μ, e_R c μ0 t μ → so c μ0 (k t) (k' μ)) : so c μ0 (e_st n a i v t k) (q_st m x y z μ k') := by
  intro w t' e
  obtain ⟨h1, h2⟩ := eB_some e
  unfold q_st
  rw [if_pos (e_in_s h1 hn hi)]
  exact so_w ha hi hv hR hk w t' h2
noncomputable def e_nz (a : Nat) (k : e_O) : e_O := eB (eN2 a a) (eB (Nat.beq a 9223372036854775809) none k) none
theorem so_nz {c x : Int} {μ0 : am_M} {a : Nat} {k : e_O} {k' : am_O} (ha : vr c a x) (hk : so c μ0 k k') : so c μ0 (e_nz a k) (q_nz x k') := by
  intro w t' e
  obtain ⟨h1, h2⟩ := eB_some e
  obtain ⟨m, n, e1, e2, hm, hn, e3, e4⟩ := eN2_s h1 ha ha
  cases q : Nat.beq a 9223372036854775809 with
  | true => rw [q] at h2; cases h2
  | false =>
    rw [q] at h2
    have := Nat.ne_of_beq_eq_false q
    unfold q_nz
    rw [if_pos ⟨by omega, by omega, by omega⟩]
    exact hk w t' h2
/-! rows read and written -/
noncomputable def E_X_at (a i : Nat) (t : e_T) : e_O := eB (eB (eK1 i) (Nat.ble 1 (e_lK 0 a)) false) (eB (e_in (e_lK 0 a) i) (some (e_rd t a i, t)) (some (9223372036854775809, t))) none
theorem e_in_n {c y m : Int} {n i : Nat} (h : e_in n i = false) (hi0 : eK1 i = true) (hn : vr c n m) (hn0 : 0 < n) (hn1 : n < 1180591620717411303424) (hi : vr c i y) : ¬ (0 ≤ y ∧ y < m) := by
  intro z
  obtain ⟨p1, p2⟩ := eK1_s hi0
  have e1 := vr_use hn hn0 hn1
  have e2 := vr_use hi p1 p2
  have : e_in n i = true := by
    unfold e_in
    rw [eB_t (Nat.ble_eq_true_of_le (by omega)), eB_t (Nat.ble_eq_true_of_le (by omega))]
    exact Nat.ble_eq_true_of_le (by omega)
  rw [h] at this; cases this
theorem lenK_A {x : Int} (h : 0 ≤ am_lenK 0 x) : am_lenA x = am_lenK 0 x := by
  unfold am_lenK at h ⊢
  unfold am_lenA
  cases e : am_shp x with
  | none => rfl
  | some k =>
    rw [e] at h
    show (if k.1 < 10 then _ else _) = if k.1 = 0 then _ else _
    have h : 0 ≤ (if k.1 = 0 then (k.2 : Int) else -1) := h
    by_cases q : k.1 = 0
    · rw [if_pos q, if_pos (by omega)]
    · rw [if_neg q] at h; omega
theorem s_X_at {c x y : Int} {μ0 μ : am_M} {t : e_T} {a i : Nat} (ha : vr c a x) (hi : vr c i y) (hR : e_R c μ0 t μ) : so c μ0 (E_X_at a i t) (X_at x y μ) := by
  intro w t' e
  obtain ⟨h1, h2⟩ := eB_some e
  obtain ⟨h1, h3⟩ := eB_and h1
  have h3 : 1 ≤ e_lK 0 a := Nat.le_of_ble_eq_true h3
  obtain ⟨p1, p2, p3⟩ := e_lK_s (kd := 0) (a := a) (by omega) ha
  rw [X_at_s (n := am_lenK 0 x) y μ (lenK_A (by omega)) rfl (by omega)]
  cases q : e_in (e_lK 0 a) i with
  | true =>
    rw [q] at h2
    rw [if_pos (e_in_s q (vr_lK 0 ha) hi)]
    exact so_ret (vr_rd hR ha hi) hR w t' h2
  | false =>
    rw [q] at h2
    rw [if_neg (e_in_n q h1 (vr_lK 0 ha) (by omega) (by omega) hi)]
    exact so_ret (vr_k (by decide) (by decide)) hR w t' h2
noncomputable def E_X_put (a i v : Nat) (t : e_T) : e_O := eB (eB (eK1 i) (Nat.ble 1 (e_lK 0 a)) false) (eB (e_in (e_lK 0 a) i) (e_w a i v t (fun t => some (9223372036854775809, t))) (some (9223372036854775809, t))) none
theorem s_X_put {c x y z : Int} {μ0 μ : am_M} {t : e_T} {a i v : Nat} (ha : vr c a x) (hi : vr c i y) (hv : vr c v z) (hR : e_R c μ0 t μ) : so c μ0 (E_X_put a i v t) (X_put x y z μ) := by
  intro w t' e
  obtain ⟨h1, h2⟩ := eB_some e
  obtain ⟨h1, h3⟩ := eB_and h1
  have h3 : 1 ≤ e_lK 0 a := Nat.le_of_ble_eq_true h3
  obtain ⟨p1, p2, p3⟩ := e_lK_s (kd := 0) (a := a) (by omega) ha
  rw [X_put_s (n := am_lenK 0 x) y z μ (lenK_A (by omega)) rfl (by omega)]
  cases q : e_in (e_lK 0 a) i with
  | true =>
    rw [q] at h2
    rw [if_pos (e_in_s q (vr_lK 0 ha) hi)]
    exact so_w (k' := fun μ => some (0, μ)) ha hi hv hR (fun t μ hR => so_ret (vr_k (by decide) (by decide)) hR) w t' h2
  | false =>
    rw [q] at h2
    rw [if_neg (e_in_n q h1 (vr_lK 0 ha) (by omega) (by omega) hi)]
    exact so_ret (vr_k (by decide) (by decide)) hR w t' h2
