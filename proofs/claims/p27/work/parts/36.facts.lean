/-! What the trees give. Printed by program (wip/p27/ev8.py). -/
noncomputable def e_v (t : e_T) (a i : Nat) : Int := (e_get t (a * 1024 + i) : Int) - 9223372036854775810
noncomputable def e_kn (t : e_T) (a i : Nat) : Bool := Nat.ble 2 (e_get t (a * 1024 + i)) && Nat.ble (e_get t (a * 1024 + i)) 1180591620717411303424
theorem e_v_s {t : e_T} {μ : am_M} (h : eKL 0 μ t) {a i : Nat} (hk : e_kn t a i = true) (hi : i < 1024) {x y : Int} (hx : x = (a : Int)) (hy : y = (i : Int)) : μ x y = e_v t a i := by
  unfold e_kn at hk
  rw [Bool.and_eq_true] at hk
  have h1 := Nat.le_of_ble_eq_true hk.1
  have h2 := Nat.le_of_ble_eq_true hk.2
  have h3 := (eKL_get h (a * 1024 + i)).resolve_left (by omega)
  have e1 : (((a * 1024 + i) / 1024 : Nat) : Int) = x := by omega
  have e2 : (((a * 1024 + i) % 1024 : Nat) : Int) = y := by omega
  rw [e1, e2] at h3
  have h4 := vr_use h3 (by omega) (by omega)
  rw [h4]
  unfold e_v
  omega
noncomputable def tfc (t : e_T) (b n : Nat) : Bool := (List.range n).all (fun l => (e_kn t (b + 9) l && (e_kn t (b + 10) l && (e_kn t (b + 2) l && (e_kn t (b + 7) l && e_kn t (b + 6) l)))) && (decide (0 ≤ e_v t (b + 9) l ∧ e_v t (b + 9) l ≤ 1000) && (decide (0 ≤ e_v t (b + 10) l ∧ e_v t (b + 10) l ≤ 1000) && (decide (e_v t (b + 2) l ≠ 8 → l + 1 < n) && (decide (e_v t (b + 2) l = 5 ∨ e_v t (b + 2) l = 6 → 0 ≤ e_v t (b + 7) l + 1 ∧ e_v t (b + 7) l + 1 < (n : Int)) && (decide (e_v t (b + 2) l ≠ 4) || ((decide (0 ≤ e_v t (b + 6) l ∧ e_v t (b + 6) l < 4) && (e_kn t (b + 17) (e_v t (b + 6) l).toNat && e_kn t (b + 15) (e_v t (b + 6) l).toNat)) && (decide (0 ≤ e_v t (b + 17) (e_v t (b + 6) l).toNat ∧ e_v t (b + 17) (e_v t (b + 6) l).toNat ≤ 4) && decide (0 ≤ e_v t (b + 15) (e_v t (b + 6) l).toNat ∧ e_v t (b + 15) (e_v t (b + 6) l).toNat + e_v t (b + 17) (e_v t (b + 6) l).toNat < (n : Int)))))))))) 
theorem tfc_s {t : e_T} {b n : Nat} {μ : am_M} (h : tfc t b n = true) (hn : n ≤ 60) (hk : eKL 0 μ t) {bi ni : Int} (hb : bi = (b : Int)) (hni : ni = (n : Int)) : TF ni bi μ := by
  subst hb
  subst hni
  intro l h0 h1
  have h2 := List.all_eq_true.mp h l.toNat (List.mem_range.mpr (by omega))
  simp only [Bool.and_eq_true, Bool.or_eq_true, decide_eq_true_eq] at h2
  obtain ⟨⟨k9, k10, k2, k7, k6⟩, c9, c10, c2, c7, c4⟩ := h2
  have hl : l = (l.toNat : Int) := by omega
  have e9 : μ ((b : Int) + 1 + 8) l = e_v t (b + 9) l.toNat := e_v_s hk k9 (by omega) (by omega) hl
  have e10 : μ ((b : Int) + 1 + 9) l = e_v t (b + 10) l.toNat := e_v_s hk k10 (by omega) (by omega) hl
  have e2 : μ ((b : Int) + 1 + 1) l = e_v t (b + 2) l.toNat := e_v_s hk k2 (by omega) (by omega) hl
  have e7 : μ ((b : Int) + 1 + 6) l = e_v t (b + 7) l.toNat := e_v_s hk k7 (by omega) (by omega) hl
  have e6 : μ ((b : Int) + 1 + 5) l = e_v t (b + 6) l.toNat := e_v_s hk k6 (by omega) (by omega) hl
  rw [e9, e10, e2, e7, e6]
  refine ⟨by omega, c9, c10, fun q => by have := c2 q; omega, c7, fun q => ?_⟩
  rcases c4 with z | z
  · exact absurd q z
  · obtain ⟨⟨⟨z1, z2⟩, k17, k15⟩, z3, z4⟩ := z
    have hv : e_v t (b + 6) l.toNat = ((e_v t (b + 6) l.toNat).toNat : Int) := by omega
    have e17 : μ ((b : Int) + 17) (e_v t (b + 6) l.toNat) = e_v t (b + 17) (e_v t (b + 6) l.toNat).toNat := e_v_s hk k17 (by omega) (by omega) hv
    have e15 : μ ((b : Int) + 15) (e_v t (b + 6) l.toNat) = e_v t (b + 15) (e_v t (b + 6) l.toNat).toNat := e_v_s hk k15 (by omega) (by omega) hv
    rw [e17, e15]
    exact ⟨⟨z1, z2⟩, z3, by omega, z4.2⟩
noncomputable def tgc (t : e_T) (b n cnt : Nat) : Bool := (List.range cnt).all (fun k => (e_kn t (b + 15) k && (e_kn t (b + 17) k && e_kn t (b + 22) k)) && (decide (0 ≤ e_v t (b + 15) k ∧ 0 ≤ e_v t (b + 17) k ∧ e_v t (b + 15) k + e_v t (b + 17) k < (n : Int)) && decide (e_v t (b + 22) k = 0 ∨ e_v t (b + 22) k = 1)))
/-- whether a bill is sound is 0 or 1 -/
def TS (cnt b : Int) (μ : am_M) : Prop := ∀ k : Int, 0 ≤ k → k < cnt → μ (b + 22) k = 0 ∨ μ (b + 22) k = 1
theorem tgc_s {t : e_T} {b n cnt : Nat} {μ : am_M} (h : tgc t b n cnt = true) (hn : n ≤ 60 ∧ 0 < cnt ∧ cnt ≤ 4) (hk : eKL 0 μ t) (hc : μ (b : Int) 13 = (cnt : Int)) {bi ni ci : Int} (hb : bi = (b : Int)) (hni : ni = (n : Int)) (hci : ci = (cnt : Int)) : TG ni ci bi μ ∧ TS ci bi μ := by
  subst hb
  subst hni
  subst hci
  have key : ∀ k : Int, 0 ≤ k → k < (cnt : Int) → ((0 ≤ μ ((b : Int) + 15) k ∧ 0 ≤ μ ((b : Int) + 17) k) ∧ μ ((b : Int) + 15) k + μ ((b : Int) + 17) k < (n : Int)) ∧ (μ ((b : Int) + 22) k = 0 ∨ μ ((b : Int) + 22) k = 1) := by
    intro k h0 h1
    have h2 := List.all_eq_true.mp h k.toNat (List.mem_range.mpr (by omega))
    simp only [Bool.and_eq_true, decide_eq_true_eq] at h2
    obtain ⟨⟨k15, k17, k22⟩, c1, c2⟩ := h2
    have hl : k = (k.toNat : Int) := by omega
    have e15 : μ ((b : Int) + 15) k = e_v t (b + 15) k.toNat := e_v_s hk k15 (by omega) (by omega) hl
    have e17 : μ ((b : Int) + 17) k = e_v t (b + 17) k.toNat := e_v_s hk k17 (by omega) (by omega) hl
    have e22 : μ ((b : Int) + 22) k = e_v t (b + 22) k.toNat := e_v_s hk k22 (by omega) (by omega) hl
    rw [e15, e17, e22]
    exact ⟨⟨⟨c1.1, c1.2.1⟩, c1.2.2⟩, c2⟩
  exact ⟨⟨by omega, hc, fun k a b => (key k a b).1⟩, fun k a b => (key k a b).2⟩
/-- all that is used of what is told -/
def TO (n cnt b : Int) (μ : am_M) : Prop := bOk b ∧ μ 0 8 = b ∧ TF n b μ ∧ TG n cnt b μ ∧ TS cnt b μ ∧ μ (b + 1) 10 = n ∧ μ 300 1 = 1 ∧ μ 310 1 = 0 ∧ ∀ m : Int, 0 ≤ m → m < 4 → μ 70 m = 320 + 10 * m
def wN (w : Nat) : Nat := match w with
  | 0 => 30
  | 1 => 14
  | _ => 1
def wC (w : Nat) : Nat := match w with
  | 0 => 3
  | 1 => 3
  | _ => 1
def bN (b : Nat) : Nat := match b with
  | 0 => 100
  | _ => 200
def wR (w : Nat) : Nat := match w with
  | 0 => 1
  | 1 => 4
  | _ => 2
def tS (w b : Nat) : e_T := match w with
  | 0 => (match b with
    | 0 => KS_0_100
    | _ => KS_0_200)
  | 1 => (match b with
    | 0 => KS_1_100
    | _ => KS_1_200)
  | _ => (match b with
    | 0 => KS_2_100
    | _ => KS_2_200)
def tFn (w f : Nat) : e_T := match w with
  | 0 => (match f with
    | 0 => KF_0_m1
    | _ => KF_0_2)
  | 1 => (match f with
    | 0 => KF_1_m1
    | _ => KF_1_2)
  | _ => (match f with
    | 0 => KF_2_m1
    | _ => KF_2_0)
def tRn (w r : Nat) : e_T := match w with
  | 0 => KR_0_m1
  | 1 => (match r with
    | 0 => KR_1_m1
    | 1 => KR_1_0
    | 2 => KR_1_1
    | _ => KR_1_2)
  | _ => (match r with
    | 0 => KR_2_m1
    | _ => KR_2_0)
def tX (b : Nat) : e_T := match b with
  | 0 => KX_100
  | _ => KX_200
noncomputable def toc (t : e_T) (b n cnt : Nat) : Bool := (tfc t b n && tgc t b n cnt) && ((e_kn t 0 8 && (decide (e_v t 0 8 = (b : Int)) && (e_kn t b 13 && (decide (e_v t b 13 = (cnt : Int)) && (e_kn t (b + 1) 10 && decide (e_v t (b + 1) 10 = (n : Int))))))) && ((e_kn t 300 1 && (decide (e_v t 300 1 = 1) && (e_kn t 310 1 && decide (e_v t 310 1 = 0)))) && (List.range 4).all (fun m => e_kn t 70 m && decide (e_v t 70 m = 320 + 10 * (m : Int)))))
theorem toc_s {t : e_T} {b n cnt : Nat} {μ : am_M} (h : toc t b n cnt = true) (hb : b = 100 ∨ b = 200) (hn : n ≤ 60 ∧ 0 < cnt ∧ cnt ≤ 4) (hk : eKL 0 μ t) : TO n cnt b μ := by
  unfold toc at h
  simp only [Bool.and_eq_true, decide_eq_true_eq] at h
  obtain ⟨⟨h1, h2⟩, ⟨k1, c1, k2, c2, k3, c3⟩, ⟨k4, c4, k5, c5⟩, h6⟩ := h
  have e1 : μ 0 8 = (b : Int) := (e_v_s hk k1 (by omega) rfl rfl).trans c1
  have e2 : μ (b : Int) 13 = (cnt : Int) := (e_v_s hk k2 (by omega) rfl rfl).trans c2
  have e3 : μ ((b : Int) + 1) 10 = (n : Int) := (e_v_s hk k3 (by omega) (by omega) rfl).trans c3
  have e4 : μ 300 1 = 1 := (e_v_s hk k4 (by omega) rfl rfl).trans c4
  have e5 : μ 310 1 = 0 := (e_v_s hk k5 (by omega) rfl rfl).trans c5
  obtain ⟨g1, g2⟩ := tgc_s h2 hn hk e2 rfl rfl rfl
  refine ⟨by unfold bOk; omega, e1, tfc_s h1 hn.1 hk rfl rfl, g1, g2, e3, e4, e5, fun m m0 m1 => ?_⟩
  have h7 := List.all_eq_true.mp h6 m.toNat (List.mem_range.mpr (by omega))
  simp only [Bool.and_eq_true, decide_eq_true_eq] at h7
  have hm : m = (m.toNat : Int) := by omega
  have e7 : μ 70 m = e_v t 70 m.toNat := e_v_s hk h7.1 (by omega) rfl hm
  rw [e7, h7.2]
  omega
set_option maxRecDepth 100000 in
theorem toc_0_0 : toc KS_0_100 100 30 3 = true := by decide +kernel
set_option maxRecDepth 100000 in
theorem toc_0_1 : toc KS_0_200 200 30 3 = true := by decide +kernel
set_option maxRecDepth 100000 in
theorem toc_1_0 : toc KS_1_100 100 14 3 = true := by decide +kernel
set_option maxRecDepth 100000 in
theorem toc_1_1 : toc KS_1_200 200 14 3 = true := by decide +kernel
set_option maxRecDepth 100000 in
theorem toc_2_0 : toc KS_2_100 100 1 1 = true := by decide +kernel
set_option maxRecDepth 100000 in
theorem toc_2_1 : toc KS_2_200 200 1 1 = true := by decide +kernel
theorem to_s {w b : Nat} (hw : w < 3) (hb : b < 2) {μ : am_M} (h : eKL 0 μ (tS w b)) : TO (wN w) (wC w) (bN b) μ := by
  match w, b, hw, hb, h with
  | 0, 0, _, _, h => exact toc_s toc_0_0 (Or.inl rfl) ⟨by decide, by decide, by decide⟩ h
  | 0, 1, _, _, h => exact toc_s toc_0_1 (Or.inr rfl) ⟨by decide, by decide, by decide⟩ h
  | 1, 0, _, _, h => exact toc_s toc_1_0 (Or.inl rfl) ⟨by decide, by decide, by decide⟩ h
  | 1, 1, _, _, h => exact toc_s toc_1_1 (Or.inr rfl) ⟨by decide, by decide, by decide⟩ h
  | 2, 0, _, _, h => exact toc_s toc_2_0 (Or.inl rfl) ⟨by decide, by decide, by decide⟩ h
  | 2, 1, _, _, h => exact toc_s toc_2_1 (Or.inr rfl) ⟨by decide, by decide, by decide⟩ h
  | w + 3, _, hw, _, _ => omega
  | _, b + 2, _, hb, _ => omega
/-- the state between the acts: told, what is remembered, the machine's bounds -/
def INV (A : Int) (μ : am_M) : Prop := ∃ w b f r : Nat, w < 3 ∧ b < 2 ∧ f < 2 ∧ r < wR w ∧ eKL 0 μ (tS w b) ∧ eKL 0 μ (tFn w f) ∧ eKL 0 μ (tRn w r) ∧ MB (wN w) A μ ∧ (0 ≤ μ 0 10 ∧ μ 0 10 < 16) ∧ J4 μ
theorem FRM.MB {n A : Int} {μ μ' : am_M} (h : FRM μ μ') (hM : MB n A μ) : MB n A μ' := hM.f (fun a i h1 h2 => h.1 a i (by omega) (by omega))
theorem FRM.t {μ μ' μ'' : am_M} (h1 : FRM μ μ') (h2 : FRM μ' μ'') : FRM μ μ'' := ⟨fun a i p q => (h2.1 a i p q).trans (h1.1 a i p q), h2.2.1.trans h1.2.1, fun h => h2.2.2 (h1.2.2 h)⟩
