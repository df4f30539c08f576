/-! The reference reckons an E: what ifx says. -/
def KS : List fR → List (Int × Bool) → Prop
  | [], [] => True
  | f :: F, (k, _) :: ks => (f.2.2.2.2.2.2.2.2 = 1 ↔ k = 1) ∧ (F = [] ↔ k = 0) ∧ KS F ks
  | _, _ => False
theorem KS_c {f : fR} {F : List fR} {k : Int} {x : Bool} {ks : List (Int × Bool)} (a : f.2.2.2.2.2.2.2.2 = 1 ↔ k = 1) (b : F = [] ↔ k = 0) (c : KS F ks) : KS (f :: F) ((k, x) :: ks) := ⟨a, b, c⟩
theorem KS_len : ∀ (F : List fR) (ks : List (Int × Bool)), KS F ks → F.length = ks.length
  | [], [], _ => rfl
  | f :: F, (k, x) :: ks, h => by
    rw [List.length_cons, List.length_cons, KS_len F ks h.2.2]
  | [], _ :: _, h => h.elim
  | _ :: _, [], h => h.elim
theorem KS_val {v : Int} : ∀ (F : List fR) (v : Int) (ks : List (Int × Bool)), KS F ks → KS (fVal v F) (vPop ks)
  | [], _, [], _ => trivial
  | f :: F, v, (k, x) :: ks, h => by
    obtain ⟨h1, h2, h3⟩ := h
    have e1 : fVal v (f :: F) = if F ≠ [] ∧ f.2.2.2.2.2.2.2.2 = 1 then fVal (if v = 0 then 1 else 0) F else fTerm v f :: F := rfl
    have e2 : vPop ((k, x) :: ks) = if k = 1 then vPop ks else (k, x) :: ks := rfl
    rw [e1, e2]
    by_cases c : k = 1
    · rw [if_pos c, if_pos ⟨fun z => by have := h2.mp z; omega, h1.mpr c⟩]
      exact KS_val (v := v) F _ ks h3
    · rw [if_neg c, if_neg (fun z => c (h1.mp z.2))]
      refine ⟨?_, h2, h3⟩
      obtain ⟨k', kb, a, ag, s0, sb, t, tb, nn⟩ := f
      exact h1
  | [], _, _ :: _, h => h.elim
  | _ :: _, _, [], h => h.elim
def WFR (ν ν' : am_M) : Prop := ∀ c i, ¬ (1024 ≤ c ∧ c ≤ 1032) → ν' c i = ν c i
theorem wk_open {k14 : Int → Int → Int → am_M → am_O} {l p c nn : Int} {f : fR} {r : List fR} {ν : am_M} (hc : (c = 28 ∧ nn = 0) ∨ (c = 30 ∧ nn = 1)) (h : LVS ν (f :: r) true) (h6 : r.length ≤ 5) : ∃ ν', M_worked_B46 k14 l (r.length : Nat) p c ν = k14 l ((r.length : Nat) + 1) (w32 (p + 1)) ν' ∧ LVS ν' (fNew nn :: f :: r) true ∧ WFR ν ν' := by
  have e1 : ((f :: r).length : Nat) = r.length + 1 := List.length_cons
  obtain ⟨ν', a1, a2, a3⟩ := opens_s (n := (r.length : Nat) + 1) (k := nn) (ν := m_st ν 1032 ((r.length : Nat) + 1) nn) (by omega)
  refine ⟨ν', ?_, ⟨?_, fun _ => ?_, LVS_c (f :: r) true (fun c i p q y => ?_) h⟩, fun c i z => ?_⟩
  · unfold M_worked_B46 M_worked_B66 M_worked_B329
    rw [w32_i (x := ((r.length : Nat) : Int) + 1) (by omega) (by omega)]
    rcases hc with ⟨z, y⟩ | ⟨z, y⟩
    · subst z; subst y
      rw [if_neg (by decide), q_st_s (by omega) (by omega), a1, q_bd_s]
    · subst z; subst y
      rw [if_pos rfl, q_st_s (by omega) (by omega), a1, q_bd_s]
  · rw [e1]; exact a2
  · rw [e1, a3 _ _ (by omega)]
    show m_st ν 1032 _ _ 1032 _ = _
    rw [m_st_d, if_pos (by omega)]
    rfl
  · rw [e1] at y
    rw [a3 c i (by omega), m_st_d, if_neg (by omega)]
  · rw [a3 c i (by omega), m_st_d, if_neg (by omega)]
theorem LVS_top {ν ν' : am_M} {f f' : fR} {r : List fR} {w w' : Bool} (h : LVS ν (f :: r) w) (h1 : LV (r.length : Nat) f' w' ν') (h2 : f'.2.2.2.2.2.2.2.2 = f.2.2.2.2.2.2.2.2) (g : ∀ c i, ¬ (1024 ≤ c ∧ c ≤ 1031 ∧ i = (r.length : Nat)) → ν' c i = ν c i) : LVS ν' (f' :: r) w' :=
  ⟨h1, fun z => by rw [g _ _ (by omega), h2]; exact h.2.1 z, LVS_c r true (fun c i p q y => g c i (by omega)) h.2.2⟩
theorem wk_sum {k14 : Int → Int → Int → am_M → am_O} {env Wn : Int → Int} {l p c : Int} {f : fR} {r : List fR} {ν : am_M} (hc : c = 20 ∨ c = 21) (h : LVS ν (f :: r) false) : ∃ f' ν', M_worked_B89 k14 l (r.length : Nat) p c ν = k14 l (r.length : Nat) (w32 (p + 1)) ν' ∧ fStep env Wn (f :: r) c = f' :: r ∧ f'.2.2.2.2.2.2.2.2 = f.2.2.2.2.2.2.2.2 ∧ LVS ν' (f' :: r) true ∧ WFR ν ν' := by
  obtain ⟨ν1, a1, a2, a3⟩ := sums_s h.1
  obtain ⟨k, kb, a, ag, s0, sb, t, tb, nn⟩ := f
  have hn := a2.n0
  generalize hs : (if sb = 21 then w32 (s0 - t) else w32 (s0 + t)) = s at *
  have e0 : fSums (k, kb, a, ag, s0, sb, t, tb, nn) = (k, kb, a, ag, s, sb, t, 0, nn) := by rw [← hs]; rfl
  rw [e0] at a2
  have g : ∀ x, x ≠ 1029 → m_st ν1 1029 (r.length : Nat) c x (r.length : Nat) = ν1 x (r.length : Nat) := fun x z => m_st_c z
  refine ⟨(k, kb, a, ag, s, c, t, 0, nn), m_st ν1 1029 (r.length : Nat) c, ?_, ?_, rfl, LVS_top h ?_ rfl (fun x i z => by rw [m_st_d, if_neg (by omega), a3 x i (by omega)]), fun x i z => by rw [m_st_d, if_neg (by omega), a3 x i (by omega)]⟩
  · unfold M_worked_B89 M_worked_B329
    rw [a1, q_bd_s, q_st_s hn.1 hn.2]
  · show (if c = 28 then _ else if c = 30 then _ else if c = 20 ∨ c = 21 then _ else _) = _
    rw [if_neg (by omega), if_neg (by omega), if_pos hc, e0]
  · exact (LV.mk (n0 := hn) (kb := by rw [g _ (by decide)]; exact a2.kb) (kp := by rw [g _ (by decide)]; exact a2.kp) (ag := by rw [g _ (by decide)]; exact a2.ag) (ah := by rw [g _ (by decide)]; exact a2.ah) (su := by rw [g _ (by decide)]; exact a2.su) (sb := by rw [m_st_d, if_pos ⟨rfl, rfl⟩]) (tb := by rw [g _ (by decide)]; exact a2.tb) (te := Or.inl ⟨rfl, rfl⟩))
theorem wk_mul {env Wn : Int → Int} {f : fR} {r : List fR} {ν : am_M} (h : LVS ν (f :: r) false) : ∃ f', fStep env Wn (f :: r) 22 = f' :: r ∧ f'.2.2.2.2.2.2.2.2 = f.2.2.2.2.2.2.2.2 ∧ LVS (m_st ν 1031 (r.length : Nat) 22) (f' :: r) true ∧ WFR ν (m_st ν 1031 (r.length : Nat) 22) := by
  have a2 := h.1
  obtain ⟨k, kb, a, ag, s, sb, t, tb, nn⟩ := f
  have hn := a2.n0
  have g : ∀ x, x ≠ 1031 → m_st ν 1031 (r.length : Nat) 22 x (r.length : Nat) = ν x (r.length : Nat) := fun x z => m_st_c z
  refine ⟨(k, kb, a, ag, s, sb, t, 22, nn), rfl, rfl, LVS_top h ?_ rfl (fun x i z => by rw [m_st_d, if_neg (by omega)]), fun x i z => by rw [m_st_d, if_neg (by omega)]⟩
  have te : ν 1030 (r.length : Nat) = t := by rcases a2.te with z | z; exact absurd z.1 (by decide); exact z
  exact (LV.mk (n0 := hn) (kb := by rw [g _ (by decide)]; exact a2.kb) (kp := by rw [g _ (by decide)]; exact a2.kp) (ag := by rw [g _ (by decide)]; exact a2.ag) (ah := by rw [g _ (by decide)]; exact a2.ah) (su := by rw [g _ (by decide)]; exact a2.su) (sb := by rw [g _ (by decide)]; exact a2.sb) (tb := by rw [m_st_d, if_pos ⟨rfl, rfl⟩]) (te := Or.inr (by rw [g _ (by decide)]; exact te)))
theorem wk_cmp {k14 : Int → Int → Int → am_M → am_O} {env Wn : Int → Int} {l p c : Int} {f : fR} {r : List fR} {ν : am_M} (hc : c = 24 ∨ c = 25) (h : LVS ν (f :: r) false) : ∃ f' ν', M_worked_B137 k14 l (r.length : Nat) p c ν = k14 l (r.length : Nat) (w32 (p + 1)) ν' ∧ fStep env Wn (f :: r) c = f' :: r ∧ f'.2.2.2.2.2.2.2.2 = f.2.2.2.2.2.2.2.2 ∧ LVS ν' (f' :: r) true ∧ WFR ν ν' := by
  obtain ⟨ν1, a1, a2, a3⟩ := sums_s h.1
  obtain ⟨k, kb, a, ag, s0, sb, t, tb, nn⟩ := f
  have hn := a2.n0
  generalize hs : (if sb = 21 then w32 (s0 - t) else w32 (s0 + t)) = s at *
  have e0 : fSums (k, kb, a, ag, s0, sb, t, tb, nn) = (k, kb, a, ag, s, sb, t, 0, nn) := by rw [← hs]; rfl
  rw [e0] at a2
  have hsu : ν1 1028 (r.length : Nat) = s := a2.su
  generalize hν' : m_st (m_st (m_st (m_st ν1 1026 (r.length : Nat) s) 1027 (r.length : Nat) c) 1028 (r.length : Nat) 0) 1029 (r.length : Nat) 20 = ν'
  have F : ∀ (x i : Int), ¬ (1026 ≤ x ∧ x ≤ 1029 ∧ i = (r.length : Nat)) → ν' x i = ν1 x i := fun x i z => by rw [← hν', m_st_d, if_neg (by omega), m_st_d, if_neg (by omega), m_st_d, if_neg (by omega), m_st_d, if_neg (by omega)]
  have g : ∀ x, ¬ (1026 ≤ x ∧ x ≤ 1029) → ν' x (r.length : Nat) = ν1 x (r.length : Nat) := fun x z => F x _ (by omega)
  refine ⟨(k, kb, s, c, 0, 20, t, 0, nn), ν', ?_, ?_, rfl, LVS_top h ?_ rfl (fun x i z => by rw [F x i (by omega), a3 x i (by omega)]), fun x i z => by rw [F x i (by omega), a3 x i (by omega)]⟩
  · unfold M_worked_B137 M_worked_B329
    rw [a1, q_bd_s, q_ld_s hn.1 hn.2, hsu, q_st_s hn.1 hn.2, q_st_s hn.1 hn.2, q_st_s hn.1 hn.2, q_st_s hn.1 hn.2, hν']
  · show (if c = 28 then _ else if c = 30 then _ else if c = 20 ∨ c = 21 then _ else if c = 22 then _ else if c = 24 ∨ c = 25 then _ else _) = _
    rw [if_neg (by omega), if_neg (by omega), if_neg (by omega), if_neg (by omega), if_pos hc, e0]
  · exact (LV.mk (n0 := hn) (kb := by rw [g _ (by decide)]; exact a2.kb) (kp := by rw [g _ (by decide)]; exact a2.kp) (ag := by rw [← hν']; simp [m_st_d]) (ah := Or.inr (by rw [← hν']; simp [m_st_d])) (su := by rw [← hν']; simp [m_st_d]) (sb := by rw [← hν']; simp [m_st_d]) (tb := by rw [g _ (by decide)]; exact a2.tb) (te := Or.inl ⟨rfl, rfl⟩))
theorem wk_and {k14 : Int → Int → Int → am_M → am_O} {env Wn : Int → Int} {l p c : Int} {f : fR} {r : List fR} {ν : am_M} (hc : c = 26 ∨ c = 27) (h : LVS ν (f :: r) false) : ∃ f' ν', M_worked_B194 k14 l (r.length : Nat) p c ν = k14 l (r.length : Nat) (w32 (p + 1)) ν' ∧ fStep env Wn (f :: r) c = f' :: r ∧ f'.2.2.2.2.2.2.2.2 = f.2.2.2.2.2.2.2.2 ∧ LVS ν' (f' :: r) true ∧ WFR ν ν' := by
  obtain ⟨ν1, a1, a2, a4, a3⟩ := tests_s h.1
  have e9 : (fTests f).2.2.2.2.2.2.2.2 = f.2.2.2.2.2.2.2.2 := rfl
  have ef : fStep env Wn (f :: r) c = (match fTests f with | (k, _, a, ag, s, sb, t, tb, n) => (k, c, a, ag, s, sb, t, tb, n)) :: r := by
    show (if c = 28 then _ else if c = 30 then _ else if c = 20 ∨ c = 21 then _ else if c = 22 then _ else if c = 24 ∨ c = 25 then _ else if c = 26 ∨ c = 27 then _ else _) = _
    rw [if_neg (by omega), if_neg (by omega), if_neg (by omega), if_neg (by omega), if_neg (by omega), if_pos hc]
  generalize fTests f = f1 at *
  obtain ⟨k, kb, a, ag, s, sb, t, tb, nn⟩ := f1
  have hn := a2.n0
  have te : ν1 1030 (r.length : Nat) = t := by rcases a2.te with z | z; exact absurd z.1 (by decide); exact z
  have g : ∀ x, x ≠ 1025 → m_st ν1 1025 (r.length : Nat) c x (r.length : Nat) = ν1 x (r.length : Nat) := fun x z => m_st_c z
  refine ⟨(k, c, a, ag, s, sb, t, tb, nn), m_st ν1 1025 (r.length : Nat) c, ?_, ef, e9, LVS_top h ?_ e9 (fun x i z => by rw [m_st_d, if_neg (by omega), a3 x i (by omega)]), fun x i z => by rw [m_st_d, if_neg (by omega), a3 x i (by omega)]⟩
  · unfold M_worked_B194 M_worked_B329
    rw [a1, q_bd_s, q_st_s hn.1 hn.2]
  · exact (LV.mk (n0 := hn) (kb := by rw [m_st_d, if_pos ⟨rfl, rfl⟩]) (kp := Or.inr (by rw [g _ (by decide)]; exact a4)) (ag := by rw [g _ (by decide)]; exact a2.ag) (ah := by rw [g _ (by decide)]; exact a2.ah) (su := by rw [g _ (by decide)]; exact a2.su) (sb := by rw [g _ (by decide)]; exact a2.sb) (tb := by rw [g _ (by decide)]; exact a2.tb) (te := Or.inr (by rw [g _ (by decide)]; exact te)))
theorem dpR_ok : ∀ (L : List Int) (q : Option vS), dpR L q → okD q
  | [], _, h => h
  | _ :: _, _, h => h.1
/-- one code -/
theorem wk_step {k14 : Int → Int → Int → am_M → am_O} {env Wn : Int → Int} {S W l p c : Int} {F : List fR} {ks ks' : List (Int × Bool)} {wb wb' : Bool} {ν : am_M} (hS : S ≤ 10) (hW : W ≤ 4) (hl : 0 ≤ l ∧ l < 60) (hp : 0 ≤ p ∧ p < ν 1011 l ∧ ν 1011 l ≤ 1000) (hc : ν 1012 p = c) (hv : vC S W c) (v1 : 1 ≤ c → c ≤ 10 → ν 1033 c = env (c - 1)) (v2 : ∀ w, 0 ≤ w → w < W → ν 1033 (11 + w) = Wn w) (hs : vStep (wb, ks) c = some (wb', ks')) (h6 : ks'.length ≤ 6) (h : LVS ν F wb) (hk : KS F ks) (hF : F ≠ []) (hF6 : F.length ≤ 6) : ∃ ν', M_worked_L14_b k14 l ((F.length : Nat) - 1) p ν = k14 l (((fStep env Wn F c).length : Nat) - 1) (w32 (p + 1)) ν' ∧ LVS ν' (fStep env Wn F c) wb' ∧ KS (fStep env Wn F c) ks' ∧ fStep env Wn F c ≠ [] ∧ WFR ν ν' := by
  have hFU := am_FU_ge
  unfold vC at hv
  match F, hF with
  | f :: r, _ =>
  match ks, hk with
  | (k, x) :: ks1, hk =>
  rw [List.length_cons] at hF6
  have el : (((f :: r).length : Nat) : Int) - 1 = (r.length : Nat) := by rw [List.length_cons]; omega
  have er : ∀ g : fR, (((g :: r).length : Nat) : Int) - 1 = (r.length : Nat) := fun g => by rw [List.length_cons]; omega
  rw [el]
  unfold M_worked_L14_b
  rw [q_ld_s (by omega) (by omega), if_pos hp.2.1, q_ld_s hp.1 (by omega), hc]
  have fin : ∀ (X : am_O) (f' : fR) (ν' : am_M) (x' : Bool), X = k14 l (r.length : Nat) (w32 (p + 1)) ν' → fStep env Wn (f :: r) c = f' :: r → f'.2.2.2.2.2.2.2.2 = f.2.2.2.2.2.2.2.2 → LVS ν' (f' :: r) wb' → ks' = (k, x') :: ks1 → WFR ν ν' → ∃ ν', X = k14 l (((fStep env Wn (f :: r) c).length : Nat) - 1) (w32 (p + 1)) ν' ∧ LVS ν' (fStep env Wn (f :: r) c) wb' ∧ KS (fStep env Wn (f :: r) c) ks' ∧ fStep env Wn (f :: r) c ≠ [] ∧ WFR ν ν' := by
    intro X f' ν' x' y1 y2 y3 y4 y5 y6
    rw [y2, er f']
    exact ⟨ν', y1, y4, by rw [y5]; exact ⟨by rw [y3]; exact hk.1, hk.2⟩, by simp, y6⟩
  cases wb with
  | true =>
    have hs : (if c = 28 then some (true, (2, false) :: (k, x) :: ks1) else if c = 30 then some (true, (1, false) :: (k, x) :: ks1) else if isPart c = true then some (false, vPop ((k, x) :: ks1)) else none) = some (wb', ks') := hs
    by_cases c28 : c = 28
    · rw [if_pos c28] at hs
      cases hs
      rw [List.length_cons, List.length_cons] at h6
      have := KS_len _ _ hk
      rw [List.length_cons, List.length_cons] at this
      obtain ⟨ν', a1, a2, a3⟩ := wk_open (k14 := k14) (l := l) (p := p) (nn := 0) (Or.inl ⟨c28, rfl⟩) h (by omega)
      have ef : fStep env Wn (f :: r) c = fNew 0 :: f :: r := by rw [c28]; rfl
      rw [if_pos c28, ef]
      refine ⟨ν', ?_, a2, KS_c ⟨fun z => absurd z (by decide), fun z => absurd z (by decide)⟩ ⟨fun z => (by cases z), fun z => absurd z (by decide)⟩ hk, by simp, a3⟩
      rw [a1, List.length_cons, List.length_cons]
      congr 1
      omega
    rw [if_neg c28] at hs ⊢
    by_cases c30 : c = 30
    · rw [if_pos c30] at hs
      cases hs
      rw [List.length_cons, List.length_cons] at h6
      have := KS_len _ _ hk
      rw [List.length_cons, List.length_cons] at this
      obtain ⟨ν', a1, a2, a3⟩ := wk_open (k14 := k14) (l := l) (p := p) (nn := 1) (Or.inr ⟨c30, rfl⟩) h (by omega)
      have ef : fStep env Wn (f :: r) c = fNew 1 :: f :: r := by rw [c30]; rfl
      rw [if_pos c30, ef]
      refine ⟨ν', ?_, a2, KS_c ⟨fun _ => rfl, fun _ => rfl⟩ ⟨fun z => (by cases z), fun z => absurd z (by decide)⟩ hk, by simp, a3⟩
      rw [a1, List.length_cons, List.length_cons]
      congr 1
      omega
    rw [if_neg c30] at hs ⊢
    by_cases cp : isPart c = true
    · rw [if_pos cp] at hs
      cases hs
      have cp2 : (1 ≤ c ∧ c ≤ 14) ∨ 100 ≤ c := of_decide_eq_true cp
      have ef : fStep env Wn (f :: r) c = fVal (opd env Wn c) (f :: r) := by
        show (if c = 28 then _ else if c = 30 then _ else if c = 20 ∨ c = 21 then _ else if c = 22 then _ else if c = 24 ∨ c = 25 then _ else if c = 26 ∨ c = 27 then _ else if c = 29 then _ else _) = _
        rw [if_neg (by omega), if_neg (by omega), if_neg (by omega), if_neg (by omega), if_neg (by omega), if_neg (by omega), if_neg (by omega)]
      obtain ⟨ν', a1, a2, a3, a4, a5⟩ := val_s (k14 := k14) (v1 := l) (v3 := p) (f :: r) am_FU (opd env Wn c) ν (by simp) (by rw [List.length_cons]; omega) h
      rw [el] at a1
      rw [if_neg (show ¬ c = 20 by omega), if_neg (show ¬ c = 21 by omega), if_neg (show ¬ c = 22 by omega), if_neg (show ¬ c = 24 by omega), if_neg (show ¬ c = 25 by omega), if_neg (show ¬ c = 26 by omega), if_neg (show ¬ c = 27 by omega), ef]
      refine ⟨ν', ?_, a2, KS_val (v := 0) _ _ _ hk, a3, fun x i z => a5 x i (by omega)⟩
      rw [← a1]
      unfold M_worked_B243
      by_cases d1 : c < 100
      · have e1 : ν 1033 c = opd env Wn c := by
          unfold opd
          by_cases d2 : c ≤ 10
          · rw [if_pos d2, v1 (by omega) d2]
          · rw [if_neg d2, if_pos (by omega)]
            have := v2 (c - 11) (by omega) (by omega)
            have e : 11 + (c - 11) = c := by omega
            rw [e] at this
            exact this
        rw [if_pos d1, if_pos (by omega), q_ld_s (by omega) (by omega), if_neg (by omega), e1]
      · have e1 : c - 100 = opd env Wn c := by
          unfold opd
          rw [if_neg (by omega), if_neg (by omega)]
        rw [if_neg d1, if_neg (by omega), w32_i (x := c - 100) (by omega) (by omega), e1]
    · rw [if_neg cp] at hs
      cases hs
  | false =>
    have hs : (if c = 20 ∨ c = 21 ∨ c = 22 then some (true, (k, x) :: ks1) else if c = 24 ∨ c = 25 then (if x = true then none else some (true, (k, true) :: ks1)) else if c = 26 ∨ c = 27 then some (true, (k, false) :: ks1) else if c = 29 then (if k = 2 then some (false, vPop ks1) else none) else none) = some (wb', ks') := hs
    by_cases g1 : c = 20 ∨ c = 21 ∨ c = 22
    · rw [if_pos g1] at hs
      cases hs
      rw [if_neg (show ¬ c = 28 by omega), if_neg (show ¬ c = 30 by omega)]
      by_cases d1 : c = 22
      · obtain ⟨f', a1, a2, a3, a4⟩ := wk_mul (env := env) (Wn := Wn) h
        have hn := h.1.n0
        rw [if_neg (show ¬ c = 20 by omega), if_neg (show ¬ c = 21 by omega), if_pos d1]
        refine fin _ f' _ x ?_ (by rw [d1]; exact a1) a2 a3 rfl a4
        rw [d1, q_st_s hn.1 hn.2]
        rfl
      · obtain ⟨f', ν', a1, a2, a3, a4, a5⟩ := wk_sum (k14 := k14) (env := env) (Wn := Wn) (l := l) (p := p) (c := c) (by omega) h
        by_cases d2 : c = 20
        · rw [if_pos d2]; exact fin _ f' ν' x a1 a2 a3 a4 rfl a5
        · rw [if_neg d2, if_pos (show c = 21 by omega)]; exact fin _ f' ν' x a1 a2 a3 a4 rfl a5
    rw [if_neg g1] at hs
    rw [if_neg (show ¬ c = 20 by omega), if_neg (show ¬ c = 21 by omega), if_neg (show ¬ c = 22 by omega)]
    by_cases g2 : c = 24 ∨ c = 25
    · rw [if_pos g2] at hs
      rw [if_neg (show ¬ c = 28 by omega), if_neg (show ¬ c = 30 by omega)]
      by_cases y : x = true
      · rw [if_pos y] at hs; cases hs
      rw [if_neg y] at hs
      cases hs
      obtain ⟨f', ν', a1, a2, a3, a4, a5⟩ := wk_cmp (k14 := k14) (env := env) (Wn := Wn) (l := l) (p := p) (c := c) g2 h
      by_cases d2 : c = 24
      · rw [if_pos d2]; exact fin _ f' ν' true a1 a2 a3 a4 rfl a5
      · rw [if_neg d2, if_pos (show c = 25 by omega)]; exact fin _ f' ν' true a1 a2 a3 a4 rfl a5
    rw [if_neg g2] at hs
    rw [if_neg (show ¬ c = 24 by omega), if_neg (show ¬ c = 25 by omega)]
    by_cases g3 : c = 26 ∨ c = 27
    · rw [if_pos g3] at hs
      rw [if_neg (show ¬ c = 28 by omega), if_neg (show ¬ c = 30 by omega)]
      cases hs
      obtain ⟨f', ν', a1, a2, a3, a4, a5⟩ := wk_and (k14 := k14) (env := env) (Wn := Wn) (l := l) (p := p) (c := c) g3 h
      by_cases d2 : c = 26
      · rw [if_pos d2]; exact fin _ f' ν' false a1 a2 a3 a4 rfl a5
      · rw [if_neg d2, if_pos (show c = 27 by omega)]; exact fin _ f' ν' false a1 a2 a3 a4 rfl a5
    rw [if_neg g3] at hs
    rw [if_neg (show ¬ c = 26 by omega), if_neg (show ¬ c = 27 by omega)]
    by_cases g4 : c = 29
    · rw [if_pos g4] at hs
      by_cases y : k = 2
      · rw [if_pos y] at hs
        cases hs
        have hr : r ≠ [] := fun z => by have := hk.2.1.mp z; omega
        have hr0 : 0 < r.length := List.length_pos_iff.mpr hr
        obtain ⟨ν1, b1, b2, b4, b3⟩ := tests_s h.1
        have hn := b2.n0
        have h3 : LVS ν1 r true := LVS_c r true (fun c i p q y => b3 c i (by omega)) h.2.2
        obtain ⟨ν', a1, a2, a3, a4, a5⟩ := val_s (k14 := k14) (v1 := l) (v3 := p) r am_FU (fTests f).1 ν1 hr (by omega) h3
        have ef : fStep env Wn (f :: r) c = fVal (fTests f).1 r := by rw [g4]; rfl
        have e1 : ((r.length : Nat) : Int) + -1 = (r.length : Nat) - 1 := by omega
        rw [if_neg (show ¬ c = 28 by omega), if_neg (show ¬ c = 30 by omega), if_pos (show c < 100 by omega), if_neg (show ¬ c < 20 by omega), ef]
        refine ⟨ν', ?_, a2, KS_val (v := 0) _ _ _ hk.2.2, a3, fun x i z => by rw [a5 x i (by omega), b3 x i (by omega)]⟩
        rw [← a1]
        unfold M_worked_B243
        rw [if_pos g4, b1, q_bd_s, q_ld_s hn.1 hn.2, b4, w32_i (x := ((r.length : Nat) : Int) + -1) (by omega) (by omega), e1]
      · rw [if_neg y] at hs; cases hs
    · rw [if_neg g4] at hs; cases hs
theorem worked_L {env Wn : Int → Int} {S W l : Int} {bb : Bool} (hS : S ≤ 10) (hW : W ≤ 4) (hl : 0 ≤ l ∧ l < 60) : ∀ (L : List Int) (fu : Nat) (F : List fR) (ks : List (Int × Bool)) (wb : Bool) (p : Int) (ν : am_M), fsg (ν 1012) p L → ν 1011 l = p + L.length → 0 ≤ p → ν 1011 l ≤ 1000 → L.length < fu → (∀ c ∈ L, vC S W c) → (∀ c ∈ L, 1 ≤ c → c ≤ 10 → ν 1033 c = env (c - 1)) → (∀ w, 0 ≤ w → w < W → ν 1033 (11 + w) = Wn w) → KS F ks → LVS ν F wb → F ≠ [] → dpR L (some (wb, ks)) → vRun L (some (wb, ks)) = some (false, [(0, bb)]) → ∃ v ν', M_worked_L14 fu l ((F.length : Nat) - 1) p ν = some (v, ν') ∧ (match L.foldl (fStep env Wn) F with
    | f :: _ => (fTests f).1
    | [] => 0) = v ∧ WFR ν ν'
  | _, 0, _, _, _, _, _, _, _, _, _, h, _, _, _, _, _, _, _, _ => by omega
  | [], fu + 1, F, ks, wb, p, ν, _, h1, h0, h3, _, _, _, _, hk, hL, hF, _, hr => by
    have hr : some (wb, ks) = some (false, [((0 : Int), bb)]) := hr
    cases hr
    match F, hF with
    | f :: r, _ =>
    have hr : r = [] := hk.2.1.mpr rfl
    subst hr
    obtain ⟨ν1, b1, b2, b4, b3⟩ := tests_s hL.1
    refine ⟨(fTests f).1, ν1, ?_, rfl, fun c i z => b3 c i (by omega)⟩
    show M_worked_L14_b (M_worked_L14 fu) l _ p ν = _
    unfold M_worked_L14_b
    have e : ((([] : List Int).length : Nat) : Int) = 0 := rfl
    have e2 : ((([] : List fR).length : Nat) : Int) = 0 := rfl
    rw [e2] at b1 b4
    rw [q_ld_s (by omega) (by omega), if_neg (by omega), b1, q_bd_s, q_ld_s (by omega) (by omega), b4]
  | c :: L, fu + 1, F, ks, wb, p, ν, hf, h1, h0, h3, hfu, hc, hv, hw, hk, hL, hF, hd, hr => by
    rw [List.length_cons] at h1 hfu
    obtain ⟨⟨wb', ks'⟩, d1, d2⟩ := dpR_ok _ _ hd.2
    have hs : vStep (wb, ks) c = some (wb', ks') := d1
    have d0 : ks.length ≤ 6 := by
      obtain ⟨s, z1, z2⟩ := hd.1
      cases z1
      exact z2
    obtain ⟨ν1, a1, a2, a3, a4, a5⟩ := wk_step (k14 := M_worked_L14 fu) (env := env) (Wn := Wn) hS hW hl (p := p) (by omega) hf.1 (hc c List.mem_cons_self) (hv c List.mem_cons_self) hw hs d2 hL hk hF (by rw [KS_len _ _ hk]; exact d0)
    have e0 : ν1 1011 l = ν 1011 l := a5 _ _ (by decide)
    have hd2 : dpR L (some (wb', ks')) := by have := hd.2; rw [show (some (wb, ks)).bind (fun s => vStep s c) = some (wb', ks') from d1] at this; exact this
    have hr2 : vRun L (some (wb', ks')) = some (false, [(0, bb)]) := by
      have : vRun L ((some (wb, ks)).bind (fun s => vStep s c)) = some (false, [(0, bb)]) := hr
      rw [show (some (wb, ks)).bind (fun s => vStep s c) = some (wb', ks') from d1] at this
      exact this
    obtain ⟨v, ν', b1, b2, b3⟩ := worked_L (env := env) (Wn := Wn) (bb := bb) hS hW hl L fu (fStep env Wn F c) ks' wb' (p + 1) ν1 (fsg_c L _ (fun i _ _ => a5 _ _ (by decide)) hf.2) (by rw [e0]; omega) (by omega) (by omega) (by omega) (fun x hx => hc x (List.mem_cons_of_mem _ hx)) (fun x hx y z => by rw [a5 _ _ (by decide)]; exact hv x (List.mem_cons_of_mem _ hx) y z) (fun w x y => by rw [a5 _ _ (by decide)]; exact hw w x y) a3 a2 a4 hd2 hr2
    refine ⟨v, ν', ?_, b2, fun c i z => by rw [b3 c i z, a5 c i z]⟩
    rw [← b1]
    show M_worked_L14_b (M_worked_L14 fu) l _ p ν = _
    rw [a1, w32_i (x := p + 1) (by omega) (by omega)]
/-- a line's E, reckoned by the reference -/
theorem worked_s {env Wn : Int → Int} {S W l : Int} {L : List Int} {ν : am_M} (hS : S ≤ 10) (hW : W ≤ 4) (hl : 0 ≤ l ∧ l < 60) (hf : fsg (ν 1012) (ν 1010 l) L) (h1 : ν 1011 l = ν 1010 l + L.length) (h0 : 0 ≤ ν 1010 l) (h3 : ν 1011 l ≤ 1000) (hc : ∀ c ∈ L, vC S W c) (hv : ∀ c ∈ L, 1 ≤ c → c ≤ 10 → ν 1033 c = env (c - 1)) (hw : ∀ w, 0 ≤ w → w < W → ν 1033 (11 + w) = Wn w) (hok : okE L) (hd : dpR L st0) : ∃ ν', M_worked l ν = some (ifx env Wn L, ν') ∧ WFR ν ν' := by
  have hFU := am_FU_ge
  obtain ⟨bb, hr⟩ := hok
  obtain ⟨ν1, a1, a2, a3⟩ := opens_s (n := 0) (k := 0) (ν := ν) (by omega)
  have f1 : WFR ν ν1 := fun c i z => a3 c i (by omega)
  have e0 : ν1 1010 l = ν 1010 l := f1 _ _ (by decide)
  have e1 : ν1 1011 l = ν 1011 l := f1 _ _ (by decide)
  obtain ⟨v, ν', b1, b2, b3⟩ := worked_L (env := env) (Wn := Wn) (bb := bb) hS hW hl L am_FU [fNew 0] [(0, false)] true (ν 1010 l) ν1 (fsg_c L _ (fun i _ _ => f1 _ _ (by decide)) hf) (by rw [e1]; exact h1) h0 (by rw [e1]; exact h3) (by omega) hc (fun x hx y z => by rw [f1 _ _ (by decide)]; exact hv x hx y z) (fun w x y => by rw [f1 _ _ (by decide)]; exact hw w x y) ⟨by decide, ⟨fun _ => rfl, fun _ => rfl⟩, trivial⟩ ⟨a2, fun z => absurd rfl z, trivial⟩ (by simp) hd hr
  refine ⟨ν', ?_, fun c i z => by rw [b3 c i z, f1 c i z]⟩
  unfold M_worked
  rw [a1, q_bd_s, q_ld_s (by omega) (by omega), e0]
  have eb : M_worked_L14 am_FU l 0 (ν 1010 l) ν1 = some (v, ν') := b1
  rw [eb]
  have ev : ifx env Wn L = v := b2
  rw [ev]
