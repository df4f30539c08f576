/-! The reference's reckoning: all levels. -/
def LVS (ν : am_M) : List fR → Bool → Prop
  | [], _ => True
  | f :: r, w => LV (r.length : Nat) f w ν ∧ (r ≠ [] → ν 1032 (r.length : Nat) = f.2.2.2.2.2.2.2.2) ∧ LVS ν r true
theorem LVS_c {ν ν' : am_M} : ∀ (F : List fR) (w : Bool), (∀ c i, 1024 ≤ c → c ≤ 1032 → i < (F.length : Nat) → ν' c i = ν c i) → LVS ν F w → LVS ν' F w
  | [], _, _, _ => trivial
  | f :: r, w, g, h => by
    rw [List.length_cons] at g
    exact ⟨h.1.cong (fun c p q => g c _ p (by omega) (by omega)), fun z => by rw [g _ _ (by decide) (by decide) (by omega)]; exact h.2.1 z, LVS_c r true (fun c i p q y => g c i p q (by omega)) h.2.2⟩
theorem term_s {k14 : Int → Int → Int → am_M → am_O} {v1 n v3 v : Int} {f : fR} {ν : am_M} (h : LV n f true ν) : ∃ ν', M_worked_B300 k14 v1 n v3 v ν = k14 v1 n (w32 (v3 + 1)) ν' ∧ LV n (fTerm v f) false ν' ∧ (∀ c i, ¬ (c = 1030 ∧ i = n) → ν' c i = ν c i) := by
  obtain ⟨k, kb, a, ag, s0, sb, t, tb, nn⟩ := f
  have hn := h.n0
  have htb : ν 1031 n = tb := h.tb
  have hte : tb = 0 ∨ ν 1030 n = t := h.te.elim (fun z => Or.inl z.2) Or.inr
  refine ⟨m_st ν 1030 n (if tb = 0 then v else w32 (t * v)), ?_, ?_, fun c i z => by rw [m_st_d, if_neg z]⟩
  · unfold M_worked_B300 M_worked_B328 M_worked_B329
    rw [q_ld_s hn.1 hn.2, htb]
    by_cases q : tb = 0
    · rw [if_pos q, if_pos q, q_st_s hn.1 hn.2]
    · rw [if_neg q, if_neg q, q_ld_s hn.1 hn.2, hte.elim (fun z => absurd z q) (fun z => z), q_st_s hn.1 hn.2]
  · have g : ∀ v c, c ≠ 1030 → m_st ν 1030 n v c n = ν c n := fun v c z => m_st_c z
    exact (LV.mk (n0 := hn) (kb := by rw [g _ _ (by decide)]; exact h.kb) (kp := by rw [g _ _ (by decide)]; exact h.kp) (ag := by rw [g _ _ (by decide)]; exact h.ag) (ah := by rw [g _ _ (by decide)]; exact h.ah) (su := by rw [g _ _ (by decide)]; exact h.su) (sb := by rw [g _ _ (by decide)]; exact h.sb) (tb := by rw [g _ _ (by decide)]; exact h.tb) (te := Or.inr (by rw [m_st_d, if_pos ⟨rfl, rfl⟩]; rfl)))
/-- a value comes -/
theorem val_s {k14 : Int → Int → Int → am_M → am_O} {v1 v3 : Int} : ∀ (F : List fR) (f : Nat) (v : Int) (ν : am_M), F ≠ [] → F.length ≤ f → LVS ν F true → ∃ ν', M_worked_L268 k14 f v1 ((F.length : Nat) - 1) v3 v ν = k14 v1 (((fVal v F).length : Nat) - 1) (w32 (v3 + 1)) ν' ∧ LVS ν' (fVal v F) false ∧ fVal v F ≠ [] ∧ (fVal v F).length ≤ F.length ∧ (∀ c i, c ≠ 1030 → ν' c i = ν c i)
  | [], _, _, _, h, _, _ => absurd rfl h
  | _ :: _, 0, _, _, _, h, _ => by rw [List.length_cons] at h; omega
  | f :: r, g + 1, v, ν, _, hg, h => by
    obtain ⟨h1, h2, h3⟩ := h
    rw [List.length_cons] at hg
    have hn := h1.n0
    have el : (((f :: r).length : Nat) : Int) - 1 = (r.length : Nat) := by rw [List.length_cons]; omega
    have e0 : M_worked_L268 k14 (g + 1) v1 (r.length : Nat) v3 v ν = M_worked_L268_b k14 (M_worked_L268 k14 g) v1 (r.length : Nat) v3 v ν := rfl
    have ef : fVal v (f :: r) = if r ≠ [] ∧ f.2.2.2.2.2.2.2.2 = 1 then fVal (if v = 0 then 1 else 0) r else fTerm v f :: r := rfl
    have term : ¬ (r ≠ [] ∧ f.2.2.2.2.2.2.2.2 = 1) → ∃ ν', M_worked_B300 k14 v1 (r.length : Nat) v3 v ν = k14 v1 (((fVal v (f :: r)).length : Nat) - 1) (w32 (v3 + 1)) ν' ∧ LVS ν' (fVal v (f :: r)) false ∧ fVal v (f :: r) ≠ [] ∧ (fVal v (f :: r)).length ≤ (f :: r).length ∧ (∀ c i, c ≠ 1030 → ν' c i = ν c i) := by
      intro z
      rw [ef, if_neg z]
      obtain ⟨ν', a1, a2, a3⟩ := term_s (k14 := k14) (v1 := v1) (v3 := v3) (v := v) h1
      have el2 : (((fTerm v f :: r).length : Nat) : Int) - 1 = (r.length : Nat) := by rw [List.length_cons]; omega
      refine ⟨ν', by rw [a1, el2], ⟨a2, fun y => ?_, LVS_c r true (fun c i p q y => a3 c i (by omega)) h3⟩, by simp, by simp, fun c i y => a3 c i (fun w => y w.1)⟩
      rw [a3 _ _ (by omega), h2 y]
      obtain ⟨k, kb, a, ag, s0, sb, t, tb, nn⟩ := f
      rfl
    rw [el, e0]
    unfold M_worked_L268_b M_worked_B292
    by_cases q : r = []
    · rw [if_pos (by rw [q]; decide)]
      exact term (fun z => z.1 q)
    have hr : 0 < r.length := List.length_pos_iff.mpr q
    rw [if_neg (by omega), q_ld_s hn.1 hn.2, h2 q]
    by_cases c : f.2.2.2.2.2.2.2.2 = 1
    · have e1 : ((r.length : Nat) : Int) + -1 = (r.length : Nat) - 1 := by omega
      have ef2 : fVal v (f :: r) = fVal (if v = 0 then 1 else 0) r := by rw [ef]; exact if_pos ⟨q, c⟩
      rw [if_pos c, w32_i (x := ((r.length : Nat) : Int) + -1) (by omega) (by omega), e1, ef2]
      have ih := fun v => val_s (k14 := k14) (v1 := v1) (v3 := v3) r g v ν q (by omega) h3
      by_cases y : v = 0
      · rw [if_pos y, if_pos y]
        obtain ⟨ν', a1, a2, a3, a4, a5⟩ := ih 1
        exact ⟨ν', a1, a2, a3, by rw [List.length_cons]; omega, a5⟩
      · rw [if_neg y, if_neg y]
        obtain ⟨ν', a1, a2, a3, a4, a5⟩ := ih 0
        exact ⟨ν', a1, a2, a3, by rw [List.length_cons]; omega, a5⟩
    · rw [if_neg c]
      exact term (fun z => c z.2)
