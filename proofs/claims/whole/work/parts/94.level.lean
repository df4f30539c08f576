/-! The reference's reckoning: one level. -/
def LV (n : Int) (f : fR) (w : Bool) (ν : am_M) : Prop := (0 ≤ n ∧ n < 7) ∧ (ν 1025 n = f.2.1) ∧ (f.2.1 = 0 ∨ ν 1024 n = f.1) ∧ (ν 1027 n = f.2.2.2.1) ∧ (f.2.2.2.1 = 0 ∨ ν 1026 n = f.2.2.1) ∧ (ν 1028 n = f.2.2.2.2.1) ∧ (ν 1029 n = f.2.2.2.2.2.1) ∧ (ν 1031 n = f.2.2.2.2.2.2.2.1) ∧ ((w = true ∧ f.2.2.2.2.2.2.2.1 = 0) ∨ ν 1030 n = f.2.2.2.2.2.2.1)
theorem LV.n0 {n : Int} {f : fR} {w : Bool} {ν : am_M} (h : LV n f w ν) : 0 ≤ n ∧ n < 7 := h.1
theorem LV.kb {n : Int} {f : fR} {w : Bool} {ν : am_M} (h : LV n f w ν) : ν 1025 n = f.2.1 := h.2.1
theorem LV.kp {n : Int} {f : fR} {w : Bool} {ν : am_M} (h : LV n f w ν) : f.2.1 = 0 ∨ ν 1024 n = f.1 := h.2.2.1
theorem LV.ag {n : Int} {f : fR} {w : Bool} {ν : am_M} (h : LV n f w ν) : ν 1027 n = f.2.2.2.1 := h.2.2.2.1
theorem LV.ah {n : Int} {f : fR} {w : Bool} {ν : am_M} (h : LV n f w ν) : f.2.2.2.1 = 0 ∨ ν 1026 n = f.2.2.1 := h.2.2.2.2.1
theorem LV.su {n : Int} {f : fR} {w : Bool} {ν : am_M} (h : LV n f w ν) : ν 1028 n = f.2.2.2.2.1 := h.2.2.2.2.2.1
theorem LV.sb {n : Int} {f : fR} {w : Bool} {ν : am_M} (h : LV n f w ν) : ν 1029 n = f.2.2.2.2.2.1 := h.2.2.2.2.2.2.1
theorem LV.tb {n : Int} {f : fR} {w : Bool} {ν : am_M} (h : LV n f w ν) : ν 1031 n = f.2.2.2.2.2.2.2.1 := h.2.2.2.2.2.2.2.1
theorem LV.te {n : Int} {f : fR} {w : Bool} {ν : am_M} (h : LV n f w ν) : (w = true ∧ f.2.2.2.2.2.2.2.1 = 0) ∨ ν 1030 n = f.2.2.2.2.2.2.1 := h.2.2.2.2.2.2.2.2
theorem LV.mk {n : Int} {f : fR} {w : Bool} {ν : am_M} (n0 : 0 ≤ n ∧ n < 7) (kb : ν 1025 n = f.2.1) (kp : f.2.1 = 0 ∨ ν 1024 n = f.1) (ag : ν 1027 n = f.2.2.2.1) (ah : f.2.2.2.1 = 0 ∨ ν 1026 n = f.2.2.1) (su : ν 1028 n = f.2.2.2.2.1) (sb : ν 1029 n = f.2.2.2.2.2.1) (tb : ν 1031 n = f.2.2.2.2.2.2.2.1) (te : (w = true ∧ f.2.2.2.2.2.2.2.1 = 0) ∨ ν 1030 n = f.2.2.2.2.2.2.1) : LV n f w ν := ⟨n0, kb, kp, ag, ah, su, sb, tb, te⟩
theorem LV.cong {n : Int} {f : fR} {w : Bool} {ν ν' : am_M} (h : LV n f w ν) (g : ∀ c, 1024 ≤ c → c ≤ 1031 → ν' c n = ν c n) : LV n f w ν' := by
  refine (LV.mk (n0 := h.n0) (kb := ?_) (kp := ?_) (ag := ?_) (ah := ?_) (su := ?_) (sb := ?_) (tb := ?_) (te := ?_))
  · rw [g 1025 (by decide) (by decide)]; exact h.kb
  · rw [g 1024 (by decide) (by decide)]; exact h.kp
  · rw [g 1027 (by decide) (by decide)]; exact h.ag
  · rw [g 1026 (by decide) (by decide)]; exact h.ah
  · rw [g 1028 (by decide) (by decide)]; exact h.su
  · rw [g 1029 (by decide) (by decide)]; exact h.sb
  · rw [g 1031 (by decide) (by decide)]; exact h.tb
  · rw [g 1030 (by decide) (by decide)]; exact h.te
theorem opens_s {n : Int} {k : Int} {ν : am_M} (hn : 0 ≤ n ∧ n < 7) : ∃ ν', M_opens n ν = some (0, ν') ∧ LV n (fNew k) true ν' ∧ (∀ c i, ¬ (1024 ≤ c ∧ c ≤ 1031 ∧ i = n) → ν' c i = ν c i) := by
  refine ⟨m_st (m_st (m_st (m_st (m_st ν 1025 n 0) 1027 n 0) 1028 n 0) 1029 n 20) 1031 n 0, ?_, ?_, fun c i z => by rw [m_st_d, if_neg (by omega), m_st_d, if_neg (by omega), m_st_d, if_neg (by omega), m_st_d, if_neg (by omega), m_st_d, if_neg (by omega)]⟩
  · unfold M_opens
    rw [q_st_s hn.1 hn.2, q_st_s hn.1 hn.2, q_st_s hn.1 hn.2, q_st_s hn.1 hn.2, q_st_s hn.1 hn.2]
  · exact (LV.mk (n0 := hn) (kb := by simp [m_st_d, fNew]) (kp := Or.inl rfl) (ag := by simp [m_st_d, fNew]) (ah := Or.inl rfl) (su := by simp [m_st_d, fNew]) (sb := by simp [m_st_d, fNew]) (tb := by simp [m_st_d, fNew]) (te := Or.inl ⟨rfl, rfl⟩))
theorem sums_s {n : Int} {f : fR} {ν : am_M} (h : LV n f false ν) : ∃ ν', M_sums n ν = some (0, ν') ∧ LV n (fSums f) false ν' ∧ (∀ c i, ¬ ((c = 1028 ∨ c = 1031) ∧ i = n) → ν' c i = ν c i) := by
  obtain ⟨k, kb, a, ag, s, sb, t, tb, nn⟩ := f
  have hn := h.n0
  have te : ν 1030 n = t := by rcases h.te with z | z; exact absurd z.1 (by decide); exact z
  have hsu : ν 1028 n = s := h.su
  have hsb : ν 1029 n = sb := h.sb
  refine ⟨m_st (m_st ν 1028 n (if sb = 21 then w32 (s - t) else w32 (s + t))) 1031 n 0, ?_, ?_, fun c i z => by rw [m_st_d, if_neg (by omega), m_st_d, if_neg (by omega)]⟩
  · unfold M_sums M_sums_B45
    rw [q_ld_s hn.1 hn.2, q_ld_s hn.1 hn.2, q_ld_s hn.1 hn.2, hsb, hsu, te]
    by_cases q : sb = 21
    · rw [if_pos q, if_pos q, q_st_s hn.1 hn.2, q_st_s hn.1 hn.2]
    · rw [if_neg q, if_neg q, q_ld_s hn.1 hn.2, q_ld_s hn.1 hn.2, hsu, te, q_st_s hn.1 hn.2, q_st_s hn.1 hn.2]
  · have g : ∀ v c, c ≠ 1028 → c ≠ 1031 → m_st (m_st ν 1028 n v) 1031 n 0 c n = ν c n := fun v c y z => by rw [m_st_c z, m_st_c y]
    exact (LV.mk (n0 := hn) (kb := by rw [g _ _ (by decide) (by decide)]; exact h.kb) (kp := by rw [g _ _ (by decide) (by decide)]; exact h.kp) (ag := by rw [g _ _ (by decide) (by decide)]; exact h.ag) (ah := by rw [g _ _ (by decide) (by decide)]; exact h.ah) (su := by rw [m_st_c (by decide), m_st_d, if_pos ⟨rfl, rfl⟩]; rfl) (sb := by rw [g _ _ (by decide) (by decide)]; exact h.sb) (tb := by rw [m_st_d, if_pos ⟨rfl, rfl⟩]; rfl) (te := Or.inr (by rw [g _ _ (by decide) (by decide)]; exact te)))
theorem tests_s {n : Int} {f : fR} {ν : am_M} (h : LV n f false ν) : ∃ ν', M_tests n ν = some (0, ν') ∧ LV n (fTests f) false ν' ∧ ν' 1024 n = (fTests f).1 ∧ (∀ c i, ¬ (1024 ≤ c ∧ c ≤ 1031 ∧ i = n) → ν' c i = ν c i) := by
  obtain ⟨ν1, a1, a2, a3⟩ := sums_s h
  obtain ⟨k, kb, a, ag, s0, sb, t, tb, nn⟩ := f
  have hn := h.n0
  have hkb : ν1 1025 n = kb := a2.kb
  have hag : ν1 1027 n = ag := a2.ag
  have hkp : kb = 0 ∨ ν1 1024 n = k := a2.kp
  have hah : ag = 0 ∨ ν1 1026 n = a := a2.ah
  generalize hs : (if sb = 21 then w32 (s0 - t) else w32 (s0 + t)) = s
  have hsu : ν1 1028 n = s := by rw [← hs]; exact a2.su
  have htb : ν1 1031 n = 0 := a2.tb
  have hte : ν1 1030 n = t := by rcases a2.te with z | z; exact absurd z.1 (by decide); exact z
  generalize hv : (if ag = 24 then (if a < s then (1 : Int) else 0) else if ag = 25 then (if a = s then 1 else 0) else s) = v
  generalize hv2 : (if kb = 26 then (if k ≠ 0 ∧ v ≠ 0 then (1 : Int) else 0) else if kb = 27 then (if k ≠ 0 ∨ v ≠ 0 then 1 else 0) else v) = v2
  have hf : fTests (k, kb, a, ag, s0, sb, t, tb, nn) = (v2, kb, a, 0, 0, 20, t, 0, nn) := by
    rw [← hv2, ← hv, ← hs]; rfl
  have e1 : M_tests n ν = M_tests_B76 n v ν1 := by
    have b44 : ∀ x, ag ≠ 25 → M_tests_B44 n x ν1 = M_tests_B76 n x ν1 := fun x z => by
      unfold M_tests_B44
      rw [q_ld_s hn.1 hn.2, hag, if_neg z]
    unfold M_tests M_tests_B43
    rw [a1, q_bd_s, q_ld_s hn.1 hn.2, q_ld_s hn.1 hn.2, hag]
    by_cases c1 : ag = 24
    · have hA : ν1 1026 n = a := hah.elim (fun z => by omega) (fun z => z)
      rw [if_pos c1, q_ld_s hn.1 hn.2, q_ld_s hn.1 hn.2, hA, hsu, ← hv, if_pos c1]
      by_cases c2 : a < s
      · rw [if_pos c2, if_pos c2]; exact b44 1 (by omega)
      · rw [if_neg c2, if_neg c2]; exact b44 0 (by omega)
    rw [if_neg c1, hsu, ← hv, if_neg c1]
    by_cases c3 : ag = 25
    · have hA : ν1 1026 n = a := hah.elim (fun z => by omega) (fun z => z)
      unfold M_tests_B44 M_tests_B75
      rw [q_ld_s hn.1 hn.2, hag, if_pos c3, if_pos c3, q_ld_s hn.1 hn.2, q_ld_s hn.1 hn.2, hA, hsu]
      by_cases c2 : a = s
      · rw [if_pos c2, if_pos c2]
      · rw [if_neg c2, if_neg c2]
    · rw [if_neg c3]; exact b44 s c3
  have e2 : M_tests_B76 n v ν1 = M_tests_B136 n v2 ν1 := by
    have b106 : ∀ x, kb ≠ 27 → M_tests_B106 n x ν1 = M_tests_B136 n x ν1 := fun x z => by
      unfold M_tests_B106
      rw [q_ld_s hn.1 hn.2, hkb, if_neg z]
    unfold M_tests_B76 M_tests_B104 M_tests_B105
    rw [q_ld_s hn.1 hn.2, hkb, ← hv2]
    by_cases c1 : kb = 26
    · have hK : ν1 1024 n = k := hkp.elim (fun z => by omega) (fun z => z)
      rw [if_pos c1, if_pos c1, q_ld_s hn.1 hn.2, hK]
      by_cases c2 : k = 0
      · rw [if_pos c2, if_neg (show ¬ (k ≠ 0 ∧ v ≠ 0) from fun z => z.1 c2)]; exact b106 0 (by omega)
      · by_cases c3 : v = 0
        · rw [if_neg c2, if_pos c3, if_neg (show ¬ (k ≠ 0 ∧ v ≠ 0) from fun z => z.2 c3)]; exact b106 0 (by omega)
        · rw [if_neg c2, if_neg c3, if_pos (show k ≠ 0 ∧ v ≠ 0 from ⟨c2, c3⟩)]; exact b106 1 (by omega)
    rw [if_neg c1, if_neg c1]
    by_cases c4 : kb = 27
    · have hK : ν1 1024 n = k := hkp.elim (fun z => by omega) (fun z => z)
      unfold M_tests_B106 M_tests_B130 M_tests_B135
      rw [q_ld_s hn.1 hn.2, hkb, if_pos c4, if_pos c4, q_ld_s hn.1 hn.2, hK]
      by_cases c2 : k = 0
      · by_cases c3 : v = 0
        · rw [if_pos c2, if_pos c3, if_neg (show ¬ (k ≠ 0 ∨ v ≠ 0) from fun z => z.elim (fun y => y c2) (fun y => y c3))]
        · rw [if_pos c2, if_neg c3, if_pos (show k ≠ 0 ∨ v ≠ 0 from Or.inr c3)]
      · rw [if_neg c2, if_pos (show k ≠ 0 ∨ v ≠ 0 from Or.inl c2)]
    · rw [if_neg c4]; exact b106 v c4
  refine ⟨m_st (m_st (m_st (m_st ν1 1024 n v2) 1027 n 0) 1028 n 0) 1029 n 20, ?_, ?_, ?_, fun c i z => by rw [m_st_d, if_neg (by omega), m_st_d, if_neg (by omega), m_st_d, if_neg (by omega), m_st_d, if_neg (by omega), a3 c i (by omega)]⟩
  · rw [e1, e2]
    unfold M_tests_B136
    rw [q_st_s hn.1 hn.2, q_st_s hn.1 hn.2, q_st_s hn.1 hn.2, q_st_s hn.1 hn.2]
  · rw [hf]
    exact (LV.mk (n0 := hn) (kb := by simp [m_st_d]; exact hkb) (kp := Or.inr (by simp [m_st_d])) (ag := by simp [m_st_d]) (ah := Or.inl rfl) (su := by simp [m_st_d]) (sb := by simp [m_st_d]) (tb := by simp [m_st_d]; exact htb) (te := Or.inr (by simp [m_st_d]; exact hte)))
  · rw [hf]
    simp [m_st_d]
