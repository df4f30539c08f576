/-! The two ways of keeping an E reckon the same. -/
/-- what stands under a level: nothing, or a sign that nothing takes away -/
def wB (W : List Int) : Prop := W = [] ∨ ∃ w2, W = 40 :: w2 ∨ W = 114 :: w2
theorem popR_B {r : Int} (hr : 1 ≤ r) {W ro : List Int} (h : wB W) : popR r W ro = (W, ro) := by
  rcases h with h | ⟨w2, h | h⟩ <;> subst h
  · rfl
  · unfold popR; rw [if_neg (by show ¬ r ≤ rk 40; rw [show rk 40 = 0 from rfl]; omega)]
  · unfold popR; rw [if_neg (by show ¬ r ≤ rk 114; rw [show rk 114 = 0 from rfl]; omega)]
theorem popR_t {r w : Int} {wt ro : List Int} (h : r ≤ rk w) : popR r (w :: wt) ro = popR r wt (w :: ro) := by
  conv => lhs; unfold popR
  rw [if_pos h]
theorem popR_f {r w : Int} {wt ro : List Int} (h : ¬ r ≤ rk w) : popR r (w :: wt) ro = (w :: wt, ro) := by
  unfold popR
  rw [if_neg h]
theorem rk42 : rk 42 = 4 := rfl
theorem rk43 : rk 43 = 3 := rfl
theorem rk45 : rk 45 = 3 := rfl
theorem rk60 : rk 60 = 2 := rfl
theorem rk61 : rk 61 = 2 := rfl
theorem rk115 : rk 115 = 1 := rfl
theorem rk116 : rk 116 = 1 := rfl
theorem evR_c {env : Int → Int} {c : Int} {ro : List Int} : evR env (c :: ro) = stp env c (evR env ro) := rfl
theorem stp_op {env : Int → Int} {c : Int} {a b : Int} {r : List Int} (h : c = 42 ∨ c = 43 ∨ c = 45 ∨ c = 60 ∨ c = 61 ∨ c = 115 ∨ c = 116) : stp env c (b :: a :: r) = jn c a b :: r := by
  rcases h with h | h | h | h | h | h | h <;> (subst h; rfl)
theorem jn_r {k l r : Int} : r32 (jn k l r) := by
  unfold jn
  have z : r32 0 := by unfold r32; omega
  have o : r32 1 := by unfold r32; omega
  split
  · split <;> assumption
  · split
    · split <;> assumption
    · split
      · split <;> assumption
      · split
        · split <;> assumption
        · split
          · exact w32_r _
          · split <;> exact w32_r _
/-- * taken away -/
theorem pop4 {env : Int → Int} {pm : Bool} {f : fR} {v : Int} {W ro V : List Int} (hf : lvW pm f) (hW : wB W) (hv : evR env ro = v :: (lvV pm f ++ V)) : ∃ ro', popR 4 (lvO pm f ++ W) ro = (lvO pm (f.1, f.2.1, f.2.2.1, f.2.2.2.1, f.2.2.2.2.1, f.2.2.2.2.2.1, f.2.2.2.2.2.2.1, 0, f.2.2.2.2.2.2.2.2) ++ W, ro') ∧ evR env ro' = (fTerm v f).2.2.2.2.2.2.1 :: (lvV pm (f.1, f.2.1, f.2.2.1, f.2.2.2.1, f.2.2.2.2.1, f.2.2.2.2.2.1, f.2.2.2.2.2.2.1, 0, f.2.2.2.2.2.2.2.2) ++ V) := by
  obtain ⟨k, kb, a, ag, s, sb, t, tb, n⟩ := f
  obtain ⟨htb, hsb, hpm, hag, hkb, hn, ht, hs⟩ := hf
  -- what is left stays
  have stay : ∀ ro : List Int, popR 4 (lvO pm (k, kb, a, ag, s, sb, t, 0, n) ++ W) ro = (lvO pm (k, kb, a, ag, s, sb, t, 0, n) ++ W, ro) := by
    intro ro
    cases pm with
    | true => rcases hsb with h | h <;> (subst h; unfold lvO; simp only [if_true, List.nil_append, List.cons_append, List.append_assoc]; exact popR_f (by decide))
    | false =>
      rcases hag with h | h | h
      · subst h
        rcases hkb with h | h | h
        · subst h; unfold lvO; simp only [if_true, List.nil_append]; exact popR_B (by decide) hW
        · subst h; unfold lvO; simp only [if_true, List.nil_append]; exact popR_f (by decide)
        · subst h; unfold lvO; simp only [if_true, List.nil_append]; exact popR_f (by decide)
      · subst h; unfold lvO; simp only [if_true, List.nil_append]; exact popR_f (by decide)
      · subst h; unfold lvO; simp only [if_true, List.nil_append]; exact popR_f (by decide)
  rcases htb with h | h <;> subst h
  · exact ⟨ro, stay ro, hv⟩
  · have e1 : lvO pm (k, kb, a, ag, s, sb, t, 22, n) = 42 :: lvO pm (k, kb, a, ag, s, sb, t, 0, n) := rfl
    have e2 : lvV pm (k, kb, a, ag, s, sb, t, 22, n) = t :: lvV pm (k, kb, a, ag, s, sb, t, 0, n) := rfl
    refine ⟨42 :: ro, ?_, ?_⟩
    · rw [e1, List.cons_append, popR_t (by decide)]
      exact stay (42 :: ro)
    · rw [evR_c, hv, e2, List.cons_append, stp_op (Or.inl rfl)]
      rfl
theorem lv_0 {pm : Bool} {k kb a ag s sb t n : Int} : lvO pm (k, kb, a, ag, s, sb, t, 0, n) = (if pm = true then [xOp sb] else []) ++ lvO false (k, kb, a, ag, 0, 20, t, 0, n) ∧ lvV pm (k, kb, a, ag, s, sb, t, 0, n) = (if pm = true then [s] else []) ++ lvV false (k, kb, a, ag, 0, 20, t, 0, n) := ⟨rfl, rfl⟩
/-- * and + or - taken away -/
theorem pop3 {env : Int → Int} {pm : Bool} {k kb a ag s sb t tb n v : Int} {W ro V : List Int} (hf : lvW pm (k, kb, a, ag, s, sb, t, tb, n)) (hr : r32 v) (hW : wB W) (hv : evR env ro = v :: (lvV pm (k, kb, a, ag, s, sb, t, tb, n) ++ V)) : ∃ ro', popR 3 (lvO pm (k, kb, a, ag, s, sb, t, tb, n) ++ W) ro = (lvO false (k, kb, a, ag, 0, 20, 0, 0, n) ++ W, ro') ∧ evR env ro' = (fSums (fTerm v (k, kb, a, ag, s, sb, t, tb, n))).2.2.2.2.1 :: (lvV false (k, kb, a, ag, 0, 20, 0, 0, n) ++ V) := by
  obtain ⟨htb, hsb, hpm, hag, hkb, hn, ht, hs⟩ := hf
  have stay : ∀ ro : List Int, popR 3 (lvO false (k, kb, a, ag, 0, 20, 0, 0, n) ++ W) ro = (lvO false (k, kb, a, ag, 0, 20, 0, 0, n) ++ W, ro) := by
    intro ro
    rcases hag with h | h | h
    · subst h
      rcases hkb with h | h | h
      · subst h; unfold lvO; simp only [if_true, List.nil_append]; exact popR_B (by decide) hW
      · subst h; unfold lvO; simp only [if_true, List.nil_append]; exact popR_f (by decide)
      · subst h; unfold lvO; simp only [if_true, List.nil_append]; exact popR_f (by decide)
    · subst h; unfold lvO; simp only [if_true, List.nil_append]; exact popR_f (by decide)
    · subst h; unfold lvO; simp only [if_true, List.nil_append]; exact popR_f (by decide)
  -- the product
  have prod : ∃ ro1 t1, popR 3 (lvO pm (k, kb, a, ag, s, sb, t, tb, n) ++ W) ro = popR 3 (lvO pm (k, kb, a, ag, s, sb, t, 0, n) ++ W) ro1 ∧ evR env ro1 = t1 :: (lvV pm (k, kb, a, ag, s, sb, t, 0, n) ++ V) ∧ fTerm v (k, kb, a, ag, s, sb, t, tb, n) = (k, kb, a, ag, s, sb, t1, tb, n) ∧ r32 t1 := by
    rcases htb with h | h <;> subst h
    · exact ⟨ro, v, rfl, hv, rfl, hr⟩
    · refine ⟨42 :: ro, w32 (t * v), ?_, ?_, rfl, w32_r _⟩
      · rw [show lvO pm (k, kb, a, ag, s, sb, t, 22, n) = 42 :: lvO pm (k, kb, a, ag, s, sb, t, 0, n) from rfl, List.cons_append, popR_t (by decide)]
      · rw [evR_c, hv, show lvV pm (k, kb, a, ag, s, sb, t, 22, n) = t :: lvV pm (k, kb, a, ag, s, sb, t, 0, n) from rfl, List.cons_append, stp_op (Or.inl rfl)]
        rfl
  obtain ⟨ro1, t1, p1, p2, p3, p4⟩ := prod
  rw [p1, p3]
  have er : lvO false (k, kb, a, ag, 0, 20, t, 0, n) = lvO false (k, kb, a, ag, 0, 20, 0, 0, n) ∧ lvV false (k, kb, a, ag, 0, 20, t, 0, n) = lvV false (k, kb, a, ag, 0, 20, 0, 0, n) := ⟨rfl, rfl⟩
  rw [lv_0.2, er.2] at p2
  rw [lv_0.1, er.1]
  cases pm with
  | false =>
    obtain ⟨h1, h2⟩ := hpm rfl
    subst h1; subst h2
    refine ⟨ro1, stay ro1, ?_⟩
    rw [p2]
    show t1 :: _ = w32 (0 + t1) :: _
    rw [Int.zero_add, w32_id p4]
    rfl
  | true =>
    rcases hsb with h | h <;> subst h
    · refine ⟨43 :: ro1, ?_, ?_⟩
      · show popR 3 (43 :: (lvO false (k, kb, a, ag, 0, 20, 0, 0, n) ++ W)) ro1 = _
        rw [popR_t (by decide)]; exact stay _
      · rw [evR_c, p2]
        show stp env 43 (t1 :: s :: (lvV false (k, kb, a, ag, 0, 20, 0, 0, n) ++ V)) = _
        rw [stp_op (by omega)]
        rfl
    · refine ⟨45 :: ro1, ?_, ?_⟩
      · show popR 3 (45 :: (lvO false (k, kb, a, ag, 0, 20, 0, 0, n) ++ W)) ro1 = _
        rw [popR_t (by decide)]; exact stay _
      · rw [evR_c, p2]
        show stp env 45 (t1 :: s :: (lvV false (k, kb, a, ag, 0, 20, 0, 0, n) ++ V)) = _
        rw [stp_op (by omega)]
        rfl
theorem popR_le {r r' : Int} (h : r' ≤ r) : ∀ (wt ro : List Int), popR r' (popR r wt ro).1 (popR r wt ro).2 = popR r' wt ro
  | [], ro => rfl
  | w :: wt, ro => by
    by_cases q : r ≤ rk w
    · rw [popR_t q, popR_le h wt, popR_t (by omega : r' ≤ rk w)]
    · rw [popR_f q]
/-- everything of the level taken away -/
theorem pop1 {env : Int → Int} {pm : Bool} {k kb a ag s sb t tb n v : Int} {W ro V : List Int} (hf : lvW pm (k, kb, a, ag, s, sb, t, tb, n)) (hr : r32 v) (hW : wB W) (hv : evR env ro = v :: (lvV pm (k, kb, a, ag, s, sb, t, tb, n) ++ V)) : ∃ ro', popR 1 (lvO pm (k, kb, a, ag, s, sb, t, tb, n) ++ W) ro = (W, ro') ∧ evR env ro' = (fTests (fTerm v (k, kb, a, ag, s, sb, t, tb, n))).1 :: V := by
  obtain ⟨ro1, h1, h2⟩ := pop3 hf hr hW hv
  have h3 := popR_le (r := 3) (r' := 1) (by decide) (lvO pm (k, kb, a, ag, s, sb, t, tb, n) ++ W) ro
  rw [h1] at h3
  rw [← h3]
  obtain ⟨htb, hsb, hpm, hag, hkb, hn, ht, hs⟩ := hf
  have e0 : fTests (fTerm v (k, kb, a, ag, s, sb, t, tb, n)) = fTests (fTerm v (k, kb, a, ag, s, sb, t, tb, n)) := rfl
  generalize hS : (fSums (fTerm v (k, kb, a, ag, s, sb, t, tb, n))).2.2.2.2.1 = S at h2
  have eT : (fTests (fTerm v (k, kb, a, ag, s, sb, t, tb, n))).1 = (if kb = 26 then (if k ≠ 0 ∧ (if ag = 24 then (if a < S then 1 else 0) else if ag = 25 then (if a = S then 1 else 0) else S) ≠ 0 then 1 else 0) else if kb = 27 then (if k ≠ 0 ∨ (if ag = 24 then (if a < S then 1 else 0) else if ag = 25 then (if a = S then 1 else 0) else S) ≠ 0 then 1 else 0) else (if ag = 24 then (if a < S then 1 else 0) else if ag = 25 then (if a = S then 1 else 0) else S)) := by
    rw [← hS]; rfl
  rw [eT]
  rcases hag with h | h | h <;> subst h <;> rcases hkb with h | h | h <;> subst h
  · refine ⟨ro1, popR_B (by decide) hW, h2⟩
  · refine ⟨115 :: ro1, ?_, ?_⟩
    · show popR 1 (115 :: W) ro1 = _
      rw [popR_t (by decide)]; exact popR_B (by decide) hW
    · rw [evR_c, h2]; show stp env 115 (S :: k :: V) = _; rw [stp_op (by omega)]; rfl
  · refine ⟨116 :: ro1, ?_, ?_⟩
    · show popR 1 (116 :: W) ro1 = _
      rw [popR_t (by decide)]; exact popR_B (by decide) hW
    · rw [evR_c, h2]; show stp env 116 (S :: k :: V) = _; rw [stp_op (by omega)]; rfl
  · refine ⟨60 :: ro1, ?_, ?_⟩
    · show popR 1 (60 :: W) ro1 = _
      rw [popR_t (by decide)]; exact popR_B (by decide) hW
    · rw [evR_c, h2]; show stp env 60 (S :: a :: V) = _; rw [stp_op (by omega)]; rfl
  · refine ⟨115 :: 60 :: ro1, ?_, ?_⟩
    · show popR 1 (60 :: 115 :: W) ro1 = _
      rw [popR_t (by decide), popR_t (by decide)]; exact popR_B (by decide) hW
    · rw [evR_c, evR_c, h2]; show stp env 115 (stp env 60 (S :: a :: k :: V)) = _; rw [stp_op (by omega), stp_op (by omega)]; rfl
  · refine ⟨116 :: 60 :: ro1, ?_, ?_⟩
    · show popR 1 (60 :: 116 :: W) ro1 = _
      rw [popR_t (by decide), popR_t (by decide)]; exact popR_B (by decide) hW
    · rw [evR_c, evR_c, h2]; show stp env 116 (stp env 60 (S :: a :: k :: V)) = _; rw [stp_op (by omega), stp_op (by omega)]; rfl
  · refine ⟨61 :: ro1, ?_, ?_⟩
    · show popR 1 (61 :: W) ro1 = _
      rw [popR_t (by decide)]; exact popR_B (by decide) hW
    · rw [evR_c, h2]; show stp env 61 (S :: a :: V) = _; rw [stp_op (by omega)]; rfl
  · refine ⟨115 :: 61 :: ro1, ?_, ?_⟩
    · show popR 1 (61 :: 115 :: W) ro1 = _
      rw [popR_t (by decide), popR_t (by decide)]; exact popR_B (by decide) hW
    · rw [evR_c, evR_c, h2]; show stp env 115 (stp env 61 (S :: a :: k :: V)) = _; rw [stp_op (by omega), stp_op (by omega)]; rfl
  · refine ⟨116 :: 61 :: ro1, ?_, ?_⟩
    · show popR 1 (61 :: 116 :: W) ro1 = _
      rw [popR_t (by decide), popR_t (by decide)]; exact popR_B (by decide) hW
    · rw [evR_c, evR_c, h2]; show stp env 116 (stp env 61 (S :: a :: k :: V)) = _; rw [stp_op (by omega), stp_op (by omega)]; rfl
