/-! Sign by sign: what waits and what is reckoned on both sides. -/
theorem lvO_head {pm : Bool} {f : fR} (hf : lvW pm f) : ∀ w ∈ lvO pm f, w ≠ 114 ∧ w ≠ 40 ∧ 1 ≤ rk w := by
  obtain ⟨k, kb, a, ag, s, sb, t, tb, n⟩ := f
  obtain ⟨htb, hsb, hpm, hag, hkb, hn, ht, hs⟩ := hf
  intro w hw
  unfold lvO at hw
  simp only [List.mem_append] at hw
  rcases hw with hw | hw | hw | hw
  · split at hw
    · cases hw
    · rw [List.mem_singleton.mp hw]; decide
  · split at hw
    · rw [List.mem_singleton.mp hw]
      rcases hsb with h | h <;> (subst h; decide)
    · cases hw
  · split at hw
    · cases hw
    · rw [List.mem_singleton.mp hw]
      rcases hag with h | h | h <;> subst h <;> first | (exact absurd rfl (by assumption)) | decide
  · split at hw
    · cases hw
    · rw [List.mem_singleton.mp hw]
      rcases hkb with h | h | h <;> subst h <;> first | (exact absurd rfl (by assumption)) | decide
theorem popN_stay {w : Int} {wt ro : List Int} (h : w ≠ 114) : popN (w :: wt) ro = (w :: wt, ro) := by
  unfold popN
  rw [if_neg h]
theorem popN_go {wt ro : List Int} : popN (114 :: wt) ro = popN wt (114 :: ro) := by
  conv => lhs; unfold popN
  rw [if_pos rfl]
/-- what a level's surroundings are: the tail of the waiting, of the values -/
def lvB (F : List fR) (pms : List Bool) (ks : List (Int × Bool)) (kd : Int) (wt vs : List Int) : Prop := if F = [] then wt = [] ∧ vs = [] ∧ pms = [] ∧ ks = [] else ∃ w2, wt = (if kd = 1 then 114 else 40) :: w2 ∧ lvs F pms ks w2 vs
theorem lvs_c {f : fR} {F : List fR} {pm : Bool} {pms : List Bool} {kd : Int} {cp : Bool} {ks : List (Int × Bool)} {wt vs : List Int} : lvs (f :: F) (pm :: pms) ((kd, cp) :: ks) wt vs ↔ lvW pm f ∧ (cp = true ↔ f.2.2.2.1 ≠ 0) ∧ (f.2.2.2.2.2.2.2.2 = 1 ↔ kd = 1) ∧ (F = [] ↔ kd = 0) ∧ (kd = 0 ∨ kd = 1 ∨ kd = 2) ∧ (kd = 1 → lvO pm f = [] ∧ lvV pm f = []) ∧ ∃ wt' vs', wt = lvO pm f ++ wt' ∧ vs = lvV pm f ++ vs' ∧ lvB F pms ks kd wt' vs' := Iff.rfl
theorem lvs_inv {F : List fR} {pms : List Bool} {ks : List (Int × Bool)} {wt vs : List Int} (h : lvs F pms ks wt vs) (hF : F ≠ []) : ∃ f F' pm pms' kd cp ks', F = f :: F' ∧ pms = pm :: pms' ∧ ks = (kd, cp) :: ks' := by
  cases F with
  | nil => exact absurd rfl hF
  | cons f F' =>
    cases pms with
    | nil => cases ks <;> exact h.elim
    | cons pm pms' =>
      cases ks with
      | nil => exact h.elim
      | cons q ks' => exact ⟨f, F', pm, pms', q.1, q.2, ks', rfl, rfl, rfl⟩
theorem lvB_B {F : List fR} {pms : List Bool} {ks : List (Int × Bool)} {kd : Int} {wt vs : List Int} (h : lvB F pms ks kd wt vs) : wB wt := by
  unfold lvB at h
  split at h
  · exact Or.inl h.1
  · obtain ⟨w2, h, -⟩ := h
    right
    refine ⟨w2, ?_⟩
    split at h
    · exact Or.inr h
    · exact Or.inl h
/-- a state of both reckonings: a part is wanted -/
def stW (F : List fR) (ks : List (Int × Bool)) (wt vs : List Int) : Prop := F ≠ [] ∧ ∃ pms, lvs F pms ks wt vs
/-- .. a part has come -/
def stH (F : List fR) (ks : List (Int × Bool)) (wt vs : List Int) : Prop := ∃ v f F' pms vs', F = fTerm v f :: F' ∧ r32 v ∧ lvs (f :: F') pms ks wt vs' ∧ vs = v :: vs' ∧ ∃ kd cp ks', ks = (kd, cp) :: ks' ∧ kd ≠ 1
theorem not_r {v : Int} : r32 (if v = 0 then 1 else 0) := by split <;> (unfold r32; omega)
theorem st_val {env : Int → Int} : ∀ (F : List fR) (pms : List Bool) (ks : List (Int × Bool)) (wt ro : List Int) (v : Int) (vs : List Int), F ≠ [] → lvs F pms ks wt vs → r32 v → evR env ro = v :: vs → stH (fVal v F) (vPop ks) (popN wt ro).1 (evR env (popN wt ro).2)
  | [], _, _, _, _, _, _, h, _, _, _ => absurd rfl h
  | f :: F, pms, ks, wt, ro, v, vs, _, h, hr, hv => by
    obtain ⟨f', F', pm, pms', kd, cp, ks', e1, e2, e3⟩ := lvs_inv h (by simp)
    cases e1
    subst e2; subst e3
    obtain ⟨h1, h2, h3, h4, h5, h6, wt', vs', h7, h8, h9⟩ := lvs_c.mp h
    by_cases hk : kd = 1
    · subst hk
      obtain ⟨q1, q2⟩ := h6 rfl
      rw [q1, List.nil_append] at h7
      rw [q2, List.nil_append] at h8
      have hF : F ≠ [] := fun z => by have := h4.mp z; omega
      unfold lvB at h9
      rw [if_neg hF, if_pos rfl] at h9
      obtain ⟨w2, h10, h11⟩ := h9
      subst h7; subst h8; subst h10
      have e4 : fVal v (f :: F) = fVal (if v = 0 then 1 else 0) F := by
        conv => lhs; unfold fVal
        rw [if_pos ⟨hF, h3.mpr rfl⟩]
      have e5 : vPop ((1, cp) :: ks') = vPop ks' := by
        conv => lhs; unfold vPop
        rw [if_pos rfl]
      rw [e4, e5, popN_go]
      have e6 : evR env (114 :: ro) = (if v = 0 then 1 else 0) :: vs := by
        rw [evR_c, hv]; rfl
      exact st_val F pms' ks' w2 (114 :: ro) _ vs hF h11 not_r e6
    · have e4 : fVal v (f :: F) = fTerm v f :: F := by
        unfold fVal
        rw [if_neg (fun z => hk (h3.mp z.2))]
      have e5 : vPop ((kd, cp) :: ks') = (kd, cp) :: ks' := by
        unfold vPop
        rw [if_neg hk]
      have e6 : popN wt ro = (wt, ro) := by
        cases wt with
        | nil => rfl
        | cons w wt0 =>
          apply popN_stay
          have hO := lvO_head h1
          cases hl : lvO pm f with
          | nil =>
            rw [hl, List.nil_append] at h7
            rcases lvB_B h9 with q | ⟨w2, q | q⟩
            · rw [q] at h7; cases h7
            · rw [q] at h7; cases h7; decide
            · unfold lvB at h9
              by_cases hF : F = []
              · rw [if_pos hF] at h9; rw [h9.1] at q; cases q
              · rw [if_neg hF, if_neg hk] at h9
                obtain ⟨w3, q3, -⟩ := h9
                rw [q3] at h7; cases h7; decide
          | cons o os =>
            rw [hl, List.cons_append] at h7
            cases h7
            exact (hO w (by rw [hl]; exact List.mem_cons_self)).1
      rw [e4, e5, e6]
      exact ⟨v, f, F, pm :: pms', vs, rfl, hr, h, hv, kd, cp, ks', rfl, hk⟩
theorem ite01_r {c : Prop} [Decidable c] : r32 (if c then (1 : Int) else 0) := by
  by_cases h : c
  · rw [if_pos h]; unfold r32; omega
  · rw [if_neg h]; unfold r32; omega
theorem ite_r {c : Prop} [Decidable c] {a b : Int} (h1 : r32 a) (h2 : r32 b) : r32 (if c then a else b) := by
  by_cases h : c
  · rw [if_pos h]; exact h1
  · rw [if_neg h]; exact h2
theorem fT_r (f : fR) : r32 (fTests f).1 := by
  obtain ⟨k, kb, a, ag, s, sb, t, tb, n⟩ := f
  exact ite_r ite01_r (ite_r ite01_r (ite_r ite01_r (ite_r ite01_r (ite_r (w32_r _) (w32_r _)))))
theorem fS_r (f : fR) : r32 (fSums f).2.2.2.2.1 := by
  obtain ⟨k, kb, a, ag, s, sb, t, tb, n⟩ := f
  show r32 (if sb = 21 then _ else _)
  split <;> exact w32_r _
theorem fTm_r {v : Int} {f : fR} (h : r32 v) : r32 (fTerm v f).2.2.2.2.2.2.1 := by
  obtain ⟨k, kb, a, ag, s, sb, t, tb, n⟩ := f
  show r32 (if tb = 0 then v else w32 (t * v))
  split
  · exact h
  · exact w32_r _
/-- one sign: where a part is wanted -/
theorem st_W {env Wn : Int → Int} (henv : ∀ s, r32 (env s)) (hW : ∀ w, r32 (Wn w)) {F : List fR} {ks : List (Int × Bool)} {wt ro : List Int} {c : Int} {q : vS} (h : stW F ks wt (evR env ro)) (hc : c ≤ 10099) (hv : vStep (true, ks) c = some q) :
    (q.1 = true ∧ stW (fStep env Wn F c) q.2 (shst Wn (wt, ro) c).1 (evR env (shst Wn (wt, ro) c).2)) ∨ (q.1 = false ∧ stH (fStep env Wn F c) q.2 (shst Wn (wt, ro) c).1 (evR env (shst Wn (wt, ro) c).2)) := by
  obtain ⟨hF, pms, hl⟩ := h
  obtain ⟨f, F', pm, pms', kd, cp, ks', e1, e2, e3⟩ := lvs_inv hl hF
  unfold vStep at hv
  simp only at hv
  by_cases c1 : c = 28
  · rw [if_pos c1] at hv
    cases hv
    subst c1
    refine Or.inl ⟨rfl, ?_⟩
    have e4 : fStep env Wn F 28 = fNew 0 :: F := by rw [e1]; rfl
    have e5 : shst Wn (wt, ro) 28 = (40 :: wt, ro) := rfl
    rw [e4, e5]
    refine ⟨by simp, false :: pms, lvs_c.mpr ⟨⟨Or.inl rfl, Or.inl rfl, fun _ => ⟨rfl, rfl⟩, Or.inl rfl, Or.inl rfl, Or.inl rfl, by show r32 0; unfold r32; omega, by show r32 0; unfold r32; omega⟩, ⟨fun z => (by cases z), fun z => absurd rfl z⟩, ⟨fun z => (by cases z), fun z => by omega⟩, ⟨fun z => absurd z hF, fun z => by omega⟩, by omega, fun z => by omega, 40 :: wt, evR env ro, rfl, rfl, ?_⟩⟩
    unfold lvB
    rw [if_neg hF]
    exact ⟨wt, rfl, hl⟩
  · rw [if_neg c1] at hv
    by_cases c2 : c = 30
    · rw [if_pos c2] at hv
      cases hv
      subst c2
      refine Or.inl ⟨rfl, ?_⟩
      have e4 : fStep env Wn F 30 = fNew 1 :: F := by rw [e1]; rfl
      have e5 : shst Wn (wt, ro) 30 = (114 :: wt, ro) := rfl
      rw [e4, e5]
      refine ⟨by simp, false :: pms, lvs_c.mpr ⟨⟨Or.inl rfl, Or.inl rfl, fun _ => ⟨rfl, rfl⟩, Or.inl rfl, Or.inl rfl, Or.inr rfl, by show r32 0; unfold r32; omega, by show r32 0; unfold r32; omega⟩, ⟨fun z => (by cases z), fun z => absurd rfl z⟩, ⟨fun _ => rfl, fun _ => rfl⟩, ⟨fun z => absurd z hF, fun z => by omega⟩, by omega, fun _ => ⟨rfl, rfl⟩, 114 :: wt, evR env ro, rfl, rfl, ?_⟩⟩
      unfold lvB
      rw [if_neg hF]
      exact ⟨wt, rfl, hl⟩
    · rw [if_neg c2] at hv
      cases hp : isPart c with
      | false => rw [hp] at hv; cases hv
      | true =>
        rw [hp, if_pos rfl] at hv
        cases hv
        refine Or.inr ⟨rfl, ?_⟩
        unfold isPart at hp
        have hp := of_decide_eq_true hp
        have e4 : fStep env Wn F c = fVal (opd env Wn c) F := by
          rw [e1]
          unfold fStep
          dsimp only
          rw [if_neg c1, if_neg c2, if_neg (by omega), if_neg (by omega), if_neg (by omega), if_neg (by omega), if_neg (by omega)]
        have e5 : shst Wn (wt, ro) c = popN wt (xCode Wn c :: ro) := by
          unfold shst
          rw [if_neg c1, if_neg c2, if_neg (by unfold isOp; simp; omega), if_neg (by omega)]
        rw [e4, e5]
        have e6 : evR env (xCode Wn c :: ro) = opd env Wn c :: evR env ro := by
          rw [evR_c]
          unfold xCode opd stp
          by_cases d1 : c ≤ 10
          · rw [if_pos d1, if_pos d1, if_neg (by omega), if_pos (by omega)]
            congr 2
            omega
          · rw [if_neg d1, if_neg d1]
            by_cases d2 : c < 20
            · rw [if_pos d2, if_pos d2, if_pos (by omega)]
              congr 1
              omega
            · rw [if_neg d2, if_neg d2, if_pos (by omega)]
              congr 1
              omega
        have e7 : r32 (opd env Wn c) := by
          unfold opd
          split
          · exact henv _
          · split
            · exact hW _
            · unfold r32; omega
        exact st_val F pms ks wt _ _ _ hF hl e7 e6
theorem popR3_of {r : Int} (h : (if r = 2 then (3 : Int) else r) = if r = 2 then 3 else r) : True := trivial
/-- one sign: behind a part -/
theorem st_H {env Wn : Int → Int} {F : List fR} {ks : List (Int × Bool)} {wt ro : List Int} {c : Int} {q : vS} (h : stH F ks wt (evR env ro)) (hv : vStep (false, ks) c = some q) :
    (q.1 = true ∧ stW (fStep env Wn F c) q.2 (shst Wn (wt, ro) c).1 (evR env (shst Wn (wt, ro) c).2)) ∨ (q.1 = false ∧ stH (fStep env Wn F c) q.2 (shst Wn (wt, ro) c).1 (evR env (shst Wn (wt, ro) c).2)) := by
  obtain ⟨v, f, F', pms, vs', e1, hr, hl, e2, kd, cp, ks', e3, hk⟩ := h
  subst e1; subst e3
  obtain ⟨f', F2, pm, pms', kd', cp', ks2, e4, e5, e6⟩ := lvs_inv hl (by simp)
  cases e4; cases e6
  subst e5
  obtain ⟨h1, h2, h3, h4, h5, h6, wt', vs2, h7, h8, h9⟩ := lvs_c.mp hl
  subst h7; subst h8
  have hB := lvB_B h9
  obtain ⟨k, kb, a, ag, s, sb, t, tb, n⟩ := f
  have h1' := h1
  obtain ⟨htb, hsb, hpm, hag, hkb, hn, ht, hs⟩ := h1'
  have hag2 : cp = true ↔ ag ≠ 0 := h2
  have hn2 : n = 1 ↔ kd = 1 := h3
  unfold vStep at hv
  simp only at hv
  have hTr := fTm_r (f := (k, kb, a, ag, s, sb, t, tb, n)) hr
  by_cases c1 : c = 20 ∨ c = 21 ∨ c = 22
  · rw [if_pos c1] at hv
    cases hv
    refine Or.inl ⟨rfl, ?_⟩
    by_cases c2 : c = 22
    · subst c2
      obtain ⟨ro', p1, p2⟩ := pop4 h1 hB e2
      have e7 : shst Wn (lvO pm (k, kb, a, ag, s, sb, t, tb, n) ++ wt', ro) 22 = (42 :: (lvO pm (k, kb, a, ag, s, sb, t, 0, n) ++ wt'), ro') := by
        show (42 :: (popR 4 _ ro).1, (popR 4 _ ro).2) = _
        rw [p1]
      rw [e7]
      refine ⟨by unfold fStep; simp, pm :: pms', ?_⟩
      show lvs ((k, kb, a, ag, s, sb, (fTerm v (k, kb, a, ag, s, sb, t, tb, n)).2.2.2.2.2.2.1, 22, n) :: F') (pm :: pms') ((kd, cp) :: ks') _ _
      refine lvs_c.mpr ⟨⟨Or.inr rfl, hsb, hpm, hag, hkb, hn, hTr, hs⟩, h2, h3, h4, h5, fun z => absurd z hk, wt', vs2, rfl, ?_, h9⟩
      rw [p2]
      rfl
    · have hc : c = 20 ∨ c = 21 := by omega
      obtain ⟨ro', p1, p2⟩ := pop3 h1 hr hB e2
      have e7 : shst Wn (lvO pm (k, kb, a, ag, s, sb, t, tb, n) ++ wt', ro) c = (xOp c :: (lvO false (k, kb, a, ag, 0, 20, 0, 0, n) ++ wt'), ro') := by
        rcases hc with hc | hc <;> subst hc
        · show (43 :: (popR 3 _ ro).1, (popR 3 _ ro).2) = _
          rw [p1]; rfl
        · show (45 :: (popR 3 _ ro).1, (popR 3 _ ro).2) = _
          rw [p1]; rfl
      rw [e7]
      have hSr := fS_r (fTerm v (k, kb, a, ag, s, sb, t, tb, n))
      generalize hS : (fSums (fTerm v (k, kb, a, ag, s, sb, t, tb, n))).2.2.2.2.1 = S at p2 hSr
      have e8 : fStep env Wn (fTerm v (k, kb, a, ag, s, sb, t, tb, n) :: F') c = (k, kb, a, ag, S, c, (fTerm v (k, kb, a, ag, s, sb, t, tb, n)).2.2.2.2.2.2.1, 0, n) :: F' := by
        rw [← hS]
        rcases hc with hc | hc <;> (subst hc; rfl)
      rw [e8]
      refine ⟨by simp, true :: pms', lvs_c.mpr ⟨⟨Or.inl rfl, hc, fun z => (by cases z), hag, hkb, hn, hTr, hSr⟩, h2, h3, h4, h5, fun z => absurd z hk, wt', vs2, rfl, ?_, h9⟩⟩
      rw [p2]
      rfl
  · rw [if_neg c1] at hv
    by_cases c3 : c = 24 ∨ c = 25
    · rw [if_pos c3] at hv
      cases hcp : cp with
      | true => rw [hcp] at hv; cases hv
      | false =>
        rw [hcp] at hv
        cases hv
        refine Or.inl ⟨rfl, ?_⟩
        have hag0 : ag = 0 := by
          by_cases z : ag = 0
          · exact z
          · have := hag2.mpr z; rw [hcp] at this; cases this
        subst hag0
        obtain ⟨ro', p1, p2⟩ := pop3 h1 hr hB e2
        have e7 : shst Wn (lvO pm (k, kb, a, 0, s, sb, t, tb, n) ++ wt', ro) c = (xOp c :: (lvO false (k, kb, a, 0, 0, 20, 0, 0, n) ++ wt'), ro') := by
          rcases c3 with hc | hc <;> subst hc
          · show (60 :: (popR 3 _ ro).1, (popR 3 _ ro).2) = _
            rw [p1]; rfl
          · show (61 :: (popR 3 _ ro).1, (popR 3 _ ro).2) = _
            rw [p1]; rfl
        rw [e7]
        generalize hS : (fSums (fTerm v (k, kb, a, 0, s, sb, t, tb, n))).2.2.2.2.1 = S at p2
        have e8 : fStep env Wn (fTerm v (k, kb, a, 0, s, sb, t, tb, n) :: F') c = (k, kb, S, c, 0, 20, (fTerm v (k, kb, a, 0, s, sb, t, tb, n)).2.2.2.2.2.2.1, 0, n) :: F' := by
          rw [← hS]
          rcases c3 with hc | hc <;> (subst hc; rfl)
        rw [e8]
        refine ⟨by simp, false :: pms', lvs_c.mpr ⟨⟨Or.inl rfl, Or.inl rfl, fun _ => ⟨rfl, rfl⟩, Or.inr c3, hkb, hn, hTr, by show r32 0; unfold r32; omega⟩, ⟨fun _ => by show c ≠ 0; omega, fun _ => rfl⟩, h3, h4, h5, fun z => absurd z hk, wt', vs2, ?_, ?_, h9⟩⟩
        · rcases c3 with hc | hc <;> (subst hc; rfl)
        · rw [p2]
          rcases c3 with hc | hc <;> (subst hc; rfl)
    · rw [if_neg c3] at hv
      by_cases c4 : c = 26 ∨ c = 27
      · rw [if_pos c4] at hv
        cases hv
        refine Or.inl ⟨rfl, ?_⟩
        obtain ⟨ro', p1, p2⟩ := pop1 h1 hr hB e2
        have e7 : shst Wn (lvO pm (k, kb, a, ag, s, sb, t, tb, n) ++ wt', ro) c = (xOp c :: wt', ro') := by
          rcases c4 with hc | hc <;> subst hc
          · show (115 :: (popR 1 _ ro).1, (popR 1 _ ro).2) = _
            rw [p1]; rfl
          · show (116 :: (popR 1 _ ro).1, (popR 1 _ ro).2) = _
            rw [p1]; rfl
        rw [e7]
        generalize hS : (fTests (fTerm v (k, kb, a, ag, s, sb, t, tb, n))).1 = S at p2
        have e8 : fStep env Wn (fTerm v (k, kb, a, ag, s, sb, t, tb, n) :: F') c = (S, c, a, 0, 0, 20, (fTerm v (k, kb, a, ag, s, sb, t, tb, n)).2.2.2.2.2.2.1, 0, n) :: F' := by
          rw [← hS]
          rcases c4 with hc | hc <;> (subst hc; rfl)
        rw [e8]
        refine ⟨by simp, false :: pms', lvs_c.mpr ⟨⟨Or.inl rfl, Or.inl rfl, fun _ => ⟨rfl, rfl⟩, Or.inl rfl, Or.inr c4, hn, hTr, by show r32 0; unfold r32; omega⟩, ⟨fun z => (by cases z), fun z => absurd rfl z⟩, h3, h4, h5, fun z => absurd z hk, wt', vs2, ?_, ?_, h9⟩⟩
        · rcases c4 with hc | hc <;> (subst hc; rfl)
        · rw [p2]
          rcases c4 with hc | hc <;> (subst hc; rfl)
      · rw [if_neg c4] at hv
        by_cases c5 : c = 29
        · rw [if_pos c5] at hv
          by_cases c6 : kd = 2
          · rw [if_pos c6] at hv
            cases hv
            subst c5; subst c6
            refine Or.inr ⟨rfl, ?_⟩
            obtain ⟨ro', p1, p2⟩ := pop1 h1 hr hB e2
            have hF : F' ≠ [] := fun z => by have := h4.mp z; omega
            unfold lvB at h9
            rw [if_neg hF, if_neg (by decide)] at h9
            obtain ⟨w2, h10, h11⟩ := h9
            have e7 : shst Wn (lvO pm (k, kb, a, ag, s, sb, t, tb, n) ++ wt', ro) 29 = popN w2 ro' := by
              show popN (popR 1 _ ro).1.tail (popR 1 _ ro).2 = _
              rw [p1, h10]; rfl
            rw [e7]
            have e8 : fStep env Wn (fTerm v (k, kb, a, ag, s, sb, t, tb, n) :: F') 29 = fVal (fTests (fTerm v (k, kb, a, ag, s, sb, t, tb, n))).1 F' := rfl
            rw [e8]
            exact st_val F' pms' ks' w2 ro' _ vs2 hF h11 (fT_r _) p2
          · rw [if_neg c6] at hv; cases hv
        · rw [if_neg c5] at hv; cases hv
/-- all signs, one by one -/
theorem st_run {env Wn : Int → Int} (henv : ∀ s, r32 (env s)) (hW : ∀ w, r32 (Wn w)) : ∀ (L : List Int) (F : List fR) (ks : List (Int × Bool)) (b b' : Bool) (wt ro : List Int) (ks' : List (Int × Bool)), (∀ c ∈ L, c ≤ 10099) →
    (if b = true then stW F ks wt (evR env ro) else stH F ks wt (evR env ro)) → vRun L (some (b, ks)) = some (b', ks') →
    if b' = true then stW (L.foldl (fStep env Wn) F) ks' (L.foldl (shst Wn) (wt, ro)).1 (evR env (L.foldl (shst Wn) (wt, ro)).2) else stH (L.foldl (fStep env Wn) F) ks' (L.foldl (shst Wn) (wt, ro)).1 (evR env (L.foldl (shst Wn) (wt, ro)).2)
  | [], F, ks, b, b', wt, ro, ks', _, h, hv => by
    cases hv
    exact h
  | c :: L, F, ks, b, b', wt, ro, ks', hc, h, hv => by
    have hv2 : vRun L (vStep (b, ks) c) = some (b', ks') := hv
    cases hq : vStep (b, ks) c with
    | none =>
      rw [hq] at hv2
      have : ∀ L : List Int, vRun L none = none := by
        intro L
        induction L with
        | nil => rfl
        | cons c L ih => exact ih
      rw [this] at hv2
      cases hv2
    | some q =>
      rw [hq] at hv2
      obtain ⟨q1, q2⟩ := q
      have key : (q1 = true ∧ stW (fStep env Wn F c) q2 (shst Wn (wt, ro) c).1 (evR env (shst Wn (wt, ro) c).2)) ∨ (q1 = false ∧ stH (fStep env Wn F c) q2 (shst Wn (wt, ro) c).1 (evR env (shst Wn (wt, ro) c).2)) := by
        cases b with
        | true => exact st_W henv hW h (hc c List.mem_cons_self) hq
        | false => exact st_H h hq
      have hc2 : ∀ c ∈ L, c ≤ 10099 := fun c' h' => hc c' (List.mem_cons_of_mem _ h')
      have := st_run henv hW L (fStep env Wn F c) q2 q1 b' (shst Wn (wt, ro) c).1 (shst Wn (wt, ro) c).2 ks' hc2 (by
        rcases key with ⟨k1, k2⟩ | ⟨k1, k2⟩
        · rw [if_pos k1]; exact k2
        · rw [if_neg (by rw [k1]; decide)]; exact k2) hv2
      exact this
/-- an E reckons the same on both sides -/
theorem ifx_conv {env Wn : Int → Int} (henv : ∀ s, r32 (env s)) (hW : ∀ w, r32 (Wn w)) {L : List Int} (hc : ∀ c ∈ L, c ≤ 10099) (h : okE L) : evR env (convR Wn L) = [ifx env Wn L] := by
  obtain ⟨b, hb⟩ := h
  have h0 : stW [fNew 0] [(0, false)] [] (evR env []) := by
    refine ⟨by simp, [false], lvs_c.mpr ⟨⟨Or.inl rfl, Or.inl rfl, fun _ => ⟨rfl, rfl⟩, Or.inl rfl, Or.inl rfl, Or.inl rfl, by show r32 0; unfold r32; omega, by show r32 0; unfold r32; omega⟩, ⟨fun z => (by cases z), fun z => absurd rfl z⟩, ⟨fun z => (by cases z), fun z => (by cases z)⟩, ⟨fun _ => rfl, fun _ => rfl⟩, Or.inl rfl, fun z => (by cases z), [], [], rfl, rfl, ?_⟩⟩
    unfold lvB
    rw [if_pos rfl]
    exact ⟨rfl, rfl, rfl, rfl⟩
  have h1 := st_run henv hW L [fNew 0] [(0, false)] true false [] [] [(0, b)] hc (by rw [if_pos rfl]; exact h0) hb
  rw [if_neg (by decide)] at h1
  obtain ⟨v, f, F', pms, vs', e1, hr, hl, e2, kd, cp, ks', e3, hk⟩ := h1
  obtain ⟨f', F2, pm, pms', kd', cp', ks2, e4, e5, e6⟩ := lvs_inv hl (by simp)
  cases e4; cases e6
  subst e5
  cases e3
  obtain ⟨h1, h2, h3, h4, h5, h6, wt', vs2, h7, h8, h9⟩ := lvs_c.mp hl
  have hF : F' = [] := h4.mpr rfl
  subst hF
  unfold lvB at h9
  rw [if_pos rfl] at h9
  obtain ⟨h10, h11, -, -⟩ := h9
  subst h10; subst h11; subst h8
  obtain ⟨k, kb, a, ag, s, sb, t, tb, n⟩ := f
  obtain ⟨ro', p1, p2⟩ := pop1 (env := env) (W := []) (V := []) h1 hr (Or.inl rfl) e2
  have e7 : convR Wn L = ro' := by
    show (popR 1 (L.foldl (shst Wn) ([], [])).1 (L.foldl (shst Wn) ([], [])).2).2 = ro'
    rw [h7, p1]
  have e8 : ifx env Wn L = (fTests (fTerm v (k, kb, a, ag, s, sb, t, tb, n))).1 := by
    show (match L.foldl (fStep env Wn) [fNew 0] with
      | f :: _ => (fTests f).1
      | [] => 0) = _
    rw [e1]
  rw [e7, e8, p2]
