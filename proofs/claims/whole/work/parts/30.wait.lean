/-! An E read: the state of both readings, what waits with the class. -/
def wi : List Int → Int
  | [] => 0
  | w :: wt => (if w = 40 ∨ w = 114 then 1 else 0) + wi wt
theorem wi_app : ∀ a b : List Int, wi (a ++ b) = wi a + wi b
  | [], b => by show wi b = 0 + wi b; omega
  | w :: a, b => by
    show (if w = 40 ∨ w = 114 then 1 else 0) + wi (a ++ b) = (if w = 40 ∨ w = 114 then 1 else 0) + wi a + wi b
    rw [wi_app a b]; omega
theorem wi_no : ∀ a : List Int, (∀ w ∈ a, w ≠ 114 ∧ w ≠ 40 ∧ 1 ≤ rk w) → wi a = 0
  | [], _ => rfl
  | w :: a, h => by
    have h1 := h w List.mem_cons_self
    show (if w = 40 ∨ w = 114 then 1 else 0) + wi a = 0
    rw [if_neg (by omega), wi_no a (fun w' h' => h w' (List.mem_cons_of_mem _ h'))]
    rfl
theorem lvs_wi : ∀ (F : List fR) (pms : List Bool) (ks : List (Int × Bool)) (wt vs : List Int), F ≠ [] → lvs F pms ks wt vs → wi wt + 1 = ks.length
  | [], _, _, _, _, h, _ => absurd rfl h
  | f :: F, pms, ks, wt, vs, _, h => by
    obtain ⟨f', F', pm, pms', kd, cp, ks', e1, e2, e3⟩ := lvs_inv h (by simp)
    cases e1
    subst e2; subst e3
    obtain ⟨h1, h2, h3, h4, h5, h6, wt', vs', h7, h8, h9⟩ := lvs_c.mp h
    have h10 := wi_no _ (lvO_head h1)
    unfold lvB at h9
    by_cases hF : F = []
    · rw [if_pos hF] at h9
      rw [h7, h9.1, h9.2.2.2, wi_app, h10]
      rfl
    · rw [if_neg hF] at h9
      obtain ⟨w2, h11, h12⟩ := h9
      have := lvs_wi F pms' ks' w2 vs' hF h12
      rw [h7, h11, wi_app, h10, List.length_cons]
      have e : wi ((if kd = 1 then 114 else 40) :: w2) = 1 + wi w2 := by
        show (if (if kd = 1 then (114 : Int) else 40) = 40 ∨ (if kd = 1 then (114 : Int) else 40) = 114 then 1 else 0) + wi w2 = 1 + wi w2
        rw [if_pos]
        by_cases q : kd = 1
        · rw [if_pos q]; right; rfl
        · rw [if_neg q]; left; rfl
      rw [e]
      omega
/-- both readings of the signs so far: the signs, whether a part is wanted, the levels, what waits, the codes -/
def EX (Wn : Int → Int) (L : List Int) (b : Bool) (ks : List (Int × Bool)) (wt ro : List Int) : Prop :=
  vRun L (some (true, [(0, false)])) = some (b, ks) ∧ shunt Wn L = (wt, ro) ∧ (if b = true then stW (L.foldl (fStep (fun _ => 0) Wn) [fNew 0]) ks wt (evR (fun _ => 0) ro) else stH (L.foldl (fStep (fun _ => 0) Wn) [fNew 0]) ks wt (evR (fun _ => 0) ro)) ∧ hS b (wt, ro)
theorem EX_nil {Wn : Int → Int} : EX Wn [] true [(0, false)] [] [] := by
  refine ⟨rfl, rfl, ?_, fun w hw => (by cases hw), rfl⟩
  rw [if_pos rfl]
  refine ⟨by simp, [false], lvs_c.mpr ⟨⟨Or.inl rfl, Or.inl rfl, fun _ => ⟨rfl, rfl⟩, Or.inl rfl, Or.inl rfl, Or.inl rfl, by show r32 0; unfold r32; omega, by show r32 0; unfold r32; omega⟩, ⟨fun z => (by cases z), fun z => absurd rfl z⟩, ⟨fun z => (by cases z), fun z => (by cases z)⟩, ⟨fun _ => rfl, fun _ => rfl⟩, Or.inl rfl, fun z => (by cases z), [], [], rfl, rfl, ?_⟩⟩
  unfold lvB
  rw [if_pos rfl]
  exact ⟨rfl, rfl, rfl, rfl⟩
theorem vRun_app (c : Int) : ∀ (L : List Int) (q : Option vS), vRun (L ++ [c]) q = (vRun L q).bind (fun s => vStep s c)
  | [], q => rfl
  | d :: L, q => vRun_app c L _
theorem EX_len {Wn : Int → Int} {L : List Int} {b : Bool} {ks : List (Int × Bool)} {wt ro : List Int} (h : EX Wn L b ks wt ro) : wt.length + 1 ≤ 5 * ks.length ∧ wi wt + 1 = ks.length := by
  obtain ⟨h1, h2, h3, h4⟩ := h
  cases b with
  | true =>
    rw [if_pos rfl] at h3
    obtain ⟨hF, pms, hl⟩ := h3
    exact ⟨lvs_len _ _ _ _ _ hF hl, lvs_wi _ _ _ _ _ hF hl⟩
  | false =>
    rw [if_neg (by decide)] at h3
    obtain ⟨v, f, F', pms, vs', e1, hr, hl, -⟩ := h3
    exact ⟨lvs_len _ _ _ _ _ (by simp) hl, lvs_wi _ _ _ _ _ (by simp) hl⟩
/-- behind a part: what taking away from 1 or from 3 on leaves -/
theorem EX_pop {Wn : Int → Int} {L : List Int} {ks : List (Int × Bool)} {wt ro : List Int} (h : EX Wn L false ks wt ro) : ∃ kd cp ks', ks = (kd, cp) :: ks' ∧ (kd = 0 ∨ kd = 2) ∧ (kd = 0 ↔ ks' = []) ∧ (kd = 0 → (popR 1 wt ro).1 = []) ∧ (kd = 2 → ∃ w2, (popR 1 wt ro).1 = 40 :: w2) ∧ (cp = true → ∃ w r, (popR 3 wt ro).1 = w :: r ∧ rk w = 2) ∧ (cp = false → (popR 3 wt ro).1 = [] ∨ ∃ w r, (popR 3 wt ro).1 = w :: r ∧ rk w ≠ 2) := by
  obtain ⟨h1, h2, h3, h4⟩ := h
  rw [if_neg (by decide)] at h3
  obtain ⟨v, f, F', pms, vs', e1, hr, hl, e2, kd, cp, ks', e3, hk⟩ := h3
  subst e3
  obtain ⟨f', F2, pm, pms', kd', cp', ks2, e4, e5, e6⟩ := lvs_inv hl (by simp)
  cases e4; cases e6
  subst e5
  obtain ⟨g1, g2, g3, g4, g5, g6, wt', vs2, g7, g8, g9⟩ := lvs_c.mp hl
  subst g7; subst g8
  have hB := lvB_B g9
  obtain ⟨k, kb, a, ag, s, sb, t, tb, n⟩ := f
  obtain ⟨ro1, p1, -⟩ := pop1 (env := fun _ => 0) g1 hr hB e2
  obtain ⟨ro3, p3, -⟩ := pop3 (env := fun _ => 0) g1 hr hB e2
  obtain ⟨htb, hsb, hpm, hag, hkb, hn, ht, hs⟩ := g1
  have g2' : cp = true ↔ ag ≠ 0 := g2
  refine ⟨kd, cp, ks', rfl, by omega, ?_, ?_, ?_, ?_, ?_⟩
  · unfold lvB at g9
    by_cases hF : F' = []
    · rw [if_pos hF] at g9
      exact ⟨fun _ => g9.2.2.2, fun _ => g4.mp hF⟩
    · rw [if_neg hF] at g9
      obtain ⟨w2, -, q⟩ := g9
      obtain ⟨_, _, _, _, _, _, _, _, _, q3⟩ := lvs_inv q hF
      constructor
      · intro z; exact absurd (g4.mpr z) hF
      · intro z; rw [z] at q3; cases q3
  · intro z
    rw [p1]
    unfold lvB at g9
    rw [if_pos (g4.mpr z)] at g9
    exact g9.1
  · intro z
    rw [p1]
    unfold lvB at g9
    rw [if_neg (fun y => by have := g4.mp y; omega), if_neg hk] at g9
    obtain ⟨w2, q, -⟩ := g9
    exact ⟨w2, q⟩
  · intro z
    rw [p3]
    have := g2'.mp z
    rcases hag with q | q | q
    · exact absurd q this
    · subst q; exact ⟨60, _, rfl, rfl⟩
    · subst q; exact ⟨61, _, rfl, rfl⟩
  · intro z
    rw [p3]
    have hag0 : ag = 0 := by
      by_cases y : ag = 0
      · exact y
      · have := g2'.mpr y; rw [z] at this; cases this
    subst hag0
    rcases hkb with q | q | q
    · subst q
      show wt' = [] ∨ ∃ w r, wt' = w :: r ∧ rk w ≠ 2
      rcases hB with y | ⟨w2, y | y⟩
      · exact Or.inl y
      · exact Or.inr ⟨40, w2, y, by decide⟩
      · exact Or.inr ⟨114, w2, y, by decide⟩
    · subst q; exact Or.inr ⟨115, _, rfl, by decide⟩
    · subst q; exact Or.inr ⟨116, _, rfl, by decide⟩
theorem EX_step {Wn : Int → Int} (hW : ∀ w, r32 (Wn w)) {L : List Int} {b b' : Bool} {ks ks' : List (Int × Bool)} {wt ro : List Int} {c : Int} (h : EX Wn L b ks wt ro) (hv : vStep (b, ks) c = some (b', ks')) (hc : c ≤ 10099) (hk : ks.length ≤ 6) : EX Wn (L ++ [c]) b' ks' (shst Wn (wt, ro) c).1 (shst Wn (wt, ro) c).2 := by
  have hlen := EX_len h
  have hpop : b = false → c = 29 → ∃ w2, (popR 1 wt ro).1 = 40 :: w2 := by
    intro hb h29
    subst hb; subst h29
    obtain ⟨kd, cp, ks0, e, h0, h00, h1, h2, -⟩ := EX_pop h
    subst e
    unfold vStep at hv
    dsimp only at hv
    rw [if_neg (by decide), if_neg (by decide), if_neg (by decide), if_pos rfl] at hv
    by_cases q : kd = 2
    · exact h2 q
    · rw [if_neg q] at hv; cases hv
  obtain ⟨h1, h2, h3, h4⟩ := h
  refine ⟨by rw [vRun_app, h1]; exact hv, ?_, ?_, ?_⟩
  · unfold shunt at *
    rw [List.foldl_append, h2]
    rfl
  · rw [List.foldl_append]
    show if b' = true then stW (fStep (fun _ => 0) Wn _ c) _ _ _ else stH (fStep (fun _ => 0) Wn _ c) _ _ _
    cases b with
    | true =>
      rw [if_pos rfl] at h3
      rcases st_W (env := fun _ => 0) (fun _ => by unfold r32; omega) hW h3 hc hv with ⟨a1, a2⟩ | ⟨a1, a2⟩
      · dsimp only at a1; rw [if_pos a1]; exact a2
      · dsimp only at a1; rw [a1, if_neg (by decide)]; exact a2
    | false =>
      rw [if_neg (by decide)] at h3
      rcases st_H h3 hv with ⟨a1, a2⟩ | ⟨a1, a2⟩
      · dsimp only at a1; rw [if_pos a1]; exact a2
      · dsimp only at a1; rw [a1, if_neg (by decide)]; exact a2
  · refine shst_h h4 hv (by show wt.length ≤ 63; omega) (fun h29 => ?_)
    cases b with
    | true =>
      subst h29
      unfold vStep at hv
      dsimp only at hv
      rw [if_neg (by decide), if_neg (by decide), if_neg (by decide)] at hv
      cases hv
    | false => exact hpop rfl h29
/-- how long both lists are together -/
theorem popR_len (r : Int) : ∀ wt ro : List Int, (popR r wt ro).1.length + (popR r wt ro).2.length = wt.length + ro.length
  | [], ro => rfl
  | w :: wt, ro => by
    by_cases q : r ≤ rk w
    · rw [popR_t q, popR_len r wt, List.length_cons, List.length_cons]; omega
    · rw [popR_f q]
theorem popN_len : ∀ wt ro : List Int, (popN wt ro).1.length + (popN wt ro).2.length = wt.length + ro.length
  | [], ro => rfl
  | w :: wt, ro => by
    by_cases q : w = 114
    · subst q; rw [popN_go, popN_len wt, List.length_cons, List.length_cons]; omega
    · rw [popN_stay q]
theorem shst_len (Wn : Int → Int) (wt ro : List Int) (c : Int) : (shst Wn (wt, ro) c).1.length + (shst Wn (wt, ro) c).2.length ≤ wt.length + ro.length + 1 := by
  unfold shst
  split
  · simp only [List.length_cons]; omega
  · split
    · simp only [List.length_cons]; omega
    · split
      · have := popR_len (if rk (xOp c) = 2 then 3 else rk (xOp c)) wt ro
        simp only [List.length_cons]; omega
      · split
        · have h1 := popR_len 1 wt ro
          have h2 := popN_len (popR 1 wt ro).1.tail (popR 1 wt ro).2
          rw [List.length_tail] at h2
          dsimp only
          omega
        · have h2 := popN_len wt (xCode Wn c :: ro)
          rw [List.length_cons] at h2
          dsimp only
          omega
/-- what waits, in the row -/
def stk (g : Int → Int) : Int → List Int → Prop
  | n, [] => n = 0
  | n, w :: r => g (n - 1) = w ∧ stk g (n - 1) r
theorem stk_n {g : Int → Int} : ∀ (l : List Int) (n : Int), stk g n l → n = l.length
  | [], n, h => h
  | w :: l, n, h => by have := stk_n l (n - 1) h.2; rw [List.length_cons]; omega
theorem stk_c {g g' : Int → Int} : ∀ (l : List Int) (n : Int), (∀ i, 0 ≤ i → i < n → g' i = g i) → stk g n l → stk g' n l
  | [], n, _, h => h
  | w :: l, n, hg, h => by
    have := stk_n (w :: l) n h
    rw [List.length_cons] at this
    exact ⟨by rw [hg (n - 1) (by omega) (by omega)]; exact h.1, stk_c l (n - 1) (fun i a b => hg i a (by omega)) h.2⟩
/-- codes from a place on, the last first -/
def rsg (g : Int → Int) (p : Int) : List Int → Prop
  | [] => True
  | c :: r => g (p + r.length) = c ∧ rsg g p r
theorem rsg_c {g g' : Int → Int} {p : Int} : ∀ (l : List Int), (∀ i, p ≤ i → i < p + l.length → g' i = g i) → rsg g p l → rsg g' p l
  | [], _, _ => trivial
  | c :: l, hg, h => by
    rw [List.length_cons] at hg
    exact ⟨by rw [hg _ (by omega) (by omega)]; exact h.1, rsg_c l (fun i a b => hg i a (by omega)) h.2⟩
