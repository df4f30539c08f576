/-! The promise of needs: the reference's walks. -/
/-- u: what is over at the end of some way from l on, v ahead of it -/
def WS (R : Int → List Int) (ν : am_M) : Nat → Int → (Int → Int) → (Int → Int) → Prop
  | 0, _, _, _ => False
  | n + 1, l, v, u => if ν 1002 l = 8 then u = vad R ν v l else if ν 1002 l = 5 then (WS R ν n (l + 1) (vad R ν v l) u ∨ WS R ν n (ν 1008 l + 1) (vad R ν v l) u) else if ν 1002 l = 6 then WS R ν n (ν 1009 l + 1) (vad R ν v l) u else WS R ν n (l + 1) (vad R ν v l) u
theorem WS_8 {R : Int → List Int} {ν : am_M} {n : Nat} {l : Int} {v u : Int → Int} (h : ν 1002 l = 8) : WS R ν (n + 1) l v u ↔ u = vad R ν v l := by
  show (if ν 1002 l = 8 then _ else _) ↔ _
  rw [if_pos h]
theorem WS_5 {R : Int → List Int} {ν : am_M} {n : Nat} {l : Int} {v u : Int → Int} (h : ν 1002 l = 5) : WS R ν (n + 1) l v u ↔ (WS R ν n (l + 1) (vad R ν v l) u ∨ WS R ν n (ν 1008 l + 1) (vad R ν v l) u) := by
  show (if ν 1002 l = 8 then _ else if ν 1002 l = 5 then _ else _) ↔ _
  rw [if_neg (by omega), if_pos h]
theorem WS_6 {R : Int → List Int} {ν : am_M} {n : Nat} {l : Int} {v u : Int → Int} (h : ν 1002 l = 6) : WS R ν (n + 1) l v u ↔ WS R ν n (ν 1009 l + 1) (vad R ν v l) u := by
  show (if ν 1002 l = 8 then _ else if ν 1002 l = 5 then _ else if ν 1002 l = 6 then _ else _) ↔ _
  rw [if_neg (by omega), if_neg (by omega), if_pos h]
theorem WS_o {R : Int → List Int} {ν : am_M} {n : Nat} {l : Int} {v u : Int → Int} (h8 : ν 1002 l ≠ 8) (h5 : ν 1002 l ≠ 5) (h6 : ν 1002 l ≠ 6) : WS R ν (n + 1) l v u ↔ WS R ν n (l + 1) (vad R ν v l) u := by
  show (if ν 1002 l = 8 then _ else if ν 1002 l = 5 then _ else if ν 1002 l = 6 then _ else _) ↔ _
  rw [if_neg h8, if_neg h5, if_neg h6]
def mx0 (x : Int) : Int := if 0 < x then x else 0
def hvF (tw : Int) (on : Int → Int) (g : Int → Int) (s : Int) : Int := if tw = 0 then (if on s = 0 then 0 else mx0 (w32 (-(g s)))) else mx0 (g s)
def fsm (h : Int → Int) : Nat → Int → Int → Int
  | 0, a, _ => a
  | n + 1, a, i => fsm h n (w32 (a + h i)) (i + 1)
theorem fsm_c {h h' : Int → Int} : ∀ (n : Nat) (a i : Int), (∀ s, i ≤ s → s < i + n → h' s = h s) → fsm h' n a i = fsm h n a i
  | 0, _, _, _ => rfl
  | n + 1, a, i, e => by
    show fsm h' n (w32 (a + h' i)) (i + 1) = fsm h n (w32 (a + h i)) (i + 1)
    rw [e i (Int.le_refl _) (by omega)]
    exact fsm_c n _ _ (fun s p q => e s (by omega) (by omega))
/-- what a way costs: twins (tw = 1) or burnings (tw = 0) -/
def vF (tw : Int) (on : Int → Int) (u : Int → Int) : Int := fsm (hvF tw on (fun s => w32 (u s))) 10 0 0
theorem vF_c {tw : Int} {on on' u u' : Int → Int} (h : ∀ s, 0 ≤ s → s < 10 → w32 (u' s) = w32 (u s)) (ho : ∀ s, 0 ≤ s → s < 10 → (on' s = 0 ↔ on s = 0)) : vF tw on' u' = vF tw on u := by
  unfold vF
  refine fsm_c 10 0 0 (fun s p q => ?_)
  unfold hvF
  show (if tw = 0 then (if on' s = 0 then 0 else mx0 (w32 (-(w32 (u' s))))) else mx0 (w32 (u' s))) = (if tw = 0 then (if on s = 0 then 0 else mx0 (w32 (-(w32 (u s))))) else mx0 (w32 (u s)))
  rw [h s p (by omega)]
  by_cases c : on s = 0
  · rw [if_pos c, if_pos ((ho s p (by omega)).mpr c)]
  · rw [if_neg c, if_neg (fun z => c ((ho s p (by omega)).mp z))]
def MN (f : (Int → Int) → Int) (S : (Int → Int) → Prop) (a b : Int) : Prop := b ≤ a ∧ (∀ u, S u → b ≤ f u) ∧ (b = a ∨ ∃ u, S u ∧ b = f u)
def MX (f : (Int → Int) → Int) (S : (Int → Int) → Prop) (a b : Int) : Prop := a ≤ b ∧ (∀ u, S u → f u ≤ b) ∧ (b = a ∨ ∃ u, S u ∧ b = f u)
theorem MN.tr {f : (Int → Int) → Int} {S1 S2 : (Int → Int) → Prop} {a b c : Int} (h : MN f S1 a b) (h2 : MN f S2 b c) : MN f (fun u => S1 u ∨ S2 u) a c := by
  obtain ⟨a1, a2, a3⟩ := h
  obtain ⟨b1, b2, b3⟩ := h2
  refine ⟨by omega, fun u z => ?_, ?_⟩
  · rcases z with z | z
    · have := a2 u z; omega
    · exact b2 u z
  · rcases b3 with z | ⟨u, z, y⟩
    · rcases a3 with w | ⟨u, w, y⟩
      · exact Or.inl (by omega)
      · exact Or.inr ⟨u, Or.inl w, by omega⟩
    · exact Or.inr ⟨u, Or.inr z, y⟩
theorem MX.tr {f : (Int → Int) → Int} {S1 S2 : (Int → Int) → Prop} {a b c : Int} (h : MX f S1 a b) (h2 : MX f S2 b c) : MX f (fun u => S1 u ∨ S2 u) a c := by
  obtain ⟨a1, a2, a3⟩ := h
  obtain ⟨b1, b2, b3⟩ := h2
  refine ⟨by omega, fun u z => ?_, ?_⟩
  · rcases z with z | z
    · have := a2 u z; omega
    · exact b2 u z
  · rcases b3 with z | ⟨u, z, y⟩
    · rcases a3 with w | ⟨u, w, y⟩
      · exact Or.inl (by omega)
      · exact Or.inr ⟨u, Or.inl w, by omega⟩
    · exact Or.inr ⟨u, Or.inr z, y⟩
theorem MN.eqv {f : (Int → Int) → Int} {S S' : (Int → Int) → Prop} {a b : Int} (h : MN f S a b) (e : ∀ u, S' u ↔ S u) : MN f S' a b := ⟨h.1, fun u z => h.2.1 u ((e u).mp z), h.2.2.imp (fun z => z) (fun ⟨u, z, y⟩ => ⟨u, (e u).mpr z, y⟩)⟩
theorem MX.eqv {f : (Int → Int) → Int} {S S' : (Int → Int) → Prop} {a b : Int} (h : MX f S a b) (e : ∀ u, S' u ↔ S u) : MX f S' a b := ⟨h.1, fun u z => h.2.1 u ((e u).mp z), h.2.2.imp (fun z => z) (fun ⟨u, z, y⟩ => ⟨u, (e u).mpr z, y⟩)⟩
/-- where lines lead -/
def NJ (F E : Int) (ν : am_M) : Prop := (∀ l, F ≤ l → l < E → (ν 1002 l = 8 ↔ l = E - 1)) ∧ (∀ l, F ≤ l → l < E → ν 1002 l = 5 → l < ν 1008 l ∧ ν 1008 l < E - 1) ∧ (∀ l, F ≤ l → l < E → ν 1002 l = 6 → l < ν 1009 l ∧ ν 1009 l < E - 1)
theorem NJ.j8 {F E : Int} {ν : am_M} (h : NJ F E ν) : ∀ l, F ≤ l → l < E → (ν 1002 l = 8 ↔ l = E - 1) := h.1
theorem NJ.j5 {F E : Int} {ν : am_M} (h : NJ F E ν) : ∀ l, F ≤ l → l < E → ν 1002 l = 5 → l < ν 1008 l ∧ ν 1008 l < E - 1 := h.2.1
theorem NJ.j6 {F E : Int} {ν : am_M} (h : NJ F E ν) : ∀ l, F ≤ l → l < E → ν 1002 l = 6 → l < ν 1009 l ∧ ν 1009 l < E - 1 := h.2.2
theorem NJ.mk {F E : Int} {ν : am_M} (j8 : ∀ l, F ≤ l → l < E → (ν 1002 l = 8 ↔ l = E - 1)) (j5 : ∀ l, F ≤ l → l < E → ν 1002 l = 5 → l < ν 1008 l ∧ ν 1008 l < E - 1) (j6 : ∀ l, F ≤ l → l < E → ν 1002 l = 6 → l < ν 1009 l ∧ ν 1009 l < E - 1) : NJ F E ν := ⟨j8, j5, j6⟩
def nx (ν : am_M) (l : Int) : Int := if ν 1002 l = 6 then ν 1009 l + 1 else l + 1
theorem NJ.nxt {F E l : Int} {ν : am_M} (h : NJ F E ν) (h0 : F ≤ l) (h1 : l < E) (h8 : ν 1002 l ≠ 8) : l < nx ν l ∧ nx ν l < E := by
  have a := h.j8 l h0 h1
  have b := h.j6 l h0 h1
  unfold nx
  by_cases c : ν 1002 l = 6
  · rw [if_pos c]
    have := b c
    omega
  · rw [if_neg c]
    omega
/-- a path of lines that are neither if nor give -/
def PTH (R : Int → List Int) (ν : am_M) : Nat → Int → Int → (Int → Int) → Prop
  | 0, p, q, D => p = q ∧ ∀ s, D s = 0
  | j + 1, p, q, D => (ν 1002 p ≠ 8 ∧ ν 1002 p ≠ 5 ∧ p < q) ∧ ∃ D', PTH R ν j (nx ν p) q D' ∧ ∀ s, D s = dl R ν p s + D' s
theorem PTH_sn {R : Int → List Int} {F E : Int} {ν : am_M} (hj : NJ F E ν) : ∀ (j : Nat) (p q : Int) (D : Int → Int), F ≤ p → q < E → PTH R ν j p q D → ν 1002 q ≠ 8 → ν 1002 q ≠ 5 → PTH R ν (j + 1) p (nx ν q) (fun s => D s + dl R ν q s)
  | 0, p, q, D, hF, hE, h, h8, h5 => by
    obtain ⟨h1, h2⟩ := h
    subst h1
    have := hj.nxt hF hE h8
    refine ⟨⟨h8, h5, this.1⟩, fun _ => 0, ⟨rfl, fun _ => rfl⟩, fun s => ?_⟩
    show D s + dl R ν p s = dl R ν p s + 0
    rw [h2 s]
    omega
  | j + 1, p, q, D, hF, hE, h, h8, h5 => by
    obtain ⟨⟨k8, k5, k⟩, D', h1, h2⟩ := h
    have n1 := hj.nxt hF (by omega) k8
    have n2 := hj.nxt (by omega) hE h8
    refine ⟨⟨k8, k5, by omega⟩, _, PTH_sn hj j (nx ν p) q D' (by omega) hE h1 h8 h5, fun s => ?_⟩
    show D s + dl R ν q s = dl R ν p s + (D' s + dl R ν q s)
    rw [h2 s]
    omega
theorem undo_L {b F E : Int} {R : Int → List Int} {μ ν : am_M} (h : ND b F E R μ ν) (hj : NJ F E ν) (rec : Int → Int → am_M → am_O) : ∀ (j fu : Nat) (p q : Int) (D w : Int → Int) (ν1 : am_M), F ≤ p → q < E → j < fu → PTH R ν j p q D → NFR ν ν1 → OV w ν1 → ∃ ν2, M_walks_L205 rec fu q p ν1 = some (0, ν2) ∧ OV (fun s => w s - D s) ν2 ∧ (∀ c x, c ≠ 1052 → ν2 c x = ν1 c x)
  | _, 0, _, _, _, _, _, _, _, h, _, _, _ => by omega
  | 0, fu + 1, p, q, D, w, ν1, hF, hE, _, hp, hν, hv => by
    refine ⟨ν1, ?_, hv.eq (fun s => ?_), fun _ _ _ => rfl⟩
    · show M_walks_L205_b rec (M_walks_L205 rec fu) q p ν1 = _
      unfold M_walks_L205_b
      rw [if_pos hp.1]
    · show w s - D s = w s
      rw [hp.2 s]; omega
  | j + 1, fu + 1, p, q, D, w, ν1, hF, hE, hf, hp, hν, hv => by
    obtain ⟨⟨k8, k5, k⟩, D', h1, h2⟩ := hp
    have n1 := hj.nxt hF (by omega) k8
    have F0 := h.kd.F0
    obtain ⟨ν3, a1, a2, a3⟩ := counts_s (sg := -1) h ⟨hF, by omega⟩ (Or.inr rfl) hν hv
    have hν3 : NFR ν ν3 := fun c i p q => by rw [a3 c i (by omega), hν c i p q]
    obtain ⟨ν2, b1, b2, b3⟩ := undo_L h hj rec j fu (nx ν p) q D' _ ν3 (by omega) hE (by omega) h1 hν3 a2
    refine ⟨ν2, ?_, b2.eq (fun s => ?_), fun c x z => by rw [b3 c x z, a3 c x z]⟩
    · rw [← b1]
      show M_walks_L205_b rec (M_walks_L205 rec fu) q p ν1 = _
      unfold M_walks_L205_b M_walks_B246 nx
      rw [if_neg (by omega), a1, q_bd_s, q_ld_s (by omega) (by omega), hν3 1002 p (by omega) (by omega)]
      by_cases c : ν 1002 p = 6
      · have := hj.j6 p hF (by omega) c
        rw [if_pos c, if_pos c, q_ld_s (by omega) (by omega), hν3 1009 p (by omega) (by omega), w32_i (x := ν 1009 p + 1) (by omega) (by omega)]
      · rw [if_neg c, if_neg c, w32_i (x := p + 1) (by omega) (by omega)]
    · show w s - D s = w s + -1 * dl R ν p s - D' s
      rw [h2 s]; omega
theorem sum_L {tw q f : Int} {on : Int → Int} {rec : Int → Int → am_M → am_O} (htw : tw = 0 ∨ tw = 1) : ∀ (n fu : Nat) (a i : Int) (ν1 : am_M), i + n = 10 → 0 ≤ i → n < fu → (∀ s, 0 ≤ s → s < 10 → ν1 1053 s = on s) → ∃ ν2, M_walks_L107 rec fu tw q f a i ν1 = M_walks_B195 rec q f ν2 ∧ ν2 1000 77 = (if fsm (hvF tw on (ν1 1052)) n a i < ν1 1000 77 then fsm (hvF tw on (ν1 1052)) n a i else ν1 1000 77) ∧ ν2 1000 78 = (if ν1 1000 78 < fsm (hvF tw on (ν1 1052)) n a i then fsm (hvF tw on (ν1 1052)) n a i else ν1 1000 78) ∧ (∀ c x, ¬ (c = 1000 ∧ (x = 77 ∨ x = 78)) → ν2 c x = ν1 c x)
  | n, 0, _, _, _, _, _, h, _ => by omega
  | 0, fu + 1, a, i, ν1, hi, h0, _, _ => by
    have ql : ∀ (e : Int) (k : Int → am_O), q_lt e k = k e := fun _ _ => rfl
    have e78 : ∀ v, m_st ν1 1000 77 v 1000 78 = ν1 1000 78 := fun v => m_st_i (by decide)
    refine ⟨m_st (m_st ν1 1000 77 (if a < ν1 1000 77 then a else ν1 1000 77)) 1000 78 (if ν1 1000 78 < a then a else ν1 1000 78), ?_, by rw [m_st_i (by decide), m_st_d, if_pos ⟨rfl, rfl⟩]; rfl, by rw [m_st_d, if_pos ⟨rfl, rfl⟩]; rfl, fun c x p => by rw [m_st_d, if_neg (by omega), m_st_d, if_neg (by omega)]⟩
    show M_walks_L107_b rec (M_walks_L107 rec fu) tw q f a i ν1 = _
    unfold M_walks_L107_b
    rw [if_neg (by omega), ql, q_pf_d, ql, q_pf_d, e78]
  | n + 1, fu + 1, a, i, ν1, hi, h0, hf, ho => by
    have ql : ∀ (e : Int) (k : Int → am_O), q_lt e k = k e := fun _ _ => rfl
    obtain ⟨ν2, a1, a2, a3, a4⟩ := sum_L (rec := rec) (q := q) (f := f) htw n fu (w32 (a + hvF tw on (ν1 1052) i)) (i + 1) ν1 (by omega) (by omega) (by omega) ho
    refine ⟨ν2, ?_, a2, a3, a4⟩
    rw [← a1]
    show M_walks_L107_b rec (M_walks_L107 rec fu) tw q f a i ν1 = _
    unfold M_walks_L107_b M_walks_B160 hvF mx0
    rw [if_pos (by omega), w32_i (x := i + 1) (by omega) (by omega)]
    by_cases c : tw = 0
    · rw [if_pos c, if_pos c, q_ld_s h0 (by omega), ho i h0 (by omega)]
      by_cases d : on i = 0
      · rw [if_pos d, if_pos d]
      · rw [if_neg d, if_neg d, q_ld_s h0 (by omega), ql]
    · rw [if_neg c, if_neg c, q_ld_s h0 (by omega), ql]
/-- what a walk leaves as it was -/
def WFR2 (ν ν' : am_M) : Prop := ∀ c i, ¬ (c = 1000 ∧ (i = 77 ∨ i = 78)) → c ≠ 1052 → ν' c i = ν c i
set_option maxHeartbeats 8000000 in
theorem walks_L {b F E tw : Int} {R : Int → List Int} {on : Int → Int} {μ ν : am_M} (h : ND b F E R μ ν) (hj : NJ F E ν) (htw : tw = 0 ∨ tw = 1) : ∀ (n N fu j : Nat) (a f : Int) (D v : Int → Int) (ν1 : am_M), n ≤ N → F ≤ f → F ≤ a → a < E → E - a ≤ n → n < fu → PTH R ν j f a D → j + n ≤ 100 → NFR ν ν1 → (∀ s, 0 ≤ s → s < 10 → ν1 1053 s = on s) → OV (fun s => v s + D s) ν1 → ∃ ν2, M_walks_L5 (M_walks N) fu tw a f ν1 = some (0, ν2) ∧ OV v ν2 ∧ MN (vF tw on) (WS R ν n a (fun s => v s + D s)) (ν1 1000 77) (ν2 1000 77) ∧ MX (vF tw on) (WS R ν n a (fun s => v s + D s)) (ν1 1000 78) (ν2 1000 78) ∧ WFR2 ν1 ν2
  | 0, _, _, _, _, _, _, _, _, _, _, _, h, h2, _, _, _, _, _, _ => by omega
  | n + 1, N, 0, _, _, _, _, _, _, _, _, _, _, _, h, _, _, _, _, _ => by omega
  | n + 1, N, fu + 1, j, a, f, D, v, ν1, hN, hf, hF, hE, hn, hfu, hp, hjn, hν, ho, hv => by
    have hFU := am_FU_ge
    obtain ⟨w, hw⟩ : ∃ w : Int → Int, w = (fun s => v s + D s) := ⟨_, rfl⟩
    have hws : ∀ s, w s = v s + D s := fun s => by rw [hw]
    rw [← hw] at hv ⊢
    have F0 := h.kd.F0
    have e0 : M_walks_L5 (M_walks N) (fu + 1) tw a f ν1 = M_walks_L5_b (M_walks N) (M_walks_L5 (M_walks N) fu) tw a f ν1 := rfl
    have k8 := hj.j8 a hF hE
    obtain ⟨ν3, c1, c2, c3⟩ := counts_s (sg := 1) h ⟨hF, hE⟩ (Or.inl rfl) hν hv
    have hν3 : NFR ν ν3 := fun c i p q => by rw [c3 c i (by omega), hν c i p q]
    have ho3 : ∀ s, 0 ≤ s → s < 10 → ν3 1053 s = on s := fun s p q => by rw [c3 _ _ (by decide)]; exact ho s p q
    have c2' : OV (vad R ν w a) ν3 := c2.eq (fun s => by show w s + dl R ν a s = w s + 1 * dl R ν a s; omega)
    -- back
    have back : ∀ (ν4 : am_M), NFR ν ν4 → OV (vad R ν w a) ν4 → ∃ ν2, M_walks_B195 (M_walks N) a f ν4 = some (0, ν2) ∧ OV v ν2 ∧ (∀ c x, c ≠ 1052 → ν2 c x = ν4 c x) := by
      intro ν4 hν4 hv4
      obtain ⟨ν5, d1, d2, d3⟩ := counts_s (sg := -1) h ⟨hF, hE⟩ (Or.inr rfl) hν4 hv4
      have hν5 : NFR ν ν5 := fun c i p q => by rw [d3 c i (by omega), hν4 c i p q]
      obtain ⟨ν6, g1, g2, g3⟩ := undo_L h hj (M_walks N) j am_FU f a D _ ν5 hf hE (by omega) hp hν5 d2
      refine ⟨ν6, ?_, g2.eq (fun s => ?_), fun c x z => by rw [g3 c x z, d3 c x z]⟩
      · unfold M_walks_B195
        rw [d1, q_bd_s, g1]
      · show v s = w s + dl R ν a s + -1 * dl R ν a s - D s
        rw [hws s]
        omega
    rw [e0]
    unfold M_walks_L5_b
    rw [q_ld_s (by omega) (by omega), hν 1002 a (by omega) (by omega)]
    by_cases q8 : ν 1002 a = 8
    · rw [if_pos q8]
      unfold M_walks_B61
      rw [c1, q_bd_s, q_ld_s (by omega) (by omega), hν3 1002 a (by omega) (by omega), if_neg (by omega)]
      obtain ⟨ν4, d1, d2, d3, d4⟩ := sum_L (rec := M_walks N) (q := a) (f := f) (on := on) htw 10 am_FU 0 0 ν3 (by omega) (by omega) (by omega) ho3
      rw [d1]
      obtain ⟨ν2, g1, g2, g3⟩ := back ν4 (fun c i p q => by rw [d4 c i p]; exact hν3 c i p q) (fun s p q => by rw [d4 _ _ (by omega)]; exact c2' s p q)
      have ev : fsm (hvF tw on (ν3 1052)) 10 0 0 = vF tw on (vad R ν w a) := by
        unfold vF
        refine fsm_c 10 0 0 (fun s p q => ?_)
        unfold hvF
        rw [c2' s p (by omega)]
      rw [ev, c3 _ _ (by decide)] at d2 d3
      refine ⟨ν2, g1, g2, ?_, ?_, fun c i p q => by rw [g3 c i q, d4 c i p, c3 c i q]⟩
      · rw [g3 _ _ (by decide), d2]
        refine ⟨by split <;> omega, fun u hu => ?_, ?_⟩
        · rw [(WS_8 q8).mp hu]; split <;> omega
        · by_cases c : vF tw on (vad R ν w a) < ν1 1000 77
          · exact Or.inr ⟨_, (WS_8 q8).mpr rfl, by rw [if_pos c]⟩
          · exact Or.inl (by rw [if_neg c])
      · rw [g3 _ _ (by decide), d3]
        refine ⟨by split <;> omega, fun u hu => ?_, ?_⟩
        · rw [(WS_8 q8).mp hu]; split <;> omega
        · by_cases c : ν1 1000 78 < vF tw on (vad R ν w a)
          · exact Or.inr ⟨_, (WS_8 q8).mpr rfl, by rw [if_pos c]⟩
          · exact Or.inl (by rw [if_neg c])
    rw [if_neg q8, q_ld_s (by omega) (by omega), hν 1002 a (by omega) (by omega)]
    have n1 := hj.nxt hF hE q8
    by_cases q5 : ν 1002 a = 5
    · obtain ⟨x1, x2⟩ := hj.j5 a hF hE q5
      rw [if_pos q5]
      match N, hN with
      | 0, hN => omega
      | N + 1, hN =>
      unfold M_walks_B61
      have z0 : ∀ w : Int → Int, (fun s => w s + (fun _ : Int => (0 : Int)) s) = w := fun w => funext fun s => by show w s + 0 = w s; omega
      obtain ⟨ν4, d1, d2, d3, d4, d5⟩ := walks_L (on := on) h hj htw n N am_FU 0 (a + 1) (a + 1) (fun _ => 0) (vad R ν w a) ν3 (by omega) (by omega) (by omega) (by omega) (by omega) (by omega) ⟨rfl, fun _ => rfl⟩ (by omega) hν3 ho3 (by rw [z0]; exact c2')
      rw [z0] at d3 d4
      have hν4 : NFR ν ν4 := fun c i p q => by rw [d5 c i p (by omega), hν3 c i p q]
      obtain ⟨ν5, g1, g2, g3, g4, g5⟩ := walks_L (on := on) h hj htw n N am_FU 0 (ν 1008 a + 1) (ν 1008 a + 1) (fun _ => 0) (vad R ν w a) ν4 (by omega) (by omega) (by omega) (by omega) (by omega) (by omega) ⟨rfl, fun _ => rfl⟩ (by omega) hν4 (fun s p q => by rw [d5 _ _ (by omega) (by decide)]; exact ho3 s p q) (by rw [z0]; exact d2)
      rw [z0] at g3 g4
      have hν5 : NFR ν ν5 := fun c i p q => by rw [g5 c i p (by omega), hν4 c i p q]
      obtain ⟨ν2, k1, k2, k3⟩ := back ν5 hν5 g2
      have e5 : ∀ u, WS R ν (n + 1) a w u ↔ (WS R ν n (a + 1) (vad R ν w a) u ∨ WS R ν n (ν 1008 a + 1) (vad R ν w a) u) := fun u => WS_5 q5
      have r1 : M_walks (N + 1) (a + 1) tw ν3 = some (0, ν4) := d1
      have r2 : M_walks (N + 1) (ν 1008 a + 1) tw ν4 = some (0, ν5) := g1
      refine ⟨ν2, ?_, k2, ?_, ?_, fun c i p q => by rw [k3 c i q, g5 c i p q, d5 c i p q, c3 c i q]⟩
      · rw [c1, q_bd_s, q_ld_s (by omega) (by omega), hν3 1002 a (by omega) (by omega), if_pos q5, w32_i (x := a + 1) (by omega) (by omega), r1, q_bd_s, q_ld_s (by omega) (by omega), hν4 1008 a (by omega) (by omega), w32_i (x := ν 1008 a + 1) (by omega) (by omega), r2, q_bd_s, k1]
      · rw [k3 _ _ (by decide), ← c3 1000 77 (by decide)]
        exact MN.eqv (MN.tr d3 g3) e5
      · rw [k3 _ _ (by decide), ← c3 1000 78 (by decide)]
        exact MX.eqv (MX.tr d4 g4) e5
    · rw [if_neg q5, c1, q_bd_s, q_ld_s (by omega) (by omega), hν3 1002 a (by omega) (by omega)]
      obtain ⟨ν2, d1, d2, d3, d4, d5⟩ := walks_L (on := on) h hj htw n N fu (j + 1) (nx ν a) f (fun s => D s + dl R ν a s) v ν3 (by omega) hf (by omega) n1.2 (by omega) (by omega) (PTH_sn hj j f a D hf hE hp q8 q5) (by omega) hν3 ho3 (c2'.eq (fun s => by show v s + (D s + dl R ν a s) = w s + dl R ν a s; rw [hws s]; omega))
      have ew : (fun s => v s + (fun s => D s + dl R ν a s) s) = vad R ν w a := funext fun s => by show v s + (D s + dl R ν a s) = w s + dl R ν a s; rw [hws s]; omega
      rw [ew] at d3 d4
      have eW : ∀ u, WS R ν (n + 1) a w u ↔ WS R ν n (nx ν a) (vad R ν w a) u := by
        intro u
        unfold nx
        by_cases q6 : ν 1002 a = 6
        · rw [if_pos q6]; exact WS_6 q6
        · rw [if_neg q6]; exact WS_o q8 q5 q6
      rw [c3 _ _ (by decide)] at d3 d4
      refine ⟨ν2, ?_, d2, d3.eqv eW, d4.eqv eW, fun c i p q => by rw [d5 c i p q, c3 c i q]⟩
      rw [← d1]
      unfold M_walks_B57 nx
      by_cases q6 : ν 1002 a = 6
      · have := hj.j6 a hF hE q6
        rw [if_pos q6, if_pos q6, q_ld_s (by omega) (by omega), hν3 1009 a (by omega) (by omega), w32_i (x := ν 1009 a + 1) (by omega) (by omega)]
      · rw [if_neg q6, if_neg q6, w32_i (x := a + 1) (by omega) (by omega)]
