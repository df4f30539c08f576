/-! The promise of needs: ifs whose branches lack the same. -/
def CGV (u u' : Int → Int) : Prop := ∀ s, 0 ≤ s → s < 10 → w32 (u' s) = w32 (u s)
theorem CGV.rf {u : Int → Int} : CGV u u := fun _ _ _ => rfl
theorem CGV.tr {u u1 u2 : Int → Int} (h : CGV u u1) (h2 : CGV u1 u2) : CGV u u2 := fun s p q => by rw [h2 s p q, h s p q]
theorem w32_sh {u a b : Int} (h : w32 a = w32 b) : w32 (u + (a - b)) = w32 u := by
  unfold w32 at *
  omega
theorem WS_fu {R : Int → List Int} {F E : Int} {ν : am_M} (hj : NJ F E ν) : ∀ (n m : Nat) (l : Int) (v u : Int → Int), F ≤ l → l < E → E - l ≤ m → WS R ν n l v u → WS R ν m l v u
  | 0, _, _, _, _, _, _, _, h => h.elim
  | _ + 1, 0, _, _, _, _, _, _, _ => by omega
  | n + 1, m + 1, l, v, u, hF, hE, hm, h => by
    by_cases q8 : ν 1002 l = 8
    · exact (WS_8 q8).mpr ((WS_8 q8).mp h)
    have n1 := hj.nxt hF hE q8
    have k8 := hj.j8 l hF hE
    by_cases q5 : ν 1002 l = 5
    · have x := hj.j5 l hF hE q5
      exact (WS_5 q5).mpr (((WS_5 q5).mp h).imp (WS_fu hj n m (l + 1) _ u (by omega) (by omega) (by omega)) (WS_fu hj n m (ν 1008 l + 1) _ u (by omega) (by omega) (by omega)))
    by_cases q6 : ν 1002 l = 6
    · have x := hj.j6 l hF hE q6
      exact (WS_6 q6).mpr (WS_fu hj n m (ν 1009 l + 1) _ u (by omega) (by omega) (by omega) ((WS_6 q6).mp h))
    · exact (WS_o q8 q5 q6).mpr (WS_fu hj n m (l + 1) _ u (by omega) (by omega) (by omega) ((WS_o q8 q5 q6).mp h))
theorem WS_sh {R : Int → List Int} {ν : am_M} : ∀ (n : Nat) (l : Int) (v v' u : Int → Int), WS R ν n l v u → WS R ν n l v' (fun s => u s + (v' s - v s))
  | 0, _, _, _, _, h => h.elim
  | n + 1, l, v, v', u, h => by
    have ih := fun l' (h' : WS R ν n l' (vad R ν v l) u) => WS_sh n l' (vad R ν v l) (vad R ν v' l) u h'
    have e : (fun s => u s + (vad R ν v' l s - vad R ν v l s)) = (fun s => u s + (v' s - v s)) := funext fun s => by
      show u s + (v' s + dl R ν l s - (v s + dl R ν l s)) = _
      omega
    rw [e] at ih
    by_cases q8 : ν 1002 l = 8
    · refine (WS_8 q8).mpr ?_
      have := (WS_8 q8).mp h
      funext s
      show u s + (v' s - v s) = v' s + dl R ν l s
      rw [this]
      show v s + dl R ν l s + (v' s - v s) = _
      omega
    by_cases q5 : ν 1002 l = 5
    · exact (WS_5 q5).mpr (((WS_5 q5).mp h).imp (ih _) (ih _))
    by_cases q6 : ν 1002 l = 6
    · exact (WS_6 q6).mpr (ih _ ((WS_6 q6).mp h))
    · exact (WS_o q8 q5 q6).mpr (ih _ ((WS_o q8 q5 q6).mp h))
theorem WS_cg {R : Int → List Int} {ν : am_M} {n : Nat} {l : Int} {v v' u : Int → Int} (h : WS R ν n l v u) (e : CGV v v') : ∃ u', CGV u u' ∧ WS R ν n l v' u' := ⟨_, fun s p q => by show w32 (u s + (v' s - v s)) = _; exact w32_sh (e s p q), WS_sh n l v v' u h⟩
/-- all ways from a to z add the same -/
def UB (R : Int → List Int) (ν : am_M) (E a z : Int) (D : Int → Int) : Prop := (∀ n v u, E - a ≤ (n : Nat) → WS R ν n a v u → ∃ u', CGV u u' ∧ WS R ν n z (fun s => v s + D s) u') ∧ (∀ n v u, E - a ≤ (n : Nat) → WS R ν n z (fun s => v s + D s) u → ∃ u', CGV u u' ∧ WS R ν n a v u')
theorem UB.rf {R : Int → List Int} {ν : am_M} {E a : Int} {D : Int → Int} (h : ∀ s, D s = 0) : UB R ν E a a D := by
  have e : ∀ v : Int → Int, (fun s => v s + D s) = v := fun v => funext fun s => by rw [h s]; omega
  exact ⟨fun n v u _ z => ⟨u, CGV.rf, by rw [e]; exact z⟩, fun n v u _ z => ⟨u, CGV.rf, by rw [e] at z; exact z⟩⟩
theorem UB.tr {R : Int → List Int} {ν : am_M} {E a m z : Int} {D1 D2 D : Int → Int} (h : UB R ν E a m D1) (h2 : UB R ν E m z D2) (ham : a ≤ m) (e : ∀ s, D s = D1 s + D2 s) : UB R ν E a z D := by
  have ee : ∀ v : Int → Int, (fun s => (fun s => v s + D1 s) s + D2 s) = (fun s => v s + D s) := fun v => funext fun s => by show v s + D1 s + D2 s = v s + D s; rw [e s]; omega
  refine ⟨fun n v u hn hw => ?_, fun n v u hn hw => ?_⟩
  · obtain ⟨u1, a1, a2⟩ := h.1 n v u hn hw
    obtain ⟨u2, b1, b2⟩ := h2.1 n _ u1 (by omega) a2
    rw [ee] at b2
    exact ⟨u2, a1.tr b1, b2⟩
  · rw [← ee] at hw
    obtain ⟨u1, a1, a2⟩ := h2.2 n _ u (by omega) hw
    obtain ⟨u2, b1, b2⟩ := h.2 n v u1 hn a2
    exact ⟨u2, a1.tr b1, b2⟩
theorem UB.cg {R : Int → List Int} {ν : am_M} {E a z : Int} {D D' : Int → Int} (h : UB R ν E a z D) (e : CGV D D') : UB R ν E a z D' := by
  have ev : ∀ v : Int → Int, CGV (fun s => v s + D s) (fun s => v s + D' s) := fun v s p q => by
    have := e s p q
    show w32 (v s + D' s) = w32 (v s + D s)
    unfold w32 at *
    omega
  have ev' : ∀ v : Int → Int, CGV (fun s => v s + D' s) (fun s => v s + D s) := fun v s p q => (ev v s p q).symm
  refine ⟨fun n v u hn hw => ?_, fun n v u hn hw => ?_⟩
  · obtain ⟨u1, a1, a2⟩ := h.1 n v u hn hw
    obtain ⟨u2, b1, b2⟩ := WS_cg a2 (ev v)
    exact ⟨u2, a1.tr b1, b2⟩
  · obtain ⟨u1, a1, a2⟩ := WS_cg hw (ev' v)
    obtain ⟨u2, b1, b2⟩ := h.2 n v u1 hn a2
    exact ⟨u2, a1.tr b1, b2⟩
theorem UB.one {R : Int → List Int} {ν : am_M} {F E a : Int} (hj : NJ F E ν) (hF : F ≤ a) (hE : a < E) (h8 : ν 1002 a ≠ 8) (h5 : ν 1002 a ≠ 5) : UB R ν E a (nx ν a) (fun s => dl R ν a s) := by
  have n1 := hj.nxt hF hE h8
  have eW : ∀ n v u, WS R ν (n + 1) a v u ↔ WS R ν n (nx ν a) (vad R ν v a) u := by
    intro n v u
    unfold nx
    by_cases q6 : ν 1002 a = 6
    · rw [if_pos q6]; exact WS_6 q6
    · rw [if_neg q6]; exact WS_o h8 h5 q6
  refine ⟨fun n v u hn hw => ?_, fun n v u hn hw => ?_⟩
  · match n, hn with
    | 0, hn => omega
    | n + 1, hn => exact ⟨u, CGV.rf, WS_fu hj n (n + 1) _ _ u (by omega) n1.2 (by omega) ((eW n v u).mp hw)⟩
  · match n, hn with
    | 0, hn => omega
    | n + 1, hn => exact ⟨u, CGV.rf, (eW n v u).mpr (WS_fu hj (n + 1) n _ _ u (by omega) n1.2 (by omega) hw)⟩
/-- both branches of an if lack the same -/
def AL (R : Int → List Int) (ν : am_M) (E l : Int) : Prop := ∀ n v u, E - (l + 1) ≤ (n : Nat) → WS R ν n (ν 1008 l + 1) v u → ∃ u', CGV u u' ∧ WS R ν n (l + 1) v u'
theorem UB.if_ {R : Int → List Int} {ν : am_M} {F E a : Int} (hj : NJ F E ν) (hF : F ≤ a) (hE : a < E) (h5 : ν 1002 a = 5) (h : AL R ν E a) : UB R ν E a (a + 1) (fun s => dl R ν a s) := by
  have x := hj.j5 a hF hE h5
  refine ⟨fun n v u hn hw => ?_, fun n v u hn hw => ?_⟩
  · match n, hn with
    | 0, hn => omega
    | n + 1, hn =>
      rcases (WS_5 h5).mp hw with z | z
      · exact ⟨u, CGV.rf, WS_fu hj n (n + 1) _ _ u (by omega) (by omega) (by omega) z⟩
      · obtain ⟨u', a1, a2⟩ := h n _ u (by omega) z
        exact ⟨u', a1, WS_fu hj n (n + 1) _ _ u' (by omega) (by omega) (by omega) a2⟩
  · match n, hn with
    | 0, hn => omega
    | n + 1, hn => exact ⟨u, CGV.rf, (WS_5 h5).mpr (Or.inl (WS_fu hj (n + 1) n _ _ u (by omega) (by omega) (by omega) hw))⟩
/-- an if's blocks -/
theorem blk_sub {w : Int → Int → Int} : ∀ (n d : Nat) (a z : Int), blk w n d a z → ∀ x, a ≤ x → x < z → w 0 x = 5 → ∃ m e, blk w m e (x + 1) (w 1 x) ∧ blk w m e (w 1 x + 1) (w 2 x) ∧ x < w 1 x ∧ w 1 x < w 2 x ∧ w 2 x < z ∧ w 0 (w 1 x) = 6 ∧ w 0 (w 2 x) = 7 ∧ w 2 (w 1 x) = w 2 x ∧ w 3 x = w 1 x ∧ w 3 (w 1 x) = w 2 x
  | 0, _, a, z, h, x, p, q, _ => by
    have h : a = z := h
    omega
  | n + 1, d, a, z, h, x, p, q, hx => by
    rcases h with h | ⟨h1, h2, h3⟩ | ⟨h1, h2, h3, h4, h5, h6, h7, h8, h9, h10, h11, h12, h13⟩
    · omega
    · by_cases y : x = a
      · subst y
        have := h2.2
        omega
      · exact blk_sub n d _ _ h3 x (by omega) q hx
    · have up : ∀ {m e : Nat} {z'}, z' ≤ z → (blk w m e (x + 1) (w 1 x) ∧ blk w m e (w 1 x + 1) (w 2 x) ∧ x < w 1 x ∧ w 1 x < w 2 x ∧ w 2 x < z' ∧ w 0 (w 1 x) = 6 ∧ w 0 (w 2 x) = 7 ∧ w 2 (w 1 x) = w 2 x ∧ w 3 x = w 1 x ∧ w 3 (w 1 x) = w 2 x) → ∃ m e, blk w m e (x + 1) (w 1 x) ∧ blk w m e (w 1 x + 1) (w 2 x) ∧ x < w 1 x ∧ w 1 x < w 2 x ∧ w 2 x < z ∧ w 0 (w 1 x) = 6 ∧ w 0 (w 2 x) = 7 ∧ w 2 (w 1 x) = w 2 x ∧ w 3 x = w 1 x ∧ w 3 (w 1 x) = w 2 x := fun {m} {e} {z'} hz t => ⟨m, e, t.1, t.2.1, t.2.2.1, t.2.2.2.1, by have := t.2.2.2.2.1; omega, t.2.2.2.2.2⟩
      by_cases y : x = a
      · subst y
        exact ⟨n, d - 1, h11, h12, h3, h4, h5, h6, h7, h8, h9, h10⟩
      by_cases y1 : x < w 1 a
      · obtain ⟨m, e, t⟩ := blk_sub n _ _ _ h11 x (by omega) y1 hx
        exact up (by omega) t
      by_cases y2 : x = w 1 a
      · rw [y2, h6] at hx; omega
      by_cases y3 : x < w 2 a
      · obtain ⟨m, e, t⟩ := blk_sub n _ _ _ h12 x (by omega) y3 hx
        exact up (by omega) t
      by_cases y4 : x = w 2 a
      · rw [y4, h7] at hx; omega
      · exact blk_sub n d _ _ h13 x (by omega) q hx
theorem dl_0 {b F E l s : Int} {R : Int → List Int} {μ ν : am_M} (h : ND b F E R μ ν) (hl : F ≤ l ∧ l < E) (hk : ν 1002 l = 6 ∨ ν 1002 l = 7) (hs : 0 ≤ s) : dl R ν l s = 0 := by
  obtain ⟨a1, a2, a3⟩ := (h.ck l hl.1 hl.2).n0 hk
  unfold dl
  rw [a1, a2, a3, if_neg (by omega)]
  rfl
/-- the class weighs a block's ways -/
def ALB (b e q sg a z k : Int) (fu : Nat) (R : Int → List Int) (E : Int) (v : Int → Int) (ν μ1 : am_M) : Prop := (∃ μ2, Wy_isAlike_L34 fu (b + 1) e q sg a k μ1 = some (0, μ2) ∧ (∀ c i, c ≠ 55 → μ2 c i = μ1 c i)) ∨ (∃ D μ2, ∃ fu2 : Nat, ∃ k2 : Int, UB R ν E a z D ∧ Wy_isAlike_L34 fu (b + 1) e q sg a k μ1 = Wy_isAlike_L34 fu2 (b + 1) e q sg z k2 μ2 ∧ (fu : Int) ≤ fu2 + (z - a) ∧ k ≤ k2 ∧ k2 ≤ k + (z - a) ∧ LK (fun s => v s + sg * D s) μ2 ∧ (∀ c i, c ≠ 55 → μ2 c i = μ1 c i))
theorem al_line {b F E e q sg l k : Int} {fu : Nat} {R : Int → List Int} {v : Int → Int} {μ ν μ1 : am_M} (h : ND b F E R μ ν) (hl : F ≤ l ∧ l < E) (hsg : sg = 1 ∨ sg = -1) (hw : ∀ c, b ≤ c → c ≤ b + 22 → μ1 c = μ c) (hv : LK v μ1) (hk : 0 ≤ k ∧ k < 60) (hlq : l < q) (h5 : ν 1002 l = 5 → μ1 57 l ≠ 0) : ∃ μ2, Wy_isAlike_L34 (fu + 1) (b + 1) e q sg l k μ1 = (if l = e then Wy_isAlike_B100 (Wy_isAlike_L34 fu) (b + 1) e q l k (ν 1002 l) (-1) μ2 else Wy_isAlike_B100 (Wy_isAlike_L34 fu) (b + 1) e q l k (ν 1002 l) sg μ2) ∧ LK (fun s => v s + sg * dl R ν l s) μ2 ∧ (∀ c i, c ≠ 55 → μ2 c i = μ1 c i) := by
  have hb := h.kd.bo
  have hb' : b = 100 ∨ b = 200 := hb
  have F0 := h.kd.F0
  have e2 : b + 1 + 1 = b + 2 := by omega
  obtain ⟨μ2, a1, a2, a3⟩ := weigh_s (sg := sg) h hl hsg hw hv
  refine ⟨μ2, ?_, a2, a3⟩
  show Wy_isAlike_L34_b (Wy_isAlike_L34 fu) (b + 1) e q sg l k μ1 = _
  unfold Wy_isAlike_L34_b Wy_isAlike_B79
  rw [if_pos hk.2, if_pos hlq, q_gd_s (bO2 hb), e2, bat2 hb, if_pos (by omega), q_bd_s, hw (b + 2) (by omega) (by omega), h.kd.kd l hl.1 hl.2]
  by_cases c : ν 1002 l = 5
  · rw [if_pos c, X_at_57, if_pos (by omega), q_bd_s, if_neg (h5 c), a1, q_bd_s]
  · rw [if_neg c, a1, q_bd_s]
set_option maxHeartbeats 4000000 in
theorem al_B {b F E e q sg : Int} {R : Int → List Int} {μ ν : am_M} (h : ND b F E R μ ν) (hj : NJ F E ν) (hsg : sg = 1 ∨ sg = -1) (hE5 : ∀ l, F ≤ l → l < E → (ν 1002 l = 5 → μ (b + 7) l = ν 1008 l) ∧ (ν 1002 l = 6 → μ (b + 7) l = ν 1009 l)) : ∀ (n dd : Nat) (a z k : Int) (fu : Nat) (v : Int → Int) (μ1 : am_M), blk (wZ b μ ν) n dd a z → F ≤ a → z < E → z ≤ q → (e < a ∨ z ≤ e) → 0 ≤ k → k + (z - a) ≤ 60 → z - a < fu → (∀ c, b ≤ c → c ≤ b + 22 → μ1 c = μ c) → LK v μ1 → (∀ x, a ≤ x → x < z → ν 1002 x = 5 → μ1 57 x ≠ 0 → AL R ν E x) → ALB b e q sg a z k fu R E v ν μ1
  | 0, dd, a, z, k, fu, v, μ1, hb, _, _, _, _, _, _, _, hw, hv, _ => by
    have hb : a = z := hb
    subst hb
    exact Or.inr ⟨fun _ => 0, μ1, fu, k, UB.rf (fun _ => rfl), rfl, by omega, by omega, by omega, hv.eq (fun s => by show v s + sg * 0 = v s; omega), fun _ _ _ => rfl⟩
  | n + 1, dd, a, z, k, fu, v, μ1, hb, hF, hE, hq, he, hk, hk2, hfu, hw, hv, hs => by
    have hbo := h.kd.bo
    have hb' : b = 100 ∨ b = 200 := hbo
    have F0 := h.kd.F0
    match fu, hfu with
    | 0, hfu => have := blk_le _ _ _ _ hb; omega
    | fu + 1, hfu =>
    rcases hb with hb | ⟨b1, b2, b3⟩ | ⟨k5, b2, b3, b4, b5, k6, k7, b8, b9, b10, b11, b12, b13⟩
    · exact al_B (e := e) (q := q) h hj hsg hE5 0 dd a z k (fu + 1) v μ1 hb hF hE hq he hk hk2 hfu hw hv hs
    · have kk : 1 ≤ ν 1002 a ∧ ν 1002 a ≤ 4 := b2
      obtain ⟨μ2, a1, a2, a3⟩ := al_line (fu := fu) (e := e) (q := q) h ⟨hF, by omega⟩ hsg hw hv ⟨hk, by omega⟩ (by omega) (fun y => by omega)
      have eN : nx ν a = a + 1 := by unfold nx; rw [if_neg (by omega)]
      have u1 := UB.one (R := R) hj hF (by omega) (by omega : ν 1002 a ≠ 8) (by omega)
      rw [eN] at u1
      have e1 : Wy_isAlike_L34 (fu + 1) (b + 1) e q sg a k μ1 = Wy_isAlike_L34 fu (b + 1) e q sg (a + 1) (k + 1) μ2 := by
        rw [a1, if_neg (by omega)]
        unfold Wy_isAlike_B100 Wy_isAlike_B127 Wy_isAlike_B131
        rw [if_neg (by omega), w32_i (x := a + 1) (by omega) (by omega), w32_i (x := k + 1) (by omega) (by omega)]
      rcases al_B (e := e) (q := q) h hj hsg hE5 n dd (a + 1) z (k + 1) fu _ μ2 b3 (by omega) hE hq (by omega) (by omega) (by omega) (by omega) (fun c p r => by rw [← hw c p r]; exact funext fun i => a3 c i (by omega)) a2 (fun x p r t y => hs x (by omega) r t (by rw [← a3 _ _ (by decide)]; exact y)) with ⟨μ3, g1, g2⟩ | ⟨D, μ3, fu2, k2, g1, g2, g3, g4, g5, g6, g7⟩
      · exact Or.inl ⟨μ3, by rw [e1, g1], fun c i p => by rw [g2 c i p, a3 c i p]⟩
      · refine Or.inr ⟨fun s => dl R ν a s + D s, μ3, fu2, k2, u1.tr g1 (by omega) (fun _ => rfl), by rw [e1, g2], by omega, by omega, by omega, g6.eq (fun s => ?_), fun c i p => by rw [g7 c i p, a3 c i p]⟩
        show v s + sg * (dl R ν a s + D s) = v s + sg * dl R ν a s + sg * D s
        rw [Int.mul_add]; omega
    · have kk5 : ν 1002 a = 5 := k5
      generalize hee : wZ b μ ν 1 a = x1 at *
      generalize hqq : wZ b μ ν 2 a = x2 at *
      have kk6 : ν 1002 x1 = 6 := k6
      have kk7 : ν 1002 x2 = 7 := k7
      have m6 : ν 1009 x1 = x2 := b8
      by_cases z0 : μ1 57 a = 0
      · refine Or.inl ⟨μ1, ?_, fun _ _ _ => rfl⟩
        have e2 : b + 1 + 1 = b + 2 := by omega
        show Wy_isAlike_L34_b (Wy_isAlike_L34 fu) (b + 1) e q sg a k μ1 = _
        unfold Wy_isAlike_L34_b
        rw [if_pos (by omega), if_pos (by omega), q_gd_s (bO2 hbo), e2, bat2 hbo, if_pos (by omega), q_bd_s, hw (b + 2) (by omega) (by omega), h.kd.kd a hF (by omega), if_pos kk5, X_at_57, if_pos (by omega), q_bd_s, if_pos z0]
      have hal := hs a (Int.le_refl _) (by omega) kk5 z0
      obtain ⟨μ2, a1, a2, a3⟩ := al_line (fu := fu) (e := e) (q := q) h ⟨hF, by omega⟩ hsg hw hv ⟨hk, by omega⟩ (by omega) (fun y => z0)
      have u1 := UB.if_ (R := R) hj hF (by omega) kk5 hal
      have e1 : Wy_isAlike_L34 (fu + 1) (b + 1) e q sg a k μ1 = Wy_isAlike_L34 fu (b + 1) e q sg (a + 1) (k + 1) μ2 := by
        rw [a1, if_neg (by omega)]
        unfold Wy_isAlike_B100 Wy_isAlike_B127 Wy_isAlike_B131
        rw [if_neg (by omega), w32_i (x := a + 1) (by omega) (by omega), w32_i (x := k + 1) (by omega) (by omega)]
      have hw2 : ∀ c, b ≤ c → c ≤ b + 22 → μ2 c = μ c := fun c p r => by rw [← hw c p r]; exact funext fun i => a3 c i (by omega)
      rcases al_B (e := e) (q := q) h hj hsg hE5 n (dd - 1) (a + 1) x1 (k + 1) fu _ μ2 b11 (by omega) (by omega) (by omega) (by omega) (by omega) (by omega) (by omega) hw2 a2 (fun x p r t y => hs x (by omega) (by omega) t (by rw [← a3 _ _ (by decide)]; exact y)) with ⟨μ3, g1, g2⟩ | ⟨D1, μ3, fu3, k3, g1, g2, g3, g4, g5, g6, g7⟩
      · exact Or.inl ⟨μ3, by rw [e1, g1], fun c i p => by rw [g2 c i p, a3 c i p]⟩
      have hw3 : ∀ c, b ≤ c → c ≤ b + 22 → μ3 c = μ c := fun c p r => by rw [← hw2 c p r]; exact funext fun i => g7 c i (by omega)
      match fu3, g3 with
      | 0, g3 => omega
      | 1, g3 => omega
      | fu3 + 2, g3 =>
      -- the else: to the end
      obtain ⟨μ4, d1, d2, d3⟩ := al_line (fu := fu3 + 1) (e := e) (q := q) h ⟨by omega, by omega⟩ hsg hw3 g6 (l := x1) (k := k3) ⟨by omega, by omega⟩ (by omega) (fun y => by omega)
      have hw4 : ∀ c, b ≤ c → c ≤ b + 22 → μ4 c = μ c := fun c p r => by rw [← hw3 c p r]; exact funext fun i => d3 c i (by omega)
      have em : μ4 (b + 7) x1 = x2 := by rw [hw4 _ (by omega) (by omega), (hE5 x1 (by omega) (by omega)).2 kk6, m6]
      have e3 : Wy_isAlike_L34 (fu3 + 2) (b + 1) e q sg x1 k3 μ3 = Wy_isAlike_L34 (fu3 + 1) (b + 1) e q sg x2 (k3 + 1) μ4 := by
        have e7 : b + 1 + 6 = b + 7 := by omega
        rw [d1, if_neg (by omega)]
        unfold Wy_isAlike_B100 Wy_isAlike_B131
        rw [if_pos kk6, if_neg (by omega), q_gd_s (bO2 hbo), e7, bat7 hbo, if_pos (by omega), q_bd_s, em, w32_i (x := k3 + 1) (by omega) (by omega)]
      obtain ⟨μ5, j1, j2, j3⟩ := al_line (fu := fu3) (e := e) (q := q) h ⟨by omega, by omega⟩ hsg hw4 d2 (l := x2) (k := k3 + 1) ⟨by omega, by omega⟩ (by omega) (fun y => by omega)
      have e4 : Wy_isAlike_L34 (fu3 + 1) (b + 1) e q sg x2 (k3 + 1) μ4 = Wy_isAlike_L34 fu3 (b + 1) e q sg (x2 + 1) (k3 + 1 + 1) μ5 := by
        rw [j1, if_neg (by omega)]
        unfold Wy_isAlike_B100 Wy_isAlike_B127 Wy_isAlike_B131
        rw [if_neg (by omega), w32_i (x := x2 + 1) (by omega) (by omega), w32_i (x := k3 + 1 + 1) (by omega) (by omega)]
      have hw5 : ∀ c, b ≤ c → c ≤ b + 22 → μ5 c = μ c := fun c p r => by rw [← hw4 c p r]; exact funext fun i => j3 c i (by omega)
      have F5 : ∀ c i, c ≠ 55 → μ5 c i = μ1 c i := fun c i p => by rw [j3 c i p, d3 c i p, g7 c i p, a3 c i p]
      have u2 := UB.one (R := R) hj (by omega : F ≤ x1) (by omega) (by omega : ν 1002 x1 ≠ 8) (by omega)
      have eN : nx ν x1 = x2 + 1 := by unfold nx; rw [if_pos kk6, m6]
      rw [eN] at u2
      have lk5 : LK (fun s => v s + sg * (dl R ν a s + D1 s + dl R ν x1 s)) μ5 := by
        intro s p r
        rw [j2 s p r]
        show w32 (v s + sg * dl R ν a s + sg * D1 s + sg * dl R ν x1 s + sg * dl R ν x2 s) = w32 (v s + sg * (dl R ν a s + D1 s + dl R ν x1 s))
        rw [dl_0 h ⟨by omega, by omega⟩ (Or.inr kk7) p, Int.mul_add, Int.mul_add]
        congr 1
        omega
      rcases al_B (e := e) (q := q) h hj hsg hE5 n dd (x2 + 1) z (k3 + 1 + 1) fu3 _ μ5 b13 (by omega) hE hq (by omega) (by omega) (by omega) (by omega) hw5 lk5 (fun x p r t y => hs x (by omega) r t (by rw [← F5 _ _ (by decide)]; exact y)) with ⟨μ6, s1, s2⟩ | ⟨D2, μ6, fu6, k6', s1, s2, s3, s4, s5, s6, s7⟩
      · exact Or.inl ⟨μ6, by rw [e1, g2, e3, e4, s1], fun c i p => by rw [s2 c i p, F5 c i p]⟩
      · refine Or.inr ⟨fun s => dl R ν a s + D1 s + dl R ν x1 s + D2 s, μ6, fu6, k6', ?_, by rw [e1, g2, e3, e4, s2], by omega, by omega, by omega, s6.eq (fun s => ?_), fun c i p => by rw [s7 c i p, F5 c i p]⟩
        · exact ((u1.tr g1 (by omega) (fun _ => rfl)).tr u2 (by omega) (fun _ => rfl)).tr s1 (by omega) (fun _ => rfl)
        · show v s + sg * (dl R ν a s + D1 s + dl R ν x1 s + D2 s) = v s + sg * (dl R ν a s + D1 s + dl R ν x1 s) + sg * D2 s
          rw [Int.mul_add sg _ (D2 s)]; omega
