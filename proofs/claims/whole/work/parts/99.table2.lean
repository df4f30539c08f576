/-! Slips burn and are laid, on both sides. -/
theorem w32_add (x y : Int) : w32 (w32 x + y) = w32 (x + y) := by unfold w32; omega
theorem S10_eq {x y : Int} (hx : S10 x) (hy : S10 y) (h : ∀ t, 0 ≤ t → t < 10 → (tb x t = true ↔ tb y t = true)) : x = y := S10_ext hx hy (fun s p q => Bool.eq_iff_iff.mpr (h s p q))
theorem clr_tb {o s t : Int} (hs : 0 ≤ s ∧ s < 10) (h0 : 0 ≤ t) (h1 : t < 10) : tb (clr o s) t = true ↔ tb o t = true ∧ t ≠ s := by
  rw [tb_clr hs h0 (by omega), Bool.and_eq_true, Bool.not_eq_true', decide_eq_false_iff_not]
theorem lay_tb {o s t : Int} (hs : 0 ≤ s ∧ s < 10) (h0 : 0 ≤ t) (h1 : t < 10) : tb (aOr o (aShl 1 s)) t = true ↔ tb o t = true ∨ t = s := by
  rw [tb_or, tb_shl hs.1 (by omega) h0 (by omega), Bool.or_eq_true, decide_eq_true_eq]
theorem burnsIn_s {f s : Int} {ν : am_M} (hf : 0 ≤ f ∧ f < 16) (hs : 0 ≤ s ∧ s < 10) : ∃ ν', M_burnsIn f s ν = some (ν 1046 (10 * f + s), ν') ∧ ν' 1045 f = clr (ν 1045 f) s ∧ ν' 1000 64 = w32 (ν 1000 64 + 1) ∧ (∀ c i, ¬ (c = 1045 ∧ i = f) → ¬ (c = 1000 ∧ i = 64) → ν' c i = ν c i) := by
  refine ⟨m_st (m_st ν 1045 f (clr (ν 1045 f) s)) 1000 64 (w32 (ν 1000 64 + 1)), ?_, ?_, ?_, fun c i z y => by rw [m_st_d, if_neg y, m_st_d, if_neg z]⟩
  · unfold M_burnsIn
    have e : m_st ν 1045 f (clr (ν 1045 f) s) 1000 64 = ν 1000 64 := m_st_c (by decide)
    rw [q_ld_s hf.1 hf.2, q_st_s hf.1 hf.2, q_pf_d, w32_i (x := 10 * f) (by omega) (by omega), w32_i (x := 10 * f + s) (by omega) (by omega), q_ld_s (by omega) (by omega)]
    show some (m_st (m_st ν 1045 f (clr (ν 1045 f) s)) 1000 64 (w32 (m_st ν 1045 f (clr (ν 1045 f) s) 1000 64 + 1)) 1046 (10 * f + s), _) = _
    rw [e, m_st_c (by decide), m_st_c (by decide)]
    rfl
  · rw [m_st_c (by decide), m_st_d, if_pos ⟨rfl, rfl⟩]
  · rw [m_st_d, if_pos ⟨rfl, rfl⟩]
theorem laysIn_s {f s v : Int} {ν : am_M} (hf : 0 ≤ f ∧ f < 16) (hs : 0 ≤ s ∧ s < 10) : ∃ ν', M_laysIn f s v ν = some (0, ν') ∧ ν' 1045 f = aOr (ν 1045 f) (aShl 1 s) ∧ ν' 1046 (10 * f + s) = v ∧ (∀ c i, ¬ (c = 1045 ∧ i = f) → ¬ (c = 1046 ∧ i = 10 * f + s) → ν' c i = ν c i) := by
  refine ⟨m_st (m_st ν 1045 f (aOr (ν 1045 f) (aShl 1 s))) 1046 (10 * f + s) v, ?_, ?_, ?_, fun c i z y => by rw [m_st_d, if_neg y, m_st_d, if_neg z]⟩
  · unfold M_laysIn
    rw [q_ld_s hf.1 hf.2, q_st_s hf.1 hf.2, w32_i (x := 10 * f) (by omega) (by omega), w32_i (x := 10 * f + s) (by omega) (by omega), q_st_s (by omega) (by omega)]
  · rw [m_st_c (by decide), m_st_d, if_pos ⟨rfl, rfl⟩]
  · rw [m_st_d, if_pos ⟨rfl, rfl⟩]
/-- slips r are burnt in frame f -/
def BRF (f : Int) (r : List Int) (ν ν' : am_M) : Prop := (S10 (ν' 1045 f)) ∧ (∀ t, 0 ≤ t → t < 10 → (tb (ν' 1045 f) t = true ↔ tb (ν 1045 f) t = true ∧ t ∉ r)) ∧ (ν' 1000 64 = w32 (ν 1000 64 + (r.length : Nat))) ∧ (∀ c i, ¬ (c = 1045 ∧ i = f) → ¬ (c = 1000 ∧ i = 64) → ν' c i = ν c i)
theorem BRF.so {f : Int} {r : List Int} {ν ν' : am_M} (h : BRF f r ν ν') : S10 (ν' 1045 f) := h.1
theorem BRF.bt {f : Int} {r : List Int} {ν ν' : am_M} (h : BRF f r ν ν') : ∀ t, 0 ≤ t → t < 10 → (tb (ν' 1045 f) t = true ↔ tb (ν 1045 f) t = true ∧ t ∉ r) := h.2.1
theorem BRF.as {f : Int} {r : List Int} {ν ν' : am_M} (h : BRF f r ν ν') : ν' 1000 64 = w32 (ν 1000 64 + (r.length : Nat)) := h.2.2.1
theorem BRF.fr {f : Int} {r : List Int} {ν ν' : am_M} (h : BRF f r ν ν') : ∀ c i, ¬ (c = 1045 ∧ i = f) → ¬ (c = 1000 ∧ i = 64) → ν' c i = ν c i := h.2.2.2
theorem BRF.mk {f : Int} {r : List Int} {ν ν' : am_M} (so : S10 (ν' 1045 f)) (bt : ∀ t, 0 ≤ t → t < 10 → (tb (ν' 1045 f) t = true ↔ tb (ν 1045 f) t = true ∧ t ∉ r)) (as : ν' 1000 64 = w32 (ν 1000 64 + (r.length : Nat))) (fr : ∀ c i, ¬ (c = 1045 ∧ i = f) → ¬ (c = 1000 ∧ i = 64) → ν' c i = ν c i) : BRF f r ν ν' := ⟨so, bt, as, fr⟩
theorem BRF.nil {f : Int} {ν : am_M} (h : S10 (ν 1045 f)) (ha : r32 (ν 1000 64)) : BRF f [] ν ν := by
  refine (BRF.mk (so := h) (bt := fun t _ _ => by simp) (as := ?_) (fr := fun _ _ _ _ => rfl))
  have e : ν 1000 64 + ((([] : List Int).length : Nat) : Int) = ν 1000 64 := by show ν 1000 64 + 0 = _; omega
  rw [e, w32_id ha]
theorem BRF.cons {f s : Int} {r : List Int} {ν ν1 ν' : am_M} (hs : 0 ≤ s ∧ s < 10) (h1 : ν1 1045 f = clr (ν 1045 f) s) (h2 : ν1 1000 64 = w32 (ν 1000 64 + 1)) (h3 : ∀ c i, ¬ (c = 1045 ∧ i = f) → ¬ (c = 1000 ∧ i = 64) → ν1 c i = ν c i) (h : BRF f r ν1 ν') : BRF f (s :: r) ν ν' := by
  refine (BRF.mk (so := h.so) (bt := fun t p q => ?_) (as := ?_) (fr := fun c i p q => by rw [h.fr c i p q, h3 c i p q]))
  · rw [h.bt t p q, h1, clr_tb hs p q, List.mem_cons, not_or, and_assoc]
  · rw [h.as, h2, w32_add, List.length_cons]
    congr 1
    omega
theorem burn_L {f l v : Int} (hf : 0 ≤ f ∧ f < 16) (hl : 0 ≤ l ∧ l < 60) : ∀ (L : List Int) (fu : Nat) (p : Int) (ν : am_M), fsg (ν 1012) p L → ν 1011 l = p + L.length → 0 ≤ p → ν 1011 l ≤ 1000 → L.length < fu → S10 (ν 1045 f) → r32 (ν 1000 64) → ∃ ν', M_reckonsIn_L19 fu f l v p ν = some (v, ν') ∧ BRF f (nmL L) ν ν'
  | _, 0, _, _, _, _, _, _, h, _, _ => by omega
  | [], fu + 1, p, ν, _, h1, h0, h3, _, hs, ha => by
    refine ⟨ν, ?_, BRF.nil hs ha⟩
    show M_reckonsIn_L19_b (M_reckonsIn_L19 fu) f l v p ν = _
    unfold M_reckonsIn_L19_b
    have e : ((([] : List Int).length : Nat) : Int) = 0 := rfl
    rw [q_ld_s (by omega) (by omega), if_neg (by omega)]
  | c :: L, fu + 1, p, ν, hfs, h1, h0, h3, hfu, hs, ha => by
    rw [List.length_cons] at h1 hfu
    have e0 : M_reckonsIn_L19 (fu + 1) f l v p ν = M_reckonsIn_L19_b (M_reckonsIn_L19 fu) f l v p ν := rfl
    rw [e0, nmL_c]
    unfold M_reckonsIn_L19_b M_reckonsIn_B61
    rw [q_ld_s (by omega) (by omega), if_pos (by omega), q_ld_s h0 (by omega), hfs.1, within_s, q_bd_s, w32_i (x := p + 1) (by omega) (by omega)]
    by_cases q : 1 ≤ c ∧ c ≤ 10
    · rw [if_pos q, if_neg (by decide), if_pos q, q_ld_s h0 (by omega), hfs.1, w32_i (x := c - 1) (by omega) (by omega)]
      obtain ⟨ν1, a1, a2, a3, a4⟩ := burnsIn_s (f := f) (s := c - 1) (ν := ν) hf (by omega)
      rw [a1, q_bd_s]
      have e11 : ν1 1011 l = ν 1011 l := a4 _ _ (by omega) (by omega)
      obtain ⟨ν', b1, b2⟩ := burn_L (v := v) hf hl L fu (p + 1) ν1 (fsg_c L _ (fun i _ _ => a4 _ _ (by omega) (by omega)) hfs.2) (by rw [e11]; omega) (by omega) (by rw [e11]; exact h3) (by omega) (by rw [a2]; exact S10_clr hs) (by rw [a3]; exact w32_r _)
      exact ⟨ν', b1, BRF.cons (by omega) a2 a3 a4 b2⟩
    · rw [if_neg q, if_pos rfl, if_neg q]
      exact burn_L hf hl L fu (p + 1) ν hfs.2 (by omega) (by omega) h3 (by omega) hs ha
/-- an E is reckoned and all that it reads burns -/
theorem reckonsIn_s {b l W f : Int} {Wn V : Int → Int} {r L : List Int} {μ ν : am_M} (h : EE b l W Wn r L μ ν) (hf : 0 ≤ f ∧ f < 16) (hV : ∀ s ∈ r, ν 1046 (10 * f + s) = V s) (hs : S10 (ν 1045 f)) (ha : r32 (ν 1000 64)) : ∃ ν1 ν', M_reckonsIn f l ν = some (ifx (envR r V) Wn L, ν') ∧ (∀ c i, ¬ (1024 ≤ c ∧ c ≤ 1033) → ν1 c i = ν c i) ∧ BRF f r ν1 ν' := by
  have hFU := am_FU_ge
  have hl := h.l0
  obtain ⟨ν1, a1, a2⟩ := EE_r (v := 0) (A := 1046) h (o := 10 * f) (by omega) (Or.inl ⟨rfl, rfl⟩) hV
  have F : ∀ c, ¬ (1024 ≤ c ∧ c ≤ 1033) → ν1 c = ν c := fun c z => funext fun i => a2 c i z
  have h2 := h.cong (μ' := μ) (ν' := ν1) (fun _ _ _ => rfl) (fun c z => F c (by omega))
  have hln := h2.ln
  have hf0 := h2.f0
  obtain ⟨ν', b1, b2⟩ := burn_L (v := ifx (envR r V) Wn L) hf hl L am_FU (ν1 1010 l) ν1 h2.fs h2.ln h2.f0.1 h2.f0.2 (by omega) (by rw [a2 _ _ (by decide)]; exact hs) (by rw [a2 _ _ (by decide)]; exact ha)
  rw [h.nr] at b2
  refine ⟨ν1, ν', ?_, a2, b2⟩
  unfold M_reckonsIn
  rw [w32_i (x := 10 * f) (by omega) (by omega), a1, q_bd_s, q_ld_s (by omega) (by omega), b1]
theorem clears_L {f set : Int} (hf : 0 ≤ f ∧ f < 16) {y : Int} : ∀ (n fu : Nat) (k : Nat) (ν : am_M), k + n = 10 → n < fu → S10 (ν 1045 f) → r32 (ν 1000 64) → (∀ t, (k : Int) ≤ t → t < 10 → tb y t = (tb (ν 1045 f) t && !tb set t)) → ∃ ν', M_clears_L2 fu f set (k : Int) ν = some (0, ν') ∧ S10 (ν' 1045 f) ∧ (∀ t, 0 ≤ t → t < 10 → (tb (ν' 1045 f) t = true ↔ tb (ν 1045 f) t = true ∧ (t < k ∨ tb set t = true))) ∧ ν' 1000 64 = w32 (ν 1000 64 + (pcn y 10 - pcn y k)) ∧ (∀ c i, ¬ (c = 1045 ∧ i = f) → ¬ (c = 1000 ∧ i = 64) → ν' c i = ν c i)
  | n, 0, _, _, _, h, _, _, _ => by omega
  | 0, fu + 1, k, ν, hk, _, hs, ha, hy => by
    have e : k = 10 := by omega
    subst e
    refine ⟨ν, ?_, hs, fun t p q => ⟨fun z => ⟨z, Or.inl q⟩, fun z => z.1⟩, ?_, fun _ _ _ _ => rfl⟩
    · show M_clears_L2_b (M_clears_L2 fu) f set _ ν = _
      unfold M_clears_L2_b
      rw [if_neg (by decide)]
    · have e2 : ν 1000 64 + (pcn y 10 - pcn y 10) = ν 1000 64 := by omega
      rw [e2, w32_id ha]
  | n + 1, fu + 1, k, ν, hk, hfu, hs, ha, hy => by
    have e0 : M_clears_L2 (fu + 1) f set (k : Int) ν = M_clears_L2_b (M_clears_L2 fu) f set (k : Int) ν := rfl
    have ek : (((k + 1 : Nat)) : Int) = (k : Int) + 1 := by omega
    have hyk := hy k (Int.le_refl _) (by omega)
    have hp : pcn y (k + 1) = pcn y k + b2 (tb y k) := rfl
    rw [e0]
    unfold M_clears_L2_b M_clears_B37
    rw [if_pos (by omega), q_ld_s hf.1 hf.2, w32_i (x := (k : Int) + 1) (by omega) (by omega), bit_1 (by omega) (by omega), ← ek]
    have skip : (tb (ν 1045 f) k = true → tb set k = true) → ∃ ν', M_clears_L2 fu f set ((k + 1 : Nat) : Int) ν = some (0, ν') ∧ S10 (ν' 1045 f) ∧ (∀ t, 0 ≤ t → t < 10 → (tb (ν' 1045 f) t = true ↔ tb (ν 1045 f) t = true ∧ (t < k ∨ tb set t = true))) ∧ ν' 1000 64 = w32 (ν 1000 64 + (pcn y 10 - pcn y k)) ∧ (∀ c i, ¬ (c = 1045 ∧ i = f) → ¬ (c = 1000 ∧ i = 64) → ν' c i = ν c i) := by
      intro z
      obtain ⟨ν', a1, a2, a3, a4, a5⟩ := clears_L (set := set) hf n fu (k + 1) ν (by omega) (by omega) hs ha (fun t p q => hy t (by omega) q)
      have yk : tb y k = false := by
        rw [hyk]
        cases c1 : tb (ν 1045 f) k with
        | true => rw [z c1]; rfl
        | false => rfl
      refine ⟨ν', a1, a2, fun t p q => ?_, ?_, a5⟩
      · rw [a3 t p q]
        constructor
        · rintro ⟨z1, z2 | z2⟩
          · by_cases c : t = k
            · exact ⟨z1, Or.inr (by rw [c]; exact z (by rw [← c]; exact z1))⟩
            · exact ⟨z1, Or.inl (by omega)⟩
          · exact ⟨z1, Or.inr z2⟩
        · rintro ⟨z1, z2 | z2⟩
          · exact ⟨z1, Or.inl (by omega)⟩
          · exact ⟨z1, Or.inr z2⟩
      · rw [a4, hp, yk]
        show w32 (ν 1000 64 + (pcn y 10 - (pcn y k + 0))) = _
        congr 1
        omega
    by_cases c1 : tb (ν 1045 f) k = true
    · rw [if_pos c1, if_pos rfl]
      by_cases c2 : tb set k = true
      · rw [if_neg (fun z => by rw [bit_0 (by omega) (by omega)] at z; rw [z] at c2; cases c2)]
        exact skip (fun _ => c2)
      · have c2' : tb set k = false := by cases z : tb set k with
          | true => exact absurd z c2
          | false => rfl
        rw [if_pos ((bit_0 (by omega) (by omega)).mpr c2')]
        obtain ⟨ν1, b1, b2, b3, b4⟩ := burnsIn_s (f := f) (s := (k : Int)) (ν := ν) hf (by omega)
        rw [b1, q_bd_s]
        obtain ⟨ν', a1, a2, a3, a4, a5⟩ := clears_L (set := set) (y := y) hf n fu (k + 1) ν1 (by omega) (by omega) (by rw [b2]; exact S10_clr hs) (by rw [b3]; exact w32_r _) (fun t p q => by
          rw [hy t (by omega) q, b2, tb_clr (by omega) (by omega) (by omega), decide_eq_false (show ¬ t = (k : Int) by omega), Bool.not_false, Bool.and_true])
        have yk : tb y k = true := by rw [hyk, c1, c2']; rfl
        refine ⟨ν', a1, a2, fun t p q => ?_, ?_, fun c i p q => by rw [a5 c i p q, b4 c i p q]⟩
        · rw [a3 t p q, b2, clr_tb (by omega) p q]
          constructor
          · rintro ⟨⟨z1, z3⟩, z2 | z2⟩
            · exact ⟨z1, Or.inl (by omega)⟩
            · exact ⟨z1, Or.inr z2⟩
          · rintro ⟨z1, z2 | z2⟩
            · exact ⟨⟨z1, by omega⟩, Or.inl (by omega)⟩
            · exact ⟨⟨z1, fun c => by rw [c] at z2; exact c2 z2⟩, Or.inr z2⟩
        · rw [a4, b3, w32_add, hp, yk]
          show w32 (ν 1000 64 + 1 + (pcn y 10 - (pcn y k + 1))) = _
          congr 1
          omega
    · rw [if_neg c1, if_neg (by decide)]
      exact skip (fun z => absurd z c1)
/-- all that is not in a set is gone; y: those that go -/
theorem clears_s {f set y : Int} {ν : am_M} (hf : 0 ≤ f ∧ f < 16) (hs : S10 (ν 1045 f)) (ha : r32 (ν 1000 64)) (hy : ∀ t, 0 ≤ t → t < 10 → tb y t = (tb (ν 1045 f) t && !tb set t)) : ∃ ν', M_clears f set ν = some (0, ν') ∧ S10 (ν' 1045 f) ∧ (∀ t, 0 ≤ t → t < 10 → (tb (ν' 1045 f) t = true ↔ tb (ν 1045 f) t = true ∧ tb set t = true)) ∧ ν' 1000 64 = w32 (ν 1000 64 + pc y) ∧ (∀ c i, ¬ (c = 1045 ∧ i = f) → ¬ (c = 1000 ∧ i = 64) → ν' c i = ν c i) := by
  have hFU := am_FU_ge
  obtain ⟨ν', a1, a2, a3, a4, a5⟩ := clears_L (f := f) (set := set) (y := y) hf 10 am_FU 0 ν (by omega) (by omega) hs ha (fun t p q => hy t p q)
  refine ⟨ν', a1, a2, fun t p q => ?_, ?_, a5⟩
  · rw [a3 t p q]
    constructor
    · rintro ⟨z1, z2 | z2⟩
      · have e : ((0 : Nat) : Int) = 0 := rfl
        omega
      · exact ⟨z1, z2⟩
    · exact fun z => ⟨z.1, Or.inr z.2⟩
  · rw [a4]
    show w32 (ν 1000 64 + (pcn y 10 - 0)) = w32 (ν 1000 64 + pcn y 10)
    congr 1
    omega
/-- the class reads a line's slips -/
theorem readS_s {b c d l x : Int} {r : List Int} {μ ν : am_M} (hb : bOk b) (hc : mOk c) (hl : 0 ≤ l ∧ l < 60) (hr : RL b l r μ ν) (h1 : μ c 1 ≠ 0) (h5 : μ c 5 = d) (hd : 1 ≤ d ∧ d ≤ 16) (hx : μ (c + 2) (d - 1) = x) (hs : S10 x) : ∃ X μ', Mc_readSlips c (b + 1) l μ = some (1, μ') ∧ μ' (c + 2) (d - 1) = X ∧ S10 X ∧ (∀ t, 0 ≤ t → t < 10 → (tb X t = true ↔ tb x t = true ∧ t ∉ r)) ∧ μ' c 9 = w32 (μ c 9 + (r.length : Nat)) ∧ (∀ y i, ¬ (y = c + 2 ∧ i = d - 1) → ¬ (y = c ∧ i = 9) → μ' y i = μ y i) := by
  obtain ⟨t1, t2, -⟩ := timesRead_s hb hr hl
  have hS := rsF_S r 0 S10_0 hr.sl
  have hT : ∀ t, 0 ≤ t → t < 10 → (tb (rsF 0 r) t = true ↔ t ∈ r) := fun t p z => by
    rw [rsF_tb r 0 t hr.sl p (by omega), tb_0]
    exact ⟨fun y => y.elim (fun w => by cases w) (fun w => w), Or.inr⟩
  generalize rsF 0 r = q at *
  refine ⟨aAnd x (aXor q (-1)), m_st (m_st μ c 9 (w32 (μ c 9 + (r.length : Nat)))) (c + 2) (d - 1) (aAnd x (aXor q (-1))), ?_, by rw [m_st_d, if_pos ⟨rfl, rfl⟩], S10_and hs, ?_, by rw [m_st_c (by omega), m_st_d, if_pos ⟨rfl, rfl⟩], fun y i p z => by rw [m_st_d, if_neg p, m_st_d, if_neg z]⟩
  · have e5 : m_st μ c 9 (w32 (μ c 9 + (r.length : Nat))) c 5 = d := by rw [m_st_i (by decide)]; exact h5
    unfold Mc_readSlips
    rw [q_gd_s (bO2 hb), t2, q_bd_s, q_gd_s (mO3 hc), h5, w32_i (x := d - 1) (by omega) (by omega), mat2 hc, if_pos (by omega), q_bd_s, hx, if_neg h1, t1, q_bd_s, q_pf_d, e5, w32_i (x := d - 1) (by omega) (by omega), mput2 hc, if_pos (by omega), q_bd_s]
  · intro t p z
    rw [tb_and, tb_not p (by omega), Bool.and_eq_true, Bool.not_eq_true', ← hT t p z]
    cases tb q t <;> simp
