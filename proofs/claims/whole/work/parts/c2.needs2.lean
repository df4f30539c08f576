/-! The promise of needs. -/
theorem zero_L {v f : Int} : ∀ (n fu : Nat) (i : Int) (ν : am_M), i + n = 10 → 0 ≤ i → n < fu → ∃ ν', M_needs_L26 fu v f i ν = (q_ld 8 1017 v ν' fun a1 => M_needs_L59 am_FU v f a1 ν') ∧ (∀ s, i ≤ s → s < 10 → ν' 1052 s = 0 ∧ ν' 1053 s = 0) ∧ (∀ c x, ¬ (1052 ≤ c ∧ c ≤ 1053 ∧ i ≤ x) → ν' c x = ν c x)
  | n, 0, _, _, _, _, h => by omega
  | 0, fu + 1, i, ν, hi, h0, _ => by
    refine ⟨ν, ?_, fun s p q => by omega, fun _ _ _ => rfl⟩
    show M_needs_L26_b (M_needs_L26 fu) v f i ν = _
    unfold M_needs_L26_b
    rw [if_neg (by omega)]
  | n + 1, fu + 1, i, ν, hi, h0, hf => by
    obtain ⟨ν', a1, a2, a3⟩ := zero_L (v := v) (f := f) n fu (i + 1) (m_st (m_st ν 1052 i 0) 1053 i 0) (by omega) (by omega) (by omega)
    refine ⟨ν', ?_, fun s p q => ?_, fun c x z => by rw [a3 c x (by omega), m_st_d, if_neg (by omega), m_st_d, if_neg (by omega)]⟩
    · rw [← a1]
      show M_needs_L26_b (M_needs_L26 fu) v f i ν = _
      unfold M_needs_L26_b
      rw [if_pos (by omega), q_st_s h0 (by omega), q_stb_s h0 (by omega) (Or.inl rfl), w32_i (x := i + 1) (by omega) (by omega)]
    · by_cases y : s = i
      · rw [y, a3 _ _ (by omega), a3 _ _ (by omega)]
        constructor
        · rw [m_st_c (by decide), m_st_d, if_pos ⟨rfl, rfl⟩]
        · rw [m_st_d, if_pos ⟨rfl, rfl⟩]
      · exact a2 s (by omega) q
def OC (b F l : Int) (μ ν ν1 : am_M) : Prop := ∀ s, 0 ≤ s → s < 10 → (ν1 1053 s = 1 ∧ ON b F l μ ν s) ∨ (ν1 1053 s = 0 ∧ ¬ ON b F l μ ν s)
theorem once_L {b v f F E : Int} {μ ν : am_M} (h : NB b F E μ ν) (hv : 0 ≤ v ∧ v < 4) (h17 : ν 1017 v = F) (h18 : ν 1018 v = E - F) : ∀ (n fu : Nat) (l : Int) (ν1 : am_M), E - l = n → F ≤ l → n < fu → NFR ν ν1 → OC b F l μ ν ν1 → ∃ ν', M_needs_L59 fu v f l ν1 = (q_pf 1000 77 1000000 ν' fun μ3 => q_pf 1000 78 0 μ3 fun μ4 => q_ld 8 1017 v μ4 fun a5 => if f < 2 then (M_needs_B155 f a5 1 μ4) else (M_needs_B155 f a5 0 μ4)) ∧ OC b F E μ ν ν' ∧ (∀ c x, c ≠ 1053 → ν' c x = ν1 c x)
  | n, 0, _, _, _, _, h, _, _ => by omega
  | 0, fu + 1, l, ν1, hn, hF, _, hν, ho => by
    have F0 := h.nd.kd.F0
    have FE := h.FE
    have e : l = E := by omega
    subst e
    refine ⟨ν1, ?_, ho, fun _ _ _ => rfl⟩
    have ll : M_lastLine v ν1 = some (l - 1, ν1) := last_s hv (by rw [hν 1017 v (by omega) (by omega), hν 1018 v (by omega) (by omega), h17, h18]; omega) (by omega)
    show M_needs_L59_b (M_needs_L59 fu) v f l ν1 = _
    unfold M_needs_L59_b
    rw [ll, q_bd_s, if_neg (by omega)]
  | n + 1, fu + 1, l, ν1, hn, hF, hf, hν, ho => by
    have F0 := h.nd.kd.F0
    have FE := h.FE
    have ck := h.nd.ck l hF (by omega)
    have hla := ck.la
    have hbe := ck.be
    have htw := h.tw l hF (by omega)
    have hkp := h.kp l hF (by omega)
    have ll : M_lastLine v ν1 = some (E - 1, ν1) := last_s hv (by rw [hν 1017 v (by omega) (by omega), hν 1018 v (by omega) (by omega), h17, h18]; omega) (by omega)
    have eON : ∀ s, ON b F (l + 1) μ ν s ↔ ON b F l μ ν s ∨ (μ (b + 5) l = 1 ∧ (ν 1003 l = s ∨ ν 1004 l = s)) := by
      intro s
      constructor
      · rintro ⟨x, x0, x1, x2, x3⟩
        by_cases y : x = l
        · subst y; exact Or.inr ⟨x2, x3⟩
        · exact Or.inl ⟨x, x0, by omega, x2, x3⟩
      · rintro (⟨x, x0, x1, x2, x3⟩ | ⟨x2, x3⟩)
        · exact ⟨x, x0, by omega, x2, x3⟩
        · exact ⟨l, hF, by omega, x2, x3⟩
    have g : ∀ c, c ≠ 1000 → ¬ (1052 ≤ c ∧ c ≤ 1053) → ν1 c l = ν c l := fun c p q => hν c l (by omega) q
    have e0 : M_needs_L59 (fu + 1) v f l ν1 = M_needs_L59_b (M_needs_L59 fu) v f l ν1 := rfl
    -- the slip besides
    have st2 : ∀ ν2, (∀ c x, c ≠ 1053 → ν2 c x = ν1 c x) → (∀ s, 0 ≤ s → s < 10 → (ν2 1053 s = 1 ∧ (ON b F l μ ν s ∨ (μ (b + 5) l = 1 ∧ ν 1003 l = s))) ∨ (ν2 1053 s = 0 ∧ ¬ (ON b F l μ ν s ∨ (μ (b + 5) l = 1 ∧ ν 1003 l = s)))) → ∃ ν3, M_needs_B99 (M_needs_L59 fu) v f l ν2 = M_needs_L59 fu v f (l + 1) ν3 ∧ OC b F (l + 1) μ ν ν3 ∧ (∀ c x, c ≠ 1053 → ν3 c x = ν1 c x) := by
      intro ν2 h2 ho2
      have e4 : ν2 1004 l = ν 1004 l := by rw [h2 _ _ (by decide)]; exact g 1004 (by decide) (by decide)
      unfold M_needs_B99 M_needs_B120
      rw [q_ld_s (by omega) (by omega), e4, w32_i (x := l + 1) (by omega) (by omega)]
      by_cases c : ν 1004 l < 0
      · rw [if_pos c]
        refine ⟨ν2, rfl, fun s p q => ?_, h2⟩
        rw [eON s]
        rcases ho2 s p q with ⟨y1, y2⟩ | ⟨y1, y2⟩
        · exact Or.inl ⟨y1, y2.imp (fun w => w) (fun w => ⟨w.1, Or.inl w.2⟩)⟩
        · refine Or.inr ⟨y1, fun w => y2 (w.imp (fun w => w) (fun w => ⟨w.1, ?_⟩))⟩
          rcases w.2 with t | t
          · exact t
          · omega
      · rw [if_neg c, q_ld_s (by omega) (by omega), e4, q_stb_s (by omega) (by omega) (Or.inr rfl)]
        have o1 := hkp.mp (htw (by omega))
        refine ⟨_, rfl, fun s p q => ?_, fun y x z => by rw [m_st_c z, h2 y x z]⟩
        rw [eON s]
        by_cases y : s = ν 1004 l
        · rw [y, m_st_d, if_pos ⟨rfl, rfl⟩]
          exact Or.inl ⟨rfl, Or.inr ⟨o1, Or.inr rfl⟩⟩
        · rw [m_st_i y]
          rcases ho2 s p q with ⟨y1, y2⟩ | ⟨y1, y2⟩
          · exact Or.inl ⟨y1, y2.imp (fun w => w) (fun w => ⟨w.1, Or.inl w.2⟩)⟩
          · refine Or.inr ⟨y1, fun w => y2 (w.imp (fun w => w) (fun w => ⟨w.1, ?_⟩))⟩
            rcases w.2 with t | t
            · exact t
            · exact absurd t.symm y
    have st1 : ∃ ν2, M_needs_L59_b (M_needs_L59 fu) v f l ν1 = M_needs_B99 (M_needs_L59 fu) v f l ν2 ∧ (∀ c x, c ≠ 1053 → ν2 c x = ν1 c x) ∧ (∀ s, 0 ≤ s → s < 10 → (ν2 1053 s = 1 ∧ (ON b F l μ ν s ∨ (μ (b + 5) l = 1 ∧ ν 1003 l = s))) ∨ (ν2 1053 s = 0 ∧ ¬ (ON b F l μ ν s ∨ (μ (b + 5) l = 1 ∧ ν 1003 l = s)))) := by
      unfold M_needs_L59_b
      rw [ll, q_bd_s, if_pos (by omega), q_ld_s (by omega) (by omega), g 1003 (by decide) (by decide)]
      by_cases c : ν 1003 l < 0
      · rw [if_pos c]
        refine ⟨ν1, rfl, fun _ _ _ => rfl, fun s p q => ?_⟩
        rcases ho s p q with ⟨y1, y2⟩ | ⟨y1, y2⟩
        · exact Or.inl ⟨y1, Or.inl y2⟩
        · exact Or.inr ⟨y1, fun w => w.elim y2 (fun w => by omega)⟩
      · rw [if_neg c, q_ld_s (by omega) (by omega), g 1005 (by decide) (by decide)]
        by_cases d : ν 1005 l = 1
        · rw [if_pos d, q_ld_s (by omega) (by omega), g 1003 (by decide) (by decide), q_stb_s (by omega) (by omega) (Or.inr rfl)]
          refine ⟨_, rfl, fun y x z => m_st_c z, fun s p q => ?_⟩
          by_cases y : s = ν 1003 l
          · rw [y, m_st_d, if_pos ⟨rfl, rfl⟩]
            exact Or.inl ⟨rfl, Or.inr ⟨hkp.mp d, rfl⟩⟩
          · rw [m_st_i y]
            rcases ho s p q with ⟨y1, y2⟩ | ⟨y1, y2⟩
            · exact Or.inl ⟨y1, Or.inl y2⟩
            · exact Or.inr ⟨y1, fun w => w.elim y2 (fun w => y w.2.symm)⟩
        · rw [if_neg d]
          refine ⟨ν1, rfl, fun _ _ _ => rfl, fun s p q => ?_⟩
          rcases ho s p q with ⟨y1, y2⟩ | ⟨y1, y2⟩
          · exact Or.inl ⟨y1, Or.inl y2⟩
          · exact Or.inr ⟨y1, fun w => w.elim y2 (fun w => d (hkp.mpr w.1))⟩
    obtain ⟨ν2, a1, a2, a3⟩ := st1
    obtain ⟨ν3, b1, b2, b3⟩ := st2 ν2 a2 a3
    obtain ⟨ν', c1, c2, c3⟩ := once_L h hv h17 h18 n fu (l + 1) ν3 (by omega) (by omega) (by omega) (fun c i p q => by rw [b3 c i (by omega)]; exact hν c i p q) b2
    exact ⟨ν', by rw [e0, a1, b1, c1], c2, fun c x z => by rw [c3 c x z, b3 c x z]⟩
theorem OC_on {b F E : Int} {μ ν ν1 : am_M} (h : OC b F E μ ν ν1) : ∀ s, 0 ≤ s → s < 10 → ν1 1053 s = onF b F E μ ν s := fun s p q => by
  rcases h s p q with ⟨y1, y2⟩ | ⟨y1, y2⟩
  · rw [y1, onF_1 y2]
  · rw [y1, onF_0.mpr y2]
/-- the reference's answer -/
theorem needs_r {b v f F E : Int} {μ ν : am_M} (h : NB b F E μ ν) (hv : 0 ≤ v ∧ v < 4) (hf : 0 ≤ f ∧ f ≤ 3) (h17 : ν 1017 v = F) (h18 : ν 1018 v = E - F) : ∃ x ν', M_needs_L26 am_FU v f 0 ν = some (x, ν') ∧ NVal b F E μ ν f x ∧ NFR ν ν' := by
  have hFU := am_FU_ge
  have F0 := h.nd.kd.F0
  have FE := h.FE
  obtain ⟨ν1, a1, a2, a3⟩ := zero_L (v := v) (f := f) 10 am_FU 0 ν (by omega) (by omega) (by omega)
  have hν1 : NFR ν ν1 := fun c i p q => a3 c i (by omega)
  obtain ⟨ν2, b1, b2, b3⟩ := once_L (f := f) h hv h17 h18 (E - F).toNat am_FU F ν1 (by omega) (Int.le_refl _) (by omega) hν1 (fun s p q => Or.inr ⟨(a2 s p q).2, fun ⟨x, x0, x1, _⟩ => by omega⟩)
  generalize hν3 : m_st (m_st ν2 1000 77 1000000) 1000 78 0 = ν3
  have f3 : ∀ c i, ¬ (c = 1000 ∧ (i = 77 ∨ i = 78)) → ν3 c i = ν2 c i := fun c i p => by rw [← hν3, m_st_d, if_neg (by omega), m_st_d, if_neg (by omega)]
  have z77 : ν3 1000 77 = 1000000 := by rw [← hν3, m_st_i (by decide), m_st_d, if_pos ⟨rfl, rfl⟩]
  have z78 : ν3 1000 78 = 0 := by rw [← hν3, m_st_d, if_pos ⟨rfl, rfl⟩]
  have hν3' : NFR ν ν3 := fun c i p q => by rw [f3 c i p, b3 c i (by omega), hν1 c i p q]
  have e17 : ν3 1017 v = F := by rw [hν3' 1017 v (by omega) (by omega)]; exact h17
  have eN : M_needs_L26 am_FU v f 0 ν = if f < 2 then M_needs_B155 f F 1 ν3 else M_needs_B155 f F 0 ν3 := by
    rw [a1, q_ld_s (by omega) (by omega), hν1 1017 v (by omega) (by omega), h17, b1, q_pf_d, q_pf_d, hν3, q_ld_s (by omega) (by omega), e17]
  have z0 : (fun s => (fun _ : Int => (0 : Int)) s + (fun _ : Int => (0 : Int)) s) = (fun _ => 0) := rfl
  have walk : ∀ tw, (tw = 0 ∨ tw = 1) → ∃ ν4, M_walks 64 F tw ν3 = some (0, ν4) ∧ MN (vF tw (onF b F E μ ν)) (WS (RR b μ) ν 60 F (fun _ => 0)) 1000000 (ν4 1000 77) ∧ MX (vF tw (onF b F E μ ν)) (WS (RR b μ) ν 60 F (fun _ => 0)) 0 (ν4 1000 78) ∧ NFR ν ν4 := by
    intro tw htw
    obtain ⟨ν4, c1, c2, c3, c4, c5⟩ := walks_L (on := onF b F E μ ν) h.nd h.nj htw 60 63 am_FU 0 F F (fun _ => 0) (fun _ => 0) ν3 (by decide) (Int.le_refl _) (Int.le_refl _) FE (by omega) (by omega) ⟨rfl, fun _ => rfl⟩ (by decide) hν3' (fun s p q => by rw [f3 _ _ (by omega)]; exact OC_on b2 s p q) (fun s p q => by rw [f3 _ _ (by omega), b3 _ _ (by decide), (a2 s p q).1]; rfl)
    rw [z0, z77] at c3
    rw [z0, z78] at c4
    exact ⟨ν4, c1, c3, c4, fun c i p q => by rw [c5 c i p (by omega), hν3' c i p q]⟩
  have hc : f = 0 ∨ f = 1 ∨ f = 2 ∨ f = 3 := by omega
  have r0 : aRem 0 2 = 0 := by decide +kernel
  have r1 : aRem 1 2 = 1 := by decide +kernel
  have r2 : aRem 2 2 = 0 := by decide +kernel
  have r3 : aRem 3 2 = 1 := by decide +kernel
  rw [eN]
  unfold M_needs_B155
  rcases hc with z | z | z | z
  · obtain ⟨ν4, c1, c2, c3, c4⟩ := walk 1 (Or.inr rfl)
    subst z
    refine ⟨ν4 1000 77, ν4, ?_, ⟨fun _ => c2, fun y => by omega, fun y => by omega, fun y => by omega⟩, c4⟩
    rw [if_pos (by decide), c1, q_bd_s, r0, if_pos rfl]
  · obtain ⟨ν4, c1, c2, c3, c4⟩ := walk 1 (Or.inr rfl)
    subst z
    refine ⟨ν4 1000 78, ν4, ?_, ⟨fun y => by omega, fun _ => c3, fun y => by omega, fun y => by omega⟩, c4⟩
    rw [if_pos (by decide), c1, q_bd_s, r1, if_neg (by decide)]
  · obtain ⟨ν4, c1, c2, c3, c4⟩ := walk 0 (Or.inl rfl)
    subst z
    refine ⟨ν4 1000 77, ν4, ?_, ⟨fun y => by omega, fun y => by omega, fun _ => c2, fun y => by omega⟩, c4⟩
    rw [if_neg (by decide), c1, q_bd_s, r2, if_pos rfl]
  · obtain ⟨ν4, c1, c2, c3, c4⟩ := walk 0 (Or.inl rfl)
    subst z
    refine ⟨ν4 1000 78, ν4, ?_, ⟨fun y => by omega, fun y => by omega, fun y => by omega, fun _ => c3⟩, c4⟩
    rw [if_neg (by decide), c1, q_bd_s, r3, if_neg (by decide)]
theorem WS_tg {R : Int → List Int} {ν ν' : am_M} (g : TG ν ν') : ∀ (n : Nat) (l : Int) (v u : Int → Int), WS R ν' n l v u ↔ WS R ν n l v u
  | 0, _, _, _ => Iff.rfl
  | n + 1, l, v, u => by
    have e2 : ν' 1002 l = ν 1002 l := by rw [g 1002 (by omega)]
    have ev : vad R ν' v l = vad R ν v l := by
      unfold vad dl
      rw [g 1003 (by omega), g 1004 (by omega)]
    have e8 : ν' 1008 l = ν 1008 l := by rw [g 1008 (by omega)]
    have e9 : ν' 1009 l = ν 1009 l := by rw [g 1009 (by omega)]
    have ih := fun l' => WS_tg (R := R) g n l' (vad R ν v l) u
    show (if ν' 1002 l = 8 then u = vad R ν' v l else if ν' 1002 l = 5 then (WS R ν' n (l + 1) (vad R ν' v l) u ∨ WS R ν' n (ν' 1008 l + 1) (vad R ν' v l) u) else if ν' 1002 l = 6 then WS R ν' n (ν' 1009 l + 1) (vad R ν' v l) u else WS R ν' n (l + 1) (vad R ν' v l) u) ↔ (if ν 1002 l = 8 then u = vad R ν v l else if ν 1002 l = 5 then (WS R ν n (l + 1) (vad R ν v l) u ∨ WS R ν n (ν 1008 l + 1) (vad R ν v l) u) else if ν 1002 l = 6 then WS R ν n (ν 1009 l + 1) (vad R ν v l) u else WS R ν n (l + 1) (vad R ν v l) u)
    rw [e2, ev, e8, e9, ih, ih, ih]
theorem NVal.cong {b F E f x : Int} {μ ν μ' ν' : am_M} (h : NVal b F E μ ν f x) (hb : bOk b) (t : TF b μ μ') (g : TG ν ν') : NVal b F E μ' ν' f x := by
  have eR : RR b μ' = RR b μ := by
    funext l
    unfold RR
    rw [t (b + 11) (by omega) (by omega), t (b + 9) (by omega) (by omega), t (b + 10) (by omega) (by omega)]
  have eO : onF b F E μ' ν' = onF b F E μ ν := by
    funext s
    unfold onF ON
    rw [t (b + 5) (by omega) (by omega), g 1003 (by omega), g 1004 (by omega)]
  have eW : ∀ u, WS (RR b μ) ν' 60 F (fun _ => 0) u ↔ WS (RR b μ) ν 60 F (fun _ => 0) u := fun u => WS_tg g 60 F _ u
  unfold NVal
  rw [eR, eO]
  exact ⟨fun z => (h.1 z).eqv eW, fun z => (h.2.1 z).eqv eW, fun z => (h.2.2.1 z).eqv eW, fun z => (h.2.2.2 z).eqv eW⟩
/-- what the class remembers of needs -/
def NCH (b B : Int) (μ ν : am_M) : Prop := (μ 50 10 = -1 ∨ (0 ≤ μ 50 10 ∧ μ 50 10 < B ∧ ∀ f, 0 ≤ f → f ≤ 3 → NVal b (ν 1017 (μ 50 10)) (ν 1017 (μ 50 10) + ν 1018 (μ 50 10)) μ ν f (μ 58 f))) ∧ ∀ x, 0 ≤ x → x < 60 → μ 57 x = 0 ∨ μ 57 x = 1
theorem NCH.cong {b B : Int} {μ ν μ' ν' : am_M} (h : NCH b B μ ν) (hb : bOk b) (t : TF b μ μ') (g : TG ν ν') (e : ∀ x i, (x = 50 ∧ i = 10) ∨ x = 57 ∨ x = 58 → μ' x i = μ x i) : NCH b B μ' ν' := by
  have e10 := e 50 10 (by omega)
  refine ⟨?_, fun x p q => by rw [e 57 x (by omega)]; exact h.2 x p q⟩
  rw [e10, g 1017 (by omega), g 1018 (by omega)]
  rcases h.1 with z | ⟨z1, z2, z3⟩
  · exact Or.inl z
  · exact Or.inr ⟨z1, z2, fun f p q => by rw [e 58 f (by omega)]; exact (z3 f p q).cong hb t g⟩
def NFC (μ μ' : am_M) : Prop := ∀ c i, ¬ (55 ≤ c ∧ c ≤ 58) → ¬ (c = 50 ∧ 8 ≤ i ∧ i ≤ 10) → μ' c i = μ c i
theorem NFR.tg {ν ν' : am_M} (h : NFR ν ν') : TG ν ν' := fun x p => funext fun i => h x i (by omega) (by omega)
theorem needs_p {b B W n v f : Int} {Wn : Int → Int} {μ ν : am_M} (h8 : μ 0 8 = b) (h : TB b B W n Wn μ ν) (hc : NCH b B μ ν) : ∃ r μ' ν', X_needs v f μ = some (r, μ') ∧ M_needs v f ν = some (r, ν') ∧ NCH b B μ' ν' ∧ NFC μ μ' ∧ NFR (m_st ν 1000 0 0) ν' := by
  have hbo := h.bo
  have hb' : b = 100 ∨ b = 200 := hbo
  have tb1 := h.z (i := 0) (v := 0)
  have hc1 : NCH b B μ (m_st ν 1000 0 0) := hc.cong hbo (fun _ _ _ => rfl) (fun x p => funext fun i => m_st_c (by omega)) (fun _ _ _ => rfl)
  have hB := tb1.cB
  unfold X_needs M_needs
  rw [h8, q_gd_s (bO0 hbo), q_pf_d]
  generalize m_st ν 1000 0 0 = ν1 at *
  rw [has_s hbo hB.1, isBill_p hB.2.1, q_bd_s, q_bd_s]
  by_cases c : 0 ≤ v ∧ v < B
  rotate_left
  · rw [if_pos (if_neg c), if_pos (if_neg c)]; exact ⟨_, _, _, rfl, rfl, hc1, fun _ _ _ _ => rfl, fun _ _ _ _ => rfl⟩
  have hz : (if 0 ≤ v ∧ v < B then (1 : Int) else 0) = 1 := if_pos c
  rw [hz, if_neg (show ¬ (1 : Int) = 0 by decide), if_neg (show ¬ (1 : Int) = 0 by decide), within_g, q_bd_s, h8]
  by_cases cf : 0 ≤ f ∧ f ≤ 3
  rotate_left
  · have hw : (if 0 ≤ f ∧ f ≤ 3 then (1 : Int) else 0) = 0 := if_neg cf
    rw [hw, if_pos (show (0 : Int) = 0 from rfl)]
    refine ⟨-1, μ, ν1, ?_, rfl, hc1, fun _ _ _ _ => rfl, fun _ _ _ _ => rfl⟩
    by_cases c0 : f < 0
    · rw [if_pos c0]
    · rw [if_neg c0, if_neg (by omega)]
  have hw : (if 0 ≤ f ∧ f ≤ 3 then (1 : Int) else 0) = 1 := if_pos cf
  have bi := BI_of tb1 c
  have nb := NB_of tb1 c
  obtain ⟨x, ν2, r1, r2, r3⟩ := needs_r nb (by omega) cf rfl (by omega)
  rw [hw, if_neg (show ¬ (1 : Int) = 0 by decide), if_neg (show ¬ f < 0 by omega), if_pos cf.2, r1]
  have at58 : ∀ μ', X_at 58 f μ' = some (μ' 58 f, μ') := fun μ' => by rw [X_at_58, if_pos (by omega)]
  unfold Wy_need Wy_need_B25
  by_cases c10 : μ 50 10 = v
  · rw [if_pos c10, at58, q_bd_s, q_bd_s]
    rcases hc1.1 with z | ⟨z1, z2, z3⟩
    · omega
    · rw [c10] at z3
      have := NVal_u cf (z3 f cf.1 cf.2) r2
      refine ⟨x, μ, ν2, by rw [this], rfl, hc1.cong hbo (fun _ _ _ => rfl) r3.tg (fun _ _ _ => rfl), fun _ _ _ _ => rfl, r3⟩
  · obtain ⟨μ1, μ2, a1, a2, a3, a4, a5⟩ := walkAll_s nb bi.r15 (by omega) (by rw [bi.r16]; omega) hc1.2
    generalize hμ3 : m_st μ2 50 10 v = μ3
    have f3 : ∀ c i, ¬ (c = 50 ∧ i = 10) → μ3 c i = μ2 c i := fun c i p => by rw [← hμ3, m_st_d, if_neg p]
    have v3 : μ3 50 10 = v := by rw [← hμ3, m_st_d, if_pos ⟨rfl, rfl⟩]
    have tf : TF b μ μ3 := fun y p q => funext fun i => by rw [f3 y i (by omega), a5 y i (by omega) (by omega)]
    rw [if_neg c10, a1, q_bd_s, a2, q_bd_s, q_pf_d, hμ3, at58, q_bd_s, q_bd_s]
    have := NVal_u cf (a3 f cf.1 cf.2) r2
    refine ⟨x, μ3, ν2, by rw [f3 _ _ (by omega), this], rfl, ⟨Or.inr ?_, fun y p q => by rw [f3 _ _ (by omega)]; exact a4 y p q⟩, fun y i p q => by rw [f3 y i (by omega), a5 y i p (by omega)], r3⟩
    rw [v3, r3.tg 1017 (by omega), r3.tg 1018 (by omega)]
    exact ⟨c.1, c.2, fun g p q => by rw [f3 _ _ (by omega)]; exact (a3 g p q).cong hbo tf r3.tg⟩
