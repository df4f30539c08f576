/-! Orders: the reference lays a plain bill out. -/
def LFR (ν ν' : am_M) : Prop := ∀ c i, ¬ (1054 ≤ c ∧ c ≤ 1058) → ¬ (c = 1000 ∧ i = 79) → ν' c i = ν c i
theorem LFR.pl {b F E t N : Int} {μ ν ν' : am_M} (f : LFR ν ν') (h : PL b F E t N μ ν) : PL b F E t N μ ν' := h.cong (fun _ _ _ => rfl) (fun c p q => funext fun i => f c i (by omega) (by omega))
theorem lrd_s {b F E t N l s : Int} {μ ν : am_M} (h : PL b F E t N μ ν) (hl : F ≤ l ∧ l < E) (hs : 0 ≤ s ∧ s < 10) : M_readsOf l s ν = some (cnt s (RR b μ l), ν) := by
  have ck := h.ck l hl.1 hl.2
  exact readsOf_s ck.rl ck.l0 hs
/-- as it stands before the sums -/
def LS0 (b F t N s : Int) (μ ν : am_M) : Prop := ∀ i, s ≤ i → i < 10 → ν 1056 i = 0 ∧ (ν 1057 i = 0 → ¬ rdk b F t μ N i) ∧ (ν 1057 i ≠ 0 → rdk b F t μ N i) ∧ ν 1058 i = -1
theorem lay25_L {b F E t N v : Int} {μ ν0 : am_M} (h : PL b F E t N μ ν0) (hv : 0 ≤ v ∧ v < 4) (v17 : ν0 1017 v = F) (v18 : ν0 1017 v + ν0 1018 v = E) : ∀ (n fu : Nat) (s : Int) (ν : am_M), s + n = 10 → 0 ≤ s → n < fu → LFR ν0 ν → ∃ ν', M_isLaidOut_L25 fu v 12 s ν = M_isLaidOut_L82 am_FU v 12 F ν' ∧ LS0 b F t N s μ ν' ∧ (∀ c i, ¬ ((c = 1056 ∨ c = 1057 ∨ c = 1058) ∧ s ≤ i) → ν' c i = ν c i)
  | n, 0, _, _, _, _, h, _ => by omega
  | 0, fu + 1, s, ν, hs, h0, _, hf => by
    refine ⟨ν, ?_, fun i p q => by omega, fun _ _ _ => rfl⟩
    show M_isLaidOut_L25_b (M_isLaidOut_L25 fu) v 12 s ν = _
    unfold M_isLaidOut_L25_b
    rw [if_neg (by omega), q_ld_s (by omega) (by omega), hf 1017 v (by omega) (by omega), v17]
  | n + 1, fu + 1, s, ν, hs, h0, hfu, hf => by
    have F0 := h.F0
    have t0 := h.t0
    have N0 := h.N0
    have NE := h.NE
    generalize hν1 : m_st ν 1056 s 0 = ν1
    have f1 : ∀ c i, ¬ (c = 1056 ∧ i = s) → ν1 c i = ν c i := fun c i z => by rw [← hν1, m_st_d, if_neg z]
    have v1 : ν1 1056 s = 0 := by rw [← hν1, m_st_d, if_pos ⟨rfl, rfl⟩]
    have lf1 : LFR ν0 ν1 := fun c i p q => by rw [f1 c i (by omega)]; exact hf c i p q
    have ll : M_lastLine v ν1 = some (E - 1, ν1) := last_s hv (by rw [lf1 1017 v (by omega) (by omega), lf1 1018 v (by omega) (by omega)]; exact v18) (by omega)
    have rd := lrd_s (l := E - 1) (s := s) (lf1.pl h) (by omega) (by omega)
    have fin : ∀ z, z = 0 ∨ z = 1 → (z = 0 → ¬ rdk b F t μ N s) → (z ≠ 0 → rdk b F t μ N s) → ∃ ν', M_isLaidOut_B61 (M_isLaidOut_L25 fu) v 12 s s z ν1 = M_isLaidOut_L82 am_FU v 12 F ν' ∧ LS0 b F t N s μ ν' ∧ (∀ c i, ¬ ((c = 1056 ∨ c = 1057 ∨ c = 1058) ∧ s ≤ i) → ν' c i = ν c i) := by
      intro z hz z1 z2
      generalize hν2 : m_st (m_st ν1 1057 s z) 1058 s (-1) = ν2
      have f2 : ∀ c i, ¬ ((c = 1057 ∨ c = 1058) ∧ i = s) → ν2 c i = ν1 c i := fun c i w => by rw [← hν2, m_st_d, if_neg (by omega), m_st_d, if_neg (by omega)]
      have w7 : ν2 1057 s = z := by rw [← hν2, m_st_d, if_neg (by omega), m_st_d, if_pos ⟨rfl, rfl⟩]
      have w8 : ν2 1058 s = -1 := by rw [← hν2, m_st_d, if_pos ⟨rfl, rfl⟩]
      have lf2 : LFR ν0 ν2 := fun c i p q => by rw [f2 c i (by omega)]; exact lf1 c i p q
      obtain ⟨ν', a1, a2, a3⟩ := lay25_L h hv v17 v18 n fu (s + 1) ν2 (by omega) (by omega) (by omega) lf2
      refine ⟨ν', ?_, fun i p q => ?_, fun c i w => by rw [a3 c i (by omega), f2 c i (by omega), f1 c i (by omega)]⟩
      · rw [← a1]
        unfold M_isLaidOut_B61
        rw [q_stb_s h0 (by omega) hz, q_st_s h0 (by omega), hν2, w32_i (x := s + 1) (by omega) (by omega)]
      · by_cases y : i = s
        · rw [y, a3 1056 s (by omega), a3 1057 s (by omega), a3 1058 s (by omega), w7, w8, f2 1056 s (by omega), v1]
          exact ⟨rfl, z1, z2, rfl⟩
        · exact a2 i (by omega) q
    have e0 : M_isLaidOut_L25 (fu + 1) v 12 s ν = if cnt s (RR b μ (E - 1)) ≤ 0 then M_isLaidOut_B61 (M_isLaidOut_L25 fu) v 12 s s 0 ν1 else M_isLaidOut_B61 (M_isLaidOut_L25 fu) v 12 s s 1 ν1 := by
      show M_isLaidOut_L25_b (M_isLaidOut_L25 fu) v 12 s ν = _
      unfold M_isLaidOut_L25_b
      rw [if_pos (by omega), q_st_s h0 (by omega), hν1, ll, q_bd_s, rd, q_bd_s]
    have hc := cnt_0 s (RR b μ (E - 1))
    have eE : F + t + N = E - 1 := by omega
    have er : rdk b F t μ N s = (s ∈ RR b μ (E - 1)) := by unfold rdk; rw [eE]
    rw [e0]
    by_cases c : cnt s (RR b μ (E - 1)) ≤ 0
    · rw [if_pos c]
      exact fin 0 (Or.inl rfl) (fun _ z => by rw [er] at z; have := hc.mpr z; omega) (fun z => absurd rfl z)
    · rw [if_neg c]
      exact fin 1 (Or.inr rfl) (fun z => by omega) (fun _ => by rw [er]; exact hc.mp (by omega))
theorem lay82_t {b F E t N v : Int} {μ ν : am_M} (h : PL b F E t N μ ν) (hv : 0 ≤ v ∧ v < 4) (v18 : ν 1017 v + ν 1018 v = E) : ∀ (n fu : Nat) (l : Int), l + n = F + t → F ≤ l → M_isLaidOut_L82 (fu + n) v 12 l ν = M_isLaidOut_L82 fu v 12 (F + t) ν
  | 0, fu, l, hl, _ => by
    have e : l = F + t := by omega
    rw [e]
    rfl
  | n + 1, fu, l, hl, h0 => by
    have F0 := h.F0
    have t0 := h.t0
    have N0 := h.N0
    have NE := h.NE
    have k0 := h.k0 (l - F) (by omega) (by omega)
    have e : F + (l - F) = l := by omega
    rw [e] at k0
    rw [← lay82_t h hv v18 n fu (l + 1) (by omega) (by omega)]
    show M_isLaidOut_L82_b (M_isLaidOut_L82 (fu + n)) v 12 l ν = _
    unfold M_isLaidOut_L82_b M_isLaidOut_B139
    rw [last_s hv v18 (by omega), q_bd_s, if_pos (by omega), q_ld_s (by omega) (by omega), k0, if_neg (by decide), w32_i (x := l + 1) (by omega) (by omega)]
theorem lay82_k {b F E t N v : Int} {μ ν0 : am_M} (h : PL b F E t N μ ν0) (hv : 0 ≤ v ∧ v < 4) (v18 : ν0 1017 v + ν0 1018 v = E) : ∀ (n fu : Nat) (k : Int) (ν : am_M), k + n = N → 0 ≤ k → n + 1 < fu → LFR ν0 ν → ν 1000 79 = k → ∃ ν', M_isLaidOut_L82 fu v 12 (F + t + k) ν = M_isLaidOut_L157 am_FU 0 ν' ∧ ν' 1000 79 = N ∧ (∀ i, k ≤ i → i < N → ν' 1054 i = F + t + i ∧ ν' 1058 (t + i) = i) ∧ (∀ c i, ¬ (c = 1000 ∧ i = 79) → ¬ (c = 1054 ∧ k ≤ i) → ¬ (c = 1058 ∧ t + k ≤ i ∧ i < t + N) → ν' c i = ν c i)
  | n, 0, _, _, _, _, h, _, _ => by omega
  | n, 1, _, _, _, _, h, _, _ => by omega
  | 0, fu + 2, k, ν, hk, h0, _, hf, h9 => by
    have F0 := h.F0
    have t0 := h.t0
    have N0 := h.N0
    have NE := h.NE
    have e : k = N := by omega
    subst e
    have k8 : ν 1002 (F + t + k) = 8 := by
      rw [hf 1002 _ (by omega) (by omega)]
      have := h.k8
      have e : E - 1 = F + t + k := by omega
      rw [e] at this
      exact this
    have ll : M_lastLine v ν = some (E - 1, ν) := last_s hv (by rw [hf 1017 v (by omega) (by omega), hf 1018 v (by omega) (by omega)]; exact v18) (by omega)
    refine ⟨ν, ?_, h9, fun i p q => by omega, fun _ _ _ _ _ => rfl⟩
    show M_isLaidOut_L82_b (M_isLaidOut_L82 (fu + 1)) v 12 (F + t + k) ν = _
    unfold M_isLaidOut_L82_b M_isLaidOut_B139
    rw [ll, q_bd_s, if_pos (by omega), q_ld_s (by omega) (by omega), k8, if_neg (by decide), w32_i (x := F + t + k + 1) (by omega) (by omega)]
    show M_isLaidOut_L82_b (M_isLaidOut_L82 fu) v 12 (F + t + k + 1) ν = _
    unfold M_isLaidOut_L82_b
    rw [ll, q_bd_s, if_neg (by omega), h9, if_pos (by omega)]
  | n + 1, fu + 2, k, ν, hk, h0, hfu, hf, h9 => by
    have F0 := h.F0
    have t0 := h.t0
    have N0 := h.N0
    have NE := h.NE
    have k1 : ν 1002 (F + t + k) = 1 := by rw [hf 1002 _ (by omega) (by omega)]; exact h.k1 k h0 (by omega)
    have la : ν 1003 (F + t + k) = t + k := by
      rw [hf 1003 _ (by omega) (by omega)]
      have := h.la (t + k) (by omega) (by omega)
      have e : F + (t + k) = F + t + k := by omega
      rw [e] at this
      exact this
    have ll : M_lastLine v ν = some (E - 1, ν) := last_s hv (by rw [hf 1017 v (by omega) (by omega), hf 1018 v (by omega) (by omega)]; exact v18) (by omega)
    generalize hν1 : m_st (m_st (m_st ν 1054 k (F + t + k)) 1058 (t + k) k) 1000 79 (k + 1) = ν1
    have f1 : ∀ c i, ¬ (c = 1000 ∧ i = 79) → ¬ (c = 1054 ∧ i = k) → ¬ (c = 1058 ∧ i = t + k) → ν1 c i = ν c i := fun c i p q r => by rw [← hν1, m_st_d, if_neg p, m_st_d, if_neg r, m_st_d, if_neg q]
    have w9 : ν1 1000 79 = k + 1 := by rw [← hν1, m_st_d, if_pos ⟨rfl, rfl⟩]
    have w4 : ν1 1054 k = F + t + k := by rw [← hν1, m_st_d, if_neg (by omega), m_st_d, if_neg (by omega), m_st_d, if_pos ⟨rfl, rfl⟩]
    have w8 : ν1 1058 (t + k) = k := by rw [← hν1, m_st_d, if_neg (by omega), m_st_d, if_pos ⟨rfl, rfl⟩]
    obtain ⟨ν', a1, a2, a3, a4⟩ := lay82_k h hv v18 n (fu + 1) (k + 1) ν1 (by omega) (by omega) (by omega) (fun c i p q => by rw [f1 c i (by omega) (by omega) (by omega)]; exact hf c i p q) w9
    have e1 : F + t + (k + 1) = F + t + k + 1 := by omega
    rw [e1] at a1
    refine ⟨ν', ?_, a2, fun i p q => ?_, fun c i p q r => by rw [a4 c i p (by omega) (by omega), f1 c i p (by omega) (by omega)]⟩
    · rw [← a1]
      show M_isLaidOut_L82_b (M_isLaidOut_L82 (fu + 1)) v 12 (F + t + k) ν = _
      have g1 : m_st ν 1054 k (F + t + k) 1003 (F + t + k) = t + k := by rw [m_st_c (by decide)]; exact la
      have g2 : m_st ν 1054 k (F + t + k) 1000 79 = k := by rw [m_st_c (by decide)]; exact h9
      have g3 : m_st (m_st ν 1054 k (F + t + k)) 1058 (t + k) k 1000 79 = k := by rw [m_st_c (by decide)]; exact g2
      unfold M_isLaidOut_L82_b M_isLaidOut_B139
      rw [ll, q_bd_s, if_pos (by omega), q_ld_s (by omega) (by omega), k1, if_pos rfl, h9, q_st_s h0 (by omega), q_ld_s (by omega) (by omega), g1, g2, q_st_s (by omega) (by omega), q_pf_d, g3, w32_i (x := k + 1) (by omega) (by omega), hν1, w32_i (x := F + t + k + 1) (by omega) (by omega)]
    · by_cases y : i = k
      · rw [y, a4 1054 k (by omega) (by omega) (by omega), a4 1058 (t + k) (by omega) (by omega) (by omega)]
        exact ⟨w4, w8⟩
      · exact a3 i (by omega) q
/-- sums under k have been laid out -/
def LB8 (t N : Int) (ν : am_M) : Prop := ∀ s, 0 ≤ s → s < 10 → (t ≤ s ∧ s < t + N → ν 1058 s = s - t) ∧ (¬ (t ≤ s ∧ s < t + N) → ν 1058 s = -1)
def LR6 (b F t N k : Int) (μ ν : am_M) (s : Int) : Prop := ∀ j, 0 ≤ j → j < 32 → (tb (ν 1056 s) j = true ↔ j < k ∧ rdk b F t μ j s)
def LN5 (b F t N a s : Int) (μ ν : am_M) : Prop := ∀ j, 0 ≤ j → j < 32 → (tb (ν 1055 a) j = true ↔ t + j < s ∧ j < N ∧ rdk b F t μ a (t + j))
theorem lay181_L {b F E t N k : Int} {k157 : Int → am_M → am_O} {μ ν0 : am_M} (h : PL b F E t N μ ν0) (hk : 0 ≤ k ∧ k < N) : ∀ (n fu : Nat) (s : Int) (ν : am_M), s + n = 10 → 0 ≤ s → n < fu → LFR ν0 ν → ν 1054 k = F + t + k → LB8 t N ν → LN5 b F t N k s μ ν → (∀ i, s ≤ i → i < 10 → LR6 b F t N k μ ν i) → ∃ ν', M_isLaidOut_L181 k157 fu k s ν = k157 (k + 1) ν' ∧ LN5 b F t N k 10 μ ν' ∧ (∀ i, s ≤ i → i < 10 → LR6 b F t N (k + 1) μ ν' i) ∧ (∀ c i, ¬ (c = 1055 ∧ i = k) → ¬ (c = 1056 ∧ s ≤ i) → ν' c i = ν c i)
  | n, 0, _, _, _, _, h, _, _, _, _, _ => by omega
  | 0, fu + 1, s, ν, hs, h0, _, hf, h4, h8, h5, h6 => by
    have N0 := h.N0
    have t0 := h.t0
    have e : s = 10 := by omega
    subst e
    refine ⟨ν, ?_, h5, fun i p q => by omega, fun _ _ _ _ => rfl⟩
    show M_isLaidOut_L181_b k157 (M_isLaidOut_L181 k157 fu) k 10 ν = _
    unfold M_isLaidOut_L181_b
    rw [if_neg (by omega), w32_i (x := k + 1) (by omega) (by omega)]
  | n + 1, fu + 1, s, ν, hs, h0, hfu, hf, h4, h8, h5, h6 => by
    have F0 := h.F0
    have N0 := h.N0
    have t0 := h.t0
    have NE := h.NE
    have rd := lrd_s (l := F + t + k) (s := s) (hf.pl h) (by omega) (by omega)
    have hc := cnt_0 s (RR b μ (F + t + k))
    have hcr := (cnt_r s (RR b μ (F + t + k))).1
    have a8 := h8 s h0 (by omega)
    have ah := h.ah.2 k s hk.1 (by omega)
    by_cases c : cnt s (RR b μ (F + t + k)) = 0
    · have nr : ¬ rdk b F t μ k s := fun z => by have := hc.mpr z; omega
      have e0 : M_isLaidOut_L181 k157 (fu + 1) k s ν = M_isLaidOut_L181 k157 fu k (s + 1) ν := by
        show M_isLaidOut_L181_b k157 (M_isLaidOut_L181 k157 fu) k s ν = _
        unfold M_isLaidOut_L181_b M_isLaidOut_B253
        rw [if_pos (by omega), q_ld_s hk.1 (by omega), h4, rd, q_bd_s, if_pos c, w32_i (x := s + 1) (by omega) (by omega)]
      obtain ⟨ν', a1, a2, a3, a4⟩ := lay181_L (k157 := k157) h hk n fu (s + 1) ν (by omega) (by omega) (by omega) hf h4 h8 (fun j p q => by
        rw [h5 j p q]
        refine ⟨fun z => ⟨by omega, z.2⟩, fun z => ⟨?_, z.2⟩⟩
        by_cases w : t + j = s
        · rw [w] at z; exact absurd z.2.2 nr
        · omega) (fun i p q => h6 i (by omega) q)
      refine ⟨ν', by rw [e0, a1], a2, fun i p q => ?_, fun c i p q => a4 c i p (by omega)⟩
      by_cases y : i = s
      · subst y
        unfold LR6
        rw [a4 _ _ (by omega) (by omega)]
        intro j p' q'
        rw [h6 i (Int.le_refl _) (by omega) j p' q']
        refine ⟨fun z => ⟨by omega, z.2⟩, fun z => ⟨?_, z.2⟩⟩
        by_cases w : j = k
        · rw [w] at z; exact absurd z.2 nr
        · omega
      · exact a3 i (by omega) q
    · have yr : rdk b F t μ k s := hc.mp (by omega)
      have hlt := ah yr
      generalize hν1 : m_st ν 1056 s (aOr (ν 1056 s) (aShl 1 k)) = ν1
      have f1 : ∀ c i, ¬ (c = 1056 ∧ i = s) → ν1 c i = ν c i := fun c i z => by rw [← hν1, m_st_d, if_neg z]
      have w1 : ν1 1056 s = aOr (ν 1056 s) (aShl 1 k) := by rw [← hν1, m_st_d, if_pos ⟨rfl, rfl⟩]
      have r6 : LR6 b F t N (k + 1) μ ν1 s := by
        intro j p q
        rw [w1, tb_or, Bool.or_eq_true, h6 s (Int.le_refl _) (by omega) j p q, tb_shl hk.1 (by omega) p q, decide_eq_true_eq]
        constructor
        · rintro (u | u)
          · exact ⟨by omega, u.2⟩
          · rw [u]; exact ⟨by omega, yr⟩
        · intro u
          by_cases w2 : j = k
          · exact Or.inr w2
          · exact Or.inl ⟨by omega, u.2⟩
      have fin : ∀ ν2, (∀ c i, ¬ (c = 1055 ∧ i = k) → ν2 c i = ν1 c i) → LN5 b F t N k (s + 1) μ ν2 → M_isLaidOut_L181 k157 (fu + 1) k s ν = M_isLaidOut_L181 k157 fu k (s + 1) ν2 → ∃ ν', M_isLaidOut_L181 k157 (fu + 1) k s ν = k157 (k + 1) ν' ∧ LN5 b F t N k 10 μ ν' ∧ (∀ i, s ≤ i → i < 10 → LR6 b F t N (k + 1) μ ν' i) ∧ (∀ c i, ¬ (c = 1055 ∧ i = k) → ¬ (c = 1056 ∧ s ≤ i) → ν' c i = ν c i) := by
        intro ν2 f2 h5' e0
        obtain ⟨ν', a1, a2, a3, a4⟩ := lay181_L (k157 := k157) h hk n fu (s + 1) ν2 (by omega) (by omega) (by omega) (fun c i p q => by rw [f2 c i (by omega), f1 c i (by omega)]; exact hf c i p q) (by rw [f2 _ _ (by omega), f1 _ _ (by omega)]; exact h4) (fun z p q => by rw [f2 _ _ (by omega), f1 _ _ (by omega)]; exact h8 z p q) h5' (fun i p q => by
          unfold LR6
          rw [f2 _ _ (by omega), f1 _ _ (by omega)]
          exact h6 i (by omega) q)
        refine ⟨ν', by rw [e0, a1], a2, fun i p q => ?_, fun c i p q => by rw [a4 c i p (by omega), f2 c i p, f1 c i (by omega)]⟩
        by_cases y : i = s
        · subst y
          unfold LR6
          rw [a4 _ _ (by omega) (by omega), f2 _ _ (by omega)]
          exact r6
        · exact a3 i (by omega) q
      by_cases d : t ≤ s
      · have e8 : ν 1058 s = s - t := a8.1 (by omega)
        have e81 : ν1 1058 s = s - t := by rw [f1 _ _ (by omega)]; exact e8
        refine fin (m_st ν1 1055 k (aOr (ν1 1055 k) (aShl 1 (s - t)))) (fun c i z => by rw [m_st_d, if_neg z]) (fun j p q => ?_) ?_
        · rw [m_st_d, if_pos ⟨rfl, rfl⟩, f1 _ _ (by omega), tb_or, Bool.or_eq_true, h5 j p q, tb_shl (by omega) (by omega) p q, decide_eq_true_eq]
          constructor
          · rintro (u | u)
            · exact ⟨by omega, u.2⟩
            · have e : t + j = s := by omega
              rw [e]
              exact ⟨by omega, by omega, yr⟩
          · intro u
            by_cases w2 : t + j = s
            · exact Or.inr (by omega)
            · exact Or.inl ⟨by omega, u.2⟩
        · show M_isLaidOut_L181_b k157 (M_isLaidOut_L181 k157 fu) k s ν = _
          unfold M_isLaidOut_L181_b M_isLaidOut_B253
          rw [if_pos (by omega), q_ld_s hk.1 (by omega), h4, rd, q_bd_s, if_neg c, q_ld_s h0 (by omega), q_st_s h0 (by omega), hν1, q_ld_s h0 (by omega), e81, if_neg (show ¬ s - t < 0 by omega), if_pos (show k < 12 by omega), q_ld_s hk.1 (by omega), q_ld_s h0 (by omega), e81, q_st_s hk.1 (by omega), w32_i (x := s + 1) (by omega) (by omega)]
      · have e8 : ν 1058 s = -1 := a8.2 (by omega)
        have e81 : ν1 1058 s = -1 := by rw [f1 _ _ (by omega)]; exact e8
        refine fin ν1 (fun _ _ _ => rfl) (fun j p q => ?_) ?_
        · rw [f1 _ _ (by omega), h5 j p q]
          exact ⟨fun z => ⟨by omega, z.2⟩, fun z => ⟨by omega, z.2⟩⟩
        · show M_isLaidOut_L181_b k157 (M_isLaidOut_L181 k157 fu) k s ν = _
          unfold M_isLaidOut_L181_b M_isLaidOut_B253
          rw [if_pos (by omega), q_ld_s hk.1 (by omega), h4, rd, q_bd_s, if_neg c, q_ld_s h0 (by omega), q_st_s h0 (by omega), hν1, q_ld_s h0 (by omega), e81, if_pos (show (-1 : Int) < 0 by decide), w32_i (x := s + 1) (by omega) (by omega)]
/-- laid out -/
def LD (b F t N : Int) (μ ν : am_M) : Prop := (ν 1000 79 = N) ∧ (∀ k, 0 ≤ k → k < N → LN5 b F t N k 10 μ ν) ∧ (∀ i, 0 ≤ i → i < 10 → LR6 b F t N N μ ν i) ∧ (∀ i, 0 ≤ i → i < 10 → (ν 1057 i = 0 → ¬ rdk b F t μ N i) ∧ (ν 1057 i ≠ 0 → rdk b F t μ N i)) ∧ (LB8 t N ν)
theorem LD.n9 {b F t N : Int} {μ ν : am_M} (h : LD b F t N μ ν) : ν 1000 79 = N := h.1
theorem LD.nd {b F t N : Int} {μ ν : am_M} (h : LD b F t N μ ν) : ∀ k, 0 ≤ k → k < N → LN5 b F t N k 10 μ ν := h.2.1
theorem LD.rr {b F t N : Int} {μ ν : am_M} (h : LD b F t N μ ν) : ∀ i, 0 ≤ i → i < 10 → LR6 b F t N N μ ν i := h.2.2.1
theorem LD.gv {b F t N : Int} {μ ν : am_M} (h : LD b F t N μ ν) : ∀ i, 0 ≤ i → i < 10 → (ν 1057 i = 0 → ¬ rdk b F t μ N i) ∧ (ν 1057 i ≠ 0 → rdk b F t μ N i) := h.2.2.2.1
theorem LD.lb {b F t N : Int} {μ ν : am_M} (h : LD b F t N μ ν) : LB8 t N ν := h.2.2.2.2
theorem LD.mk {b F t N : Int} {μ ν : am_M} (n9 : ν 1000 79 = N) (nd : ∀ k, 0 ≤ k → k < N → LN5 b F t N k 10 μ ν) (rr : ∀ i, 0 ≤ i → i < 10 → LR6 b F t N N μ ν i) (gv : ∀ i, 0 ≤ i → i < 10 → (ν 1057 i = 0 → ¬ rdk b F t μ N i) ∧ (ν 1057 i ≠ 0 → rdk b F t μ N i)) (lb : LB8 t N ν) : LD b F t N μ ν := ⟨n9, nd, rr, gv, lb⟩
theorem lay157_L {b F E t N : Int} {μ ν0 : am_M} (h : PL b F E t N μ ν0) : ∀ (n fu : Nat) (k : Int) (ν : am_M), k + n = N → 0 ≤ k → n < fu → LFR ν0 ν → ν 1000 79 = N → (∀ i, 0 ≤ i → i < N → ν 1054 i = F + t + i) → LB8 t N ν → (∀ a, 0 ≤ a → a < k → LN5 b F t N a 10 μ ν) → (∀ i, 0 ≤ i → i < 10 → LR6 b F t N k μ ν i) → ∃ ν', M_isLaidOut_L157 fu k ν = some (1, ν') ∧ (∀ a, 0 ≤ a → a < N → LN5 b F t N a 10 μ ν') ∧ (∀ i, 0 ≤ i → i < 10 → LR6 b F t N N μ ν' i) ∧ (∀ c i, c ≠ 1055 → c ≠ 1056 → ν' c i = ν c i)
  | n, 0, _, _, _, _, h, _, _, _, _, _, _ => by omega
  | 0, fu + 1, k, ν, hk, h0, _, hf, h9, h4, h8, h5, h6 => by
    have e : k = N := by omega
    subst e
    refine ⟨ν, ?_, h5, h6, fun _ _ _ _ => rfl⟩
    show M_isLaidOut_L157_b (M_isLaidOut_L157 fu) k ν = _
    unfold M_isLaidOut_L157_b
    rw [h9, if_neg (by omega)]
  | n + 1, fu + 1, k, ν, hk, h0, hfu, hf, h9, h4, h8, h5, h6 => by
    have hFU := am_FU_ge
    have N0 := h.N0
    have t0 := h.t0
    generalize hν1 : m_st ν 1055 k 0 = ν1
    have f1 : ∀ c i, ¬ (c = 1055 ∧ i = k) → ν1 c i = ν c i := fun c i z => by rw [← hν1, m_st_d, if_neg z]
    have w1 : ν1 1055 k = 0 := by rw [← hν1, m_st_d, if_pos ⟨rfl, rfl⟩]
    obtain ⟨ν2, a1, a2, a3, a4⟩ := lay181_L (k := k) (k157 := M_isLaidOut_L157 fu) h ⟨h0, by omega⟩ 10 am_FU 0 ν1 (by omega) (by omega) (by omega) (fun c i p q => by rw [f1 c i (by omega)]; exact hf c i p q) (by rw [f1 _ _ (by omega)]; exact h4 k h0 (by omega)) (fun z p q => by rw [f1 _ _ (by omega)]; exact h8 z p q) (fun j p q => by rw [w1, tb_0]; exact ⟨fun z => (by cases z), fun z => by omega⟩) (fun i p q => by
      unfold LR6
      rw [f1 _ _ (by omega)]
      exact h6 i p q)
    obtain ⟨ν', b1, b2, b3, b4⟩ := lay157_L h n fu (k + 1) ν2 (by omega) (by omega) (by omega) (fun c i p q => by rw [a4 c i (by omega) (by omega), f1 c i (by omega)]; exact hf c i p q) (by rw [a4 _ _ (by omega) (by omega), f1 _ _ (by omega)]; exact h9) (fun i p q => by rw [a4 _ _ (by omega) (by omega), f1 _ _ (by omega)]; exact h4 i p q) (fun z p q => by rw [a4 _ _ (by omega) (by omega), f1 _ _ (by omega)]; exact h8 z p q) (fun a p q => by
      by_cases y : a = k
      · rw [y]; exact a2
      · unfold LN5
        rw [a4 _ _ (by omega) (by omega), f1 _ _ (by omega)]
        exact h5 a p (by omega)) a3
    refine ⟨ν', ?_, b2, b3, fun c i p q => by rw [b4 c i p q, a4 c i (by omega) (by omega), f1 c i (by omega)]⟩
    rw [← b1, ← a1]
    show M_isLaidOut_L157_b (M_isLaidOut_L157 fu) k ν = _
    unfold M_isLaidOut_L157_b M_isLaidOut_B178
    rw [h9, if_pos (by omega), if_pos (show k < 12 by omega), q_st_s h0 (by omega), hν1]
theorem laid_s {b F E t N v B : Int} {μ ν : am_M} (h : PL b F E t N μ ν) (hB : ν 1013 1 = B ∧ B ≤ 4) (hv : 0 ≤ v ∧ v < B) (v17 : ν 1017 v = F) (v18 : ν 1017 v + ν 1018 v = E) (hp : M_isPlain v (m_st ν 1000 79 0) = some (1, m_st ν 1000 79 0)) : ∃ ν', M_isLaidOut v 12 ν = some (1, ν') ∧ LD b F t N μ ν' ∧ LFR ν ν' := by
  have hFU := am_FU_ge
  have N0 := h.N0
  have t0 := h.t0
  have F0 := h.F0
  have NE := h.NE
  unfold M_isLaidOut
  rw [q_pf_d]
  generalize hν1 : m_st ν 1000 79 0 = ν1 at *
  have f1 : LFR ν ν1 := fun c i p q => by rw [← hν1, m_st_d, if_neg q]
  have w9 : ν1 1000 79 = 0 := by rw [← hν1, m_st_d, if_pos ⟨rfl, rfl⟩]
  have h1 := f1.pl h
  have e13 : ν1 1013 1 = B := by rw [f1 1013 1 (by omega) (by omega)]; exact hB.1
  have v17' : ν1 1017 v = F := by rw [f1 1017 v (by omega) (by omega)]; exact v17
  have v18' : ν1 1017 v + ν1 1018 v = E := by rw [f1 1017 v (by omega) (by omega), f1 1018 v (by omega) (by omega)]; exact v18
  have hv4 : 0 ≤ v ∧ v < 4 := by omega
  have hz : (if 0 ≤ v ∧ v < B then (1 : Int) else 0) = 1 := if_pos hv
  rw [isBill_p e13, q_bd_s, hz, if_neg (show ¬ (1 : Int) = 0 by decide), hp, q_bd_s, if_neg (show ¬ (1 : Int) = 0 by decide)]
  obtain ⟨ν2, a1, a2, a3⟩ := lay25_L h1 hv4 v17' v18' 10 am_FU 0 ν1 (by omega) (by omega) (by omega) (fun _ _ _ _ => rfl)
  have f2 : LFR ν1 ν2 := fun c i p q => a3 c i (by omega)
  have h2 := f2.pl h1
  have v18'' : ν2 1017 v + ν2 1018 v = E := by rw [f2 1017 v (by omega) (by omega), f2 1018 v (by omega) (by omega)]; exact v18'
  obtain ⟨fu, efu⟩ : ∃ fu : Nat, am_FU = fu + t.toNat := ⟨am_FU - t.toNat, by omega⟩
  have t1 := lay82_t h2 hv4 v18'' t.toNat fu F (by omega) (by omega)
  rw [← efu] at t1
  obtain ⟨ν3, b1, b2, b3, b4⟩ := lay82_k h2 hv4 v18'' N.toNat fu 0 ν2 (by omega) (by omega) (by omega) (fun _ _ _ _ => rfl) (by rw [a3 _ _ (by omega)]; exact w9)
  rw [Int.add_zero] at b1
  have f3 : LFR ν2 ν3 := fun c i p q => b4 c i (by omega) (by omega) (by omega)
  have h3 := f3.pl h2
  have lb : LB8 t N ν3 := fun s p q => by
    refine ⟨fun z => ?_, fun z => ?_⟩
    · have := (b3 (s - t) (by omega) (by omega)).2
      have e : t + (s - t) = s := by omega
      rw [e] at this
      exact this
    · rw [b4 1058 s (by omega) (by omega) (by omega)]
      exact (a2 s p q).2.2.2
  obtain ⟨ν4, d1, d2, d3, d4⟩ := lay157_L h3 N.toNat am_FU 0 ν3 (by omega) (by omega) (by omega) (fun _ _ _ _ => rfl) b2 (fun i p q => (b3 i p q).1) lb (fun a p q => by omega) (fun i p q j j0 j1 => by
    rw [b4 1056 i (by omega) (by omega) (by omega), (a2 i p q).1, tb_0]
    exact ⟨fun z => (by cases z), fun z => by omega⟩)
  refine ⟨ν4, by rw [a1, t1, b1, d1], (LD.mk (n9 := by rw [d4 _ _ (by omega) (by omega)]; exact b2) (nd := d2) (rr := d3) (gv := fun i p q => ?_) (lb := fun s p q => by rw [d4 _ _ (by omega) (by omega)]; exact lb s p q)), fun c i p q => by rw [d4 c i (by omega) (by omega), f3 c i p q, f2 c i p q, f1 c i p q]⟩
  rw [d4 _ _ (by omega) (by omega), b4 1057 i (by omega) (by omega) (by omega)]
  exact ⟨(a2 i p q).2.1, (a2 i p q).2.2.1⟩
