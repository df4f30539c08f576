/-! The promise of cheapest. -/
def su (f : Int → Int) : Nat → Int
  | 0 => 0
  | n + 1 => su f n + f n
theorem su_s (f : Int → Int) (n : Nat) : su f (n + 1) = su f n + f n := rfl
theorem su_r {f : Int → Int} {A : Int} (hA : 0 ≤ A) : ∀ n : Nat, (∀ i : Int, 0 ≤ i → i < n → 0 ≤ f i ∧ f i ≤ A) → 0 ≤ su f n ∧ su f n ≤ A * n
  | 0, _ => ⟨Int.le_refl _, by show (0 : Int) ≤ A * 0; omega⟩
  | n + 1, h => by
    have ih := su_r hA n (fun i p q => h i p (by omega))
    have := h n (by omega) (by omega)
    have e : A * ((n + 1 : Nat) : Int) = A * n + A := by rw [Int.natCast_add, Int.mul_add]; show A * n + A * 1 = _; omega
    rw [su_s, e]
    omega
theorem su_cong {f g : Int → Int} : ∀ n : Nat, (∀ i : Int, 0 ≤ i → i < n → f i = g i) → su f n = su g n
  | 0, _ => rfl
  | n + 1, h => by rw [su_s, su_s, su_cong n (fun i p q => h i p (by omega)), h n (by omega) (by omega)]
theorem su_tail {f : Int → Int} {m : Nat} : ∀ n : Nat, (∀ i : Int, m ≤ i → i < m + n → f i = 0) → su f (m + n) = su f m
  | 0, _ => rfl
  | n + 1, h => by
    have ih := su_tail n (fun i p q => h i p (by omega))
    have e : m + (n + 1) = (m + n) + 1 := by omega
    rw [e, su_s, ih, h _ (by omega) (by omega)]
    omega
theorem mul_b {a c A : Int} (h : 0 ≤ a ∧ a ≤ A) (h' : 0 ≤ c ∧ c ≤ 99) : 0 ≤ a * c ∧ a * c ≤ A * 99 :=
  ⟨Int.mul_nonneg h.1 h'.1, Int.mul_le_mul h.2 h'.2 h'.1 (Int.le_trans h.1 h.2)⟩
theorem PL.cB {b F E t N l s : Int} {μ ν : am_M} (h : PL b F E t N μ ν) (hl : F ≤ l ∧ l < E) : 0 ≤ cnt s (RR b μ l) ∧ cnt s (RR b μ l) ≤ 1000 := by
  obtain ⟨C, d1, d2, d3, -, d5, d6⟩ := (h.ck l hl.1 hl.2).rl.cl
  have hn := nm_len C
  rw [d3] at hn
  have hc := cnt_r s (RR b μ l)
  omega
def mi (x y : Int) : Int := if x < y then x else y
theorem mi_r {x y : Int} (hx : 0 ≤ x) (hy : 0 ≤ y ∧ y ≤ 99) : 0 ≤ mi x y ∧ mi x y ≤ 99 := by
  unfold mi
  split <;> omega
/-- what line l costs, slip by slip -/
def fp (b : Int) (μ : am_M) (l : Int) (p : Int → Int) (i : Int) : Int := cnt i (RR b μ l) * p i
theorem fp_r {b F E t N l : Int} {p : Int → Int} {μ ν : am_M} (h : PL b F E t N μ ν) (hl : F ≤ l ∧ l < E) {i : Int} (hp : 0 ≤ p i ∧ p i ≤ 99) : 0 ≤ fp b μ l p i ∧ fp b μ l p i ≤ 99000 := mul_b (h.cB hl) hp
theorem cprice_L {b F E t N p q k : Int} {k27 : Int → Int → Int → am_M → am_O} {μ0 ν0 μ : am_M} (h : PL b F E t N μ0 ν0) (ho : OS b F t N μ0 μ) (hS : STD b F t N μ0 μ) (hk : 0 ≤ k ∧ k < N) (hq : 0 ≤ q ∧ q ≤ 99) (hp : ∀ i, 0 ≤ i → i < t + k → 0 ≤ μ 64 i ∧ μ 64 i ≤ 99) : ∀ (n fu : Nat) (s : Nat), s + n = (t + k).toNat → n < fu → Or_leastCoin_L41 k27 fu p q k (q + su (fp b μ0 (F + t + k) (μ 64)) s) s μ = k27 p q (k + 1) (m_st μ 64 (t + k) (mi (q + su (fp b μ0 (F + t + k) (μ 64)) (t + k).toNat) p))
  | n, 0, _, _, h => by omega
  | 0, fu + 1, s, hs, _ => by
    have t0 := h.t0
    have N0 := h.N0
    have e : s = (t + k).toNat := by omega
    show Or_leastCoin_L41_b k27 (Or_leastCoin_L41 k27 fu) p q k _ s μ = _
    unfold Or_leastCoin_L41_b
    rw [slipOf_s ho (by omega), q_bd_s, if_neg (by omega), slipOf_s ho (by omega), q_bd_s, q_lt_d, X_put_64, if_pos (by omega), q_bd_s, w32_i (x := k + 1) (by omega) (by omega), e]
    rfl
  | n + 1, fu + 1, s, hs, hf => by
    have t0 := h.t0
    have N0 := h.N0
    have NE := h.NE
    have F0 := h.F0
    have ih := cprice_L (p := p) (k27 := k27) h ho hS hk hq hp n fu (s + 1) (by omega) (by omega)
    have e1 : ((s + 1 : Nat) : Int) = (s : Int) + 1 := by omega
    have hl : F ≤ F + t + k ∧ F + t + k < E := by omega
    have b1 := su_r (f := fp b μ0 (F + t + k) (μ 64)) (A := 99000) (by decide) s (fun i p q => fp_r h hl (hp i p (by omega)))
    have b2 := fp_r (p := μ 64) h hl (hp s (by omega) (by omega))
    have e2 : cnt s (RR b μ0 (F + t + k)) * μ 64 s = fp b μ0 (F + t + k) (μ 64) s := rfl
    rw [e1, su_s, ← Int.add_assoc] at ih
    show Or_leastCoin_L41_b k27 (Or_leastCoin_L41 k27 fu) p q k _ s μ = _
    unfold Or_leastCoin_L41_b
    rw [slipOf_s ho (by omega), q_bd_s, if_pos (by omega), standing_s hS (by omega) (by omega) N0.2 t0.1, q_bd_s, X_at_64, if_pos (by omega), q_bd_s, e2, w32_i (x := fp b μ0 (F + t + k) (μ 64) s) (by omega) (by omega), w32_i (x := q + su (fp b μ0 (F + t + k) (μ 64)) s + fp b μ0 (F + t + k) (μ 64) s) (by omega) (by omega), w32_i (x := (s : Int) + 1) (by omega) (by omega), ih]
theorem rprice_L {b F E t N p q k v x : Int} {k81 : Int → Int → Int → Int → Int → am_M → am_O} {μ ν : am_M} (h : PL b F E t N μ ν) (hk : 0 ≤ k ∧ k < N) (hq : 0 ≤ q ∧ q ≤ 99) (hx : 0 ≤ x ∧ x ≤ 2000) (hp : ∀ i, 0 ≤ i → i < 10 → 0 ≤ ν 1061 i ∧ ν 1061 i ≤ 99) : ∀ (n fu : Nat) (s : Nat), s + n = 10 → n < fu → M_cheapest_L112 k81 fu v p q x (F + t + k) (q + su (fp b μ (F + t + k) (ν 1061)) s) s ν = k81 v p q (x + q) (F + t + k + 1) (m_st ν 1061 (t + k) (mi (q + su (fp b μ (F + t + k) (ν 1061)) 10) p))
  | n, 0, _, _, h => by omega
  | 0, fu + 1, s, hs, _ => by
    have t0 := h.t0
    have N0 := h.N0
    have NE := h.NE
    have F0 := h.F0
    have e : s = 10 := by omega
    have la : ν 1003 (F + t + k) = t + k := by
      have := h.la (t + k) (by omega) (by omega)
      have e : F + (t + k) = F + t + k := by omega
      rw [e] at this
      exact this
    subst e
    show M_cheapest_L112_b k81 (M_cheapest_L112 k81 fu) v p q x (F + t + k) _ _ ν = _
    unfold M_cheapest_L112_b M_cheapest_B173
    rw [if_neg (by omega), q_ld_s (by omega) (by omega), q_lt_d, la, q_st_s (by omega) (by omega), w64_i (x := x + q) (by omega) (by omega), w32_i (x := F + t + k + 1) (by omega) (by omega)]
    rfl
  | n + 1, fu + 1, s, hs, hf => by
    have t0 := h.t0
    have N0 := h.N0
    have NE := h.NE
    have F0 := h.F0
    have ih := rprice_L (p := p) (v := v) (k81 := k81) h hk hq hx hp n fu (s + 1) (by omega) (by omega)
    have e1 : ((s + 1 : Nat) : Int) = (s : Int) + 1 := by omega
    have hl : F ≤ F + t + k ∧ F + t + k < E := by omega
    have b1 := su_r (f := fp b μ (F + t + k) (ν 1061)) (A := 99000) (by decide) s (fun i p q => fp_r h hl (hp i p (by omega)))
    have b2 := fp_r (p := ν 1061) h hl (hp s (by omega) (by omega))
    have e2 : cnt s (RR b μ (F + t + k)) * ν 1061 s = fp b μ (F + t + k) (ν 1061) s := rfl
    rw [e1, su_s, ← Int.add_assoc] at ih
    show M_cheapest_L112_b k81 (M_cheapest_L112 k81 fu) v p q x (F + t + k) _ s ν = _
    unfold M_cheapest_L112_b
    rw [if_pos (by omega), lrd_s h hl (by omega), q_bd_s, q_ld_s (by omega) (by omega), e2, w64_i (x := fp b μ (F + t + k) (ν 1061) s) (by omega) (by omega), w64_i (x := q + su (fp b μ (F + t + k) (ν 1061)) s + fp b μ (F + t + k) (ν 1061) s) (by omega) (by omega), w32_i (x := (s : Int) + 1) (by omega) (by omega), ih]
/-- prices alike under m -/
def PRC (μ ν : am_M) (m : Int) : Prop := (∀ i, 0 ≤ i → i < m → μ 64 i = ν 1061 i) ∧ ∀ i, 0 ≤ i → i < 10 → 0 ≤ ν 1061 i ∧ ν 1061 i ≤ 99
def CFR (ν ν' : am_M) : Prop := ∀ c i, c ≠ 1061 → ν' c i = ν c i
theorem CFR.pl {b F E t N : Int} {μ ν ν' : am_M} (f : CFR ν ν') (h : PL b F E t N μ ν) : PL b F E t N μ ν' := h.cong (fun _ _ _ => rfl) (fun c p q => funext fun i => f c i (by omega))
theorem prices_L {b F E t N p q v : Int} {μ0 ν0 : am_M} (h : PL b F E t N μ0 ν0) (hv : 0 ≤ v ∧ v < 4) (v18 : ν0 1017 v + ν0 1018 v = E) (hp : 0 ≤ p ∧ p ≤ 99) (hq : 0 ≤ q ∧ q ≤ 99) : ∀ (n fu fu' : Nat) (k x : Int) (μ ν : am_M), k + n = N → 0 ≤ k → n < fu → n + 1 < fu' → OS b F t N μ0 μ → STD b F t N μ0 μ → CFR ν0 ν → PRC μ ν (t + k) → x = k * q → 0 ≤ x ∧ x ≤ 100 * k → ∃ μ' ν' y, Or_leastCoin_L27 fu p q k μ = Or_leastCoin_L115 am_FU y 0 μ' ∧ M_cheapest_L81 fu' v p q x (F + t + k) ν = M_cheapest_L182 am_FU v y 0 ν' ∧ 0 ≤ y ∧ y ≤ 1000 ∧ PRC μ' ν' (t + N) ∧ (∀ c i, c ≠ 64 → μ' c i = μ c i) ∧ CFR ν0 ν'
  | n, 0, _, _, _, _, _, _, _, h, _, _, _, _, _, _, _ => by omega
  | n, _, 0, _, _, _, _, _, _, _, h, _, _, _, _, _, _ => by omega
  | n, _, 1, _, _, _, _, _, _, _, h, _, _, _, _, _, _ => by omega
  | 0, fu + 1, fu' + 2, k, x, μ, ν, hk, h0, _, _, ho, hS, hf, hpr, hx, hxb => by
    have t0 := h.t0
    have N0 := h.N0
    have NE := h.NE
    have F0 := h.F0
    have e : k = N := by omega
    subst e
    have k8 : ν 1002 (F + t + k) = 8 := by
      rw [hf 1002 _ (by omega)]
      have := h.k8
      have e : E - 1 = F + t + k := by omega
      rw [e] at this
      exact this
    have ll : M_lastLine v ν = some (E - 1, ν) := last_s hv (by rw [hf 1017 v (by omega), hf 1018 v (by omega)]; exact v18) (by omega)
    refine ⟨μ, ν, x, ?_, ?_, hxb.1, by omega, hpr, fun _ _ _ => rfl, hf⟩
    · show Or_leastCoin_L27_b (Or_leastCoin_L27 fu) p q k μ = _
      unfold Or_leastCoin_L27_b
      rw [ho.o8, if_neg (by omega), ← hx, w64_i (x := x) (by omega) (by omega)]
    · show M_cheapest_L81_b (M_cheapest_L81 (fu' + 1)) v p q x (F + t + k) ν = _
      unfold M_cheapest_L81_b M_cheapest_B173
      rw [ll, q_bd_s, if_pos (by omega), q_ld_s (by omega) (by omega), k8, if_neg (by decide), w32_i (x := F + t + k + 1) (by omega) (by omega)]
      show M_cheapest_L81_b (M_cheapest_L81 fu') v p q x (F + t + k + 1) ν = _
      unfold M_cheapest_L81_b
      rw [ll, q_bd_s, if_neg (by omega)]
  | n + 1, fu + 1, fu' + 2, k, x, μ, ν, hk, h0, hfu, hfu', ho, hS, hf, hpr, hx, hxb => by
    have hFU := am_FU_ge
    have t0 := h.t0
    have N0 := h.N0
    have NE := h.NE
    have F0 := h.F0
    have hN : 0 ≤ k ∧ k < N := ⟨h0, by omega⟩
    have k1 : ν 1002 (F + t + k) = 1 := by rw [hf 1002 _ (by omega)]; exact h.k1 k h0 (by omega)
    have ll : M_lastLine v ν = some (E - 1, ν) := last_s hv (by rw [hf 1017 v (by omega), hf 1018 v (by omega)]; exact v18) (by omega)
    have hl : F ≤ F + t + k ∧ F + t + k < E := by omega
    have c1 := cprice_L (p := p) (k27 := Or_leastCoin_L27 fu) h ho hS hN hq (fun i p q => by rw [hpr.1 i p q]; exact hpr.2 i p (by omega)) (t + k).toNat am_FU 0 (by omega) (by omega)
    have r1 := rprice_L (p := p) (v := v) (x := x) (k81 := M_cheapest_L81 (fu' + 1)) (hf.pl h) hN hq (by omega) hpr.2 10 am_FU 0 (by omega) (by omega)
    have es : su (fp b μ0 (F + t + k) (ν 1061)) 10 = su (fp b μ0 (F + t + k) (μ 64)) (t + k).toNat := by
      have e10 : 10 = (t + k).toNat + (10 - (t + k).toNat) := by omega
      rw [e10, su_tail (10 - (t + k).toNat) (fun i p' q' => ?_)]
      · exact su_cong _ (fun i p' q' => by unfold fp; rw [hpr.1 i p' (by omega)])
      · have hc := cnt_0 i (RR b μ0 (F + t + k))
        have hb := (h.cB (s := i) hl).1
        have ha := h.ah.2 k i h0 (by omega)
        have : cnt i (RR b μ0 (F + t + k)) = 0 := by
          rcases Classical.em (i ∈ RR b μ0 (F + t + k)) with c | c
          · have := ha c; omega
          · have : ¬ 0 < cnt i (RR b μ0 (F + t + k)) := fun y => c (hc.mp y)
            omega
        unfold fp
        rw [this, Int.zero_mul]
    rw [es] at r1
    have sb := su_r (f := fp b μ0 (F + t + k) (μ 64)) (A := 99000) (by decide) (t + k).toNat (fun i p' q' => fp_r h hl (by rw [hpr.1 i p' (by omega)]; exact hpr.2 i p' (by omega)))
    generalize hy : mi (q + su (fp b μ0 (F + t + k) (μ 64)) (t + k).toNat) p = y at *
    have yb : 0 ≤ y ∧ y ≤ 99 := by rw [← hy]; exact mi_r (by omega) hp
    generalize hμ1 : m_st μ 64 (t + k) y = μ1 at *
    generalize hν1 : m_st ν 1061 (t + k) y = ν1 at *
    have f1 : ∀ c i, ¬ (c = 64 ∧ i = t + k) → μ1 c i = μ c i := fun c i z => by rw [← hμ1, m_st_d, if_neg z]
    have w1 : μ1 64 (t + k) = y := by rw [← hμ1, m_st_d, if_pos ⟨rfl, rfl⟩]
    have g1 : ∀ c i, ¬ (c = 1061 ∧ i = t + k) → ν1 c i = ν c i := fun c i z => by rw [← hν1, m_st_d, if_neg z]
    have u1 : ν1 1061 (t + k) = y := by rw [← hν1, m_st_d, if_pos ⟨rfl, rfl⟩]
    have ex : x + q = (k + 1) * q := by rw [Int.add_mul, Int.one_mul, ← hx]
    obtain ⟨μ', ν', z, a1, a2, a3, a4, a5, a6, a7⟩ := prices_L h hv v18 hp hq n fu (fu' + 1) (k + 1) (x + q) μ1 ν1 (by omega) (by omega) (by omega) (by omega) (ho.cong h.bo (fun c i p => f1 c i (by omega))) (fun a s p' q' r u => by rw [f1 _ _ (by omega)]; exact hS a s p' q' r u) (fun c i p => by rw [g1 c i (by omega)]; exact hf c i p) ⟨fun i p' q' => by
      by_cases c : i = t + k
      · rw [c, w1, u1]
      · rw [f1 _ _ (by omega), g1 _ _ (by omega)]; exact hpr.1 i p' (by omega), fun i p' q' => by
      by_cases c : i = t + k
      · rw [c, u1]; exact yb
      · rw [g1 _ _ (by omega)]; exact hpr.2 i p' q'⟩ ex (by omega)
    have e1 : F + t + (k + 1) = F + t + k + 1 := by omega
    rw [e1] at a2
    have q0 : q + su (fp b μ0 (F + t + k) (μ 64)) 0 = q := by show q + 0 = q; omega
    have q0' : q + su (fp b μ0 (F + t + k) (ν 1061)) 0 = q := by show q + 0 = q; omega
    rw [q0] at c1
    rw [q0'] at r1
    refine ⟨μ', ν', z, ?_, ?_, a3, a4, a5, fun c i p => by rw [a6 c i p, f1 c i (by omega)], a7⟩
    · rw [← a1, ← c1]
      show Or_leastCoin_L27_b (Or_leastCoin_L27 fu) p q k μ = _
      unfold Or_leastCoin_L27_b
      rw [ho.o8, if_pos hN.2]
      rfl
    · rw [← a2, ← r1]
      show M_cheapest_L81_b (M_cheapest_L81 (fu' + 1)) v p q x (F + t + k) ν = _
      unfold M_cheapest_L81_b
      rw [ll, q_bd_s, if_pos (by omega), q_ld_s (by omega) (by omega), k1, if_pos rfl]
      rfl
/-- how often sums and give read slip s -/
def fc (b F t : Int) (μ : am_M) (s k : Int) : Int := cnt s (RR b μ (F + t + k))
def tm (n : Int) : Int := if 0 < n - 1 then n - 1 else 0
theorem ctimes_L {b F E t N s x : Int} {k115 : Int → Int → am_M → am_O} {μ0 ν0 μ : am_M} (h : PL b F E t N μ0 ν0) (ho : OS b F t N μ0 μ) (hS : STD b F t N μ0 μ) (hs : 0 ≤ s ∧ s < t + N) (hx : 0 ≤ x ∧ x ≤ 100000000) (hp : 0 ≤ μ 64 s ∧ μ 64 s ≤ 99) : ∀ (n fu : Nat) (k : Nat), k + n = N + 1 → n < fu → Or_leastCoin_L134 k115 fu x s (su (fc b F t μ0 s) k) k μ = k115 (x + tm (su (fc b F t μ0 s) (N + 1).toNat) * μ 64 s) (s + 1) μ
  | n, 0, _, _, h => by omega
  | 0, fu + 1, k, hk, _ => by
    have t0 := h.t0
    have N0 := h.N0
    have NE := h.NE
    have F0 := h.F0
    have e : k = (N + 1).toNat := by omega
    have b1 := su_r (f := fc b F t μ0 s) (A := 1000) (by decide) (N + 1).toNat (fun i p q => h.cB (by omega))
    have tb1 : 0 ≤ tm (su (fc b F t μ0 s) (N + 1).toNat) ∧ tm (su (fc b F t μ0 s) (N + 1).toNat) ≤ 11000 := by unfold tm; split <;> omega
    have b2 := mul_b tb1 hp
    show Or_leastCoin_L134_b k115 (Or_leastCoin_L134 k115 fu) x s _ k μ = _
    unfold Or_leastCoin_L134_b
    rw [e, ho.o8, if_neg (by omega), w32_i (x := su (fc b F t μ0 s) (N + 1).toNat - 1) (by omega) (by omega), q_lt_d, X_at_64, if_pos (by omega), q_bd_s, w32_i (x := s + 1) (by omega) (by omega)]
    have e2 : (if 0 < su (fc b F t μ0 s) (N + 1).toNat - 1 then su (fc b F t μ0 s) (N + 1).toNat - 1 else 0) = tm (su (fc b F t μ0 s) (N + 1).toNat) := rfl
    rw [e2, w64_i (x := tm (su (fc b F t μ0 s) (N + 1).toNat) * μ 64 s) (by omega) (by omega), w64_i (x := x + tm (su (fc b F t μ0 s) (N + 1).toNat) * μ 64 s) (by omega) (by omega)]
  | n + 1, fu + 1, k, hk, hf => by
    have t0 := h.t0
    have N0 := h.N0
    have NE := h.NE
    have F0 := h.F0
    have ih := ctimes_L (k115 := k115) h ho hS hs hx hp n fu (k + 1) (by omega) (by omega)
    have e1 : ((k + 1 : Nat) : Int) = (k : Int) + 1 := by omega
    have b1 := su_r (f := fc b F t μ0 s) (A := 1000) (by decide) k (fun i p q => h.cB (by omega))
    have b2 : 0 ≤ fc b F t μ0 s k ∧ fc b F t μ0 s k ≤ 1000 := h.cB (by omega)
    have e2 : cnt s (RR b μ0 (F + t + k)) = fc b F t μ0 s k := rfl
    rw [e1, su_s] at ih
    show Or_leastCoin_L134_b k115 (Or_leastCoin_L134 k115 fu) x s _ k μ = _
    unfold Or_leastCoin_L134_b
    rw [ho.o8, if_pos (by omega), standing_s hS (by omega) hs N0.2 t0.1, q_bd_s, e2, w32_i (x := su (fc b F t μ0 s) k + fc b F t μ0 s k) (by omega) (by omega), w32_i (x := (k : Int) + 1) (by omega) (by omega), ih]
theorem rtakes_L {b F E t N s x v : Int} {k182 : Int → Int → Int → am_M → am_O} {μ ν : am_M} (h : PL b F E t N μ ν) (hv : 0 ≤ v ∧ v < 4) (v18 : ν 1017 v + ν 1018 v = E) (hs : 0 ≤ s ∧ s < 10) : ∀ (n fu : Nat) (l : Int), l + n = F + t → F ≤ l → M_cheapest_L204 k182 (fu + n) v x s 0 l ν = M_cheapest_L204 k182 fu v x s 0 (F + t) ν
  | 0, fu, l, hl, _ => by
    have e : l = F + t := by omega
    rw [e]
    rfl
  | n + 1, fu, l, hl, h0 => by
    have F0 := h.F0
    have t0 := h.t0
    have N0 := h.N0
    have NE := h.NE
    have r0 := h.r0 (l - F) (by omega) (by omega)
    have e : F + (l - F) = l := by omega
    rw [e] at r0
    have rd := lrd_s (l := l) (s := s) h (by omega) hs
    rw [r0] at rd
    have c0 : cnt s [] = 0 := rfl
    rw [c0] at rd
    rw [← rtakes_L h hv v18 hs n fu (l + 1) (by omega) (by omega)]
    show M_cheapest_L204_b k182 (M_cheapest_L204 k182 (fu + n)) v x s 0 l ν = _
    unfold M_cheapest_L204_b
    rw [last_s hv v18 (by omega), q_bd_s, if_pos (by omega), rd, q_bd_s, w32_i (x := l + 1) (by omega) (by omega), w32_i (x := (0 : Int) + 0) (by omega) (by omega), Int.add_zero]
theorem rtimes_L {b F E t N s x v : Int} {k182 : Int → Int → Int → am_M → am_O} {μ ν : am_M} (h : PL b F E t N μ ν) (hv : 0 ≤ v ∧ v < 4) (v18 : ν 1017 v + ν 1018 v = E) (hs : 0 ≤ s ∧ s < t + N) (hx : 0 ≤ x ∧ x ≤ 100000000) (hp : 0 ≤ ν 1061 s ∧ ν 1061 s ≤ 99) : ∀ (n fu : Nat) (k : Nat), k + n = N + 1 → n < fu → M_cheapest_L204 k182 fu v x s (su (fc b F t μ s) k) (F + t + k) ν = k182 v (x + tm (su (fc b F t μ s) (N + 1).toNat) * ν 1061 s) (s + 1) ν
  | n, 0, _, _, h => by omega
  | 0, fu + 1, k, hk, _ => by
    have t0 := h.t0
    have N0 := h.N0
    have NE := h.NE
    have F0 := h.F0
    have e : k = (N + 1).toNat := by omega
    have b1 := su_r (f := fc b F t μ s) (A := 1000) (by decide) (N + 1).toNat (fun i p q => h.cB (by omega))
    have tb1 : 0 ≤ tm (su (fc b F t μ s) (N + 1).toNat) ∧ tm (su (fc b F t μ s) (N + 1).toNat) ≤ 11000 := by unfold tm; split <;> omega
    have b2 := mul_b tb1 hp
    show M_cheapest_L204_b k182 (M_cheapest_L204 k182 fu) v x s _ (F + t + k) ν = _
    unfold M_cheapest_L204_b
    rw [last_s hv v18 (by omega), q_bd_s, if_neg (by omega), e, w32_i (x := su (fc b F t μ s) (N + 1).toNat - 1) (by omega) (by omega), q_lt_d, q_ld_s hs.1 (by omega), w32_i (x := s + 1) (by omega) (by omega)]
    have e2 : (if 0 < su (fc b F t μ s) (N + 1).toNat - 1 then su (fc b F t μ s) (N + 1).toNat - 1 else 0) = tm (su (fc b F t μ s) (N + 1).toNat) := rfl
    rw [e2, w64_i (x := tm (su (fc b F t μ s) (N + 1).toNat) * ν 1061 s) (by omega) (by omega), w64_i (x := x + tm (su (fc b F t μ s) (N + 1).toNat) * ν 1061 s) (by omega) (by omega)]
  | n + 1, fu + 1, k, hk, hf => by
    have t0 := h.t0
    have N0 := h.N0
    have NE := h.NE
    have F0 := h.F0
    have ih := rtimes_L (k182 := k182) h hv v18 hs hx hp n fu (k + 1) (by omega) (by omega)
    have e1 : F + t + ((k + 1 : Nat) : Int) = F + t + (k : Int) + 1 := by omega
    have b1 := su_r (f := fc b F t μ s) (A := 1000) (by decide) k (fun i p q => h.cB (by omega))
    have b2 : 0 ≤ fc b F t μ s k ∧ fc b F t μ s k ≤ 1000 := h.cB (by omega)
    have e2 : cnt s (RR b μ (F + t + k)) = fc b F t μ s k := rfl
    rw [e1, su_s] at ih
    show M_cheapest_L204_b k182 (M_cheapest_L204 k182 fu) v x s _ (F + t + k) ν = _
    unfold M_cheapest_L204_b
    rw [last_s hv v18 (by omega), q_bd_s, if_pos (by omega), lrd_s h (by omega) (by omega), q_bd_s, e2, w32_i (x := su (fc b F t μ s) k + fc b F t μ s k) (by omega) (by omega), w32_i (x := F + t + (k : Int) + 1) (by omega) (by omega), ih]
theorem coins_L {b F E t N v : Int} {μ0 μ ν : am_M} (h : PL b F E t N μ0 ν) (hv : 0 ≤ v ∧ v < 4) (v17 : ν 1017 v = F) (v18 : ν 1017 v + ν 1018 v = E) (v20 : ν 1020 v = t + N) (ho : OS b F t N μ0 μ) (hS : STD b F t N μ0 μ) (hpr : PRC μ ν (t + N)) : ∀ (n fu fu' : Nat) (x s : Int), s + n = t + N → 0 ≤ s → n < fu → n < fu' → 0 ≤ x ∧ x ≤ 1000 + 2000000 * s → ∃ r, Or_leastCoin_L115 fu x s μ = some (r, μ) ∧ M_cheapest_L182 fu' v x s ν = some (r, ν)
  | n, 0, _, _, _, _, _, h, _, _ => by omega
  | n, _, 0, _, _, _, _, _, h, _ => by omega
  | 0, fu + 1, fu' + 1, x, s, hs, h0, _, _, _ => by
    have t0 := h.t0
    have N0 := h.N0
    refine ⟨x, ?_, ?_⟩
    · show Or_leastCoin_L115_b (Or_leastCoin_L115 fu) x s μ = _
      unfold Or_leastCoin_L115_b
      rw [ho.o8, slipOf_s ho (by omega), q_bd_s, if_neg (by omega)]
    · show M_cheapest_L182_b (M_cheapest_L182 fu') v x s ν = _
      unfold M_cheapest_L182_b
      rw [q_ld_s hv.1 (by omega), v20, if_neg (by omega)]
  | n + 1, fu + 1, fu' + 1, x, s, hs, h0, hfu, hfu', hx => by
    have hFU := am_FU_ge
    have t0 := h.t0
    have N0 := h.N0
    have NE := h.NE
    have F0 := h.F0
    have pe := hpr.1 s h0 (by omega)
    have pb := hpr.2 s h0 (by omega)
    have c1 := ctimes_L (x := x) (k115 := Or_leastCoin_L115 fu) h ho hS ⟨h0, by omega⟩ (by omega) (by rw [pe]; exact pb) (N + 1).toNat am_FU 0 (by omega) (by omega)
    obtain ⟨fv, efv⟩ : ∃ fv : Nat, am_FU = fv + t.toNat := ⟨am_FU - t.toNat, by omega⟩
    have r0 := rtakes_L (x := x) (k182 := M_cheapest_L182 fu') h hv v18 (show 0 ≤ s ∧ s < 10 by omega) t.toNat fv F (by omega) (by omega)
    rw [← efv] at r0
    have r1 := rtimes_L (x := x) (k182 := M_cheapest_L182 fu') h hv v18 ⟨h0, by omega⟩ (by omega) pb (N + 1).toNat fv 0 (by omega) (by omega)
    have b1 := su_r (f := fc b F t μ0 s) (A := 1000) (by decide) (N + 1).toNat (fun i p q => h.cB (by omega))
    have tb1 : 0 ≤ tm (su (fc b F t μ0 s) (N + 1).toNat) ∧ tm (su (fc b F t μ0 s) (N + 1).toNat) ≤ 11000 := by unfold tm; split <;> omega
    have b2 := mul_b tb1 pb
    rw [pe] at c1
    obtain ⟨r, a1, a2⟩ := coins_L h hv v17 v18 v20 ho hS hpr n fu fu' (x + tm (su (fc b F t μ0 s) (N + 1).toNat) * ν 1061 s) (s + 1) (by omega) (by omega) (by omega) (by omega) (by omega)
    have ez : F + t + ((0 : Nat) : Int) = F + t := by omega
    rw [ez] at r1
    refine ⟨r, ?_, ?_⟩
    · rw [← a1, ← c1]
      show Or_leastCoin_L115_b (Or_leastCoin_L115 fu) x s μ = _
      unfold Or_leastCoin_L115_b
      rw [ho.o8, slipOf_s ho (by omega), q_bd_s, if_pos (by omega)]
      rfl
    · rw [← a2, ← r1]
      show M_cheapest_L182_b (M_cheapest_L182 fu') v x s ν = _
      unfold M_cheapest_L182_b
      rw [q_ld_s hv.1 (by omega), v20, if_pos (by omega), q_ld_s hv.1 (by omega), v17, r0]
      rfl
