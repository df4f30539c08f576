/-! The promise of needs, both sides. -/
/-- how many ifs stand in n lines from l on -/
def ic (ν : am_M) : Nat → Int → Nat
  | 0, _ => 0
  | n + 1, l => (if ν 1002 l = 5 then 1 else 0) + ic ν n (l + 1)
theorem ic_add {ν : am_M} : ∀ (n m : Nat) (l : Int), ic ν (n + m) l = ic ν n l + ic ν m (l + n)
  | 0, m, l => by
    have e : l + ((0 : Nat) : Int) = l := by show l + 0 = l; omega
    have e2 : 0 + m = m := Nat.zero_add m
    rw [e, e2]
    show ic ν m l = 0 + ic ν m l
    omega
  | n + 1, m, l => by
    have e : n + 1 + m = n + m + 1 := by omega
    have e2 : l + ((n + 1 : Nat) : Int) = l + 1 + n := by omega
    rw [e, e2]
    show (if ν 1002 l = 5 then 1 else 0) + ic ν (n + m) (l + 1) = (if ν 1002 l = 5 then 1 else 0) + ic ν n (l + 1) + ic ν m (l + 1 + n)
    rw [ic_add n m (l + 1)]
    omega
theorem ic_no {ν : am_M} : ∀ (n : Nat) (l : Int), (∀ x, l ≤ x → x < l + n → ν 1002 x ≠ 5) → ic ν n l = 0
  | 0, _, _ => rfl
  | n + 1, l, h => by
    show (if ν 1002 l = 5 then 1 else 0) + ic ν n (l + 1) = 0
    rw [if_neg (h l (Int.le_refl _) (by omega)), ic_no n (l + 1) (fun x p q => h x (by omega) (by omega))]
theorem ic_blk {b : Int} {μ ν : am_M} : ∀ (n d : Nat) (a z : Int), blk (wZ b μ ν) n d a z → 3 * ic ν (z - a).toNat a ≤ (z - a).toNat
  | 0, _, a, z, h => by
    have h : a = z := h
    subst h
    have e : (a - a).toNat = 0 := by omega
    rw [e]
    exact Nat.le_refl _
  | n + 1, d, a, z, h => by
    rcases h with h | ⟨h1, h2, h3⟩ | ⟨h1, h2, h3, h4, h5, h6, h7, h8, h9, h10, h11, h12, h13⟩
    · subst h
      have e : (a - a).toNat = 0 := by omega
      rw [e]
      exact Nat.le_refl _
    · have ih := ic_blk n d _ _ h3
      have k : 1 ≤ ν 1002 a ∧ ν 1002 a ≤ 4 := h2
      have e : (z - a).toNat = (z - (a + 1)).toNat + 1 := by omega
      rw [e]
      show 3 * ((if ν 1002 a = 5 then 1 else 0) + ic ν (z - (a + 1)).toNat (a + 1)) ≤ _
      rw [if_neg (by omega)]
      omega
    · have i1 := ic_blk n _ _ _ h11
      have i2 := ic_blk n _ _ _ h12
      have i3 := ic_blk n _ _ _ h13
      generalize wZ b μ ν 1 a = e at *
      generalize wZ b μ ν 2 a = q at *
      have k1 : ν 1002 a = 5 := h1
      have k2 : ν 1002 e = 6 := h6
      have k3 : ν 1002 q = 7 := h7
      have es : (z - a).toNat = 1 + ((e - (a + 1)).toNat + (1 + ((q - (e + 1)).toNat + (1 + (z - (q + 1)).toNat)))) := by omega
      have p1 : a + ((1 : Nat) : Int) = a + 1 := rfl
      have p2 : a + 1 + (((e - (a + 1)).toNat : Nat) : Int) = e := by omega
      have p3 : e + ((1 : Nat) : Int) = e + 1 := rfl
      have p4 : e + 1 + (((q - (e + 1)).toNat : Nat) : Int) = q := by omega
      have p5 : q + ((1 : Nat) : Int) = q + 1 := rfl
      have one : ∀ l, ic ν 1 l = (if ν 1002 l = 5 then 1 else 0) := fun l => by
        show (if ν 1002 l = 5 then 1 else 0) + ic ν 0 (l + 1) = _
        show (if ν 1002 l = 5 then 1 else 0) + 0 = _
        omega
      rw [es, ic_add, p1, ic_add, p2, ic_add, p3, ic_add, p4, ic_add, p5, one, one, one, if_pos k1, if_neg (by omega), if_neg (by omega)]
      omega
theorem ic_mono {ν : am_M} {E l l' : Int} (h : l ≤ l') (h2 : l' ≤ E) : ic ν (E - l').toNat l' ≤ ic ν (E - l).toNat l := by
  have e : (E - l).toNat = (l' - l).toNat + (E - l').toNat := by omega
  have e2 : l + (((l' - l).toNat : Nat) : Int) = l' := by omega
  rw [e, ic_add, e2]
  omega
theorem CS_le {F E : Int} {ν : am_M} (hj : NJ F E ν) : ∀ (n : Nat) (l : Int), F ≤ l → l < E → CS ν n l ≤ (E - l).toNat * 2 ^ ic ν (E - l).toNat l
  | 0, _, _, _ => Nat.zero_le _
  | n + 1, l, hF, hE => by
    have es : (E - l).toNat = (E - (l + 1)).toNat + 1 := by omega
    have ei : ic ν (E - l).toNat l = (if ν 1002 l = 5 then 1 else 0) + ic ν (E - (l + 1)).toNat (l + 1) := by rw [es]; rfl
    have k8 := hj.j8 l hF hE
    show (if ν 1002 l = 8 then 1 else if ν 1002 l = 5 then 1 + CS ν n (l + 1) + CS ν n (ν 1008 l + 1) else 1 + CS ν n (nx ν l)) ≤ _
    have p0 : ∀ x : Nat, 1 ≤ 2 ^ x := fun x => Nat.one_le_two_pow
    by_cases q8 : ν 1002 l = 8
    · rw [if_pos q8]
      have : 1 ≤ (E - l).toNat := by omega
      exact Nat.le_trans this (Nat.le_mul_of_pos_right _ (Nat.two_pow_pos _))
    have n1 := hj.nxt hF hE q8
    by_cases q5 : ν 1002 l = 5
    · have x := hj.j5 l hF hE q5
      have i1 := CS_le hj n (l + 1) (by omega) (by omega)
      have i2 := CS_le hj n (ν 1008 l + 1) (by omega) (by omega)
      have m2 := ic_mono (ν := ν) (E := E) (l := l + 1) (l' := ν 1008 l + 1) (by omega) (by omega)
      rw [if_neg q8, if_pos q5, ei, if_pos q5, Nat.add_comm 1 (ic ν (E - (l + 1)).toNat (l + 1)), Nat.pow_succ]
      generalize ic ν (E - (l + 1)).toNat (l + 1) = I at *
      generalize ic ν (E - (ν 1008 l + 1)).toNat (ν 1008 l + 1) = J at *
      have h2 : (E - (ν 1008 l + 1)).toNat * 2 ^ J ≤ (E - (l + 1)).toNat * 2 ^ I := Nat.mul_le_mul (by omega) (Nat.pow_le_pow_right (by decide) m2)
      have hp := p0 I
      rw [es]
      generalize 2 ^ I = P at *
      generalize (E - (l + 1)).toNat = N at *
      have : (N + 1) * (P * 2) = N * P + N * P + P + P := by rw [Nat.add_mul, Nat.mul_comm P 2, Nat.mul_left_comm, Nat.one_mul]; omega
      omega
    · rw [if_neg q8, if_neg q5, ei, if_neg q5, Nat.zero_add]
      have i1 := CS_le hj n (nx ν l) (by omega) n1.2
      have m2 := ic_mono (ν := ν) (E := E) (l := l + 1) (l' := nx ν l) (by omega) (by omega)
      generalize ic ν (E - (l + 1)).toNat (l + 1) = I at *
      generalize ic ν (E - nx ν l).toNat (nx ν l) = J at *
      have h2 : (E - nx ν l).toNat * 2 ^ J ≤ (E - (l + 1)).toNat * 2 ^ I := Nat.mul_le_mul (by omega) (Nat.pow_le_pow_right (by decide) m2)
      have hp := p0 I
      rw [es, Nat.add_mul, Nat.one_mul]
      omega
/-- what the class visits is all, up to what lacks the same -/
theorem WS_VS {R : Int → List Int} {F E : Int} {st : Int → Int} {ν : am_M} (hj : NJ F E ν) (hst : ∀ x, F ≤ x → x < E → ν 1002 x = 5 → st x = 0 ∨ AL R ν E x) : ∀ (n : Nat) (l : Int) (v u : Int → Int), F ≤ l → l < E → E - l ≤ n → WS R ν n l v u → ∃ u', CGV u u' ∧ VS R ν st n l v u'
  | 0, _, _, _, _, _, _, h => h.elim
  | n + 1, l, v, u, hF, hE, hn, h => by
    by_cases q8 : ν 1002 l = 8
    · exact ⟨u, CGV.rf, (VS_8 q8).mpr ((WS_8 q8).mp h)⟩
    have n1 := hj.nxt hF hE q8
    by_cases q5 : ν 1002 l = 5
    · have x := hj.j5 l hF hE q5
      rcases (WS_5 q5).mp h with z | z
      · obtain ⟨u', a1, a2⟩ := WS_VS hj hst n (l + 1) _ u (by omega) (by omega) (by omega) z
        exact ⟨u', a1, (VS_5 q5).mpr (Or.inl a2)⟩
      · by_cases c : st l = 0
        · obtain ⟨u', a1, a2⟩ := WS_VS hj hst n (ν 1008 l + 1) _ u (by omega) (by omega) (by omega) z
          exact ⟨u', a1, (VS_5 q5).mpr (Or.inr ⟨c, a2⟩)⟩
        · rcases hst l hF hE q5 with y | y
          · exact absurd y c
          · obtain ⟨u1, b1, b2⟩ := y n _ u (by omega) z
            obtain ⟨u', a1, a2⟩ := WS_VS hj hst n (l + 1) _ u1 (by omega) (by omega) (by omega) b2
            exact ⟨u', b1.tr a1, (VS_5 q5).mpr (Or.inl a2)⟩
    · have eW : WS R ν (n + 1) l v u ↔ WS R ν n (nx ν l) (vad R ν v l) u := by
        unfold nx
        by_cases q6 : ν 1002 l = 6
        · rw [if_pos q6]; exact WS_6 q6
        · rw [if_neg q6]; exact WS_o q8 q5 q6
      obtain ⟨u', a1, a2⟩ := WS_VS hj hst n (nx ν l) _ u (by omega) n1.2 (by omega) (eW.mp h)
      exact ⟨u', a1, (VS_o q8 q5).mpr a2⟩
theorem VS_WS {R : Int → List Int} {st : Int → Int} {ν : am_M} : ∀ (n : Nat) (l : Int) (v u : Int → Int), VS R ν st n l v u → WS R ν n l v u
  | 0, _, _, _, h => h.elim
  | n + 1, l, v, u, h => by
    by_cases q8 : ν 1002 l = 8
    · exact (WS_8 q8).mpr ((VS_8 q8).mp h)
    by_cases q5 : ν 1002 l = 5
    · exact (WS_5 q5).mpr (((VS_5 q5).mp h).imp (VS_WS n _ _ u) (fun z => VS_WS n _ _ u z.2))
    · have eW : WS R ν (n + 1) l v u ↔ WS R ν n (nx ν l) (vad R ν v l) u := by
        unfold nx
        by_cases q6 : ν 1002 l = 6
        · rw [if_pos q6]; exact WS_6 q6
        · rw [if_neg q6]; exact WS_o q8 q5 q6
      exact eW.mpr (VS_WS n _ _ u ((VS_o q8 q5).mp h))
/-- there is a way, and it adds no more than so much -/
theorem WS_ex {R : Int → List Int} {F E : Int} {ν : am_M} (hj : NJ F E ν) (hd : ∀ l s, F ≤ l → l < E → 0 ≤ s → s < 10 → -1002 ≤ dl R ν l s ∧ dl R ν l s ≤ 1002) : ∀ (n : Nat) (l : Int) (v : Int → Int), F ≤ l → l < E → E - l ≤ n → ∃ u, WS R ν n l v u ∧ ∀ s, 0 ≤ s → s < 10 → v s - 1002 * n ≤ u s ∧ u s ≤ v s + 1002 * n
  | 0, _, _, _, _, h => by omega
  | n + 1, l, v, hF, hE, hn => by
    by_cases q8 : ν 1002 l = 8
    · refine ⟨_, (WS_8 q8).mpr rfl, fun s p q => ?_⟩
      have := hd l s hF hE p q
      show v s - _ ≤ v s + dl R ν l s ∧ v s + dl R ν l s ≤ _
      omega
    have n1 := hj.nxt hF hE q8
    have go : ∀ l', F ≤ l' → l' < E → E - l' ≤ n → ∃ u, WS R ν n l' (vad R ν v l) u ∧ ∀ s, 0 ≤ s → s < 10 → v s - 1002 * ((n + 1 : Nat) : Int) ≤ u s ∧ u s ≤ v s + 1002 * ((n + 1 : Nat) : Int) := by
      intro l' a1 a2 a3
      obtain ⟨u, b1, b2⟩ := WS_ex hj hd n l' (vad R ν v l) a1 a2 a3
      refine ⟨u, b1, fun s p q => ?_⟩
      have x := b2 s p q
      have y := hd l s hF hE p q
      have e : vad R ν v l s = v s + dl R ν l s := rfl
      rw [e] at x
      omega
    by_cases q5 : ν 1002 l = 5
    · have x := hj.j5 l hF hE q5
      obtain ⟨u, a1, a2⟩ := go (l + 1) (by omega) (by omega) (by omega)
      exact ⟨u, (WS_5 q5).mpr (Or.inl a1), a2⟩
    by_cases q6 : ν 1002 l = 6
    · have x := hj.j6 l hF hE q6
      obtain ⟨u, a1, a2⟩ := go (ν 1009 l + 1) (by omega) (by omega) (by omega)
      exact ⟨u, (WS_6 q6).mpr a1, a2⟩
    · have k8 := hj.j8 l hF hE
      obtain ⟨u, a1, a2⟩ := go (l + 1) (by omega) (by omega) (by omega)
      exact ⟨u, (WS_o q8 q5 q6).mpr a1, a2⟩
theorem fsm_b {h : Int → Int} {M : Int} (hM : 0 ≤ M ∧ M ≤ 100000) (hh : ∀ s, 0 ≤ s → s < 10 → 0 ≤ h s ∧ h s ≤ M) : ∀ (n : Nat) (a i : Int), 0 ≤ i → i + n ≤ 10 → 0 ≤ a → a + M * n ≤ 1000000 → 0 ≤ fsm h n a i ∧ fsm h n a i ≤ a + M * n
  | 0, a, i, _, _, h0, h1 => by
    show 0 ≤ a ∧ a ≤ a + M * ((0 : Nat) : Int)
    have e : M * ((0 : Nat) : Int) = 0 := Int.mul_zero M
    omega
  | n + 1, a, i, hi, hn, h0, h1 => by
    have hs := hh i hi (by omega)
    have e : M * ((n + 1 : Nat) : Int) = M * n + M := by
      have : ((n + 1 : Nat) : Int) = (n : Int) + 1 := by omega
      rw [this, Int.mul_add, Int.mul_one]
    rw [e] at h1 ⊢
    have hMn : 0 ≤ M * (n : Int) := Int.mul_nonneg hM.1 (by omega)
    have := fsm_b hM hh n (a + h i) (i + 1) (by omega) (by omega) (by omega) (by omega)
    show 0 ≤ fsm h n (w32 (a + h i)) (i + 1) ∧ fsm h n (w32 (a + h i)) (i + 1) ≤ _
    rw [w32_i (x := a + h i) (by omega) (by omega)]
    omega
theorem vF_b {tw : Int} {on u : Int → Int} (h : ∀ s, 0 ≤ s → s < 10 → -60200 ≤ u s ∧ u s ≤ 60200) : vF tw on u ≤ 1000000 := by
  have := fsm_b (h := hvF tw on (fun s => w32 (u s))) (M := 60200) (by omega) (fun s p q => by
    have x := h s p q
    have e : w32 (u s) = u s := w32_i (by omega) (by omega)
    have eX : hvF tw on (fun s => w32 (u s)) s = (if tw = 0 then (if on s = 0 then 0 else (if 0 < w32 (-(w32 (u s))) then w32 (-(w32 (u s))) else 0)) else (if 0 < w32 (u s) then w32 (u s) else 0)) := rfl
    rw [eX, e, w32_i (x := -(u s)) (by omega) (by omega)]
    split <;> (try split) <;> (try split) <;> omega) 10 0 0 (by omega) (by omega) (by omega) (by omega)
  unfold vF
  have := this.2
  omega
theorem MN_u {f : (Int → Int) → Int} {S : (Int → Int) → Prop} {a x y : Int} (h : MN f S a x) (h2 : MN f S a y) : x = y := by
  obtain ⟨a1, a2, a3⟩ := h
  obtain ⟨b1, b2, b3⟩ := h2
  have p : x ≤ y := by
    rcases b3 with z | ⟨u, z, w⟩
    · omega
    · have := a2 u z; omega
  have q : y ≤ x := by
    rcases a3 with z | ⟨u, z, w⟩
    · omega
    · have := b2 u z; omega
  omega
theorem MX_u {f : (Int → Int) → Int} {S : (Int → Int) → Prop} {a x y : Int} (h : MX f S a x) (h2 : MX f S a y) : x = y := by
  obtain ⟨a1, a2, a3⟩ := h
  obtain ⟨b1, b2, b3⟩ := h2
  have p : x ≤ y := by
    rcases a3 with z | ⟨u, z, w⟩
    · omega
    · have := b2 u z; omega
  have q : y ≤ x := by
    rcases b3 with z | ⟨u, z, w⟩
    · omega
    · have := a2 u z; omega
  omega
theorem MN_to {f : (Int → Int) → Int} {S S' : (Int → Int) → Prop} {a a' x : Int} (h : MN f S a x) (h1 : ∀ u, S u → S' u) (h2 : ∀ u, S' u → ∃ u', S u' ∧ f u' = f u) (h3 : ∃ u, S' u ∧ f u ≤ a') (ha : a' < a) : MN f S' a' x := by
  obtain ⟨a1, a2, a3⟩ := h
  have hx : x ≤ a' := by
    obtain ⟨u, p, q⟩ := h3
    obtain ⟨u', r, s⟩ := h2 u p
    have := a2 u' r
    omega
  refine ⟨hx, fun u p => ?_, ?_⟩
  · obtain ⟨u', r, s⟩ := h2 u p
    have := a2 u' r
    omega
  · rcases a3 with z | ⟨u, z, w⟩
    · omega
    · exact Or.inr ⟨u, h1 u z, w⟩
theorem MX_to {f : (Int → Int) → Int} {S S' : (Int → Int) → Prop} {a x : Int} (h : MX f S a x) (h1 : ∀ u, S u → S' u) (h2 : ∀ u, S' u → ∃ u', S u' ∧ f u' = f u) : MX f S' a x := by
  obtain ⟨a1, a2, a3⟩ := h
  refine ⟨a1, fun u p => ?_, a3.imp (fun z => z) (fun ⟨u, z, w⟩ => ⟨u, h1 u z, w⟩)⟩
  obtain ⟨u', r, s⟩ := h2 u p
  have := a2 u' r
  omega
/-- the slips that a line reads, as the class keeps them -/
def RR (b : Int) (μ : am_M) (l : Int) : List Int := nm (tkn (μ (b + 11)) (μ (b + 9) l) (μ (b + 10) l - μ (b + 9) l).toNat)
theorem RR_of {b l : Int} {r : List Int} {μ ν : am_M} (h : RL b l r μ ν) : RR b μ l = r := by
  obtain ⟨C, c1, c2, c3, -⟩ := h.cl
  have e : (μ (b + 10) l - μ (b + 9) l).toNat = C.length := by omega
  unfold RR
  rw [e, ← c3]
  congr 1
  exact fsg_u _ _ _ (tkn_fsg _ _ _) c1 (tkn_len _ _ _)
noncomputable def onF (b F E : Int) (μ ν : am_M) (s : Int) : Int := @ite Int (ON b F E μ ν s) (Classical.propDecidable _) 1 0
theorem onF_0 {b F E s : Int} {μ ν : am_M} : onF b F E μ ν s = 0 ↔ ¬ ON b F E μ ν s := by
  unfold onF
  by_cases c : ON b F E μ ν s
  · rw [if_pos c]
    exact ⟨fun z => by omega, fun z => absurd c z⟩
  · rw [if_neg c]
    exact ⟨fun _ => c, fun _ => rfl⟩
theorem onF_1 {b F E s : Int} {μ ν : am_M} (h : ON b F E μ ν s) : onF b F E μ ν s = 1 := by
  unfold onF
  rw [if_pos h]
/-- all that needs asks of a bill -/
def NB (b F E : Int) (μ ν : am_M) : Prop := (ND b F E (RR b μ) μ ν) ∧ (NJ F E ν) ∧ (∀ l, F ≤ l → l < E → (ν 1002 l = 5 → μ (b + 7) l = ν 1008 l) ∧ (ν 1002 l = 6 → μ (b + 7) l = ν 1009 l)) ∧ (∃ A m dd, (F ≤ A ∧ A ≤ E - 1) ∧ blk (wZ b μ ν) m dd A (E - 1) ∧ ∀ x, F ≤ x → x < E → ¬ (A ≤ x ∧ x < E - 1) → ν 1002 x ≠ 5) ∧ (∀ l, F ≤ l → l < E → 0 ≤ ν 1004 l → ν 1005 l = 1) ∧ (∀ l, F ≤ l → l < E → (ν 1005 l = 1 ↔ μ (b + 5) l = 1)) ∧ (F < E)
theorem NB.nd {b F E : Int} {μ ν : am_M} (h : NB b F E μ ν) : ND b F E (RR b μ) μ ν := h.1
theorem NB.nj {b F E : Int} {μ ν : am_M} (h : NB b F E μ ν) : NJ F E ν := h.2.1
theorem NB.e5 {b F E : Int} {μ ν : am_M} (h : NB b F E μ ν) : ∀ l, F ≤ l → l < E → (ν 1002 l = 5 → μ (b + 7) l = ν 1008 l) ∧ (ν 1002 l = 6 → μ (b + 7) l = ν 1009 l) := h.2.2.1
theorem NB.bk {b F E : Int} {μ ν : am_M} (h : NB b F E μ ν) : ∃ A m dd, (F ≤ A ∧ A ≤ E - 1) ∧ blk (wZ b μ ν) m dd A (E - 1) ∧ ∀ x, F ≤ x → x < E → ¬ (A ≤ x ∧ x < E - 1) → ν 1002 x ≠ 5 := h.2.2.2.1
theorem NB.tw {b F E : Int} {μ ν : am_M} (h : NB b F E μ ν) : ∀ l, F ≤ l → l < E → 0 ≤ ν 1004 l → ν 1005 l = 1 := h.2.2.2.2.1
theorem NB.kp {b F E : Int} {μ ν : am_M} (h : NB b F E μ ν) : ∀ l, F ≤ l → l < E → (ν 1005 l = 1 ↔ μ (b + 5) l = 1) := h.2.2.2.2.2.1
theorem NB.FE {b F E : Int} {μ ν : am_M} (h : NB b F E μ ν) : F < E := h.2.2.2.2.2.2
theorem NB.mk {b F E : Int} {μ ν : am_M} (nd : ND b F E (RR b μ) μ ν) (nj : NJ F E ν) (e5 : ∀ l, F ≤ l → l < E → (ν 1002 l = 5 → μ (b + 7) l = ν 1008 l) ∧ (ν 1002 l = 6 → μ (b + 7) l = ν 1009 l)) (bk : ∃ A m dd, (F ≤ A ∧ A ≤ E - 1) ∧ blk (wZ b μ ν) m dd A (E - 1) ∧ ∀ x, F ≤ x → x < E → ¬ (A ≤ x ∧ x < E - 1) → ν 1002 x ≠ 5) (tw : ∀ l, F ≤ l → l < E → 0 ≤ ν 1004 l → ν 1005 l = 1) (kp : ∀ l, F ≤ l → l < E → (ν 1005 l = 1 ↔ μ (b + 5) l = 1)) (FE : F < E) : NB b F E μ ν := ⟨nd, nj, e5, bk, tw, kp, FE⟩
theorem NB_of {b B W n k : Int} {Wn : Int → Int} {μ ν : am_M} (h : TB b B W n Wn μ ν) (hk : 0 ≤ k ∧ k < B) : NB b (ν 1017 k) (ν 1017 k + ν 1018 k) μ ν := by
  have bi := BI_of h hk
  have hfn := bi.fn
  have htt := bi.tt
  have hW := h.cW
  obtain ⟨⟨nb, bk⟩, gv⟩ := parts_of h hk
  have lr : ∀ l, ν 1017 k ≤ l → l < ν 1017 k + ν 1018 k → (∃ S u, S ≤ 10 ∧ LR b 0 0 W S u l Wn μ ν) ∧ 0 ≤ l ∧ l < 60 := by
    intro l p q
    obtain ⟨f, m, t, S, σ, e, w⟩ := h.bw k hk.1 hk.2
    have e0 : (0 : Int) + k = k := by omega
    have r15 := w.r15
    have r16 := w.r16
    rw [e0] at r15 r16
    exact ⟨h.al l (by omega) (by omega), by omega, by omega⟩
  have tk : ∀ x, ν 1017 k ≤ x → x < ν 1017 k + ν 1019 k → ν 1002 x = 0 := fun x p q => by
    have := (bi.tk (x - ν 1017 k) (by omega) (by omega)).1
    have e1 : ν 1017 k + (x - ν 1017 k) = x := by omega
    rw [e1] at this
    exact this
  have cl : ∀ l, ν 1017 k ≤ l → l < ν 1017 k + ν 1018 k → l < ν 1017 k + ν 1019 k ∨ l = ν 1017 k + ν 1018 k - 1 ∨ (ν 1017 k + ν 1019 k ≤ l ∧ l < ν 1017 k + ν 1018 k - 1) := fun l p q => by omega
  have I := blk_i nb 3 _ _ bk
  have J := blk_j nb 3 _ _ bk
  refine (NB.mk (nd := (ND.mk (kd := KD2_of h hk) (ck := fun l p q => ?_))) (nj := (NJ.mk (j8 := fun l p q => ?_) (j5 := fun l p q z => ?_) (j6 := fun l p q z => ?_))) (e5 := fun l p q => ?_) (bk := ⟨_, nb, 3, ⟨by omega, by omega⟩, bk, fun x p q z => ?_⟩) (tw := fun l p q z => ?_) (kp := fun l p q => ?_) (FE := by omega))
  · obtain ⟨⟨S, u, a0, a⟩, l0⟩ := lr l p q
    obtain ⟨r, hr⟩ := CKC_of a l0 a0 (by omega) h.wv
    rw [RR_of hr.rl]
    exact hr
  · rcases cl l p q with c | c | c
    · have := tk l p c; omega
    · rw [c, gv]; exact ⟨fun _ => rfl, fun _ => rfl⟩
    · have x : 1 ≤ ν 1002 l ∧ ν 1002 l ≤ 7 := (I l c.1 c.2).1
      omega
  · rcases cl l p q with c | c | c
    · have := tk l p c; omega
    · rw [c, gv] at z; omega
    · exact (J l c.1 c.2).1 z
  · rcases cl l p q with c | c | c
    · have := tk l p c; omega
    · rw [c, gv] at z; omega
    · exact (J l c.1 c.2).2 z
  · rcases cl l p q with c | c | c
    · have := tk l p c
      exact ⟨fun y => by omega, fun y => by omega⟩
    · have g : ν 1002 l = 8 := by rw [c]; exact gv
      exact ⟨fun y => by omega, fun y => by omega⟩
    · exact (I l c.1 c.2).2
  · rcases cl x p q with c | c | c
    · have := tk x p c; omega
    · rw [c, gv]; decide
    · exact absurd c z
  · obtain ⟨⟨S, u, a0, a⟩, l0⟩ := lr l p q
    have el : (0 : Int) + l = l := by omega
    have sb := a.sb
    have sk := a.sk
    have on := a.on
    rw [el] at sb sk on
    have := sb.mp z
    rcases on with y | y
    · exact y.1
    · have := sk y.1; omega
  · obtain ⟨⟨S, u, a0, a⟩, l0⟩ := lr l p q
    have el : (0 : Int) + l = l := by omega
    have on := a.on
    rw [el] at on
    omega
/-- what needs answers -/
def NVal (b F E : Int) (μ ν : am_M) (f x : Int) : Prop := (f = 0 → MN (vF 1 (onF b F E μ ν)) (WS (RR b μ) ν 60 F (fun _ => 0)) 1000000 x) ∧ (f = 1 → MX (vF 1 (onF b F E μ ν)) (WS (RR b μ) ν 60 F (fun _ => 0)) 0 x) ∧ (f = 2 → MN (vF 0 (onF b F E μ ν)) (WS (RR b μ) ν 60 F (fun _ => 0)) 1000000 x) ∧ (f = 3 → MX (vF 0 (onF b F E μ ν)) (WS (RR b μ) ν 60 F (fun _ => 0)) 0 x)
theorem NVal_u {b F E f x y : Int} {μ ν : am_M} (hf : 0 ≤ f ∧ f ≤ 3) (h : NVal b F E μ ν f x) (h2 : NVal b F E μ ν f y) : x = y := by
  have : f = 0 ∨ f = 1 ∨ f = 2 ∨ f = 3 := by omega
  rcases this with z | z | z | z
  · exact MN_u (h.1 z) (h2.1 z)
  · exact MX_u (h.2.1 z) (h2.2.1 z)
  · exact MN_u (h.2.2.1 z) (h2.2.2.1 z)
  · exact MX_u (h.2.2.2 z) (h2.2.2.2 z)
theorem dl_b {b F E l s : Int} {R : Int → List Int} {μ ν : am_M} (h : ND b F E R μ ν) (hl : F ≤ l ∧ l < E) : -1002 ≤ dl R ν l s ∧ dl R ν l s ≤ 1002 := by
  obtain ⟨C, d1, d2, d3, -, d5, d6⟩ := (h.ck l hl.1 hl.2).rl.cl
  have hn := nm_len C
  rw [d3] at hn
  have hc := cnt_r s (R l)
  unfold dl
  split <;> split <;> omega
/-- the class walks all ways of a bill -/
theorem walkAll_s {b k F E : Int} {μ ν : am_M} (h : NB b F E μ ν) (h15 : μ (b + 15) k = F) (hk : 0 ≤ k ∧ k < 4) (h16 : μ (b + 16) k = E - F) (hs01 : ∀ x, 0 ≤ x → x < 60 → μ 57 x = 0 ∨ μ 57 x = 1) : ∃ μ1 μ2, Wy_prepare b k μ = some (0, μ1) ∧ Wy_walkAll b k μ1 = some (0, μ2) ∧ (∀ f, 0 ≤ f → f ≤ 3 → NVal b F E μ ν f (μ2 58 f)) ∧ (∀ x, 0 ≤ x → x < 60 → μ2 57 x = 0 ∨ μ2 57 x = 1) ∧ (∀ c i, ¬ (55 ≤ c ∧ c ≤ 58) → ¬ (c = 50 ∧ (i = 8 ∨ i = 9)) → μ2 c i = μ c i) := by
  have hFU := am_FU_ge
  have hb := h.nd.kd.bo
  have hb' : b = 100 ∨ b = 200 := hb
  have F0 := h.nd.kd.F0
  have FE := h.FE
  obtain ⟨A, m, dd, hA, bk, hnk⟩ := h.bk
  generalize hμ0 : m_st μ 50 9 0 = μ0
  have f0 : ∀ c i, ¬ (c = 50 ∧ i = 9) → μ0 c i = μ c i := fun c i p => by rw [← hμ0, m_st_d, if_neg p]
  have z9 : μ0 50 9 = 0 := by rw [← hμ0, m_st_d, if_pos ⟨rfl, rfl⟩]
  obtain ⟨μ1, p1, p2, p3, p4, p5, p6, p7, p8⟩ := prep_L (R := RR b μ) h.nd h.nj h.e5 hA bk hnk (E - F).toNat am_FU E μ0 (by omega) (Int.le_refl _) (by omega) (PRP.mk (hw := fun c i p q => f0 c i (by omega)) (s9 := by rw [z9]; exact S10_0) (on := fun s _ _ => by rw [z9, tb_0]; exact ⟨fun z => (by cases z), fun ⟨x, x0, x1, _⟩ => by omega⟩) (al := fun x _ _ _ => by omega) (no := fun x _ => f0 _ _ (by omega)))
  have eP : Wy_prepare b k μ = some (0, μ1) := by
    have bh : Bi_lineBehind b k μ0 = some (E, μ0) := by
      unfold Bi_lineBehind
      have e : F + (E - F) = E := by omega
      rw [q_gd_s (bO0 hb), bat15 hb, if_pos hk, q_bd_s, bat16 hb, if_pos hk, q_bd_s, f0 _ _ (by omega), f0 _ _ (by omega), h15, h16, e, w32_i (x := E) (by omega) (by omega)]
    unfold Wy_prepare
    rw [q_gd_s (bO0 hb), q_pf_d, hμ0, bat15 hb, if_pos hk, q_bd_s, f0 _ _ (by omega), h15, bh, q_bd_s, w32_i (x := E - 1) (by omega) (by omega), p1]
  -- over the ready class
  have hw1 : WCF μ1 μ1 := fun _ _ _ _ => rfl
  have told : ∀ c, b ≤ c → c ≤ b + 22 → μ1 c = μ c := fun c p q => funext fun i => p2.hw c i (by omega) (by omega)
  have nd1 : ND b F E (RR b μ) μ1 ν := (ND.mk (kd := (KD2.mk (bo := hb) (F0 := F0) (kd := fun l p q => by rw [told _ (by omega) (by omega)]; exact h.nd.kd.kd l p q))) (ck := fun l p q => (h.nd.ck l p q).cg (fun c r s _ => told c (by omega) (by omega)) (fun _ _ _ => rfl)))
  have st01 : ∀ x, F ≤ x → x < E → μ1 57 x = 0 ∨ μ1 57 x = 1 := by
    intro x p q
    by_cases c : ν 1002 x = 5
    · rcases p2.al x p q c with z | z
      · exact Or.inl z
      · exact Or.inr z.1
    · rw [p2.no x (fun z => c z.2.2)]
      exact hs01 x (by omega) (by omega)
  have hcs := CS_le h.nj 60 F (Int.le_refl _) FE
  have hic : ic ν (E - F).toNat F ≤ 19 := by
    have i1 := ic_blk m dd _ _ bk
    have es : (E - F).toNat = (A - F).toNat + ((E - 1 - A).toNat + 1) := by omega
    have q1 : F + (((A - F).toNat : Nat) : Int) = A := by omega
    have q2 : A + (((E - 1 - A).toNat : Nat) : Int) = E - 1 := by omega
    have n1 := ic_no (ν := ν) (A - F).toNat F (fun x p q => hnk x p (by omega) (by omega))
    have n2 := ic_no (ν := ν) 1 (E - 1) (fun x p q => hnk x (by omega) (by omega) (by omega))
    rw [es, ic_add, q1, ic_add, q2, n1, n2]
    omega
  have hcs2 : CS ν 60 F ≤ 60 * 2 ^ 19 := by
    have x1 : 2 ^ ic ν (E - F).toNat F ≤ 2 ^ 19 := Nat.pow_le_pow_right (by decide) hic
    have x2 : (E - F).toNat ≤ 60 := by omega
    exact Nat.le_trans hcs (Nat.mul_le_mul x2 x1)
  have hcs3 : (60 : Nat) * 2 ^ 19 = 31457280 := by decide
  rw [hcs3] at hcs2
  obtain ⟨μ2, g, fu2, k2, a1, a2, a3, a4, a5, a6, a7, a8, a9, a10, a11⟩ := exp_L (R := RR b μ) (st := μ1 57) (on := onF b F E μ ν) nd1 h.nj st01 (fun l p q => by rw [told _ (by omega) (by omega)]; exact h.e5 l p q) (fun s p q => by
    rw [bit_0 p (by omega), onF_0]
    have x := p2.on s p q
    constructor
    · intro z y
      rw [x.mpr y] at z
      cases z
    · intro z
      cases t : tb (μ1 50 9) s with
      | false => rfl
      | true => exact absurd (x.mp t) z) 60 am_FU F 0 0 (fun _ => 0) μ1 (Int.le_refl _) FE (by omega) (by omega) (by omega) (by omega) (by omega) (by omega) hw1 p4 p3 (fun x _ _ => rfl)
  have eW : Wy_walkAll b k μ1 = some (0, μ2) := by
    match g, a2 with
    | 0, a2 => omega
    | g + 1, a2 =>
    have tbk : Wy_turnBack_L0 (g + 1) (b + 1) μ2 = some (-1, μ2) := by
      show Wy_turnBack_L0_b (Wy_turnBack_L0 g) (b + 1) μ2 = _
      unfold Wy_turnBack_L0_b
      rw [if_pos (by omega)]
    unfold Wy_walkAll
    rw [q_gd_s (bO0 hb), bat15 hb, if_pos hk, q_bd_s, told (b + 15) (by omega) (by omega), h15, a1, tbk, q_bd_s]
    unfold Wy_walkAll_B121
    rw [w32_i (x := k2 + 1) (by omega) (by omega)]
    match fu2, a3 with
    | 0, a3 => omega
    | fu2 + 1, a3 =>
    show Wy_walkAll_L18_b (Wy_walkAll_L18 fu2) (b + 1) (-1) (k2 + 1) μ2 = _
    unfold Wy_walkAll_L18_b
    rw [if_pos rfl]
    split <;> rfl
  refine ⟨μ1, μ2, eP, eW, ?_, fun x p q => ?_, fun c i p q => ?_⟩
  · obtain ⟨d0, d1, d2, d3⟩ := a11
    rw [p5] at d0
    rw [p6] at d1
    rw [p7] at d2
    rw [p8] at d3
    have up : ∀ u, VS (RR b μ) ν (μ1 57) 60 F (fun _ => 0) u → WS (RR b μ) ν 60 F (fun _ => 0) u := VS_WS 60 F (fun _ => 0)
    have dn : ∀ tw u, WS (RR b μ) ν 60 F (fun _ => 0) u → ∃ u', VS (RR b μ) ν (μ1 57) 60 F (fun _ => 0) u' ∧ vF tw (onF b F E μ ν) u' = vF tw (onF b F E μ ν) u := fun tw u hu => by
      obtain ⟨u', y1, y2⟩ := WS_VS (st := μ1 57) h.nj (fun x p q z => (p2.al x p q z).imp (fun w => w) (fun w => w.2)) 60 F (fun _ => 0) u (Int.le_refl _) FE (by omega) hu
      exact ⟨u', y2, vF_c y1 (fun _ _ _ => Iff.rfl)⟩
    have ex : ∀ tw, ∃ u, WS (RR b μ) ν 60 F (fun _ => 0) u ∧ vF tw (onF b F E μ ν) u ≤ 1000000 := fun tw => by
      obtain ⟨u, y1, y2⟩ := WS_ex (R := RR b μ) h.nj (fun l s p q _ _ => dl_b h.nd ⟨p, q⟩) 60 F (fun _ => 0) (Int.le_refl _) FE (by omega)
      exact ⟨u, y1, vF_b (fun s p q => by
        have := y2 s p q
        omega)⟩
    intro f p q
    refine ⟨fun z => ?_, fun z => ?_, fun z => ?_, fun z => ?_⟩
    · rw [z]; exact MN_to d0 up (dn 1) (ex 1) (by decide)
    · rw [z]; exact MX_to d1 up (dn 1)
    · rw [z]; exact MN_to d2 up (dn 0) (ex 0) (by decide)
    · rw [z]; exact MX_to d3 up (dn 0)
  · rw [a8]
    by_cases c : F ≤ x ∧ x < E ∧ ν 1002 x = 5
    · exact st01 x c.1 c.2.1
    · rw [p2.no x c]; exact hs01 x p q
  · rw [a10 c i p (by omega)]
    exact p2.hw c i p q
