/-! Links of calls, worlds at a call, ranges along a run. -/
def am_B (dC : Nat → ClassId) (dI : Nat → Nat → Nat) (ad : Int → Nat) (cT : Nat → ClassId) (A : Nat → Prop) (μ : am_M) (t : State) : Prop := va_P (dC, dI) g_cl (am_wd ad cT μ) t.heap ∧ va_K (dC, dI) g_cl (am_tys cT) t ∧ va_D A (am_wd ad cT μ)
def am_Pc (dC : Nat → ClassId) (dI : Nat → Nat → Nat) (ad : Int → Nat) (cT : Nat → ClassId) (sb : Nat) (as : am_S) (sz : Nat) (μ : am_M) : Array Value → State → Prop := va_Pc (as.map (am_cv ad sb)) (fun U => U.heap.size = sz ∧ am_B dC dI ad cT (fun _ => True) μ U ∧ ∀ w ∈ am_nest, va_Nw w U)
def am_Qc (dC : Nat → ClassId) (dI : Nat → Nat → Nat) (ad : Int → Nat) (cT : Nat → ClassId) (sb : Nat) (A : Nat → Prop) (res : am_R) : Array Value → State → Outcome → State → Prop := fun _ st oc t => (oc = .returned (res.1.map (am_cv ad sb)) ∧ am_B dC dI ad cT A res.2 t) ∧ va_F A st t
def am_mlw (mt : Nat → Option am_I) (own : String) (q : Nat × Nat × Nat × Nat) : Prop := match q.2.2.1 with
  | 0 => ∃ I, mt q.2.1 = some I ∧ I.2.2.2.2.2.2 = false ∧ (∃ r, g_cl[q.2.2.2]? = some r ∧ r.1 = I.1.cls) ∧ Cond.methodLink own q.1 I.1 ∈ am_tG ∧ Cond.instanceMethod I.1 ∈ am_tG ∧ Cond.selects I.1.cls I.1 I.1 ∈ am_tG
  | 1 => ∃ I, mt q.2.1 = some I ∧ I.2.2.2.2.2.2 = false ∧ (∃ r, g_cl[q.2.2.2]? = some r ∧ r.1 = I.1.cls) ∧ Cond.methodLinkNest own q.1 I.1 "BurningSlips" ∈ am_nest ∧ Cond.instanceMethod I.1 ∈ am_tG ∧ Cond.selects I.1.cls I.1 I.1 ∈ am_tG
  | 2 => ∃ I, mt q.2.1 = some I ∧ I.2.2.2.2.2.2 = true ∧ Cond.methodLink own q.1 I.1 ∈ am_tG ∧ Cond.static I.1 ∈ am_tG
  | 3 => ∃ I, mt q.2.1 = some I ∧ I.2.2.2.2.2.2 = true ∧ Cond.methodLinkNest own q.1 I.1 "BurningSlips" ∈ am_nest ∧ Cond.static I.1 ∈ am_tG
  | 5 => (q.2.1 = 0 ∧ Cond.methodLink own q.1 Lib.Math.max.name ∈ am_tG ∧ Cond.static Lib.Math.max.name ∈ am_tG ∧ Cond.initialized "java/lang/Math" ∈ am_tG ∧ Cond.code Lib.Math.max.name Lib.Math.max.code 2 (some .int) ∈ am_tG) ∨ (q.2.1 = 1 ∧ Cond.methodLink own q.1 Lib.Math.min.name ∈ am_tG ∧ Cond.static Lib.Math.min.name ∈ am_tG ∧ Cond.initialized "java/lang/Math" ∈ am_tG ∧ Cond.code Lib.Math.min.name Lib.Math.min.code 2 (some .int) ∈ am_tG) ∨ (q.2.1 = 2 ∧ Cond.methodLink own q.1 Lib.MathLoose.min_long.x ∈ am_tG ∧ Cond.static Lib.MathLoose.min_long.x ∈ am_tG ∧ Cond.initialized "java/lang/Math" ∈ am_tG ∧ Cond.code Lib.MathLoose.min_long.x Lib.MathLoose.min_long.code 4 (some .long) ∈ am_tG)
  | 6 => Cond.methodLink own q.1 arraycopyName ∈ am_tG ∧ Cond.native arraycopyName ∈ am_tG ∧ Cond.static arraycopyName ∈ am_tG ∧ Cond.initialized "java/lang/System" ∈ am_tG
  | _ => False
/-- a method by itself: what the caller may rely on -/
def am_mw (I : am_I) : Prop := plainName I.1.cls = true ∧ I.1.cls ≠ "java/lang/invoke/MethodHandle" ∧ I.1.cls ≠ "java/lang/invoke/VarHandle" ∧ (parseMethodDescriptor I.1.desc).map (fun d => d.parameters.length) = some (I.2.2.2.2.2.1 - (bif I.2.2.2.2.2.2 then 0 else 1)) ∧ (I.2.2.2.2.2.2 = false → 0 < I.2.2.2.2.2.1) ∧ Cond.code I.1 I.2.1 I.2.2.1 I.2.2.2.1 ∈ am_tG ∧ Cond.initialized I.1.cls ∈ am_tG ∧ I.2.2.1 ≤ 15
/-- .. and its code -/
def am_mc (mt : Nat → Option am_I) (I : am_I) : Prop := ∃ (fl : am_FL) (ml : am_ML) (kl kL : am_KL), (∀ q ∈ fl, am_flw I.1.cls q) ∧ (∀ q ∈ kl, Cond.constant I.1.cls q.1 (Int32.ofInt q.2) ∈ am_tG) ∧ (∀ q ∈ kL, Cond.constantLong I.1.cls q.1 (Int64.ofInt q.2) ∈ am_tG) ∧ (∀ q ∈ ml, am_mlw mt I.1.cls q) ∧ ∀ e ∈ I.2.2.2.2.1, am_okE fl ml kl kL I.2.1 e = true
theorem am_G_st {μ : am_M} (hG : am_G μ) {a i v : Int} (h : ∀ k, am_shp a = some k → (k.1 = 0 → r32 v) ∧ (k.1 = 1 → r64 v) ∧ (k.1 = 2 → (v = 0 ∨ v = 1)) ∧ (∀ ci, k.1 = 10 + ci → ∀ (j : Nat) (f : Nat × Int), am_fld ci j = some f → (j : Int) = i → (f.1 = 0 → r32 v) ∧ (f.1 = 1 → r64 v) ∧ (f.1 = 2 → (v = 0 ∨ v = 1)))) : am_G (m_st μ a i v) := by
  intro c k hc
  by_cases e : c = a
  · subst e
    obtain ⟨h1, h2, h3, h4⟩ := h k hc
    obtain ⟨g1, g2, g3, g4⟩ := hG c k hc
    have key : ∀ j : Int, (j = i ∧ m_st μ c i v c j = v) ∨ (j ≠ i ∧ m_st μ c i v c j = μ c j) := fun j => by
      by_cases q : j = i
      · exact Or.inl ⟨q, by rw [q]; exact m_st_eq⟩
      · exact Or.inr ⟨q, m_st_ni q⟩
    refine ⟨fun z j hj hj2 => ?_, fun z j hj hj2 => ?_, fun z j hj hj2 => ?_, fun ci z j f hf => ?_⟩
    · rcases key j with ⟨-, q⟩ | ⟨-, q⟩ <;> rw [q]
      · exact h1 z
      · exact g1 z j hj hj2
    · rcases key j with ⟨-, q⟩ | ⟨-, q⟩ <;> rw [q]
      · exact h2 z
      · exact g2 z j hj hj2
    · rcases key j with ⟨-, q⟩ | ⟨-, q⟩ <;> rw [q]
      · exact h3 z
      · exact g3 z j hj hj2
    · rcases key (j : Int) with ⟨q0, q⟩ | ⟨-, q⟩ <;> rw [q]
      · exact h4 ci z j f hf q0
      · exact g4 ci z j f hf
  · rw [m_st_ne e]
    exact hG c k hc
theorem am_G_cpy {μ : am_M} (hG : am_G μ) {c0 sp c1 dp n : Int} {n0 n1 : Nat} (h0 : am_shp c0 = some (0, n0)) (h1 : am_shp c1 = some (0, n1)) (a0 : 0 ≤ sp) (a1 : sp + n ≤ (n0 : Int)) : am_G (am_cpy μ c0 sp c1 dp n) := by
  intro c k hc
  by_cases e : c = c1
  · subst e
    have : k = (0, n1) := Option.some.inj (hc.symm.trans h1)
    subst this
    refine ⟨fun z j hj hj2 => ?_, fun z => (by cases z), fun z => (by cases z), fun ci z => by simp only at z; omega⟩
    unfold am_cpy
    by_cases q : c = c ∧ dp ≤ j ∧ j < dp + n
    · rw [if_pos q]
      exact (hG c0 _ h0).1 rfl _ (by omega) (by simp only; omega)
    · rw [if_neg q]
      exact (hG c _ hc).1 rfl j hj hj2
  · have : am_cpy μ c0 sp c1 dp n c = μ c := by
      funext j
      unfold am_cpy
      rw [if_neg (fun z => e z.1)]
    rw [this]
    exact hG c k hc
theorem am_in_app {a b : am_S} (h : ∀ v ∈ a ++ b, am_in v) : (∀ v ∈ a, am_in v) ∧ ∀ v ∈ b, am_in v := ⟨fun v hv => h v (List.mem_append_left _ hv), fun v hv => h v (List.mem_append_right _ hv)⟩
/-- ranges along a run -/
def am_CRin (CR : am_CR) : Prop := ∀ j as μ res, CR j as μ res → (∀ v ∈ as, am_in v) → am_G μ → am_G res.2 ∧ ∀ v, res.1 = some v → am_in v
theorem am_run_in {X : am_X} {CR : am_CR} {nL : Nat} {rt : Option FieldType} {C : List am_E} {pc : Nat} {ls : am_L} {st : am_S} {μ : am_M} {res : am_R} {fl : am_FL} {ml : am_ML} {kl kL : am_KL} {cc : ByteArray} (hC : ∀ e ∈ C, am_okE fl ml kl kL cc e = true) (hXl : ∀ L xs, X = some (L, xs) → L < 2147483648) (hCR : am_CRin CR) (h : am_run X CR nL rt C pc ls st μ res) (hls : ∀ q ∈ ls, am_in q.2) (hst : ∀ v ∈ st, am_in v) (hG : am_G μ) : am_G res.2 ∧ ∀ v, res.1 = some v → am_in v := by
  have okI : ∀ {e : am_E} {pc : Nat}, am_at C pc = some e → am_okI fl ml kl kL e = true := fun he => by
    have h1 := hC _ (am_at_pc he).1
    unfold am_okE at h1
    rw [Bool.and_eq_true, Bool.and_eq_true] at h1
    exact h1.2.2
  have hd : ∀ {v : am_V} {r : am_S}, (∀ w ∈ v :: r, am_in w) → am_in v ∧ ∀ w ∈ r, am_in w := fun h => ⟨h _ List.mem_cons_self, fun w hw => h w (List.mem_cons_of_mem _ hw)⟩
  have cs : ∀ {v : am_V} {r : am_S}, am_in v → (∀ w ∈ r, am_in w) → ∀ w ∈ v :: r, am_in w := fun h1 h2 w hw => (List.mem_cons.mp hw).elim (fun z => z ▸ h1) (h2 w)
  have bit : ∀ {v : Int}, (v = 0 ∨ v = 1) → r32 v := fun h => by unfold r32; omega
  refine h (fun pc ls st μ => (∀ q ∈ ls, am_in q.2) → (∀ v ∈ st, am_in v) → am_G μ → am_G res.2 ∧ ∀ v, res.1 = some v → am_in v) ?_ hls hst hG
  refine ⟨?_, ?_, ?_, ?_, ?_, ?_, ?_, ?_, ?_, ?_, ?_, ?_, ?_, ?_, ?_, ?_, ?_, ?_, ?_, ?_, ?_, ?_, ?_, ?_, ?_⟩
  · intro e pc ls st μ ls' st' he hs k hls hst hG
    obtain ⟨h1, h2⟩ := am_sl_in (okI he) hXl hG hls hst hs
    exact k h1 h2 hG
  · intro e pc ls r μ c i n he hi hs h0 h1 k hls hst hG
    exact k hls (cs (am_in0 ((hG _ _ hs).1 rfl i h0 h1)) (hd (hd hst).2).2) hG
  · intro e pc ls r μ c i n he hi hs h0 h1 k hls hst hG
    exact k hls (cs (am_in1 ((hG _ _ hs).2.1 rfl i h0 h1)) (hd (hd hst).2).2) hG
  · intro e pc ls r μ c i n he hi hs h0 h1 k hls hst hG
    exact k hls (cs (am_in0 (bit ((hG _ _ hs).2.2.1 rfl i h0 h1))) (hd (hd hst).2).2) hG
  · intro e pc ls r μ c i n he hi hs h0 h1 k hls hst hG
    exact k hls (cs (am_in2 (by omega)) (hd (hd hst).2).2) hG
  · intro e pc ls r μ w i L xs he hi hX h0 h1 k hls hst hG
    exact k hls (cs (am_in0 (r32_i _)) (hd (hd hst).2).2) hG
  · intro e pc ls r μ c i n v he hi hs h0 h1 k hls hst hG
    refine k hls (hd (hd (hd hst).2).2).2 (am_G_st hG (fun q hq => ?_))
    have : q = (0, n) := Option.some.inj (hq.symm.trans hs)
    subst this
    exact ⟨fun _ => (hd hst).1.1 rfl, fun z => (by cases z), fun z => (by cases z), fun ci z => by simp only at z; omega⟩
  · intro e pc ls r μ c i n v he hi hs h0 h1 k hls hst hG
    refine k hls (hd (hd (hd hst).2).2).2 (am_G_st hG (fun q hq => ?_))
    have : q = (1, n) := Option.some.inj (hq.symm.trans hs)
    subst this
    exact ⟨fun z => (by cases z), fun _ => (hd hst).1.2 rfl, fun z => (by cases z), fun ci z => by simp only at z; omega⟩
  · intro e pc ls r μ c i n v he hi hs h0 h1 hv k hls hst hG
    refine k hls (hd (hd (hd hst).2).2).2 (am_G_st hG (fun q hq => ?_))
    have : q = (2, n) := Option.some.inj (hq.symm.trans hs)
    subst this
    exact ⟨fun z => (by cases z), fun z => (by cases z), fun _ => hv, fun ci z => by simp only at z; omega⟩
  · intro e kk pc ls r μ c v f he hi ho hf hv k hls hst hG
    obtain ⟨n, hn⟩ := am_isO_inv ho
    refine k hls (hd (hd hst).2).2 (am_G_st hG (fun q hq => ?_))
    have : q = (10 + e.2.2.2.1, n) := Option.some.inj (hq.symm.trans hn)
    subst this
    refine ⟨fun z => by simp only at z; omega, fun z => by simp only at z; omega, fun z => by simp only at z; omega, fun ci z j g hg hj => ?_⟩
    have hci : ci = e.2.2.2.1 := by simp only at z; omega
    have hjj : j = e.2.2.2.2.1 := by omega
    subst hci; subst hjj
    have : g = f := Option.some.inj (hg.symm.trans hf)
    subst this
    rcases hv with ⟨q1, q2⟩ | ⟨q1, q2⟩ | ⟨q1, q2, q3⟩ | ⟨q1, q2⟩ <;> rw [q1]
    · exact ⟨fun _ => (hd hst).1.1 q2, fun z => (by cases z), fun z => by cases z⟩
    · exact ⟨fun z => (by cases z), fun _ => (hd hst).1.2 q2, fun z => by cases z⟩
    · exact ⟨fun z => (by cases z), fun z => (by cases z), fun _ => q3⟩
    · exact ⟨fun z => (by cases z), fun z => (by cases z), fun z => by cases z⟩
  · intro e pc ls r μ cd o x he hi kt kf hls hst hG
    by_cases q : am_cnd cd x 0
    · exact kt q hls (hd hst).2 hG
    · exact kf q hls (hd hst).2 hG
  · intro e pc ls r μ cd o x y he hi kt kf hls hst hG
    by_cases q : am_cnd cd x y
    · exact kt q hls (hd (hd hst).2).2 hG
    · exact kf q hls (hd (hd hst).2).2 hG
  · intro e pc ls r μ o he hi k hls hst hG
    exact k hls hst hG
  · intro e pc ls r μ o x he hi kt kf hls hst hG
    by_cases q : x < 0
    · exact kt q hls (hd hst).2 hG
    · exact kf q hls (hd hst).2 hG
  · intro e pc ls r μ d lo hi os x he hi k hls hst hG
    exact k hls (hd hst).2 hG
  · intro e pc ls r μ d ps x he hi k hls hst hG
    exact k hls (hd hst).2 hG
  · intro e b pc ls st r μ as rv μ' he hi hb hr hc hst0 hcat k hls hst hG
    subst hst0
    obtain ⟨i1, i2⟩ := am_in_app hst
    obtain ⟨g1, g2⟩ := hCR _ _ _ _ hc (fun v hv => i1 v (List.mem_reverse.mpr hv)) hG
    refine k hls ?_ g1
    cases rv with
    | none => exact i2
    | some v => exact cs (g2 v rfl) i2
  · intro e pc ls r μ x y he hi ha hcat k hls hst hG
    refine k hls (cs (am_in0 ?_) (hd (hd hst).2).2) hG
    split
    · exact (hd hst).1.1 rfl
    · exact (hd (hd hst).2).1.1 rfl
  · intro e pc ls r μ x y he hi ha hcat k hls hst hG
    refine k hls (cs (am_in0 ?_) (hd (hd hst).2).2) hG
    split
    · exact (hd hst).1.1 rfl
    · exact (hd (hd hst).2).1.1 rfl
  · intro e pc ls r μ x y he hi ha hcat k hls hst hG
    refine k hls (cs (am_in1 ?_) (hd (hd hst).2).2) hG
    split
    · exact (hd hst).1.2 rfl
    · exact (hd (hd hst).2).1.2 rfl
  · intro e pc ls r μ n dp c1 sp c0 n0 n1 he hi h0 h1 a0 a1 a2 a3 a4 hcat k hls hst hG
    exact k hls (hd (hd (hd (hd (hd hst).2).2).2).2).2 (am_G_cpy hG h0 h1 a0 a3)
  · intro e pc ls μ v he hi hr hres hls hst hG
    rw [hres]
    exact ⟨hG, fun w hw => by cases hw; exact (hd hst).1⟩
  · intro e pc ls μ v he hi hr hres hls hst hG
    rw [hres]
    exact ⟨hG, fun w hw => by cases hw; exact (hd hst).1⟩
  · intro e pc ls μ he hi hr hres hls hst hG
    rw [hres]
    exact ⟨hG, fun w hw => by cases hw⟩
  · intro pc ls ls' st μ hsub k hls hst hG
    exact k (fun q hq => hls q (hsub q hq)) hst hG
