/-! The machine, both sides: call and give. -/
/-- the class's arguments are copied -/
theorem args_c {b c B k kc l d : Int} {r : List Int} {μ0 ν : am_M} (hb : bOk b) (hc : mOk c) (hl : 0 ≤ l ∧ l < 60) (hd : 1 ≤ d ∧ d ≤ 15) (cs : μ0 (b + 9) l + (r.length : Nat) ≤ 1000 ∧ 0 ≤ μ0 (b + 9) l ∧ ∀ i : Nat, i < r.length → ∃ s, r[i]? = some s ∧ μ0 (b + 11) (μ0 (b + 9) l + i) = 2 + s * 128) (sl : ∀ s ∈ r, 0 ≤ s ∧ s < 10) (h4 : r.length ≤ 4) : ∀ (n fu i : Nat) (μ : am_M), i + n = r.length → n < fu → (∀ y, b ≤ y → y ≤ b + 22 → μ y = μ0 y) → ∃ μ', Mc_workCall_L40 fu c b l (b + 1) kc (10 * (d - 1)) (r.length : Nat) (i : Int) μ = (q_gd 3 c <| q_bd (Mc_enter c b kc μ') fun _ μ3 => some (0, μ3)) ∧ (∀ j : Nat, i ≤ j → ∀ s, r[j]? = some s → μ' (c + 3) (10 * d + j) = μ (c + 3) (10 * (d - 1) + s)) ∧ (∀ y x, ¬ (y = c + 3 ∧ 10 * d + i ≤ x ∧ x < 10 * d + 10) → μ' y x = μ y x)
  | n, 0, _, _, _, h, _ => by omega
  | 0, fu + 1, i, μ, hi, _, _ => by
    refine ⟨μ, ?_, fun j p s q => ?_, fun _ _ _ => rfl⟩
    · show Mc_workCall_L40_b (Mc_workCall_L40 fu) c b l (b + 1) kc (10 * (d - 1)) (r.length : Nat) (i : Int) μ = _
      unfold Mc_workCall_L40_b
      rw [if_neg (by omega)]
    · have := (List.getElem?_eq_some_iff.mp q).1
      omega
  | n + 1, fu + 1, i, μ, hi, hf, hμ => by
    have hr := hc.r
    have hb' : b = 100 ∨ b = 200 := hb
    obtain ⟨s, s1, s2⟩ := cs.2.2 i (by omega)
    have s0 := sl s (List.mem_of_getElem? s1)
    have e8 : b + 1 + 8 = b + 9 := by omega
    have c9 := hμ (b + 9) (by omega) (by omega)
    have c11 := hμ (b + 11) (by omega) (by omega)
    have ep : 10 * (d - 1) + 10 = 10 * d := by omega
    obtain ⟨μ', a1, a2, a3⟩ := args_c (B := B) (k := k) (kc := kc) (ν := ν) hb hc hl hd cs sl h4 n fu (i + 1) (m_st μ (c + 3) (10 * d + i) (μ (c + 3) (10 * (d - 1) + s))) (by omega) (by omega) (fun y p q => by rw [← hμ y p q]; exact funext fun x => m_st_c (by omega))
    have ei : (((i + 1 : Nat)) : Int) = (i : Int) + 1 := by omega
    refine ⟨μ', ?_, fun j p s' q => ?_, fun y x p => by rw [a3 y x (by omega), m_st_d, if_neg (by omega)]⟩
    · rw [← a1, ei]
      have hk := codeK_s (p := μ0 (b + 9) l + i) (c := 2 + s * 128) (μ := μ) hb (by rw [c11]; exact s2) (by unfold cOk; omega) (by omega) (by omega)
      have e3 : (2 + s * 128) / 128 = s := by omega
      show Mc_workCall_L40_b (Mc_workCall_L40 fu) c b l (b + 1) kc (10 * (d - 1)) (r.length : Nat) (i : Int) μ = _
      unfold Mc_workCall_L40_b
      rw [if_pos (by omega), q_gd_s (bO2 hb), e8, bat9 hb, if_pos hl, q_bd_s, c9, w32_i (x := μ0 (b + 9) l + i) (by omega) (by omega), hk.2, q_bd_s, e3, q_gd_s (mO3 hc), w32_i (x := 10 * (d - 1) + s) (by omega) (by omega), mat3 hc, if_pos (show 0 ≤ 10 * (d - 1) + s ∧ 10 * (d - 1) + s < 160 by omega), q_bd_s, ep, w32_i (x := 10 * d) (by omega) (by omega), w32_i (x := 10 * d + i) (by omega) (by omega), mput3 hc, if_pos (show 0 ≤ 10 * d + (i : Int) ∧ 10 * d + (i : Int) < 160 by omega), q_bd_s, w32_i (x := (i : Int) + 1) (by omega) (by omega)]
    · by_cases z : j = i
      · subst z
        rw [s1] at q
        injection q with q
        subst q
        rw [a3 _ _ (by omega), m_st_d, if_pos ⟨rfl, rfl⟩]
      · have s0' := sl s' (List.mem_of_getElem? q)
        rw [a2 j (by omega) s' q, m_st_i (by omega)]
/-- the reference's arguments are burnt and carried -/
theorem args_r {f l kc : Int} (hf : 0 ≤ f ∧ f < 16) (hl : 0 ≤ l ∧ l < 60) (hkc : 0 ≤ kc ∧ kc < 4) : ∀ (rs : List Int) (fu : Nat) (i : Int) (ν : am_M), ν 1006 l = kc → ν 1019 kc = i + (rs.length : Nat) → 0 ≤ i → ν 1019 kc ≤ 4 → (∀ j : Nat, j < rs.length → rs[j]? = some (ν 1007 (4 * l + (i + j)))) → (∀ s ∈ rs, 0 ≤ s ∧ s < 10) → rs.length < fu → S10 (ν 1045 f) → r32 (ν 1000 64) → ∃ ν', M_calls_L2 fu f l i ν = (q_bd (M_opensBill kc ν') fun _ μ5 => some (0, μ5)) ∧ S10 (ν' 1045 f) ∧ (∀ t, 0 ≤ t → t < 10 → (tb (ν' 1045 f) t = true ↔ tb (ν 1045 f) t = true ∧ t ∉ rs)) ∧ ν' 1000 64 = w32 (ν 1000 64 + (rs.length : Nat)) ∧ (∀ j : Nat, ∀ s, rs[j]? = some s → ν' 1047 (i + j) = ν 1046 (10 * f + s)) ∧ (∀ c x, ¬ (c = 1045 ∧ x = f) → ¬ (c = 1000 ∧ x = 64) → ¬ (c = 1047 ∧ i ≤ x) → ν' c x = ν c x)
  | _, 0, _, _, _, _, _, _, _, _, h, _, _ => by omega
  | [], fu + 1, i, ν, h6, h19, h0, h4, _, _, _, hs, ha => by
    have e0 : ((([] : List Int).length : Nat) : Int) = 0 := rfl
    refine ⟨ν, ?_, hs, fun t _ _ => by simp, ?_, fun j s q => (by cases q), fun _ _ _ _ _ => rfl⟩
    · show M_calls_L2_b (M_calls_L2 fu) f l i ν = _
      unfold M_calls_L2_b
      rw [q_ld_s (by omega) (by omega), h6, q_ld_s (by omega) (by omega), if_neg (by omega), q_ld_s (by omega) (by omega), h6]
    · have e1 : ν 1000 64 + 0 = ν 1000 64 := by omega
      rw [e0, e1, w32_id ha]
  | s :: rs, fu + 1, i, ν, h6, h19, h0, h4, hj, hr, hfu, hs, ha => by
    rw [List.length_cons] at h19 hfu
    have s0 := hr s List.mem_cons_self
    have sj := hj 0 (by rw [List.length_cons]; omega)
    have e0 : 4 * l + (i + ((0 : Nat) : Int)) = 4 * l + i := by show 4 * l + (i + 0) = _; omega
    rw [List.getElem?_cons_zero, e0] at sj
    injection sj with sj
    obtain ⟨ν1, a1, a2, a3, a4⟩ := burnsIn_s (f := f) (s := s) (ν := ν) hf s0
    generalize hν2 : m_st ν1 1047 i (ν 1046 (10 * f + s)) = ν2
    have f2 : ∀ c x, ¬ (c = 1045 ∧ x = f) → ¬ (c = 1000 ∧ x = 64) → ¬ (c = 1047 ∧ x = i) → ν2 c x = ν c x := fun c x p q w => by rw [← hν2, m_st_d, if_neg w, a4 c x p q]
    have t2 : ν2 1045 f = clr (ν 1045 f) s := by rw [← hν2, m_st_c (by decide)]; exact a2
    have t3 : ν2 1000 64 = w32 (ν 1000 64 + 1) := by rw [← hν2, m_st_c (by decide)]; exact a3
    have e19 : ν2 1019 kc = ν 1019 kc := f2 _ _ (by omega) (by omega) (by omega)
    obtain ⟨ν', b1, b2, b3, b4, b5, b6⟩ := args_r hf hl hkc rs fu (i + 1) ν2 (by rw [f2 _ _ (by omega) (by omega) (by omega)]; exact h6) (by rw [e19]; omega) (by omega) (by rw [e19]; exact h4) (fun j p => by
      have := hj (j + 1) (by rw [List.length_cons]; omega)
      rw [List.getElem?_cons_succ] at this
      rw [this, f2 _ _ (by omega) (by omega) (by omega)]
      congr 2
      omega) (fun t ht => hr t (List.mem_cons_of_mem _ ht)) (by omega) (by rw [t2]; exact S10_clr hs) (by rw [t3]; exact w32_r _)
    refine ⟨ν', ?_, b2, fun t p q => ?_, ?_, fun j t q => ?_, fun c x p q w => by rw [b6 c x p q (by omega), f2 c x p q (by omega)]⟩
    · rw [← b1]
      show M_calls_L2_b (M_calls_L2 fu) f l i ν = _
      unfold M_calls_L2_b
      rw [q_ld_s (by omega) (by omega), h6, q_ld_s (by omega) (by omega), if_pos (by omega), w32_i (x := 4 * l) (by omega) (by omega), w32_i (x := 4 * l + i) (by omega) (by omega), q_ld_s (by omega) (by omega), ← sj, a1, q_bd_s, q_st_s (by omega) (by omega), hν2, w32_i (x := i + 1) (by omega) (by omega)]
    · rw [b3 t p q, t2, clr_tb s0 p q, List.mem_cons, not_or, and_assoc]
    · rw [b4, t3, w32_add, List.length_cons]
      congr 1
      omega
    · cases j with
      | zero =>
        rw [List.getElem?_cons_zero] at q
        injection q with q
        subst q
        have e1 : i + ((0 : Nat) : Int) = i := by show i + 0 = i; omega
        rw [e1, b6 _ _ (by omega) (by omega) (by omega), ← hν2, m_st_d, if_pos ⟨rfl, rfl⟩]
      | succ j =>
        rw [List.getElem?_cons_succ] at q
        have t0 := hr t (List.mem_cons_of_mem _ (List.mem_of_getElem? q))
        have e1 : i + ((j + 1 : Nat) : Int) = i + 1 + j := by omega
        rw [e1, b5 j t q, f2 _ _ (by omega) (by omega) (by omega)]
theorem kd_call {b c B W n d k l x X : Int} {Wn : Int → Int} {T : Int → Int → Prop} {r : List Int} {μ ν μ1 : am_M} (h : TOP b c B W n d k l x Wn T r μ ν) (hm : MD b c d l x X r μ μ1) (hk : ν 1002 l = 4) (h15 : d ≤ 15) : KD b c B W n d l 4 Wn μ ν μ1 := by
  have hFU := am_FU_ge
  have hd1 := h.d1
  have hr := h.mr.mc.r
  have hbo := h.bi.bo
  have hb' : b = 100 ∨ b = 200 := hbo
  have l0 := h.li.ck.l0
  have hcn := h.mr.cn (by decide)
  have rg := h.li.rg
  have hE' : ¬ hE (ν 1002 l) := by unfold hE; omega
  have le : l < ν 1017 k + ν 1018 k - 1 := by have := h.li.k8; omega
  obtain ⟨k1, k2, k3, k4⟩ := h.li.ca hk
  have hkk := h.bi.kk
  generalize hkc : ν 1006 l = kc at *
  have bc := BI_of h.mr.cd.tb (k := kc) (by omega)
  have hsc : μ (b + 22) kc ≠ 0 := by
    rcases ((h.mr.cd.sr k hkk.1 hkk.2.1).mp h.sk).2 kc ⟨l, by have := h.bi.tt; omega, by omega, hkc, k1⟩ with z | z
    · rw [z]; exact h.sk
    · exact z
  have r4 := h.li.n4 hE'
  obtain ⟨c1, c2, c3, c4⟩ := h.li.cs hE'
  have so := h.li.so hE'
  have hsl := h.li.ck.rl.sl
  have g1 : ∀ y, b ≤ y → y ≤ b + 22 → μ1 y = μ y := fun y p q => funext fun i => hm.fr y i (by omega) (by omega) (by omega)
  -- the class
  obtain ⟨μ2, a1, a2, a3⟩ := args_c (B := B) (k := k) (kc := kc) (μ0 := μ) (ν := ν) (r := r) (d := d) (l := l) hbo h.mr.mc l0 ⟨hd1, h15⟩ ⟨by omega, c2, fun i hi => ⟨ν 1007 (4 * l + i), so i hi, c4 i hi⟩⟩ hsl r4 r.length am_FU 0 μ1 (by omega) (by omega) g1
  have m2 : ∀ y i, ¬ (y = c + 1 ∧ i = d - 1) → ¬ (y = c + 2 ∧ i = d - 1) → ¬ (y = c ∧ i = 9) → ¬ (y = c + 3 ∧ 10 * d ≤ i ∧ i < 10 * d + 10) → μ2 y i = μ y i := fun y i p q w z => by rw [a3 y i (by omega), hm.fr y i p q w]
  have bc2 : BI b B kc μ2 ν := (BI.mk (bo := bc.bo) (kk := bc.kk) (r15 := by rw [m2 _ _ (by omega) (by omega) (by omega) (by omega)]; exact bc.r15) (r16 := by rw [m2 _ _ (by omega) (by omega) (by omega) (by omega)]; exact bc.r16) (r17 := by rw [m2 _ _ (by omega) (by omega) (by omega) (by omega)]; exact bc.r17) (r18 := by rw [m2 _ _ (by omega) (by omega) (by omega) (by omega)]; exact bc.r18) (fn := bc.fn) (tt := bc.tt) (sx := bc.sx) (tk := bc.tk))
  have m5 : μ1 c 5 = d := by rw [hm.fr _ _ (by omega) (by omega) (by omega)]; exact h.mr.c5
  obtain ⟨μ3, d1, d2, d3, d4, d5⟩ := enter_s (d := d) h.mr.mc (by omega) bc2 (by rw [a3 _ _ (by omega)]; exact m5)
  have e10 : (d - 1) * 10 = 10 * (d - 1) := by omega
  have eC : Mc_workKind c b l 4 μ1 = some (0, μ3) := by
    have e6 : b + 1 + 5 = b + 6 := by omega
    unfold Mc_workKind Mc_workCall
    rw [q_gd_s (bO0 hbo), q_gd_s (mO3 h.mr.mc), if_neg (by decide), if_neg (by decide), if_neg (by decide), if_pos rfl, q_gd_s (bO0 hbo), q_gd_s (bO2 hbo), e6, bat6 hbo, if_pos l0, q_bd_s, g1 (b + 6) (by omega) (by omega), k3, q_gd_s (mO3 h.mr.mc), bat17 hbo, if_pos (by omega), q_bd_s, g1 (b + 17) (by omega) (by omega), bc.r17, ← k4, m5, w32_i (x := d - 1) (by omega) (by omega), w32_i (x := (d - 1) * 10) (by omega) (by omega), e10]
    have a1' : Mc_workCall_L40 am_FU c b l (b + 1) kc (10 * (d - 1)) (r.length : Nat) 0 μ1 = _ := a1
    rw [a1', q_gd_s (mO3 h.mr.mc), d1, q_bd_s, q_bd_s]
  -- the reference
  have er : m_st (m_st ν 1000 66 (w32 (ν 1000 66 + 1))) 1044 (d - 1) (l + 1) = rB d l ν := rfl
  have q2 : ∀ k, q_ld 120 1002 l (rB d l ν) k = k (ν 1002 l) := fun k => by rw [q_ld_s (by omega) (by omega), rB_f (by omega) (by omega)]
  have e19 : rB d l ν 1019 kc = ν 1019 kc := rB_f (by omega) (by omega)
  obtain ⟨ν2, b1, b2, b3, b4, b5, b6⟩ := args_r (f := d - 1) (l := l) (kc := kc) (by omega) l0 (by omega) r am_FU 0 (rB d l ν) (by rw [rB_f (by omega) (by omega)]; exact hkc) (by rw [e19]; omega) (by omega) (by rw [e19]; exact bc.tt.2) (fun j p => by
    rw [so j p, rB_f (by omega) (by omega)]
    congr 2
    omega) hsl (by omega) (by rw [rB_f (by omega) (by omega), h.ex]; exact h.sx) (by rw [rB_f (by omega) (by omega)]; exact hcn.2.2.2.2.1)
  rw [rB_f (by omega) (by omega)] at b3 b4
  rw [h.ex] at b3
  have n2 : ∀ y i, ¬ (y = 1000 ∧ (i = 64 ∨ i = 66)) → ¬ (y = 1044 ∧ i = d - 1) → ¬ (y = 1045 ∧ i = d - 1) → y ≠ 1047 → ν2 y i = ν y i := fun y i p w z u => by rw [b6 y i z (by omega) (by omega), rB_f (by omega) w]
  have xx : ν2 1045 (d - 1) = X := S10_eq b2 hm.sX (fun t p q => by rw [b3 t p q, hm.bX t p q])
  have g2 : ∀ y, 1001 ≤ y → y ≤ 1042 → ν2 y = ν y := fun y p q => funext fun i => n2 y i (by omega) (by omega) (by omega) (by omega)
  have bc3 : BI b B kc μ ν2 := (BI.mk (bo := bc.bo) (kk := bc.kk) (r15 := by rw [g2 1017 (by decide) (by decide)]; exact bc.r15) (r16 := by rw [g2 1018 (by decide) (by decide)]; exact bc.r16) (r17 := by rw [g2 1019 (by decide) (by decide)]; exact bc.r17) (r18 := by rw [g2 1020 (by decide) (by decide)]; exact bc.r18) (fn := by rw [g2 1017 (by decide) (by decide), g2 1018 (by decide) (by decide), g2 1019 (by decide) (by decide)]; exact bc.fn) (tt := by rw [g2 1019 (by decide) (by decide)]; exact bc.tt) (sx := by rw [g2 1020 (by decide) (by decide)]; exact bc.sx) (tk := by rw [g2 1019 (by decide) (by decide), g2 1017 (by decide) (by decide), g2 1002 (by decide) (by decide), g2 1003 (by decide) (by decide)]; exact bc.tk))
  obtain ⟨ν3, f1, f2, f3, f4, f5, f6, f7⟩ := opensB_s (d := d) (by omega) bc3 (by rw [n2 _ _ (by omega) (by omega) (by omega) (by omega)]; exact h.mr.r5)
  rw [g2 1017 (by decide) (by decide), g2 1019 (by decide) (by decide)] at f3
  rw [g2 1019 (by decide) (by decide)] at f4 f6
  have eR : M_works_B39 (d - 1) l ν = M_works_B296 ν3 := by
    unfold M_works_B39 M_calls
    rw [q_pf_d, w32_i (x := l + 1) (by omega) (by omega), q_st_s (by omega) (by omega), er, q2, if_neg (by omega), q2, if_neg (by omega), q2, if_neg (by omega), q2, if_pos hk, b1, f1, q_bd_s, q_bd_s]
  have n3 : ∀ y i, ¬ (y = 1000 ∧ (i = 58 ∨ i = 64 ∨ i = 66)) → ¬ (y = 1044 ∧ i = d - 1) → ¬ (y = 1045 ∧ i = d - 1) → ¬ (1043 ≤ y ∧ y ≤ 1045 ∧ i = d) → ¬ (y = 1046 ∧ 10 * d ≤ i ∧ i < 10 * d + 10) → y ≠ 1047 → ν3 y i = ν y i := fun y i p w z u v t => by rw [f7 y i u v (by omega), n2 y i (by omega) w z t]
  have sr : SFR ν ν3 := fun y i p q w => n3 y i (by omega) (by omega) (by omega) (by omega) (by omega) (by omega)
  have c11 : μ3 c 11 = ν 1000 66 := by rw [d5 _ _ (by omega) (by omega) (by omega), m2 _ _ (by omega) (by omega) (by omega) (by omega)]; exact hcn.2.2.2.1
  have m3 : ∀ y i, ¬ (y = c + 1 ∧ d - 1 ≤ i) → ¬ (y = c + 2 ∧ d - 1 ≤ i) → ¬ (y = c ∧ (i = 5 ∨ i = 9)) → ¬ (y = c + 3 ∧ 10 * d ≤ i ∧ i < 10 * d + 10) → μ3 y i = μ y i := fun y i p q w z => by rw [d5 y i (by omega) (by omega) (by omega), m2 y i (by omega) (by omega) (by omega) z]
  have sc3 : SFC c μ μ3 := fun y i p q w => m3 y i (by omega) (by omega) (by omega) (by omega)
  have s66 : ν3 1000 66 = w32 (ν 1000 66 + 1) := by rw [f7 _ _ (by omega) (by omega) (by omega), b6 _ _ (by omega) (by omega) (by omega), rB_s]
  refine ⟨μ3, ν3, d + 1, 1, eC, eR, ?_, Or.inl rfl, sc3, sr, s66⟩
  generalize hμ4 : m_st μ3 c 11 (w32 (μ3 c 11 + 1)) = μ4
  have q4 : ∀ y i, ¬ (y = c ∧ i = 11) → μ4 y i = μ3 y i := fun y i z => by rw [← hμ4, m_st_d, if_neg z]
  have v4 : μ4 c 11 = ν3 1000 66 := by rw [← hμ4, m_st_d, if_pos ⟨rfl, rfl⟩, c11, s66]
  have sc : SFC c μ μ4 := sc3.tr (fun y i p q w => q4 y i (by omega))
  have g := sc.tf hbo h.mr.mc
  have gg := sr.tg
  have m4 : ∀ y i, ¬ (y = c + 1 ∧ d - 1 ≤ i) → ¬ (y = c + 2 ∧ d - 1 ≤ i) → ¬ (y = c ∧ (i = 5 ∨ i = 9 ∨ i = 11)) → ¬ (y = c + 3 ∧ 10 * d ≤ i ∧ i < 10 * d + 10) → μ4 y i = μ y i := fun y i p q w z => by rw [q4 y i (by omega), m3 y i p q (by omega) z]
  have cd4 : CD b B W n B Wn μ4 ν3 := h.mr.cd.cong g (fun c p q => gg c (Or.inl ⟨p, q⟩)) (fun c p q => gg c (Or.inr ⟨p, q⟩))
  refine h.mr.gen (d - 1) (by omega) (Or.inr (by omega)) (by omega) g gg (by rw [q4 _ _ (by omega)]; exact d4) f5 (by rw [m4 _ _ (by omega) (by omega) (by omega) (by omega)]; exact h.mr.c6) (by rw [n3 _ _ (by omega) (by omega) (by omega) (by omega) (by omega) (by omega)]; exact h.mr.r6) (by decide) ⟨m4 _ _ (by omega) (by omega) (by omega) (by omega), n3 _ _ (by omega) (by omega) (by omega) (by omega) (by omega) (by omega)⟩ ⟨m4 _ _ (by omega) (by omega) (by omega) (by omega), n3 _ _ (by omega) (by omega) (by omega) (by omega) (by omega) (by omega)⟩ ⟨?_, ?_, ?_, v4, ?_, ?_⟩ (fun z => by omega) (fun _ => by omega) (m4 _ _ (by omega) (by omega) (by omega) (by omega)) (fun y i p q => m4 y i (by omega) (by omega) (by omega) (by omega)) (fun i p => m4 _ i (by omega) (by omega) (by omega) (by omega)) (fun y i p q w => n3 y i (by omega) (by omega) (by omega) (by omega) (by omega) (by omega)) (fun i p => n3 _ i (by omega) (by omega) (by omega) (by omega) (by omega) (by omega)) ?_
  · rw [m4 _ _ (by omega) (by omega) (by omega) (by omega), n3 _ _ (by omega) (by omega) (by omega) (by omega) (by omega) (by omega)]; exact hcn.1
  · rw [q4 _ _ (by omega), d5 _ _ (by omega) (by omega) (by omega), a3 _ _ (by omega), hm.a9, f7 _ _ (by omega) (by omega) (by omega), b4, hcn.2.1]
  · rw [m4 _ _ (by omega) (by omega) (by omega) (by omega), n3 _ _ (by omega) (by omega) (by omega) (by omega) (by omega) (by omega)]; exact hcn.2.2.1
  · rw [f7 _ _ (by omega) (by omega) (by omega), b4]; exact w32_r _
  · rw [n3 _ _ (by omega) (by omega) (by omega) (by omega) (by omega) (by omega)]; exact hcn.2.2.2.2.2
  · intro f p q
    by_cases z : f = d - 1
    · subst z
      have e43 : ν3 1043 (d - 1) = k := by rw [n3 _ _ (by omega) (by omega) (by omega) (by omega) (by omega) (by omega)]; exact h.ek
      have e44 : ν3 1044 (d - 1) = l + 1 := by rw [f7 _ _ (by omega) (by omega) (by omega), b6 _ _ (by omega) (by omega) (by omega)]; exact rB_n
      have e45 : ν3 1045 (d - 1) = X := by rw [f7 _ _ (by omega) (by omega) (by omega)]; exact xx
      have el : l + 1 - 1 = l := by omega
      unfold FB1
      rw [e43, e44, e45]
      refine ⟨by rw [q4 _ _ (by omega), d5 _ _ (by omega) (by omega) (by omega), a3 _ _ (by omega)]; exact hm.n1, ⟨by rw [q4 _ _ (by omega), d5 _ _ (by omega) (by omega) (by omega), a3 _ _ (by omega)]; exact hm.t1, hm.sX⟩, fun s s0 s1 y => ?_, T, h.tw.cong g gg, ⟨hkk.1, hkk.2.1⟩, ?_, ?_, Or.inr ⟨by omega, ?_, ?_, r, ?_, ?_⟩⟩
      · rw [m4 _ _ (by omega) (by omega) (by omega) (by omega), n3 _ _ (by omega) (by omega) (by omega) (by omega) (by omega) (by omega)]
        exact h.mr.vl (d - 1) s (by omega) (by omega) s0 s1 (by rw [h.ex]; exact ((hm.bX s s0 s1).mp y).1)
      · rw [g (b + 22) (by omega) (by omega)]; exact h.sk
      · rw [gg 1017 (by omega), gg 1018 (by omega), gg 1019 (by omega)]; omega
      · rw [gg 1017 (by omega), gg 1019 (by omega)]; omega
      · rw [gg 1002 (by omega), el]; exact hk
      · rw [el]; exact h.li.ck.cg (fun y p q _ => g y (by omega) (by omega)) (fun y p q => gg y (Or.inl ⟨p, q⟩))
      · intro t p q
        rw [el, hm.bX t p q, h.tt t p q]
    · have e : f = d := by omega
      subst e
      have t19 := tset_s bc.tt
      unfold FB1
      rw [f2, f3, f4]
      refine ⟨by rw [q4 _ _ (by omega)]; exact d2, ⟨by rw [q4 _ _ (by omega)]; exact d3, t19.1⟩, fun s s0 s1 y => ?_, ?_⟩
      · have s2 := (t19.2 s s0 s1).mp y
        have es : ((s.toNat : Nat) : Int) = s := by omega
        have hs : r[s.toNat]? = some (ν 1007 (4 * l + (s.toNat : Nat))) := so _ (by omega)
        have hmem := List.mem_of_getElem? hs
        have hv := h.vr _ hmem
        have x1 := a2 s.toNat (by omega) _ hs
        have x2 := b5 s.toNat _ hs
        have x3 := f6 s s0 s2
        rw [es] at x1 x2
        have e0 : 0 + s = s := by omega
        rw [e0] at x2
        rw [q4 _ _ (by omega), d5 _ _ (by omega) (by omega) (by omega)]
        rw [es] at hv
        rw [x1, x3, x2, hm.fr _ _ (by omega) (by omega) (by omega), rB_f (by omega) (by omega)]
        exact hv.2
      · have := FO_new (k := kc) (w := f < f + 1 - 1) cd4 (by omega) (by rw [g (b + 22) (by omega) (by omega)]; exact hsc) (by omega)
        rw [gg 1017 (by omega), gg 1019 (by omega)] at this
        exact this
