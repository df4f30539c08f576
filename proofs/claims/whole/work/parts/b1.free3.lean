/-! Free use, both sides: call, give, all of it. -/
theorem argsF_r {f l kc : Int} (hf : 0 ≤ f ∧ f < 16) (hl : 0 ≤ l ∧ l < 60) (hkc : 0 ≤ kc ∧ kc < 4) : ∀ (rs : List Int) (fu : Nat) (i : Int) (ν : am_M), ν 1006 l = kc → ν 1019 kc = i + (rs.length : Nat) → 0 ≤ i → ν 1019 kc ≤ 4 → (∀ j : Nat, j < rs.length → rs[j]? = some (ν 1007 (4 * l + (i + j)))) → (∀ s ∈ rs, 0 ≤ s ∧ s < 10) → rs.length < fu → ∃ ν', M_worksFree_L155 fu f l i ν = (q_bd (M_opensFree kc ν') fun _ μ5 => some (1, μ5)) ∧ (∀ j : Nat, ∀ s, rs[j]? = some s → ν' 1047 (i + j) = ν 1051 (10 * f + s)) ∧ (∀ c x, ¬ (c = 1047 ∧ i ≤ x) → ν' c x = ν c x)
  | _, 0, _, _, _, _, _, _, _, _, h => by omega
  | [], fu + 1, i, ν, h6, h19, h0, h4, _, _, _ => by
    have e0 : ((([] : List Int).length : Nat) : Int) = 0 := rfl
    refine ⟨ν, ?_, fun j s q => (by cases q), fun _ _ _ => rfl⟩
    show M_worksFree_L155_b (M_worksFree_L155 fu) f l i ν = _
    unfold M_worksFree_L155_b
    rw [q_ld_s (by omega) (by omega), h6, q_ld_s (by omega) (by omega), if_neg (by omega), q_ld_s (by omega) (by omega), h6]
  | s :: rs, fu + 1, i, ν, h6, h19, h0, h4, hj, hr, hfu => by
    rw [List.length_cons] at h19 hfu
    have s0 := hr s List.mem_cons_self
    have sj := hj 0 (by rw [List.length_cons]; omega)
    have e0 : 4 * l + (i + ((0 : Nat) : Int)) = 4 * l + i := by show 4 * l + (i + 0) = _; omega
    rw [List.getElem?_cons_zero, e0] at sj
    injection sj with sj
    generalize hν2 : m_st ν 1047 i (ν 1051 (10 * f + s)) = ν2
    have f2 : ∀ c x, ¬ (c = 1047 ∧ x = i) → ν2 c x = ν c x := fun c x w => by rw [← hν2, m_st_d, if_neg w]
    have e19 : ν2 1019 kc = ν 1019 kc := f2 _ _ (by omega)
    obtain ⟨ν', b1, b5, b6⟩ := argsF_r hf hl hkc rs fu (i + 1) ν2 (by rw [f2 _ _ (by omega)]; exact h6) (by rw [e19]; omega) (by omega) (by rw [e19]; exact h4) (fun j p => by
      have := hj (j + 1) (by rw [List.length_cons]; omega)
      rw [List.getElem?_cons_succ] at this
      rw [this, f2 _ _ (by omega)]
      congr 2
      omega) (fun t ht => hr t (List.mem_cons_of_mem _ ht)) (by omega)
    refine ⟨ν', ?_, fun j t q => ?_, fun c x w => by rw [b6 c x (by omega), f2 c x (by omega)]⟩
    · rw [← b1]
      show M_worksFree_L155_b (M_worksFree_L155 fu) f l i ν = _
      unfold M_worksFree_L155_b
      rw [q_ld_s (by omega) (by omega), h6, q_ld_s (by omega) (by omega), if_pos (by omega), w32_i (x := 4 * l) (by omega) (by omega), w32_i (x := 4 * l + i) (by omega) (by omega), q_ld_s (by omega) (by omega), ← sj, w32_i (x := 10 * f) (by omega) (by omega), w32_i (x := 10 * f + s) (by omega) (by omega), q_ld_s (by omega) (by omega), q_st_s (by omega) (by omega), hν2, w32_i (x := i + 1) (by omega) (by omega)]
    · cases j with
      | zero =>
        rw [List.getElem?_cons_zero] at q
        injection q with q
        subst q
        have e1 : i + ((0 : Nat) : Int) = i := by show i + 0 = i; omega
        rw [e1, b6 _ _ (by omega), ← hν2, m_st_d, if_pos ⟨rfl, rfl⟩]
      | succ j =>
        rw [List.getElem?_cons_succ] at q
        have e1 : i + ((j + 1 : Nat) : Int) = i + 1 + j := by omega
        rw [e1, b5 j t q, f2 _ _ (by omega)]
theorem kf_call {b B W n d k l x : Int} {Wn : Int → Int} {r : List Int} {μ ν : am_M} (h : FTP b B W n d k l x Wn r μ ν) (hk : ν 1002 l = 4) (ht : ∀ s ∈ r, tb x s = true) (h15 : d ≤ 15) : KF b B W n d l 4 Wn μ ν := by
  have hFU := am_FU_ge
  have hd1 := h.d1
  have hbo := h.bi.bo
  have hb' : b = 100 ∨ b = 200 := hbo
  have l0 := h.li.ck.l0
  have rg := h.li.rg
  have hE' : ¬ hE (ν 1002 l) := by unfold hE; omega
  have le : l < ν 1017 k + ν 1018 k - 1 := by have := h.li.k8; omega
  obtain ⟨k1, k2, k3, k4⟩ := h.li.ca hk
  have hkk := h.bi.kk
  generalize hkc : ν 1006 l = kc at *
  have bc := BI_of h.fm.td (k := kc) (by omega)
  have bfn := bc.fn
  have r4 := h.li.n4 hE'
  obtain ⟨c1, c2, c3, c4⟩ := h.li.cs hE'
  have so := h.li.so hE'
  have hsl := h.li.ck.rl.sl
  have g1 : ∀ y, b ≤ y → y ≤ b + 22 → cF d l μ y = μ y := fun y p q => funext fun i => cF_f (by omega)
  -- the class
  obtain ⟨μ2, a1, a2, a3⟩ := args_c (B := B) (k := k) (kc := kc) (μ0 := μ) (ν := ν) (r := r) (d := d) (l := l) hbo m310 l0 ⟨hd1, h15⟩ ⟨by omega, c2, fun i hi => ⟨ν 1007 (4 * l + i), so i hi, c4 i hi⟩⟩ hsl r4 r.length am_FU 0 (cF d l μ) (by omega) (by omega) g1
  have m2 : ∀ y i, ¬ (y = 311 ∧ i = d - 1) → ¬ (y = 313 ∧ 10 * d ≤ i ∧ i < 10 * d + 10) → μ2 y i = μ y i := fun y i p z => by rw [a3 y i (by omega), cF_f p]
  have bc2 : BI b B kc μ2 ν := (BI.mk (bo := bc.bo) (kk := bc.kk) (r15 := by rw [m2 _ _ (by omega) (by omega)]; exact bc.r15) (r16 := by rw [m2 _ _ (by omega) (by omega)]; exact bc.r16) (r17 := by rw [m2 _ _ (by omega) (by omega)]; exact bc.r17) (r18 := by rw [m2 _ _ (by omega) (by omega)]; exact bc.r18) (fn := bc.fn) (tt := bc.tt) (sx := bc.sx) (tk := bc.tk))
  have m5 : cF d l μ 310 5 = d := by rw [cF_f (by omega)]; exact h.fm.c5
  obtain ⟨μ3, d1, d2, d3, d4, d5⟩ := enter_s (d := d) m310 (by omega) bc2 (by rw [a3 _ _ (by omega)]; exact m5)
  have e10 : (d - 1) * 10 = 10 * (d - 1) := by omega
  have eC : Mc_workKind 310 b l 4 (cF d l μ) = some (0, μ3) := by
    have e6 : b + 1 + 5 = b + 6 := by omega
    unfold Mc_workKind Mc_workCall
    rw [q_gd_s (bO0 hbo), q_gd_s (mO3 m310), if_neg (by decide), if_neg (by decide), if_neg (by decide), if_pos rfl, q_gd_s (bO0 hbo), q_gd_s (bO2 hbo), e6, bat6 hbo, if_pos l0, q_bd_s, g1 (b + 6) (by omega) (by omega), k3, q_gd_s (mO3 m310), bat17 hbo, if_pos (by omega), q_bd_s, g1 (b + 17) (by omega) (by omega), bc.r17, ← k4, m5, w32_i (x := d - 1) (by omega) (by omega), w32_i (x := (d - 1) * 10) (by omega) (by omega), e10]
    have a1' : Mc_workCall_L40 am_FU 310 b l (b + 1) kc (10 * (d - 1)) (r.length : Nat) 0 (cF d l μ) = _ := a1
    rw [a1', q_gd_s (mO3 m310), d1, q_bd_s, q_bd_s]
  -- the reference
  have er : m_st ν 1049 (d - 1) (l + 1) = rF d l ν := rfl
  have e19 : rF d l ν 1019 kc = ν 1019 kc := rF_f (by omega)
  obtain ⟨ν2, b1, b5, b6⟩ := argsF_r (f := d - 1) (l := l) (kc := kc) (by omega) l0 (by omega) r am_FU 0 (rF d l ν) (by rw [rF_f (by omega)]; exact hkc) (by rw [e19]; omega) (by omega) (by rw [e19]; exact bc.tt.2) (fun j p => by
    rw [so j p, rF_f (by omega)]
    congr 2
    omega) hsl (by omega)
  have n2 : ∀ y i, ¬ (y = 1049 ∧ i = d - 1) → y ≠ 1047 → ν2 y i = ν y i := fun y i w u => by rw [b6 y i (by omega), rF_f w]
  have g2 : ∀ y, 1001 ≤ y → y ≤ 1042 → ν2 y = ν y := fun y p q => funext fun i => n2 y i (by omega) (by omega)
  have bc3 : BI b B kc μ ν2 := (BI.mk (bo := bc.bo) (kk := bc.kk) (r15 := by rw [g2 1017 (by decide) (by decide)]; exact bc.r15) (r16 := by rw [g2 1018 (by decide) (by decide)]; exact bc.r16) (r17 := by rw [g2 1019 (by decide) (by decide)]; exact bc.r17) (r18 := by rw [g2 1020 (by decide) (by decide)]; exact bc.r18) (fn := by rw [g2 1017 (by decide) (by decide), g2 1018 (by decide) (by decide), g2 1019 (by decide) (by decide)]; exact bc.fn) (tt := by rw [g2 1019 (by decide) (by decide)]; exact bc.tt) (sx := by rw [g2 1020 (by decide) (by decide)]; exact bc.sx) (tk := by rw [g2 1019 (by decide) (by decide), g2 1017 (by decide) (by decide), g2 1002 (by decide) (by decide), g2 1003 (by decide) (by decide)]; exact bc.tk))
  obtain ⟨ν3, f1, f2, f3, f4, f5, f6, f7⟩ := opensF_s (d := d) (by omega) bc3 (by rw [n2 _ _ (by omega) (by omega)]; exact h.fm.r5)
  rw [g2 1017 (by decide) (by decide), g2 1019 (by decide) (by decide)] at f3
  rw [g2 1019 (by decide) (by decide)] at f4 f6
  have eR : M_worksFree_B44 (d - 1) l ν = some (1, ν3) := by
    unfold M_worksFree_B44
    rw [w32_i (x := l + 1) (by omega) (by omega), q_st_s (by omega) (by omega), er, h.q2, if_neg (by omega), h.q2, if_neg (by omega), h.q2, if_pos hk, b1, f1, q_bd_s]
  have n3 : ∀ y i, ¬ (y = 1000 ∧ i = 73) → ¬ (y = 1049 ∧ i = d - 1) → ¬ (1048 ≤ y ∧ y ≤ 1050 ∧ i = d) → ¬ (y = 1051 ∧ 10 * d ≤ i ∧ i < 10 * d + 10) → y ≠ 1047 → ν3 y i = ν y i := fun y i p w u v t => by rw [f7 y i u v p, n2 y i w t]
  have sr : SFF ν ν3 := fun y i p q w => n3 y i (by omega) (by omega) (by omega) (by omega) (by omega)
  have m3 : ∀ y i, ¬ (y = 311 ∧ d - 1 ≤ i) → ¬ (y = 312 ∧ d ≤ i) → ¬ (y = 310 ∧ i = 5) → ¬ (y = 313 ∧ 10 * d ≤ i ∧ i < 10 * d + 10) → μ3 y i = μ y i := fun y i p q w z => by rw [d5 y i (by omega) (by omega) (by omega), m2 y i (by omega) z]
  have sc : SFC 310 μ μ3 := fun y i p q w => m3 y i (by omega) (by omega) (by omega) (by omega)
  have g := sc.tf hbo m310
  have gg := sr.tg
  refine ⟨μ3, ν3, d + 1, eC, eR, ?_, sc, sr⟩
  refine h.fm.gen (d - 1) (by omega) (Or.inr (by omega)) (by omega) g gg d4 f5 (fun _ => by rw [m3 _ _ (by omega) (by omega) (by omega) (by omega)]; exact h.fm.s1 (by omega)) (fun z => by omega) (m3 _ _ (by omega) (by omega) (by omega) (by omega)) (fun y i p q => m3 y i (by omega) (by omega) (by omega) (by omega)) (fun i p => m3 _ i (by omega) (by omega) (by omega) (by omega)) (fun y i p q w => n3 y i (by omega) (by omega) (by omega) (by omega) (by omega)) (fun i p => n3 _ i (by omega) (by omega) (by omega) (by omega) (by omega)) ?_
  intro f p q
  by_cases z : f = d - 1
  · subst z
    have e44 : ν3 1049 (d - 1) = l + 1 := by rw [f7 _ _ (by omega) (by omega) (by omega), b6 _ _ (by omega)]; exact rF_n
    have e45 : ν3 1050 (d - 1) = x := by rw [n3 _ _ (by omega) (by omega) (by omega) (by omega) (by omega)]; exact h.ex
    have el : l + 1 - 1 = l := by omega
    unfold FF
    rw [e44, e45]
    refine ⟨by rw [d5 _ _ (by omega) (by omega) (by omega), a3 _ _ (by omega)]; exact cF_n, ⟨by rw [m3 _ _ (by omega) (by omega) (by omega) (by omega)]; exact h.tx, h.sx⟩, fun s s0 s1 y => ?_, k, ⟨hkk.1, hkk.2.1⟩, ?_, fun _ => ⟨?_, ?_⟩⟩
    · rw [m3 _ _ (by omega) (by omega) (by omega) (by omega), n3 _ _ (by omega) (by omega) (by omega) (by omega) (by omega)]
      exact h.vl s s0 s1 y
    · rw [gg 1017 (by omega), gg 1018 (by omega), gg 1019 (by omega)]; omega
    · rw [gg 1017 (by omega), gg 1019 (by omega)]; omega
    · rw [gg 1002 (by omega), el]; exact hk
  · have e : f = d := by omega
    subst e
    have t19 := tset_s bc.tt
    unfold FF
    rw [f3, f4]
    refine ⟨d2, ⟨d3, t19.1⟩, fun s s0 s1 y => ?_, kc, ⟨k1, by omega⟩, ?_, fun z => by omega⟩
    · have s2 := (t19.2 s s0 s1).mp y
      have es : ((s.toNat : Nat) : Int) = s := by omega
      have hs : r[s.toNat]? = some (ν 1007 (4 * l + (s.toNat : Nat))) := so _ (by omega)
      have hmem := List.mem_of_getElem? hs
      have hv := h.vr ht _ hmem
      have x1 := a2 s.toNat (by omega) _ hs
      have x2 := b5 s.toNat _ hs
      have x3 := f6 s s0 s2
      rw [es] at x1 x2
      have e0 : 0 + s = s := by omega
      rw [e0] at x2
      rw [es] at hv
      have x4 : μ3 313 (10 * f + s) = ν 1051 (10 * (f - 1) + ν 1007 (4 * l + s)) := by
        rw [d5 _ _ (by omega) (by omega) (by omega)]
        refine x1.trans ?_
        rw [cF_f (by omega)]
        exact hv.2.1
      rw [x4, x3, x2, rF_f (by omega)]
      exact ⟨rfl, hv.2.2⟩
    · rw [gg 1017 (by omega), gg 1018 (by omega), gg 1019 (by omega)]; omega
theorem kf_give {b B W n d k l x : Int} {Wn : Int → Int} {r : List Int} {μ ν : am_M} (h : FTP b B W n d k l x Wn r μ ν) (hk : ν 1002 l = 8) (ht : ∀ s ∈ r, tb x s = true) : KF b B W n d l 8 Wn μ ν := by
  have hd := h.fm.dd
  have hd1 := h.d1
  have hbo := h.bi.bo
  have hb' : b = 100 ∨ b = 200 := hbo
  have l0 := h.li.ck.l0
  have rg := h.li.rg
  obtain ⟨L, he⟩ := h.li.ee (by unfold hE; omega)
  obtain ⟨v, μ2, ν2, hvr, a1, a2, b1, b2⟩ := h.rc ht he
  have m2 : ∀ y i, ¬ (y = 311 ∧ i = d - 1) → y ≠ 41 → μ2 y i = μ y i := fun y i p z => by rw [a2 y i z, cF_f p]
  have n2 : ∀ y i, ¬ (y = 1049 ∧ i = d - 1) → ¬ (1024 ≤ y ∧ y ≤ 1033) → ν2 y i = ν y i := fun y i p z => by rw [b2 y i z, rF_f p]
  have m5 : μ2 310 5 = d := by rw [m2 _ _ (by omega) (by omega)]; exact h.fm.c5
  have t2 : μ2 (310 + 2) (d - 1) = x := by rw [m2 _ _ (by omega) (by omega)]; exact h.tx
  generalize hν4 : m_st (m_st ν2 1000 74 v) 1000 73 (d - 1) = ν4
  have n4 : ∀ y i, ¬ (y = 1000 ∧ (i = 73 ∨ i = 74)) → ¬ (1024 ≤ y ∧ y ≤ 1033) → ¬ (y = 1049 ∧ i = d - 1) → ν4 y i = ν y i := fun y i p q w => by rw [← hν4, m_st_d, if_neg (by omega), m_st_d, if_neg (by omega), n2 y i w q]
  have e73 : ν2 1000 73 = d := by rw [n2 _ _ (by omega) (by omega)]; exact h.fm.r5
  have v73 : ν4 1000 73 = d - 1 := by rw [← hν4, m_st_d, if_pos ⟨rfl, rfl⟩]
  have v74 : ν4 1000 74 = v := by rw [← hν4, m_st_i (by decide), m_st_d, if_pos ⟨rfl, rfl⟩]
  generalize hμ4 : m_st (m_st μ2 310 9 (w32 (μ2 310 9 + pc x))) 310 5 (d - 1) = μ4
  have m4 : ∀ y i, ¬ (y = 311 ∧ i = d - 1) → ¬ (y = 310 ∧ (i = 5 ∨ i = 9)) → y ≠ 41 → μ4 y i = μ y i := fun y i p w z => by rw [← hμ4, m_st_d, if_neg (by omega), m_st_d, if_neg (by omega), m2 y i p z]
  have u5 : μ4 310 5 = d - 1 := by rw [← hμ4, m_st_d, if_pos ⟨rfl, rfl⟩]
  have er : m_st ν 1049 (d - 1) (l + 1) = rF d l ν := rfl
  have eC : Mc_workKind 310 b l 8 (cF d l μ) = q_bd (if d - 1 = 0 then (q_pf 310 6 2 μ4 fun μ15 => q_pf 310 7 v μ15 fun μ16 => some (0, μ16)) else (q_bd (X_at (310 + 1) (w32 (d - 1 - 1)) μ4) fun a8 μ9 => q_gd 2 (b + 1) <| q_bd (X_at (b + 3) (w32 (a8 - 1)) μ9) fun a11 μ12 => q_bd (Mc_lay 310 a11 v μ12) fun a13 μ14 => some (0, μ14))) fun _ μ24 => some (0, μ24) := by
    have e3 : b + 1 + 2 = b + 3 := by omega
    have e5 : ∀ w, m_st μ2 310 9 w 310 5 = d := fun w => by rw [m_st_i (by decide)]; exact m5
    have e6 : ∀ w, m_st (m_st μ2 310 9 w) 310 5 (d - 1) 310 5 = d - 1 := fun w => by rw [m_st_d, if_pos ⟨rfl, rfl⟩]
    unfold Mc_workKind Mc_workGive
    rw [q_gd_s (bO0 hbo), q_gd_s (mO3 m310), if_neg (by decide), if_neg (by decide), if_neg (by decide), if_neg (by decide), if_neg (by decide), if_neg (by decide), if_neg (by decide), if_pos rfl, a1, q_bd_s, q_gd_s (mO3 m310), m5, w32_i (x := d - 1) (by omega) (by omega), mat2 m310, if_pos (show 0 ≤ d - 1 ∧ d - 1 < 16 by omega), q_bd_s, t2, bitCount_s h.sx, q_bd_s, q_pf_d, q_pf_d, e5, w32_i (x := d - 1) (by omega) (by omega), e6, hμ4, e3]
  have eR : M_worksFree_B44 (d - 1) l ν = if d - 1 ≤ 0 then some (1, ν4) else (q_ld 16 1049 (w32 (d - 1 - 1)) ν4 fun a12 => q_ld 120 1003 (w32 (a12 - 1)) ν4 fun a13 => q_bd (M_laysFree (w32 (d - 1 - 1)) a13 v ν4) fun a14 μ15 => some (1, μ15)) := by
    have e73' : m_st ν2 1000 74 v 1000 73 = d := by rw [m_st_i (by decide)]; exact e73
    unfold M_worksFree_B44
    rw [w32_i (x := l + 1) (by omega) (by omega), q_st_s (by omega) (by omega), er, h.q2, if_neg (by omega), h.q2, if_neg (by omega), h.q2, if_neg (by omega), h.q2, if_neg (by omega), h.q2, if_neg (by omega), h.q2, if_pos hk, w32_i (x := 10 * (d - 1)) (by omega) (by omega), b1, q_bd_s, q_pf_d, q_pf_d, e73', w32_i (x := d - 1) (by omega) (by omega), hν4, v73, v74]
  by_cases z : d - 1 = 0
  · rw [if_pos z, q_pf_d, q_pf_d, q_bd_s] at eC
    rw [if_pos (by omega)] at eR
    generalize hμ5 : m_st (m_st μ4 310 6 2) 310 7 v = μ5 at *
    have m5f : ∀ y i, ¬ (y = 310 ∧ (i = 6 ∨ i = 7)) → μ5 y i = μ4 y i := fun y i w => by rw [← hμ5, m_st_d, if_neg (by omega), m_st_d, if_neg (by omega)]
    have sc : SFC 310 μ μ5 := fun y i p q w => by rw [m5f y i (by omega), m4 y i (by omega) (by omega) w]
    have sr : SFF ν ν4 := fun y i p q w => n4 y i (by omega) q (by omega)
    refine ⟨μ5, ν4, 0, eC, eR, ?_, sc, sr⟩
    exact h.fm.gen 0 (by omega) (Or.inl rfl) (by omega) (sc.tf hbo m310) sr.tg (by rw [m5f _ _ (by omega), u5, z]) (by rw [v73, z]) (fun y => by omega) (fun _ => ⟨by rw [← hμ5, m_st_i (by decide), m_st_d, if_pos ⟨rfl, rfl⟩], by rw [← hμ5, m_st_d, if_pos ⟨rfl, rfl⟩, v74]⟩) (by rw [m5f _ _ (by omega), m4 _ _ (by omega) (by omega) (by omega)]) (fun y i p q => by rw [m5f _ _ (by omega), m4 _ _ (by omega) (by omega) (by omega)]) (fun i p => by rw [m5f _ _ (by omega), m4 _ _ (by omega) (by omega) (by omega)]) (fun y i p q w => n4 _ _ (by omega) (by omega) (by omega)) (fun i p => n4 _ _ (by omega) (by omega) (by omega)) (fun f p q => by omega)
  · obtain ⟨p1, ⟨p2, p3⟩, p4, k', w2, w4, w5⟩ := h.fm.fb (d - 2) (by omega) (by omega)
    obtain ⟨w5, w6⟩ := w5 (by omega)
    generalize hl' : ν 1049 (d - 2) = l' at *
    generalize hx' : ν 1050 (d - 2) = x' at *
    obtain ⟨r', li'⟩ := LI_any h.fm.td w2 (l := l' - 1) ⟨w5, by omega⟩
    have hla := li'.ck.la
    have s0 := li'.la.mpr (Or.inr (Or.inr w6))
    have e2 : d - 1 - 1 = d - 2 := by omega
    have l1 := li'.ck.l0
    obtain ⟨μ5, g1, g2, g3, g4⟩ := mlay_s (c := 310) (d := d - 1) (s := ν 1003 (l' - 1)) (v := v) (x := x') (μ := μ4) m310 (by omega) u5 (by rw [e2, m4 _ _ (by omega) (by omega) (by omega)]; exact p2) ⟨s0, hla.2.2⟩
    obtain ⟨ν5, j1, j2, j3, j4⟩ := laysF_s (f := d - 2) (s := ν 1003 (l' - 1)) (v := v) (ν := ν4) (by omega) ⟨s0, hla.2.2⟩
    rw [e2] at g2 g3 g4
    rw [n4 _ _ (by omega) (by omega) (by omega), hx'] at j2
    have eC2 : Mc_workKind 310 b l 8 (cF d l μ) = some (0, μ5) := by
      have p1' : μ (310 + 1) (d - 2) = l' := p1
      rw [eC, if_neg z, e2, w32_i (x := d - 2) (by omega) (by omega), mat1 m310, if_pos (show 0 ≤ d - 2 ∧ d - 2 < 16 by omega), q_bd_s, m4 (310 + 1) (d - 2) (by omega) (by omega) (by omega), p1', q_gd_s (bO2 hbo), w32_i (x := l' - 1) (by omega) (by omega), bat3 hbo, if_pos (show 0 ≤ l' - 1 ∧ l' - 1 < 60 by omega), q_bd_s, m4 (b + 3) _ (by omega) (by omega) (by omega), hla.1, g1, q_bd_s, q_bd_s]
    have eR2 : M_worksFree_B44 (d - 1) l ν = some (1, ν5) := by
      rw [eR, if_neg (by omega), e2, w32_i (x := d - 2) (by omega) (by omega), q_ld_s (by omega) (by omega), n4 1049 (d - 2) (by omega) (by omega) (by omega), hl', w32_i (x := l' - 1) (by omega) (by omega), q_ld_s (by omega) (by omega), n4 1003 _ (by omega) (by omega) (by omega), j1, q_bd_s]
    have m5f : ∀ y i, ¬ (y = 312 ∧ i = d - 2) → ¬ (y = 313 ∧ 10 * (d - 2) ≤ i) → μ5 y i = μ4 y i := fun y i p w => g4 y i (by omega) (by omega)
    have n5f : ∀ y i, ¬ (y = 1050 ∧ i = d - 2) → ¬ (y = 1051 ∧ 10 * (d - 2) ≤ i) → ν5 y i = ν4 y i := fun y i p w => j4 y i p (by omega)
    have sc : SFC 310 μ μ5 := fun y i p q w => by rw [m5f y i (by omega) (by omega), m4 y i (by omega) (by omega) w]
    have sr : SFF ν ν5 := fun y i p q w => by rw [n5f y i (by omega) (by omega), n4 y i (by omega) q (by omega)]
    have gg := sr.tg
    refine ⟨μ5, ν5, d - 1, eC2, eR2, ?_, sc, sr⟩
    refine h.fm.gen (d - 2) (by omega) (Or.inr (by omega)) (by omega) (sc.tf hbo m310) gg (by rw [m5f _ _ (by omega) (by omega), u5]) (by rw [n5f _ _ (by omega) (by omega), v73]) (fun _ => by rw [m5f _ _ (by omega) (by omega), m4 _ _ (by omega) (by omega) (by omega)]; exact h.fm.s1 (by omega)) (fun y => by omega) (by rw [m5f _ _ (by omega) (by omega), m4 _ _ (by omega) (by omega) (by omega)]) (fun y i p q => by rw [m5f _ _ (by omega) (by omega), m4 _ _ (by omega) (by omega) (by omega)]) (fun i p => by rw [m5f _ _ (by omega) (by omega), m4 _ _ (by omega) (by omega) (by omega)]) (fun y i p q w => by rw [n5f _ _ (by omega) (by omega), n4 _ _ (by omega) (by omega) (by omega)]) (fun i p => by rw [n5f _ _ (by omega) (by omega), n4 _ _ (by omega) (by omega) (by omega)]) ?_
    intro f p q
    have ef : f = d - 2 := by omega
    subst ef
    have e44 : ν5 1049 (d - 2) = l' := by rw [n5f _ _ (by omega) (by omega), n4 _ _ (by omega) (by omega) (by omega)]; exact hl'
    unfold FF
    rw [e44, j2]
    refine ⟨by rw [m5f _ _ (by omega) (by omega), m4 _ _ (by omega) (by omega) (by omega)]; exact p1, ⟨g2, S10_or p3 (S10_shl s0 hla.2.2)⟩, fun s p0 p1 y => ?_, k', w2, by rw [gg 1017 (by omega), gg 1018 (by omega), gg 1019 (by omega)]; exact w4, fun y => by omega⟩
    by_cases y2 : s = ν 1003 (l' - 1)
    · rw [y2, j3]
      exact ⟨g3, hvr⟩
    · have y1 := ((lay_tb ⟨s0, hla.2.2⟩ p0 p1).mp y).elim (fun w => w) (fun w => absurd w y2)
      rw [g4 _ _ (by omega) (by omega), j4 _ _ (by omega) (by omega), m4 _ _ (by omega) (by omega) (by omega), n4 _ _ (by omega) (by omega) (by omega)]
      exact p4 s p0 p1 y1
theorem FM.cong {b B W n d : Int} {Wn : Int → Int} {μ ν μ' : am_M} (h : FM b B W n d Wn μ ν) (f : ∀ y i, ¬ (y = 310 ∧ (i = 8 ∨ i = 11)) → μ' y i = μ y i) : FM b B W n d Wn μ' ν := by
  have hb' : b = 100 ∨ b = 200 := h.td.bo
  refine (FM.mk (td := h.td.tf (fun x p q => funext fun i => f x i (by omega)) (fun _ _ => rfl)) (dd := h.dd) (c5 := by rw [f _ _ (by omega)]; exact h.c5) (r5 := h.r5) (s1 := fun z => by rw [f _ _ (by omega)]; exact h.s1 z) (s0 := fun z => by rw [f _ _ (by omega), f _ _ (by omega)]; exact h.s0 z) (bu := by rw [f _ _ (by omega)]; exact h.bu) (fb := fun g p q => ?_))
  obtain ⟨a1, a2, a3, a4⟩ := h.fb g p q
  unfold FF
  rw [f _ _ (by omega), f _ _ (by omega)]
  exact ⟨a1, a2, fun s s0 s1 y => by rw [f _ _ (by omega)]; exact a3 s s0 s1 y, a4⟩
theorem looksF_s {d : Int} {μ : am_M} (hd : 0 ≤ d ∧ d ≤ 16) (h5 : μ 310 5 = d) (h1 : μ 310 1 = 0) (ht : ∀ f, 0 ≤ f → f < d → S10 (μ 312 f)) : ∃ μ', Mc_lookAtTable 310 μ = some (0, μ') ∧ (∀ y i, ¬ (y = 310 ∧ i = 8) → μ' y i = μ y i) := by
  have hF := am_FU_ge
  have ql : ∀ (e : Int) (k : Int → am_O), q_lt e k = k e := fun _ _ => rfl
  have hT : FT 310 d μ (fun x i => if x = 1045 then μ 312 i else μ x i) := (FT.mk (d0 := hd) (tb := fun f p q => ⟨rfl, ht f p q⟩))
  have ly : Mc_lying 310 μ = some (_, μ) := lying_L m310 hT h5 d.toNat am_FU 0 0 (by omega) (by omega) (by omega)
  generalize foldP _ d.toNat 0 0 = r at ly
  refine ⟨m_st μ 310 8 (if μ 310 8 < r then r else μ 310 8), ?_, fun y i p => by rw [m_st_d, if_neg p]⟩
  have e1 : ∀ v, m_st μ 310 8 v 310 1 = 0 := fun v => by rw [m_st_i (by decide)]; exact h1
  unfold Mc_lookAtTable
  rw [q_gd_s (mO3 m310), ly, q_bd_s, ql, q_pf_d, if_pos (e1 _)]
/-- a line of free use -/
theorem workF_s {b B W n d : Int} {Wn : Int → Int} {μ ν : am_M} (h : FM b B W n d Wn μ ν) (hd1 : 1 ≤ d) : ∃ r μ' ν', Mc_work 310 b μ = some (r, μ') ∧ M_worksFree ν = some (r, ν') ∧ SFC 310 μ μ' ∧ SFF ν ν' ∧ ((r = 0 ∧ (μ' 310 6 = 4 ∨ μ' 310 6 = 5)) ∨ (r = 1 ∧ ∃ d', FM b B W n d' Wn μ' ν')) := by
  obtain ⟨k, l, x, r, ht⟩ := FTP_of h hd1
  have hd := h.dd
  have hbo := ht.bi.bo
  have l0 := ht.li.ck.l0
  have hkd := ht.li.ck.kd
  have k0 := ht.li.k0
  have rg := ht.li.rg
  have e2 : b + 1 + 1 = b + 2 := by omega
  have hnl : μ (310 + 1) (d - 1) = l := by rw [← ht.el]; exact (h.fb (d - 1) (by omega) (by omega)).1
  obtain ⟨e, f1, f2, f3, f4⟩ := readsF_s ht
  have eC : Mc_work 310 b μ = if ν 1002 l = 4 then (if d < 16 then Mc_work_B55 310 b (b + 1) (d - 1) l (ν 1002 l) μ else q_pf 310 6 4 μ fun μ8 => some (0, μ8)) else Mc_work_B55 310 b (b + 1) (d - 1) l (ν 1002 l) μ := by
    unfold Mc_work
    rw [q_gd_s (bO0 hbo), q_gd_s (mO3 m310), h.c5, w32_i (x := d - 1) (by omega) (by omega), mat1 m310, if_pos (show 0 ≤ d - 1 ∧ d - 1 < 16 by omega), q_bd_s, hnl, q_gd_s (bO2 hbo), e2, bat2 hbo, if_pos l0, q_bd_s, hkd.1, h.c5]
  have eR : M_worksFree ν = if e = 0 then some (0, ν) else if ν 1002 l = 4 then (if d = 16 then some (0, ν) else M_worksFree_B44 (d - 1) l ν) else M_worksFree_B44 (d - 1) l ν := by
    unfold M_worksFree
    rw [h.r5, w32_i (x := d - 1) (by omega) (by omega), q_ld_s (by omega) (by omega), ht.el, f2, q_bd_s, q_ld_s (by omega) (by omega), h.r5]
  by_cases z : ν 1002 l = 4 ∧ d = 16
  · rw [if_pos z.1, if_neg (by omega), q_pf_d] at eC
    refine ⟨0, _, ν, eC, ?_, fun y i p q w => by rw [m_st_d, if_neg (by omega)], SFF.rf, Or.inl ⟨rfl, Or.inl (by rw [m_st_d, if_pos ⟨rfl, rfl⟩])⟩⟩
    rw [eR, if_pos z.1, if_pos z.2]
    split <;> rfl
  have eC2 : Mc_work 310 b μ = Mc_work_B55 310 b (b + 1) (d - 1) l (ν 1002 l) μ := by
    rw [eC]
    by_cases y : ν 1002 l = 4
    · rw [if_pos y, if_pos (by omega)]
    · rw [if_neg y]
  by_cases ez : e = 0
  · rw [if_pos ez] at eR
    refine ⟨0, m_st μ 310 6 5, ν, ?_, eR, fun y i p q w => by rw [m_st_d, if_neg (by omega)], SFF.rf, Or.inl ⟨rfl, Or.inr (by rw [m_st_d, if_pos ⟨rfl, rfl⟩])⟩⟩
    rw [eC2]
    unfold Mc_work_B55
    rw [q_gd_s (mO3 m310), f1, q_bd_s, if_pos ez, q_pf_d]
  have eR2 : M_worksFree ν = M_worksFree_B44 (d - 1) l ν := by
    rw [eR, if_neg ez]
    by_cases y : ν 1002 l = 4
    · rw [if_pos y, if_neg (by omega)]
    · rw [if_neg y]
  have hall := f4 (by omega)
  have K : KF b B W n d l (ν 1002 l) Wn μ ν := by
    have cases : ν 1002 l = 1 ∨ ν 1002 l = 2 ∨ (ν 1002 l = 3 ∨ ν 1002 l = 6 ∨ ν 1002 l = 7) ∨ ν 1002 l = 4 ∨ ν 1002 l = 5 ∨ ν 1002 l = 8 := by omega
    rcases cases with y | y | y | y | y | y
    · rw [y]; exact kf_let ht y (hall (by omega))
    · rw [y]; exact kf_twin ht y (hall (by omega))
    · exact kf_rest ht y
    · rw [y]; exact kf_call ht y (hall (by omega)) (by omega)
    · rw [y]; exact kf_if ht y (hall (by omega))
    · rw [y]; exact kf_give ht y (hall (by omega))
  obtain ⟨μ2, ν2, d', b1, b2, b3, b4, b5⟩ := K
  generalize hμ3 : m_st μ2 310 11 (w32 (μ2 310 11 + 1)) = μ3
  have g3 : ∀ y i, ¬ (y = 310 ∧ i = 11) → μ3 y i = μ2 y i := fun y i w => by rw [← hμ3, m_st_d, if_neg w]
  obtain ⟨μ4, c1, c2⟩ := looksF_s (μ := μ3) b3.dd (by rw [g3 _ _ (by omega)]; exact b3.c5) (by rw [g3 _ _ (by omega)]; exact b3.bu) (fun f p q => by rw [g3 _ _ (by omega), (b3.fb f p q).2.1.1]; exact (b3.fb f p q).2.1.2)
  refine ⟨1, μ4, ν2, ?_, by rw [eR2, b2], b4.tr (fun y i p q w => by rw [c2 y i (by omega), g3 y i (by omega)]), b5, Or.inr ⟨rfl, d', b3.cong (fun y i p => by rw [c2 y i (by omega), g3 y i (by omega)])⟩⟩
  rw [eC2]
  unfold Mc_work_B55
  rw [q_gd_s (mO3 m310), f1, q_bd_s, if_neg ez, w32_i (x := l + 1) (by omega) (by omega), mput1 m310, if_pos (by omega), q_bd_s]
  have ec : m_st μ (310 + 1) (d - 1) (l + 1) = cF d l μ := rfl
  rw [ec, b1, q_bd_s, q_pf_d, hμ3, c1, q_bd_s]
theorem goF_L {b B W n : Int} {Wn : Int → Int} : ∀ (m fu fu' : Nat) (k d : Int) (μ ν : am_M), k + m = 3000 → 0 ≤ k → m < fu → m + 1 < fu' → FM b B W n d Wn μ ν → ∃ r μ' ν', Mc_go_L2 fu 310 b 3000 k μ = some (r, μ') ∧ SFC 310 μ μ' ∧ SFF ν ν' ∧ ((M_free_L73 fu' 1 k ν = M_free_B123 0 ν' ∧ μ' 310 6 = 2 ∧ μ' 310 7 = ν' 1000 74) ∨ (M_free_L73 fu' 1 k ν = M_free_B122 ν' ∧ μ' 310 6 ≠ 2))
  | m, 0, _, _, _, _, _, _, _, h, _, _ => by omega
  | m, _ + 1, 0, _, _, _, _, _, _, _, h, _ => by omega
  | m, fu + 1, fu' + 1, k, d, μ, ν, hk, h0, hf, hf', h => by
    have hd := h.dd
    have e1 : Mc_go_L2 (fu + 1) 310 b 3000 k μ = Mc_go_L2_b (Mc_go_L2 fu) 310 b 3000 k μ := rfl
    have e2 : M_free_L73 (fu' + 1) 1 k ν = M_free_L73_b (M_free_L73 fu') 1 k ν := rfl
    rw [e1, e2]
    unfold Mc_go_L2_b M_free_L73_b M_free_B105
    rw [q_gd_s (mO3 m310), h.r5]
    by_cases d0 : d = 0
    · obtain ⟨y1, y2⟩ := h.s0 d0
      refine ⟨k, μ, ν, ?_, SFC.rf, SFF.rf, Or.inl ⟨?_, y1, y2⟩⟩
      · rw [y1, if_neg (show ¬ (2 : Int) = 1 by decide)]
        split <;> rfl
      · rw [if_neg (show ¬ (1 : Int) = 0 by decide), if_pos (show d ≤ 0 by omega), if_neg (show ¬ (1 : Int) = 0 by decide), if_pos d0]
        split <;> rfl
    have s1 := h.s1 (by omega)
    cases m with
    | zero =>
      refine ⟨k, μ, ν, by rw [if_neg (by omega)], SFC.rf, SFF.rf, Or.inr ⟨?_, by rw [s1]; decide⟩⟩
      rw [if_neg (show ¬ k < 3000 by omega), if_neg (show ¬ (1 : Int) = 0 by decide), if_neg d0]
    | succ m =>
      rw [if_pos (show k < 3000 by omega), if_pos (show k < 3000 by omega), s1, if_pos rfl, if_neg (show ¬ (1 : Int) = 0 by decide), if_neg (show ¬ d ≤ 0 by omega)]
      obtain ⟨r, μ1, ν1, a1, a2, a3, a4, a5⟩ := workF_s h (by omega)
      rw [a1, a2, q_bd_s, q_bd_s, w32_i (x := k + 1) (by omega) (by omega)]
      rcases a5 with ⟨y1, y2⟩ | ⟨y1, d', y2⟩
      · rw [if_pos y1, y1]
        refine ⟨k, μ1, ν1, rfl, a3, a4, Or.inr ⟨?_, by omega⟩⟩
        cases fu' with
        | zero => omega
        | succ fu' =>
          show M_free_L73_b (M_free_L73 fu') 0 (k + 1) ν1 = _
          unfold M_free_L73_b M_free_B105
          rw [if_pos rfl, if_pos rfl]
          split <;> rfl
      · rw [if_neg (by omega), y1]
        obtain ⟨r', μ', ν', b1, b2, b3, b4⟩ := goF_L m fu fu' (k + 1) d' μ1 ν1 (by omega) (by omega) (by omega) (by omega) y2
        exact ⟨r', μ', ν', b1, a3.tr b2, a4.tr b3, b4⟩
/-- free use: no such bill -/
theorem free_no {v v1 v2 v3 v4 B : Int} {ν : am_M} (hB : ν 1013 1 = B) (hv : ¬ (0 ≤ v ∧ v < B)) : M_free v v1 v2 v3 v4 ν = some (0, m_st ν 1000 0 1) := by
  unfold M_free M_free_B14
  rw [isBill_p hB, q_bd_s, if_pos (by rw [if_neg hv]), q_pf_d, if_pos (by rw [m_st_d, if_pos ⟨rfl, rfl⟩])]
theorem free_s {b B W n v v1 v2 v3 v4 : Int} {Wn : Int → Int} {μ ν : am_M} (h : TB b B W n Wn μ ν) (hv : 0 ≤ v ∧ v < B) (hbu : μ 310 1 = 0) (r1 : r32 v1) (r2 : r32 v2) (r3 : r32 v3) (r4 : r32 v4) : ∃ μ1 μ2 μ3 r ν', Mc_take 310 v1 v2 v3 v4 μ = some (0, μ1) ∧ Mc_start 310 b v μ1 = some (0, μ2) ∧ Mc_go 310 b 3000 μ2 = some (r, μ3) ∧ SFC 310 μ μ1 ∧ SFC 310 μ1 μ2 ∧ SFC 310 μ2 μ3 ∧ SFF (m_st ν 1000 0 (ν' 1000 0)) ν' ∧ ((μ3 310 6 = 2 ∧ M_free v v1 v2 v3 v4 ν = some (μ3 310 7, ν') ∧ ν' 1000 0 = 0) ∨ (μ3 310 6 ≠ 2 ∧ M_free v v1 v2 v3 v4 ν = some (0, ν') ∧ ν' 1000 0 = 1)) := by
  have hF := am_FU_ge
  have hbo := h.bo
  have hb' : b = 100 ∨ b = 200 := hbo
  have hB := h.cB
  have bi := BI_of h hv
  have htt := bi.tt
  have hfn := bi.fn
  -- the class
  obtain ⟨μ1, a1, a2, a3⟩ := mtake_s (c := 310) (v1 := v1) (v2 := v2) (v3 := v3) (v4 := v4) (μ := μ) m310
  obtain ⟨μ2, b1, b2, b3⟩ := stand_s (c := 310) (m := μ1) rfl
  generalize hμ3 : m_st μ2 310 6 1 = μ3
  have m3 : ∀ y i, ¬ (y = 313) → ¬ (y = 310 ∧ 5 ≤ i ∧ i ≤ 11) → μ3 y i = μ y i := fun y i p q => by rw [← hμ3, m_st_d, if_neg (by omega), b3 y i (by omega), a3 y i (by omega)]
  have bi3 : BI b B v μ3 ν := (BI.mk (bo := bi.bo) (kk := bi.kk) (r15 := by rw [m3 _ _ (by omega) (by omega)]; exact bi.r15) (r16 := by rw [m3 _ _ (by omega) (by omega)]; exact bi.r16) (r17 := by rw [m3 _ _ (by omega) (by omega)]; exact bi.r17) (r18 := by rw [m3 _ _ (by omega) (by omega)]; exact bi.r18) (fn := bi.fn) (tt := bi.tt) (sx := bi.sx) (tk := bi.tk))
  obtain ⟨μ4, c1, c2, c3, c4, c5⟩ := enter_s (c := 310) (d := 0) m310 (by omega) bi3 (by rw [← hμ3, m_st_i (by decide)]; exact b2 5 (by decide) (by decide))
  have m4 : ∀ y i, ¬ (311 ≤ y ∧ y ≤ 313) → ¬ (y = 310 ∧ 5 ≤ i ∧ i ≤ 11) → μ4 y i = μ y i := fun y i p q => by rw [c5 y i (by omega) (by omega) (by omega), m3 y i (by omega) q]
  have v4' : ∀ i, 0 ≤ i → i < 4 → μ4 313 i = if i = 0 then v1 else if i = 1 then v2 else if i = 2 then v3 else v4 := fun i p q => by
    rw [c5 _ _ (by omega) (by omega) (by omega), ← hμ3, m_st_c (by decide), b3 _ _ (by omega)]
    exact a2 i p q
  have t19 := tset_s htt
  obtain ⟨μ5, e1, e2⟩ := looksF_s (d := 1) (μ := μ4) (by omega) c4 (by rw [m4 _ _ (by omega) (by omega)]; exact hbu) (fun f p q => by
    have : f = 0 := by omega
    subst this
    have c3' : μ4 312 0 = tset (ν 1019 v) := c3
    rw [c3']; exact t19.1)
  have eS : Mc_start 310 b v μ1 = some (0, μ5) := by
    unfold Mc_start
    rw [q_gd_s (mO3 m310), b1, q_bd_s, q_pf_d, hμ3, c1, q_bd_s, e1, q_bd_s]
  -- the reference
  generalize hν0 : m_st ν 1000 0 0 = ν0
  generalize hν2 : m_st (m_st (m_st (m_st ν0 1047 0 v1) 1047 1 v2) 1047 2 v3) 1047 3 v4 = ν2
  generalize hν3 : m_st ν2 1000 73 0 = ν3
  have f0 : ∀ y i, ¬ (y = 1000 ∧ i = 0) → ν0 y i = ν y i := fun y i p => by rw [← hν0, m_st_d, if_neg p]
  have w2 : ∀ i, 0 ≤ i → i < 4 → ν2 1047 i = if i = 0 then v1 else if i = 1 then v2 else if i = 2 then v3 else v4 := fun i p q => by
    rw [← hν2]
    have : i = 0 ∨ i = 1 ∨ i = 2 ∨ i = 3 := by omega
    rcases this with z | z | z | z <;> (subst z; simp [m_st_d])
  have n2 : ∀ y i, y ≠ 1047 → ν2 y i = ν0 y i := fun y i p => by rw [← hν2, m_st_c p, m_st_c p, m_st_c p, m_st_c p]
  have n3 : ∀ y i, ¬ (y = 1000 ∧ i = 73) → ν3 y i = ν2 y i := fun y i p => by rw [← hν3, m_st_d, if_neg p]
  have g3 : ∀ y, 1001 ≤ y → y ≤ 1046 → ν3 y = ν y := fun y p q => funext fun i => by rw [n3 y i (by omega), n2 y i (by omega), f0 y i (by omega)]
  have bi4 : BI b B v μ ν3 := (BI.mk (bo := bi.bo) (kk := bi.kk) (r15 := by rw [g3 1017 (by decide) (by decide)]; exact bi.r15) (r16 := by rw [g3 1018 (by decide) (by decide)]; exact bi.r16) (r17 := by rw [g3 1019 (by decide) (by decide)]; exact bi.r17) (r18 := by rw [g3 1020 (by decide) (by decide)]; exact bi.r18) (fn := by rw [g3 1017 (by decide) (by decide), g3 1018 (by decide) (by decide), g3 1019 (by decide) (by decide)]; exact bi.fn) (tt := by rw [g3 1019 (by decide) (by decide)]; exact bi.tt) (sx := by rw [g3 1020 (by decide) (by decide)]; exact bi.sx) (tk := by rw [g3 1019 (by decide) (by decide), g3 1017 (by decide) (by decide), g3 1002 (by decide) (by decide), g3 1003 (by decide) (by decide)]; exact bi.tk))
  obtain ⟨ν4, d1, d2, d3, d4, d5, d6, d7⟩ := opensF_s (d := 0) (by omega) bi4 (by rw [← hν3, m_st_d, if_pos ⟨rfl, rfl⟩])
  rw [g3 1017 (by decide) (by decide), g3 1019 (by decide) (by decide)] at d3
  rw [g3 1019 (by decide) (by decide)] at d4 d6
  have n4 : ∀ y i, ¬ (y = 1000 ∧ i = 73) → ¬ (1047 ≤ y ∧ y ≤ 1051) → ν4 y i = ν0 y i := fun y i p q => by rw [d7 y i (by omega) (by omega) p, n3 y i p, n2 y i (by omega)]
  have sf : SFF ν0 ν4 := fun y i p q w => n4 y i (by omega) w
  have sc1 : SFC 310 μ μ1 := fun y i p q w => a3 y i (by omega)
  have sc2 : SFC 310 μ1 μ5 := fun y i p q w => by rw [e2 y i (by omega), m4 y i (by omega) (by omega), a3 y i (by omega)]
  have m5 : ∀ y i, ¬ (311 ≤ y ∧ y ≤ 313) → ¬ (y = 310 ∧ 5 ≤ i ∧ i ≤ 11) → μ5 y i = μ y i := fun y i p q => by rw [e2 y i (by omega), m4 y i p q]
  have tg : TG ν ν4 := fun x p => funext fun i => by rw [n4 x i (by omega) (by omega), f0 x i (by omega)]
  have tf : TF b μ μ5 := fun x p q => funext fun i => m5 x i (by omega) (by omega)
  have fm : FM b B W n 1 Wn μ5 ν4 := by
    refine (FM.mk (td := h.tf tf tg) (dd := by omega) (c5 := by rw [e2 _ _ (by omega)]; exact c4) (r5 := d5) (s1 := fun _ => by rw [e2 _ _ (by omega), c5 _ _ (by omega) (by omega) (by omega), ← hμ3, m_st_d, if_pos ⟨rfl, rfl⟩]) (s0 := fun z => by omega) (bu := by rw [m5 _ _ (by omega) (by omega)]; exact hbu) (fb := fun f p q => ?_))
    have ef : f = 0 := by omega
    subst ef
    unfold FF
    rw [d3, d4]
    refine ⟨by rw [e2 _ _ (by omega)]; exact c2, ⟨by rw [e2 _ _ (by omega)]; exact c3, t19.1⟩, fun s p0 p1 y => ?_, v, hv, by rw [tg 1017 (by omega), tg 1018 (by omega), tg 1019 (by omega)]; omega, fun z => by omega⟩
    have s2 := (t19.2 s p0 p1).mp y
    have e0 : (10 : Int) * 0 + s = s := by omega
    have d6' := d6 s p0 s2
    rw [e0] at d6' ⊢
    rw [e2 _ _ (by omega), v4' s p0 (by omega), d6', n3 _ _ (by omega), w2 s p0 (by omega)]
    refine ⟨rfl, ?_⟩
    split
    · exact r1
    · split
      · exact r2
      · split
        · exact r3
        · exact r4
  obtain ⟨r, μ6, ν6, k1, k2, k3, k4⟩ := goF_L 3000 am_FU am_FU 0 1 μ5 ν4 (by omega) (by omega) (by omega) (by omega) fm
  have eM : M_free v v1 v2 v3 v4 ν = M_free_L73 am_FU 1 0 ν4 := by
    have hz : (if 0 ≤ v ∧ v < B then (1 : Int) else 0) = 1 := if_pos hv
    have e00 : ν0 1000 0 = 0 := by rw [← hν0, m_st_d, if_pos ⟨rfl, rfl⟩]
    unfold M_free M_free_B14
    rw [isBill_p hB.2.1, q_bd_s, hz, if_neg (show ¬ (1 : Int) = 0 by decide), q_pf_d, hν0, e00, if_neg (show ¬ (0 : Int) = 1 by decide), q_st_s (by decide) (by decide), q_st_s (by decide) (by decide), q_st_s (by decide) (by decide), q_st_s (by decide) (by decide), hν2, q_pf_d, hν3, d1, q_bd_s]
  rcases k4 with ⟨y1, y2, y3⟩ | ⟨y1, y2⟩
  · have ef : M_free v v1 v2 v3 v4 ν = some (μ6 310 7, m_st ν6 1000 0 0) := by
      have e0 : m_st ν6 1000 0 0 1000 0 = 0 := by rw [m_st_d, if_pos ⟨rfl, rfl⟩]
      rw [eM, y1]
      unfold M_free_B123
      rw [q_pf_d, e0, if_neg (show ¬ (0 : Int) = 1 by decide), m_st_i (by decide), y3]
    refine ⟨μ1, μ5, μ6, r, m_st ν6 1000 0 0, a1, eS, k1, sc1, sc2, k2, ?_, Or.inl ⟨y2, ef, by rw [m_st_d, if_pos ⟨rfl, rfl⟩]⟩⟩
    intro y i p q w
    have e0 : m_st ν6 1000 0 0 1000 0 = 0 := by rw [m_st_d, if_pos ⟨rfl, rfl⟩]
    rw [e0]
    by_cases c : y = 1000 ∧ i = 0
    · rw [m_st_d, if_pos c, m_st_d, if_pos c]
    · rw [m_st_d, if_neg c, m_st_d, if_neg c, k3 y i p q w, sf y i p q w, f0 y i c]
  · have ef : M_free v v1 v2 v3 v4 ν = some (0, m_st ν6 1000 0 1) := by
      have e0 : m_st ν6 1000 0 1 1000 0 = 1 := by rw [m_st_d, if_pos ⟨rfl, rfl⟩]
      rw [eM, y1]
      unfold M_free_B122 M_free_B123
      rw [q_pf_d, e0, if_pos rfl]
    refine ⟨μ1, μ5, μ6, r, m_st ν6 1000 0 1, a1, eS, k1, sc1, sc2, k2, ?_, Or.inr ⟨y2, ef, by rw [m_st_d, if_pos ⟨rfl, rfl⟩]⟩⟩
    intro y i p q w
    have e0 : m_st ν6 1000 0 1 1000 0 = 1 := by rw [m_st_d, if_pos ⟨rfl, rfl⟩]
    rw [e0]
    by_cases c : y = 1000 ∧ i = 0
    · rw [m_st_d, if_pos c, m_st_d, if_pos c]
    · rw [m_st_d, if_neg c, m_st_d, if_neg c, k3 y i p q w, sf y i p q w, f0 y i c]
