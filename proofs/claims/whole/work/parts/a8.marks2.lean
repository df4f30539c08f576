/-! The promise of mark, both sides. -/
theorem keep_sc {k v j i : Int} {ν ν1 : am_M} (hk : 0 ≤ k ∧ k < 4) (hj : 0 ≤ j ∧ j < 217) (h : KPS k v j ν ν1) (h1 : clc j = 1000) (h2 : cli j = i) : ∃ ν2, (∀ K : am_M → am_O, (q_bd (M_keeps (ν1 1000 i) v ν1) fun a m => q_pf 1000 i a m K) = K ν2) ∧ KPS k v (j + 1) ν ν2 := by
  obtain ⟨a, m1, a1, a2, -, -⟩ := KPS.step hk hj h rfl
  rw [h1, h2] at a1 a2
  exact ⟨_, fun K => by rw [a1, q_bd_s, q_pf_d], a2⟩
theorem keep_ar {k v j i x n : Int} {ν ν1 : am_M} (hk : 0 ≤ k ∧ k < 4) (hj : 0 ≤ j ∧ j < 217) (h : KPS k v j ν ν1) (h1 : clc j = x) (h2 : cli j = i) (h0 : 0 ≤ i ∧ i < n) : ∃ ν2, (∀ K : am_M → am_O, (q_ld n x i ν1 fun a1 => q_bd (M_keeps a1 v ν1) fun a m => q_st n x i a m K) = K ν2) ∧ KPS k v (j + 1) ν ν2 := by
  obtain ⟨a, m1, a1, a2, -, -⟩ := KPS.step hk hj h rfl
  rw [h1, h2] at a1 a2
  exact ⟨_, fun K => by rw [q_ld_s h0.1 h0.2, a1, q_bd_s, q_st_s h0.1 h0.2], a2⟩
theorem clc_sc {p : Int} (h : p < 9) : clc p = 1000 := if_pos h
theorem cl_fr {f j : Int} (hf : 0 ≤ f ∧ f < 16) (hj : 0 ≤ j ∧ j < 3) : clc (9 + 3 * f + j) = 1043 + j ∧ cli (9 + 3 * f + j) = f := by
  unfold clc cli
  rw [if_neg (by omega), if_pos (by omega), if_neg (by omega), if_neg (by omega), if_pos (by omega)]
  omega
theorem cl_vl {i : Int} (hi : 0 ≤ i) : clc (57 + i) = 1046 ∧ cli (57 + i) = i := by
  unfold clc cli
  rw [if_neg (by omega), if_neg (by omega), if_neg (by omega), if_neg (by omega), if_neg (by omega)]
  omega
theorem mk_V {k v : Int} {ν : am_M} (hk : 0 ≤ k ∧ k < 4) : ∀ (n fu : Nat) (i : Int) (ν1 : am_M), i + n = 160 → 0 ≤ i → n < fu → KPS k v (57 + i) ν ν1 → ∃ ν', M_mark_L229 fu v i ν1 = some (1, ν') ∧ KPS k v 217 ν ν'
  | n, 0, _, _, _, _, h, _ => by omega
  | 0, fu + 1, i, ν1, hi, h0, _, h => by
    have e : 57 + i = 217 := by omega
    rw [e] at h
    refine ⟨ν1, ?_, h⟩
    show M_mark_L229_b (M_mark_L229 fu) v i ν1 = _
    unfold M_mark_L229_b
    rw [if_neg (by omega)]
  | n + 1, fu + 1, i, ν1, hi, h0, hf, h => by
    obtain ⟨ν2, a1, a2⟩ := keep_ar (n := 160) hk (by omega) h (cl_vl h0).1 (cl_vl h0).2 (by omega)
    have e : 57 + i + 1 = 57 + (i + 1) := by omega
    rw [e] at a2
    obtain ⟨ν', b1, b2⟩ := mk_V hk n fu (i + 1) ν2 (by omega) (by omega) (by omega) a2
    refine ⟨ν', ?_, b2⟩
    rw [← b1]
    show M_mark_L229_b (M_mark_L229 fu) v i ν1 = _
    unfold M_mark_L229_b
    rw [if_pos (by omega), w32_i (x := i + 1) (by omega) (by omega)]
    exact a1 (fun μ4 => M_mark_L229 fu v (i + 1) μ4)
theorem mk_F {k v : Int} {ν : am_M} (hk : 0 ≤ k ∧ k < 4) : ∀ (n fu : Nat) (f : Int) (ν1 : am_M), f + n = 16 → 0 ≤ f → n < fu → KPS k v (9 + 3 * f) ν ν1 → ∃ ν', M_mark_L164 fu v f ν1 = some (1, ν') ∧ KPS k v 217 ν ν'
  | n, 0, _, _, _, _, h, _ => by omega
  | 0, fu + 1, f, ν1, hi, h0, _, h => by
    have hF := am_FU_ge
    have e : 9 + 3 * f = 57 + 0 := by omega
    rw [e] at h
    obtain ⟨ν', b1, b2⟩ := mk_V hk 160 am_FU 0 ν1 (by omega) (by omega) (by omega) h
    refine ⟨ν', ?_, b2⟩
    show M_mark_L164_b (M_mark_L164 fu) v f ν1 = _
    unfold M_mark_L164_b
    rw [if_neg (by omega), b1]
  | n + 1, fu + 1, f, ν1, hi, h0, hf, h => by
    have e0 : 9 + 3 * f + 0 = 9 + 3 * f := by omega
    have e1 : 9 + 3 * f + 1 = 9 + 3 * f + 1 := rfl
    have e2 : 9 + 3 * f + 1 + 1 = 9 + 3 * f + 2 := by omega
    have e3 : 9 + 3 * f + 2 + 1 = 9 + 3 * (f + 1) := by omega
    have c0 := cl_fr (f := f) (j := 0) (by omega) (by omega)
    have c1 := cl_fr (f := f) (j := 1) (by omega) (by omega)
    have c2 := cl_fr (f := f) (j := 2) (by omega) (by omega)
    rw [e0] at c0
    obtain ⟨ν2, a1, a2⟩ := keep_ar (n := 16) hk (by omega) h c0.1 c0.2 (by omega)
    obtain ⟨ν3, a3, a4⟩ := keep_ar (n := 16) hk (by omega) a2 c1.1 c1.2 (by omega)
    rw [e2] at a4
    obtain ⟨ν4, a5, a6⟩ := keep_ar (n := 16) hk (by omega) a4 c2.1 c2.2 (by omega)
    rw [e3] at a6
    obtain ⟨ν', b1, b2⟩ := mk_F hk n fu (f + 1) ν4 (by omega) (by omega) (by omega) a6
    refine ⟨ν', ?_, b2⟩
    rw [← b1]
    show M_mark_L164_b (M_mark_L164 fu) v f ν1 = _
    unfold M_mark_L164_b
    rw [if_pos (by omega), w32_i (x := f + 1) (by omega) (by omega)]
    refine (a1 _).trans ?_
    refine (a3 _).trans ?_
    exact a5 _
theorem mark_r {k v : Int} {ν : am_M} (hk : 0 ≤ k ∧ k < 4) : ∃ ν', M_mark_B29 k v ν = some (1, ν') ∧ KPS k v 217 (m_st (m_st ν 1062 k 1) 1000 90 (240 * k)) ν' := by
  have hF := am_FU_ge
  generalize hν0 : m_st (m_st ν 1062 k 1) 1000 90 (240 * k) = ν0
  have e240 : 240 * k + 0 = 240 * k := by omega
  have h0 : KPS k v 0 ν0 ν0 := (KPS.mk (at_ := by rw [← hν0, m_st_d, if_pos ⟨rfl, rfl⟩]; omega) (s0 := fun _ p p0 p1 => by omega) (s1 := fun _ p p0 p1 => by omega) (nx := fun _ _ _ => rfl) (k0 := fun _ _ _ _ => rfl) (m1 := fun _ _ _ => rfl) (m2 := fun _ _ => rfl) (fr := fun _ _ _ _ _ => rfl))
  obtain ⟨n1, a1, b1⟩ := keep_sc (i := 55) hk (by omega) h0 rfl rfl
  obtain ⟨n2, a2, b2⟩ := keep_sc (i := 56) hk (by omega) b1 rfl rfl
  obtain ⟨n3, a3, b3⟩ := keep_sc (i := 57) hk (by omega) b2 rfl rfl
  obtain ⟨n4, a4, b4⟩ := keep_sc (i := 58) hk (by omega) b3 rfl rfl
  obtain ⟨n5, a5, b5⟩ := keep_sc (i := 63) hk (by omega) b4 rfl rfl
  obtain ⟨n6, a6, b6⟩ := keep_sc (i := 64) hk (by omega) b5 rfl rfl
  obtain ⟨n7, a7, b7⟩ := keep_sc (i := 65) hk (by omega) b6 rfl rfl
  obtain ⟨n8, a8, b8⟩ := keep_sc (i := 66) hk (by omega) b7 rfl rfl
  obtain ⟨n9, a9, b9⟩ := keep_sc (i := 67) hk (by omega) b8 rfl rfl
  obtain ⟨ν', c1, c2⟩ := mk_F hk 16 am_FU 0 n9 (by omega) (by omega) (by omega) b9
  refine ⟨ν', ?_, c2⟩
  unfold M_mark_B29
  rw [q_stb_s hk.1 hk.2 (Or.inr rfl), q_pf_d, w32_i (x := 240 * k) (by omega) (by omega), hν0, ← c1]
  refine (a1 _).trans ((a2 _).trans ((a3 _).trans ((a4 _).trans ((a5 _).trans ((a6 _).trans ((a7 _).trans ((a8 _).trans ?_)))))))
  exact a9 _
/-- the reference as a mark keeps it -/
def vw (k : Int) (ν : am_M) : am_M := fun c i => if c = 1000 ∧ 55 ≤ i ∧ i ≤ 58 then ν 1063 (240 * k + (i - 55)) else if c = 1000 ∧ 63 ≤ i ∧ i ≤ 67 then ν 1063 (240 * k + (i - 59)) else if 1043 ≤ c ∧ c ≤ 1045 then ν 1063 (240 * k + (9 + 3 * i + (c - 1043))) else if c = 1046 then ν 1063 (240 * k + (57 + i)) else ν c i
theorem vw_sc {k i : Int} {ν : am_M} (h : (55 ≤ i ∧ i ≤ 58) ∨ (63 ≤ i ∧ i ≤ 67)) : ∃ p, 0 ≤ p ∧ p < 9 ∧ vw k ν 1000 i = ν 1063 (240 * k + p) ∧ clc p = 1000 ∧ cli p = i := by
  rcases h with h | h
  · refine ⟨i - 55, by omega, by omega, ?_, clc_sc (by omega), ?_⟩
    · unfold vw
      rw [if_pos ⟨rfl, h⟩]
    · unfold cli
      rw [if_pos (by omega)]; omega
  · refine ⟨i - 59, by omega, by omega, ?_, clc_sc (by omega), ?_⟩
    · unfold vw
      rw [if_neg (by omega), if_pos ⟨rfl, h⟩]
    · unfold cli
      rw [if_neg (by omega), if_pos (by omega)]; omega
theorem vw_fr {k x i : Int} {ν : am_M} (hx : 1043 ≤ x ∧ x ≤ 1045) (hi : 0 ≤ i ∧ i < 16) : ∃ p, 0 ≤ p ∧ p < 217 ∧ vw k ν x i = ν 1063 (240 * k + p) ∧ clc p = x ∧ cli p = i := by
  have := cl_fr (f := i) (j := x - 1043) hi (by omega)
  refine ⟨9 + 3 * i + (x - 1043), by omega, by omega, ?_, by omega, this.2⟩
  unfold vw
  rw [if_neg (by omega), if_neg (by omega), if_pos hx]
theorem vw_vl {k i : Int} {ν : am_M} (hi : 0 ≤ i ∧ i < 160) : vw k ν 1046 i = ν 1063 (240 * k + (57 + i)) ∧ clc (57 + i) = 1046 ∧ cli (57 + i) = i := by
  refine ⟨?_, cl_vl hi.1⟩
  unfold vw
  rw [if_neg (by omega), if_neg (by omega), if_neg (by omega), if_pos rfl]
theorem vw_o {k c : Int} {ν : am_M} (h : c ≠ 1000) (h2 : ¬ (1043 ≤ c ∧ c ≤ 1046)) : vw k ν c = ν c := funext fun i => by
  unfold vw
  rw [if_neg (by omega), if_neg (by omega), if_neg (by omega), if_neg (by omega)]
def MKS (b B W n : Int) (Wn : Int → Int) (μ ν : am_M) : Prop := (∀ k, 0 ≤ k → k < 4 → μ 70 k = 320 + 10 * k) ∧ (∀ k, 0 ≤ k → k < 4 → μ (320 + 10 * k) 1 = 1) ∧ (S10 (μ 0 10)) ∧ (∀ k, 0 ≤ k → k < 4 → (tb (μ 0 10) k = true ∧ ν 1062 k = 1 ∧ ∃ d st, MR b (320 + 10 * k) B W n d st Wn μ (vw k ν)) ∨ (tb (μ 0 10) k = false ∧ ν 1062 k = 0))
theorem MKS.m70 {b B W n : Int} {Wn : Int → Int} {μ ν : am_M} (h : MKS b B W n Wn μ ν) : ∀ k, 0 ≤ k → k < 4 → μ 70 k = 320 + 10 * k := h.1
theorem MKS.mb {b B W n : Int} {Wn : Int → Int} {μ ν : am_M} (h : MKS b B W n Wn μ ν) : ∀ k, 0 ≤ k → k < 4 → μ (320 + 10 * k) 1 = 1 := h.2.1
theorem MKS.s10 {b B W n : Int} {Wn : Int → Int} {μ ν : am_M} (h : MKS b B W n Wn μ ν) : S10 (μ 0 10) := h.2.2.1
theorem MKS.bit {b B W n : Int} {Wn : Int → Int} {μ ν : am_M} (h : MKS b B W n Wn μ ν) : ∀ k, 0 ≤ k → k < 4 → (tb (μ 0 10) k = true ∧ ν 1062 k = 1 ∧ ∃ d st, MR b (320 + 10 * k) B W n d st Wn μ (vw k ν)) ∨ (tb (μ 0 10) k = false ∧ ν 1062 k = 0) := h.2.2.2
theorem MKS.mk {b B W n : Int} {Wn : Int → Int} {μ ν : am_M} (m70 : ∀ k, 0 ≤ k → k < 4 → μ 70 k = 320 + 10 * k) (mb : ∀ k, 0 ≤ k → k < 4 → μ (320 + 10 * k) 1 = 1) (s10 : S10 (μ 0 10)) (bit : ∀ k, 0 ≤ k → k < 4 → (tb (μ 0 10) k = true ∧ ν 1062 k = 1 ∧ ∃ d st, MR b (320 + 10 * k) B W n d st Wn μ (vw k ν)) ∨ (tb (μ 0 10) k = false ∧ ν 1062 k = 0)) : MKS b B W n Wn μ ν := ⟨m70, mb, s10, bit⟩
/-- a mark's machine stays -/
theorem MRm.cong {b B W n d st k : Int} {Wn : Int → Int} {μ ν μ' ν' : am_M} (hk : 0 ≤ k ∧ k < 4) (h : MR b (320 + 10 * k) B W n d st Wn μ (vw k ν)) (f : TF b μ μ') (g : TG ν ν') (a : ∀ x i, 320 + 10 * k ≤ x → x ≤ 323 + 10 * k → μ' x i = μ x i) (c : ∀ i, 240 * k ≤ i → i < 240 * k + 217 → ν' 1063 i = ν 1063 i) : MR b (320 + 10 * k) B W n d st Wn μ' (vw k ν') := by
  refine h.mv (mO_k hk) f (fun x p => by rw [vw_o (by omega) (by omega), vw_o (by omega) (by omega)]; exact g x p) (fun i _ _ => a _ i (by omega) (by omega)) (fun i _ _ => a _ i (by omega) (by omega)) (fun i _ _ => a _ i (by omega) (by omega)) (fun i _ _ => a _ i (by omega) (by omega)) (by rw [a _ _ (by omega) (by omega)]; exact h.bu) (fun i p => ?_) (fun x i p q r s => ?_) (fun i p q => ?_)
  · unfold vw
    rcases p with p | p
    · rw [if_pos ⟨rfl, p⟩, if_pos ⟨rfl, p⟩]; exact c _ (by omega) (by omega)
    · rw [if_neg (by omega), if_pos ⟨rfl, p⟩, if_neg (by omega), if_pos ⟨rfl, p⟩]; exact c _ (by omega) (by omega)
  · unfold vw
    rw [if_neg (by omega), if_neg (by omega), if_pos ⟨p, q⟩, if_neg (by omega), if_neg (by omega), if_pos ⟨p, q⟩]
    exact c _ (by omega) (by omega)
  · rw [(vw_vl ⟨p, q⟩).1, (vw_vl ⟨p, q⟩).1]
    exact c _ (by omega) (by omega)
theorem MKS.cong {b B W n : Int} {Wn : Int → Int} {μ ν μ' ν' : am_M} (h : MKS b B W n Wn μ ν) (f : TF b μ μ') (g : TG ν ν') (a : ∀ x i, (x = 70 ∨ (320 ≤ x ∧ x ≤ 353) ∨ (x = 0 ∧ i = 10)) → μ' x i = μ x i) (c : ∀ x i, x = 1062 ∨ x = 1063 → ν' x i = ν x i) : MKS b B W n Wn μ' ν' := by
  have e10 := a 0 10 (by omega)
  refine (MKS.mk (m70 := fun k p q => by rw [a 70 k (by omega)]; exact h.m70 k p q) (mb := fun k p q => by rw [a _ _ (by omega)]; exact h.mb k p q) (s10 := by rw [e10]; exact h.s10) (bit := fun k p q => ?_))
  rw [e10, c 1062 k (by omega)]
  rcases h.bit k p q with ⟨y1, y2, d, st, y3⟩ | y
  · exact Or.inl ⟨y1, y2, d, st, MRm.cong ⟨p, q⟩ y3 f g (fun x i _ _ => a x i (by omega)) (fun i _ _ => c 1063 i (by omega))⟩
  · exact Or.inr y
def MFC (μ μ' : am_M) : Prop := ∀ y i, ¬ (y = 0 ∧ i = 10) → ¬ (300 ≤ y ∧ y ≤ 303) → ¬ (320 ≤ y ∧ y ≤ 353) → μ' y i = μ y i
def MFR (ν ν' : am_M) : Prop := ∀ y i, y ≠ 1000 → ¬ (1043 ≤ y ∧ y ≤ 1046) → ¬ (1062 ≤ y ∧ y ≤ 1063) → ν' y i = ν y i
theorem mark_p {b B W n d st k v : Int} {Wn : Int → Int} {μ ν : am_M} (h : MR b 300 B W n d st Wn μ ν) (hm : MKS b B W n Wn μ ν) : ∃ r μ' ν' d' st', X_mark k v μ = some (r, μ') ∧ M_mark k v ν = some (r, ν') ∧ MR b 300 B W n d' st' Wn μ' ν' ∧ MKS b B W n Wn μ' ν' ∧ MFC μ μ' ∧ MFR ν ν' ∧ (∀ i, i ≠ 0 → ¬ (55 ≤ i ∧ i ≤ 58) → ¬ (63 ≤ i ∧ i ≤ 67) → i ≠ 90 → ν' 1000 i = ν 1000 i) := by
  have hz := h.z (v := 0)
  have hmz : MKS b B W n Wn μ (m_st ν 1000 0 0) := hm.cong (fun _ _ _ => rfl) (fun x p => funext fun i => m_st_c (by omega)) (fun _ _ _ => rfl) (fun x i p => m_st_c (by omega))
  have hb' : b = 100 ∨ b = 200 := h.cd.tb.bo
  have fz : ∀ y i, ¬ (y = 1000 ∧ i = 0) → m_st ν 1000 0 0 y i = ν y i := fun y i p => by rw [m_st_d, if_neg p]
  unfold X_mark M_mark
  rw [q_pf_d, within_g, q_bd_s]
  generalize m_st ν 1000 0 0 = ν1 at *
  by_cases c : 0 ≤ k ∧ k < 4
  rotate_left
  · have hw : (if 0 ≤ k ∧ k ≤ 3 then (1 : Int) else 0) = 0 := if_neg (by omega)
    rw [hw, if_pos (show (0 : Int) = 0 from rfl)]
    refine ⟨0, μ, ν1, d, st, ?_, rfl, hz, hmz, fun _ _ _ _ _ => rfl, fun y i p _ _ => fz y i (by omega), fun i p _ _ _ => fz 1000 i (by omega)⟩
    by_cases c0 : k < 0
    · rw [if_pos c0]
    · rw [if_neg c0, if_neg (by omega)]
  have hw : (if 0 ≤ k ∧ k ≤ 3 then (1 : Int) else 0) = 1 := if_pos (by omega)
  have h70 := hm.m70 k c.1 c.2
  have hmk := mO_k c
  rw [hw, if_neg (show ¬ (1 : Int) = 0 by decide), if_neg (show ¬ k < 0 by omega), if_pos c.2, q_ld_s c.1 c.2, h70, if_neg (show ¬ 320 + 10 * k < 0 by omega)]
  -- to lay a mark
  by_cases z : v = 0
  · rw [if_pos z, if_pos z]
    unfold X_mark_B43
    rw [if_pos z, q_gd_s (mO3 hmk)]
    obtain ⟨μ1, a1, a2, a3, a4, a5, a6⟩ := become_s (c := 300) (c' := 320 + 10 * k) (μ := μ) h.mc hmk (by omega)
    rw [a1, q_bd_s, q_pf_d]
    have e10 : μ1 0 10 = μ 0 10 := a6 _ _ (by omega) (by omega)
    rw [e10]
    generalize hμ2 : m_st μ1 0 10 (aOr (μ 0 10) (aShl 1 k)) = μ2
    have f2 : ∀ y i, ¬ (y = 0 ∧ i = 10) → μ2 y i = μ1 y i := fun y i p => by rw [← hμ2, m_st_d, if_neg p]
    have v2 : μ2 0 10 = aOr (μ 0 10) (aShl 1 k) := by rw [← hμ2, m_st_d, if_pos ⟨rfl, rfl⟩]
    obtain ⟨ν2, b1, b2⟩ := mark_r (v := v) (ν := ν1) c
    have F : ∀ y i, ¬ (y = 0 ∧ i = 10) → ¬ (y = 320 + 10 * k ∧ 5 ≤ i ∧ i ≤ 13) → ¬ (320 + 10 * k + 1 ≤ y ∧ y ≤ 320 + 10 * k + 3) → μ2 y i = μ y i := fun y i p q w => by rw [f2 y i p, a6 y i q w]
    generalize hν0 : m_st (m_st ν1 1062 k 1) 1000 90 (240 * k) = ν0 at *
    have f0 : ∀ y i, ¬ (y = 1062 ∧ i = k) → ¬ (y = 1000 ∧ i = 90) → ν0 y i = ν1 y i := fun y i p q => by rw [← hν0, m_st_d, if_neg q, m_st_d, if_neg p]
    have cl : ∀ p, 0 ≤ p → p < 217 → ν2 (clc p) (cli p) = ν1 (clc p) (cli p) := fun p p0 p1 => by
      have := cl_r p0 p1
      rw [b2.k0 z p p0 p1, f0 _ _ (by omega) (by omega)]
    have sv : ∀ p, 0 ≤ p → p < 217 → ν2 1063 (240 * k + p) = ν1 (clc p) (cli p) := fun p p0 p1 => by
      have := cl_r p0 p1
      rw [b2.s0 z p p0 p1, f0 _ _ (by omega) (by omega)]
    have tf : TF b μ μ2 := fun x p q => funext fun i => F x i (by omega) (by omega) (by omega)
    have tg : TG ν1 ν2 := fun x p => funext fun i => by rw [b2.fr x i (by omega) (by omega) (by omega), f0 x i (by omega) (by omega)]
    have sc : ∀ i, (55 ≤ i ∧ i ≤ 58) ∨ (63 ≤ i ∧ i ≤ 67) → ν2 1000 i = ν1 1000 i := fun i p => by
      obtain ⟨q, q0, q1, -, q3, q4⟩ := vw_sc (k := k) (ν := ν1) p
      have := cl q q0 (by omega)
      rw [q3, q4] at this
      exact this
    have fr : ∀ x i, 1043 ≤ x → x ≤ 1045 → 0 ≤ i → i < 16 → ν2 x i = ν1 x i := fun x i p p2 p3 p4 => by
      obtain ⟨q, q0, q1, -, q3, q4⟩ := vw_fr (k := k) (ν := ν1) ⟨p, p2⟩ ⟨p3, p4⟩
      have := cl q q0 q1
      rw [q3, q4] at this
      exact this
    have vl : ∀ i, 0 ≤ i → i < 160 → ν2 1046 i = ν1 1046 i := fun i p q => by
      have := cl (57 + i) (by omega) (by omega)
      rw [(cl_vl p).1, (cl_vl p).2] at this
      exact this
    refine ⟨1, μ2, ν2, d, st, rfl, b1, ?_, ?_, ?_, ?_, ?_⟩
    · exact hz.mv h.mc tf tg (fun i _ _ => F _ i (by omega) (by omega) (by omega)) (fun i _ _ => F _ i (by omega) (by omega) (by omega)) (fun i _ _ => F _ i (by omega) (by omega) (by omega)) (fun i _ _ => F _ i (by omega) (by omega) (by omega)) (by rw [F _ _ (by omega) (by omega) (by omega)]; exact h.bu) sc fr vl
    · have mk : MR b (320 + 10 * k) B W n d st Wn μ2 (vw k ν2) := by
        refine hz.mv hmk tf (fun x p => by rw [vw_o (by omega) (by omega)]; exact tg x p) (fun i p q => by rw [f2 _ _ (by omega)]; exact a2 i p q) (fun i p q => by rw [f2 _ _ (by omega)]; exact a3 i p q) (fun i p q => by rw [f2 _ _ (by omega)]; exact a4 i p q) (fun i p q => by rw [f2 _ _ (by omega)]; exact a5 i p q) (by rw [F _ _ (by omega) (by omega) (by omega)]; exact hm.mb k c.1 c.2) (fun i p => ?_) (fun x i p p2 p3 p4 => ?_) (fun i p q => ?_)
        · obtain ⟨q, q0, q1, q2, q3, q4⟩ := vw_sc (k := k) (ν := ν2) p
          rw [q2, sv q q0 (by omega), q3, q4]
        · obtain ⟨q, q0, q1, q2, q3, q4⟩ := vw_fr (k := k) (ν := ν2) ⟨p, p2⟩ ⟨p3, p4⟩
          rw [q2, sv q q0 q1, q3, q4]
        · have q := vw_vl (k := k) (ν := ν2) ⟨p, q⟩
          rw [q.1, sv _ (by omega) (by omega), q.2.1, q.2.2]
      refine (MKS.mk (m70 := fun j p q => by rw [F _ _ (by omega) (by omega) (by omega)]; exact hm.m70 j p q) (mb := fun j p q => by rw [F _ _ (by omega) (by omega) (by omega)]; exact hm.mb j p q) (s10 := by rw [v2]; exact S10_or hm.s10 (S10_shl c.1 (by omega))) (bit := fun j p q => ?_))
      have e62 : ν2 1062 j = ν0 1062 j := b2.fr _ _ (by omega) (by omega) (by omega)
      have vt := lay_tb (o := μ 0 10) (s := k) (t := j) (by omega) p (by omega)
      rw [v2, e62]
      by_cases y : j = k
      · subst y
        exact Or.inl ⟨vt.mpr (Or.inr rfl), by rw [← hν0, m_st_c (by decide), m_st_d, if_pos ⟨rfl, rfl⟩], d, st, mk⟩
      · rw [f0 _ _ (by omega) (by omega)]
        rcases hmz.bit j p q with ⟨y1, y2, d2, st2, y3⟩ | ⟨y1, y2⟩
        · exact Or.inl ⟨vt.mpr (Or.inl y1), y2, d2, st2, MRm.cong ⟨p, q⟩ y3 tf tg (fun x i _ _ => F x i (by omega) (by omega) (by omega)) (fun i _ _ => by rw [b2.m1 z i (by omega), f0 _ _ (by omega) (by omega)])⟩
        · refine Or.inr ⟨?_, y2⟩
          cases t : tb (aOr (μ 0 10) (aShl 1 k)) j with
          | false => rfl
          | true =>
            rcases vt.mp t with w | w
            · rw [w] at y1; cases y1
            · exact absurd w y
    · exact fun y i p q w => F y i p (by omega) (by omega)
    · exact fun y i p q w => by rw [b2.fr y i (by omega) q (by omega), f0 y i (by omega) (by omega), fz y i (by omega)]
    · exact fun i p q w u => by rw [b2.fr 1000 i (by omega) (by omega) (by omega), f0 1000 i (by omega) (by omega), fz 1000 i (by omega)]
  · -- to go back to a mark
    rw [if_neg z, if_neg z, q_ld_s c.1 c.2]
    have hbit := hmz.bit k c.1 c.2
    rcases hbit with ⟨y1, y2, d2, st2, y3⟩ | ⟨y1, y2⟩
    rotate_left
    · rw [if_pos ((bit_0 c.1 (by omega)).mpr y1), if_pos y2]
      exact ⟨0, μ, ν1, d, st, rfl, rfl, hz, hmz, fun _ _ _ _ _ => rfl, fun y i p _ _ => fz y i (by omega), fun i p _ _ _ => fz 1000 i (by omega)⟩
    rw [if_neg (fun w => by rw [bit_0 c.1 (by omega)] at w; rw [w] at y1; cases y1), if_neg (by omega)]
    unfold X_mark_B43
    rw [if_neg z]
    obtain ⟨μ1, a1, a2, a3, a4, a5, a6⟩ := become_s (c := 320 + 10 * k) (c' := 300) (μ := μ) hmk h.mc (by omega)
    rw [a1, q_bd_s]
    obtain ⟨ν2, b1, b2⟩ := mark_r (v := v) (ν := ν1) c
    generalize hν0 : m_st (m_st ν1 1062 k 1) 1000 90 (240 * k) = ν0 at *
    have f0 : ∀ y i, ¬ (y = 1062 ∧ i = k) → ¬ (y = 1000 ∧ i = 90) → ν0 y i = ν1 y i := fun y i p q => by rw [← hν0, m_st_d, if_neg q, m_st_d, if_neg p]
    have sv : ∀ p, 0 ≤ p → p < 217 → ν2 (clc p) (cli p) = ν1 1063 (240 * k + p) := fun p p0 p1 => by
      rw [b2.s1 z p p0 p1, f0 _ _ (by omega) (by omega)]
    have tf : TF b μ μ1 := fun x p q => funext fun i => a6 x i (by omega) (by omega)
    have tg : TG ν1 ν2 := fun x p => funext fun i => by rw [b2.fr x i (by omega) (by omega) (by omega), f0 x i (by omega) (by omega)]
    refine ⟨1, μ1, ν2, d2, st2, rfl, b1, ?_, ?_, ?_, ?_, ?_⟩
    · refine y3.mv h.mc tf (fun x p => by rw [vw_o (by omega) (by omega)]; exact tg x p) a2 a3 a4 a5 (by rw [a6 _ _ (by omega) (by omega)]; exact h.bu) (fun i p => ?_) (fun x i p p2 p3 p4 => ?_) (fun i p q => ?_)
      · obtain ⟨q, q0, q1, q2, q3, q4⟩ := vw_sc (k := k) (ν := ν1) p
        rw [q2, ← sv q q0 (by omega), q3, q4]
      · obtain ⟨q, q0, q1, q2, q3, q4⟩ := vw_fr (k := k) (ν := ν1) ⟨p, p2⟩ ⟨p3, p4⟩
        rw [q2, ← sv q q0 q1, q3, q4]
      · have q := vw_vl (k := k) (ν := ν1) ⟨p, q⟩
        rw [q.1, ← sv _ (by omega) (by omega), q.2.1, q.2.2]
    · have e62 : ∀ j, ν2 1062 j = ν1 1062 j := fun j => by
        rw [b2.fr _ _ (by omega) (by omega) (by omega), ← hν0, m_st_c (by decide)]
        by_cases w : j = k
        · rw [w, m_st_d, if_pos ⟨rfl, rfl⟩, y2]
        · rw [m_st_i w]
      exact hmz.cong tf tg (fun x i p => a6 x i (by omega) (by omega)) (fun x i p => by
        rcases p with p | p
        · rw [p]; exact e62 i
        · rw [p, b2.m2 z, f0 _ _ (by omega) (by omega)])
    · exact fun y i p q w => a6 y i (by omega) (by omega)
    · exact fun y i p q w => by rw [b2.fr y i (by omega) q (by omega), f0 y i (by omega) (by omega), fz y i (by omega)]
    · exact fun i p q w u => by rw [b2.fr 1000 i (by omega) (by omega) (by omega), f0 1000 i (by omega) (by omega), fz 1000 i (by omega)]
