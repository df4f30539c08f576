/-! Free use, both sides: a bill is opened. -/
theorem laysF_s {f s v : Int} {ν : am_M} (hf : 0 ≤ f ∧ f < 16) (hs : 0 ≤ s ∧ s < 10) : ∃ ν', M_laysFree f s v ν = some (0, ν') ∧ ν' 1050 f = aOr (ν 1050 f) (aShl 1 s) ∧ ν' 1051 (10 * f + s) = v ∧ (∀ c i, ¬ (c = 1050 ∧ i = f) → ¬ (c = 1051 ∧ i = 10 * f + s) → ν' c i = ν c i) := by
  refine ⟨m_st (m_st ν 1050 f (aOr (ν 1050 f) (aShl 1 s))) 1051 (10 * f + s) v, ?_, ?_, ?_, fun c i z y => by rw [m_st_d, if_neg y, m_st_d, if_neg z]⟩
  · unfold M_laysFree
    rw [q_ld_s hf.1 hf.2, q_st_s hf.1 hf.2, w32_i (x := 10 * f) (by omega) (by omega), w32_i (x := 10 * f + s) (by omega) (by omega), q_st_s (by omega) (by omega)]
  · rw [m_st_c (by decide), m_st_d, if_pos ⟨rfl, rfl⟩]
  · rw [m_st_d, if_pos ⟨rfl, rfl⟩]
theorem opensF_L {b B d k : Int} (hd : 0 ≤ d ∧ d < 16) : ∀ (n fu : Nat) (i : Int) (μ ν : am_M), BI b B k μ ν → i + n = ν 1019 k → 0 ≤ i → n < fu → ν 1000 73 = d → S10 (ν 1050 d) → ∃ ν', M_opensFree_L44 fu k i ν = some (0, ν') ∧ S10 (ν' 1050 d) ∧ (∀ s, 0 ≤ s → s < 10 → (tb (ν' 1050 d) s = true ↔ tb (ν 1050 d) s = true ∨ (i ≤ s ∧ s < ν 1019 k))) ∧ ν' 1000 73 = d + 1 ∧ (∀ s, i ≤ s → s < ν 1019 k → ν' 1051 (10 * d + s) = ν 1047 s) ∧ (∀ c x, ¬ (c = 1050 ∧ x = d) → ¬ (c = 1051 ∧ 10 * d + i ≤ x ∧ x < 10 * d + ν 1019 k) → ¬ (c = 1000 ∧ x = 73) → ν' c x = ν c x)
  | n, 0, _, _, _, _, _, _, h, _, _ => by omega
  | 0, fu + 1, i, μ, ν, h, hi, h0, _, h73, hs => by
    have hk := h.kk
    refine ⟨m_st ν 1000 73 (d + 1), ?_, by rw [m_st_c (by decide)]; exact hs, fun s p q => by rw [m_st_c (by decide)]; exact ⟨Or.inl, fun z => z.elim (fun w => w) (fun w => by omega)⟩, by rw [m_st_d, if_pos ⟨rfl, rfl⟩], fun s p q => by omega, fun c x _ _ z => by rw [m_st_d, if_neg z]⟩
    show M_opensFree_L44_b (M_opensFree_L44 fu) k i ν = _
    unfold M_opensFree_L44_b
    rw [q_ld_s (by omega) (by omega), if_neg (by omega), q_pf_d, h73, w32_i (x := d + 1) (by omega) (by omega)]
  | n + 1, fu + 1, i, μ, ν, h, hi, h0, hf, h73, hs => by
    have hk := h.kk
    have hfn := h.fn
    have htt := h.tt
    obtain ⟨-, tk⟩ := h.tk i h0 (by omega)
    obtain ⟨ν1, a1, a2, a3, a4⟩ := laysF_s (f := d) (s := i) (v := ν 1047 i) (ν := ν) hd (by omega)
    have g : ∀ y, 1002 ≤ y → y ≤ 1020 → ν1 y = ν y := fun y p q => funext fun x => a4 y x (by omega) (by omega)
    have e19 : ν1 1019 k = ν 1019 k := by rw [g _ (by decide) (by decide)]
    have h1 : BI b B k μ ν1 := (BI.mk (bo := h.bo) (kk := h.kk) (r15 := by rw [g 1017 (by decide) (by decide)]; exact h.r15) (r16 := by rw [g 1018 (by decide) (by decide)]; exact h.r16) (r17 := by rw [e19]; exact h.r17) (r18 := by rw [g 1020 (by decide) (by decide)]; exact h.r18) (fn := by rw [g 1017 (by decide) (by decide), g 1018 (by decide) (by decide), e19]; exact h.fn) (tt := by rw [e19]; exact h.tt) (sx := by rw [g 1020 (by decide) (by decide)]; exact h.sx) (tk := by rw [e19, g 1017 (by decide) (by decide), g 1002 (by decide) (by decide), g 1003 (by decide) (by decide)]; exact h.tk))
    obtain ⟨ν', b1, b2, b3, b4, b5, b6⟩ := opensF_L (b := b) (B := B) hd n fu (i + 1) μ ν1 h1 (by omega) (by omega) (by omega) (by rw [a4 _ _ (by omega) (by omega)]; exact h73) (by rw [a2]; exact S10_or hs (S10_shl h0 (by omega)))
    rw [e19] at b3 b5 b6
    refine ⟨ν', ?_, b2, fun s p q => ?_, b4, fun s p q => ?_, fun c x p q w => by rw [b6 c x p (by omega) w, a4 c x p (by omega)]⟩
    · rw [← b1]
      show M_opensFree_L44_b (M_opensFree_L44 fu) k i ν = _
      unfold M_opensFree_L44_b
      rw [q_ld_s (by omega) (by omega), if_pos (by omega), q_ld_s (by omega) (by omega), w32_i (x := ν 1017 k + i) (by omega) (by omega), q_ld_s (by omega) (by omega), tk, q_ld_s (by omega) (by omega), h73, a1, q_bd_s, w32_i (x := i + 1) (by omega) (by omega)]
    · rw [b3 s p q, a2, lay_tb (by omega) p q]
      constructor
      · rintro ((z | z) | z)
        · exact Or.inl z
        · exact Or.inr (by omega)
        · exact Or.inr (by omega)
      · rintro (z | z)
        · exact Or.inl (Or.inl z)
        · by_cases y : s = i
          · exact Or.inl (Or.inr y)
          · exact Or.inr (by omega)
    · by_cases y : s = i
      · rw [y, b6 _ _ (by omega) (by omega) (by omega)]; exact a3
      · rw [b5 s (by omega) q, a4 _ _ (by omega) (by omega)]
theorem opensF_s {b B d k : Int} {μ ν : am_M} (hd : 0 ≤ d ∧ d < 16) (h : BI b B k μ ν) (h73 : ν 1000 73 = d) : ∃ ν', M_opensFree k ν = some (0, ν') ∧ ν' 1048 d = k ∧ ν' 1049 d = ν 1017 k + ν 1019 k ∧ ν' 1050 d = tset (ν 1019 k) ∧ ν' 1000 73 = d + 1 ∧ (∀ s, 0 ≤ s → s < ν 1019 k → ν' 1051 (10 * d + s) = ν 1047 s) ∧ (∀ c x, ¬ (1048 ≤ c ∧ c ≤ 1050 ∧ x = d) → ¬ (c = 1051 ∧ 10 * d ≤ x ∧ x < 10 * d + 10) → ¬ (c = 1000 ∧ x = 73) → ν' c x = ν c x) := by
  have hFU := am_FU_ge
  have hk := h.kk
  have hfn := h.fn
  have htt := h.tt
  generalize hν1 : m_st (m_st (m_st ν 1048 d k) 1050 d 0) 1049 d (ν 1017 k + ν 1019 k) = ν1
  have f1 : ∀ y i, ¬ (1048 ≤ y ∧ y ≤ 1050 ∧ i = d) → ν1 y i = ν y i := fun y i z => by rw [← hν1, m_st_d, if_neg (by omega), m_st_d, if_neg (by omega), m_st_d, if_neg (by omega)]
  have g : ∀ y, 1002 ≤ y → y ≤ 1020 → ν1 y = ν y := fun y p q => funext fun x => f1 y x (by omega)
  have e19 : ν1 1019 k = ν 1019 k := by rw [g _ (by decide) (by decide)]
  have h1 : BI b B k μ ν1 := (BI.mk (bo := h.bo) (kk := h.kk) (r15 := by rw [g 1017 (by decide) (by decide)]; exact h.r15) (r16 := by rw [g 1018 (by decide) (by decide)]; exact h.r16) (r17 := by rw [e19]; exact h.r17) (r18 := by rw [g 1020 (by decide) (by decide)]; exact h.r18) (fn := by rw [g 1017 (by decide) (by decide), g 1018 (by decide) (by decide), e19]; exact h.fn) (tt := by rw [e19]; exact h.tt) (sx := by rw [g 1020 (by decide) (by decide)]; exact h.sx) (tk := by rw [e19, g 1017 (by decide) (by decide), g 1002 (by decide) (by decide), g 1003 (by decide) (by decide)]; exact h.tk))
  have e45 : ν1 1050 d = 0 := by rw [← hν1, m_st_c (by decide), m_st_d, if_pos ⟨rfl, rfl⟩]
  obtain ⟨ν', b1, b2, b3, b4, b5, b6⟩ := opensF_L (b := b) (B := B) hd (ν 1019 k).toNat am_FU 0 μ ν1 h1 (by omega) (by omega) (by omega) (by rw [f1 _ _ (by omega)]; exact h73) (by rw [e45]; exact S10_0)
  rw [e19] at b3 b5 b6
  refine ⟨ν', ?_, by rw [b6 _ _ (by omega) (by omega) (by omega), ← hν1, m_st_c (by decide), m_st_c (by decide), m_st_d, if_pos ⟨rfl, rfl⟩], by rw [b6 _ _ (by omega) (by omega) (by omega), ← hν1, m_st_d, if_pos ⟨rfl, rfl⟩], ?_, b4, fun s p q => by rw [b5 s p q, f1 _ _ (by omega)], fun c x p q w => by rw [b6 c x (by omega) (by omega) w, f1 c x (by omega)]⟩
  · have a1 : ∀ v, m_st ν 1048 d v 1000 73 = d := fun v => by rw [m_st_c (by decide)]; exact h73
    have a2 : ∀ v w, m_st (m_st ν 1048 d v) 1050 d w 1000 73 = d := fun v w => by rw [m_st_c (by decide), m_st_c (by decide)]; exact h73
    have a3 : ∀ v w y i, y ≠ 1048 → y ≠ 1050 → m_st (m_st ν 1048 d v) 1050 d w y i = ν y i := fun v w y i p q => by rw [m_st_c q, m_st_c p]
    unfold M_opensFree
    rw [h73, q_st_s hd.1 hd.2, a1, q_st_s hd.1 hd.2, q_ld_s (by omega) (by omega), q_ld_s (by omega) (by omega), a2, a3 _ _ _ _ (by decide) (by decide), a3 _ _ _ _ (by decide) (by decide), w32_i (x := ν 1017 k + ν 1019 k) (by omega) (by omega), q_st_s hd.1 hd.2, hν1, b1]
  · obtain ⟨t1, t2⟩ := tset_s htt
    refine S10_eq b2 t1 (fun s p q => ?_)
    rw [b3 s p q, t2 s p q, e45, tb_0]
    exact ⟨fun z => z.elim (fun w => by cases w) (fun w => w.2), fun z => Or.inr ⟨p, z⟩⟩
theorem blk_j {w : Int → Int → Int} : ∀ (n d : Nat) (a z : Int), blk w n d a z → ∀ x, a ≤ x → x < z → (w 0 x = 5 → x < w 1 x ∧ w 1 x < z) ∧ (w 0 x = 6 → x < w 2 x ∧ w 2 x < z)
  | 0, _, a, z, h, x, p, q => by
    have h : a = z := h
    omega
  | n + 1, d, a, z, h, x, p, q => by
    rcases h with h | ⟨h1, h2, h3⟩ | ⟨h1, h2, h3, h4, h5, h6, h7, h8, h9, h10, h11, h12, h13⟩
    · omega
    · by_cases y : x = a
      · subst y
        exact ⟨fun z => by have := h2.2; omega, fun z => by have := h2.2; omega⟩
      · exact blk_j n d _ _ h3 x (by omega) q
    · by_cases y : x = a
      · subst y
        exact ⟨fun _ => by omega, fun z => by omega⟩
      by_cases y1 : x < w 1 a
      · obtain ⟨g1, g2⟩ := blk_j n _ _ _ h11 x (by omega) y1
        exact ⟨fun z => by have := g1 z; omega, fun z => by have := g2 z; omega⟩
      by_cases y2 : x = w 1 a
      · subst y2
        exact ⟨fun z => by omega, fun _ => by omega⟩
      by_cases y3 : x < w 2 a
      · obtain ⟨g1, g2⟩ := blk_j n _ _ _ h12 x (by omega) y3
        exact ⟨fun z => by have := g1 z; omega, fun z => by have := g2 z; omega⟩
      by_cases y4 : x = w 2 a
      · subst y4
        exact ⟨fun z => by omega, fun z => by omega⟩
      · exact blk_j n d _ _ h13 x (by omega) q
/-- where an if and an else lead -/
theorem LJ_of {b B W n k l : Int} {Wn : Int → Int} {μ ν : am_M} (h : TB b B W n Wn μ ν) (hk : 0 ≤ k ∧ k < B) (hl : ν 1017 k + ν 1019 k ≤ l ∧ l < ν 1017 k + ν 1018 k) : (ν 1002 l = 5 → l < ν 1008 l ∧ ν 1008 l < ν 1017 k + ν 1018 k - 1) ∧ (ν 1002 l = 6 → l < ν 1009 l ∧ ν 1009 l < ν 1017 k + ν 1018 k - 1) := by
  obtain ⟨f, m, t, S, σ, e, w⟩ := h.bw k hk.1 hk.2
  have e0 : (0 : Int) + k = k := by omega
  have r15 := w.r15
  have r16 := w.r16
  have r17 := w.r17
  rw [e0] at r15 r16 r17
  have gv := w.gv
  have eg : (0 : Int) + (f + m - 1) = f + m - 1 := by omega
  rw [eg] at gv
  obtain ⟨nb, bk⟩ := wZ_of w.bk
  by_cases z : l = f + m - 1
  · rw [z, gv]
    exact ⟨fun y => by omega, fun y => by omega⟩
  · obtain ⟨g1, g2⟩ := blk_j nb 3 _ _ bk l (by omega) (by omega)
    exact ⟨fun y => by
      have q : l < ν 1008 l ∧ ν 1008 l < f + m - 1 := g1 y
      omega, fun y => by
      have q : l < ν 1009 l ∧ ν 1009 l < f + m - 1 := g2 y
      omega⟩
/-- a line's facts, of any line behind the takes -/
theorem LI_any {b B W n k l : Int} {Wn : Int → Int} {μ ν : am_M} (h : TB b B W n Wn μ ν) (hk : 0 ≤ k ∧ k < B) (hl : ν 1017 k + ν 1019 k ≤ l ∧ l < ν 1017 k + ν 1018 k) : ∃ r, LI b B k l W Wn r μ ν := by
  obtain ⟨f, m, t, S, σ, e, w⟩ := h.bw k hk.1 hk.2
  have e0 : (0 : Int) + k = k := by omega
  have r15 := w.r15
  have r16 := w.r16
  have r17 := w.r17
  have hfn := w.fn
  have htt := w.tt
  have hn := h.cn
  have hW := h.cW
  rw [e0] at r15 r16 r17
  obtain ⟨S', u', a0, a⟩ := h.al l (by omega) (by omega)
  obtain ⟨r, hr⟩ := CKC_of a (by omega) a0 (by omega) h.wv
  exact ⟨r, LI_of h hk hl hr⟩
def SFF (ν ν' : am_M) : Prop := ∀ y i, ¬ (y = 1000 ∧ (i = 73 ∨ i = 74)) → ¬ (1024 ≤ y ∧ y ≤ 1033) → ¬ (1047 ≤ y ∧ y ≤ 1051) → ν' y i = ν y i
theorem SFF.rf {ν : am_M} : SFF ν ν := fun _ _ _ _ _ => rfl
theorem SFF.tr {ν ν1 ν2 : am_M} (h : SFF ν ν1) (h2 : SFF ν1 ν2) : SFF ν ν2 := fun y i p q r => by rw [h2 y i p q r, h y i p q r]
theorem SFF.tg {ν ν' : am_M} (h : SFF ν ν') : TG ν ν' := fun x p => funext fun i => h x i (by omega) (by omega) (by omega)
theorem TB.tf {b B W n : Int} {Wn : Int → Int} {μ ν μ' ν' : am_M} (h : TB b B W n Wn μ ν) (f : TF b μ μ') (g : TG ν ν') : TB b B W n Wn μ' ν' := h.cong (fun c i p q _ => by rw [f c p (by omega)]) (fun c i z => by unfold Lo at z; rw [g c (by omega)])
/-- a frame of free use, d frames deep -/
def FF (b B d f : Int) (μ ν : am_M) : Prop := μ 311 f = ν 1049 f ∧ (μ 312 f = ν 1050 f ∧ S10 (ν 1050 f)) ∧ (∀ s, 0 ≤ s → s < 10 → tb (ν 1050 f) s = true → μ 313 (10 * f + s) = ν 1051 (10 * f + s) ∧ r32 (ν 1051 (10 * f + s))) ∧ ∃ k, (0 ≤ k ∧ k < B) ∧ (ν 1017 k + ν 1019 k ≤ ν 1049 f ∧ ν 1049 f < ν 1017 k + ν 1018 k) ∧ (f < d - 1 → ν 1017 k + ν 1019 k ≤ ν 1049 f - 1 ∧ ν 1002 (ν 1049 f - 1) = 4)
def FM (b B W n d : Int) (Wn : Int → Int) (μ ν : am_M) : Prop := (TB b B W n Wn μ ν) ∧ (0 ≤ d ∧ d ≤ 16) ∧ (μ 310 5 = d) ∧ (ν 1000 73 = d) ∧ (0 < d → μ 310 6 = 1) ∧ (d = 0 → μ 310 6 = 2 ∧ μ 310 7 = ν 1000 74) ∧ (μ 310 1 = 0) ∧ (∀ f, 0 ≤ f → f < d → FF b B d f μ ν)
theorem FM.td {b B W n d : Int} {Wn : Int → Int} {μ ν : am_M} (h : FM b B W n d Wn μ ν) : TB b B W n Wn μ ν := h.1
theorem FM.dd {b B W n d : Int} {Wn : Int → Int} {μ ν : am_M} (h : FM b B W n d Wn μ ν) : 0 ≤ d ∧ d ≤ 16 := h.2.1
theorem FM.c5 {b B W n d : Int} {Wn : Int → Int} {μ ν : am_M} (h : FM b B W n d Wn μ ν) : μ 310 5 = d := h.2.2.1
theorem FM.r5 {b B W n d : Int} {Wn : Int → Int} {μ ν : am_M} (h : FM b B W n d Wn μ ν) : ν 1000 73 = d := h.2.2.2.1
theorem FM.s1 {b B W n d : Int} {Wn : Int → Int} {μ ν : am_M} (h : FM b B W n d Wn μ ν) : 0 < d → μ 310 6 = 1 := h.2.2.2.2.1
theorem FM.s0 {b B W n d : Int} {Wn : Int → Int} {μ ν : am_M} (h : FM b B W n d Wn μ ν) : d = 0 → μ 310 6 = 2 ∧ μ 310 7 = ν 1000 74 := h.2.2.2.2.2.1
theorem FM.bu {b B W n d : Int} {Wn : Int → Int} {μ ν : am_M} (h : FM b B W n d Wn μ ν) : μ 310 1 = 0 := h.2.2.2.2.2.2.1
theorem FM.fb {b B W n d : Int} {Wn : Int → Int} {μ ν : am_M} (h : FM b B W n d Wn μ ν) : ∀ f, 0 ≤ f → f < d → FF b B d f μ ν := h.2.2.2.2.2.2.2
theorem FM.mk {b B W n d : Int} {Wn : Int → Int} {μ ν : am_M} (td : TB b B W n Wn μ ν) (dd : 0 ≤ d ∧ d ≤ 16) (c5 : μ 310 5 = d) (r5 : ν 1000 73 = d) (s1 : 0 < d → μ 310 6 = 1) (s0 : d = 0 → μ 310 6 = 2 ∧ μ 310 7 = ν 1000 74) (bu : μ 310 1 = 0) (fb : ∀ f, 0 ≤ f → f < d → FF b B d f μ ν) : FM b B W n d Wn μ ν := ⟨td, dd, c5, r5, s1, s0, bu, fb⟩
theorem m310 : mOk 310 := Or.inr (Or.inl rfl)
/-- m frames stay as they are -/
theorem FM.gen {b B W n d d' : Int} {Wn : Int → Int} {μ ν μ' ν' : am_M} (h : FM b B W n d Wn μ ν) (m : Int) (hm : 0 ≤ m ∧ m ≤ d - 1) (hm2 : m = 0 ∨ m ≤ d' - 1) (dd : 0 ≤ d' ∧ d' ≤ 16) (f : TF b μ μ') (g : TG ν ν') (c5 : μ' 310 5 = d') (r5 : ν' 1000 73 = d') (s1 : 0 < d' → μ' 310 6 = 1) (s0 : d' = 0 → μ' 310 6 = 2 ∧ μ' 310 7 = ν' 1000 74) (bu : μ' 310 1 = μ 310 1)
    (lo : ∀ x i, i < m → (x = 311 ∨ x = 312) → μ' x i = μ x i) (lv : ∀ i, i < 10 * m → μ' 313 i = μ 313 i) (ro : ∀ x i, i < m → 1049 ≤ x → x ≤ 1050 → ν' x i = ν x i) (rv : ∀ i, i < 10 * m → ν' 1051 i = ν 1051 i)
    (hi : ∀ f, m ≤ f → f < d' → FF b B d' f μ' ν') : FM b B W n d' Wn μ' ν' := by
  refine (FM.mk (td := h.td.tf f g) (dd := dd) (c5 := c5) (r5 := r5) (s1 := s1) (s0 := s0) (bu := by rw [bu]; exact h.bu) (fb := fun f' p q => ?_))
  by_cases z : f' < m
  · obtain ⟨a1, ⟨a2, a3⟩, a4, k, a5, a6, a7⟩ := h.fb f' p (by omega)
    have e2 := ro 1049 f' z (by decide) (by decide)
    have e3 := ro 1050 f' z (by decide) (by decide)
    unfold FF
    rw [lo _ f' z (Or.inl rfl), lo _ f' z (Or.inr rfl), e2, e3, g 1017 (by omega), g 1018 (by omega), g 1019 (by omega), g 1002 (by omega)]
    exact ⟨a1, ⟨a2, a3⟩, fun s s0 s1 y => by rw [lv _ (by omega), rv _ (by omega)]; exact a4 s s0 s1 y, k, a5, a6, fun _ => a7 (by omega)⟩
  · exact hi f' (by omega) q
/-- the line that is next -/
def FTP (b B W n d k l x : Int) (Wn : Int → Int) (r : List Int) (μ ν : am_M) : Prop := (FM b B W n d Wn μ ν) ∧ (ν 1049 (d - 1) = l) ∧ (ν 1050 (d - 1) = x) ∧ (1 ≤ d) ∧ (BI b B k μ ν) ∧ (LI b B k l W Wn r μ ν) ∧ (S10 x) ∧ (ν 1002 l = 5 → l < ν 1008 l ∧ ν 1008 l < ν 1017 k + ν 1018 k - 1) ∧ (ν 1002 l = 6 → l < ν 1009 l ∧ ν 1009 l < ν 1017 k + ν 1018 k - 1)
theorem FTP.fm {b B W n d k l x : Int} {Wn : Int → Int} {r : List Int} {μ ν : am_M} (h : FTP b B W n d k l x Wn r μ ν) : FM b B W n d Wn μ ν := h.1
theorem FTP.el {b B W n d k l x : Int} {Wn : Int → Int} {r : List Int} {μ ν : am_M} (h : FTP b B W n d k l x Wn r μ ν) : ν 1049 (d - 1) = l := h.2.1
theorem FTP.ex {b B W n d k l x : Int} {Wn : Int → Int} {r : List Int} {μ ν : am_M} (h : FTP b B W n d k l x Wn r μ ν) : ν 1050 (d - 1) = x := h.2.2.1
theorem FTP.d1 {b B W n d k l x : Int} {Wn : Int → Int} {r : List Int} {μ ν : am_M} (h : FTP b B W n d k l x Wn r μ ν) : 1 ≤ d := h.2.2.2.1
theorem FTP.bi {b B W n d k l x : Int} {Wn : Int → Int} {r : List Int} {μ ν : am_M} (h : FTP b B W n d k l x Wn r μ ν) : BI b B k μ ν := h.2.2.2.2.1
theorem FTP.li {b B W n d k l x : Int} {Wn : Int → Int} {r : List Int} {μ ν : am_M} (h : FTP b B W n d k l x Wn r μ ν) : LI b B k l W Wn r μ ν := h.2.2.2.2.2.1
theorem FTP.sx {b B W n d k l x : Int} {Wn : Int → Int} {r : List Int} {μ ν : am_M} (h : FTP b B W n d k l x Wn r μ ν) : S10 x := h.2.2.2.2.2.2.1
theorem FTP.n5 {b B W n d k l x : Int} {Wn : Int → Int} {r : List Int} {μ ν : am_M} (h : FTP b B W n d k l x Wn r μ ν) : ν 1002 l = 5 → l < ν 1008 l ∧ ν 1008 l < ν 1017 k + ν 1018 k - 1 := h.2.2.2.2.2.2.2.1
theorem FTP.n6 {b B W n d k l x : Int} {Wn : Int → Int} {r : List Int} {μ ν : am_M} (h : FTP b B W n d k l x Wn r μ ν) : ν 1002 l = 6 → l < ν 1009 l ∧ ν 1009 l < ν 1017 k + ν 1018 k - 1 := h.2.2.2.2.2.2.2.2
theorem FTP.mk {b B W n d k l x : Int} {Wn : Int → Int} {r : List Int} {μ ν : am_M} (fm : FM b B W n d Wn μ ν) (el : ν 1049 (d - 1) = l) (ex : ν 1050 (d - 1) = x) (d1 : 1 ≤ d) (bi : BI b B k μ ν) (li : LI b B k l W Wn r μ ν) (sx : S10 x) (n5 : ν 1002 l = 5 → l < ν 1008 l ∧ ν 1008 l < ν 1017 k + ν 1018 k - 1) (n6 : ν 1002 l = 6 → l < ν 1009 l ∧ ν 1009 l < ν 1017 k + ν 1018 k - 1) : FTP b B W n d k l x Wn r μ ν := ⟨fm, el, ex, d1, bi, li, sx, n5, n6⟩
theorem FTP_of {b B W n d : Int} {Wn : Int → Int} {μ ν : am_M} (h : FM b B W n d Wn μ ν) (hd : 1 ≤ d) : ∃ k l x r, FTP b B W n d k l x Wn r μ ν := by
  obtain ⟨a1, ⟨a2, a3⟩, a4, k, a5, a6, -⟩ := h.fb (d - 1) (by omega) (by omega)
  obtain ⟨r, hr⟩ := LI_any h.td a5 a6
  obtain ⟨j1, j2⟩ := LJ_of h.td a5 a6
  exact ⟨k, _, _, r, (FTP.mk (fm := h) (el := rfl) (ex := rfl) (d1 := hd) (bi := BI_of h.td a5) (li := hr) (sx := a3) (n5 := j1) (n6 := j2))⟩
theorem areLaid_L {b l f x : Int} {r : List Int} {μ ν : am_M} (hf : 0 ≤ f ∧ f < 16) (hl : 0 ≤ l ∧ l < 60) (hr : RL b l r μ ν) (hx : ν 1050 f = x) : ∀ (n fu : Nat) (i : Int), i + n = 10 → 0 ≤ i → n < fu → (M_areLaid_L14 fu f l i ν = some (1, ν) ∧ ∀ s, i ≤ s → s < 10 → s ∈ r → tb x s = true) ∨ (M_areLaid_L14 fu f l i ν = some (0, ν) ∧ ∃ s, i ≤ s ∧ s < 10 ∧ s ∈ r ∧ tb x s = false)
  | n, 0, _, _, _, h => by omega
  | 0, fu + 1, i, hi, h0, _ => by
    refine Or.inl ⟨?_, fun s p q => by omega⟩
    show M_areLaid_L14_b (M_areLaid_L14 fu) f l i ν = _
    unfold M_areLaid_L14_b
    rw [if_neg (by omega)]
  | n + 1, fu + 1, i, hi, h0, hfu => by
    have e0 : M_areLaid_L14 (fu + 1) f l i ν = M_areLaid_L14_b (M_areLaid_L14 fu) f l i ν := rfl
    have hc := cnt_0 i r
    have ih := areLaid_L hf hl hr hx n fu (i + 1) (by omega) (by omega) (by omega)
    rw [e0]
    unfold M_areLaid_L14_b M_areLaid_B44
    rw [if_pos (by omega), readsOf_s hr hl ⟨h0, by omega⟩, q_bd_s, w32_i (x := i + 1) (by omega) (by omega), q_ld_s hf.1 hf.2, hx]
    have go : (i ∈ r → tb x i = true) → (M_areLaid_L14 fu f l (i + 1) ν = some (1, ν) ∧ ∀ s, i ≤ s → s < 10 → s ∈ r → tb x s = true) ∨ (M_areLaid_L14 fu f l (i + 1) ν = some (0, ν) ∧ ∃ s, i ≤ s ∧ s < 10 ∧ s ∈ r ∧ tb x s = false) := by
      intro z
      rcases ih with ⟨a1, a2⟩ | ⟨a1, s, a2, a3⟩
      · refine Or.inl ⟨a1, fun s p q w => ?_⟩
        by_cases y : s = i
        · rw [y]; exact z (by rw [← y]; exact w)
        · exact a2 s (by omega) q w
      · exact Or.inr ⟨a1, s, by omega, a3⟩
    by_cases c : cnt i r ≤ 0
    · rw [if_pos c]
      exact go (fun y => by have := hc.mpr y; omega)
    · rw [if_neg c]
      by_cases t : tb x i = true
      · rw [if_neg (fun z => by rw [bit_0 h0 (by omega)] at z; rw [z] at t; cases t)]
        exact go (fun _ => t)
      · have t' : tb x i = false := by cases z : tb x i with
          | true => exact absurd z t
          | false => rfl
        rw [if_pos ((bit_0 h0 (by omega)).mpr t')]
        exact Or.inr ⟨rfl, i, Int.le_refl _, by omega, hc.mp (by omega), t'⟩
/-- whether all that a line reads is there -/
theorem readsF_s {b B W n d k l x : Int} {Wn : Int → Int} {r : List Int} {μ ν : am_M} (h : FTP b B W n d k l x Wn r μ ν) : ∃ e, Mc_readSlips 310 (b + 1) l μ = some (e, μ) ∧ M_areLaid (d - 1) l ν = some (e, ν) ∧ (e = 0 ∨ e = 1) ∧ (e = 1 → ν 1002 l ≠ 3 → ∀ s ∈ r, tb x s = true) := by
  have hFU := am_FU_ge
  have hd := h.fm.dd
  have hd1 := h.d1
  have l0 := h.li.ck.l0
  have hkd := h.li.ck.kd
  have hbo := h.bi.bo
  obtain ⟨t1, t2, -⟩ := timesRead_s hbo h.li.ck.rl l0
  have hS := rsF_S r 0 S10_0 h.li.ck.rl.sl
  have hT : ∀ t, 0 ≤ t → t < 10 → (tb (rsF 0 r) t = true ↔ t ∈ r) := fun t p z => by
    rw [rsF_tb r 0 t h.li.ck.rl.sl p (by omega), tb_0]
    exact ⟨fun y => y.elim (fun w => by cases w) (fun w => w), Or.inr⟩
  obtain ⟨a1, ⟨a2, a3⟩, -⟩ := h.fm.fb (d - 1) (by omega) (by omega)
  generalize rsF 0 r = q at *
  have eC : Mc_readSlips 310 (b + 1) l μ = if ν 1002 l = 3 then some (1, μ) else if aAnd q (aXor x (-1)) = 0 then some (1, μ) else some (0, μ) := by
    have e2 : b + 1 + 1 = b + 2 := by omega
    unfold Mc_readSlips
    rw [q_gd_s (bO2 hbo), t2, q_bd_s, q_gd_s (mO3 m310), h.fm.c5, w32_i (x := d - 1) (by omega) (by omega), mat2 m310, if_pos (by omega), q_bd_s, if_pos h.fm.bu, e2, bat2 hbo, if_pos l0, q_bd_s, hkd.1]
    have e3 : μ (310 + 2) (d - 1) = x := by rw [← h.ex]; exact a2
    rw [e3]
  have eM : M_areLaid (d - 1) l ν = if ν 1002 l = 3 then some (1, ν) else M_areLaid_L14 am_FU (d - 1) l 0 ν := by
    unfold M_areLaid
    rw [q_ld_s (by omega) (by omega)]
  by_cases c3 : ν 1002 l = 3
  · rw [if_pos c3] at eC eM
    exact ⟨1, eC, eM, Or.inr rfl, fun _ y => absurd c3 y⟩
  rw [if_neg c3] at eC eM
  have hz := S10_zero (S10_and (y := aXor x (-1)) hS)
  have hb : ∀ s, 0 ≤ s → s < 10 → tb (aAnd q (aXor x (-1))) s = (tb q s && !tb x s) := fun s p w => by rw [tb_and, tb_not p (by omega)]
  rcases areLaid_L (b := b) (l := l) (f := d - 1) (x := x) (by omega) l0 h.li.ck.rl h.ex 10 am_FU 0 (by omega) (by omega) (by omega) with ⟨b1, b2⟩ | ⟨b1, s, b2, b3, b4, b5⟩
  · refine ⟨1, ?_, by rw [eM, b1], Or.inr rfl, fun _ _ s hs => ?_⟩
    · rw [eC, if_pos (hz.mpr (fun s p w => ?_))]
      rw [hb s p w]
      cases t : tb q s with
      | false => rfl
      | true => rw [b2 s p w ((hT s p w).mp t)]; rfl
    · have := h.li.ck.rl.sl s hs
      exact b2 s this.1 this.2 hs
  · refine ⟨0, ?_, by rw [eM, b1], Or.inl rfl, fun z => by omega⟩
    rw [eC, if_neg (fun z => ?_)]
    have := hz.mp z s b2 b3
    rw [hb s b2 b3, (hT s b2 b3).mpr b4, b5] at this
    cases this
