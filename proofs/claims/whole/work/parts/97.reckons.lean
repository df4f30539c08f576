/-! An E of a line, reckoned by both sides. -/
theorem fsg_u {g : Int → Int} : ∀ (L L' : List Int) (p : Int), fsg g p L → fsg g p L' → L.length = L'.length → L = L'
  | [], [], _, _, _, _ => rfl
  | c :: L, c' :: L', p, h, h', e => by
    rw [List.length_cons, List.length_cons] at e
    rw [fsg_u L L' (p + 1) h.2 h'.2 (by omega), ← h.1, ← h'.1]
  | [], _ :: _, _, _, _, e => by rw [List.length_cons] at e; cases e
  | _ :: _, [], _, _, _, e => by rw [List.length_cons] at e; cases e
theorem RL.u {b l : Int} {r r' : List Int} {μ ν ν' : am_M} (h : RL b l r μ ν) (h' : RL b l r' μ ν') : r = r' := by
  obtain ⟨C, a1, a2, a3, -⟩ := h.cl
  obtain ⟨C', b1, b2, b3, -⟩ := h'.cl
  have e := fsg_u C C' _ a1 b1 (by omega)
  rw [← a3, ← b3, e]
/-- an E of a line, as both sides keep it -/
def EE (b l W : Int) (Wn : Int → Int) (r L : List Int) (μ ν : am_M) : Prop := (0 ≤ l ∧ l < 60) ∧ (bOk b) ∧ (W ≤ 4) ∧ (∀ w, r32 (Wn w)) ∧ (∀ w, 0 ≤ w → w < W → Wn w = ν 1015 w) ∧ (fsg (ν 1012) (ν 1010 l) L) ∧ (ν 1011 l = ν 1010 l + L.length) ∧ (0 ≤ ν 1010 l ∧ ν 1011 l ≤ 1000) ∧ (okE L) ∧ (dpR L st0) ∧ (∀ c ∈ L, vC 10 W c) ∧ (nmL L = r) ∧ (fsg (μ (b + 11)) (μ (b + 9) l) (convR Wn L).reverse) ∧ (μ (b + 10) l = μ (b + 9) l + (convR Wn L).reverse.length) ∧ (0 ≤ μ (b + 9) l ∧ μ (b + 10) l ≤ 1000) ∧ (∀ w ∈ (convR Wn L).reverse, cOk w) ∧ (nm (convR Wn L).reverse = r) ∧ (hR (convR Wn L) = some 1)
theorem EE.l0 {b l W : Int} {Wn : Int → Int} {r L : List Int} {μ ν : am_M} (h : EE b l W Wn r L μ ν) : 0 ≤ l ∧ l < 60 := h.1
theorem EE.bo {b l W : Int} {Wn : Int → Int} {r L : List Int} {μ ν : am_M} (h : EE b l W Wn r L μ ν) : bOk b := h.2.1
theorem EE.w4 {b l W : Int} {Wn : Int → Int} {r L : List Int} {μ ν : am_M} (h : EE b l W Wn r L μ ν) : W ≤ 4 := h.2.2.1
theorem EE.wr {b l W : Int} {Wn : Int → Int} {r L : List Int} {μ ν : am_M} (h : EE b l W Wn r L μ ν) : ∀ w, r32 (Wn w) := h.2.2.2.1
theorem EE.wn {b l W : Int} {Wn : Int → Int} {r L : List Int} {μ ν : am_M} (h : EE b l W Wn r L μ ν) : ∀ w, 0 ≤ w → w < W → Wn w = ν 1015 w := h.2.2.2.2.1
theorem EE.fs {b l W : Int} {Wn : Int → Int} {r L : List Int} {μ ν : am_M} (h : EE b l W Wn r L μ ν) : fsg (ν 1012) (ν 1010 l) L := h.2.2.2.2.2.1
theorem EE.ln {b l W : Int} {Wn : Int → Int} {r L : List Int} {μ ν : am_M} (h : EE b l W Wn r L μ ν) : ν 1011 l = ν 1010 l + L.length := h.2.2.2.2.2.2.1
theorem EE.f0 {b l W : Int} {Wn : Int → Int} {r L : List Int} {μ ν : am_M} (h : EE b l W Wn r L μ ν) : 0 ≤ ν 1010 l ∧ ν 1011 l ≤ 1000 := h.2.2.2.2.2.2.2.1
theorem EE.ok {b l W : Int} {Wn : Int → Int} {r L : List Int} {μ ν : am_M} (h : EE b l W Wn r L μ ν) : okE L := h.2.2.2.2.2.2.2.2.1
theorem EE.dp {b l W : Int} {Wn : Int → Int} {r L : List Int} {μ ν : am_M} (h : EE b l W Wn r L μ ν) : dpR L st0 := h.2.2.2.2.2.2.2.2.2.1
theorem EE.vc {b l W : Int} {Wn : Int → Int} {r L : List Int} {μ ν : am_M} (h : EE b l W Wn r L μ ν) : ∀ c ∈ L, vC 10 W c := h.2.2.2.2.2.2.2.2.2.2.1
theorem EE.nr {b l W : Int} {Wn : Int → Int} {r L : List Int} {μ ν : am_M} (h : EE b l W Wn r L μ ν) : nmL L = r := h.2.2.2.2.2.2.2.2.2.2.2.1
theorem EE.cf {b l W : Int} {Wn : Int → Int} {r L : List Int} {μ ν : am_M} (h : EE b l W Wn r L μ ν) : fsg (μ (b + 11)) (μ (b + 9) l) (convR Wn L).reverse := h.2.2.2.2.2.2.2.2.2.2.2.2.1
theorem EE.cl {b l W : Int} {Wn : Int → Int} {r L : List Int} {μ ν : am_M} (h : EE b l W Wn r L μ ν) : μ (b + 10) l = μ (b + 9) l + (convR Wn L).reverse.length := h.2.2.2.2.2.2.2.2.2.2.2.2.2.1
theorem EE.c0 {b l W : Int} {Wn : Int → Int} {r L : List Int} {μ ν : am_M} (h : EE b l W Wn r L μ ν) : 0 ≤ μ (b + 9) l ∧ μ (b + 10) l ≤ 1000 := h.2.2.2.2.2.2.2.2.2.2.2.2.2.2.1
theorem EE.co {b l W : Int} {Wn : Int → Int} {r L : List Int} {μ ν : am_M} (h : EE b l W Wn r L μ ν) : ∀ w ∈ (convR Wn L).reverse, cOk w := h.2.2.2.2.2.2.2.2.2.2.2.2.2.2.2.1
theorem EE.cn {b l W : Int} {Wn : Int → Int} {r L : List Int} {μ ν : am_M} (h : EE b l W Wn r L μ ν) : nm (convR Wn L).reverse = r := h.2.2.2.2.2.2.2.2.2.2.2.2.2.2.2.2.1
theorem EE.hr {b l W : Int} {Wn : Int → Int} {r L : List Int} {μ ν : am_M} (h : EE b l W Wn r L μ ν) : hR (convR Wn L) = some 1 := h.2.2.2.2.2.2.2.2.2.2.2.2.2.2.2.2.2
theorem EE.mk {b l W : Int} {Wn : Int → Int} {r L : List Int} {μ ν : am_M} (l0 : 0 ≤ l ∧ l < 60) (bo : bOk b) (w4 : W ≤ 4) (wr : ∀ w, r32 (Wn w)) (wn : ∀ w, 0 ≤ w → w < W → Wn w = ν 1015 w) (fs : fsg (ν 1012) (ν 1010 l) L) (ln : ν 1011 l = ν 1010 l + L.length) (f0 : 0 ≤ ν 1010 l ∧ ν 1011 l ≤ 1000) (ok : okE L) (dp : dpR L st0) (vc : ∀ c ∈ L, vC 10 W c) (nr : nmL L = r) (cf : fsg (μ (b + 11)) (μ (b + 9) l) (convR Wn L).reverse) (cl : μ (b + 10) l = μ (b + 9) l + (convR Wn L).reverse.length) (c0 : 0 ≤ μ (b + 9) l ∧ μ (b + 10) l ≤ 1000) (co : ∀ w ∈ (convR Wn L).reverse, cOk w) (cn : nm (convR Wn L).reverse = r) (hr : hR (convR Wn L) = some 1) : EE b l W Wn r L μ ν := ⟨l0, bo, w4, wr, wn, fs, ln, f0, ok, dp, vc, nr, cf, cl, c0, co, cn, hr⟩
theorem EE.cong {b l W : Int} {Wn : Int → Int} {r L : List Int} {μ ν μ' ν' : am_M} (h : EE b l W Wn r L μ ν) (f : ∀ c, b + 9 ≤ c → c ≤ b + 11 → μ' c = μ c) (g : ∀ c, (1010 ≤ c ∧ c ≤ 1012) ∨ c = 1015 → ν' c = ν c) : EE b l W Wn r L μ' ν' := by
  have e9 := f (b + 9) (by omega) (by omega)
  have e10 := f (b + 10) (by omega) (by omega)
  have e11 := f (b + 11) (by omega) (by omega)
  have g10 := g 1010 (by omega)
  have g11 := g 1011 (by omega)
  have g12 := g 1012 (by omega)
  have g15 := g 1015 (by omega)
  exact (EE.mk (l0 := h.l0) (bo := h.bo) (w4 := h.w4) (wr := h.wr) (wn := fun w p q => by rw [g15]; exact h.wn w p q) (fs := by rw [g12, g10]; exact h.fs) (ln := by rw [g11, g10]; exact h.ln) (f0 := by rw [g11, g10]; exact h.f0) (ok := h.ok) (dp := h.dp) (vc := h.vc) (nr := h.nr) (cf := by rw [e11, e9]; exact h.cf) (cl := by rw [e10, e9]; exact h.cl) (c0 := by rw [e10, e9]; exact h.c0) (co := h.co) (cn := h.cn) (hr := h.hr))
theorem EE_of {b W S t l : Int} {Wn : Int → Int} {r : List Int} {μ ν : am_M} (hb : bOk b) (h : LR b 0 0 W S t l Wn μ ν) (hl : 0 ≤ l ∧ l < 60) (hS : S ≤ 10) (hW : W ≤ 4) (hWv : ∀ w, 0 ≤ w → w < W → 0 ≤ Wn w ∧ Wn w ≤ 9999) (hWr : ∀ w, r32 (Wn w)) (hWn : ∀ w, 0 ≤ w → w < W → Wn w = ν 1015 w) (hk : hE (ν 1002 l)) (hr : RL b l r μ ν) : ∃ L, EE b l W Wn r L μ ν := by
  have e0 : (0 : Int) + l = l := by omega
  have hfr := h.fr
  have hst := h.st
  have hee := h.ee
  rw [e0] at hfr hee
  obtain ⟨y0, L, y1, y2, y3, y4, y5, y6, y7, y8⟩ := hee hk
  have z6 : ∀ c ∈ L, vC 10 W c := fun c hc => by have := y6 c hc; unfold vC at *; omega
  have hcn := conv_nm (Wn := Wn) hS hW y6
  have hcl : μ (b + 10) l = μ (b + 9) l + (convR Wn L).reverse.length := by rw [List.length_reverse]; exact y8
  have hcf := rsg_fsg _ y7
  have hrr : nmL L = r := by
    obtain ⟨C, a1, a2, a3, -⟩ := hr.cl
    have := fsg_u _ _ _ a1 hcf (by omega)
    rw [← a3, this, hcn]
  exact ⟨L, (EE.mk (l0 := hl) (bo := hb) (w4 := hW) (wr := hWr) (wn := hWn) (fs := y1) (ln := y2) (f0 := by omega) (ok := y3) (dp := y4) (vc := z6) (nr := hrr) (cf := hcf) (cl := hcl) (c0 := by omega) (co := fun w hw => conv_ok hS hW hWv y6 w (List.mem_reverse.mp hw)) (cn := by rw [hcn, hrr]) (hr := y5))⟩
def envR (r : List Int) (V : Int → Int) : Int → Int := fun s => if s ∈ r then V s else 0
theorem envR_r {r : List Int} {V : Int → Int} (h : ∀ s ∈ r, r32 (V s)) (s : Int) : r32 (envR r V s) := by
  unfold envR
  by_cases c : s ∈ r
  · rw [if_pos c]; exact h s c
  · rw [if_neg c]; unfold r32; omega
theorem ifx_r {env Wn : Int → Int} {L : List Int} : r32 (ifx env Wn L) := by
  unfold ifx
  split
  · exact fT_r _
  · unfold r32; omega
/-- the class -/
theorem EE_c {b l W x o : Int} {Wn V : Int → Int} {r L : List Int} {μ ν : am_M} (h : EE b l W Wn r L μ ν) (hA : am_lenA x = 160) (hK : am_lenK 0 x = 160) (hx : x ≠ 41) (ho : 0 ≤ o ∧ o + 10 ≤ 160) (hr : ∀ s ∈ r, 0 ≤ s ∧ s < 10) (hV : ∀ s ∈ r, μ x (o + s) = V s ∧ r32 (V s)) : ∃ μ', Rk_reckon (b + 1) l x o μ = some (ifx (envR r V) Wn L, μ') ∧ (∀ c i, c ≠ 41 → μ' c i = μ c i) := by
  obtain ⟨v, μ', a1, a2, a3⟩ := reckon_C (env := envR r V) h.bo h.l0 hA hK hx ho h.cf h.cl h.co (by rw [h.cn]; exact hr) h.c0.1 h.c0.2 (by rw [List.reverse_reverse]; exact h.hr) (fun s hs => by
    rw [h.cn] at hs
    rw [(hV s hs).1]
    unfold envR
    rw [if_pos hs])
  rw [List.reverse_reverse, ifx_conv (envR_r (fun s hs => (hV s hs).2)) h.wr (fun c hc => by have := h.vc c hc; have := h.w4; unfold vC at *; omega) h.ok] at a2
  injection a2 with a2
  exact ⟨μ', by rw [a1, a2], a3⟩
theorem reckons_W {l : Int} : ∀ (n f : Nat) (w : Int) (ν : am_M), w + n = 4 → 0 ≤ w → n < f → ∃ ν', M_reckons_L53 f l w ν = (q_bd (M_worked l ν') fun a1 μ2 => some (a1, μ2)) ∧ (∀ x, w ≤ x → x < 4 → ν' 1033 (11 + x) = ν 1015 x) ∧ (∀ c i, ¬ (c = 1033 ∧ 11 + w ≤ i) → ν' c i = ν c i)
  | n, 0, _, _, _, _, h => by omega
  | 0, f + 1, w, ν, h, h0, _ => by
    refine ⟨ν, ?_, fun x _ _ => by omega, fun _ _ _ => rfl⟩
    show M_reckons_L53_b (M_reckons_L53 f) l w ν = _
    unfold M_reckons_L53_b
    rw [if_neg (by omega)]
  | n + 1, f + 1, w, ν, h, h0, hf => by
    obtain ⟨ν', a1, a2, a3⟩ := reckons_W n f (w + 1) (m_st ν 1033 (11 + w) (ν 1015 w)) (by omega) (by omega) (by omega)
    refine ⟨ν', ?_, fun x p q => ?_, fun c i z => by rw [a3 c i (by omega), m_st_d, if_neg (by omega)]⟩
    · rw [← a1]
      show M_reckons_L53_b (M_reckons_L53 f) l w ν = _
      unfold M_reckons_L53_b
      rw [if_pos (by omega), q_ld_s (by omega) (by omega), w32_i (x := 11 + w) (by omega) (by omega), q_st_s (by omega) (by omega), w32_i (x := w + 1) (by omega) (by omega)]
    · by_cases z : x = w
      · rw [z, a3 _ _ (by omega), m_st_d, if_pos ⟨rfl, rfl⟩]
      · rw [a2 x (by omega) q, m_st_c (by decide)]
theorem reckons_V {l o v A : Int} (ho : 0 ≤ o ∧ o + 10 ≤ 160) (hA : (v = 0 ∧ A = 1046) ∨ (v = 1 ∧ A = 1051)) : ∀ (n f : Nat) (s : Int) (ν : am_M), s + n = 10 → 0 ≤ s → n < f → ∃ ν', M_reckons_L3 f l o v s ν = M_reckons_L53 am_FU l 0 ν' ∧ (∀ x, s ≤ x → x < 10 → ν' 1033 (1 + x) = ν A (o + x)) ∧ (∀ c i, ¬ (c = 1033 ∧ 1 + s ≤ i) → ν' c i = ν c i)
  | n, 0, _, _, _, _, h => by omega
  | 0, f + 1, s, ν, h, h0, _ => by
    refine ⟨ν, ?_, fun x _ _ => by omega, fun _ _ _ => rfl⟩
    show M_reckons_L3_b (M_reckons_L3 f) l o v s ν = _
    unfold M_reckons_L3_b
    rw [if_neg (by omega)]
  | n + 1, f + 1, s, ν, h, h0, hf => by
    obtain ⟨ν', a1, a2, a3⟩ := reckons_V (l := l) ho hA n f (s + 1) (m_st ν 1033 (1 + s) (ν A (o + s))) (by omega) (by omega) (by omega)
    refine ⟨ν', ?_, fun x p q => ?_, fun c i z => by rw [a3 c i (by omega), m_st_d, if_neg (by omega)]⟩
    · rw [← a1]
      show M_reckons_L3_b (M_reckons_L3 f) l o v s ν = _
      unfold M_reckons_L3_b M_reckons_B43
      rw [if_pos (by omega), w32_i (x := o + s) (by omega) (by omega), w32_i (x := 1 + s) (by omega) (by omega), w32_i (x := s + 1) (by omega) (by omega)]
      rcases hA with ⟨z, y⟩ | ⟨z, y⟩
      · rw [if_pos z, q_ld_s (by omega) (by omega), q_st_s (by omega) (by omega), y]
      · rw [if_neg (show ¬ v = 0 by omega), q_ld_s (by omega) (by omega), q_st_s (by omega) (by omega), y]
    · by_cases z : x = s
      · rw [z, a3 _ _ (by omega), m_st_d, if_pos ⟨rfl, rfl⟩]
      · rw [a2 x (by omega) q, m_st_c (by omega)]
/-- the reference; v: whose values -/
theorem EE_r {b l W o v A : Int} {Wn V : Int → Int} {r L : List Int} {μ ν : am_M} (h : EE b l W Wn r L μ ν) (ho : 0 ≤ o ∧ o + 10 ≤ 160) (hA : (v = 0 ∧ A = 1046) ∨ (v = 1 ∧ A = 1051)) (hV : ∀ s ∈ r, ν A (o + s) = V s) : ∃ ν', M_reckons l o v ν = some (ifx (envR r V) Wn L, ν') ∧ (∀ c i, ¬ (1024 ≤ c ∧ c ≤ 1033) → ν' c i = ν c i) := by
  have hFU := am_FU_ge
  have w4 := h.w4
  obtain ⟨ν1, a1, a2, a3⟩ := reckons_V (l := l) ho hA 10 am_FU 0 ν (by omega) (by omega) (by omega)
  obtain ⟨ν2, b1, b2, b3⟩ := reckons_W (l := l) 4 am_FU 0 ν1 (by omega) (by omega) (by omega)
  have f2 : ∀ c i, c ≠ 1033 → ν2 c i = ν c i := fun c i z => by rw [b3 c i (by omega), a3 c i (by omega)]
  have F2 : ∀ c, c ≠ 1033 → ν2 c = ν c := fun c z => funext fun i => f2 c i z
  have h2 := h.cong (μ' := μ) (ν' := ν2) (fun _ _ _ => rfl) (fun c z => F2 c (by omega))
  obtain ⟨ν', c1, c2⟩ := worked_s (env := envR r V) (Wn := Wn) (S := 10) (W := W) (Int.le_refl _) h.w4 h.l0 h2.fs h2.ln h2.f0.1 h2.f0.2 h.vc (fun c hc p q => by
    have hm : c - 1 ∈ r := by rw [← h.nr]; exact (nmL_in L (c - 1)).mpr ⟨by have e : 1 + (c - 1) = c := by omega
                                                                            rw [e]; exact hc, by omega, by omega⟩
    have e : c = 1 + (c - 1) := by omega
    have e2 : ν2 1033 c = ν1 1033 c := b3 _ _ (by omega)
    rw [e2]
    have e3 : ν1 1033 c = ν A (o + (c - 1)) := by
      have := a2 (c - 1) (by omega) (by omega)
      rw [← e] at this
      exact this
    rw [e3, hV _ hm]
    unfold envR
    rw [if_pos hm]) (fun w p q => by
    rw [b2 w p (by omega), a3 _ _ (by omega), h.wn w p q]) h.ok h.dp
  refine ⟨ν', ?_, fun c i z => by rw [c2 c i (by omega), f2 c i (by omega)]⟩
  unfold M_reckons
  rw [a1, b1, c1, q_bd_s]
