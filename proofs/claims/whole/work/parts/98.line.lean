/-! What both sides hold of a line that can be worked, and of a bill. -/
theorem blk_i {w : Int → Int → Int} : ∀ (n d : Nat) (a z : Int), blk w n d a z → ∀ x, a ≤ x → x < z → (1 ≤ w 0 x ∧ w 0 x ≤ 7) ∧ (w 0 x = 5 → w 3 x = w 1 x) ∧ (w 0 x = 6 → w 3 x = w 2 x)
  | 0, _, a, z, h, x, p, q => by
    have h : a = z := h
    omega
  | n + 1, d, a, z, h, x, p, q => by
    rcases h with h | ⟨h1, h2, h3⟩ | ⟨h1, h2, h3, h4, h5, h6, h7, h8, h9, h10, h11, h12, h13⟩
    · omega
    · by_cases y : x = a
      · subst y
        exact ⟨⟨h2.1, by have := h2.2; omega⟩, fun z => by have := h2.2; omega, fun z => by have := h2.2; omega⟩
      · exact blk_i n d _ _ h3 x (by omega) q
    · by_cases y : x = a
      · subst y
        exact ⟨by omega, fun _ => h9, fun z => by omega⟩
      by_cases y1 : x < w 1 a
      · exact blk_i n _ _ _ h11 x (by omega) y1
      by_cases y2 : x = w 1 a
      · subst y2
        exact ⟨by omega, fun z => by omega, fun _ => by rw [h10, h8]⟩
      by_cases y3 : x < w 2 a
      · exact blk_i n _ _ _ h12 x (by omega) y3
      by_cases y4 : x = w 2 a
      · subst y4
        exact ⟨by omega, fun z => by omega, fun z => by omega⟩
      · exact blk_i n d _ _ h13 x (by omega) q
def BI (b B k : Int) (μ ν : am_M) : Prop := (bOk b) ∧ (0 ≤ k ∧ k < B ∧ B ≤ 4) ∧ (μ (b + 15) k = ν 1017 k) ∧ (μ (b + 16) k = ν 1018 k) ∧ (μ (b + 17) k = ν 1019 k) ∧ (μ (b + 18) k = ν 1020 k) ∧ (0 ≤ ν 1017 k ∧ ν 1019 k + 1 ≤ ν 1018 k ∧ ν 1017 k + ν 1018 k ≤ 60) ∧ (0 ≤ ν 1019 k ∧ ν 1019 k ≤ 4) ∧ (0 ≤ ν 1020 k ∧ ν 1020 k ≤ 10) ∧ (∀ i, 0 ≤ i → i < ν 1019 k → ν 1002 (ν 1017 k + i) = 0 ∧ ν 1003 (ν 1017 k + i) = i)
theorem BI.bo {b B k : Int} {μ ν : am_M} (h : BI b B k μ ν) : bOk b := h.1
theorem BI.kk {b B k : Int} {μ ν : am_M} (h : BI b B k μ ν) : 0 ≤ k ∧ k < B ∧ B ≤ 4 := h.2.1
theorem BI.r15 {b B k : Int} {μ ν : am_M} (h : BI b B k μ ν) : μ (b + 15) k = ν 1017 k := h.2.2.1
theorem BI.r16 {b B k : Int} {μ ν : am_M} (h : BI b B k μ ν) : μ (b + 16) k = ν 1018 k := h.2.2.2.1
theorem BI.r17 {b B k : Int} {μ ν : am_M} (h : BI b B k μ ν) : μ (b + 17) k = ν 1019 k := h.2.2.2.2.1
theorem BI.r18 {b B k : Int} {μ ν : am_M} (h : BI b B k μ ν) : μ (b + 18) k = ν 1020 k := h.2.2.2.2.2.1
theorem BI.fn {b B k : Int} {μ ν : am_M} (h : BI b B k μ ν) : 0 ≤ ν 1017 k ∧ ν 1019 k + 1 ≤ ν 1018 k ∧ ν 1017 k + ν 1018 k ≤ 60 := h.2.2.2.2.2.2.1
theorem BI.tt {b B k : Int} {μ ν : am_M} (h : BI b B k μ ν) : 0 ≤ ν 1019 k ∧ ν 1019 k ≤ 4 := h.2.2.2.2.2.2.2.1
theorem BI.sx {b B k : Int} {μ ν : am_M} (h : BI b B k μ ν) : 0 ≤ ν 1020 k ∧ ν 1020 k ≤ 10 := h.2.2.2.2.2.2.2.2.1
theorem BI.tk {b B k : Int} {μ ν : am_M} (h : BI b B k μ ν) : ∀ i, 0 ≤ i → i < ν 1019 k → ν 1002 (ν 1017 k + i) = 0 ∧ ν 1003 (ν 1017 k + i) = i := h.2.2.2.2.2.2.2.2.2
theorem BI.mk {b B k : Int} {μ ν : am_M} (bo : bOk b) (kk : 0 ≤ k ∧ k < B ∧ B ≤ 4) (r15 : μ (b + 15) k = ν 1017 k) (r16 : μ (b + 16) k = ν 1018 k) (r17 : μ (b + 17) k = ν 1019 k) (r18 : μ (b + 18) k = ν 1020 k) (fn : 0 ≤ ν 1017 k ∧ ν 1019 k + 1 ≤ ν 1018 k ∧ ν 1017 k + ν 1018 k ≤ 60) (tt : 0 ≤ ν 1019 k ∧ ν 1019 k ≤ 4) (sx : 0 ≤ ν 1020 k ∧ ν 1020 k ≤ 10) (tk : ∀ i, 0 ≤ i → i < ν 1019 k → ν 1002 (ν 1017 k + i) = 0 ∧ ν 1003 (ν 1017 k + i) = i) : BI b B k μ ν := ⟨bo, kk, r15, r16, r17, r18, fn, tt, sx, tk⟩
theorem BI_of {b B W n k : Int} {Wn : Int → Int} {μ ν : am_M} (h : TB b B W n Wn μ ν) (hk : 0 ≤ k ∧ k < B) : BI b B k μ ν := by
  obtain ⟨f, m, t, S, σ, e, w⟩ := h.bw k hk.1 hk.2
  have e0 : (0 : Int) + k = k := by omega
  have r15 := w.r15
  have r16 := w.r16
  have r17 := w.r17
  have r18 := w.r18
  have hfn := w.fn
  have htt := w.tt
  have hsx := w.sx
  have hB := h.cB
  rw [e0] at r15 r16 r17 r18
  refine (BI.mk (bo := h.bo) (kk := ⟨hk.1, hk.2, hB.2.2.2⟩) (r15 := by omega) (r16 := by omega) (r17 := by omega) (r18 := by omega) (fn := by omega) (tt := by omega) (sx := by omega) (tk := fun i p q => ?_))
  have := w.tk i p (by omega)
  have e1 : (0 : Int) + (f + i) = f + i := by omega
  rw [e1] at this
  rw [r15.2]
  exact this
/-- a line behind the takes -/
def LI (b B k l W : Int) (Wn : Int → Int) (r : List Int) (μ ν : am_M) : Prop := (bOk b) ∧ (0 ≤ k ∧ k < B ∧ B ≤ 4) ∧ (CKC b l r μ ν) ∧ (ν 1017 k + ν 1019 k ≤ l ∧ l < ν 1017 k + ν 1018 k) ∧ (1 ≤ ν 1002 l) ∧ (ν 1002 l = 8 ↔ l = ν 1017 k + ν 1018 k - 1) ∧ (ν 1002 l = 5 → μ (b + 7) l = ν 1008 l) ∧ (ν 1002 l = 6 → μ (b + 7) l = ν 1009 l) ∧ (ν 1002 l = 4 → 0 ≤ ν 1006 l ∧ ν 1006 l ≤ k ∧ μ (b + 6) l = ν 1006 l ∧ (r.length : Int) = ν 1019 (ν 1006 l)) ∧ ((ν 1002 l = 2 ∨ ν 1002 l = 3) → r.length = 1) ∧ (¬ hE (ν 1002 l) → r.length ≤ 4) ∧ (0 ≤ ν 1003 l ↔ (ν 1002 l = 1 ∨ ν 1002 l = 2 ∨ ν 1002 l = 4)) ∧ (0 ≤ ν 1004 l ↔ ν 1002 l = 2) ∧ (¬ hE (ν 1002 l) → ∀ i : Nat, i < r.length → r[i]? = some (ν 1007 (4 * l + i))) ∧ (¬ hE (ν 1002 l) → μ (b + 10) l = μ (b + 9) l + (r.length : Nat) ∧ 0 ≤ μ (b + 9) l ∧ μ (b + 10) l ≤ 1000 ∧ ∀ i : Nat, i < r.length → μ (b + 11) (μ (b + 9) l + i) = 2 + ν 1007 (4 * l + i) * 128) ∧ (hE (ν 1002 l) → ∃ L, EE b l W Wn r L μ ν)
theorem LI.bo {b B k l W : Int} {Wn : Int → Int} {r : List Int} {μ ν : am_M} (h : LI b B k l W Wn r μ ν) : bOk b := h.1
theorem LI.kk {b B k l W : Int} {Wn : Int → Int} {r : List Int} {μ ν : am_M} (h : LI b B k l W Wn r μ ν) : 0 ≤ k ∧ k < B ∧ B ≤ 4 := h.2.1
theorem LI.ck {b B k l W : Int} {Wn : Int → Int} {r : List Int} {μ ν : am_M} (h : LI b B k l W Wn r μ ν) : CKC b l r μ ν := h.2.2.1
theorem LI.rg {b B k l W : Int} {Wn : Int → Int} {r : List Int} {μ ν : am_M} (h : LI b B k l W Wn r μ ν) : ν 1017 k + ν 1019 k ≤ l ∧ l < ν 1017 k + ν 1018 k := h.2.2.2.1
theorem LI.k0 {b B k l W : Int} {Wn : Int → Int} {r : List Int} {μ ν : am_M} (h : LI b B k l W Wn r μ ν) : 1 ≤ ν 1002 l := h.2.2.2.2.1
theorem LI.k8 {b B k l W : Int} {Wn : Int → Int} {r : List Int} {μ ν : am_M} (h : LI b B k l W Wn r μ ν) : ν 1002 l = 8 ↔ l = ν 1017 k + ν 1018 k - 1 := h.2.2.2.2.2.1
theorem LI.k5 {b B k l W : Int} {Wn : Int → Int} {r : List Int} {μ ν : am_M} (h : LI b B k l W Wn r μ ν) : ν 1002 l = 5 → μ (b + 7) l = ν 1008 l := h.2.2.2.2.2.2.1
theorem LI.k6 {b B k l W : Int} {Wn : Int → Int} {r : List Int} {μ ν : am_M} (h : LI b B k l W Wn r μ ν) : ν 1002 l = 6 → μ (b + 7) l = ν 1009 l := h.2.2.2.2.2.2.2.1
theorem LI.ca {b B k l W : Int} {Wn : Int → Int} {r : List Int} {μ ν : am_M} (h : LI b B k l W Wn r μ ν) : ν 1002 l = 4 → 0 ≤ ν 1006 l ∧ ν 1006 l ≤ k ∧ μ (b + 6) l = ν 1006 l ∧ (r.length : Int) = ν 1019 (ν 1006 l) := h.2.2.2.2.2.2.2.2.1
theorem LI.n1 {b B k l W : Int} {Wn : Int → Int} {r : List Int} {μ ν : am_M} (h : LI b B k l W Wn r μ ν) : (ν 1002 l = 2 ∨ ν 1002 l = 3) → r.length = 1 := h.2.2.2.2.2.2.2.2.2.1
theorem LI.n4 {b B k l W : Int} {Wn : Int → Int} {r : List Int} {μ ν : am_M} (h : LI b B k l W Wn r μ ν) : ¬ hE (ν 1002 l) → r.length ≤ 4 := h.2.2.2.2.2.2.2.2.2.2.1
theorem LI.la {b B k l W : Int} {Wn : Int → Int} {r : List Int} {μ ν : am_M} (h : LI b B k l W Wn r μ ν) : 0 ≤ ν 1003 l ↔ (ν 1002 l = 1 ∨ ν 1002 l = 2 ∨ ν 1002 l = 4) := h.2.2.2.2.2.2.2.2.2.2.2.1
theorem LI.be {b B k l W : Int} {Wn : Int → Int} {r : List Int} {μ ν : am_M} (h : LI b B k l W Wn r μ ν) : 0 ≤ ν 1004 l ↔ ν 1002 l = 2 := h.2.2.2.2.2.2.2.2.2.2.2.2.1
theorem LI.so {b B k l W : Int} {Wn : Int → Int} {r : List Int} {μ ν : am_M} (h : LI b B k l W Wn r μ ν) : ¬ hE (ν 1002 l) → ∀ i : Nat, i < r.length → r[i]? = some (ν 1007 (4 * l + i)) := h.2.2.2.2.2.2.2.2.2.2.2.2.2.1
theorem LI.cs {b B k l W : Int} {Wn : Int → Int} {r : List Int} {μ ν : am_M} (h : LI b B k l W Wn r μ ν) : ¬ hE (ν 1002 l) → μ (b + 10) l = μ (b + 9) l + (r.length : Nat) ∧ 0 ≤ μ (b + 9) l ∧ μ (b + 10) l ≤ 1000 ∧ ∀ i : Nat, i < r.length → μ (b + 11) (μ (b + 9) l + i) = 2 + ν 1007 (4 * l + i) * 128 := h.2.2.2.2.2.2.2.2.2.2.2.2.2.2.1
theorem LI.ee {b B k l W : Int} {Wn : Int → Int} {r : List Int} {μ ν : am_M} (h : LI b B k l W Wn r μ ν) : hE (ν 1002 l) → ∃ L, EE b l W Wn r L μ ν := h.2.2.2.2.2.2.2.2.2.2.2.2.2.2.2
theorem LI.mk {b B k l W : Int} {Wn : Int → Int} {r : List Int} {μ ν : am_M} (bo : bOk b) (kk : 0 ≤ k ∧ k < B ∧ B ≤ 4) (ck : CKC b l r μ ν) (rg : ν 1017 k + ν 1019 k ≤ l ∧ l < ν 1017 k + ν 1018 k) (k0 : 1 ≤ ν 1002 l) (k8 : ν 1002 l = 8 ↔ l = ν 1017 k + ν 1018 k - 1) (k5 : ν 1002 l = 5 → μ (b + 7) l = ν 1008 l) (k6 : ν 1002 l = 6 → μ (b + 7) l = ν 1009 l) (ca : ν 1002 l = 4 → 0 ≤ ν 1006 l ∧ ν 1006 l ≤ k ∧ μ (b + 6) l = ν 1006 l ∧ (r.length : Int) = ν 1019 (ν 1006 l)) (n1 : (ν 1002 l = 2 ∨ ν 1002 l = 3) → r.length = 1) (n4 : ¬ hE (ν 1002 l) → r.length ≤ 4) (la : 0 ≤ ν 1003 l ↔ (ν 1002 l = 1 ∨ ν 1002 l = 2 ∨ ν 1002 l = 4)) (be : 0 ≤ ν 1004 l ↔ ν 1002 l = 2) (so : ¬ hE (ν 1002 l) → ∀ i : Nat, i < r.length → r[i]? = some (ν 1007 (4 * l + i))) (cs : ¬ hE (ν 1002 l) → μ (b + 10) l = μ (b + 9) l + (r.length : Nat) ∧ 0 ≤ μ (b + 9) l ∧ μ (b + 10) l ≤ 1000 ∧ ∀ i : Nat, i < r.length → μ (b + 11) (μ (b + 9) l + i) = 2 + ν 1007 (4 * l + i) * 128) (ee : hE (ν 1002 l) → ∃ L, EE b l W Wn r L μ ν) : LI b B k l W Wn r μ ν := ⟨bo, kk, ck, rg, k0, k8, k5, k6, ca, n1, n4, la, be, so, cs, ee⟩
theorem LI_of {b B W n k l : Int} {Wn : Int → Int} {r : List Int} {μ ν : am_M} (h : TB b B W n Wn μ ν) (hk : 0 ≤ k ∧ k < B) (hl : ν 1017 k + ν 1019 k ≤ l ∧ l < ν 1017 k + ν 1018 k) (hr : CKC b l r μ ν) : LI b B k l W Wn r μ ν := by
  obtain ⟨f, m, t, S, σ, e, w⟩ := h.bw k hk.1 hk.2
  have e0 : (0 : Int) + k = k := by omega
  have el : (0 : Int) + l = l := by omega
  have hn := h.cn
  have hB := h.cB
  have hW := h.cW
  have r15 := w.r15
  have r16 := w.r16
  have r17 := w.r17
  have hfn := w.fn
  have htt := w.tt
  rw [e0] at r15 r16 r17
  obtain ⟨u, a1, a2⟩ := w.ln l (by omega) (by omega)
  obtain ⟨S', u', a0, a⟩ := h.al l (by omega) (by omega)
  have gv := w.gv
  have eg : (0 : Int) + (f + m - 1) = f + m - 1 := by omega
  rw [eg] at gv
  obtain ⟨nb, bk⟩ := wZ_of w.bk
  have kd := a1.kd
  have sl := a1.sl
  have sb := a1.sb
  have sc := a1.sc
  have ca := a1.ca
  have cl := a2.cl
  have ne := a1.ne
  have st := a1.st
  have u0 := a1.t0
  rw [el] at kd sl sb sc ca cl ne
  have B1 : ∀ x, f + t ≤ x → x < f + m - 1 → (1 ≤ ν 1002 x ∧ ν 1002 x ≤ 7) ∧ (ν 1002 x = 5 → μ (b + 7) x = ν 1008 x) ∧ (ν 1002 x = 6 → μ (b + 7) x = ν 1009 x) := fun x p q => blk_i nb 3 _ _ bk x p q
  have k0 : 1 ≤ ν 1002 l := by
    by_cases z : l = f + m - 1
    · rw [z, gv]; decide
    · exact (B1 l (by omega) (by omega)).1.1
  have hrl := hr.rl
  have len : ¬ hE (ν 1002 l) → (r.length : Int) = nS (ν 1002 l) u := by
    intro z
    obtain ⟨y1, y2, y3⟩ := ne z
    have hnS : 0 ≤ nS (ν 1002 l) u ∧ nS (ν 1002 l) u ≤ 4 := by
      unfold nS
      split
      · omega
      · split <;> omega
    rcases hrl.re with ⟨y, -⟩ | ⟨-, -, -, -, y5, y6, y7⟩
    · exact absurd y z
    rcases Int.lt_trichotomy (r.length : Int) (nS (ν 1002 l) u) with q | q | q
    · have q1 := y2 r.length (by omega) q
      have q2 := y7 r.length (Int.le_refl _) (by omega)
      omega
    · exact q
    · have q1 := y3 (nS (ν 1002 l) u) (Int.le_refl _) (by omega)
      have q2 := y6 (nS (ν 1002 l) u).toNat (by omega)
      have q3 : (((nS (ν 1002 l) u).toNat : Nat) : Int) = nS (ν 1002 l) u := by omega
      rw [q3, q1] at q2
      have := hrl.sl (-1) (List.mem_of_getElem? q2)
      omega
  refine (LI.mk (bo := h.bo) (kk := ⟨hk.1, hk.2, hB.2.2.2⟩) (ck := hr) (rg := hl) (k0 := k0) (k8 := ?_) (k5 := fun z => ?_) (k6 := fun z => ?_) (ca := fun z => ?_) (n1 := fun z => ?_) (n4 := fun z => ?_) (la := by omega) (be := sb) (so := fun z i hi => ?_) (cs := fun z => ?_) (ee := fun z => ?_))
  · constructor
    · intro z
      by_cases y : l = f + m - 1
      · omega
      · have := (B1 l (by omega) (by omega)).1; omega
    · intro z
      have : l = f + m - 1 := by omega
      rw [this]; exact gv
  · have : l ≠ f + m - 1 := fun y => by rw [y, gv] at z; omega
    exact (B1 l (by omega) (by omega)).2.1 z
  · have : l ≠ f + m - 1 := fun y => by rw [y, gv] at z; omega
    exact (B1 l (by omega) (by omega)).2.2 z
  · have y := cl z
    have y2 := sc.mpr z
    have e1 : (0 : Int) + ν 1006 l = ν 1006 l := by omega
    rw [e1] at y
    have y3 := len (by unfold hE; omega)
    have y4 : nS (ν 1002 l) u = u := by unfold nS; rw [if_neg (by omega), if_pos z]
    exact ⟨y2, by omega, ca.1, by omega⟩
  · have y3 := len (by unfold hE; omega)
    have y4 : nS (ν 1002 l) u = 1 := by unfold nS; rw [if_pos z]
    omega
  · rcases hrl.re with ⟨y, -⟩ | ⟨-, -, -, -, y5, -⟩
    · exact absurd y z
    · exact y5
  · rcases hrl.re with ⟨y, -⟩ | ⟨-, -, -, -, -, y6, -⟩
    · exact absurd y z
    · exact y6 i hi
  · have y3 := len z
    obtain ⟨y1, y2, -⟩ := ne z
    exact ⟨by omega, st.1, st.2.2, fun i hi => (y2 i (by omega) (by omega)).2⟩
  · exact EE_of h.bo a (by omega) a0 hW.2.2.2 h.wv h.wr h.wn z hrl
