/-! An E: behind a part, the end; the loop; both readings of a whole E. -/
theorem kst_set {o c c' : Int → Int} {k : Int} {cp cp' : Bool} {r : List (Int × Bool)} {d : Int} (h0 : 0 ≤ d) (h : kst o c d ((k, cp) :: r)) (h1 : c' d = if cp' = true then 1 else 0) (h2 : ∀ i, i ≠ d → c' i = c i) : kst o c' d ((k, cp') :: r) := by
  obtain ⟨-, h3⟩ := h
  refine ⟨h1, ?_⟩
  by_cases q : d = 0
  · rw [if_pos q] at h3 ⊢; exact h3
  · rw [if_neg q] at h3 ⊢
    exact ⟨h3.1, h3.2.1, kst_c r (d - 1) (by omega) (fun i _ _ => ⟨rfl, h2 i (by omega)⟩) h3.2.2⟩
theorem E_op1 {S0 b p l q B W ln : Int} {Wn : Int → Int} {X : Int → Int → am_M → am_O} {Y : Int → Int → Int → am_M → am_O} (hb : bOk b) (hWr : ∀ w, r32 (Wn w)) {v2 : Int} {L : List Int} {k0 : Int} {cp : Bool} {ks : List (Int × Bool)} {wt ro : List Int} {d c : Int} {μ ν : am_M} (H : EH S0 b p l q B W ln Wn μ X Y) (h : EP b p l q B W Wn 0 v2 L false ((k0, cp) :: ks) wt ro d μ ν) (hd : dpR L st0) (hn : NV S0 (μ 20 6) L) (hc : c = 20 ∨ c = 21 ∨ c = 22) (hK : μ 10 5 = xOp c) : ECL S0 b p l q B W ln Wn μ ν (q_bd (Rd_join μ) fun a7 μ8 => Rd_readSum_B127 X 1 v2 a7 μ8) (M_readsE_B296 Y ln d c ν) := by
  have hq0 := h.q0
  have hcd := h.cd
  have hcaq := h.caq
  have hat := h.tr.base.at3
  have hbe := h.tr.be1
  have hn1 := h.tr.base.n1
  have hc0 : isOp c = true := by unfold isOp; simp; omega
  have hxw := (xOp_w hc0).1
  have hlst := h.tr.lst (fun z => by have := (tkN h.tr).2.1.mp z; rw [hK] at this; unfold isWt at hxw; omega)
  unfold M_readsE_B296
  rw [puts_s (by omega) (by omega), q_bd_s]
  have fν : ∀ c' i, ¬ ((c' = 1000 ∧ i = 30) ∨ (c' = 1012 ∧ i = ν 1000 30)) → m_st (m_st ν 1012 (ν 1000 30) c) 1000 30 (ν 1000 30 + 1) c' i = ν c' i := fun c i z => by rw [m_st_d, if_neg (by omega), m_st_d, if_neg (by omega)]
  refine E_op hb hWr H h hd hn (ks' := (k0, cp) :: ks) (by unfold isOp; simp; omega) hK ?_ ?_ (fun c i z => fν c i (by omega)) (by rw [m_st_d, if_pos ⟨rfl, rfl⟩]) (by rw [m_st_c (by decide), m_st_d, if_pos ⟨rfl, rfl⟩]) ?_
  · unfold vStep
    dsimp only
    rw [if_pos hc]
  · intro z
    rcases hc with e | e | e <;> (subst e; exact absurd z (by decide))
  · exact kst_c _ d h.d0.1 (fun i _ _ => ⟨fν _ _ (by omega), fν _ _ (by omega)⟩) h.kk
theorem E_op2 {S0 b p l q B W ln : Int} {Wn : Int → Int} {X : Int → Int → am_M → am_O} {Y : Int → Int → Int → am_M → am_O} (hb : bOk b) (hWr : ∀ w, r32 (Wn w)) {v2 : Int} {L : List Int} {k0 : Int} {ks : List (Int × Bool)} {wt ro : List Int} {d c : Int} {μ ν : am_M} (H : EH S0 b p l q B W ln Wn μ X Y) (h : EP b p l q B W Wn 0 v2 L false ((k0, false) :: ks) wt ro d μ ν) (hd : dpR L st0) (hn : NV S0 (μ 20 6) L) (hc : c = 24 ∨ c = 25) (hK : μ 10 5 = xOp c) : ECL S0 b p l q B W ln Wn μ ν (q_bd (Rd_join μ) fun a7 μ8 => Rd_readSum_B127 X 1 v2 a7 μ8) (M_readsE_B348 Y ln d c ν) := by
  have hq0 := h.q0
  have hcd := h.cd
  have hcaq := h.caq
  have hat := h.tr.base.at3
  have hbe := h.tr.be1
  have hn1 := h.tr.base.n1
  have hd0 := h.d0
  have hc0 : isOp c = true := by unfold isOp; simp; omega
  have hxw := (xOp_w hc0).1
  have hlst := h.tr.lst (fun z => by have := (tkN h.tr).2.1.mp z; rw [hK] at this; unfold isWt at hxw; omega)
  unfold M_readsE_B348
  rw [puts_s (by omega) (by omega), q_bd_s, q_stb_s (by omega) (by omega) (Or.inr rfl)]
  have fν : ∀ c' i, ¬ ((c' = 1000 ∧ i = 30) ∨ (c' = 1012 ∧ i = ν 1000 30) ∨ (c' = 1023 ∧ i = d)) → m_st (m_st (m_st ν 1012 (ν 1000 30) c) 1000 30 (ν 1000 30 + 1)) 1023 d 1 c' i = ν c' i := fun c i z => by rw [m_st_d, if_neg (by omega), m_st_d, if_neg (by omega), m_st_d, if_neg (by omega)]
  obtain ⟨kd, cp, ks', e1, e2, e3, e4, e5, e6, e7⟩ := EX_pop h.ex
  cases e1
  refine E_op hb hWr H h hd hn (ks' := (k0, true) :: ks) (by unfold isOp; simp; omega) hK ?_ ?_ fν (by rw [m_st_c (by decide), m_st_d, if_pos ⟨rfl, rfl⟩]) (by rw [m_st_c (by decide), m_st_c (by decide), m_st_d, if_pos ⟨rfl, rfl⟩]) ?_
  · unfold vStep
    dsimp only
    rw [if_neg (by omega), if_pos hc]
    rfl
  · intro z
    rcases e7 rfl with y | ⟨w, r, y, y2⟩
    · rw [y]; decide
    · rw [y]; exact y2
  · exact kst_set hd0.1 (kst_c _ d hd0.1 (c' := ν 1023) (fun i _ _ => ⟨fν _ _ (by omega), rfl⟩) h.kk) (by rw [m_st_d, if_pos ⟨rfl, rfl⟩]; rfl) (fun i z => fν _ _ (by omega))
theorem E_op3 {S0 b p l q B W ln : Int} {Wn : Int → Int} {X : Int → Int → am_M → am_O} {Y : Int → Int → Int → am_M → am_O} (hb : bOk b) (hWr : ∀ w, r32 (Wn w)) {v2 : Int} {L : List Int} {k0 : Int} {cp : Bool} {ks : List (Int × Bool)} {wt ro : List Int} {d c : Int} {μ ν : am_M} (H : EH S0 b p l q B W ln Wn μ X Y) (h : EP b p l q B W Wn 0 v2 L false ((k0, cp) :: ks) wt ro d μ ν) (hd : dpR L st0) (hn : NV S0 (μ 20 6) L) (hc : c = 26 ∨ c = 27) (hK : μ 10 5 = xOp c) : ECL S0 b p l q B W ln Wn μ ν (q_bd (Rd_join μ) fun a7 μ8 => Rd_readSum_B127 X 1 v2 a7 μ8) (M_readsE_B401 Y ln d c ν) := by
  have hq0 := h.q0
  have hcd := h.cd
  have hcaq := h.caq
  have hat := h.tr.base.at3
  have hbe := h.tr.be1
  have hn1 := h.tr.base.n1
  have hd0 := h.d0
  have hc0 : isOp c = true := by unfold isOp; simp; omega
  have hxw := (xOp_w hc0).1
  have hlst := h.tr.lst (fun z => by have := (tkN h.tr).2.1.mp z; rw [hK] at this; unfold isWt at hxw; omega)
  unfold M_readsE_B401
  rw [puts_s (by omega) (by omega), q_bd_s, q_stb_s (by omega) (by omega) (Or.inl rfl)]
  have fν : ∀ c' i, ¬ ((c' = 1000 ∧ i = 30) ∨ (c' = 1012 ∧ i = ν 1000 30) ∨ (c' = 1023 ∧ i = d)) → m_st (m_st (m_st ν 1012 (ν 1000 30) c) 1000 30 (ν 1000 30 + 1)) 1023 d 0 c' i = ν c' i := fun c i z => by rw [m_st_d, if_neg (by omega), m_st_d, if_neg (by omega), m_st_d, if_neg (by omega)]
  refine E_op hb hWr H h hd hn (ks' := (k0, false) :: ks) (by unfold isOp; simp; omega) hK ?_ ?_ fν (by rw [m_st_c (by decide), m_st_d, if_pos ⟨rfl, rfl⟩]) (by rw [m_st_c (by decide), m_st_c (by decide), m_st_d, if_pos ⟨rfl, rfl⟩]) ?_
  · unfold vStep
    dsimp only
    rw [if_neg (by omega), if_neg (by omega), if_pos hc]
  · intro z
    rcases hc with e | e <;> (subst e; exact absurd z (by decide))
  · exact kst_set hd0.1 (kst_c _ d hd0.1 (c' := ν 1023) (fun i _ _ => ⟨fν _ _ (by omega), rfl⟩) h.kk) (by rw [m_st_d, if_pos ⟨rfl, rfl⟩]; rfl) (fun i z => fν _ _ (by omega))
theorem E_false {S0 b p l q B W ln : Int} {Wn : Int → Int} {X : Int → Int → am_M → am_O} {Y : Int → Int → Int → am_M → am_O} (hb : bOk b) (hWr : ∀ w, r32 (Wn w)) {v2 : Int} {L : List Int} {ks : List (Int × Bool)} {wt ro : List Int} {d : Int} {μ ν : am_M} (H : EH S0 b p l q B W ln Wn μ X Y) (h : EP b p l q B W Wn 0 v2 L false ks wt ro d μ ν) (hd : dpR L st0) (hn : NV S0 (μ 20 6) L) : ECL S0 b p l q B W ln Wn μ ν (Rd_readSum_L14_b X 0 v2 μ) (M_readsE_L21_b Y ln d 0 ν) := by
  have hb' : b = 100 ∨ b = 200 := hb
  have hv := h.v2r
  have hbe := h.tr.be1
  have hat := h.tr.base.at3
  have hn1 := h.tr.base.n1
  have hd0 := h.d0
  have s43 := isSg h.tr (s := 43) (by decide)
  have s45 := isSg h.tr (s := 45) (by decide)
  have s42 := isSg h.tr (s := 42) (by decide)
  have s60 := isSg h.tr (s := 60) (by decide)
  have s61 := isSg h.tr (s := 61) (by decide)
  have s41 := isSg h.tr (s := 41) (by decide)
  have s59 := isSg h.tr (s := 59) (by decide)
  have w15 := isWd h.tr (by decide : (100 : Int) ≤ 115) kwI15
  have w16 := isWd h.tr (by decide : (100 : Int) ≤ 116) kwI16
  obtain ⟨kd, cp, ks', e1, e2, e3, e4, e5, e6, e7⟩ := EX_pop h.ex
  subst e1
  have hkk := h.kk
  obtain ⟨kc, kr⟩ := hkk
  have kd0 : kd = 0 ↔ d = 0 := by
    by_cases z : d = 0
    · rw [if_pos z] at kr; exact ⟨fun _ => z, fun _ => kr.1⟩
    · rw [if_neg z] at kr; exact ⟨fun y => by omega, fun y => absurd y z⟩
  have el : l + 1 - 1 = l := by omega
  unfold Rd_readSum_L14_b M_readsE_L21_b
  rw [if_pos (show v2 ≤ 1000 by omega), if_pos (show (0 : Int) = 0 from rfl), if_pos (show (0 : Int) = 0 from rfl), s43, q_bd_s, rank_s, q_bd_s]
  by_cases c43 : μ 10 5 = 43
  · rw [if_neg (show ¬ μ 10 5 = 41 by omega), c43, if_neg (show ¬ rk 43 ≤ 0 by decide), if_pos (show (43 : Int) = 43 from rfl), if_neg (by decide)]
    rw [if_pos c43] at s43
    unfold M_readsE_B265
    rw [s43, q_bd_s, if_neg (by decide)]
    exact E_op1 hb hWr H h hd hn (Or.inl rfl) c43
  rw [if_neg c43, if_pos rfl, s45, q_bd_s]
  rw [if_neg c43] at s43
  by_cases c45 : μ 10 5 = 45
  · rw [if_neg (show ¬ μ 10 5 = 41 by omega), c45, if_neg (show ¬ rk 45 ≤ 0 by decide), if_pos (show (45 : Int) = 45 from rfl), if_neg (by decide)]
    rw [if_pos c45] at s45
    unfold M_readsE_B265
    rw [s43, q_bd_s, if_pos rfl, s45, q_bd_s, if_neg (by decide)]
    exact E_op1 hb hWr H h hd hn (Or.inr (Or.inl rfl)) c45
  rw [if_neg c45, if_pos rfl, s42, q_bd_s]
  rw [if_neg c45] at s45
  by_cases c42 : μ 10 5 = 42
  · rw [if_neg (show ¬ μ 10 5 = 41 by omega), c42, if_neg (show ¬ rk 42 ≤ 0 by decide), if_pos (show (42 : Int) = 42 from rfl), if_neg (by decide)]
    unfold M_readsE_B265
    rw [s43, q_bd_s, if_pos rfl, s45, q_bd_s, if_pos rfl]
    exact E_op1 hb hWr H h hd hn (Or.inr (Or.inr rfl)) c42
  rw [if_neg c42, if_pos rfl, s60, q_bd_s]
  have cmp : ∀ (K c : Int), (K = 60 ∧ c = 24) ∨ (K = 61 ∧ c = 25) → μ 10 5 = K → ECL S0 b p l q B W ln Wn μ ν (q_bd (Rd_join μ) fun a7 μ8 => Rd_readSum_B127 X 1 v2 a7 μ8) (M_readsE_B322 Y ln d 0 ν) := by
    intro K c hKc hK
    unfold M_readsE_B322
    rw [q_ld_s (by omega) (by omega), kc]
    cases cp with
    | false =>
      rw [if_pos (by decide), s60, q_bd_s]
      rcases hKc with ⟨y1, y2⟩ | ⟨y1, y2⟩
      · subst y1
        rw [if_pos hK, if_neg (by decide)]
        exact E_op2 hb hWr H h hd hn (Or.inl rfl) hK
      · subst y1
        rw [if_neg (show ¬ μ 10 5 = 60 by omega), if_pos rfl]
        exact E_op2 hb hWr H h hd hn (Or.inr rfl) hK
    | true =>
      rw [if_neg (by decide)]
      unfold M_readsE_B363
      rw [w15, if_neg (by omega), q_bd_s, if_pos rfl, w16, if_neg (by omega), q_bd_s, if_pos rfl, s41, if_neg (by omega), q_bd_s, if_pos rfl]
      obtain ⟨w, r, y1, y2⟩ := e6 rfl
      obtain ⟨μ', g1, g2⟩ := join_f hb h.cx h.rd.rl hK (by rcases hKc with ⟨y, -⟩ | ⟨y, -⟩ <;> (subst y; rfl)) (by rw [y1]; exact y2)
      rw [h.ml, el] at g2
      obtain ⟨f1, f2, f3⟩ := E_fail2 (S0 := S0) (q := q) (B := B) (W := W) (ln := ln) (Wn := Wn) h.tr h.rd.rf g2 hb
      rw [g1, f1, q_bd_s, q_rb0, q_bd_s]
      have ey : M_readsE_B458 ln d ν = M_readsE_B487 ν := by
        unfold M_readsE_B458
        by_cases z : d = 0
        · rw [if_pos z, s59, if_neg (by omega), q_bd_s, if_pos rfl]
        · rw [if_neg z]
      rw [ey]
      unfold Rd_readSum_B127 M_readsE_B487
      rw [if_pos rfl, f2, q_bd_s, q_rb0]
      exact f3
  by_cases c60 : μ 10 5 = 60
  · rw [if_neg (show ¬ μ 10 5 = 41 by omega), if_neg (show ¬ rk (μ 10 5) ≤ 0 by rw [c60]; decide), if_pos c60, if_neg (by decide)]
    exact cmp 60 24 (Or.inl ⟨rfl, rfl⟩) c60
  rw [if_neg c60, if_pos rfl, s61, q_bd_s]
  by_cases c61 : μ 10 5 = 61
  · rw [if_neg (show ¬ μ 10 5 = 41 by omega), if_neg (show ¬ rk (μ 10 5) ≤ 0 by rw [c61]; decide), if_pos c61, if_neg (by decide)]
    exact cmp 61 25 (Or.inr ⟨rfl, rfl⟩) c61
  rw [if_neg c61, if_pos rfl]
  unfold M_readsE_B363
  rw [w15, q_bd_s]
  by_cases c15 : μ 10 5 = 115
  · rw [if_neg (show ¬ μ 10 5 = 41 by omega), if_neg (show ¬ rk (μ 10 5) ≤ 0 by rw [c15]; decide), if_pos c15, if_neg (by decide)]
    unfold M_readsE_B383
    rw [w15, if_pos c15, q_bd_s, if_neg (by decide)]
    exact E_op3 hb hWr H h hd hn (Or.inl rfl) c15
  rw [if_neg c15, if_pos rfl, w16, q_bd_s]
  rw [if_neg c15] at w15
  by_cases c16 : μ 10 5 = 116
  · rw [if_neg (show ¬ μ 10 5 = 41 by omega), if_neg (show ¬ rk (μ 10 5) ≤ 0 by rw [c16]; decide), if_pos c16, if_neg (by decide)]
    unfold M_readsE_B383
    rw [w15, q_bd_s, if_pos rfl]
    exact E_op3 hb hWr H h hd hn (Or.inr rfl) c16
  rw [if_neg c16, if_pos rfl, s41, q_bd_s]
  have ey : μ 10 5 ≠ 59 ∨ d ≠ 0 → M_readsE_B458 ln d ν = M_readsE_B487 ν := by
    intro y
    unfold M_readsE_B458
    by_cases z : d = 0
    · rw [if_pos z, s59, if_neg (by omega), q_bd_s, if_pos rfl]
    · rw [if_neg z]
  by_cases c41 : μ 10 5 = 41
  · rw [if_pos c41, if_pos c41, if_neg (by decide)]
    by_cases z : d = 0
    · rw [if_pos (show d ≤ 0 by omega), ey (by omega)]
      obtain ⟨μ', g1, g2⟩ := unwrap_f hb h.cx h.rd.rl (e4 (kd0.mpr z))
      rw [h.ml, el] at g2
      obtain ⟨f1, f2, f3⟩ := E_fail2 (S0 := S0) (q := q) (B := B) (W := W) (ln := ln) (Wn := Wn) h.tr h.rd.rf g2 hb
      rw [g1, f1, q_bd_s, q_rb0, q_bd_s]
      unfold Rd_readSum_B127 M_readsE_B487
      rw [if_pos rfl, f2, q_bd_s, q_rb0]
      exact f3
    · rw [if_neg (show ¬ d ≤ 0 by omega)]
      have hkd : kd = 2 := by omega
      subst hkd
      obtain ⟨w2, y⟩ := e5 rfl
      exact E_close hb hWr H h hd hn c41 y
  rw [if_neg c41, if_neg c41, if_pos rfl]
  have hrk : rk (μ 10 5) = 0 := by
    unfold rk
    rw [if_neg (by omega), if_neg (by omega), if_neg (by omega), if_neg (by omega)]
  rw [if_pos (show rk (μ 10 5) ≤ 0 by omega)]
  obtain ⟨μ', g1, g2, g3⟩ := endSum_s hb h.cx h.rd.rl
  rw [h.ml, el] at g3
  rw [g1]
  by_cases z : d = 0
  · have hkd := kd0.mpr z
    have hpp := e4 hkd
    rw [if_pos hpp, q_bd_s, q_rb1]
    have hks : ks' = [] := e3.mp hkd
    subst hkd; subst hks; subst z
    obtain ⟨x1, x2, x3, x4⟩ := h.ex
    have econv : convR Wn L = (popR 1 wt ro).2 := by unfold convR; rw [x2]
    have hsl := popR_len 1 wt ro
    rw [hpp] at g2 hsl
    rw [← econv] at g2 hsl
    have hcap := h.cap
    have hcaq := h.caq
    rw [List.length_nil] at hsl
    refine ⟨1, μ', rfl, g3.fe, ν, FME.refl, Or.inr ⟨rfl, L, rfl, h.tr.cong (fun c i y => g3 c i (by omega)) (fun _ _ _ => rfl), h.sl.cong (fun c i y => g3 c i (by omega)) (fun _ _ _ => rfl), by rw [g3 _ _ (by omega)]; exact h.rd.rf, ⟨cp, x1⟩, hd, ?_, fun c hc => by rw [g3 _ _ (by omega)]; exact h.vl c hc, h.cd, h.sg, g2, by rw [g3 10 3 (by omega)]; omega, by rw [g3 10 3 (by omega)]; omega, hn.eq (g3 20 6 (by omega))⟩⟩
    obtain ⟨y1, y2⟩ := x4
    have y2 : hR ro = some (nb wt + 1) := y2
    obtain ⟨y3, -, -⟩ := popR_h (by decide : (1 : Int) ≤ 1) wt ro 0 y1 (by rw [y2]; congr 1; omega) (by omega)
    rw [econv, y3, hpp]
    rfl
  · have hkd : kd = 2 := by omega
    obtain ⟨w2, y⟩ := e5 hkd
    obtain ⟨f1, f2, f3⟩ := E_fail2 (S0 := S0) (q := q) (B := B) (W := W) (ln := ln) (Wn := Wn) h.tr h.rd.rf g3 hb
    rw [if_neg (by rw [y]; simp), f1, q_bd_s, if_pos rfl, q_bd_s, q_rb0, ey (Or.inr z)]
    unfold M_readsE_B487
    rw [f2, q_bd_s, q_rb0]
    exact f3
theorem E_loop {S0 b p l q B W ln : Int} {Wn : Int → Int} (hb : bOk b) (hWr : ∀ w, r32 (Wn w)) : ∀ (k f1 f2 : Nat) (v2 : Int) (L : List Int) (wb : Bool) (ks : List (Int × Bool)) (wt ro : List Int) (d : Int) (μ ν : am_M), EP b p l q B W Wn 0 v2 L wb ks wt ro d μ ν → dpR L st0 → NV S0 (μ 20 6) L → μ 10 2 - μ 10 3 ≤ (k : Int) → k < f1 → k < f2 → ECL S0 b p l q B W ln Wn μ ν (Rd_readSum_L14 f1 (if wb = true then 1 else 0) v2 μ) (M_readsE_L21 f2 ln d (if wb = true then 1 else 0) ν)
  | k, 0, _, _, _, _, _, _, _, _, _, _, _, _, _, _, h1, _ => by omega
  | k, _ + 1, 0, _, _, _, _, _, _, _, _, _, _, _, _, _, _, h2 => by omega
  | k, f1 + 1, f2 + 1, v2, L, wb, ks, wt, ro, d, μ, ν, h, hd, hn, hk, h1, h2 => by
    have H : EH S0 b p l q B W ln Wn μ (Rd_readSum_L14 f1) (M_readsE_L21 f2) := by
      intro v2' L' wb' ks' wt' ro' d' μ' ν' h' hd' hn' hlt he
      have hat := h'.tr.base.at3
      have hbe := h'.tr.be1
      cases k with
      | zero => omega
      | succ k => exact E_loop hb hWr k f1 f2 v2' L' wb' ks' wt' ro' d' μ' ν' h' hd' hn' (by omega) (by omega) (by omega)
    cases wb with
    | true => exact E_true hb hWr H h hd hn
    | false => exact E_false hb hWr H h hd hn
