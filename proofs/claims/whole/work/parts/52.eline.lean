/-! A line that ends with an E. -/
theorem fsg_mem {g : Int → Int} : ∀ (L : List Int) (q c : Int), fsg g q L → c ∈ L → ∃ i, q ≤ i ∧ i < q + L.length ∧ g i = c
  | [], _, _, _, h => by cases h
  | d :: L, q, c, h, hc => by
    rw [List.length_cons]
    rcases List.mem_cons.mp hc with z | z
    · exact ⟨q, Int.le_refl _, by omega, by rw [z]; exact h.1⟩
    · obtain ⟨i, a1, a2, a3⟩ := fsg_mem L (q + 1) c h.2 z
      exact ⟨i, by omega, by omega, a3⟩
/-- all that a line's reading leaves is known but its E -/
def EL (b B W l p q k0 s1 kp : Int) (Wn : Int → Int) (μ0 ν0 μ ν : am_M) : Prop := (LN b B W l p μ ν) ∧ (μ (b + 1) 11 = p) ∧ (ν 1000 30 = q) ∧ (FL1 b l p μ0 μ) ∧ (FL2 B l q ν0 ν) ∧ (hE k0) ∧ (μ (b + 2) l = k0) ∧ (μ (b + 3) l = s1) ∧ (μ (b + 4) l = -1) ∧ (μ (b + 5) l = if kp = 1 then 1 else 0) ∧ (μ (b + 6) l = -1) ∧ (ν 1002 (60 + l) = k0) ∧ (ν 1003 (60 + l) = s1) ∧ (ν 1004 (60 + l) = -1) ∧ (ν 1005 (60 + l) = kp) ∧ (ν 1006 (60 + l) = -1) ∧ (∀ i, 0 ≤ i → i < 4 → ν 1007 (4 * (60 + l) + i) = -1) ∧ (kp = 1 ∨ kp = 2) ∧ (-1 ≤ s1 ∧ s1 < μ 20 6 ∧ s1 ≤ μ0 20 6) ∧ (0 ≤ s1 ↔ k0 = 1) ∧ (kp = 2 → k0 = 1) ∧ (∀ n, μ0 20 6 ≤ n → n < μ 20 6 → n = s1) ∧ (μ0 20 6 ≤ μ 20 6) ∧ (μ0 10 3 ≤ μ 10 3) ∧ (∀ w, r32 (Wn w)) ∧ (∀ w, 0 ≤ w → w < W → Wn w = ν 1015 (4 + w))
theorem EL.ln {b B W l p q k0 s1 kp : Int} {Wn : Int → Int} {μ0 ν0 μ ν : am_M} (h : EL b B W l p q k0 s1 kp Wn μ0 ν0 μ ν) : LN b B W l p μ ν := h.1
theorem EL.pc {b B W l p q k0 s1 kp : Int} {Wn : Int → Int} {μ0 ν0 μ ν : am_M} (h : EL b B W l p q k0 s1 kp Wn μ0 ν0 μ ν) : μ (b + 1) 11 = p := h.2.1
theorem EL.qc {b B W l p q k0 s1 kp : Int} {Wn : Int → Int} {μ0 ν0 μ ν : am_M} (h : EL b B W l p q k0 s1 kp Wn μ0 ν0 μ ν) : ν 1000 30 = q := h.2.2.1
theorem EL.f1 {b B W l p q k0 s1 kp : Int} {Wn : Int → Int} {μ0 ν0 μ ν : am_M} (h : EL b B W l p q k0 s1 kp Wn μ0 ν0 μ ν) : FL1 b l p μ0 μ := h.2.2.2.1
theorem EL.f2 {b B W l p q k0 s1 kp : Int} {Wn : Int → Int} {μ0 ν0 μ ν : am_M} (h : EL b B W l p q k0 s1 kp Wn μ0 ν0 μ ν) : FL2 B l q ν0 ν := h.2.2.2.2.1
theorem EL.ke {b B W l p q k0 s1 kp : Int} {Wn : Int → Int} {μ0 ν0 μ ν : am_M} (h : EL b B W l p q k0 s1 kp Wn μ0 ν0 μ ν) : hE k0 := h.2.2.2.2.2.1
theorem EL.k2 {b B W l p q k0 s1 kp : Int} {Wn : Int → Int} {μ0 ν0 μ ν : am_M} (h : EL b B W l p q k0 s1 kp Wn μ0 ν0 μ ν) : μ (b + 2) l = k0 := h.2.2.2.2.2.2.1
theorem EL.k3 {b B W l p q k0 s1 kp : Int} {Wn : Int → Int} {μ0 ν0 μ ν : am_M} (h : EL b B W l p q k0 s1 kp Wn μ0 ν0 μ ν) : μ (b + 3) l = s1 := h.2.2.2.2.2.2.2.1
theorem EL.k4 {b B W l p q k0 s1 kp : Int} {Wn : Int → Int} {μ0 ν0 μ ν : am_M} (h : EL b B W l p q k0 s1 kp Wn μ0 ν0 μ ν) : μ (b + 4) l = -1 := h.2.2.2.2.2.2.2.2.1
theorem EL.k5 {b B W l p q k0 s1 kp : Int} {Wn : Int → Int} {μ0 ν0 μ ν : am_M} (h : EL b B W l p q k0 s1 kp Wn μ0 ν0 μ ν) : μ (b + 5) l = if kp = 1 then 1 else 0 := h.2.2.2.2.2.2.2.2.2.1
theorem EL.k6 {b B W l p q k0 s1 kp : Int} {Wn : Int → Int} {μ0 ν0 μ ν : am_M} (h : EL b B W l p q k0 s1 kp Wn μ0 ν0 μ ν) : μ (b + 6) l = -1 := h.2.2.2.2.2.2.2.2.2.2.1
theorem EL.m2 {b B W l p q k0 s1 kp : Int} {Wn : Int → Int} {μ0 ν0 μ ν : am_M} (h : EL b B W l p q k0 s1 kp Wn μ0 ν0 μ ν) : ν 1002 (60 + l) = k0 := h.2.2.2.2.2.2.2.2.2.2.2.1
theorem EL.m3 {b B W l p q k0 s1 kp : Int} {Wn : Int → Int} {μ0 ν0 μ ν : am_M} (h : EL b B W l p q k0 s1 kp Wn μ0 ν0 μ ν) : ν 1003 (60 + l) = s1 := h.2.2.2.2.2.2.2.2.2.2.2.2.1
theorem EL.m4 {b B W l p q k0 s1 kp : Int} {Wn : Int → Int} {μ0 ν0 μ ν : am_M} (h : EL b B W l p q k0 s1 kp Wn μ0 ν0 μ ν) : ν 1004 (60 + l) = -1 := h.2.2.2.2.2.2.2.2.2.2.2.2.2.1
theorem EL.m5 {b B W l p q k0 s1 kp : Int} {Wn : Int → Int} {μ0 ν0 μ ν : am_M} (h : EL b B W l p q k0 s1 kp Wn μ0 ν0 μ ν) : ν 1005 (60 + l) = kp := h.2.2.2.2.2.2.2.2.2.2.2.2.2.2.1
theorem EL.m6 {b B W l p q k0 s1 kp : Int} {Wn : Int → Int} {μ0 ν0 μ ν : am_M} (h : EL b B W l p q k0 s1 kp Wn μ0 ν0 μ ν) : ν 1006 (60 + l) = -1 := h.2.2.2.2.2.2.2.2.2.2.2.2.2.2.2.1
theorem EL.m7 {b B W l p q k0 s1 kp : Int} {Wn : Int → Int} {μ0 ν0 μ ν : am_M} (h : EL b B W l p q k0 s1 kp Wn μ0 ν0 μ ν) : ∀ i, 0 ≤ i → i < 4 → ν 1007 (4 * (60 + l) + i) = -1 := h.2.2.2.2.2.2.2.2.2.2.2.2.2.2.2.2.1
theorem EL.kk {b B W l p q k0 s1 kp : Int} {Wn : Int → Int} {μ0 ν0 μ ν : am_M} (h : EL b B W l p q k0 s1 kp Wn μ0 ν0 μ ν) : kp = 1 ∨ kp = 2 := h.2.2.2.2.2.2.2.2.2.2.2.2.2.2.2.2.2.1
theorem EL.sr {b B W l p q k0 s1 kp : Int} {Wn : Int → Int} {μ0 ν0 μ ν : am_M} (h : EL b B W l p q k0 s1 kp Wn μ0 ν0 μ ν) : -1 ≤ s1 ∧ s1 < μ 20 6 ∧ s1 ≤ μ0 20 6 := h.2.2.2.2.2.2.2.2.2.2.2.2.2.2.2.2.2.2.1
theorem EL.x1 {b B W l p q k0 s1 kp : Int} {Wn : Int → Int} {μ0 ν0 μ ν : am_M} (h : EL b B W l p q k0 s1 kp Wn μ0 ν0 μ ν) : 0 ≤ s1 ↔ k0 = 1 := h.2.2.2.2.2.2.2.2.2.2.2.2.2.2.2.2.2.2.2.1
theorem EL.x4 {b B W l p q k0 s1 kp : Int} {Wn : Int → Int} {μ0 ν0 μ ν : am_M} (h : EL b B W l p q k0 s1 kp Wn μ0 ν0 μ ν) : kp = 2 → k0 = 1 := h.2.2.2.2.2.2.2.2.2.2.2.2.2.2.2.2.2.2.2.2.1
theorem EL.ns {b B W l p q k0 s1 kp : Int} {Wn : Int → Int} {μ0 ν0 μ ν : am_M} (h : EL b B W l p q k0 s1 kp Wn μ0 ν0 μ ν) : ∀ n, μ0 20 6 ≤ n → n < μ 20 6 → n = s1 := h.2.2.2.2.2.2.2.2.2.2.2.2.2.2.2.2.2.2.2.2.2.1
theorem EL.s6 {b B W l p q k0 s1 kp : Int} {Wn : Int → Int} {μ0 ν0 μ ν : am_M} (h : EL b B W l p q k0 s1 kp Wn μ0 ν0 μ ν) : μ0 20 6 ≤ μ 20 6 := h.2.2.2.2.2.2.2.2.2.2.2.2.2.2.2.2.2.2.2.2.2.2.1
theorem EL.t3 {b B W l p q k0 s1 kp : Int} {Wn : Int → Int} {μ0 ν0 μ ν : am_M} (h : EL b B W l p q k0 s1 kp Wn μ0 ν0 μ ν) : μ0 10 3 ≤ μ 10 3 := h.2.2.2.2.2.2.2.2.2.2.2.2.2.2.2.2.2.2.2.2.2.2.2.1
theorem EL.wr {b B W l p q k0 s1 kp : Int} {Wn : Int → Int} {μ0 ν0 μ ν : am_M} (h : EL b B W l p q k0 s1 kp Wn μ0 ν0 μ ν) : ∀ w, r32 (Wn w) := h.2.2.2.2.2.2.2.2.2.2.2.2.2.2.2.2.2.2.2.2.2.2.2.2.1
theorem EL.wn {b B W l p q k0 s1 kp : Int} {Wn : Int → Int} {μ0 ν0 μ ν : am_M} (h : EL b B W l p q k0 s1 kp Wn μ0 ν0 μ ν) : ∀ w, 0 ≤ w → w < W → Wn w = ν 1015 (4 + w) := h.2.2.2.2.2.2.2.2.2.2.2.2.2.2.2.2.2.2.2.2.2.2.2.2.2
theorem EL.mk {b B W l p q k0 s1 kp : Int} {Wn : Int → Int} {μ0 ν0 μ ν : am_M} (ln : LN b B W l p μ ν) (pc : μ (b + 1) 11 = p) (qc : ν 1000 30 = q) (f1 : FL1 b l p μ0 μ) (f2 : FL2 B l q ν0 ν) (ke : hE k0) (k2 : μ (b + 2) l = k0) (k3 : μ (b + 3) l = s1) (k4 : μ (b + 4) l = -1) (k5 : μ (b + 5) l = if kp = 1 then 1 else 0) (k6 : μ (b + 6) l = -1) (m2 : ν 1002 (60 + l) = k0) (m3 : ν 1003 (60 + l) = s1) (m4 : ν 1004 (60 + l) = -1) (m5 : ν 1005 (60 + l) = kp) (m6 : ν 1006 (60 + l) = -1) (m7 : ∀ i, 0 ≤ i → i < 4 → ν 1007 (4 * (60 + l) + i) = -1) (kk : kp = 1 ∨ kp = 2) (sr : -1 ≤ s1 ∧ s1 < μ 20 6 ∧ s1 ≤ μ0 20 6) (x1 : 0 ≤ s1 ↔ k0 = 1) (x4 : kp = 2 → k0 = 1) (ns : ∀ n, μ0 20 6 ≤ n → n < μ 20 6 → n = s1) (s6 : μ0 20 6 ≤ μ 20 6) (t3 : μ0 10 3 ≤ μ 10 3) (wr : ∀ w, r32 (Wn w)) (wn : ∀ w, 0 ≤ w → w < W → Wn w = ν 1015 (4 + w)) : EL b B W l p q k0 s1 kp Wn μ0 ν0 μ ν := ⟨ln, pc, qc, f1, f2, ke, k2, k3, k4, k5, k6, m2, m3, m4, m5, m6, m7, kk, sr, x1, x4, ns, s6, t3, wr, wn⟩
/-- the record of a line with an E, out of its cells -/
theorem LR_e {b B W l p k0 s1 kp q : Int} {Wn : Int → Int} {μ3 ν3 : am_M} {L : List Int} (hb : bOk b) (hn : LN b B W l p μ3 ν3) (ke : hE k0)
    (c2 : μ3 (b + 2) l = k0) (c3 : μ3 (b + 3) l = s1) (c4 : μ3 (b + 4) l = -1) (c5 : μ3 (b + 5) l = if kp = 1 then 1 else 0) (c6 : μ3 (b + 6) l = -1)
    (m2 : ν3 1002 (60 + l) = k0) (m3 : ν3 1003 (60 + l) = s1) (m4 : ν3 1004 (60 + l) = -1) (m5 : ν3 1005 (60 + l) = kp) (m6 : ν3 1006 (60 + l) = -1) (m7 : ∀ i, 0 ≤ i → i < 4 → ν3 1007 (4 * (60 + l) + i) = -1) (m10 : ν3 1010 (60 + l) = q) (m11 : ν3 1011 (60 + l) = q + L.length) (hq : 1000 ≤ q) (hc : ν3 1000 30 = q + L.length)
    (hs1 : -1 ≤ s1 ∧ s1 < μ3 20 6) (hkp : kp = 1 ∨ kp = 2) (x1 : 0 ≤ s1 ↔ k0 = 1) (x4 : kp = 2 → k0 = 1)
    (g1 : fsg (ν3 1012) q L) (g2 : okE L) (g3 : dpR L st0) (g4 : hR (convR Wn L) = some 1) (g5 : ∀ c ∈ L, vC (μ3 20 6) W c) (g6 : rsg (μ3 (b + 11)) p (convR Wn L)) (g7 : μ3 (b + 1) 11 = p + (convR Wn L).length) : LR b 60 1000 W (μ3 20 6) 0 l Wn μ3 ν3 := by
  have est := hn.st
  have esp := hn.sp
  have ecap := hn.cap
  have ehp := hn.p0
  have ebe := hn.tr.be1
  have eat := hn.tr.base.at3
  have en1 := hn.tr.base.n1
  have ecq := hn.caq
  have es0 := hn.sl.s0
  have ke' : k0 = 1 ∨ k0 = 5 ∨ k0 = 8 := ke
  refine (LR.mk (kd := by rw [c2, m2]; omega) (la := by rw [c3, m3]; omega) (be := by rw [c4, m4]; omega) (on := ?_) (ca := by rw [c6, m6]; omega) (st := by rw [est]; omega) (fr := by rw [m10, m11]; omega) (so := fun i x y => by rw [m7 i x y]; omega) (ee := fun _ => ?_) (ne := fun z => by rw [m2] at z; exact absurd ke z) (sl := by rw [m2, m3]; omega) (sb := by rw [m2, m4]; omega) (sc := by rw [m2, m6]; omega) (sk := by rw [m2, m5]; omega) (t0 := by decide))
  · rw [m5, c5]
    rcases hkp with z | z
    · left; subst z; exact ⟨rfl, rfl⟩
    · right; subst z; exact ⟨rfl, rfl⟩
  · rw [est, esp, m10, m11]
    exact ⟨m7, L, g1, rfl, g2, g3, g4, g5, g6, g7⟩
set_option maxHeartbeats 4000000 in
theorem E_line {b B W l p q k0 s1 kp : Int} {Wn : Int → Int} {μ0 ν0 μ ν : am_M} (hb : bOk b) (h : EL b B W l p q k0 s1 kp Wn μ0 ν0 μ ν) : LOQ b B W l p q 0 Wn μ0 ν0 (Rd_readSum μ) (M_readsE (60 + l) ν) := by
  have hb' : b = 100 ∨ b = 200 := hb
  have hl := h.ln.l0
  have hpc := h.pc
  have hqc := h.qc
  have hp0 := h.ln.p0
  have hcap := h.ln.cap
  have hq0 := h.ln.q0
  have hcaq := h.ln.caq
  obtain ⟨μa, νa, a1, a2, a3, r, μ1, a4, a5, ν1, a6, a7⟩ := E_all (ln := 60 + l) hb h.wr h.ln.tr h.ln.rd h.ln.nw h.ln.sl h.ln.cB h.ln.cW h.ln.B1 h.wn hpc (by omega) hqc (by omega) h.ln.cnt hl (by rw [h.ln.sp]; exact hpc) (by omega) (by omega) (by omega)
  have f1 : FL1 b l p μ μ1 := fun c i z => by rw [a5 c i (by omega), a1 c i (by omega)]
  have f2 : FL2 B l q ν ν1 := fun c i z => by rw [a6 c i (by omega), a2 c i (by omega)]
  rw [a4]
  rcases a7 with ⟨b1, b2, b3⟩ | ⟨b1, L, b2, b3, b4, b5, b6, b7, b8, b9, b10, b11, b12, b13, b14, b15⟩
  · subst b1
    rw [b2]
    exact LOQ_fail (h.f1.tr f1) (h.f2.tr f2) b3
  subst b1
  rw [b2]
  unfold M_readsE_B458
  rw [if_pos rfl, isSg b3 (s := 59) (by decide), q_bd_s]
  have fs : μ1 10 5 ≠ 59 → LOQ b B W l p q 0 Wn μ0 ν0 (some (1, μ1)) (M_readsE_B487 ν1) := by
    intro z
    obtain ⟨x1, x2, x3⟩ := fail_s (k := 1) b3 b5 (by decide)
    unfold M_readsE_B487
    rw [x2, q_bd_s, q_rb0]
    refine ⟨1, μ1, rfl, h.f1.tr f1, Or.inr ⟨rfl, 0, m_st μ1 20 10 (1 + 16 * μ1 10 3), _, ?_, rfl, (h.f1.tr f1).tr (FL1_f fun c i z => by rw [m_st_d, if_neg z]), (h.f2.tr f2).tr (FL2_f fun c i z => by rw [m_st_d, if_neg z]), Or.inl ⟨rfl, x3⟩⟩⟩
    unfold Rd_expect
    rw [if_neg z, x1, q_bd_s, q_rb0]
  by_cases c : μ1 10 5 = 59
  · rw [if_pos c, if_neg (by decide), q_st_s (by omega) (by omega)]
    clear fs
    have g : ∀ c i, ¬ (c = 1011 ∧ i = 60 + l) → m_st ν1 1011 (60 + l) (ν1 1000 30) c i = ν1 c i := fun c i z => by rw [m_st_d, if_neg z]
    have gs : m_st ν1 1011 (60 + l) (ν1 1000 30) 1011 (60 + l) = ν1 1000 30 := by rw [m_st_d, if_pos ⟨rfl, rfl⟩]
    have trg : TR μ1 (m_st ν1 1011 (60 + l) (ν1 1000 30)) := b3.cong (fun _ _ _ => rfl) (fun c i z => g c i (by omega))
    have fg : FL2 B l q ν0 (m_st ν1 1011 (60 + l) (ν1 1000 30)) := (h.f2.tr f2).tr (FL2_set (by omega))
    obtain ⟨μ2, ν2, c1, c2, c3, c4, c5, c6, c7⟩ := TR_adv trg.base
    have hlst := b3.lst (fun z => by have := (tkN b3).2.1.mp z; omega)
    have e1 : Rd_expect 59 μ1 = some (1, μ2) := by
      unfold Rd_expect
      rw [if_pos c, c1, q_bd_s]
    rw [c2, q_bd_s]
    have hF1 := (h.f1.tr f1).tr (FL1_10 (l := l) (p := p) (b := b) c4)
    have hF2 := fg.tr (FL2_t (B := B) (l := l) (q := q) c5)
    refine ⟨1, μ1, rfl, h.f1.tr f1, Or.inr ⟨rfl, 1, μ2, ν2, e1, rfl, hF1, hF2, Or.inr ⟨rfl, ?_⟩⟩⟩
    have v0 : ∀ c i, ¬ (c = 20 ∧ (i = 8 ∨ i = 9)) → ¬ (c = 10 ∨ (c = 20 ∧ (i = 6 ∨ i = 10)) ∨ c = 21 ∨ c = 23 ∨ (c = b + 1 ∧ i = 11) ∨ (c = b + 11 ∧ p ≤ i) ∨ (c = b + 10 ∧ i = l)) → μ2 c i = μ c i := fun c i z y => by rw [c4 c i (by omega), a5 c i (by omega), a1 c i z]
    have w0 : ∀ c i, ¬ (c = 1011 ∧ i = 60 + l) → ¬ (c = 1010 ∧ i = 60 + l) → ¬ ((c = 1000 ∧ ((4 ≤ i ∧ i ≤ 9) ∨ i = 30)) ∨ (c = 1012 ∧ q ≤ i) ∨ (c = 1020 ∧ i = 3 + B) ∨ c = 1021 ∨ c = 1022 ∨ c = 1023) → ν2 c i = ν c i := fun c i z y x => by rw [c5 c i (by omega), g c i z, a6 c i x, a2 c i (by omega)]
    have w10 : ν2 1010 (60 + l) = q := by rw [c5 _ _ (by omega), g _ _ (by omega), a6 _ _ (by omega)]; exact a3
    have w11 : ν2 1011 (60 + l) = ν1 1000 30 := by rw [c5 _ _ (by omega)]; exact gs
    have w30 : ν2 1000 30 = ν1 1000 30 := by rw [c5 _ _ (by omega), g _ _ (by omega)]
    have w12 : ∀ i, ν2 1012 i = ν1 1012 i := fun i => by rw [c5 _ _ (by omega), g _ _ (by omega)]
    have v6 : μ2 20 6 = μ1 20 6 := c4 _ _ (by decide)
    have v11 : ∀ i, μ2 (b + 11) i = μ1 (b + 11) i := fun i => c4 _ _ (by omega)
    have vcc : μ2 (b + 1) 11 = μ1 (b + 1) 11 := c4 _ _ (by omega)
    have v3 : μ1 10 3 < μ2 10 3 := by omega
    have hbe := b3.be1
    have hat := b3.base.at3
    have hn1 := b3.base.n1
    have ecc := b12.cc
    have esp := b12.sp
    have esg := b12.sg
    have em10 : μ1 (b + 1) 10 = l + 1 := by rw [a5 _ _ (by omega), a1 _ _ (by omega)]; exact h.ln.cnt
    have el : l + 1 - 1 = l := by omega
    rw [em10, el] at esp
    have ln2 : LN b B W l p μ2 ν2 := (LN.mk (tr := c3) (rd := (RD.mk (rb := by rw [v0 _ _ (by omega) (by omega)]; exact h.ln.rd.rb) (rl := by rw [v0 _ _ (by omega) (by omega)]; exact h.ln.rd.rl) (rf := by rw [c4 _ _ (by decide)]; exact b5))) (nw := h.ln.nw.cong (fun c i z => v0 _ _ (by omega) (by omega)) (fun c i z => w0 _ _ (by omega) (by omega) (by omega))) (sl := b4.cong (fun c i z => c4 c i (by omega)) (fun c i z => by rw [c5 c i (by omega), g c i (by omega)])) (cB := by rw [w0 _ _ (by omega) (by omega) (by omega)]; exact h.ln.cB) (cW := by rw [w0 _ _ (by omega) (by omega) (by omega)]; exact h.ln.cW) (B1 := h.ln.B1) (cnt := by rw [v0 _ _ (by omega) (by omega)]; exact h.ln.cnt) (reg := by rw [v0 _ _ (by omega) (by omega)]; exact h.ln.reg) (l0 := hl) (st := by rw [v0 _ _ (by omega) (by omega)]; exact h.ln.st) (sp := by rw [vcc, ecc, c4 _ _ (by omega)]; exact esp) (p0 := by rw [vcc, ecc]; omega) (cap := by rw [vcc, ecc]; omega) (q0 := by rw [w30]; omega) (caq := by rw [w30]; omega))
    have hs1 := h.sr
    have hs6 : μ 20 6 ≤ μ1 20 6 := b15.1
    refine ⟨ln2, LR_e (q := q) (L := L) hb ln2 h.ke (by rw [v0 _ _ (by omega) (by omega)]; exact h.k2) (by rw [v0 _ _ (by omega) (by omega)]; exact h.k3) (by rw [v0 _ _ (by omega) (by omega)]; exact h.k4) (by rw [v0 _ _ (by omega) (by omega)]; exact h.k5) (by rw [v0 _ _ (by omega) (by omega)]; exact h.k6) (by rw [w0 _ _ (by omega) (by omega) (by omega)]; exact h.m2) (by rw [w0 _ _ (by omega) (by omega) (by omega)]; exact h.m3) (by rw [w0 _ _ (by omega) (by omega) (by omega)]; exact h.m4) (by rw [w0 _ _ (by omega) (by omega) (by omega)]; exact h.m5) (by rw [w0 _ _ (by omega) (by omega) (by omega)]; exact h.m6) (fun i x y => by rw [w0 _ _ (by omega) (by omega) (by omega)]; exact h.m7 i x y) w10 (by rw [w11]; exact b10) (by omega) (by rw [w30]; exact b10) (by omega) h.kk h.x1 h.x4 (fsg_c L q (fun i _ _ => w12 i) b11) b6 b7 b8 (by rw [v6]; exact b9) (rsg_c _ (fun i _ _ => v11 i) esg) (by rw [vcc]; exact ecc), ?_⟩
    have n2 : ν2 1002 (60 + l) = k0 := by rw [w0 _ _ (by omega) (by omega) (by omega)]; exact h.m2
    have n3 : ν2 1003 (60 + l) = s1 := by rw [w0 _ _ (by omega) (by omega) (by omega)]; exact h.m3
    have ke' : k0 = 1 ∨ k0 = 5 ∨ k0 = 8 := h.ke
    have h66 := h.s6
    refine ⟨(LQ.mk (cl := fun z => by omega) (la := fun _ => by rw [n3]; exact hs1.2.2) (ns := fun _ n x y => ?_) (ss := by omega) (n0 := fun z => by omega)), w10, by rw [w11, w30]⟩
    rw [n3, w10, w11, b10]
    by_cases z : n < μ 20 6
    · exact Or.inl (h.ns n x z)
    · obtain ⟨i, y1, y2, y3⟩ := fsg_mem L q (1 + n) b11 (b15.2 n (by omega) (by omega))
      exact Or.inr ⟨i, y1, y2, by rw [w12]; exact y3⟩
  · rw [if_neg c, if_pos rfl]
    exact fs c
