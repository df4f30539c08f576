/-! The machine, both sides: let, twin, burn. -/
/-- the class has read -/
def MD (b c d l x X : Int) (r : List Int) (μ μ1 : am_M) : Prop := (μ1 (c + 1) (d - 1) = l + 1) ∧ (μ1 (c + 2) (d - 1) = X) ∧ (S10 X) ∧ (∀ t, 0 ≤ t → t < 10 → (tb X t = true ↔ tb x t = true ∧ t ∉ r)) ∧ (μ1 c 9 = w32 (μ c 9 + (r.length : Nat))) ∧ (∀ y i, ¬ (y = c + 1 ∧ i = d - 1) → ¬ (y = c + 2 ∧ i = d - 1) → ¬ (y = c ∧ i = 9) → μ1 y i = μ y i)
theorem MD.n1 {b c d l x X : Int} {r : List Int} {μ μ1 : am_M} (h : MD b c d l x X r μ μ1) : μ1 (c + 1) (d - 1) = l + 1 := h.1
theorem MD.t1 {b c d l x X : Int} {r : List Int} {μ μ1 : am_M} (h : MD b c d l x X r μ μ1) : μ1 (c + 2) (d - 1) = X := h.2.1
theorem MD.sX {b c d l x X : Int} {r : List Int} {μ μ1 : am_M} (h : MD b c d l x X r μ μ1) : S10 X := h.2.2.1
theorem MD.bX {b c d l x X : Int} {r : List Int} {μ μ1 : am_M} (h : MD b c d l x X r μ μ1) : ∀ t, 0 ≤ t → t < 10 → (tb X t = true ↔ tb x t = true ∧ t ∉ r) := h.2.2.2.1
theorem MD.a9 {b c d l x X : Int} {r : List Int} {μ μ1 : am_M} (h : MD b c d l x X r μ μ1) : μ1 c 9 = w32 (μ c 9 + (r.length : Nat)) := h.2.2.2.2.1
theorem MD.fr {b c d l x X : Int} {r : List Int} {μ μ1 : am_M} (h : MD b c d l x X r μ μ1) : ∀ y i, ¬ (y = c + 1 ∧ i = d - 1) → ¬ (y = c + 2 ∧ i = d - 1) → ¬ (y = c ∧ i = 9) → μ1 y i = μ y i := h.2.2.2.2.2
theorem MD.mk {b c d l x X : Int} {r : List Int} {μ μ1 : am_M} (n1 : μ1 (c + 1) (d - 1) = l + 1) (t1 : μ1 (c + 2) (d - 1) = X) (sX : S10 X) (bX : ∀ t, 0 ≤ t → t < 10 → (tb X t = true ↔ tb x t = true ∧ t ∉ r)) (a9 : μ1 c 9 = w32 (μ c 9 + (r.length : Nat))) (fr : ∀ y i, ¬ (y = c + 1 ∧ i = d - 1) → ¬ (y = c + 2 ∧ i = d - 1) → ¬ (y = c ∧ i = 9) → μ1 y i = μ y i) : MD b c d l x X r μ μ1 := ⟨n1, t1, sX, bX, a9, fr⟩
theorem MD_of {b c B W n d k l x : Int} {Wn : Int → Int} {T : Int → Int → Prop} {r : List Int} {μ ν : am_M} (h : TOP b c B W n d k l x Wn T r μ ν) : ∃ X μ0 μ1, Mc_readSlips c (b + 1) l μ = some (1, μ0) ∧ X_put (c + 1) (d - 1) (w32 (l + 1)) μ0 = some (0, μ1) ∧ MD b c d l x X r μ μ1 := by
  have m := h.mr
  have hd := m.dd
  have hd1 := h.d1
  have l0 := h.li.ck.l0
  have hft := m.ft.tb (d - 1) (by omega) (by omega)
  obtain ⟨X, μ0, a1, a2, a3, a4, a5, a6⟩ := readS_s (x := x) h.bi.bo m.mc l0 h.li.ck.rl (by rw [m.bu]; decide) m.c5 (by omega) (by rw [hft.1, h.ex]) h.sx
  refine ⟨X, μ0, m_st μ0 (c + 1) (d - 1) (l + 1), a1, by rw [w32_i (x := l + 1) (by omega) (by omega), mput1 m.mc, if_pos (by omega)], (MD.mk (n1 := by rw [m_st_d, if_pos ⟨rfl, rfl⟩]) (t1 := by rw [m_st_c (by omega)]; exact a2) (sX := a3) (bX := a4) (a9 := by rw [m_st_c (by omega)]; exact a5) (fr := fun y i p q w => by rw [m_st_d, if_neg p, a6 y i q w]))⟩
def KD (b c B W n d l kd : Int) (Wn : Int → Int) (μ ν μ1 : am_M) : Prop := ∃ μ2 ν2 d' st', Mc_workKind c b l kd μ1 = some (0, μ2) ∧ M_works_B39 (d - 1) l ν = M_works_B296 ν2 ∧ MR b c B W n d' st' Wn (m_st μ2 c 11 (w32 (μ2 c 11 + 1))) ν2 ∧ (st' = 1 ∨ st' = 2) ∧ SFC c μ μ2 ∧ SFR ν ν2 ∧ ν2 1000 66 = w32 (ν 1000 66 + 1)
/-- the top frame alone has changed -/
theorem KD.top {b c B W n d k l x kd : Int} {Wn : Int → Int} {T : Int → Int → Prop} {r : List Int} {μ ν μ1 μ2 ν2 : am_M} (h : TOP b c B W n d k l x Wn T r μ ν) (l' x' : Int)
    (e1 : Mc_workKind c b l kd μ1 = some (0, μ2)) (e2 : M_works_B39 (d - 1) l ν = M_works_B296 ν2)
    (c1 : μ2 (c + 1) (d - 1) = l') (c2 : μ2 (c + 2) (d - 1) = x')
    (cf : ∀ y i, ¬ (y = c ∧ (i = 9 ∨ i = 10)) → ¬ (y = c + 1 ∧ i = d - 1) → ¬ (y = c + 2 ∧ i = d - 1) → ¬ (y = c + 3 ∧ 10 * (d - 1) ≤ i) → y ≠ 41 → μ2 y i = μ y i)
    (r1 : ν2 1044 (d - 1) = l') (r2 : ν2 1045 (d - 1) = x')
    (rf : ∀ y i, ¬ (y = 1000 ∧ 64 ≤ i ∧ i ≤ 66) → ¬ (1024 ≤ y ∧ y ≤ 1033) → ¬ (y = 1044 ∧ i = d - 1) → ¬ (y = 1045 ∧ i = d - 1) → ¬ (y = 1046 ∧ 10 * (d - 1) ≤ i) → ν2 y i = ν y i)
    (ca : μ2 c 9 = ν2 1000 64 ∧ r32 (ν2 1000 64)) (cc : μ2 c 10 = ν2 1000 65 ∧ r32 (ν2 1000 65)) (cs : ν2 1000 66 = w32 (ν 1000 66 + 1))
    (cv : ∀ s, 0 ≤ s → s < 10 → tb x' s = true → μ2 (c + 3) (10 * (d - 1) + s) = ν2 1046 (10 * (d - 1) + s) ∧ r32 (ν2 1046 (10 * (d - 1) + s)))
    (sx : S10 x') (lr : ν 1017 k + ν 1019 k ≤ l' ∧ l' < ν 1017 k + ν 1018 k) (tt : ∀ t, 0 ≤ t → t < 10 → (tb x' t = true ↔ T l' t)) : KD b c B W n d l kd Wn μ ν μ1 := by
  have m := h.mr
  have hd := m.dd
  have hd1 := h.d1
  have hr := m.mc.r
  have hbo := h.bi.bo
  have hcn := m.cn (by decide)
  have sc2 : SFC c μ μ2 := fun y i p q w => cf y i (by omega) (by omega) (by omega) (by omega) w
  have sr : SFR ν ν2 := fun y i p q w => rf y i (by omega) (by omega) (by omega) (by omega) (by omega)
  have c11 : μ2 c 11 = ν 1000 66 := by rw [cf c 11 (by omega) (by omega) (by omega) (by omega) (by omega)]; exact hcn.2.2.2.1
  generalize hμ3 : m_st μ2 c 11 (w32 (μ2 c 11 + 1)) = μ3
  have f3 : ∀ y i, ¬ (y = c ∧ i = 11) → μ3 y i = μ2 y i := fun y i z => by rw [← hμ3, m_st_d, if_neg z]
  have v3 : μ3 c 11 = ν2 1000 66 := by rw [← hμ3, m_st_d, if_pos ⟨rfl, rfl⟩, c11, cs]
  have sc : SFC c μ μ3 := sc2.tr (fun y i p q w => f3 y i (by omega))
  have g := sc.tf hbo m.mc
  have gg := sr.tg
  refine ⟨μ2, ν2, d, 1, e1, e2, ?_, Or.inl rfl, sc2, sr, cs⟩
  rw [hμ3]
  have cm : ∀ i, ¬ (9 ≤ i ∧ i ≤ 11) → μ3 c i = μ c i := fun i z => by rw [f3 c i (by omega), cf c i (by omega) (by omega) (by omega) (by omega) (by omega)]
  have rm : ∀ i, ¬ (64 ≤ i ∧ i ≤ 66) → ν2 1000 i = ν 1000 i := fun i z => rf 1000 i (by omega) (by omega) (by omega) (by omega) (by omega)
  have ek : ν2 1043 (d - 1) = k := by rw [rf 1043 _ (by omega) (by omega) (by omega) (by omega) (by omega)]; exact h.ek
  refine m.gen (d - 1) (by omega) (Or.inr (Int.le_refl _)) hd g gg (by rw [cm 5 (by omega)]; exact m.c5) (by rw [rm 58 (by omega)]; exact m.r5) (by rw [cm 6 (by omega)]; exact m.c6) (by rw [rm 57 (by omega)]; exact m.r6) (by decide) ⟨cm 12 (by omega), rm 55 (by omega)⟩ ⟨cm 13 (by omega), rm 56 (by omega)⟩ ⟨by rw [cm 8 (by omega), rm 63 (by omega)]; exact hcn.1, by rw [f3 _ _ (by omega)]; exact ca.1, by rw [f3 _ _ (by omega)]; exact cc.1, v3, ca.2, cc.2⟩ (fun z => by omega) (fun _ => hd1) (cm 1 (by omega)) ?_ ?_ ?_ ?_ ?_
  · intro y i p q
    rw [f3 y i (by omega)]
    exact cf y i (by omega) (by omega) (by omega) (by omega) (by omega)
  · intro i p
    rw [f3 _ i (by omega)]
    exact cf _ i (by omega) (by omega) (by omega) (by omega) (by omega)
  · exact fun y i p q w => rf y i (by omega) (by omega) (by omega) (by omega) (by omega)
  · exact fun i p => rf _ i (by omega) (by omega) (by omega) (by omega) (by omega)
  · intro f p q
    have e : f = d - 1 := by omega
    subst e
    unfold FB1
    rw [f3 _ _ (by omega), f3 _ _ (by omega), r1, r2, ek]
    refine ⟨c1, ⟨c2, sx⟩, fun s s0 s1 y => by rw [f3 _ _ (by omega)]; exact cv s s0 s1 y, T, h.tw.cong g gg, ⟨h.bi.kk.1, h.bi.kk.2.1⟩, ?_, ?_, Or.inl ⟨by omega, tt⟩⟩
    · rw [g (b + 22) (by omega) (by omega)]; exact h.sk
    · rw [gg 1017 (by omega), gg 1018 (by omega), gg 1019 (by omega)]; exact lr
theorem mreck_s {b c d l v : Int} {μ μ' : am_M} (hc : mOk c) (hd : 1 ≤ d ∧ d ≤ 16) (h5 : μ c 5 = d) (h : Rk_reckon (b + 1) l (c + 3) (10 * (d - 1)) μ = some (v, μ')) : Mc_reckoned c (b + 1) l μ = some (v, μ') := by
  have e10 : (d - 1) * 10 = 10 * (d - 1) := by omega
  unfold Mc_reckoned
  rw [q_gd_s (mO3 hc), h5, w32_i (x := d - 1) (by omega) (by omega), w32_i (x := (d - 1) * 10) (by omega) (by omega), e10, h, q_bd_s]
/-- the values that a line reads -/
theorem TOP.vr {b c B W n d k l x : Int} {Wn : Int → Int} {T : Int → Int → Prop} {r : List Int} {μ ν : am_M} (h : TOP b c B W n d k l x Wn T r μ ν) : ∀ s ∈ r, (0 ≤ s ∧ s < 10) ∧ μ (c + 3) (10 * (d - 1) + s) = ν 1046 (10 * (d - 1) + s) ∧ r32 (ν 1046 (10 * (d - 1) + s)) := fun s hs => by
  have hd1 := h.d1
  have s0 := h.li.ck.rl.sl s hs
  refine ⟨s0, h.mr.vl (d - 1) s (by omega) (by omega) s0.1 s0.2 ?_⟩
  rw [h.ex]
  exact (h.tt s s0.1 s0.2).mpr (h.rT s hs)
/-- the class reckons a line's E, behind the reading -/
theorem TOP.rc {b c B W n d k l x X : Int} {Wn : Int → Int} {T : Int → Int → Prop} {r L : List Int} {μ ν μ1 : am_M} (h : TOP b c B W n d k l x Wn T r μ ν) (hm : MD b c d l x X r μ μ1) (he : EE b l W Wn r L μ ν) : ∃ μ', Mc_reckoned c (b + 1) l μ1 = some (ifx (envR r (fun s => ν 1046 (10 * (d - 1) + s))) Wn L, μ') ∧ (∀ y i, y ≠ 41 → μ' y i = μ1 y i) := by
  have hd := h.mr.dd
  have hd1 := h.d1
  have hr := h.mr.mc.r
  have hb' : b = 100 ∨ b = 200 := h.bi.bo
  have e1 : EE b l W Wn r L μ1 ν := he.cong (fun y p q => funext fun i => hm.fr y i (by omega) (by omega) (by omega)) (fun _ _ => rfl)
  obtain ⟨μ', a1, a2⟩ := EE_c (V := fun s => ν 1046 (10 * (d - 1) + s)) e1 (mA3 h.mr.mc) (mK3 h.mr.mc) (by omega) (o := 10 * (d - 1)) (by omega) (fun s hs => (h.vr s hs).1) (fun s hs => by
    rw [hm.fr _ _ (by omega) (by omega) (by omega)]
    exact (h.vr s hs).2)
  exact ⟨μ', mreck_s h.mr.mc (by omega) (by rw [hm.fr _ _ (by omega) (by omega) (by omega)]; exact h.mr.c5) a1, a2⟩
/-- the reference begins a line -/
noncomputable def rB (d l : Int) (ν : am_M) : am_M := m_st (m_st ν 1000 66 (w32 (ν 1000 66 + 1))) 1044 (d - 1) (l + 1)
theorem rB_f {d l y i : Int} {ν : am_M} (h1 : ¬ (y = 1000 ∧ i = 66)) (h2 : ¬ (y = 1044 ∧ i = d - 1)) : rB d l ν y i = ν y i := by
  unfold rB
  rw [m_st_d, if_neg h2, m_st_d, if_neg h1]
theorem rB_s {d l : Int} {ν : am_M} : rB d l ν 1000 66 = w32 (ν 1000 66 + 1) := by
  unfold rB
  rw [m_st_c (by decide), m_st_d, if_pos ⟨rfl, rfl⟩]
theorem rB_n {d l : Int} {ν : am_M} : rB d l ν 1044 (d - 1) = l + 1 := by
  unfold rB
  rw [m_st_d, if_pos ⟨rfl, rfl⟩]
/-- the reference reckons an E, all that it reads burns -/
theorem TOP.rr {b c B W n d k l x X : Int} {Wn : Int → Int} {T : Int → Int → Prop} {r L : List Int} {μ ν μ1 : am_M} (h : TOP b c B W n d k l x Wn T r μ ν) (hm : MD b c d l x X r μ μ1) (he : EE b l W Wn r L μ ν) : ∃ ν2, M_reckonsIn (d - 1) l (rB d l ν) = some (ifx (envR r (fun s => ν 1046 (10 * (d - 1) + s))) Wn L, ν2) ∧ ν2 1045 (d - 1) = X ∧ ν2 1000 64 = w32 (ν 1000 64 + (r.length : Nat)) ∧ ν2 1000 66 = w32 (ν 1000 66 + 1) ∧ ν2 1044 (d - 1) = l + 1 ∧ (∀ y i, ¬ (y = 1000 ∧ (i = 64 ∨ i = 66)) → ¬ (1024 ≤ y ∧ y ≤ 1033) → ¬ (y = 1044 ∧ i = d - 1) → ¬ (y = 1045 ∧ i = d - 1) → ν2 y i = ν y i) := by
  have hd := h.mr.dd
  have hd1 := h.d1
  have hcn := h.mr.cn (by decide)
  have e1 : EE b l W Wn r L μ (rB d l ν) := he.cong (fun _ _ _ => rfl) (fun y p => funext fun i => rB_f (by omega) (by omega))
  obtain ⟨ν1, ν2, a1, a2, a3⟩ := reckonsIn_s (V := fun s => ν 1046 (10 * (d - 1) + s)) (f := d - 1) e1 (by omega) (fun s hs => rB_f (by omega) (by omega)) (by rw [rB_f (by omega) (by omega), h.ex]; exact h.sx) (by rw [rB_f (by omega) (by omega)]; exact hcn.2.2.2.2.1)
  have x1 : ν1 1045 (d - 1) = x := by rw [a2 _ _ (by omega), rB_f (by omega) (by omega)]; exact h.ex
  refine ⟨ν2, a1, S10_eq a3.so hm.sX (fun t p q => by rw [a3.bt t p q, hm.bX t p q, x1]), by rw [a3.as, a2 _ _ (by omega), rB_f (by omega) (by omega)], by rw [a3.fr _ _ (by omega) (by omega), a2 _ _ (by omega), rB_s], by rw [a3.fr _ _ (by omega) (by omega), a2 _ _ (by omega), rB_n], fun y i p q w z => ?_⟩
  rw [a3.fr y i z (by omega), a2 y i q, rB_f (by omega) w]
theorem kd_let {b c B W n d k l x X : Int} {Wn : Int → Int} {T : Int → Int → Prop} {r : List Int} {μ ν μ1 : am_M} (h : TOP b c B W n d k l x Wn T r μ ν) (hm : MD b c d l x X r μ μ1) (hk : ν 1002 l = 1) : KD b c B W n d l 1 Wn μ ν μ1 := by
  have hd := h.mr.dd
  have hd1 := h.d1
  have hr := h.mr.mc.r
  have hbo := h.bi.bo
  have hb' : b = 100 ∨ b = 200 := hbo
  have l0 := h.li.ck.l0
  have hcn := h.mr.cn (by decide)
  have hla := h.li.ck.la
  have hbe := h.li.ck.be
  have s0 := h.li.la.mpr (Or.inl hk)
  have be1 : ν 1004 l = -1 := by have := h.li.be; omega
  have rg := h.li.rg
  have le : l < ν 1017 k + ν 1018 k - 1 := by have := h.li.k8; omega
  obtain ⟨L, he⟩ := h.li.ee (by unfold hE; omega)
  obtain ⟨μ2, a1, a2⟩ := h.rc hm he
  obtain ⟨ν2, b1, b2, b3, b4, b5, b6⟩ := h.rr hm he
  generalize hv : ifx (envR r (fun s => ν 1046 (10 * (d - 1) + s))) Wn L = v at *
  have hvr : r32 v := by rw [← hv]; exact ifx_r
  have m2 : ∀ y i, ¬ (y = c + 1 ∧ i = d - 1) → ¬ (y = c + 2 ∧ i = d - 1) → ¬ (y = c ∧ i = 9) → y ≠ 41 → μ2 y i = μ y i := fun y i p q w z => by rw [a2 y i z, hm.fr y i p q w]
  obtain ⟨μ3, c1, c2, c3, c4⟩ := mlay_s (c := c) (d := d) (s := ν 1003 l) (v := v) (x := X) (μ := μ2) h.mr.mc (by omega) (by rw [m2 _ _ (by omega) (by omega) (by omega) (by omega)]; exact h.mr.c5) (by rw [a2 _ _ (by omega)]; exact hm.t1) ⟨s0, hla.2.2⟩
  obtain ⟨ν3, d1, d2, d3, d4⟩ := laysIn_s (f := d - 1) (s := ν 1003 l) (v := v) (ν := ν2) (by omega) ⟨s0, hla.2.2⟩
  have m3 : ∀ y i, ¬ (y = c + 1 ∧ i = d - 1) → ¬ (y = c + 2 ∧ i = d - 1) → ¬ (y = c ∧ i = 9) → ¬ (y = c + 3 ∧ i = 10 * (d - 1) + ν 1003 l) → y ≠ 41 → μ3 y i = μ y i := fun y i p q w z u => by rw [c4 y i q z, m2 y i p q w u]
  have n3 : ∀ y i, ¬ (y = 1000 ∧ (i = 64 ∨ i = 66)) → ¬ (1024 ≤ y ∧ y ≤ 1033) → ¬ (y = 1044 ∧ i = d - 1) → ¬ (y = 1045 ∧ i = d - 1) → ¬ (y = 1046 ∧ i = 10 * (d - 1) + ν 1003 l) → ν3 y i = ν y i := fun y i p q w z u => by rw [d4 y i z u, b6 y i p q w z]
  have c10 : μ3 c 10 = ν 1000 65 := by rw [m3 _ _ (by omega) (by omega) (by omega) (by omega) (by omega)]; exact hcn.2.2.1
  have c10r := hcn.2.2.2.2.2
  have f4 : ∀ y i, ¬ (y = c ∧ i = 10) → m_st μ3 c 10 (ν 1000 65) y i = μ3 y i := fun y i z => by rw [m_st_d, if_neg z]
  have eC : Mc_workKind c b l 1 μ1 = some (0, m_st μ3 c 10 (ν 1000 65)) := by
    have e3 : b + 1 + 2 = b + 3 := by omega
    have e4 : b + 1 + 3 = b + 4 := by omega
    unfold Mc_workKind Mc_workKind_B60 Mc_workKind_B117
    rw [q_gd_s (bO0 hbo), q_gd_s (mO3 h.mr.mc), if_pos rfl, q_gd_s (mO3 h.mr.mc), a1, q_bd_s, q_gd_s (bO2 hbo), e3, e4, bat3 hbo, if_pos l0, q_bd_s, m2 _ _ (by omega) (by omega) (by omega) (by omega), hla.1, c1, q_bd_s, bat4 hbo, if_pos l0, q_bd_s, m3 _ _ (by omega) (by omega) (by omega) (by omega) (by omega), hbe.1, be1, mlay_n, q_bd_s, if_neg (by decide), q_gd_s (mO3 h.mr.mc), q_pf_d, c10]
    have e5 : ν 1000 65 + 0 = ν 1000 65 := by omega
    rw [e5, w32_id c10r]
  have eR : M_works_B39 (d - 1) l ν = M_works_B296 ν3 := by
    have g : ∀ y, y = 1002 ∨ y = 1003 → rB d l ν y l = ν y l := fun y z => rB_f (by omega) (by omega)
    have er : m_st (m_st ν 1000 66 (w32 (ν 1000 66 + 1))) 1044 (d - 1) (l + 1) = rB d l ν := rfl
    unfold M_works_B39
    rw [q_pf_d, w32_i (x := l + 1) (by omega) (by omega), q_st_s (by omega) (by omega), er, q_ld_s (by omega) (by omega), g 1002 (Or.inl rfl), if_pos hk, q_ld_s (by omega) (by omega), g 1003 (Or.inr rfl), b1, q_bd_s, d1, q_bd_s]
  have xx : X = ν2 1045 (d - 1) := b2.symm
  have hfl := (h.fl le).1 (by omega)
  refine KD.top h (l + 1) (aOr X (aShl 1 (ν 1003 l))) eC eR (by rw [f4 _ _ (by omega), c4 _ _ (by omega) (by omega), a2 _ _ (by omega)]; exact hm.n1) (by rw [f4 _ _ (by omega)]; exact c2) (fun y i p q w z u => by rw [f4 y i (by omega), m3 y i q w (by omega) (by omega) u]) (by rw [d4 _ _ (by omega) (by omega)]; exact b5) (by rw [d2, b2]) (fun y i p q w z u => n3 y i (by omega) q w z (by omega)) ⟨?_, ?_⟩ ⟨?_, ?_⟩ ?_ ?_ (S10_or hm.sX (S10_shl s0 hla.2.2)) (by omega) ?_
  · rw [f4 _ _ (by omega), c4 _ _ (by omega) (by omega), a2 _ _ (by omega), hm.a9, d4 _ _ (by omega) (by omega), b3, hcn.2.1]
  · rw [d4 _ _ (by omega) (by omega), b3]; exact w32_r _
  · rw [m_st_d, if_pos ⟨rfl, rfl⟩, n3 _ _ (by omega) (by omega) (by omega) (by omega) (by omega)]
  · rw [n3 _ _ (by omega) (by omega) (by omega) (by omega) (by omega)]; exact c10r
  · rw [d4 _ _ (by omega) (by omega)]; exact b4
  · intro s p q y
    rw [f4 _ _ (by omega)]
    by_cases z : s = ν 1003 l
    · rw [z, c3, d3]
      exact ⟨rfl, hvr⟩
    · have y1 := ((lay_tb ⟨s0, hla.2.2⟩ p q).mp y).elim (fun w => w) (fun w => absurd w z)
      rw [m3 _ _ (by omega) (by omega) (by omega) (by omega) (by omega), n3 _ _ (by omega) (by omega) (by omega) (by omega) (by omega)]
      exact h.mr.vl (d - 1) s (by omega) (by omega) p q (by rw [h.ex]; exact ((hm.bX s p q).mp y1).1)
  · intro t p q
    rw [lay_tb ⟨s0, hla.2.2⟩ p q, hm.bX t p q, hfl t p q, h.tt t p q, be1]
    constructor
    · rintro (z | z)
      · exact Or.inl z
      · exact Or.inr (Or.inl z)
    · rintro (z | z | z)
      · exact Or.inl z
      · exact Or.inr z
      · omega
