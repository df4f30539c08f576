/-! CHECK of all bills, both sides. -/
def CD (b B W n j : Int) (Wn : Int → Int) (μ ν : am_M) : Prop := (TB b B W n Wn μ ν) ∧ (∀ k, 0 ≤ k → k < j → BC b k μ ν) ∧ (∀ k, 0 ≤ k → k < j → μ (b + 22) k = 0 ∨ μ (b + 22) k = 1) ∧ (∀ k, 0 ≤ k → k < j → (μ (b + 22) k ≠ 0 ↔ ¬ Wr ν k ∧ ∀ c, Cal ν k c → c = k ∨ μ (b + 22) c ≠ 0))
theorem CD.tb {b B W n j : Int} {Wn : Int → Int} {μ ν : am_M} (h : CD b B W n j Wn μ ν) : TB b B W n Wn μ ν := h.1
theorem CD.ck {b B W n j : Int} {Wn : Int → Int} {μ ν : am_M} (h : CD b B W n j Wn μ ν) : ∀ k, 0 ≤ k → k < j → BC b k μ ν := h.2.1
theorem CD.sd {b B W n j : Int} {Wn : Int → Int} {μ ν : am_M} (h : CD b B W n j Wn μ ν) : ∀ k, 0 ≤ k → k < j → μ (b + 22) k = 0 ∨ μ (b + 22) k = 1 := h.2.2.1
theorem CD.sr {b B W n j : Int} {Wn : Int → Int} {μ ν : am_M} (h : CD b B W n j Wn μ ν) : ∀ k, 0 ≤ k → k < j → (μ (b + 22) k ≠ 0 ↔ ¬ Wr ν k ∧ ∀ c, Cal ν k c → c = k ∨ μ (b + 22) c ≠ 0) := h.2.2.2
theorem CD.mk {b B W n j : Int} {Wn : Int → Int} {μ ν : am_M} (tb : TB b B W n Wn μ ν) (ck : ∀ k, 0 ≤ k → k < j → BC b k μ ν) (sd : ∀ k, 0 ≤ k → k < j → μ (b + 22) k = 0 ∨ μ (b + 22) k = 1) (sr : ∀ k, 0 ≤ k → k < j → (μ (b + 22) k ≠ 0 ↔ ¬ Wr ν k ∧ ∀ c, Cal ν k c → c = k ∨ μ (b + 22) c ≠ 0)) : CD b B W n j Wn μ ν := ⟨tb, ck, sd, sr⟩
def FCA (b : Int) (μ μ' : am_M) : Prop := ∀ c i, ¬ ((c = 30 ∧ 5 ≤ i ∧ i ≤ 9) ∨ (31 ≤ c ∧ c ≤ 35) ∨ c = b + 8 ∨ (b + 19 ≤ c ∧ c ≤ b + 22)) → μ' c i = μ c i
def FRA (ν ν' : am_M) : Prop := ∀ c i, ¬ (1036 ≤ c ∧ c ≤ 1042) → ν' c i = ν c i
theorem Cal.cg {ν ν' : am_M} (g : ∀ c, 1001 ≤ c → c ≤ 1020 → ν' c = ν c) (v c : Int) : Cal ν' v c ↔ Cal ν v c := by
  unfold Cal
  rw [g 1017 (by decide) (by decide), g 1018 (by decide) (by decide), g 1006 (by decide) (by decide)]
theorem CD_step {b B W n j : Int} {Wn : Int → Int} {μ ν : am_M} (h : CD b B W n j Wn μ ν) (hj : 0 ≤ j ∧ j < B) : ∃ μ1 μ2 e ν1, Ck_checkBill b j μ = some (0, μ1) ∧ Ck_isSound b j μ1 = some (e, μ1) ∧ (e = 0 ∨ e = 1) ∧ X_put (b + 22) j e μ1 = some (0, μ2) ∧ M_checks j ν = some (0, ν1) ∧ CD b B W n (j + 1) Wn μ2 ν1 ∧ FCA b μ μ2 ∧ FRA ν ν1 := by
  have hbo := h.tb.bo
  have hb' : b = 100 ∨ b = 200 := hbo
  have hB := h.tb.cB
  have hs := HS.of h.tb
  obtain ⟨f, m, t, S, σ, e, w⟩ := h.tb.bw j hj.1 hj.2
  have e0 : (0 : Int) + j = j := by omega
  have r15 := w.r15
  have r16 := w.r16
  have hfn := w.fn
  have htt := w.tt
  rw [e0] at r15 r16
  obtain ⟨μ1, ν1, x, ln, s, a1, a2, cb⟩ := checkBill_s h.tb hj e w
  have cb' := cb
  obtain ⟨p1, p2, p3, p4, p5, p6, p7, p8, -⟩ := cb
  have g := p6.fn
  have tb1 : TB b B W n Wn μ1 ν1 := h.tb.cong (fun c i q1 q2 q3 => p5 c i (by omega)) (fun c i z => by unfold Lo at z; exact p6 c i (by omega))
  have wr1 : ¬ Wr ν1 j ↔ μ1 (b + 19) j = 0 := by
    unfold Wr
    rw [p4.1, p1]
    omega
  have main : ∀ v, (v = 0 ∨ v = 1) → Ck_isSound b j μ1 = some (v, μ1) → (v ≠ 0 ↔ ¬ Wr ν1 j ∧ ∀ c, Cal ν1 j c → c = j ∨ μ1 (b + 22) c ≠ 0) → ∃ μ1 μ2 e ν1, Ck_checkBill b j μ = some (0, μ1) ∧ Ck_isSound b j μ1 = some (e, μ1) ∧ (e = 0 ∨ e = 1) ∧ X_put (b + 22) j e μ1 = some (0, μ2) ∧ M_checks j ν = some (0, ν1) ∧ CD b B W n (j + 1) Wn μ2 ν1 ∧ FCA b μ μ2 ∧ FRA ν ν1 := by
    intro v hv h1 h2
    have f2 : ∀ c i, ¬ (c = b + 22 ∧ i = j) → m_st μ1 (b + 22) j v c i = μ1 c i := fun c i z => by rw [m_st_d, if_neg z]
    have v2 : m_st μ1 (b + 22) j v (b + 22) j = v := by rw [m_st_d, if_pos ⟨rfl, rfl⟩]
    refine ⟨μ1, m_st μ1 (b + 22) j v, v, ν1, a1, h1, hv, by rw [bput22 hbo, if_pos (by omega)], a2, ?_, fun c i z => by rw [f2 c i (by omega), p5 c i (by omega)], fun c i z => p6 c i (by omega)⟩
    generalize m_st μ1 (b + 22) j v = μ2 at *
    have F : ∀ c, c ≠ b + 22 → μ2 c = μ1 c := fun c z => funext fun i => f2 c i (by omega)
    refine (CD.mk (tb := tb1.cong (fun c i q1 q2 q3 => f2 c i (by omega)) (fun _ _ _ => rfl)) (ck := fun k k0 k1 => ?_) (sd := fun k k0 k1 => ?_) (sr := fun k k0 k1 => ?_))
    · by_cases z : k = j
      · subst z
        exact (BC.of hbo cb' r15.2 (by omega)).cong (fun c q1 q2 q3 => F c (by omega)) (fun _ _ _ => rfl) (fun c q1 q2 => f2 c k (by omega)) (fun _ _ _ => rfl) (fun l _ _ => ⟨f2 _ _ (by omega), rfl⟩)
      · have od := h.tb.od k j k0 (by omega) hj.2
        refine (h.ck k k0 (by omega)).cong (fun c q1 q2 q3 => funext fun i => by rw [f2 c i (by omega), p5 c i (by omega)]) g (fun c q1 q2 => by rw [f2 c k (by omega), p5 c k (by omega)]) (fun c q1 q2 => p6 c k (by omega)) (fun l q1 q2 => ⟨by rw [f2 _ _ (by omega), p5 _ _ (by omega)], p6 _ _ (by omega)⟩)
    · by_cases z : k = j
      · subst z; rw [v2]; exact hv
      · rw [f2 _ _ (by omega), p5 _ _ (by omega)]
        exact h.sd k k0 (by omega)
    · by_cases z : k = j
      · subst z
        rw [v2, h2]
        refine ⟨fun y => ⟨y.1, fun c hc => ?_⟩, fun y => ⟨y.1, fun c hc => ?_⟩⟩
        · by_cases q : c = k
          · exact Or.inl q
          · rw [f2 _ _ (by omega)]; exact y.2 c hc
        · by_cases q : c = k
          · exact Or.inl q
          · have := y.2 c hc
            rw [f2 _ _ (by omega)] at this
            exact this
      · have r : ∀ c, c < j → μ2 (b + 22) c = μ (b + 22) c := fun c q => by rw [f2 _ _ (by omega), p5 _ _ (by omega)]
        have wk : Wr ν1 k ↔ Wr ν k := by unfold Wr; rw [p6 1039 k (by omega)]
        rw [r k (by omega), h.sr k k0 (by omega), wk]
        refine ⟨fun y => ⟨y.1, fun c hc => ?_⟩, fun y => ⟨y.1, fun c hc => ?_⟩⟩
        · have hc' := (Cal.cg g k c).mp hc
          have hcc := hc'
          obtain ⟨x, x0, x1, x2, x3⟩ := hcc
          have := hs.cl k k0 (by omega) x x0 x1
          rw [r c (by omega)]
          exact y.2 c hc'
        · have hcc := hc
          obtain ⟨x, x0, x1, x2, x3⟩ := hcc
          have := hs.cl k k0 (by omega) x x0 x1
          have := y.2 c ((Cal.cg g k c).mpr hc)
          rw [r c (by omega)] at this
          exact this
  rcases isSound_c tb1 hj with ⟨q1, q2, q3⟩ | ⟨q1, q2⟩
  · exact main 1 (Or.inr rfl) q1 ⟨fun _ => ⟨wr1.mpr q2, q3⟩, fun _ => by decide⟩
  · exact main 0 (Or.inl rfl) q1 ⟨fun z => absurd rfl z, fun z => absurd ⟨wr1.mp z.1, z.2⟩ q2⟩
theorem ckAll_L {b B W n : Int} {Wn : Int → Int} : ∀ (m f g : Nat) (j : Int) (μ ν : am_M), j + m = B → 0 ≤ j → m < f → m < g → CD b B W n j Wn μ ν → ∃ μ' ν', Ck_checkAll_L2 f b j μ = some (0, μ') ∧ M_bills_L360 g j ν = (q_pf 1000 57 0 ν' fun μ2 => q_pf 1000 58 0 μ2 fun μ3 => M_bills_L393 am_FU 0 μ3) ∧ CD b B W n B Wn μ' ν' ∧ FCA b μ μ' ∧ FRA ν ν'
  | m, 0, _, _, _, _, _, _, h, _, _ => by omega
  | m, _ + 1, 0, _, _, _, _, _, _, h, _ => by omega
  | 0, f + 1, g + 1, j, μ, ν, hj, h0, _, _, h => by
    have hB := h.tb.cB
    have e : j = B := by omega
    subst e
    refine ⟨μ, ν, ?_, ?_, h, fun _ _ _ => rfl, fun _ _ _ => rfl⟩
    · show Ck_checkAll_L2_b (Ck_checkAll_L2 f) b j μ = _
      unfold Ck_checkAll_L2_b
      rw [q_gd_s (bO0 h.tb.bo), if_neg (by omega)]
    · show M_bills_L360_b (M_bills_L360 g) j ν = _
      unfold M_bills_L360_b
      rw [q_ld_s (by omega) (by omega), if_neg (by omega)]
  | m + 1, f + 1, g + 1, j, μ, ν, hj, h0, hf, hg, h => by
    have hB := h.tb.cB
    obtain ⟨μ1, μ2, e, ν1, a1, a2, a3, a4, a5, a6, a7, a8⟩ := CD_step h ⟨h0, by omega⟩
    obtain ⟨μ', ν', b1, b2, b3, b4, b5⟩ := ckAll_L m f g (j + 1) μ2 ν1 (by omega) (by omega) (by omega) (by omega) a6
    refine ⟨μ', ν', ?_, ?_, b3, fun c i z => by rw [b4 c i z, a7 c i z], fun c i z => by rw [b5 c i z, a8 c i z]⟩
    · rw [← b1]
      show Ck_checkAll_L2_b (Ck_checkAll_L2 f) b j μ = _
      unfold Ck_checkAll_L2_b Ck_checkAll_B34
      rw [q_gd_s (bO0 h.tb.bo), if_pos (by omega), a1, q_bd_s, a2, q_bd_s, w32_i (x := j + 1) (by omega) (by omega)]
      rcases a3 with z | z
      · subst z; rw [if_pos rfl, a4, q_bd_s]
      · subst z; rw [if_neg (show ¬ (1 : Int) = 0 by decide), a4, q_bd_s]
    · rw [← b2]
      show M_bills_L360_b (M_bills_L360 g) j ν = _
      unfold M_bills_L360_b
      rw [q_ld_s (by omega) (by omega), if_pos (by omega), a5, q_bd_s, w32_i (x := j + 1) (by omega) (by omega)]
/-- CHECK, whole -/
theorem ckAll_s {b B W n : Int} {Wn : Int → Int} {μ ν : am_M} (h : TB b B W n Wn μ ν) : ∃ μ' ν', Ck_checkAll b μ = some (0, μ') ∧ M_bills_L360 am_FU 0 ν = (q_pf 1000 57 0 ν' fun μ2 => q_pf 1000 58 0 μ2 fun μ3 => M_bills_L393 am_FU 0 μ3) ∧ CD b B W n B Wn μ' ν' ∧ FCA b μ μ' ∧ FRA ν ν' := by
  have hB := h.cB
  have hF := am_FU_ge
  exact ckAll_L B.toNat am_FU am_FU 0 μ ν (by omega) (by omega) (by omega) (by omega) (CD.mk (tb := h) (ck := fun k _ _ => by omega) (sd := fun k _ _ => by omega) (sr := fun k _ _ => by omega))
/-- the reference's slips' marks on the bill are cleared -/
theorem L393_s : ∀ (n f : Nat) (i : Int) (ν : am_M), i + n = 4 → 0 ≤ i → n < f → ∃ ν', M_bills_L393 f i ν = some (0, ν') ∧ (∀ s, i ≤ s → s < 4 → ν' 1062 s = 0) ∧ (∀ c x, ¬ (c = 1062 ∧ i ≤ x) → ν' c x = ν c x)
  | n, 0, _, _, _, _, h => by omega
  | 0, f + 1, i, ν, h, h0, _ => by
    refine ⟨ν, ?_, fun s a b => by omega, fun _ _ _ => rfl⟩
    show M_bills_L393_b (M_bills_L393 f) i ν = _
    unfold M_bills_L393_b
    rw [if_neg (by omega)]
  | n + 1, f + 1, i, ν, h, h0, hf => by
    obtain ⟨ν', a1, a2, a3⟩ := L393_s n f (i + 1) (m_st ν 1062 i 0) (by omega) (by omega) (by omega)
    refine ⟨ν', ?_, fun s x y => ?_, fun c x z => by rw [a3 c x (by omega), m_st_d, if_neg (by omega)]⟩
    · rw [← a1]
      show M_bills_L393_b (M_bills_L393 f) i ν = _
      unfold M_bills_L393_b
      rw [if_pos (by omega), q_stb_s (by omega) (by omega) (Or.inl rfl), w32_i (x := i + 1) (by omega) (by omega)]
    · by_cases z : s = i
      · rw [z, a3 _ _ (by omega), m_st_d, if_pos ⟨rfl, rfl⟩]
      · exact a2 s (by omega) y
