/-! CHECK of a bill. -/
theorem ck_T {b k F E d z : Int} {μ0 ν0 : am_M} (h : HB b k F E μ0 ν0) (hd : 0 ≤ d ∧ d ≤ 3) (hz : z ≤ E) : ∀ (n : Nat) (a o m : Int) (f g : Nat) (μ ν : am_M), a + n ≤ z → F ≤ a → (∀ x, a ≤ x → x < a + n → ν0 1002 x ≤ 4) → (∀ (f' g' : Nat) (o' m' : Int) (μ' ν' : am_M), FC b F E μ0 μ' → FR k F E ν0 ν' → CK o' m' d μ' ν' → E - (a + n) + 2 ≤ f' → E - (a + n) + 2 ≤ g' → BR b k F E d (a + n) z f' g' o' m' μ0 ν0 μ' ν') → FC b F E μ0 μ → FR k F E ν0 ν → CK o m d μ ν → E - a + 2 ≤ f → E - a + 2 ≤ g → BR b k F E d a z f g o m μ0 ν0 μ ν
  | 0, a, o, m, f, g, μ, ν, hn, hF, hk, rest, fc, fr, c, hf, hg => by
    have e : a + ((0 : Nat) : Int) = a := by omega
    rw [e] at rest
    exact rest f g o m μ ν fc fr c hf hg
  | n + 1, a, o, m, f, g, μ, ν, hn, hF, hk, rest, fc, fr, c, hf, hg => by
    have e : a + ((n + 1 : Nat) : Int) = a + 1 + n := by omega
    rw [e] at rest hk
    exact BR.one h (by omega) hF hz hd (hk a (Int.le_refl _) (by omega)) fc fr c hf hg (fun f' g' o' m' μ' ν' x1 x2 x3 x4 x5 => ck_T h hd hz n (a + 1) o' m' f' g' μ' ν' (by omega) (by omega) (fun x y1 y2 => hk x (by omega) y2) rest x1 x2 x3 x4 x5)
/-- the reference clears its table first -/
theorem chk_L4 {k : Int} (hk : 0 ≤ k ∧ k < 4) : ∀ (n f : Nat) (i : Int) (ν : am_M), i + n = 10 → 0 ≤ i → n < f → ∃ ν', M_checks_L4 f k 0 i ν = (q_bd (M_finds k 0 (-1) (-1) ν') fun _ μ2 => q_ld 8 1017 k μ2 fun a3 => M_checks_L39 am_FU k 0 a3 μ2) ∧ (∀ s, i ≤ s → s < 10 → ν' 1036 s = 0) ∧ (∀ c x, ¬ (c = 1036 ∧ i ≤ x) → ν' c x = ν c x)
  | n, 0, _, _, _, _, h => by omega
  | 0, f + 1, i, ν, h, h0, _ => by
    refine ⟨ν, ?_, fun s a b => by omega, fun _ _ _ => rfl⟩
    show M_checks_L4_b (M_checks_L4 f) k 0 i ν = _
    unfold M_checks_L4_b
    rw [if_neg (by omega)]
  | n + 1, f + 1, i, ν, h, h0, hf => by
    obtain ⟨ν', a1, a2, a3⟩ := chk_L4 hk n f (i + 1) (m_st ν 1036 i 0) (by omega) (by omega) (by omega)
    refine ⟨ν', ?_, fun s x y => ?_, fun c x z => by rw [a3 c x (by omega), m_st_d, if_neg (by omega)]⟩
    · rw [← a1]
      show M_checks_L4_b (M_checks_L4 f) k 0 i ν = _
      unfold M_checks_L4_b
      rw [if_pos (by omega), q_st_s (by omega) (by omega), w32_i (x := i + 1) (by omega) (by omega)]
    · by_cases z : s = i
      · rw [z, a3 _ _ (by omega), m_st_d, if_pos ⟨rfl, rfl⟩]
      · exact a2 s (by omega) y
/-- what CHECK finds in a bill: w, line, slip; without fault: what lies on the table -/
def CB (b k F E : Int) (μ0 ν0 μ' ν' : am_M) (w ln s : Int) : Prop := μ' (b + 19) k = w ∧ μ' (b + 20) k = ln ∧ μ' (b + 21) k = s ∧ FND k w ln s ν' ∧ FCR b k F E μ0 μ' ∧ FR k F E ν0 ν' ∧ 0 ≤ w ∧ (w ≠ 0 → F ≤ ln ∧ ln < E) ∧ (w = 0 → ln = -1 ∧ s = -1 ∧ ∃ T : Int → Int → Prop, (∀ t, ¬ T F t) ∧ (∀ l, F ≤ l → l < E - 1 → FLW b μ0 ν0 (μ' (b + 8)) (ν' 1042) T (E - 1) l) ∧ ∃ r, CKC b (E - 1) r μ0 ν0 ∧ ∀ s ∈ r, T (E - 1) s)
theorem bill_lp {b k F E t : Int} {f g : Nat} {μ0 ν0 μ ν : am_M} (h : HB b k F E μ0 ν0) (ht : 0 ≤ t) (hFt : F + t ≤ E - 1) (hk : ∀ x, F ≤ x → x < F + t → ν0 1002 x ≤ 4) (bk : BL (wZ b μ0 ν0) 3 (F + t) (E - 1)) (gv : ν0 1002 (E - 1) = 8) (fc : FC b F E μ0 μ) (fr : FR k F E ν0 ν) (c : CK 0 0 0 μ ν) (hn : FND k 0 (-1) (-1) ν) (hf : E - F + 2 ≤ f) (hg : E - F + 2 ≤ g) : ∃ μ' ν' w ln s, Ck_checkBill_L44 f b k (-1) E F μ = some (0, μ') ∧ M_checks_L39 g k 0 F ν = some (0, ν') ∧ CB b k F E μ0 ν0 μ' ν' w ln s := by
  have hb' : b = 100 ∨ b = 200 := h.hb
  have hkk := h.hk
  have hFE := h.FE
  obtain ⟨n, bk⟩ := bk
  have et : F + (t.toNat : Nat) = F + t := by omega
  have fin : ∀ (x1 x2 : am_O) (μ1 ν1 : am_M), FLT b k F E x1 x2 μ1 ν1 → FC b F E μ0 μ1 → FR k F E ν0 ν1 → ∃ μ' ν' w ln s, x1 = some (0, μ') ∧ x2 = some (0, ν') ∧ CB b k F E μ0 ν0 μ' ν' w ln s := by
    intro x1 x2 μ1 ν1 y y1 y2
    obtain ⟨μ', ν', w, ln, s, a1, a2, a3, a4, a5, a6, a7, a8, a9, a10, a11⟩ := y
    exact ⟨μ', ν', w, ln, s, a1, a2, a6, a7, a8, a9, fun c i z => by rw [a10 c i z, y1 c i (by omega)], y2.tr a11, by omega, fun _ => ⟨a4, a5⟩, fun z => by omega⟩
  rcases ck_T (z := E - 1) h (d := 0) (by omega) (by omega) t.toNat F 0 0 f g μ ν (by omega) (Int.le_refl _) (fun x p q => hk x p (by omega)) (fun f' g' o' m' μ' ν' x1 x2 x3 x4 x5 => ck_B h n 3 0 _ _ o' m' f' g' μ' ν' (by rw [et]; exact bk) (by omega) (by omega) (by omega) (by omega) x1 x2 x3 x4 x5) fc fr c hf hg with y | ⟨f1, g1, μ1, ν1, o1, m1, T, G1, c1, Ta, Tz, Tl⟩
  · exact fin _ _ _ _ y fc fr
  have fc1 := fc.tr (G1.fc.up (Int.le_refl _) (by omega : E - 1 ≤ E))
  have fr1 := fr.tr (G1.fr.up (Int.le_refl _) (by omega : E - 1 ≤ E))
  obtain ⟨r, r0, r1⟩ := h.ck (l := E - 1) (by omega) (by omega) fc1 fr1
  have e2 : ν1 1002 (E - 1) = ν0 1002 (E - 1) := congrFun (fr1.fn 1002 (by decide) (by decide)) _
  rcases ck_G (a := E - 1) (z := E) h.hb h.hk r1 c1 (by rw [e2]; exact gv) with x | ⟨μ2, ν2, x1, x2, x3, x4, x5, x6, x7, x8⟩
  · obtain ⟨y1, y2⟩ := fin _ _ _ _ (st_no (f := f1) (g := g1) h.hb h.hk ⟨h.hE.2, hFE.2⟩ (h.eE fr1) ⟨hFE.1, by omega⟩ (by omega) c1.c8 (x.up (by omega) (Int.le_refl _)) G1.f1 G1.f2) fc1 fr1
    rw [G1.e1, G1.e2]
    exact ⟨y1, y2⟩
  · obtain ⟨f2, g2, y1, y2, y3, y4⟩ := st_ok (k := k) (E := E) (f := f1) (g := g1) h.hb h.hk ⟨h.hE.2, hFE.2⟩ (h.eE fr1) ⟨by omega, by omega⟩ c1.c8 x1 x2 x3 (x6 _ _ (by omega)) G1.f1 G1.f2 (by omega)
    rw [e2, gv, if_neg (by decide), if_neg (by decide)] at y4
    have eE : E - 1 + 1 = E := by omega
    rw [eE] at y1 y2 y3 y4
    obtain ⟨μ3, a1, a2, a3, a4, a5⟩ := ckb_88 (l := -1) h.hb h.hk x3 x4
    have hn2 : FND k 0 (-1) (-1) ν2 := by
      have z : ∀ c, 1039 ≤ c → c ≤ 1041 → ν2 c k = ν c k := fun c p q => by rw [x7 c k (by omega), G1.f4 c k (by omega)]
      obtain ⟨p1, p2, p3⟩ := hn
      exact ⟨by rw [z _ (by decide) (by decide)]; exact p1, by rw [z _ (by decide) (by decide)]; exact p2, by rw [z _ (by decide) (by decide)]; exact p3⟩
    have fr2 := fr1.tr (x6.up (by omega : F ≤ E - 1) (Int.le_refl _))
    have fc2 := fc1.tr (x5.up (by omega : F ≤ E - 1) (Int.le_refl _))
    refine ⟨μ3, ν2, 0, -1, -1, ?_, ?_, a2, a3, a4, hn2, fun c i z => by rw [a5 c i (by omega), fc2 c i (by omega)], fr2, Int.le_refl _, fun z => absurd rfl z, fun _ => ⟨rfl, rfl, T, fun t p => ?_, fun l l0 l1 => ?_, r, r0, fun s hs => (Tz s).mpr (x8 s hs)⟩⟩
    · rw [G1.e1, y3]
      cases f2 with
      | zero => omega
      | succ f2 =>
        show Ck_checkBill_L44_b (Ck_checkBill_L44 f2) b k (-1) E E μ2 = _
        unfold Ck_checkBill_L44_b
        rw [if_neg (by omega), a1]
    · rw [G1.e2, y4]
      cases g2 with
      | zero => omega
      | succ g2 =>
        show M_checks_L39_b (M_checks_L39 g2) k 0 E ν2 = _
        unfold M_checks_L39_b
        rw [last_s h.hk (h.eE fr2) ⟨h.hE.2, hFE.2⟩, q_bd_s, if_neg (by omega)]
    · have := (Ta t).mp p
      apply this
      unfold tv
      rw [tb_0]; rfl
    · refine (Tl l l0 l1).up l1 (Int.le_refl _) (fun _ _ _ => rfl) ?_ (fun x _ _ => ?_)
      · rw [a5 _ _ (by omega), x5 _ _ (by omega)]
      · exact x6 _ _ (by omega)
theorem HB_of {b k B W n f m t S : Int} {Wn σ : Int → Int} {μ ν : am_M} (h : TB b B W n Wn μ ν) (hk : 0 ≤ k ∧ k < B) (hf : f + m ≤ n) (w : BW b 0 0 0 W k f m t S Wn σ μ ν) : HB b k f (f + m) μ ν := by
  have hB := h.cB
  have hW := h.cW
  have hn := h.cn
  have hfn := w.fn
  have htt := w.tt
  have e0 : (0 : Int) + k = k := by omega
  have r15 := w.r15
  have r16 := w.r16
  rw [e0] at r15 r16
  refine (HB.mk (hb := h.bo) (hk := by omega) (FE := by omega) (hE := by omega) (hl := fun l l0 l1 => ?_))
  obtain ⟨S', u, a0, a⟩ := h.al l (by omega) (by omega)
  exact CKC_of a (by omega) a0 (by omega) h.wv
/-- CHECK of one bill, both sides -/
theorem checkBill_s {b k B W n f m t S : Int} {Wn σ : Int → Int} {μ ν : am_M} (h : TB b B W n Wn μ ν) (hk : 0 ≤ k ∧ k < B) (hf : f + m ≤ n) (w : BW b 0 0 0 W k f m t S Wn σ μ ν) : ∃ μ' ν' x ln s, Ck_checkBill b k μ = some (0, μ') ∧ M_checks k ν = some (0, ν') ∧ CB b k f (f + m) μ ν μ' ν' x ln s := by
  have hb' : b = 100 ∨ b = 200 := h.bo
  have hB := h.cB
  have hn := h.cn
  have hfn := w.fn
  have htt := w.tt
  have hFU := am_FU_ge
  have e0 : (0 : Int) + k = k := by omega
  have H := HB_of h hk hf w
  have hkk := H.hk
  have r15 := w.r15
  have r16 := w.r16
  rw [e0] at r15 r16
  obtain ⟨ν1, a1, a2, a3⟩ := chk_L4 hkk 10 am_FU 0 ν (by omega) (by omega) (by omega)
  obtain ⟨ν2, b1, b2, b3⟩ := finds_s (k := k) (w := 0) (l := -1) (s := -1) (ν := ν1) hkk
  generalize hμ1 : m_st (m_st (m_st (m_st (m_st μ 30 5 0) 30 6 0) 30 7 0) 30 8 0) 30 9 (-1) = μ1
  have f1 : ∀ c i, ¬ (c = 30 ∧ 5 ≤ i ∧ i ≤ 9) → μ1 c i = μ c i := fun c i z => by rw [← hμ1, m_st_d, if_neg (by omega), m_st_d, if_neg (by omega), m_st_d, if_neg (by omega), m_st_d, if_neg (by omega), m_st_d, if_neg (by omega)]
  have c0 : CK 0 0 0 μ1 ν2 := by
    refine (CK.mk (c5 := ?_) (c6 := ?_) (c7 := ?_) (c8 := ?_) (c9 := ?_) (so := S10_0) (sm := S10_0) (dj := fun t _ _ y => ?_) (tt := fun s s0 s1 => ?_))
    · rw [← hμ1, m_st_i (by decide), m_st_i (by decide), m_st_i (by decide), m_st_i (by decide), m_st_d, if_pos ⟨rfl, rfl⟩]
    · rw [← hμ1, m_st_i (by decide), m_st_i (by decide), m_st_i (by decide), m_st_d, if_pos ⟨rfl, rfl⟩]
    · rw [← hμ1, m_st_i (by decide), m_st_i (by decide), m_st_d, if_pos ⟨rfl, rfl⟩]
    · rw [← hμ1, m_st_i (by decide), m_st_d, if_pos ⟨rfl, rfl⟩]
    · rw [← hμ1, m_st_d, if_pos ⟨rfl, rfl⟩]
    · have := y.1
      rw [tb_0] at this
      cases this
    · rw [b3 _ _ (by omega), a2 s s0 s1]
      unfold tv
      rw [tb_0]; rfl
  have eC : Ck_checkBill b k μ = Ck_checkBill_L44 am_FU b k (-1) (f + m) f μ1 := by
    unfold Ck_checkBill Bi_lineBehind
    rw [q_pf_d, q_pf_d, q_pf_d, q_pf_d, q_pf_d, hμ1, q_gd_s (bO0 h.bo), q_gd_s (bO0 h.bo), bat15 h.bo, if_pos hkk, q_bd_s, bat16 h.bo, if_pos hkk, q_bd_s, f1 _ _ (by omega), f1 _ _ (by omega), q_bd_s, bat15 h.bo, if_pos hkk, q_bd_s, f1 _ _ (by omega), r15.1, r16.1, w32_i (x := f + m) (by omega) (by omega)]
  have eM : M_checks k ν = M_checks_L39 am_FU k 0 f ν2 := by
    unfold M_checks
    rw [a1, b1, q_bd_s, q_ld_s (by omega) (by omega), b3 _ _ (by omega), a3 _ _ (by omega), r15.2]
  have ep : f + m - 1 = f + m - 1 := rfl
  obtain ⟨μ', ν', x, ln, s, y1, y2, y3⟩ := bill_lp (t := t) H htt.1 (by omega) (fun x p q => by
    have := (w.tk (x - f) (by omega) (by omega)).1
    have e1 : (0 : Int) + (f + (x - f)) = x := by omega
    rw [e1] at this
    omega) (wZ_of w.bk) (by
    have := w.gv
    have e1 : (0 : Int) + (f + m - 1) = f + m - 1 := by omega
    rw [e1] at this
    exact this) (fun c i z => f1 c i (by omega)) (fun c i z => by rw [b3 c i (by omega), a3 c i (by omega)]) c0 b2 (f := am_FU) (g := am_FU) (by omega) (by omega)
  exact ⟨μ', ν', x, ln, s, by rw [eC, y1], by rw [eM, y2], y3⟩
