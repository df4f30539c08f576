/-! An E read sign by sign on both sides: what holds at each sign. -/
def fsg (g : Int → Int) : Int → List Int → Prop
  | _, [] => True
  | q, c :: r => g q = c ∧ fsg g (q + 1) r
theorem fsg_app {g : Int → Int} (c : Int) : ∀ (L : List Int) (q : Int), fsg g q L → g (q + L.length) = c → fsg g q (L ++ [c])
  | [], q, _, h => by
    have e : q + (([] : List Int).length : Int) = q := by show q + 0 = q; omega
    rw [e] at h
    exact ⟨h, trivial⟩
  | d :: L, q, h, h2 => by
    rw [List.length_cons] at h2
    exact ⟨h.1, fsg_app c L (q + 1) h.2 (by rw [← h2]; congr 1; omega)⟩
theorem fsg_c {g g' : Int → Int} : ∀ (L : List Int) (q : Int), (∀ i, q ≤ i → i < q + L.length → g' i = g i) → fsg g q L → fsg g' q L
  | [], _, _, _ => trivial
  | c :: L, q, hg, h => by
    rw [List.length_cons] at hg
    exact ⟨by rw [hg q (by omega) (by omega)]; exact h.1, fsg_c L (q + 1) (fun i a b => hg i (by omega) (by omega)) h.2⟩
/-- the reference's rows of levels -/
def kst (o c : Int → Int) : Int → List (Int × Bool) → Prop
  | _, [] => False
  | d, (k, cp) :: r => c d = (if cp = true then 1 else 0) ∧ (if d = 0 then k = 0 ∧ r = [] else k = o d ∧ (k = 1 ∨ k = 2) ∧ kst o c (d - 1) r)
theorem kst_len {o c : Int → Int} : ∀ (ks : List (Int × Bool)) (d : Int), 0 ≤ d → kst o c d ks → d + 1 = ks.length
  | [], _, _, h => h.elim
  | (k, cp) :: r, d, h0, h => by
    obtain ⟨-, h2⟩ := h
    rw [List.length_cons]
    by_cases q : d = 0
    · rw [if_pos q] at h2; rw [h2.2, q]; rfl
    · rw [if_neg q] at h2
      have := kst_len r (d - 1) (by omega) h2.2.2
      omega
theorem kst_c {o c o' c' : Int → Int} : ∀ (ks : List (Int × Bool)) (d : Int), 0 ≤ d → (∀ i, 0 ≤ i → i ≤ d → o' i = o i ∧ c' i = c i) → kst o c d ks → kst o' c' d ks
  | [], _, _, _, h => h
  | (k, cp) :: r, d, h0, hg, h => by
    obtain ⟨h1, h2⟩ := h
    refine ⟨by rw [(hg d h0 (Int.le_refl _)).2]; exact h1, ?_⟩
    by_cases q : d = 0
    · rw [if_pos q] at h2 ⊢; exact h2
    · rw [if_neg q] at h2 ⊢
      exact ⟨by rw [(hg d h0 (Int.le_refl _)).1]; exact h2.1, h2.2.1, kst_c r (d - 1) (by omega) (fun i a b => hg i a (by omega)) h2.2.2⟩
/-- nots are left behind -/
theorem kst_pop {o c : Int → Int} : ∀ (ks : List (Int × Bool)) (d : Int), 0 ≤ d → kst o c d ks → (if 0 < d ∧ o d = 1 then kst o c (d - 1) ks.tail ∧ vPop ks = vPop ks.tail else vPop ks = ks)
  | [], _, _, h => h.elim
  | (k, cp) :: r, d, h0, h => by
    obtain ⟨-, h2⟩ := h
    by_cases q : d = 0
    · rw [if_pos q] at h2
      rw [if_neg (by omega), h2.1]
      rfl
    · rw [if_neg q] at h2
      obtain ⟨h3, h4, h5⟩ := h2
      by_cases q2 : o d = 1
      · rw [if_pos ⟨by omega, q2⟩]
        refine ⟨h5, ?_⟩
        conv => lhs; unfold vPop
        rw [if_pos (by omega)]
        rfl
      · rw [if_neg (fun z => q2 z.2)]
        unfold vPop
        rw [if_neg (by omega)]
def vC (S W c : Int) : Prop := (1 ≤ c ∧ c ≤ S) ∨ (11 ≤ c ∧ c < 11 + W) ∨ (20 ≤ c ∧ c ≤ 30) ∨ (100 ≤ c ∧ c ≤ 10099)
def EP (b p l q B W : Int) (Wn : Int → Int) (s : Int) (v2 : Int) (L : List Int) (wb : Bool) (ks : List (Int × Bool)) (wt ro : List Int) (d : Int) (μ ν : am_M) : Prop := (TR μ ν) ∧ (RD b μ) ∧ (NW b μ ν) ∧ (SL μ ν) ∧ (ν 1013 4 = B) ∧ (ν 1013 3 = W) ∧ (1 ≤ B) ∧ (∀ w, 0 ≤ w → w < W → Wn w = ν 1015 (4 + w)) ∧ (CX b p wt ro μ) ∧ (μ (b + 1) 10 = l + 1) ∧ (1000 ≤ q) ∧ (ν 1000 30 = q + L.length) ∧ (fsg (ν 1012) q L) ∧ (0 ≤ d ∧ d ≤ 5) ∧ (kst (ν 1022) (ν 1023) d ks) ∧ (EX Wn L wb ks wt ro) ∧ (p + ro.length + wt.length ≤ μ 10 3 + s) ∧ (ν 1000 30 ≤ 1000 + μ 10 3 + s) ∧ (0 ≤ v2 ∧ v2 ≤ μ 10 3) ∧ (∀ c ∈ L, vC (μ 20 6) W c)
theorem EP.tr {b p l q B W : Int} {Wn : Int → Int} {s : Int} {v2 : Int} {L : List Int} {wb : Bool} {ks : List (Int × Bool)} {wt ro : List Int} {d : Int} {μ ν : am_M} (h : EP b p l q B W Wn s v2 L wb ks wt ro d μ ν) : TR μ ν := h.1
theorem EP.rd {b p l q B W : Int} {Wn : Int → Int} {s : Int} {v2 : Int} {L : List Int} {wb : Bool} {ks : List (Int × Bool)} {wt ro : List Int} {d : Int} {μ ν : am_M} (h : EP b p l q B W Wn s v2 L wb ks wt ro d μ ν) : RD b μ := h.2.1
theorem EP.nw {b p l q B W : Int} {Wn : Int → Int} {s : Int} {v2 : Int} {L : List Int} {wb : Bool} {ks : List (Int × Bool)} {wt ro : List Int} {d : Int} {μ ν : am_M} (h : EP b p l q B W Wn s v2 L wb ks wt ro d μ ν) : NW b μ ν := h.2.2.1
theorem EP.sl {b p l q B W : Int} {Wn : Int → Int} {s : Int} {v2 : Int} {L : List Int} {wb : Bool} {ks : List (Int × Bool)} {wt ro : List Int} {d : Int} {μ ν : am_M} (h : EP b p l q B W Wn s v2 L wb ks wt ro d μ ν) : SL μ ν := h.2.2.2.1
theorem EP.cB {b p l q B W : Int} {Wn : Int → Int} {s : Int} {v2 : Int} {L : List Int} {wb : Bool} {ks : List (Int × Bool)} {wt ro : List Int} {d : Int} {μ ν : am_M} (h : EP b p l q B W Wn s v2 L wb ks wt ro d μ ν) : ν 1013 4 = B := h.2.2.2.2.1
theorem EP.cW {b p l q B W : Int} {Wn : Int → Int} {s : Int} {v2 : Int} {L : List Int} {wb : Bool} {ks : List (Int × Bool)} {wt ro : List Int} {d : Int} {μ ν : am_M} (h : EP b p l q B W Wn s v2 L wb ks wt ro d μ ν) : ν 1013 3 = W := h.2.2.2.2.2.1
theorem EP.B1 {b p l q B W : Int} {Wn : Int → Int} {s : Int} {v2 : Int} {L : List Int} {wb : Bool} {ks : List (Int × Bool)} {wt ro : List Int} {d : Int} {μ ν : am_M} (h : EP b p l q B W Wn s v2 L wb ks wt ro d μ ν) : 1 ≤ B := h.2.2.2.2.2.2.1
theorem EP.wn {b p l q B W : Int} {Wn : Int → Int} {s : Int} {v2 : Int} {L : List Int} {wb : Bool} {ks : List (Int × Bool)} {wt ro : List Int} {d : Int} {μ ν : am_M} (h : EP b p l q B W Wn s v2 L wb ks wt ro d μ ν) : ∀ w, 0 ≤ w → w < W → Wn w = ν 1015 (4 + w) := h.2.2.2.2.2.2.2.1
theorem EP.cx {b p l q B W : Int} {Wn : Int → Int} {s : Int} {v2 : Int} {L : List Int} {wb : Bool} {ks : List (Int × Bool)} {wt ro : List Int} {d : Int} {μ ν : am_M} (h : EP b p l q B W Wn s v2 L wb ks wt ro d μ ν) : CX b p wt ro μ := h.2.2.2.2.2.2.2.2.1
theorem EP.ml {b p l q B W : Int} {Wn : Int → Int} {s : Int} {v2 : Int} {L : List Int} {wb : Bool} {ks : List (Int × Bool)} {wt ro : List Int} {d : Int} {μ ν : am_M} (h : EP b p l q B W Wn s v2 L wb ks wt ro d μ ν) : μ (b + 1) 10 = l + 1 := h.2.2.2.2.2.2.2.2.2.1
theorem EP.q0 {b p l q B W : Int} {Wn : Int → Int} {s : Int} {v2 : Int} {L : List Int} {wb : Bool} {ks : List (Int × Bool)} {wt ro : List Int} {d : Int} {μ ν : am_M} (h : EP b p l q B W Wn s v2 L wb ks wt ro d μ ν) : 1000 ≤ q := h.2.2.2.2.2.2.2.2.2.2.1
theorem EP.cd {b p l q B W : Int} {Wn : Int → Int} {s : Int} {v2 : Int} {L : List Int} {wb : Bool} {ks : List (Int × Bool)} {wt ro : List Int} {d : Int} {μ ν : am_M} (h : EP b p l q B W Wn s v2 L wb ks wt ro d μ ν) : ν 1000 30 = q + L.length := h.2.2.2.2.2.2.2.2.2.2.2.1
theorem EP.sg {b p l q B W : Int} {Wn : Int → Int} {s : Int} {v2 : Int} {L : List Int} {wb : Bool} {ks : List (Int × Bool)} {wt ro : List Int} {d : Int} {μ ν : am_M} (h : EP b p l q B W Wn s v2 L wb ks wt ro d μ ν) : fsg (ν 1012) q L := h.2.2.2.2.2.2.2.2.2.2.2.2.1
theorem EP.d0 {b p l q B W : Int} {Wn : Int → Int} {s : Int} {v2 : Int} {L : List Int} {wb : Bool} {ks : List (Int × Bool)} {wt ro : List Int} {d : Int} {μ ν : am_M} (h : EP b p l q B W Wn s v2 L wb ks wt ro d μ ν) : 0 ≤ d ∧ d ≤ 5 := h.2.2.2.2.2.2.2.2.2.2.2.2.2.1
theorem EP.kk {b p l q B W : Int} {Wn : Int → Int} {s : Int} {v2 : Int} {L : List Int} {wb : Bool} {ks : List (Int × Bool)} {wt ro : List Int} {d : Int} {μ ν : am_M} (h : EP b p l q B W Wn s v2 L wb ks wt ro d μ ν) : kst (ν 1022) (ν 1023) d ks := h.2.2.2.2.2.2.2.2.2.2.2.2.2.2.1
theorem EP.ex {b p l q B W : Int} {Wn : Int → Int} {s : Int} {v2 : Int} {L : List Int} {wb : Bool} {ks : List (Int × Bool)} {wt ro : List Int} {d : Int} {μ ν : am_M} (h : EP b p l q B W Wn s v2 L wb ks wt ro d μ ν) : EX Wn L wb ks wt ro := h.2.2.2.2.2.2.2.2.2.2.2.2.2.2.2.1
theorem EP.cap {b p l q B W : Int} {Wn : Int → Int} {s : Int} {v2 : Int} {L : List Int} {wb : Bool} {ks : List (Int × Bool)} {wt ro : List Int} {d : Int} {μ ν : am_M} (h : EP b p l q B W Wn s v2 L wb ks wt ro d μ ν) : p + ro.length + wt.length ≤ μ 10 3 + s := h.2.2.2.2.2.2.2.2.2.2.2.2.2.2.2.2.1
theorem EP.caq {b p l q B W : Int} {Wn : Int → Int} {s : Int} {v2 : Int} {L : List Int} {wb : Bool} {ks : List (Int × Bool)} {wt ro : List Int} {d : Int} {μ ν : am_M} (h : EP b p l q B W Wn s v2 L wb ks wt ro d μ ν) : ν 1000 30 ≤ 1000 + μ 10 3 + s := h.2.2.2.2.2.2.2.2.2.2.2.2.2.2.2.2.2.1
theorem EP.v2r {b p l q B W : Int} {Wn : Int → Int} {s : Int} {v2 : Int} {L : List Int} {wb : Bool} {ks : List (Int × Bool)} {wt ro : List Int} {d : Int} {μ ν : am_M} (h : EP b p l q B W Wn s v2 L wb ks wt ro d μ ν) : 0 ≤ v2 ∧ v2 ≤ μ 10 3 := h.2.2.2.2.2.2.2.2.2.2.2.2.2.2.2.2.2.2.1
theorem EP.vl {b p l q B W : Int} {Wn : Int → Int} {s : Int} {v2 : Int} {L : List Int} {wb : Bool} {ks : List (Int × Bool)} {wt ro : List Int} {d : Int} {μ ν : am_M} (h : EP b p l q B W Wn s v2 L wb ks wt ro d μ ν) : ∀ c ∈ L, vC (μ 20 6) W c := h.2.2.2.2.2.2.2.2.2.2.2.2.2.2.2.2.2.2.2
theorem EP.mk {b p l q B W : Int} {Wn : Int → Int} {s : Int} {v2 : Int} {L : List Int} {wb : Bool} {ks : List (Int × Bool)} {wt ro : List Int} {d : Int} {μ ν : am_M} (tr : TR μ ν) (rd : RD b μ) (nw : NW b μ ν) (sl : SL μ ν) (cB : ν 1013 4 = B) (cW : ν 1013 3 = W) (B1 : 1 ≤ B) (wn : ∀ w, 0 ≤ w → w < W → Wn w = ν 1015 (4 + w)) (cx : CX b p wt ro μ) (ml : μ (b + 1) 10 = l + 1) (q0 : 1000 ≤ q) (cd : ν 1000 30 = q + L.length) (sg : fsg (ν 1012) q L) (d0 : 0 ≤ d ∧ d ≤ 5) (kk : kst (ν 1022) (ν 1023) d ks) (ex : EX Wn L wb ks wt ro) (cap : p + ro.length + wt.length ≤ μ 10 3 + s) (caq : ν 1000 30 ≤ 1000 + μ 10 3 + s) (v2r : 0 ≤ v2 ∧ v2 ≤ μ 10 3) (vl : ∀ c ∈ L, vC (μ 20 6) W c) : EP b p l q B W Wn s v2 L wb ks wt ro d μ ν := ⟨tr, rd, nw, sl, cB, cW, B1, wn, cx, ml, q0, cd, sg, d0, kk, ex, cap, caq, v2r, vl⟩
def FE (b p l : Int) (μ μ' : am_M) : Prop := ∀ c i, ¬ (c = 10 ∨ (c = 20 ∧ (i = 6 ∨ i = 8 ∨ i = 9 ∨ i = 10)) ∨ c = 21 ∨ c = 23 ∨ (c = b + 1 ∧ i = 11) ∨ (c = b + 11 ∧ p ≤ i) ∨ (c = b + 10 ∧ i = l)) → μ' c i = μ c i
def FME (B q : Int) (ν ν' : am_M) : Prop := ∀ c i, ¬ ((c = 1000 ∧ ((4 ≤ i ∧ i ≤ 9) ∨ i = 30)) ∨ (c = 1012 ∧ q ≤ i) ∨ (c = 1020 ∧ i = 3 + B) ∨ c = 1021 ∨ c = 1022 ∨ c = 1023) → ν' c i = ν c i
theorem FE.refl {b p l : Int} {μ : am_M} : FE b p l μ μ := fun _ _ _ => rfl
theorem FE.tr {b p l : Int} {μ μ' μ'' : am_M} (h : FE b p l μ μ') (h' : FE b p l μ' μ'') : FE b p l μ μ'' := fun c i q => by rw [h' c i q, h c i q]
theorem FME.refl {B q : Int} {ν : am_M} : FME B q ν ν := fun _ _ _ => rfl
theorem FME.tr {B q : Int} {ν ν' ν'' : am_M} (h : FME B q ν ν') (h' : FME B q ν' ν'') : FME B q ν ν'' := fun c i z => by rw [h' c i z, h c i z]
theorem vC_le {S S' W c : Int} (h : S ≤ S') (hc : vC S W c) : vC S' W c := by unfold vC at *; omega
/-- a sign has been taken in on both sides -/
theorem EP_mk {b p l q B W : Int} {Wn : Int → Int} {v2 : Int} {L : List Int} {wb wb' : Bool} {ks ks' : List (Int × Bool)} {wt ro wt' ro' : List Int} {d d' c : Int} {μ ν μ' ν' : am_M} (hb : bOk b) (h : EP b p l q B W Wn 0 v2 L wb ks wt ro d μ ν)
    (hμ : ∀ c i, ¬ ((c = 20 ∧ (i = 6 ∨ i = 8 ∨ i = 9)) ∨ c = 21 ∨ c = 23 ∨ (c = b + 1 ∧ i = 11) ∨ (c = b + 11 ∧ p ≤ i) ∨ (c = b + 10 ∧ i = l)) → μ' c i = μ c i)
    (hν : ∀ c i, ¬ ((c = 1000 ∧ i = 30) ∨ (c = 1012 ∧ ν 1000 30 ≤ i) ∨ (c = 1020 ∧ i = 3 + B) ∨ c = 1021 ∨ c = 1022 ∨ c = 1023) → ν' c i = ν c i)
    (sl' : SL μ' ν') (cx' : CX b p wt' ro' μ') (cd' : ν' 1000 30 = ν 1000 30 + 1) (sg' : ν' 1012 (ν 1000 30) = c) (d0' : 0 ≤ d' ∧ d' ≤ 5) (kk' : kst (ν' 1022) (ν' 1023) d' ks') (ex' : EX Wn (L ++ [c]) wb' ks' wt' ro') (len : ro'.length + wt'.length ≤ ro.length + wt.length + 1) (hs : μ 20 6 ≤ μ' 20 6) (vc : vC (μ' 20 6) W c) :
    EP b p l q B W Wn 1 v2 (L ++ [c]) wb' ks' wt' ro' d' μ' ν' := by
  have hb' : b = 100 ∨ b = 200 := hb
  have e3 : μ' 10 3 = μ 10 3 := hμ _ _ (by omega)
  have hcd := h.cd
  have hcap := h.cap
  have hcaq := h.caq
  exact (EP.mk (tr := h.tr.cong (fun c i z => hμ _ _ (by omega)) (fun c i z => hν _ _ (by omega))) (rd := h.rd.cong (fun i z => hμ _ _ (by omega))) (nw := h.nw.cong (fun c i z => hμ _ _ (by omega)) (fun c i z => hν _ _ (by omega))) (sl := sl') (cB := by rw [hν _ _ (by omega)]; exact h.cB) (cW := by rw [hν _ _ (by omega)]; exact h.cW) (B1 := h.B1) (wn := fun w p q => by rw [hν _ _ (by omega)]; exact h.wn w p q) (cx := cx') (ml := by rw [hμ _ _ (by omega)]; exact h.ml) (q0 := h.q0) (cd := by rw [cd', hcd, List.length_append]; show q + (L.length : Int) + 1 = q + ((L.length + 1 : Nat) : Int); omega) (sg := fsg_app c L q (fsg_c L q (fun i x y => hν _ _ (by omega)) h.sg) (by rw [← hcd]; exact sg')) (d0 := d0') (kk := kk') (ex := ex') (cap := by rw [e3]; omega) (caq := by rw [e3, cd']; omega) (v2r := by rw [e3]; exact h.v2r) (vl := fun c' hc' => (List.mem_append.mp hc').elim (fun z => vC_le hs (h.vl c' z)) (fun z => by rw [List.mem_singleton.mp z]; exact vc)))
/-- .. and the next token is looked at -/
theorem EP_next {b p l q B W : Int} {Wn : Int → Int} {v2 : Int} {L : List Int} {wb : Bool} {ks : List (Int × Bool)} {wt ro : List Int} {d : Int} {μ ν : am_M} (hb : bOk b) (h : EP b p l q B W Wn 1 v2 L wb ks wt ro d μ ν) (ht : ν 1000 6 ≠ 0) : ∃ μ' ν', Tp_advance μ = some (0, μ') ∧ M_nextToken ν = some (0, ν') ∧ EP b p l q B W Wn 0 (v2 + 1) L wb ks wt ro d μ' ν' ∧ FE b p l μ μ' ∧ FME B q ν ν' ∧ μ' 10 2 = μ 10 2 ∧ μ 10 3 < μ' 10 3 ∧ μ' 20 6 = μ 20 6 := by
  have hb' : b = 100 ∨ b = 200 := hb
  obtain ⟨μ', ν', a1, a2, a3, a4, a5, a6, a7⟩ := TR_adv h.tr.base
  have hl := h.tr.lst ht
  have hcap := h.cap
  have hcaq := h.caq
  have hv := h.v2r
  have e11 : ∀ c, c ≠ 10 → μ' c = μ c := fun c z => funext fun i => a4 c i z
  have e12 : ∀ c, c ≠ 1000 → ν' c = ν c := fun c z => funext fun i => a5 c i (by omega)
  refine ⟨μ', ν', a1, a2, ?_, fun c i z => a4 c i (by omega), fun c i z => a5 c i (by omega), a6, by omega, a4 20 6 (by decide)⟩
  have hcx := h.cx
  unfold CX at hcx
  exact (EP.mk (tr := a3) (rd := h.rd.cong (fun i z => a4 _ _ (by omega))) (nw := h.nw.cong (fun c i z => a4 _ _ (by omega)) (fun c i z => a5 _ _ (by omega))) (sl := h.sl.cong (fun c i z => a4 _ _ (by omega)) (fun c i z => a5 _ _ (by omega))) (cB := by rw [a5 _ _ (by omega)]; exact h.cB) (cW := by rw [a5 _ _ (by omega)]; exact h.cW) (B1 := h.B1) (wn := fun w p q => by rw [a5 _ _ (by omega)]; exact h.wn w p q) (cx := by unfold CX; rw [e11 20 (by omega), e11 23 (by omega), e11 (b + 1) (by omega), e11 (b + 11) (by omega), e11 (b + 10) (by omega)]; exact hcx) (ml := by rw [a4 _ _ (by omega)]; exact h.ml) (q0 := h.q0) (cd := by rw [a5 _ _ (by omega)]; exact h.cd) (sg := by rw [e12 1012 (by omega)]; exact h.sg) (d0 := h.d0) (kk := by rw [e12 1022 (by omega), e12 1023 (by omega)]; exact h.kk) (ex := h.ex) (cap := by omega) (caq := by rw [a5 _ _ (by omega)]; omega) (v2r := by omega) (vl := by rw [a4 20 6 (by omega)]; exact h.vl))
theorem puts_s {ν : am_M} {v : Int} (h0 : 0 ≤ ν 1000 30) (h1 : ν 1000 30 < 2000) : M_puts v ν = some (0, m_st (m_st ν 1012 (ν 1000 30) v) 1000 30 (ν 1000 30 + 1)) := by
  unfold M_puts
  rw [q_st_s h0 h1, q_pf_d]
  have e : m_st ν 1012 (ν 1000 30) v 1000 30 = ν 1000 30 := m_st_c (by decide)
  rw [e, w32_i (x := ν 1000 30 + 1) (by omega) (by omega)]
/-- both say what is wrong -/
def FL (μ ν : am_M) : Prop := μ 20 10 = ν 1000 9 ∧ μ 20 10 ≠ 0
theorem fail_s {μ ν : am_M} {k : Int} (h : TR μ ν) (hf : μ 20 10 = 0) (hk : 1 ≤ k ∧ k ≤ 5) : Rd_fail k μ = some (0, m_st μ 20 10 (k + 16 * μ 10 3)) ∧ M_fails k ν = some (0, m_st ν 1000 9 (k + 16 * μ 10 3)) ∧ FL (m_st μ 20 10 (k + 16 * μ 10 3)) (m_st ν 1000 9 (k + 16 * μ 10 3)) := by
  have h0 := h.be0
  have h1 := h.be1
  have h2 := h.base.at3
  have h3 := h.base.n1
  refine ⟨?_, ?_, rfl, ?_⟩
  · unfold Rd_fail
    rw [if_pos hf, w32_i (x := 16 * μ 10 3) (by omega) (by omega), w32_i (x := k + 16 * μ 10 3) (by omega) (by omega), q_pf_d]
  · unfold M_fails
    rw [h.beg, w32_i (x := 16 * μ 10 3) (by omega) (by omega), w32_i (x := k + 16 * μ 10 3) (by omega) (by omega), q_pf_d]
  · show k + 16 * μ 10 3 ≠ 0
    omega
