/-! Loads and stores of the abstract memory are the machine's. -/
theorem am_shp_len {c : Int} {k n : Nat} (h : am_shp c = some (k, n)) : n < 100000 := by
  obtain ⟨i, hi⟩ := am_find_at _ _ _ h
  have h1 := List.all_eq_true.mp (show g_lay.all (fun q => decide (q.2.2 < 100000)) = true by decide +kernel) _ (List.mem_of_getElem? hi)
  simp only [decide_eq_true_eq] at h1
  exact h1
theorem am_clamp {i : Int} (h0 : 0 ≤ i) (h1 : i < 2147483648) : (Int32.ofInt i).toNatClampNeg = i.toNat := by
  show ((Int32.ofInt i).toInt).toNat = i.toNat
  rw [r32_to (by unfold r32; omega)]
theorem am_ix {i : Int} {n : Nat} (h0 : 0 ≤ i) (h1 : i < (n : Int)) (h2 : n < 2147483648) : vp_in (Int32.ofInt i) n := by
  rw [vp_in_iff, r32_to (by unfold r32; omega)]
  exact ⟨h0, h1⟩
theorem am_toNat {i : Int} (h0 : 0 ≤ i) : ((i.toNat : Nat) : Int) = i := by omega
theorem am_cell_i {ad : Int → Nat} {cT : Nat → ClassId} {μ : am_M} {c i v : Int} {n : Nat} (h0 : 0 ≤ i) : am_cell ad cT (m_st μ c i v) c (0, n) = .inl (cT 0, n, .inl (upd (fun j : Nat => Int32.ofInt (μ c j)) i.toNat (Int32.ofInt v))) := by
  show Sum.inl (cT 0, n, Sum.inl (fun j : Nat => Int32.ofInt (m_st μ c i v c j))) = _
  congr 4
  funext j
  show Int32.ofInt (m_st μ c i v c j) = if j = i.toNat then Int32.ofInt v else Int32.ofInt (μ c j)
  unfold m_st
  by_cases q : j = i.toNat
  · rw [if_pos q, if_pos ⟨rfl, by omega⟩]
  · rw [if_neg q, if_neg (fun z => q (by have := z.2; omega))]
theorem am_cell_b {ad : Int → Nat} {cT : Nat → ClassId} {μ : am_M} {c i v : Int} {n : Nat} (h0 : 0 ≤ i) : am_cell ad cT (m_st μ c i v) c (2, n) = .inl (cT 2, n, .inl (upd (fun j : Nat => Int32.ofInt (μ c j)) i.toNat (Int32.ofInt v))) := by
  show Sum.inl (cT 2, n, Sum.inl (fun j : Nat => Int32.ofInt (m_st μ c i v c j))) = _
  congr 4
  funext j
  show Int32.ofInt (m_st μ c i v c j) = if j = i.toNat then Int32.ofInt v else Int32.ofInt (μ c j)
  unfold m_st
  by_cases q : j = i.toNat
  · rw [if_pos q, if_pos ⟨rfl, by omega⟩]
  · rw [if_neg q, if_neg (fun z => q (by have := z.2; omega))]
theorem am_cell_l {ad : Int → Nat} {cT : Nat → ClassId} {μ : am_M} {c i v : Int} {n : Nat} (h0 : 0 ≤ i) : am_cell ad cT (m_st μ c i v) c (1, n) = .inl (cT 1, n, .inr (.inl (vp_updL (fun j : Nat => Int64.ofInt (μ c j)) i.toNat (Int64.ofInt v)))) := by
  show Sum.inl (cT 1, n, Sum.inr (Sum.inl (fun j : Nat => Int64.ofInt (m_st μ c i v c j)))) = _
  congr 5
  funext j
  show Int64.ofInt (m_st μ c i v c j) = if j = i.toNat then Int64.ofInt v else Int64.ofInt (μ c j)
  unfold m_st
  by_cases q : j = i.toNat
  · rw [if_pos q, if_pos ⟨rfl, by omega⟩]
  · rw [if_neg q, if_neg (fun z => q (by have := z.2; omega))]
theorem am_fld_lt {ci k : Nat} {f : Nat × Int} (h : am_fld ci k = some f) : k < ((g_ft[ci]?).getD []).length := by
  unfold am_fld at h
  cases e : g_ft[ci]? with
  | none => rw [e] at h; cases h
  | some l =>
    rw [e] at h
    exact (List.getElem?_eq_some_iff.mp h).1
theorem am_fls_set {ad : Int → Nat} {μ : am_M} {c : Int} {ci k sb : Nat} {f : Nat × Int} {v : am_V} (hf : am_fld ci k = some f) (hv : (f.1 = 0 ∧ v.1 = 0) ∨ (f.1 = 1 ∧ v.1 = 1) ∨ (f.1 = 2 ∧ v.1 = 0) ∨ (f.1 = 3 ∧ v.1 = 2)) : (am_fls ad μ c ci).set k (am_cv ad sb v) = am_fls ad (m_st μ c (k : Int) v.2) c ci := by
  apply List.ext_getElem?
  intro j
  have hl : k < (am_fls ad μ c ci).length := by
    unfold am_fls
    rw [List.length_mapIdx]
    exact am_fld_lt hf
  by_cases e : j = k
  · subst e
    rw [List.getElem?_set_self hl, am_fls_at hf]
    obtain ⟨t, d⟩ := f
    obtain ⟨tv, x⟩ := v
    have hm : m_st μ c (j : Int) x c (j : Int) = x := m_st_eq
    rcases hv with ⟨h1, h2⟩ | ⟨h1, h2⟩ | ⟨h1, h2⟩ | ⟨h1, h2⟩ <;> (simp only at h1 h2; subst h1; subst h2; unfold am_fv; simp only; rw [hm]; rfl)
  · rw [List.getElem?_set_ne (Ne.symm e)]
    unfold am_fls
    rw [List.getElem?_mapIdx, List.getElem?_mapIdx]
    cases hj : (g_ft[ci]?.getD [])[j]? with
    | none => rfl
    | some g =>
      have hm : m_st μ c (k : Int) v.2 c (j : Int) = μ c (j : Int) := m_st_ni (fun z => e (by omega))
      show some (am_cv ad 0 (am_fv μ c j g)) = some (am_cv ad 0 (am_fv (m_st μ c (k : Int) v.2) c j g))
      unfold am_fv
      rw [hm]
theorem am_no2 {c : Int} {n : Nat} (h : am_shp c = some (2, n)) : False := by
  obtain ⟨i, hi⟩ := am_find_at _ _ _ h
  have h1 := List.all_eq_true.mp (show g_lay.all (fun q => decide (q.2.1 ≠ 2)) = true by decide +kernel) _ (List.mem_of_getElem? hi)
  simp only [decide_eq_true_eq] at h1
  exact h1 rfl
section AMU
variable {p : Program} {l : Launch} {e : Env} {R : Room} {s : State} {m : MethodId} {args : Array Value} {below : List Frame} {meth : Method} {c : Code} {H : Heap} {locs : List Loc} {cells slots : Nat} {Q : State → Prop}
variable {cc : ByteArray} {own : String} {nL : Nat} {fl : am_FL} {ml : am_ML} {kl kL : am_KL} {dC : Nat → ClassId} {dI : Nat → Nat → Nat} {cT : Nat → ClassId} {ad : Int → Nat} {sb : Nat} {A : Nat → Prop} {H0 : Heap}
theorem am_ref {k : Nat × Nat} {a : Int} (h : am_shp a = some k) : am_cv ad sb (2, a) = .ref (ad a) := by rw [am_cv2 rfl]; exact if_neg (am_shp_pos h)
theorem am_W_iald (C0 : am_cx p s m args c cc nL own fl kl kL dC dI cT) {μ : am_M} (hP : va_P (dC, dI) g_cl (am_wd ad cT μ) H) {pc : Nat} (hd : decode cc pc = .ok (.iaload, 1)) {larr : Array Slot} {rest : List Value} {a i : Int} {n : Nat} (hs : am_shp a = some (0, n)) (h0 : 0 ≤ i) (h1 : i < (n : Int))
    (kk : W p l e R s m args below meth c H locs cells slots Q (F0 m (pc + 1) larr (.int (Int32.ofInt (μ a i)) :: rest))) : W p l e R s m args below meth c H locs cells slots Q (F0 m pc larr (.int (Int32.ofInt i) :: am_cv ad sb (2, a) :: rest)) := by
  obtain ⟨hx, hb, hml, hown, hts, hNW, hK, hfl, -⟩ := C0
  obtain ⟨j, hj, hw⟩ := am_wd_at (ad := ad) (cT := cT) (μ := μ) hs
  have hn := am_shp_len hs
  rw [am_ref hs]
  refine va_iald hx hb hK hP j 0 hw rfl (am_ix h0 h1 (by omega)) hd ?_
  rw [am_clamp h0 (by omega)]
  show W p l e R s m args below meth c H locs cells slots Q (F0 m (pc + 1) larr (.int (Int32.ofInt (μ a (i.toNat : Int))) :: rest))
  rw [am_toNat h0]
  exact kk
theorem am_W_zald (C0 : am_cx p s m args c cc nL own fl kl kL dC dI cT) {μ : am_M} (hP : va_P (dC, dI) g_cl (am_wd ad cT μ) H) {pc : Nat} (hd : decode cc pc = .ok (.baload, 1)) {larr : Array Slot} {rest : List Value} {a i : Int} {n : Nat} (hs : am_shp a = some (2, n)) (h0 : 0 ≤ i) (h1 : i < (n : Int))
    (kk : W p l e R s m args below meth c H locs cells slots Q (F0 m (pc + 1) larr (.int (Int32.ofInt (μ a i)) :: rest))) : W p l e R s m args below meth c H locs cells slots Q (F0 m pc larr (.int (Int32.ofInt i) :: am_cv ad sb (2, a) :: rest)) := (am_no2 hs).elim
theorem am_W_lald (C0 : am_cx p s m args c cc nL own fl kl kL dC dI cT) {μ : am_M} (hP : va_P (dC, dI) g_cl (am_wd ad cT μ) H) {pc : Nat} (hd : decode cc pc = .ok (.laload, 1)) {larr : Array Slot} {rest : List Value} {a i : Int} {n : Nat} (hs : am_shp a = some (1, n)) (h0 : 0 ≤ i) (h1 : i < (n : Int))
    (kk : W p l e R s m args below meth c H locs cells slots Q (F0 m (pc + 1) larr (.long (Int64.ofInt (μ a i)) :: rest))) : W p l e R s m args below meth c H locs cells slots Q (F0 m pc larr (.int (Int32.ofInt i) :: am_cv ad sb (2, a) :: rest)) := by
  obtain ⟨hx, hb, hml, hown, hts, hNW, hK, hfl, -⟩ := C0
  obtain ⟨j, hj, hw⟩ := am_wd_at (ad := ad) (cT := cT) (μ := μ) hs
  have hn := am_shp_len hs
  rw [am_ref hs]
  refine va_lald hx hb hK hP j 1 hw rfl (am_ix h0 h1 (by omega)) hd ?_
  rw [am_clamp h0 (by omega)]
  show W p l e R s m args below meth c H locs cells slots Q (F0 m (pc + 1) larr (.long (Int64.ofInt (μ a (i.toNat : Int))) :: rest))
  rw [am_toNat h0]
  exact kk
theorem am_W_aald (C0 : am_cx p s m args c cc nL own fl kl kL dC dI cT) {μ : am_M} (hP : va_P (dC, dI) g_cl (am_wd ad cT μ) H) {pc : Nat} (hd : decode cc pc = .ok (.aaload, 1)) {larr : Array Slot} {rest : List Value} {a i : Int} {n : Nat} (hs : am_shp a = some (3, n)) (h0 : 0 ≤ i) (h1 : i < (n : Int))
    (kk : W p l e R s m args below meth c H locs cells slots Q (F0 m (pc + 1) larr (am_cv ad sb (2, μ a i) :: rest))) : W p l e R s m args below meth c H locs cells slots Q (F0 m pc larr (.int (Int32.ofInt i) :: am_cv ad sb (2, a) :: rest)) := by
  obtain ⟨hx, hb, hml, hown, hts, hNW, hK, hfl, -⟩ := C0
  obtain ⟨j, hj, hw⟩ := am_wd_at (ad := ad) (cT := cT) (μ := μ) hs
  have hn := am_shp_len hs
  rw [am_ref hs]
  refine va_aldq hx hb hK hP j 3 hw rfl (am_ix h0 h1 (by omega)) hd ?_
  rw [am_clamp h0 (by omega)]
  show W p l e R s m args below meth c H locs cells slots Q (F0 m (pc + 1) larr (va_rf (if μ a (i.toNat : Int) < 0 then none else some (ad (μ a (i.toNat : Int)))) :: rest))
  rw [am_toNat h0]
  rw [am_cv2 rfl] at kk
  by_cases q : μ a i < 0
  · rw [if_pos q] at kk ⊢
    exact kk
  · rw [if_neg q] at kk ⊢
    exact kk
theorem am_W_iast (C0 : am_cx p s m args c cc nL own fl kl kL dC dI cT) {μ : am_M} (hP : va_P (dC, dI) g_cl (am_wd ad cT μ) H) (hD : va_D A (am_wd ad cT μ)) (hS : va_S A H0 H locs) {pc : Nat} (hd : decode cc pc = .ok (.iastore, 1)) {larr : Array Slot} {rest : List Value} {a i v : Int} {n : Nat} (hs : am_shp a = some (0, n)) (h0 : 0 ≤ i) (h1 : i < (n : Int))
    (kk : ∀ (H1 : Heap) (locs1 : List Loc), va_P (dC, dI) g_cl (am_wd ad cT (m_st μ a i v)) H1 → va_D A (am_wd ad cT (m_st μ a i v)) → va_S A H0 H1 locs1 → W p l e R s m args below meth c H1 locs1 cells slots Q (F0 m (pc + 1) larr rest)) : W p l e R s m args below meth c H locs cells slots Q (F0 m pc larr (.int (Int32.ofInt v) :: .int (Int32.ofInt i) :: am_cv ad sb (2, a) :: rest)) := by
  obtain ⟨hx, hb, hml, hown, hts, hNW, hK, hfl, -⟩ := C0
  obtain ⟨j, hj, hw⟩ := am_wd_at (ad := ad) (cT := cT) (μ := μ) hs
  have hn := am_shp_len hs
  rw [am_ref hs]
  refine va_iast hx hb hK hP hD hS j 0 hw rfl (am_ix h0 h1 (by omega)) hd ?_
  rw [am_clamp h0 (by omega), ← am_cell_i (ad := ad) h0, am_wd_set hj (fun c' h => m_st_ne h)]
  exact kk
theorem am_W_last (C0 : am_cx p s m args c cc nL own fl kl kL dC dI cT) {μ : am_M} (hP : va_P (dC, dI) g_cl (am_wd ad cT μ) H) (hD : va_D A (am_wd ad cT μ)) (hS : va_S A H0 H locs) {pc : Nat} (hd : decode cc pc = .ok (.lastore, 1)) {larr : Array Slot} {rest : List Value} {a i v : Int} {n : Nat} (hs : am_shp a = some (1, n)) (h0 : 0 ≤ i) (h1 : i < (n : Int))
    (kk : ∀ (H1 : Heap) (locs1 : List Loc), va_P (dC, dI) g_cl (am_wd ad cT (m_st μ a i v)) H1 → va_D A (am_wd ad cT (m_st μ a i v)) → va_S A H0 H1 locs1 → W p l e R s m args below meth c H1 locs1 cells slots Q (F0 m (pc + 1) larr rest)) : W p l e R s m args below meth c H locs cells slots Q (F0 m pc larr (.long (Int64.ofInt v) :: .int (Int32.ofInt i) :: am_cv ad sb (2, a) :: rest)) := by
  obtain ⟨hx, hb, hml, hown, hts, hNW, hK, hfl, -⟩ := C0
  obtain ⟨j, hj, hw⟩ := am_wd_at (ad := ad) (cT := cT) (μ := μ) hs
  have hn := am_shp_len hs
  rw [am_ref hs]
  refine va_last hx hb hK hP hD hS j 1 hw rfl (am_ix h0 h1 (by omega)) hd ?_
  rw [am_clamp h0 (by omega), ← am_cell_l (ad := ad) h0, am_wd_set hj (fun c' h => m_st_ne h)]
  exact kk
theorem am_nb {v : Int} (h : v = 0 ∨ v = 1) : vp_nar .boolean (Int32.ofInt v) = Int32.ofInt v := by rcases h with h | h <;> (rw [h]; decide +kernel)
theorem am_W_zast (C0 : am_cx p s m args c cc nL own fl kl kL dC dI cT) {μ : am_M} (hP : va_P (dC, dI) g_cl (am_wd ad cT μ) H) (hD : va_D A (am_wd ad cT μ)) (hS : va_S A H0 H locs) {pc : Nat} (hd : decode cc pc = .ok (.bastore, 1)) {larr : Array Slot} {rest : List Value} {a i v : Int} {n : Nat} (hs : am_shp a = some (2, n)) (h0 : 0 ≤ i) (h1 : i < (n : Int)) (hv : v = 0 ∨ v = 1)
    (kk : ∀ (H1 : Heap) (locs1 : List Loc), va_P (dC, dI) g_cl (am_wd ad cT (m_st μ a i v)) H1 → va_D A (am_wd ad cT (m_st μ a i v)) → va_S A H0 H1 locs1 → W p l e R s m args below meth c H1 locs1 cells slots Q (F0 m (pc + 1) larr rest)) : W p l e R s m args below meth c H locs cells slots Q (F0 m pc larr (.int (Int32.ofInt v) :: .int (Int32.ofInt i) :: am_cv ad sb (2, a) :: rest)) := (am_no2 hs).elim
theorem am_W_put (C0 : am_cx p s m args c cc nL own fl kl kL dC dI cT) {μ : am_M} (hP : va_P (dC, dI) g_cl (am_wd ad cT μ) H) (hD : va_D A (am_wd ad cT μ)) (hS : va_S A H0 H locs) {k ci fk : Nat} (hf : (k, ci, fk, true) ∈ fl ∨ (k, ci, fk, false) ∈ fl) {pc : Nat} (hd : decode cc pc = .ok (.putfield k, 3)) {larr : Array Slot} {rest : List Value} {x : Int} {v : am_V} (ho : am_isO x ci = true) {f : Nat × Int} (hfd : am_fld ci fk = some f) (hfin : ∀ q, g_cl[ci]? = some q → (q.2.1 fk).2.2.2 = false)
    (hv : (f.1 = 0 ∧ v.1 = 0) ∨ (f.1 = 1 ∧ v.1 = 1) ∨ (f.1 = 2 ∧ v.1 = 0 ∧ (v.2 = 0 ∨ v.2 = 1)) ∨ (f.1 = 3 ∧ v.1 = 2))
    (kk : ∀ (H1 : Heap) (locs1 : List Loc), va_P (dC, dI) g_cl (am_wd ad cT (m_st μ x (fk : Int) v.2)) H1 → va_D A (am_wd ad cT (m_st μ x (fk : Int) v.2)) → va_S A H0 H1 locs1 → W p l e R s m args below meth c H1 locs1 cells slots Q (F0 m (pc + 3) larr rest)) : W p l e R s m args below meth c H locs cells slots Q (F0 m pc larr (am_cv ad sb v :: am_cv ad sb (2, x) :: rest)) := by
  obtain ⟨hx, hb, hml, hown, hts, hNW, hK, hfl, -⟩ := C0
  obtain ⟨n, hn⟩ := am_isO_inv ho
  obtain ⟨i, hi, hw⟩ := am_wd_at (ad := ad) (cT := cT) (μ := μ) hn
  rw [am_cellO] at hw
  have hx0 : am_cv ad sb (2, x) = .ref (ad x) := am_ref hn
  rw [hx0]
  have hset : (am_fls ad μ x ci).set fk (am_cv ad sb v) = am_fls ad (m_st μ x (fk : Int) v.2) x ci := am_fls_set hfd (by rcases hv with q | q | q | q; exact Or.inl q; exact Or.inr (Or.inl q); exact Or.inr (Or.inr (Or.inl ⟨q.1, q.2.1⟩)); exact Or.inr (Or.inr (Or.inr q)))
  have hwd : (am_wd ad cT μ).set i (ad x, .inr (ci, (am_fls ad μ x ci).set fk (am_cv ad sb v))) = am_wd ad cT (m_st μ x (fk : Int) v.2) := by
    rw [hset, ← am_cellO ad cT (m_st μ x (fk : Int) v.2) x ci n]
    exact am_wd_set hi (fun c' h => m_st_ne h)
  have hl : fk < (am_fls ad μ x ci).length := by
    unfold am_fls
    rw [List.length_mapIdx]
    exact am_fld_lt hfd
  have typ : ∀ q : vw_C, g_cl[ci]? = some q → fk < q.2.2 → ∃ ty, parseFieldDescriptor (q.2.1 fk).2.2.1 = some ty ∧ narrow ty (am_cv ad sb v) = am_cv ad sb v ∧ fits ty (am_cv ad sb v) = true := by
    intro q hq hfk
    obtain ⟨-, ⟨ty, ht, hk⟩, -, -⟩ := g_cls _ _ hq
    obtain ⟨f2, e1, e2, e3, e4, e5⟩ := hk fk hfk
    have : f2 = f := Option.some.inj (e1.symm.trans hfd)
    subst this
    refine ⟨ty fk, ht fk hfk, ?_⟩
    obtain ⟨tv, y⟩ := v
    rcases hv with ⟨q1, q2⟩ | ⟨q1, q2⟩ | ⟨q1, q2, q3⟩ | ⟨q1, q2⟩
    · simp only at q2; subst q2; rw [e2 q1]; exact ⟨rfl, rfl⟩
    · simp only at q2; subst q2; rw [e3 q1]; exact ⟨rfl, rfl⟩
    · simp only at q2 q3; subst q2; rw [e4 q1]
      rcases q3 with q3 | q3 <;> (subst q3; exact ⟨rfl, rfl⟩)
    · simp only at q2; subst q2
      obtain ⟨C, hC⟩ := e5 q1
      rw [hC, am_cv2 rfl]
      by_cases z : y < 0
      · rw [if_pos z]; exact ⟨rfl, rfl⟩
      · rw [if_neg z]; exact ⟨rfl, rfl⟩
  rcases hf with hf | hf
  · obtain ⟨q, h1, h2, h3, h4⟩ := hfl _ hf
    obtain ⟨ty, t1, t2, t3⟩ := typ q h1 h2
    have hfin := hfin q h1
    obtain ⟨-, ⟨ty0, hty, -⟩, hnm, -⟩ := g_cls _ _ h1
    have hin := (g_cls _ _ h1).1
    obtain ⟨C, T, N⟩ := q
    have h4 : Cond.fieldLinkNest own k C (T fk).2.1 (T fk).2.2.1 "BurningSlips" ∈ am_nest := h4
    refine va_putN hx hb hts hin ty0 hty hnm hown hK hP hD hS i hw h1 fk h2 (va_Nw.use rfl (hNW _ h4)) (fun y hy => by rw [← hy, show (T fk).1 = C from h3]) hfin t1 t2 t3 hl hd ?_
    rw [hwd]
    exact kk
  · obtain ⟨q, h1, h2, h3, h4⟩ := hfl _ hf
    obtain ⟨ty, t1, t2, t3⟩ := typ q h1 h2
    have hfin := hfin q h1
    obtain ⟨-, ⟨ty0, hty, -⟩, hnm, -⟩ := g_cls _ _ h1
    have hin := (g_cls _ _ h1).1
    obtain ⟨C, T, N⟩ := q
    have h4 : Cond.fieldLink own k C (T fk).2.1 (T fk).2.2.1 ∈ am_tG := h4
    refine va_put hx hb hts hin ty0 hty hnm hown hK hP hD hS i hw h1 fk h2 (hts _ h4) (fun y hy => by rw [← hy, show (T fk).1 = C from h3]) hfin t1 t2 t3 hl hd ?_
    rw [hwd]
    exact kk
end AMU
