/-! What the abstract memory stands for in the heap. -/
def am_tG : List Cond := lw_tbl.filter goodWord
def am_isN : Cond → Bool
  | .fieldLinkNest .. => true
  | .methodLinkNest .. => true
  | _ => false
def am_nest : List Cond := lw_tbl.filter am_isN
def am_cv (ad : Int → Nat) (sb : Nat) (v : am_V) : Value := match v.1 with
  | 0 => .int (Int32.ofInt v.2)
  | 1 => .long (Int64.ofInt v.2)
  | 2 => if v.2 < 0 then .null else .ref (ad v.2)
  | _ => .ref sb
def am_cvq (ad : Int → Nat) (sb : Nat) (q : Nat × am_V) : Nat × Value := (q.1, am_cv ad sb q.2)
def am_fls (ad : Int → Nat) (μ : am_M) (c : Int) (ci : Nat) : List Value := ((g_ft[ci]?).getD []).mapIdx (fun k f => am_cv ad 0 (am_fv μ c k f))
def am_cell (ad : Int → Nat) (cT : Nat → ClassId) (μ : am_M) (c : Int) (k : Nat × Nat) : va_E := match k.1 with
  | 0 => .inl (cT 0, (k.2, .inl (fun j => Int32.ofInt (μ c j))))
  | 1 => .inl (cT 1, (k.2, .inr (.inl (fun j => Int64.ofInt (μ c j)))))
  | 2 => .inl (cT 2, (k.2, .inl (fun j => Int32.ofInt (μ c j))))
  | 3 => .inl (cT 3, (k.2, .inr (.inr (.inr (.inr (fun j => if μ c j < 0 then none else some (ad (μ c j))))))))
  | n => .inr (n - 10, am_fls ad μ c (n - 10))
def am_wd (ad : Int → Nat) (cT : Nat → ClassId) (μ : am_M) : va_W := g_lay.map (fun q => (ad q.1, am_cell ad cT μ q.1 q.2))
def am_tys (cT : Nat → ClassId) : List (ClassId × FieldType) := [(cT 0, .int), (cT 1, .long), (cT 2, .int), (cT 3, .object "BurningSlips$Machine")]
def am_in (v : am_V) : Prop := (v.1 = 0 → r32 v.2) ∧ (v.1 = 1 → r64 v.2)
/-- numbers in memory are in their ranges -/
def am_G (μ : am_M) : Prop := ∀ c k, am_shp c = some k →
  (k.1 = 0 → ∀ i : Int, 0 ≤ i → i < k.2 → r32 (μ c i)) ∧ (k.1 = 1 → ∀ i : Int, 0 ≤ i → i < k.2 → r64 (μ c i)) ∧ (k.1 = 2 → ∀ i : Int, 0 ≤ i → i < k.2 → (μ c i = 0 ∨ μ c i = 1)) ∧
  (∀ ci, k.1 = 10 + ci → ∀ (j : Nat) (f : Nat × Int), am_fld ci j = some f → (f.1 = 0 → r32 (μ c j)) ∧ (f.1 = 1 → r64 (μ c j)) ∧ (f.1 = 2 → (μ c j = 0 ∨ μ c j = 1)))
theorem am_find_at : ∀ (l : List (Int × Nat × Nat)) (c : Int) (k : Nat × Nat), am_find l c = some k → ∃ i : Nat, l[i]? = some (c, k)
  | [], _, _, h => by cases h
  | (a, q) :: r, c, k, h => by
    unfold am_find at h
    by_cases e : a = c
    · rw [if_pos e] at h
      cases h
      exact ⟨0, by rw [e]; rfl⟩
    · rw [if_neg e] at h
      obtain ⟨i, hi⟩ := am_find_at r c k h
      exact ⟨i + 1, hi⟩
theorem g_ids : (g_lay.map (fun q => q.1)).Nodup := by decide +kernel
theorem am_lay_inj {i j : Nat} {c : Int} {k k' : Nat × Nat} (h1 : g_lay[i]? = some (c, k)) (h2 : g_lay[j]? = some (c, k')) : i = j := by
  have e1 : (g_lay.map (fun q => q.1))[i]? = some c := by rw [List.getElem?_map, h1]; rfl
  have e2 : (g_lay.map (fun q => q.1))[j]? = some c := by rw [List.getElem?_map, h2]; rfl
  have hi : i < (g_lay.map (fun q => q.1)).length := (List.getElem?_eq_some_iff.mp e1).1
  exact (List.getElem?_inj hi g_ids).mp (e1.trans e2.symm)
theorem am_wd_at {ad : Int → Nat} {cT : Nat → ClassId} {μ : am_M} {c : Int} {k : Nat × Nat} (h : am_shp c = some k) : ∃ i : Nat, g_lay[i]? = some (c, k) ∧ (am_wd ad cT μ)[i]? = some (ad c, am_cell ad cT μ c k) := by
  obtain ⟨i, hi⟩ := am_find_at g_lay c k h
  exact ⟨i, hi, by unfold am_wd; rw [List.getElem?_map, hi]; rfl⟩
theorem am_wd_set {ad : Int → Nat} {cT : Nat → ClassId} {μ μ' : am_M} {c : Int} {k : Nat × Nat} {i : Nat} (h : g_lay[i]? = some (c, k)) (ho : ∀ c', c' ≠ c → μ' c' = μ c') : (am_wd ad cT μ).set i (ad c, am_cell ad cT μ' c k) = am_wd ad cT μ' := by
  apply List.ext_getElem?
  intro j
  have hl : i < (am_wd ad cT μ).length := by
    unfold am_wd
    rw [List.length_map]
    exact (List.getElem?_eq_some_iff.mp h).1
  by_cases e : j = i
  · subst e
    rw [List.getElem?_set_self hl]
    unfold am_wd
    rw [List.getElem?_map, h]
    rfl
  · rw [List.getElem?_set_ne (Ne.symm e)]
    unfold am_wd
    rw [List.getElem?_map, List.getElem?_map]
    cases hj : g_lay[j]? with
    | none => rfl
    | some q =>
      obtain ⟨c', k'⟩ := q
      have hc : c' ≠ c := fun z => e (am_lay_inj (by rw [hj, z]) h)
      have hm := ho c' hc
      show some (ad c', am_cell ad cT μ c' k') = some (ad c', am_cell ad cT μ' c' k')
      unfold am_cell am_fls am_fv
      rw [hm]
theorem m_st_ne {μ : am_M} {c i v c' : Int} (h : c' ≠ c) : m_st μ c i v c' = μ c' := by
  funext j
  unfold m_st
  rw [if_neg (fun z => h z.1)]
theorem m_st_eq {μ : am_M} {c i v : Int} : m_st μ c i v c i = v := by unfold m_st; rw [if_pos ⟨rfl, rfl⟩]
theorem m_st_ni {μ : am_M} {c i v c' i' : Int} (h : i' ≠ i) : m_st μ c i v c' i' = μ c' i' := by unfold m_st; rw [if_neg (fun z => h z.2)]
