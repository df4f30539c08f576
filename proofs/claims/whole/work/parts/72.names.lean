/-! Which slips a line reads, in their order. -/
def nm : List Int → List Int
  | [] => []
  | c :: r => if c % 128 = 2 then c / 128 :: nm r else nm r
def nmL : List Int → List Int
  | [] => []
  | c :: r => if 1 ≤ c ∧ c ≤ 10 then (c - 1) :: nmL r else nmL r
theorem nm_app : ∀ a b : List Int, nm (a ++ b) = nm a ++ nm b
  | [], _ => rfl
  | c :: a, b => by
    have e1 : nm (c :: a ++ b) = if c % 128 = 2 then c / 128 :: nm (a ++ b) else nm (a ++ b) := rfl
    have e2 : nm (c :: a) = if c % 128 = 2 then c / 128 :: nm a else nm a := rfl
    rw [e1, e2, nm_app a b]
    split
    · rw [List.cons_append]
    · rfl
theorem nm_rev : ∀ a : List Int, nm a.reverse = (nm a).reverse
  | [] => rfl
  | c :: a => by
    rw [List.reverse_cons, nm_app, nm_rev a]
    have e : nm [c] = if c % 128 = 2 then [c / 128] else [] := rfl
    have e2 : nm (c :: a) = if c % 128 = 2 then c / 128 :: nm a else nm a := rfl
    rw [e, e2]
    split
    · rw [List.reverse_cons]
    · rw [List.append_nil]
theorem popR_nm (r : Int) : ∀ wt ro : List Int, (∀ w ∈ wt, w % 128 ≠ 2) → nm (popR r wt ro).2 = nm ro ∧ ∀ w ∈ (popR r wt ro).1, w % 128 ≠ 2
  | [], ro, h => ⟨rfl, h⟩
  | w :: wt, ro, h => by
    by_cases q : r ≤ rk w
    · rw [popR_t q]
      obtain ⟨h1, h2⟩ := popR_nm r wt (w :: ro) (fun x hx => h x (List.mem_cons_of_mem _ hx))
      refine ⟨?_, h2⟩
      rw [h1]
      have e2 : nm (w :: ro) = if w % 128 = 2 then w / 128 :: nm ro else nm ro := rfl
      rw [e2, if_neg (h w List.mem_cons_self)]
    · rw [popR_f q]; exact ⟨rfl, h⟩
theorem popN_nm : ∀ wt ro : List Int, (∀ w ∈ wt, w % 128 ≠ 2) → nm (popN wt ro).2 = nm ro ∧ ∀ w ∈ (popN wt ro).1, w % 128 ≠ 2
  | [], ro, h => ⟨rfl, h⟩
  | w :: wt, ro, h => by
    by_cases q : w = 114
    · subst q
      rw [popN_go]
      exact popN_nm wt (114 :: ro) (fun x hx => h x (List.mem_cons_of_mem _ hx))
    · rw [popN_stay q]; exact ⟨rfl, h⟩
theorem shst_nm {Wn : Int → Int} {S W c : Int} (hS : S ≤ 10) (hW : W ≤ 4) (hc : vC S W c) (q : List Int × List Int) (h : ∀ w ∈ q.1, w % 128 ≠ 2) : nm (shst Wn q c).2 = (if 1 ≤ c ∧ c ≤ 10 then (c - 1) :: nm q.2 else nm q.2) ∧ ∀ w ∈ (shst Wn q c).1, w % 128 ≠ 2 := by
  unfold vC at hc
  unfold shst
  have push : ∀ (x : Int), x % 128 ≠ 2 → ∀ l : List Int, (∀ w ∈ l, w % 128 ≠ 2) → ∀ w ∈ x :: l, w % 128 ≠ 2 := fun x hx l hl w hw => by
    rcases List.mem_cons.mp hw with z | z
    · rw [z]; exact hx
    · exact hl w z
  by_cases c28 : c = 28
  · rw [if_pos c28, if_neg (show ¬ (1 ≤ c ∧ c ≤ 10) by omega)]
    exact ⟨rfl, push 40 (by decide) _ h⟩
  rw [if_neg c28]
  by_cases c30 : c = 30
  · rw [if_pos c30, if_neg (show ¬ (1 ≤ c ∧ c ≤ 10) by omega)]
    exact ⟨rfl, push 114 (by decide) _ h⟩
  rw [if_neg c30]
  by_cases cop : isOp c = true
  · rw [if_pos cop]
    have := of_decide_eq_true cop
    rw [if_neg (show ¬ (1 ≤ c ∧ c ≤ 10) by omega)]
    obtain ⟨h1, h2⟩ := popR_nm (if rk (xOp c) = 2 then 3 else rk (xOp c)) q.1 q.2 h
    refine ⟨h1, push (xOp c) ?_ _ h2⟩
    have hx := (xOp_w cop).1
    unfold isWt at hx
    omega
  rw [if_neg cop]
  have hno : ¬ (20 ≤ c ∧ c ≤ 27) := fun z => cop (decide_eq_true z)
  by_cases c29 : c = 29
  · rw [if_pos c29, if_neg (show ¬ (1 ≤ c ∧ c ≤ 10) by omega)]
    obtain ⟨h1, h2⟩ := popR_nm 1 q.1 q.2 h
    obtain ⟨h3, h4⟩ := popN_nm (popR 1 q.1 q.2).1.tail (popR 1 q.1 q.2).2 (fun w hw => h2 w (List.mem_of_mem_tail hw))
    exact ⟨by rw [h3, h1], h4⟩
  rw [if_neg c29]
  obtain ⟨h3, h4⟩ := popN_nm q.1 (xCode Wn c :: q.2) h
  refine ⟨?_, h4⟩
  rw [h3]
  have e2 : nm (xCode Wn c :: q.2) = if xCode Wn c % 128 = 2 then xCode Wn c / 128 :: nm q.2 else nm q.2 := rfl
  rw [e2]
  unfold xCode
  by_cases c10 : c ≤ 10
  · rw [if_pos c10, if_pos (by omega), if_pos (by omega)]
    congr 1
    omega
  · rw [if_neg c10, if_neg (show ¬ (1 ≤ c ∧ c ≤ 10) by omega)]
    split
    · rw [if_neg (by omega)]
    · rw [if_neg (by omega)]
theorem shunt_nm {Wn : Int → Int} {S W : Int} (hS : S ≤ 10) (hW : W ≤ 4) : ∀ (L : List Int) (q : List Int × List Int), (∀ c ∈ L, vC S W c) → (∀ w ∈ q.1, w % 128 ≠ 2) → nm (L.foldl (shst Wn) q).2 = (nmL L).reverse ++ nm q.2 ∧ ∀ w ∈ (L.foldl (shst Wn) q).1, w % 128 ≠ 2
  | [], q, _, h => ⟨rfl, h⟩
  | c :: L, q, hc, h => by
    obtain ⟨h1, h2⟩ := shst_nm (Wn := Wn) hS hW (hc c List.mem_cons_self) q h
    obtain ⟨h3, h4⟩ := shunt_nm (Wn := Wn) hS hW L (shst Wn q c) (fun x hx => hc x (List.mem_cons_of_mem _ hx)) h2
    refine ⟨?_, h4⟩
    rw [List.foldl_cons, h3, h1]
    have e2 : nmL (c :: L) = if 1 ≤ c ∧ c ≤ 10 then (c - 1) :: nmL L else nmL L := rfl
    rw [e2]
    split
    · rw [List.reverse_cons, List.append_assoc]; rfl
    · rfl
theorem conv_nm {Wn : Int → Int} {S W : Int} (hS : S ≤ 10) (hW : W ≤ 4) {L : List Int} (hc : ∀ c ∈ L, vC S W c) : nm (convR Wn L).reverse = nmL L := by
  obtain ⟨h1, h2⟩ := shunt_nm (Wn := Wn) hS hW L ([], []) hc (fun w hw => by cases hw)
  rw [nm_rev]
  unfold convR shunt
  rw [(popR_nm 1 _ _ h2).1, h1]
  have e : nm (([], []) : List Int × List Int).2 = [] := rfl
  rw [e, List.append_nil, List.reverse_reverse]
/-- codes are small numbers -/
def cOk (c : Int) : Prop := 0 ≤ c ∧ c < 2000000
theorem popR_ok (r : Int) : ∀ wt ro : List Int, (∀ w ∈ wt, cOk w) → (∀ w ∈ ro, cOk w) → (∀ w ∈ (popR r wt ro).1, cOk w) ∧ (∀ w ∈ (popR r wt ro).2, cOk w)
  | [], ro, h, h2 => ⟨h, h2⟩
  | w :: wt, ro, h, h2 => by
    by_cases q : r ≤ rk w
    · rw [popR_t q]
      refine popR_ok r wt (w :: ro) (fun x hx => h x (List.mem_cons_of_mem _ hx)) (fun x hx => ?_)
      rcases List.mem_cons.mp hx with z | z
      · rw [z]; exact h w List.mem_cons_self
      · exact h2 x z
    · rw [popR_f q]; exact ⟨h, h2⟩
theorem popN_ok : ∀ wt ro : List Int, (∀ w ∈ wt, cOk w) → (∀ w ∈ ro, cOk w) → (∀ w ∈ (popN wt ro).1, cOk w) ∧ (∀ w ∈ (popN wt ro).2, cOk w)
  | [], ro, h, h2 => ⟨h, h2⟩
  | w :: wt, ro, h, h2 => by
    by_cases q : w = 114
    · subst q
      rw [popN_go]
      refine popN_ok wt (114 :: ro) (fun x hx => h x (List.mem_cons_of_mem _ hx)) (fun x hx => ?_)
      rcases List.mem_cons.mp hx with z | z
      · rw [z]; unfold cOk; omega
      · exact h2 x z
    · rw [popN_stay q]; exact ⟨h, h2⟩
theorem shst_ok {Wn : Int → Int} {S W c : Int} (hS : S ≤ 10) (hW : W ≤ 4) (hWv : ∀ w, 0 ≤ w → w < W → 0 ≤ Wn w ∧ Wn w ≤ 9999) (hc : vC S W c) (q : List Int × List Int) (h : ∀ w ∈ q.1, cOk w) (h2 : ∀ w ∈ q.2, cOk w) : (∀ w ∈ (shst Wn q c).1, cOk w) ∧ ∀ w ∈ (shst Wn q c).2, cOk w := by
  unfold vC at hc
  unfold shst
  have push : ∀ (x : Int), cOk x → ∀ l : List Int, (∀ w ∈ l, cOk w) → ∀ w ∈ x :: l, cOk w := fun x hx l hl w hw => by
    rcases List.mem_cons.mp hw with z | z
    · rw [z]; exact hx
    · exact hl w z
  by_cases c28 : c = 28
  · rw [if_pos c28]
    exact ⟨push 40 (by unfold cOk; omega) _ h, h2⟩
  rw [if_neg c28]
  by_cases c30 : c = 30
  · rw [if_pos c30]
    exact ⟨push 114 (by unfold cOk; omega) _ h, h2⟩
  rw [if_neg c30]
  by_cases cop : isOp c = true
  · rw [if_pos cop]
    obtain ⟨h3, h4⟩ := popR_ok (if rk (xOp c) = 2 then 3 else rk (xOp c)) q.1 q.2 h h2
    refine ⟨push (xOp c) ?_ _ h3, h4⟩
    have hx := (xOp_w cop).1
    unfold isWt at hx
    unfold cOk
    omega
  rw [if_neg cop]
  have hno : ¬ (20 ≤ c ∧ c ≤ 27) := fun z => cop (decide_eq_true z)
  by_cases c29 : c = 29
  · rw [if_pos c29]
    obtain ⟨h3, h4⟩ := popR_ok 1 q.1 q.2 h h2
    exact popN_ok _ _ (fun w hw => h3 w (List.mem_of_mem_tail hw)) h4
  rw [if_neg c29]
  refine popN_ok _ _ h (push _ ?_ _ h2)
  unfold xCode cOk
  by_cases c10 : c ≤ 10
  · rw [if_pos c10]; omega
  · rw [if_neg c10]
    by_cases c20 : c < 20
    · rw [if_pos c20]
      have := hWv (c - 11) (by omega) (by omega)
      omega
    · rw [if_neg c20]; omega
theorem conv_ok {Wn : Int → Int} {S W : Int} (hS : S ≤ 10) (hW : W ≤ 4) (hWv : ∀ w, 0 ≤ w → w < W → 0 ≤ Wn w ∧ Wn w ≤ 9999) {L : List Int} (hc : ∀ c ∈ L, vC S W c) : ∀ w ∈ convR Wn L, cOk w := by
  have go : ∀ (L : List Int) (q : List Int × List Int), (∀ c ∈ L, vC S W c) → (∀ w ∈ q.1, cOk w) → (∀ w ∈ q.2, cOk w) → (∀ w ∈ (L.foldl (shst Wn) q).1, cOk w) ∧ ∀ w ∈ (L.foldl (shst Wn) q).2, cOk w := by
    intro L
    induction L with
    | nil => exact fun q _ h h2 => ⟨h, h2⟩
    | cons c L ih =>
      intro q hc h h2
      obtain ⟨h3, h4⟩ := shst_ok hS hW hWv (hc c List.mem_cons_self) q h h2
      exact ih (shst Wn q c) (fun x hx => hc x (List.mem_cons_of_mem _ hx)) h3 h4
  obtain ⟨h3, h4⟩ := go L ([], []) hc (fun w hw => by cases hw) (fun w hw => by cases hw)
  exact (popR_ok 1 _ _ h3 h4).2
theorem rsg_fsg {g : Int → Int} {p : Int} : ∀ l : List Int, rsg g p l → fsg g p l.reverse
  | [], _ => trivial
  | c :: r, h => by
    rw [List.reverse_cons]
    exact fsg_app c r.reverse p (rsg_fsg r h.2) (by rw [List.length_reverse]; exact h.1)
theorem nmL_in : ∀ (L : List Int) (s : Int), s ∈ nmL L ↔ (1 + s ∈ L ∧ 0 ≤ s ∧ s ≤ 9)
  | [], s => ⟨fun h => (by cases h), fun h => (by cases h.1)⟩
  | c :: L, s => by
    have e2 : nmL (c :: L) = if 1 ≤ c ∧ c ≤ 10 then (c - 1) :: nmL L else nmL L := rfl
    rw [e2, List.mem_cons]
    split
    · rw [List.mem_cons, nmL_in L s]
      constructor
      · rintro (z | z)
        · exact ⟨Or.inl (by omega), by omega, by omega⟩
        · exact ⟨Or.inr z.1, z.2⟩
      · rintro ⟨z | z, y⟩
        · left; omega
        · exact Or.inr ⟨z, y⟩
    · rw [nmL_in L s]
      constructor
      · exact fun z => ⟨Or.inr z.1, z.2⟩
      · rintro ⟨z | z, y⟩
        · omega
        · exact ⟨z, y⟩
/-- a line's readings, as both sides keep them -/
def RL (b l : Int) (r : List Int) (μ ν : am_M) : Prop := (∃ C, fsg (μ (b + 11)) (μ (b + 9) l) C ∧ μ (b + 10) l = μ (b + 9) l + C.length ∧ nm C = r ∧ (∀ c ∈ C, cOk c) ∧ 0 ≤ μ (b + 9) l ∧ μ (b + 10) l ≤ 1000) ∧ ((hE (ν 1002 l) ∧ (∃ L, fsg (ν 1012) (ν 1010 l) L ∧ ν 1011 l = ν 1010 l + L.length ∧ nmL L = r ∧ 0 ≤ ν 1010 l ∧ ν 1011 l ≤ 1000 ∧ ∀ c ∈ L, 1 ≤ c ∧ c ≤ 10099) ∧ ∀ i, 0 ≤ i → i < 4 → ν 1007 (4 * l + i) = -1) ∨ (¬ hE (ν 1002 l) ∧ 0 ≤ ν 1010 l ∧ ν 1010 l ≤ ν 1011 l ∧ ν 1011 l ≤ 1000 ∧ r.length ≤ 4 ∧ (∀ i : Nat, i < r.length → r[i]? = some (ν 1007 (4 * l + i))) ∧ ∀ i, (r.length : Int) ≤ i → i < 4 → ν 1007 (4 * l + i) = -1)) ∧ (∀ s ∈ r, 0 ≤ s ∧ s < 10)
theorem RL.cl {b l : Int} {r : List Int} {μ ν : am_M} (h : RL b l r μ ν) : ∃ C, fsg (μ (b + 11)) (μ (b + 9) l) C ∧ μ (b + 10) l = μ (b + 9) l + C.length ∧ nm C = r ∧ (∀ c ∈ C, cOk c) ∧ 0 ≤ μ (b + 9) l ∧ μ (b + 10) l ≤ 1000 := h.1
theorem RL.re {b l : Int} {r : List Int} {μ ν : am_M} (h : RL b l r μ ν) : (hE (ν 1002 l) ∧ (∃ L, fsg (ν 1012) (ν 1010 l) L ∧ ν 1011 l = ν 1010 l + L.length ∧ nmL L = r ∧ 0 ≤ ν 1010 l ∧ ν 1011 l ≤ 1000 ∧ ∀ c ∈ L, 1 ≤ c ∧ c ≤ 10099) ∧ ∀ i, 0 ≤ i → i < 4 → ν 1007 (4 * l + i) = -1) ∨ (¬ hE (ν 1002 l) ∧ 0 ≤ ν 1010 l ∧ ν 1010 l ≤ ν 1011 l ∧ ν 1011 l ≤ 1000 ∧ r.length ≤ 4 ∧ (∀ i : Nat, i < r.length → r[i]? = some (ν 1007 (4 * l + i))) ∧ ∀ i, (r.length : Int) ≤ i → i < 4 → ν 1007 (4 * l + i) = -1) := h.2.1
theorem RL.sl {b l : Int} {r : List Int} {μ ν : am_M} (h : RL b l r μ ν) : ∀ s ∈ r, 0 ≤ s ∧ s < 10 := h.2.2
theorem RL.mk {b l : Int} {r : List Int} {μ ν : am_M} (cl : ∃ C, fsg (μ (b + 11)) (μ (b + 9) l) C ∧ μ (b + 10) l = μ (b + 9) l + C.length ∧ nm C = r ∧ (∀ c ∈ C, cOk c) ∧ 0 ≤ μ (b + 9) l ∧ μ (b + 10) l ≤ 1000) (re : (hE (ν 1002 l) ∧ (∃ L, fsg (ν 1012) (ν 1010 l) L ∧ ν 1011 l = ν 1010 l + L.length ∧ nmL L = r ∧ 0 ≤ ν 1010 l ∧ ν 1011 l ≤ 1000 ∧ ∀ c ∈ L, 1 ≤ c ∧ c ≤ 10099) ∧ ∀ i, 0 ≤ i → i < 4 → ν 1007 (4 * l + i) = -1) ∨ (¬ hE (ν 1002 l) ∧ 0 ≤ ν 1010 l ∧ ν 1010 l ≤ ν 1011 l ∧ ν 1011 l ≤ 1000 ∧ r.length ≤ 4 ∧ (∀ i : Nat, i < r.length → r[i]? = some (ν 1007 (4 * l + i))) ∧ ∀ i, (r.length : Int) ≤ i → i < 4 → ν 1007 (4 * l + i) = -1)) (sl : ∀ s ∈ r, 0 ≤ s ∧ s < 10) : RL b l r μ ν := ⟨cl, re, sl⟩
def tkn (g : Int → Int) (p : Int) : Nat → List Int
  | 0 => []
  | n + 1 => g p :: tkn g (p + 1) n
theorem tkn_len (g : Int → Int) : ∀ (n : Nat) (p : Int), (tkn g p n).length = n
  | 0, _ => rfl
  | n + 1, p => by unfold tkn; rw [List.length_cons, tkn_len g n]
theorem tkn_get (g : Int → Int) : ∀ (n : Nat) (p : Int) (i : Nat), i < n → (tkn g p n)[i]? = some (g (p + i))
  | 0, _, _, h => by omega
  | n + 1, p, 0, _ => by
    unfold tkn
    rw [List.getElem?_cons_zero]
    congr 2
    omega
  | n + 1, p, i + 1, h => by
    unfold tkn
    rw [List.getElem?_cons_succ, tkn_get g n (p + 1) i (by omega)]
    congr 2
    omega
theorem tkn_fsg (g : Int → Int) : ∀ (n : Nat) (p : Int), fsg g p (tkn g p n)
  | 0, _ => trivial
  | n + 1, p => ⟨rfl, tkn_fsg g n (p + 1)⟩
theorem tkn_in (g : Int → Int) {s : Int} : ∀ (n : Nat) (p : Int), s ∈ tkn g p n → ∃ i, p ≤ i ∧ i < p + n ∧ g i = s
  | 0, _, h => by cases h
  | n + 1, p, h => by
    unfold tkn at h
    rcases List.mem_cons.mp h with z | z
    · exact ⟨p, Int.le_refl _, by omega, z.symm⟩
    · obtain ⟨i, a, b, c⟩ := tkn_in g n (p + 1) z
      exact ⟨i, by omega, by omega, c⟩
theorem tkn_nm {g h : Int → Int} : ∀ (n : Nat) (p q : Int), (∀ i : Int, 0 ≤ i → i < n → g (p + i) = 2 + h (q + i) * 128) → nm (tkn g p n) = tkn h q n
  | 0, _, _, _ => rfl
  | n + 1, p, q, e => by
    have e0 := e 0 (by decide) (by omega)
    have ep : p + 0 = p := by omega
    have eq : q + 0 = q := by omega
    rw [ep, eq] at e0
    have ih := tkn_nm (g := g) (h := h) n (p + 1) (q + 1) (fun i a b => by
      have := e (i + 1) (by omega) (by omega)
      have e1 : p + (i + 1) = p + 1 + i := by omega
      have e2 : q + (i + 1) = q + 1 + i := by omega
      rw [e1, e2] at this
      exact this)
    have e2 : nm (tkn g p (n + 1)) = if g p % 128 = 2 then g p / 128 :: nm (tkn g (p + 1) n) else nm (tkn g (p + 1) n) := rfl
    have e3 : tkn h q (n + 1) = h q :: tkn h (q + 1) n := rfl
    rw [e2, e3, if_pos (by omega), ih]
    congr 1
    omega
theorem RL_of {b W S t l : Int} {Wn : Int → Int} {μ ν : am_M} (h : LR b 0 0 W S t l Wn μ ν) (hS : S ≤ 10) (hW : W ≤ 4) (hWv : ∀ w, 0 ≤ w → w < W → 0 ≤ Wn w ∧ Wn w ≤ 9999) : ∃ r, RL b l r μ ν := by
  have e0 : (0 : Int) + l = l := by omega
  have hfr := h.fr
  have hst := h.st
  have hee := h.ee
  have hne := h.ne
  have hso := h.so
  rw [e0] at hfr hee hne hso
  by_cases c : hE (ν 1002 l)
  · obtain ⟨y0, L, y1, y2, y3, y4, y5, y6, y7, y8⟩ := hee c
    refine ⟨nmL L, (RL.mk (cl := ⟨(convR Wn L).reverse, rsg_fsg _ y7, by rw [List.length_reverse]; exact y8, conv_nm hS hW y6, fun w hw => conv_ok hS hW hWv y6 w (List.mem_reverse.mp hw), hst.1, hst.2.2⟩) (re := Or.inl ⟨c, ⟨L, y1, y2, rfl, by omega, by omega, fun x hx => ?_⟩, y0⟩) (sl := fun s hs => ?_))⟩
    · have := y6 x hx
      unfold vC at this
      omega
    · have := (nmL_in L s).mp hs
      omega
  · obtain ⟨y1, y2, y3⟩ := hne c
    have ht := h.t0
    have hn : 0 ≤ nS (ν 1002 l) t ∧ nS (ν 1002 l) t ≤ 4 := by
      unfold nS
      split
      · omega
      · split <;> omega
    generalize nS (ν 1002 l) t = n at *
    have e : tkn (μ (b + 11)) (μ (b + 9) l) n.toNat = tkn (μ (b + 11)) (μ (b + 9) l) n.toNat := rfl
    have hlen := tkn_len (ν 1007) n.toNat (4 * l)
    refine ⟨tkn (ν 1007) (4 * l) n.toNat, (RL.mk (cl := ⟨tkn (μ (b + 11)) (μ (b + 9) l) n.toNat, tkn_fsg _ _ _, by rw [tkn_len]; omega, tkn_nm n.toNat _ _ (fun i p q => (y2 i p (by omega)).2), fun x hx => ?_, hst.1, hst.2.2⟩) (re := Or.inr ⟨c, by omega, by omega, by omega, by rw [hlen]; omega, fun i hi => tkn_get _ _ _ i (by rw [hlen] at hi; exact hi), fun i p q => y3 i (by rw [hlen] at p; omega) q⟩) (sl := fun s hs => ?_))⟩
    · obtain ⟨i, p, q, z⟩ := tkn_in _ _ _ hx
      have := y2 (i - μ (b + 9) l) (by omega) (by omega)
      have e1 : μ (b + 9) l + (i - μ (b + 9) l) = i := by omega
      rw [e1, z] at this
      have s1 := hso (i - μ (b + 9) l) (by omega) (by omega)
      unfold cOk
      omega
    · obtain ⟨i, p, q, z⟩ := tkn_in _ _ _ hs
      have := y2 (i - 4 * l) (by omega) (by omega)
      have s1 := hso (i - 4 * l) (by omega) (by omega)
      have e1 : 4 * l + (i - 4 * l) = i := by omega
      rw [e1, z] at this s1
      omega
