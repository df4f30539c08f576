/-! ifx asks only after slips that are named. -/
theorem opd_c {env env' Wn : Int → Int} {c : Int} (h : 1 ≤ c → c ≤ 10 → env' (c - 1) = env (c - 1)) (h1 : 1 ≤ c) : opd env' Wn c = opd env Wn c := by
  unfold opd
  by_cases q : c ≤ 10
  · rw [if_pos q, if_pos q, h h1 q]
  · rw [if_neg q, if_neg q]
theorem fStep_c {env env' Wn : Int → Int} {F : List fR} {c : Int} (h1 : 1 ≤ c) (h : 1 ≤ c → c ≤ 10 → env' (c - 1) = env (c - 1)) : fStep env' Wn F c = fStep env Wn F c := by
  unfold fStep
  rw [opd_c h h1]
theorem fold_c {env env' Wn : Int → Int} : ∀ (L : List Int) (F : List fR), (∀ c ∈ L, 1 ≤ c) → (∀ c ∈ L, 1 ≤ c → c ≤ 10 → env' (c - 1) = env (c - 1)) → L.foldl (fStep env' Wn) F = L.foldl (fStep env Wn) F
  | [], _, _, _ => rfl
  | c :: L, F, h1, h => by
    show L.foldl (fStep env' Wn) (fStep env' Wn F c) = L.foldl (fStep env Wn) (fStep env Wn F c)
    rw [fStep_c (h1 c List.mem_cons_self) (h c List.mem_cons_self)]
    exact fold_c L _ (fun x hx => h1 x (List.mem_cons_of_mem _ hx)) (fun x hx => h x (List.mem_cons_of_mem _ hx))
theorem ifx_c {env env' Wn : Int → Int} {L : List Int} (h1 : ∀ c ∈ L, 1 ≤ c) (h : ∀ c ∈ L, 1 ≤ c → c ≤ 10 → env' (c - 1) = env (c - 1)) : ifx env' Wn L = ifx env Wn L := by
  unfold ifx fRun
  rw [fold_c L _ h1 h]
