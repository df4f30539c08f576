/-! The cases of the law's switch, over the abstract memory. Printed by program (wip/whole/lawcases.py). -/
/-- the script at a place ahead -/
def am_XS (L : Nat) (xs : Nat → Int32) (i j a : Int) : Prop := 0 ≤ w32 (i + j) ∧ w32 (i + j) < (L : Int) ∧ a = (xs (w32 (i + j)).toNat).toInt
theorem am_XS.r {L : Nat} {xs : Nat → Int32} {i j a : Int} (h : am_XS L xs i j a) : r32 a := by rw [h.2.2]; exact r32_i _
theorem lCmp_z (x : Int) : lCmp x x = 0 := by
  unfold lCmp
  rw [if_neg (by omega), if_pos rfl]
/-- two ints to one long -/
def am_LL (a b : Int) : Int := lOr (lShl a 32) (lAnd b 4294967295)
set_option maxRecDepth 20000 in
theorem lc_0_0_1 {P : am_P} {L : Nat} {xs : Nat → Int32} (hP : am_rul (some (L, xs)) (am_ar g_mt 80) 7 (some .int) k_law_0 (none, fun _ _ => 0) P) {i a1 a2 a3 a4 a5 a6 : Int} (h1 : am_XS L xs i 1 a1) (h2 : am_XS L xs i 2 a2) (h3 : am_XS L xs i 3 a3) (h4 : am_XS L xs i 4 a4) (h5 : am_XS L xs i 5 a5) (h6 : am_XS L xs i 6 a6) {r : am_S} {μ : am_M} (K : P 175 [(0, (3, 0)), (1, (2, 0)), (2, (2, 1000)), (3, (2, 2000)), (4, (0, i))] ((1, am_LL a1 a2) :: r) μ) : P 153 [(0, (3, 0)), (1, (2, 0)), (2, (2, 1000)), (3, (2, 2000)), (4, (0, i))] r μ := by
  refine ru_sls hP 4 (pc' := 158) (ls' := [(0, (3, 0)), (1, (2, 0)), (2, (2, 1000)), (3, (2, 2000)), (4, (0, i))]) (st' := ((0, w32 (i + 1)) :: (3, 0) :: r)) rfl ?_
  refine ru_xald hP (v := a1) rfl rfl rfl h1 ?_
  refine ru_sls hP 7 (pc' := 168) (ls' := [(0, (3, 0)), (1, (2, 0)), (2, (2, 1000)), (3, (2, 2000)), (4, (0, i))]) (st' := ((0, w32 (i + 2)) :: (3, 0) :: (1, lShl a1 32) :: r)) rfl ?_
  refine ru_xald hP (v := a2) rfl rfl rfl h2 ?_
  refine ru_sls hP 2 (pc' := 173) (ls' := [(0, (3, 0)), (1, (2, 0)), (2, (2, 1000)), (3, (2, 2000)), (4, (0, i))]) (st' := (1, 4294967295) :: (1, a2) :: (1, lShl a1 32) :: r) rfl ?_
  have K2 : ∀ k sh : Int, k = 4294967295 → sh = lShl a1 32 → P 173 [(0, (3, 0)), (1, (2, 0)), (2, (2, 1000)), (3, (2, 2000)), (4, (0, i))] ((1, k) :: (1, a2) :: (1, sh) :: r) μ := by
    intro k sh hk hs
    refine ru_sls hP 1 (pc' := 174) (ls' := [(0, (3, 0)), (1, (2, 0)), (2, (2, 1000)), (3, (2, 2000)), (4, (0, i))]) (st' := (1, lAnd a2 k) :: (1, sh) :: r) rfl ?_
    have K3 : ∀ z : Int, z = lAnd a2 k → P 174 [(0, (3, 0)), (1, (2, 0)), (2, (2, 1000)), (3, (2, 2000)), (4, (0, i))] ((1, z) :: (1, sh) :: r) μ := by
      intro z hz
      refine ru_sls hP 1 (pc' := 175) (ls' := [(0, (3, 0)), (1, (2, 0)), (2, (2, 1000)), (3, (2, 2000)), (4, (0, i))]) (st' := (1, lOr sh z) :: r) rfl ?_
      rw [hz, hs, hk]; exact K
    exact K3 _ rfl
  exact K2 _ _ rfl rfl
set_option maxRecDepth 20000 in
theorem lc_0_0_3 {P : am_P} {L : Nat} {xs : Nat → Int32} (hP : am_rul (some (L, xs)) (am_ar g_mt 80) 7 (some .int) k_law_0 (none, fun _ _ => 0) P) {i a1 a2 a3 a4 a5 a6 : Int} (h1 : am_XS L xs i 1 a1) (h2 : am_XS L xs i 2 a2) (h3 : am_XS L xs i 3 a3) (h4 : am_XS L xs i 4 a4) (h5 : am_XS L xs i 5 a5) (h6 : am_XS L xs i 6 a6) {r : am_S} {μ : am_M} (K : P 197 [(0, (3, 0)), (1, (2, 0)), (2, (2, 1000)), (3, (2, 2000)), (4, (0, i))] ((1, am_LL a3 a4) :: r) μ) : P 175 [(0, (3, 0)), (1, (2, 0)), (2, (2, 1000)), (3, (2, 2000)), (4, (0, i))] r μ := by
  refine ru_sls hP 4 (pc' := 180) (ls' := [(0, (3, 0)), (1, (2, 0)), (2, (2, 1000)), (3, (2, 2000)), (4, (0, i))]) (st' := ((0, w32 (i + 3)) :: (3, 0) :: r)) rfl ?_
  refine ru_xald hP (v := a3) rfl rfl rfl h3 ?_
  refine ru_sls hP 7 (pc' := 190) (ls' := [(0, (3, 0)), (1, (2, 0)), (2, (2, 1000)), (3, (2, 2000)), (4, (0, i))]) (st' := ((0, w32 (i + 4)) :: (3, 0) :: (1, lShl a3 32) :: r)) rfl ?_
  refine ru_xald hP (v := a4) rfl rfl rfl h4 ?_
  refine ru_sls hP 2 (pc' := 195) (ls' := [(0, (3, 0)), (1, (2, 0)), (2, (2, 1000)), (3, (2, 2000)), (4, (0, i))]) (st' := (1, 4294967295) :: (1, a4) :: (1, lShl a3 32) :: r) rfl ?_
  have K2 : ∀ k sh : Int, k = 4294967295 → sh = lShl a3 32 → P 195 [(0, (3, 0)), (1, (2, 0)), (2, (2, 1000)), (3, (2, 2000)), (4, (0, i))] ((1, k) :: (1, a4) :: (1, sh) :: r) μ := by
    intro k sh hk hs
    refine ru_sls hP 1 (pc' := 196) (ls' := [(0, (3, 0)), (1, (2, 0)), (2, (2, 1000)), (3, (2, 2000)), (4, (0, i))]) (st' := (1, lAnd a4 k) :: (1, sh) :: r) rfl ?_
    have K3 : ∀ z : Int, z = lAnd a4 k → P 196 [(0, (3, 0)), (1, (2, 0)), (2, (2, 1000)), (3, (2, 2000)), (4, (0, i))] ((1, z) :: (1, sh) :: r) μ := by
      intro z hz
      refine ru_sls hP 1 (pc' := 197) (ls' := [(0, (3, 0)), (1, (2, 0)), (2, (2, 1000)), (3, (2, 2000)), (4, (0, i))]) (st' := (1, lOr sh z) :: r) rfl ?_
      rw [hz, hs, hk]; exact K
    exact K3 _ rfl
  exact K2 _ _ rfl rfl
set_option maxRecDepth 20000 in
theorem lc_0_0_5 {P : am_P} {L : Nat} {xs : Nat → Int32} (hP : am_rul (some (L, xs)) (am_ar g_mt 80) 7 (some .int) k_law_0 (none, fun _ _ => 0) P) {i a1 a2 a3 a4 a5 a6 : Int} (h1 : am_XS L xs i 1 a1) (h2 : am_XS L xs i 2 a2) (h3 : am_XS L xs i 3 a3) (h4 : am_XS L xs i 4 a4) (h5 : am_XS L xs i 5 a5) (h6 : am_XS L xs i 6 a6) {r : am_S} {μ : am_M} (K : P 220 [(0, (3, 0)), (1, (2, 0)), (2, (2, 1000)), (3, (2, 2000)), (4, (0, i))] ((1, am_LL a5 a6) :: r) μ) : P 197 [(0, (3, 0)), (1, (2, 0)), (2, (2, 1000)), (3, (2, 2000)), (4, (0, i))] r μ := by
  refine ru_sls hP 4 (pc' := 202) (ls' := [(0, (3, 0)), (1, (2, 0)), (2, (2, 1000)), (3, (2, 2000)), (4, (0, i))]) (st' := ((0, w32 (i + 5)) :: (3, 0) :: r)) rfl ?_
  refine ru_xald hP (v := a5) rfl rfl rfl h5 ?_
  refine ru_sls hP 7 (pc' := 213) (ls' := [(0, (3, 0)), (1, (2, 0)), (2, (2, 1000)), (3, (2, 2000)), (4, (0, i))]) (st' := ((0, w32 (i + 6)) :: (3, 0) :: (1, lShl a5 32) :: r)) rfl ?_
  refine ru_xald hP (v := a6) rfl rfl rfl h6 ?_
  refine ru_sls hP 2 (pc' := 218) (ls' := [(0, (3, 0)), (1, (2, 0)), (2, (2, 1000)), (3, (2, 2000)), (4, (0, i))]) (st' := (1, 4294967295) :: (1, a6) :: (1, lShl a5 32) :: r) rfl ?_
  have K2 : ∀ k sh : Int, k = 4294967295 → sh = lShl a5 32 → P 218 [(0, (3, 0)), (1, (2, 0)), (2, (2, 1000)), (3, (2, 2000)), (4, (0, i))] ((1, k) :: (1, a6) :: (1, sh) :: r) μ := by
    intro k sh hk hs
    refine ru_sls hP 1 (pc' := 219) (ls' := [(0, (3, 0)), (1, (2, 0)), (2, (2, 1000)), (3, (2, 2000)), (4, (0, i))]) (st' := (1, lAnd a6 k) :: (1, sh) :: r) rfl ?_
    have K3 : ∀ z : Int, z = lAnd a6 k → P 219 [(0, (3, 0)), (1, (2, 0)), (2, (2, 1000)), (3, (2, 2000)), (4, (0, i))] ((1, z) :: (1, sh) :: r) μ := by
      intro z hz
      refine ru_sls hP 1 (pc' := 220) (ls' := [(0, (3, 0)), (1, (2, 0)), (2, (2, 1000)), (3, (2, 2000)), (4, (0, i))]) (st' := (1, lOr sh z) :: r) rfl ?_
      rw [hz, hs, hk]; exact K
    exact K3 _ rfl
  exact K2 _ _ rfl rfl
set_option maxRecDepth 20000 in
theorem lc_0_1_1 {P : am_P} {L : Nat} {xs : Nat → Int32} (hP : am_rul (some (L, xs)) (am_ar g_mt 80) 7 (some .int) k_law_0 (none, fun _ _ => 0) P) {i a1 a2 a3 a4 a5 a6 : Int} (h1 : am_XS L xs i 1 a1) (h2 : am_XS L xs i 2 a2) (h3 : am_XS L xs i 3 a3) (h4 : am_XS L xs i 4 a4) (h5 : am_XS L xs i 5 a5) (h6 : am_XS L xs i 6 a6) {r : am_S} {μ : am_M} (K : P 246 [(0, (3, 0)), (1, (2, 0)), (2, (2, 1000)), (3, (2, 2000)), (4, (0, i))] ((1, am_LL a1 a2) :: r) μ) : P 224 [(0, (3, 0)), (1, (2, 0)), (2, (2, 1000)), (3, (2, 2000)), (4, (0, i))] r μ := by
  refine ru_sls hP 4 (pc' := 229) (ls' := [(0, (3, 0)), (1, (2, 0)), (2, (2, 1000)), (3, (2, 2000)), (4, (0, i))]) (st' := ((0, w32 (i + 1)) :: (3, 0) :: r)) rfl ?_
  refine ru_xald hP (v := a1) rfl rfl rfl h1 ?_
  refine ru_sls hP 7 (pc' := 239) (ls' := [(0, (3, 0)), (1, (2, 0)), (2, (2, 1000)), (3, (2, 2000)), (4, (0, i))]) (st' := ((0, w32 (i + 2)) :: (3, 0) :: (1, lShl a1 32) :: r)) rfl ?_
  refine ru_xald hP (v := a2) rfl rfl rfl h2 ?_
  refine ru_sls hP 2 (pc' := 244) (ls' := [(0, (3, 0)), (1, (2, 0)), (2, (2, 1000)), (3, (2, 2000)), (4, (0, i))]) (st' := (1, 4294967295) :: (1, a2) :: (1, lShl a1 32) :: r) rfl ?_
  have K2 : ∀ k sh : Int, k = 4294967295 → sh = lShl a1 32 → P 244 [(0, (3, 0)), (1, (2, 0)), (2, (2, 1000)), (3, (2, 2000)), (4, (0, i))] ((1, k) :: (1, a2) :: (1, sh) :: r) μ := by
    intro k sh hk hs
    refine ru_sls hP 1 (pc' := 245) (ls' := [(0, (3, 0)), (1, (2, 0)), (2, (2, 1000)), (3, (2, 2000)), (4, (0, i))]) (st' := (1, lAnd a2 k) :: (1, sh) :: r) rfl ?_
    have K3 : ∀ z : Int, z = lAnd a2 k → P 245 [(0, (3, 0)), (1, (2, 0)), (2, (2, 1000)), (3, (2, 2000)), (4, (0, i))] ((1, z) :: (1, sh) :: r) μ := by
      intro z hz
      refine ru_sls hP 1 (pc' := 246) (ls' := [(0, (3, 0)), (1, (2, 0)), (2, (2, 1000)), (3, (2, 2000)), (4, (0, i))]) (st' := (1, lOr sh z) :: r) rfl ?_
      rw [hz, hs, hk]; exact K
    exact K3 _ rfl
  exact K2 _ _ rfl rfl
set_option maxRecDepth 20000 in
theorem lc_0_1_3 {P : am_P} {L : Nat} {xs : Nat → Int32} (hP : am_rul (some (L, xs)) (am_ar g_mt 80) 7 (some .int) k_law_0 (none, fun _ _ => 0) P) {i a1 a2 a3 a4 a5 a6 : Int} (h1 : am_XS L xs i 1 a1) (h2 : am_XS L xs i 2 a2) (h3 : am_XS L xs i 3 a3) (h4 : am_XS L xs i 4 a4) (h5 : am_XS L xs i 5 a5) (h6 : am_XS L xs i 6 a6) {r : am_S} {μ : am_M} (K : P 268 [(0, (3, 0)), (1, (2, 0)), (2, (2, 1000)), (3, (2, 2000)), (4, (0, i))] ((1, am_LL a3 a4) :: r) μ) : P 246 [(0, (3, 0)), (1, (2, 0)), (2, (2, 1000)), (3, (2, 2000)), (4, (0, i))] r μ := by
  refine ru_sls hP 4 (pc' := 251) (ls' := [(0, (3, 0)), (1, (2, 0)), (2, (2, 1000)), (3, (2, 2000)), (4, (0, i))]) (st' := ((0, w32 (i + 3)) :: (3, 0) :: r)) rfl ?_
  refine ru_xald hP (v := a3) rfl rfl rfl h3 ?_
  refine ru_sls hP 7 (pc' := 261) (ls' := [(0, (3, 0)), (1, (2, 0)), (2, (2, 1000)), (3, (2, 2000)), (4, (0, i))]) (st' := ((0, w32 (i + 4)) :: (3, 0) :: (1, lShl a3 32) :: r)) rfl ?_
  refine ru_xald hP (v := a4) rfl rfl rfl h4 ?_
  refine ru_sls hP 2 (pc' := 266) (ls' := [(0, (3, 0)), (1, (2, 0)), (2, (2, 1000)), (3, (2, 2000)), (4, (0, i))]) (st' := (1, 4294967295) :: (1, a4) :: (1, lShl a3 32) :: r) rfl ?_
  have K2 : ∀ k sh : Int, k = 4294967295 → sh = lShl a3 32 → P 266 [(0, (3, 0)), (1, (2, 0)), (2, (2, 1000)), (3, (2, 2000)), (4, (0, i))] ((1, k) :: (1, a4) :: (1, sh) :: r) μ := by
    intro k sh hk hs
    refine ru_sls hP 1 (pc' := 267) (ls' := [(0, (3, 0)), (1, (2, 0)), (2, (2, 1000)), (3, (2, 2000)), (4, (0, i))]) (st' := (1, lAnd a4 k) :: (1, sh) :: r) rfl ?_
    have K3 : ∀ z : Int, z = lAnd a4 k → P 267 [(0, (3, 0)), (1, (2, 0)), (2, (2, 1000)), (3, (2, 2000)), (4, (0, i))] ((1, z) :: (1, sh) :: r) μ := by
      intro z hz
      refine ru_sls hP 1 (pc' := 268) (ls' := [(0, (3, 0)), (1, (2, 0)), (2, (2, 1000)), (3, (2, 2000)), (4, (0, i))]) (st' := (1, lOr sh z) :: r) rfl ?_
      rw [hz, hs, hk]; exact K
    exact K3 _ rfl
  exact K2 _ _ rfl rfl
set_option maxRecDepth 20000 in
theorem lc_0_1_5 {P : am_P} {L : Nat} {xs : Nat → Int32} (hP : am_rul (some (L, xs)) (am_ar g_mt 80) 7 (some .int) k_law_0 (none, fun _ _ => 0) P) {i a1 a2 a3 a4 a5 a6 : Int} (h1 : am_XS L xs i 1 a1) (h2 : am_XS L xs i 2 a2) (h3 : am_XS L xs i 3 a3) (h4 : am_XS L xs i 4 a4) (h5 : am_XS L xs i 5 a5) (h6 : am_XS L xs i 6 a6) {r : am_S} {μ : am_M} (K : P 291 [(0, (3, 0)), (1, (2, 0)), (2, (2, 1000)), (3, (2, 2000)), (4, (0, i))] ((1, am_LL a5 a6) :: r) μ) : P 268 [(0, (3, 0)), (1, (2, 0)), (2, (2, 1000)), (3, (2, 2000)), (4, (0, i))] r μ := by
  refine ru_sls hP 4 (pc' := 273) (ls' := [(0, (3, 0)), (1, (2, 0)), (2, (2, 1000)), (3, (2, 2000)), (4, (0, i))]) (st' := ((0, w32 (i + 5)) :: (3, 0) :: r)) rfl ?_
  refine ru_xald hP (v := a5) rfl rfl rfl h5 ?_
  refine ru_sls hP 7 (pc' := 284) (ls' := [(0, (3, 0)), (1, (2, 0)), (2, (2, 1000)), (3, (2, 2000)), (4, (0, i))]) (st' := ((0, w32 (i + 6)) :: (3, 0) :: (1, lShl a5 32) :: r)) rfl ?_
  refine ru_xald hP (v := a6) rfl rfl rfl h6 ?_
  refine ru_sls hP 2 (pc' := 289) (ls' := [(0, (3, 0)), (1, (2, 0)), (2, (2, 1000)), (3, (2, 2000)), (4, (0, i))]) (st' := (1, 4294967295) :: (1, a6) :: (1, lShl a5 32) :: r) rfl ?_
  have K2 : ∀ k sh : Int, k = 4294967295 → sh = lShl a5 32 → P 289 [(0, (3, 0)), (1, (2, 0)), (2, (2, 1000)), (3, (2, 2000)), (4, (0, i))] ((1, k) :: (1, a6) :: (1, sh) :: r) μ := by
    intro k sh hk hs
    refine ru_sls hP 1 (pc' := 290) (ls' := [(0, (3, 0)), (1, (2, 0)), (2, (2, 1000)), (3, (2, 2000)), (4, (0, i))]) (st' := (1, lAnd a6 k) :: (1, sh) :: r) rfl ?_
    have K3 : ∀ z : Int, z = lAnd a6 k → P 290 [(0, (3, 0)), (1, (2, 0)), (2, (2, 1000)), (3, (2, 2000)), (4, (0, i))] ((1, z) :: (1, sh) :: r) μ := by
      intro z hz
      refine ru_sls hP 1 (pc' := 291) (ls' := [(0, (3, 0)), (1, (2, 0)), (2, (2, 1000)), (3, (2, 2000)), (4, (0, i))]) (st' := (1, lOr sh z) :: r) rfl ?_
      rw [hz, hs, hk]; exact K
    exact K3 _ rfl
  exact K2 _ _ rfl rfl
set_option maxRecDepth 20000 in
theorem lc_0 {P : am_P} {L : Nat} {xs : Nat → Int32} (hP : am_rul (some (L, xs)) (am_ar g_mt 80) 7 (some .int) k_law_0 (none, fun _ _ => 0) P) {i a1 a2 a3 a4 a5 a6 : Int} (h1 : am_XS L xs i 1 a1) (h2 : am_XS L xs i 2 a2) (h3 : am_XS L xs i 3 a3) (h4 : am_XS L xs i 4 a4) (h5 : am_XS L xs i 5 a5) (h6 : am_XS L xs i 6 a6) (hK : ∀ μ, GR μ μ → P 1201 [(0, (3, 0)), (1, (2, 0)), (2, (2, 1000)), (3, (2, 2000)), (4, (0, i))] [] μ) {μ : am_M} (g : GR μ μ) : P 152 [(0, (3, 0)), (1, (2, 0)), (2, (2, 1000)), (3, (2, 2000)), (4, (0, i))] [] μ := by
  obtain ⟨r, m1, m2, x1, x2, g2⟩ := (feed_t (am_LL a1 a2) (am_LL a3 a4) (am_LL a5 a6)).one g
  refine ru_sls hP 1 (pc' := 153) (ls' := [(0, (3, 0)), (1, (2, 0)), (2, (2, 1000)), (3, (2, 2000)), (4, (0, i))]) (st' := [(2, 0)]) rfl ?_
  refine lc_0_0_1 hP h1 h2 h3 h4 h5 h6 ?_
  refine lc_0_0_3 hP h1 h2 h3 h4 h5 h6 ?_
  refine lc_0_0_5 hP h1 h2 h3 h4 h5 h6 ?_
  refine ru_call hP 0 [(2, 0), (1, am_LL a1 a2), (1, am_LL a3 a4), (1, am_LL a5 a6)] (r := []) rfl ⟨rfl, Or.inl ⟨_, rfl, by decide⟩⟩ (by decide) (fun _ => ⟨_, rfl, rfl⟩) rfl rfl (Nat.le_of_ble_eq_true rfl) (t_X_feed 77 _ _ _ _ _ x1) ?_
  refine ru_sls hP 1 (pc' := 224) (ls' := [(0, (3, 0)), (1, (2, 0)), (2, (2, 1000)), (3, (2, 2000)), (4, (0, i))]) (st' := [(2, 1000), (0, r)]) rfl ?_
  refine lc_0_1_1 hP h1 h2 h3 h4 h5 h6 ?_
  refine lc_0_1_3 hP h1 h2 h3 h4 h5 h6 ?_
  refine lc_0_1_5 hP h1 h2 h3 h4 h5 h6 ?_
  refine ru_call hP 0 [(2, 1000), (1, am_LL a1 a2), (1, am_LL a3 a4), (1, am_LL a5 a6)] (r := [(0, r)]) rfl ⟨rfl, Or.inl ⟨_, rfl, by decide⟩⟩ (by decide) (fun _ => ⟨_, rfl, rfl⟩) rfl rfl (Nat.le_of_ble_eq_true rfl) (t_M_feed 79 _ _ _ _ _ x2) ?_
  exact ru_icT hP (t := 1201) rfl rfl rfl rfl (hK _ g2)
set_option maxRecDepth 20000 in
theorem lc_1 {P : am_P} {L : Nat} {xs : Nat → Int32} (hP : am_rul (some (L, xs)) (am_ar g_mt 80) 7 (some .int) k_law_1 (none, fun _ _ => 0) P) {i a1 a2 a3 a4 a5 a6 : Int} (h1 : am_XS L xs i 1 a1) (h2 : am_XS L xs i 2 a2) (h3 : am_XS L xs i 3 a3) (h4 : am_XS L xs i 4 a4) (h5 : am_XS L xs i 5 a5) (h6 : am_XS L xs i 6 a6) (hK : ∀ μ, GR μ μ → P 1201 [(0, (3, 0)), (1, (2, 0)), (2, (2, 1000)), (3, (2, 2000)), (4, (0, i))] [] μ) {μ : am_M} (g : GR μ μ) : P 299 [(0, (3, 0)), (1, (2, 0)), (2, (2, 1000)), (3, (2, 2000)), (4, (0, i))] [] μ := by
  obtain ⟨r, m1, m2, x1, x2, g2⟩ := bills_t.one g
  refine ru_sls hP 1 (pc' := 300) (ls' := [(0, (3, 0)), (1, (2, 0)), (2, (2, 1000)), (3, (2, 2000)), (4, (0, i))]) (st' := [(2, 0)]) rfl ?_
  refine ru_call hP 0 [(2, 0)] (r := []) rfl ⟨rfl, Or.inl ⟨_, rfl, by decide⟩⟩ (by decide) (fun _ => ⟨_, rfl, rfl⟩) rfl rfl (Nat.le_of_ble_eq_true rfl) (t_X_bills 72 _ _ x1) ?_
  refine ru_sls hP 1 (pc' := 304) (ls' := [(0, (3, 0)), (1, (2, 0)), (2, (2, 1000)), (3, (2, 2000)), (4, (0, i))]) (st' := [(2, 1000), (0, r)]) rfl ?_
  refine ru_call hP 0 [(2, 1000)] (r := [(0, r)]) rfl ⟨rfl, Or.inl ⟨_, rfl, by decide⟩⟩ (by decide) (fun _ => ⟨_, rfl, rfl⟩) rfl rfl (Nat.le_of_ble_eq_true rfl) (t_M_bills 72 _ _ x2) ?_
  exact ru_icT hP (t := 1201) rfl rfl rfl rfl (hK _ g2)
set_option maxRecDepth 20000 in
theorem lc_2 {P : am_P} {L : Nat} {xs : Nat → Int32} (hP : am_rul (some (L, xs)) (am_ar g_mt 80) 7 (some .int) k_law_2 (none, fun _ _ => 0) P) {i a1 a2 a3 a4 a5 a6 : Int} (h1 : am_XS L xs i 1 a1) (h2 : am_XS L xs i 2 a2) (h3 : am_XS L xs i 3 a3) (h4 : am_XS L xs i 4 a4) (h5 : am_XS L xs i 5 a5) (h6 : am_XS L xs i 6 a6) (hK : ∀ μ, GR μ μ → P 1201 [(0, (3, 0)), (1, (2, 0)), (2, (2, 1000)), (3, (2, 2000)), (4, (0, i))] [] μ) {μ : am_M} (g : GR μ μ) : P 312 [(0, (3, 0)), (1, (2, 0)), (2, (2, 1000)), (3, (2, 2000)), (4, (0, i))] [] μ := by
  obtain ⟨r, m1, m2, x1, x2, g2⟩ := (bill_t a1 a2).one g
  refine ru_sls hP 5 (pc' := 318) (ls' := [(0, (3, 0)), (1, (2, 0)), (2, (2, 1000)), (3, (2, 2000)), (4, (0, i))]) (st' := [(0, w32 (i + 1)), (3, 0), (2, 0)]) rfl ?_
  refine ru_xald hP (v := a1) rfl rfl rfl h1 ?_
  refine ru_sls hP 4 (pc' := 324) (ls' := [(0, (3, 0)), (1, (2, 0)), (2, (2, 1000)), (3, (2, 2000)), (4, (0, i))]) (st' := [(0, w32 (i + 2)), (3, 0), (0, a1), (2, 0)]) rfl ?_
  refine ru_xald hP (v := a2) rfl rfl rfl h2 ?_
  refine ru_call hP 0 [(2, 0), (0, a1), (0, a2)] (r := []) rfl ⟨rfl, Or.inl ⟨_, rfl, by decide⟩⟩ (by decide) (fun _ => ⟨_, rfl, rfl⟩) rfl rfl (Nat.le_of_ble_eq_true rfl) (t_X_bill 78 _ _ _ _ x1) ?_
  refine ru_sls hP 5 (pc' := 334) (ls' := [(0, (3, 0)), (1, (2, 0)), (2, (2, 1000)), (3, (2, 2000)), (4, (0, i))]) (st' := [(0, w32 (i + 1)), (3, 0), (2, 1000), (0, r)]) rfl ?_
  refine ru_xald hP (v := a1) rfl rfl rfl h1 ?_
  refine ru_sls hP 4 (pc' := 340) (ls' := [(0, (3, 0)), (1, (2, 0)), (2, (2, 1000)), (3, (2, 2000)), (4, (0, i))]) (st' := [(0, w32 (i + 2)), (3, 0), (0, a1), (2, 1000), (0, r)]) rfl ?_
  refine ru_xald hP (v := a2) rfl rfl rfl h2 ?_
  refine ru_call hP 0 [(2, 1000), (0, a1), (0, a2)] (r := [(0, r)]) rfl ⟨rfl, Or.inl ⟨_, rfl, by decide⟩⟩ (by decide) (fun _ => ⟨_, rfl, rfl⟩) rfl rfl (Nat.le_of_ble_eq_true rfl) (t_M_bill 77 _ _ _ _ x2) ?_
  exact ru_icT hP (t := 1201) rfl rfl rfl rfl (hK _ g2)
set_option maxRecDepth 20000 in
theorem lc_3 {P : am_P} {L : Nat} {xs : Nat → Int32} (hP : am_rul (some (L, xs)) (am_ar g_mt 80) 7 (some .int) k_law_3 (none, fun _ _ => 0) P) {i a1 a2 a3 a4 a5 a6 : Int} (h1 : am_XS L xs i 1 a1) (h2 : am_XS L xs i 2 a2) (h3 : am_XS L xs i 3 a3) (h4 : am_XS L xs i 4 a4) (h5 : am_XS L xs i 5 a5) (h6 : am_XS L xs i 6 a6) (hK : ∀ μ, GR μ μ → P 1201 [(0, (3, 0)), (1, (2, 0)), (2, (2, 1000)), (3, (2, 2000)), (4, (0, i))] [] μ) {μ : am_M} (g : GR μ μ) : P 349 [(0, (3, 0)), (1, (2, 0)), (2, (2, 1000)), (3, (2, 2000)), (4, (0, i))] [] μ := by
  obtain ⟨r, m1, m2, x1, x2, g2⟩ := (line_t a1 a2).one g
  refine ru_sls hP 5 (pc' := 355) (ls' := [(0, (3, 0)), (1, (2, 0)), (2, (2, 1000)), (3, (2, 2000)), (4, (0, i))]) (st' := [(0, w32 (i + 1)), (3, 0), (2, 0)]) rfl ?_
  refine ru_xald hP (v := a1) rfl rfl rfl h1 ?_
  refine ru_sls hP 4 (pc' := 361) (ls' := [(0, (3, 0)), (1, (2, 0)), (2, (2, 1000)), (3, (2, 2000)), (4, (0, i))]) (st' := [(0, w32 (i + 2)), (3, 0), (0, a1), (2, 0)]) rfl ?_
  refine ru_xald hP (v := a2) rfl rfl rfl h2 ?_
  refine ru_call hP 0 [(2, 0), (0, a1), (0, a2)] (r := []) rfl ⟨rfl, Or.inl ⟨_, rfl, by decide⟩⟩ (by decide) (fun _ => ⟨_, rfl, rfl⟩) rfl rfl (Nat.le_of_ble_eq_true rfl) (t_X_line 76 _ _ _ _ x1) ?_
  refine ru_sls hP 5 (pc' := 371) (ls' := [(0, (3, 0)), (1, (2, 0)), (2, (2, 1000)), (3, (2, 2000)), (4, (0, i))]) (st' := [(0, w32 (i + 1)), (3, 0), (2, 1000), (0, r)]) rfl ?_
  refine ru_xald hP (v := a1) rfl rfl rfl h1 ?_
  refine ru_sls hP 4 (pc' := 377) (ls' := [(0, (3, 0)), (1, (2, 0)), (2, (2, 1000)), (3, (2, 2000)), (4, (0, i))]) (st' := [(0, w32 (i + 2)), (3, 0), (0, a1), (2, 1000), (0, r)]) rfl ?_
  refine ru_xald hP (v := a2) rfl rfl rfl h2 ?_
  refine ru_call hP 0 [(2, 1000), (0, a1), (0, a2)] (r := [(0, r)]) rfl ⟨rfl, Or.inl ⟨_, rfl, by decide⟩⟩ (by decide) (fun _ => ⟨_, rfl, rfl⟩) rfl rfl (Nat.le_of_ble_eq_true rfl) (t_M_line 77 _ _ _ _ x2) ?_
  exact ru_icT hP (t := 1201) rfl rfl rfl rfl (hK _ g2)
set_option maxRecDepth 20000 in
theorem lc_4 {P : am_P} {L : Nat} {xs : Nat → Int32} (hP : am_rul (some (L, xs)) (am_ar g_mt 80) 7 (some .int) k_law_4 (none, fun _ _ => 0) P) {i a1 a2 a3 a4 a5 a6 : Int} (h1 : am_XS L xs i 1 a1) (h2 : am_XS L xs i 2 a2) (h3 : am_XS L xs i 3 a3) (h4 : am_XS L xs i 4 a4) (h5 : am_XS L xs i 5 a5) (h6 : am_XS L xs i 6 a6) (hK : ∀ μ, GR μ μ → P 1201 [(0, (3, 0)), (1, (2, 0)), (2, (2, 1000)), (3, (2, 2000)), (4, (0, i))] [] μ) {μ : am_M} (g : GR μ μ) : P 386 [(0, (3, 0)), (1, (2, 0)), (2, (2, 1000)), (3, (2, 2000)), (4, (0, i))] [] μ := by
  obtain ⟨r, m1, m2, x1, x2, g2⟩ := (check_t a1 a2).one g
  refine ru_sls hP 5 (pc' := 392) (ls' := [(0, (3, 0)), (1, (2, 0)), (2, (2, 1000)), (3, (2, 2000)), (4, (0, i))]) (st' := [(0, w32 (i + 1)), (3, 0), (2, 0)]) rfl ?_
  refine ru_xald hP (v := a1) rfl rfl rfl h1 ?_
  refine ru_sls hP 4 (pc' := 398) (ls' := [(0, (3, 0)), (1, (2, 0)), (2, (2, 1000)), (3, (2, 2000)), (4, (0, i))]) (st' := [(0, w32 (i + 2)), (3, 0), (0, a1), (2, 0)]) rfl ?_
  refine ru_xald hP (v := a2) rfl rfl rfl h2 ?_
  refine ru_call hP 0 [(2, 0), (0, a1), (0, a2)] (r := []) rfl ⟨rfl, Or.inl ⟨_, rfl, by decide⟩⟩ (by decide) (fun _ => ⟨_, rfl, rfl⟩) rfl rfl (Nat.le_of_ble_eq_true rfl) (t_X_check 78 _ _ _ _ x1) ?_
  refine ru_sls hP 5 (pc' := 408) (ls' := [(0, (3, 0)), (1, (2, 0)), (2, (2, 1000)), (3, (2, 2000)), (4, (0, i))]) (st' := [(0, w32 (i + 1)), (3, 0), (2, 1000), (0, r)]) rfl ?_
  refine ru_xald hP (v := a1) rfl rfl rfl h1 ?_
  refine ru_sls hP 4 (pc' := 414) (ls' := [(0, (3, 0)), (1, (2, 0)), (2, (2, 1000)), (3, (2, 2000)), (4, (0, i))]) (st' := [(0, w32 (i + 2)), (3, 0), (0, a1), (2, 1000), (0, r)]) rfl ?_
  refine ru_xald hP (v := a2) rfl rfl rfl h2 ?_
  refine ru_call hP 0 [(2, 1000), (0, a1), (0, a2)] (r := [(0, r)]) rfl ⟨rfl, Or.inl ⟨_, rfl, by decide⟩⟩ (by decide) (fun _ => ⟨_, rfl, rfl⟩) rfl rfl (Nat.le_of_ble_eq_true rfl) (t_M_check 78 _ _ _ _ x2) ?_
  exact ru_icT hP (t := 1201) rfl rfl rfl rfl (hK _ g2)
set_option maxRecDepth 20000 in
theorem lc_5 {P : am_P} {L : Nat} {xs : Nat → Int32} (hP : am_rul (some (L, xs)) (am_ar g_mt 80) 7 (some .int) k_law_5 (none, fun _ _ => 0) P) {i a1 a2 a3 a4 a5 a6 : Int} (h1 : am_XS L xs i 1 a1) (h2 : am_XS L xs i 2 a2) (h3 : am_XS L xs i 3 a3) (h4 : am_XS L xs i 4 a4) (h5 : am_XS L xs i 5 a5) (h6 : am_XS L xs i 6 a6) (hK : ∀ μ, GR μ μ → P 1201 [(0, (3, 0)), (1, (2, 0)), (2, (2, 1000)), (3, (2, 2000)), (4, (0, i))] [] μ) {μ : am_M} (g : GR μ μ) : P 423 [(0, (3, 0)), (1, (2, 0)), (2, (2, 1000)), (3, (2, 2000)), (4, (0, i))] [] μ := by
  obtain ⟨r, m1, m2, x1, x2, g2⟩ := (room_t a1).one g
  refine ru_sls hP 5 (pc' := 429) (ls' := [(0, (3, 0)), (1, (2, 0)), (2, (2, 1000)), (3, (2, 2000)), (4, (0, i))]) (st' := [(0, w32 (i + 1)), (3, 0), (2, 0)]) rfl ?_
  refine ru_xald hP (v := a1) rfl rfl rfl h1 ?_
  refine ru_call hP 0 [(2, 0), (0, a1)] (r := []) rfl ⟨rfl, Or.inl ⟨_, rfl, by decide⟩⟩ (by decide) (fun _ => ⟨_, rfl, rfl⟩) rfl rfl (Nat.le_of_ble_eq_true rfl) (t_X_room 79 _ _ _ x1) ?_
  refine ru_sls hP 5 (pc' := 439) (ls' := [(0, (3, 0)), (1, (2, 0)), (2, (2, 1000)), (3, (2, 2000)), (4, (0, i))]) (st' := [(0, w32 (i + 1)), (3, 0), (2, 1000), (0, r)]) rfl ?_
  refine ru_xald hP (v := a1) rfl rfl rfl h1 ?_
  refine ru_call hP 0 [(2, 1000), (0, a1)] (r := [(0, r)]) rfl ⟨rfl, Or.inl ⟨_, rfl, by decide⟩⟩ (by decide) (fun _ => ⟨_, rfl, rfl⟩) rfl rfl (Nat.le_of_ble_eq_true rfl) (t_M_room 78 _ _ _ x2) ?_
  exact ru_icT hP (t := 1201) rfl rfl rfl rfl (hK _ g2)
set_option maxRecDepth 20000 in
theorem lc_6 {P : am_P} {L : Nat} {xs : Nat → Int32} (hP : am_rul (some (L, xs)) (am_ar g_mt 80) 7 (some .int) k_law_6 (none, fun _ _ => 0) P) {i a1 a2 a3 a4 a5 a6 : Int} (h1 : am_XS L xs i 1 a1) (h2 : am_XS L xs i 2 a2) (h3 : am_XS L xs i 3 a3) (h4 : am_XS L xs i 4 a4) (h5 : am_XS L xs i 5 a5) (h6 : am_XS L xs i 6 a6) (hK : ∀ μ, GR μ μ → P 1201 [(0, (3, 0)), (1, (2, 0)), (2, (2, 1000)), (3, (2, 2000)), (4, (0, i))] [] μ) {μ : am_M} (g : GR μ μ) : P 448 [(0, (3, 0)), (1, (2, 0)), (2, (2, 1000)), (3, (2, 2000)), (4, (0, i))] [] μ := by
  obtain ⟨r, m1, m2, x1, x2, g2⟩ := (price_t a1).one g
  refine ru_sls hP 5 (pc' := 454) (ls' := [(0, (3, 0)), (1, (2, 0)), (2, (2, 1000)), (3, (2, 2000)), (4, (0, i))]) (st' := [(0, w32 (i + 1)), (3, 0), (2, 0)]) rfl ?_
  refine ru_xald hP (v := a1) rfl rfl rfl h1 ?_
  refine ru_call hP 0 [(2, 0), (0, a1)] (r := []) rfl ⟨rfl, Or.inl ⟨_, rfl, by decide⟩⟩ (by decide) (fun _ => ⟨_, rfl, rfl⟩) rfl rfl (Nat.le_of_ble_eq_true rfl) (t_X_price 79 _ _ _ x1) ?_
  refine ru_sls hP 5 (pc' := 464) (ls' := [(0, (3, 0)), (1, (2, 0)), (2, (2, 1000)), (3, (2, 2000)), (4, (0, i))]) (st' := [(0, w32 (i + 1)), (3, 0), (2, 1000), (0, r)]) rfl ?_
  refine ru_xald hP (v := a1) rfl rfl rfl h1 ?_
  refine ru_call hP 0 [(2, 1000), (0, a1)] (r := [(0, r)]) rfl ⟨rfl, Or.inl ⟨_, rfl, by decide⟩⟩ (by decide) (fun _ => ⟨_, rfl, rfl⟩) rfl rfl (Nat.le_of_ble_eq_true rfl) (t_M_price 78 _ _ _ x2) ?_
  exact ru_icT hP (t := 1201) rfl rfl rfl rfl (hK _ g2)
set_option maxRecDepth 20000 in
theorem lc_7 {P : am_P} {L : Nat} {xs : Nat → Int32} (hP : am_rul (some (L, xs)) (am_ar g_mt 80) 7 (some .int) k_law_7 (none, fun _ _ => 0) P) {i a1 a2 a3 a4 a5 a6 : Int} (h1 : am_XS L xs i 1 a1) (h2 : am_XS L xs i 2 a2) (h3 : am_XS L xs i 3 a3) (h4 : am_XS L xs i 4 a4) (h5 : am_XS L xs i 5 a5) (h6 : am_XS L xs i 6 a6) (hK : ∀ μ, GR μ μ → P 1201 [(0, (3, 0)), (1, (2, 0)), (2, (2, 1000)), (3, (2, 2000)), (4, (0, i))] [] μ) {μ : am_M} (g : GR μ μ) : P 473 [(0, (3, 0)), (1, (2, 0)), (2, (2, 1000)), (3, (2, 2000)), (4, (0, i))] [] μ := by
  obtain ⟨r, m1, m2, x1, x2, g2⟩ := (begin_t a1 a2 a3 a4 a5 h2.r h3.r h4.r h5.r).one g
  refine ru_sls hP 5 (pc' := 479) (ls' := [(0, (3, 0)), (1, (2, 0)), (2, (2, 1000)), (3, (2, 2000)), (4, (0, i))]) (st' := [(0, w32 (i + 1)), (3, 0), (2, 0)]) rfl ?_
  refine ru_xald hP (v := a1) rfl rfl rfl h1 ?_
  refine ru_sls hP 4 (pc' := 485) (ls' := [(0, (3, 0)), (1, (2, 0)), (2, (2, 1000)), (3, (2, 2000)), (4, (0, i))]) (st' := [(0, w32 (i + 2)), (3, 0), (0, a1), (2, 0)]) rfl ?_
  refine ru_xald hP (v := a2) rfl rfl rfl h2 ?_
  refine ru_sls hP 4 (pc' := 491) (ls' := [(0, (3, 0)), (1, (2, 0)), (2, (2, 1000)), (3, (2, 2000)), (4, (0, i))]) (st' := [(0, w32 (i + 3)), (3, 0), (0, a2), (0, a1), (2, 0)]) rfl ?_
  refine ru_xald hP (v := a3) rfl rfl rfl h3 ?_
  refine ru_sls hP 4 (pc' := 497) (ls' := [(0, (3, 0)), (1, (2, 0)), (2, (2, 1000)), (3, (2, 2000)), (4, (0, i))]) (st' := [(0, w32 (i + 4)), (3, 0), (0, a3), (0, a2), (0, a1), (2, 0)]) rfl ?_
  refine ru_xald hP (v := a4) rfl rfl rfl h4 ?_
  refine ru_sls hP 4 (pc' := 503) (ls' := [(0, (3, 0)), (1, (2, 0)), (2, (2, 1000)), (3, (2, 2000)), (4, (0, i))]) (st' := [(0, w32 (i + 5)), (3, 0), (0, a4), (0, a3), (0, a2), (0, a1), (2, 0)]) rfl ?_
  refine ru_xald hP (v := a5) rfl rfl rfl h5 ?_
  refine ru_call hP 0 [(2, 0), (0, a1), (0, a2), (0, a3), (0, a4), (0, a5)] (r := []) rfl ⟨rfl, Or.inl ⟨_, rfl, by decide⟩⟩ (by decide) (fun _ => ⟨_, rfl, rfl⟩) rfl rfl (Nat.le_of_ble_eq_true rfl) (t_X_begin 75 _ _ _ _ _ _ _ x1) ?_
  refine ru_sls hP 5 (pc' := 513) (ls' := [(0, (3, 0)), (1, (2, 0)), (2, (2, 1000)), (3, (2, 2000)), (4, (0, i))]) (st' := [(0, w32 (i + 1)), (3, 0), (2, 1000), (0, r)]) rfl ?_
  refine ru_xald hP (v := a1) rfl rfl rfl h1 ?_
  refine ru_sls hP 4 (pc' := 519) (ls' := [(0, (3, 0)), (1, (2, 0)), (2, (2, 1000)), (3, (2, 2000)), (4, (0, i))]) (st' := [(0, w32 (i + 2)), (3, 0), (0, a1), (2, 1000), (0, r)]) rfl ?_
  refine ru_xald hP (v := a2) rfl rfl rfl h2 ?_
  refine ru_sls hP 4 (pc' := 525) (ls' := [(0, (3, 0)), (1, (2, 0)), (2, (2, 1000)), (3, (2, 2000)), (4, (0, i))]) (st' := [(0, w32 (i + 3)), (3, 0), (0, a2), (0, a1), (2, 1000), (0, r)]) rfl ?_
  refine ru_xald hP (v := a3) rfl rfl rfl h3 ?_
  refine ru_sls hP 4 (pc' := 531) (ls' := [(0, (3, 0)), (1, (2, 0)), (2, (2, 1000)), (3, (2, 2000)), (4, (0, i))]) (st' := [(0, w32 (i + 4)), (3, 0), (0, a3), (0, a2), (0, a1), (2, 1000), (0, r)]) rfl ?_
  refine ru_xald hP (v := a4) rfl rfl rfl h4 ?_
  refine ru_sls hP 4 (pc' := 537) (ls' := [(0, (3, 0)), (1, (2, 0)), (2, (2, 1000)), (3, (2, 2000)), (4, (0, i))]) (st' := [(0, w32 (i + 5)), (3, 0), (0, a4), (0, a3), (0, a2), (0, a1), (2, 1000), (0, r)]) rfl ?_
  refine ru_xald hP (v := a5) rfl rfl rfl h5 ?_
  refine ru_call hP 0 [(2, 1000), (0, a1), (0, a2), (0, a3), (0, a4), (0, a5)] (r := [(0, r)]) rfl ⟨rfl, Or.inl ⟨_, rfl, by decide⟩⟩ (by decide) (fun _ => ⟨_, rfl, rfl⟩) rfl rfl (Nat.le_of_ble_eq_true rfl) (t_M_begin 76 _ _ _ _ _ _ _ x2) ?_
  exact ru_icT hP (t := 1201) rfl rfl rfl rfl (hK _ g2)
set_option maxRecDepth 20000 in
theorem lc_8 {P : am_P} {L : Nat} {xs : Nat → Int32} (hP : am_rul (some (L, xs)) (am_ar g_mt 80) 7 (some .int) k_law_8 (none, fun _ _ => 0) P) {i a1 a2 a3 a4 a5 a6 : Int} (h1 : am_XS L xs i 1 a1) (h2 : am_XS L xs i 2 a2) (h3 : am_XS L xs i 3 a3) (h4 : am_XS L xs i 4 a4) (h5 : am_XS L xs i 5 a5) (h6 : am_XS L xs i 6 a6) (hK : ∀ μ, GR μ μ → P 1201 [(0, (3, 0)), (1, (2, 0)), (2, (2, 1000)), (3, (2, 2000)), (4, (0, i))] [] μ) {μ : am_M} (g : GR μ μ) : P 546 [(0, (3, 0)), (1, (2, 0)), (2, (2, 1000)), (3, (2, 2000)), (4, (0, i))] [] μ := by
  obtain ⟨r, m1, m2, x1, x2, g2⟩ := (run_t a1).one g
  refine ru_sls hP 5 (pc' := 552) (ls' := [(0, (3, 0)), (1, (2, 0)), (2, (2, 1000)), (3, (2, 2000)), (4, (0, i))]) (st' := [(0, w32 (i + 1)), (3, 0), (2, 0)]) rfl ?_
  refine ru_xald hP (v := a1) rfl rfl rfl h1 ?_
  refine ru_call hP 0 [(2, 0), (0, a1)] (r := []) rfl ⟨rfl, Or.inl ⟨_, rfl, by decide⟩⟩ (by decide) (fun _ => ⟨_, rfl, rfl⟩) rfl rfl (Nat.le_of_ble_eq_true rfl) (t_X_run 72 _ _ _ x1) ?_
  refine ru_sls hP 5 (pc' := 562) (ls' := [(0, (3, 0)), (1, (2, 0)), (2, (2, 1000)), (3, (2, 2000)), (4, (0, i))]) (st' := [(0, w32 (i + 1)), (3, 0), (2, 1000), (0, r)]) rfl ?_
  refine ru_xald hP (v := a1) rfl rfl rfl h1 ?_
  refine ru_call hP 0 [(2, 1000), (0, a1)] (r := [(0, r)]) rfl ⟨rfl, Or.inl ⟨_, rfl, by decide⟩⟩ (by decide) (fun _ => ⟨_, rfl, rfl⟩) rfl rfl (Nat.le_of_ble_eq_true rfl) (t_M_run 72 _ _ _ x2) ?_
  exact ru_icT hP (t := 1201) rfl rfl rfl rfl (hK _ g2)
set_option maxRecDepth 20000 in
theorem lc_9 {P : am_P} {L : Nat} {xs : Nat → Int32} (hP : am_rul (some (L, xs)) (am_ar g_mt 80) 7 (some .int) k_law_9 (none, fun _ _ => 0) P) {i a1 a2 a3 a4 a5 a6 : Int} (h1 : am_XS L xs i 1 a1) (h2 : am_XS L xs i 2 a2) (h3 : am_XS L xs i 3 a3) (h4 : am_XS L xs i 4 a4) (h5 : am_XS L xs i 5 a5) (h6 : am_XS L xs i 6 a6) (hK : ∀ μ, GR μ μ → P 1201 [(0, (3, 0)), (1, (2, 0)), (2, (2, 1000)), (3, (2, 2000)), (4, (0, i))] [] μ) {μ : am_M} (g : GR μ μ) : P 571 [(0, (3, 0)), (1, (2, 0)), (2, (2, 1000)), (3, (2, 2000)), (4, (0, i))] [] μ := by
  obtain ⟨r, m1, m2, x1, x2, g2⟩ := (machine_t a1).one g
  refine ru_sls hP 5 (pc' := 577) (ls' := [(0, (3, 0)), (1, (2, 0)), (2, (2, 1000)), (3, (2, 2000)), (4, (0, i))]) (st' := [(0, w32 (i + 1)), (3, 0), (2, 0)]) rfl ?_
  refine ru_xald hP (v := a1) rfl rfl rfl h1 ?_
  refine ru_call hP 0 [(2, 0), (0, a1)] (r := []) rfl ⟨rfl, Or.inl ⟨_, rfl, by decide⟩⟩ (by decide) (fun _ => ⟨_, rfl, rfl⟩) rfl rfl (Nat.le_of_ble_eq_true rfl) (t_X_machine 76 _ _ _ x1) ?_
  refine ru_sls hP 5 (pc' := 587) (ls' := [(0, (3, 0)), (1, (2, 0)), (2, (2, 1000)), (3, (2, 2000)), (4, (0, i))]) (st' := [(0, w32 (i + 1)), (3, 0), (2, 1000), (0, r)]) rfl ?_
  refine ru_xald hP (v := a1) rfl rfl rfl h1 ?_
  refine ru_call hP 0 [(2, 1000), (0, a1)] (r := [(0, r)]) rfl ⟨rfl, Or.inl ⟨_, rfl, by decide⟩⟩ (by decide) (fun _ => ⟨_, rfl, rfl⟩) rfl rfl (Nat.le_of_ble_eq_true rfl) (t_M_machine 77 _ _ _ x2) ?_
  exact ru_icT hP (t := 1201) rfl rfl rfl rfl (hK _ g2)
set_option maxRecDepth 20000 in
theorem lc_10a {P : am_P} {L : Nat} {xs : Nat → Int32} (hP : am_rul (some (L, xs)) (am_ar g_mt 80) 7 (some .int) k_law_10 (none, fun _ _ => 0) P) {i a1 a2 a3 a4 a5 a6 : Int} (h1 : am_XS L xs i 1 a1) (h2 : am_XS L xs i 2 a2) (h3 : am_XS L xs i 3 a3) (h4 : am_XS L xs i 4 a4) (h5 : am_XS L xs i 5 a5) (h6 : am_XS L xs i 6 a6) {μ : am_M} (k : P 598 [(0, (3, 0)), (1, (2, 0)), (2, (2, 1000)), (3, (2, 2000)), (4, (0, i))] [(2, 2000), (2, 0)] μ) : P 596 [(0, (3, 0)), (1, (2, 0)), (2, (2, 1000)), (3, (2, 2000)), (4, (0, i))] [] μ := by
  refine ru_sls hP 2 (pc' := 598) (ls' := [(0, (3, 0)), (1, (2, 0)), (2, (2, 1000)), (3, (2, 2000)), (4, (0, i))]) (st' := [(2, 2000), (2, 0)]) rfl ?_
  exact k
set_option maxRecDepth 20000 in
theorem lc_10b {P : am_P} {L : Nat} {xs : Nat → Int32} (hP : am_rul (some (L, xs)) (am_ar g_mt 80) 7 (some .int) k_law_10 (none, fun _ _ => 0) P) {i a1 a2 a3 a4 a5 a6 : Int} (h1 : am_XS L xs i 1 a1) (h2 : am_XS L xs i 2 a2) (h3 : am_XS L xs i 3 a3) (h4 : am_XS L xs i 4 a4) (h5 : am_XS L xs i 5 a5) (h6 : am_XS L xs i 6 a6) {μ m2 : am_M} {v κ : Int} (hM : M_given μ = some (v, m2)) (hc : (κ = 0 ∧ m2 1000 0 = 0 ∧ m2 2000 0 = v) ∨ (κ = 1 ∧ m2 1000 0 = 1)) (hK : P 1201 [(0, (3, 0)), (1, (2, 0)), (2, (2, 1000)), (3, (2, 2000)), (4, (0, i))] [] m2) : P 601 [(0, (3, 0)), (1, (2, 0)), (2, (2, 1000)), (3, (2, 2000)), (4, (0, i))] [(0, κ)] μ := by
  refine ru_sls hP 2 (pc' := 604) (ls' := [(5, (0, κ)), (0, (3, 0)), (1, (2, 0)), (2, (2, 1000)), (3, (2, 2000)), (4, (0, i))]) (st' := [(2, 1000)]) rfl ?_
  refine ru_call hP 0 [(2, 1000)] (r := []) rfl ⟨rfl, Or.inl ⟨_, rfl, by decide⟩⟩ (by decide) (fun _ => ⟨_, rfl, rfl⟩) rfl rfl (Nat.le_of_ble_eq_true rfl) (t_M_given 79 _ _ hM) ?_
  refine ru_sls hP 2 (pc' := 610) (ls' := [(6, (0, v)), (5, (0, κ)), (0, (3, 0)), (1, (2, 0)), (2, (2, 1000)), (3, (2, 2000)), (4, (0, i))]) (st' := [(2, 1000)]) rfl ?_
  refine ru_call hP 0 [(2, 1000)] (r := []) rfl ⟨rfl, Or.inl ⟨_, rfl, by decide⟩⟩ (by decide) (fun _ => ⟨_, rfl, rfl⟩) rfl rfl (Nat.le_of_ble_eq_true rfl) (t_M_thrown 79 _ _ (show M_thrown m2 = some (m2 1000 0, m2) from rfl)) ?_
  refine ru_sls hP 1 (pc' := 615) (ls' := [(6, (0, v)), (5, (0, κ)), (0, (3, 0)), (1, (2, 0)), (2, (2, 1000)), (3, (2, 2000)), (4, (0, i))]) (st' := [(0, κ), (0, m2 1000 0)]) rfl ?_
  refine ru_icT hP (t := 620) rfl rfl rfl (show m2 1000 0 = κ by omega) ?_
  refine ru_sls hP 1 (pc' := 622) (ls' := [(6, (0, v)), (5, (0, κ)), (0, (3, 0)), (1, (2, 0)), (2, (2, 1000)), (3, (2, 2000)), (4, (0, i))]) (st' := [(0, κ)]) rfl ?_
  rcases hc with ⟨c, -, c2⟩ | ⟨c, -⟩
  · refine ru_ifF hP rfl rfl (fun z => z c) ?_
    refine ru_sls hP 2 (pc' := 627) (ls' := [(6, (0, v)), (5, (0, κ)), (0, (3, 0)), (1, (2, 0)), (2, (2, 1000)), (3, (2, 2000)), (4, (0, i))]) (st' := [(0, 0), (2, 2000)]) rfl ?_
    refine ru_lald hP (n := 1) rfl rfl shp_out (by decide) (by decide) ?_
    refine ru_sls hP 3 (pc' := 632) (ls' := [(6, (0, v)), (5, (0, κ)), (0, (3, 0)), (1, (2, 0)), (2, (2, 1000)), (3, (2, 2000)), (4, (0, i))]) (st' := [(0, lCmp (m2 2000 0) v)]) rfl ?_
    refine ru_ifT hP (t := 637) rfl rfl rfl (show lCmp (m2 2000 0) v = 0 by rw [c2]; exact lCmp_z v) ?_
    refine ru_goto hP (t := 1201) rfl rfl rfl ?_
    exact ru_sub hP [2, 3, 4, 5, 6] rfl hK
  · refine ru_ifT hP (t := 637) rfl rfl rfl (show κ ≠ 0 by omega) ?_
    refine ru_goto hP (t := 1201) rfl rfl rfl ?_
    exact ru_sub hP [2, 3, 4, 5, 6] rfl hK
set_option maxRecDepth 20000 in
theorem lc_11a {P : am_P} {L : Nat} {xs : Nat → Int32} (hP : am_rul (some (L, xs)) (am_ar g_mt 80) 7 (some .int) k_law_11 (none, fun _ _ => 0) P) {i a1 a2 a3 a4 a5 a6 : Int} (h1 : am_XS L xs i 1 a1) (h2 : am_XS L xs i 2 a2) (h3 : am_XS L xs i 3 a3) (h4 : am_XS L xs i 4 a4) (h5 : am_XS L xs i 5 a5) (h6 : am_XS L xs i 6 a6) {μ : am_M} (k : P 648 [(0, (3, 0)), (1, (2, 0)), (2, (2, 1000)), (3, (2, 2000)), (4, (0, i))] [(2, 2000), (0, a1), (2, 0)] μ) : P 640 [(0, (3, 0)), (1, (2, 0)), (2, (2, 1000)), (3, (2, 2000)), (4, (0, i))] [] μ := by
  refine ru_sls hP 5 (pc' := 646) (ls' := [(0, (3, 0)), (1, (2, 0)), (2, (2, 1000)), (3, (2, 2000)), (4, (0, i))]) (st' := [(0, w32 (i + 1)), (3, 0), (2, 0)]) rfl ?_
  refine ru_xald hP (v := a1) rfl rfl rfl h1 ?_
  refine ru_sls hP 1 (pc' := 648) (ls' := [(0, (3, 0)), (1, (2, 0)), (2, (2, 1000)), (3, (2, 2000)), (4, (0, i))]) (st' := [(2, 2000), (0, a1), (2, 0)]) rfl ?_
  exact k
set_option maxRecDepth 20000 in
theorem lc_11b {P : am_P} {L : Nat} {xs : Nat → Int32} (hP : am_rul (some (L, xs)) (am_ar g_mt 80) 7 (some .int) k_law_11 (none, fun _ _ => 0) P) {i a1 a2 a3 a4 a5 a6 : Int} (h1 : am_XS L xs i 1 a1) (h2 : am_XS L xs i 2 a2) (h3 : am_XS L xs i 3 a3) (h4 : am_XS L xs i 4 a4) (h5 : am_XS L xs i 5 a5) (h6 : am_XS L xs i 6 a6) {μ m2 : am_M} {v κ : Int} (hM : M_slip a1 μ = some (v, m2)) (hc : (κ = 0 ∧ m2 1000 0 = 0 ∧ m2 2000 0 = v) ∨ (κ = 1 ∧ m2 1000 0 = 1)) (hK : P 1201 [(0, (3, 0)), (1, (2, 0)), (2, (2, 1000)), (3, (2, 2000)), (4, (0, i))] [] m2) : P 651 [(0, (3, 0)), (1, (2, 0)), (2, (2, 1000)), (3, (2, 2000)), (4, (0, i))] [(0, κ)] μ := by
  refine ru_sls hP 6 (pc' := 659) (ls' := [(5, (0, κ)), (0, (3, 0)), (1, (2, 0)), (2, (2, 1000)), (3, (2, 2000)), (4, (0, i))]) (st' := [(0, w32 (i + 1)), (3, 0), (2, 1000)]) rfl ?_
  refine ru_xald hP (v := a1) rfl rfl rfl h1 ?_
  refine ru_call hP 0 [(2, 1000), (0, a1)] (r := []) rfl ⟨rfl, Or.inl ⟨_, rfl, by decide⟩⟩ (by decide) (fun _ => ⟨_, rfl, rfl⟩) rfl rfl (Nat.le_of_ble_eq_true rfl) (t_M_slip 78 _ _ _ hM) ?_
  refine ru_sls hP 2 (pc' := 666) (ls' := [(6, (0, v)), (5, (0, κ)), (0, (3, 0)), (1, (2, 0)), (2, (2, 1000)), (3, (2, 2000)), (4, (0, i))]) (st' := [(2, 1000)]) rfl ?_
  refine ru_call hP 0 [(2, 1000)] (r := []) rfl ⟨rfl, Or.inl ⟨_, rfl, by decide⟩⟩ (by decide) (fun _ => ⟨_, rfl, rfl⟩) rfl rfl (Nat.le_of_ble_eq_true rfl) (t_M_thrown 79 _ _ (show M_thrown m2 = some (m2 1000 0, m2) from rfl)) ?_
  refine ru_sls hP 1 (pc' := 671) (ls' := [(6, (0, v)), (5, (0, κ)), (0, (3, 0)), (1, (2, 0)), (2, (2, 1000)), (3, (2, 2000)), (4, (0, i))]) (st' := [(0, κ), (0, m2 1000 0)]) rfl ?_
  refine ru_icT hP (t := 676) rfl rfl rfl (show m2 1000 0 = κ by omega) ?_
  refine ru_sls hP 1 (pc' := 678) (ls' := [(6, (0, v)), (5, (0, κ)), (0, (3, 0)), (1, (2, 0)), (2, (2, 1000)), (3, (2, 2000)), (4, (0, i))]) (st' := [(0, κ)]) rfl ?_
  rcases hc with ⟨c, -, c2⟩ | ⟨c, -⟩
  · refine ru_ifF hP rfl rfl (fun z => z c) ?_
    refine ru_sls hP 2 (pc' := 683) (ls' := [(6, (0, v)), (5, (0, κ)), (0, (3, 0)), (1, (2, 0)), (2, (2, 1000)), (3, (2, 2000)), (4, (0, i))]) (st' := [(0, 0), (2, 2000)]) rfl ?_
    refine ru_lald hP (n := 1) rfl rfl shp_out (by decide) (by decide) ?_
    refine ru_sls hP 3 (pc' := 688) (ls' := [(6, (0, v)), (5, (0, κ)), (0, (3, 0)), (1, (2, 0)), (2, (2, 1000)), (3, (2, 2000)), (4, (0, i))]) (st' := [(0, lCmp (m2 2000 0) v)]) rfl ?_
    refine ru_ifT hP (t := 693) rfl rfl rfl (show lCmp (m2 2000 0) v = 0 by rw [c2]; exact lCmp_z v) ?_
    refine ru_goto hP (t := 1201) rfl rfl rfl ?_
    exact ru_sub hP [2, 3, 4, 5, 6] rfl hK
  · refine ru_ifT hP (t := 693) rfl rfl rfl (show κ ≠ 0 by omega) ?_
    refine ru_goto hP (t := 1201) rfl rfl rfl ?_
    exact ru_sub hP [2, 3, 4, 5, 6] rfl hK
set_option maxRecDepth 20000 in
theorem lc_12a {P : am_P} {L : Nat} {xs : Nat → Int32} (hP : am_rul (some (L, xs)) (am_ar g_mt 80) 7 (some .int) k_law_12 (none, fun _ _ => 0) P) {i a1 a2 a3 a4 a5 a6 : Int} (h1 : am_XS L xs i 1 a1) (h2 : am_XS L xs i 2 a2) (h3 : am_XS L xs i 3 a3) (h4 : am_XS L xs i 4 a4) (h5 : am_XS L xs i 5 a5) (h6 : am_XS L xs i 6 a6) {μ : am_M} (k : P 728 [(0, (3, 0)), (1, (2, 0)), (2, (2, 1000)), (3, (2, 2000)), (4, (0, i))] [(2, 2000), (0, a5), (0, a4), (0, a3), (0, a2), (0, a1), (2, 0)] μ) : P 696 [(0, (3, 0)), (1, (2, 0)), (2, (2, 1000)), (3, (2, 2000)), (4, (0, i))] [] μ := by
  refine ru_sls hP 5 (pc' := 702) (ls' := [(0, (3, 0)), (1, (2, 0)), (2, (2, 1000)), (3, (2, 2000)), (4, (0, i))]) (st' := [(0, w32 (i + 1)), (3, 0), (2, 0)]) rfl ?_
  refine ru_xald hP (v := a1) rfl rfl rfl h1 ?_
  refine ru_sls hP 4 (pc' := 708) (ls' := [(0, (3, 0)), (1, (2, 0)), (2, (2, 1000)), (3, (2, 2000)), (4, (0, i))]) (st' := [(0, w32 (i + 2)), (3, 0), (0, a1), (2, 0)]) rfl ?_
  refine ru_xald hP (v := a2) rfl rfl rfl h2 ?_
  refine ru_sls hP 4 (pc' := 714) (ls' := [(0, (3, 0)), (1, (2, 0)), (2, (2, 1000)), (3, (2, 2000)), (4, (0, i))]) (st' := [(0, w32 (i + 3)), (3, 0), (0, a2), (0, a1), (2, 0)]) rfl ?_
  refine ru_xald hP (v := a3) rfl rfl rfl h3 ?_
  refine ru_sls hP 4 (pc' := 720) (ls' := [(0, (3, 0)), (1, (2, 0)), (2, (2, 1000)), (3, (2, 2000)), (4, (0, i))]) (st' := [(0, w32 (i + 4)), (3, 0), (0, a3), (0, a2), (0, a1), (2, 0)]) rfl ?_
  refine ru_xald hP (v := a4) rfl rfl rfl h4 ?_
  refine ru_sls hP 4 (pc' := 726) (ls' := [(0, (3, 0)), (1, (2, 0)), (2, (2, 1000)), (3, (2, 2000)), (4, (0, i))]) (st' := [(0, w32 (i + 5)), (3, 0), (0, a4), (0, a3), (0, a2), (0, a1), (2, 0)]) rfl ?_
  refine ru_xald hP (v := a5) rfl rfl rfl h5 ?_
  refine ru_sls hP 1 (pc' := 728) (ls' := [(0, (3, 0)), (1, (2, 0)), (2, (2, 1000)), (3, (2, 2000)), (4, (0, i))]) (st' := [(2, 2000), (0, a5), (0, a4), (0, a3), (0, a2), (0, a1), (2, 0)]) rfl ?_
  exact k
set_option maxRecDepth 20000 in
theorem lc_12b {P : am_P} {L : Nat} {xs : Nat → Int32} (hP : am_rul (some (L, xs)) (am_ar g_mt 80) 7 (some .int) k_law_12 (none, fun _ _ => 0) P) {i a1 a2 a3 a4 a5 a6 : Int} (h1 : am_XS L xs i 1 a1) (h2 : am_XS L xs i 2 a2) (h3 : am_XS L xs i 3 a3) (h4 : am_XS L xs i 4 a4) (h5 : am_XS L xs i 5 a5) (h6 : am_XS L xs i 6 a6) {μ m2 : am_M} {v κ : Int} (hM : M_free a1 a2 a3 a4 a5 μ = some (v, m2)) (hc : (κ = 0 ∧ m2 1000 0 = 0 ∧ m2 2000 0 = v) ∨ (κ = 1 ∧ m2 1000 0 = 1)) (hK : P 1201 [(0, (3, 0)), (1, (2, 0)), (2, (2, 1000)), (3, (2, 2000)), (4, (0, i))] [] m2) : P 731 [(0, (3, 0)), (1, (2, 0)), (2, (2, 1000)), (3, (2, 2000)), (4, (0, i))] [(0, κ)] μ := by
  refine ru_sls hP 6 (pc' := 739) (ls' := [(5, (0, κ)), (0, (3, 0)), (1, (2, 0)), (2, (2, 1000)), (3, (2, 2000)), (4, (0, i))]) (st' := [(0, w32 (i + 1)), (3, 0), (2, 1000)]) rfl ?_
  refine ru_xald hP (v := a1) rfl rfl rfl h1 ?_
  refine ru_sls hP 4 (pc' := 745) (ls' := [(5, (0, κ)), (0, (3, 0)), (1, (2, 0)), (2, (2, 1000)), (3, (2, 2000)), (4, (0, i))]) (st' := [(0, w32 (i + 2)), (3, 0), (0, a1), (2, 1000)]) rfl ?_
  refine ru_xald hP (v := a2) rfl rfl rfl h2 ?_
  refine ru_sls hP 4 (pc' := 751) (ls' := [(5, (0, κ)), (0, (3, 0)), (1, (2, 0)), (2, (2, 1000)), (3, (2, 2000)), (4, (0, i))]) (st' := [(0, w32 (i + 3)), (3, 0), (0, a2), (0, a1), (2, 1000)]) rfl ?_
  refine ru_xald hP (v := a3) rfl rfl rfl h3 ?_
  refine ru_sls hP 4 (pc' := 757) (ls' := [(5, (0, κ)), (0, (3, 0)), (1, (2, 0)), (2, (2, 1000)), (3, (2, 2000)), (4, (0, i))]) (st' := [(0, w32 (i + 4)), (3, 0), (0, a3), (0, a2), (0, a1), (2, 1000)]) rfl ?_
  refine ru_xald hP (v := a4) rfl rfl rfl h4 ?_
  refine ru_sls hP 4 (pc' := 763) (ls' := [(5, (0, κ)), (0, (3, 0)), (1, (2, 0)), (2, (2, 1000)), (3, (2, 2000)), (4, (0, i))]) (st' := [(0, w32 (i + 5)), (3, 0), (0, a4), (0, a3), (0, a2), (0, a1), (2, 1000)]) rfl ?_
  refine ru_xald hP (v := a5) rfl rfl rfl h5 ?_
  refine ru_call hP 0 [(2, 1000), (0, a1), (0, a2), (0, a3), (0, a4), (0, a5)] (r := []) rfl ⟨rfl, Or.inl ⟨_, rfl, by decide⟩⟩ (by decide) (fun _ => ⟨_, rfl, rfl⟩) rfl rfl (Nat.le_of_ble_eq_true rfl) (t_M_free 74 _ _ _ _ _ _ _ hM) ?_
  refine ru_sls hP 2 (pc' := 770) (ls' := [(6, (0, v)), (5, (0, κ)), (0, (3, 0)), (1, (2, 0)), (2, (2, 1000)), (3, (2, 2000)), (4, (0, i))]) (st' := [(2, 1000)]) rfl ?_
  refine ru_call hP 0 [(2, 1000)] (r := []) rfl ⟨rfl, Or.inl ⟨_, rfl, by decide⟩⟩ (by decide) (fun _ => ⟨_, rfl, rfl⟩) rfl rfl (Nat.le_of_ble_eq_true rfl) (t_M_thrown 79 _ _ (show M_thrown m2 = some (m2 1000 0, m2) from rfl)) ?_
  refine ru_sls hP 1 (pc' := 775) (ls' := [(6, (0, v)), (5, (0, κ)), (0, (3, 0)), (1, (2, 0)), (2, (2, 1000)), (3, (2, 2000)), (4, (0, i))]) (st' := [(0, κ), (0, m2 1000 0)]) rfl ?_
  refine ru_icT hP (t := 780) rfl rfl rfl (show m2 1000 0 = κ by omega) ?_
  refine ru_sls hP 1 (pc' := 782) (ls' := [(6, (0, v)), (5, (0, κ)), (0, (3, 0)), (1, (2, 0)), (2, (2, 1000)), (3, (2, 2000)), (4, (0, i))]) (st' := [(0, κ)]) rfl ?_
  rcases hc with ⟨c, -, c2⟩ | ⟨c, -⟩
  · refine ru_ifF hP rfl rfl (fun z => z c) ?_
    refine ru_sls hP 2 (pc' := 787) (ls' := [(6, (0, v)), (5, (0, κ)), (0, (3, 0)), (1, (2, 0)), (2, (2, 1000)), (3, (2, 2000)), (4, (0, i))]) (st' := [(0, 0), (2, 2000)]) rfl ?_
    refine ru_lald hP (n := 1) rfl rfl shp_out (by decide) (by decide) ?_
    refine ru_sls hP 3 (pc' := 792) (ls' := [(6, (0, v)), (5, (0, κ)), (0, (3, 0)), (1, (2, 0)), (2, (2, 1000)), (3, (2, 2000)), (4, (0, i))]) (st' := [(0, lCmp (m2 2000 0) v)]) rfl ?_
    refine ru_ifT hP (t := 797) rfl rfl rfl (show lCmp (m2 2000 0) v = 0 by rw [c2]; exact lCmp_z v) ?_
    refine ru_goto hP (t := 1201) rfl rfl rfl ?_
    exact ru_sub hP [2, 3, 4, 5, 6] rfl hK
  · refine ru_ifT hP (t := 797) rfl rfl rfl (show κ ≠ 0 by omega) ?_
    refine ru_goto hP (t := 1201) rfl rfl rfl ?_
    exact ru_sub hP [2, 3, 4, 5, 6] rfl hK
set_option maxRecDepth 20000 in
theorem lc_13 {P : am_P} {L : Nat} {xs : Nat → Int32} (hP : am_rul (some (L, xs)) (am_ar g_mt 80) 7 (some .int) k_law_13 (none, fun _ _ => 0) P) {i a1 a2 a3 a4 a5 a6 : Int} (h1 : am_XS L xs i 1 a1) (h2 : am_XS L xs i 2 a2) (h3 : am_XS L xs i 3 a3) (h4 : am_XS L xs i 4 a4) (h5 : am_XS L xs i 5 a5) (h6 : am_XS L xs i 6 a6) (hK : ∀ μ, GR μ μ → P 1201 [(0, (3, 0)), (1, (2, 0)), (2, (2, 1000)), (3, (2, 2000)), (4, (0, i))] [] μ) {μ : am_M} (g : GR μ μ) : P 800 [(0, (3, 0)), (1, (2, 0)), (2, (2, 1000)), (3, (2, 2000)), (4, (0, i))] [] μ := by
  obtain ⟨r, m1, m2, x1, x2, g2⟩ := (ways_t a1 a2).one g
  refine ru_sls hP 5 (pc' := 806) (ls' := [(0, (3, 0)), (1, (2, 0)), (2, (2, 1000)), (3, (2, 2000)), (4, (0, i))]) (st' := [(0, w32 (i + 1)), (3, 0), (2, 0)]) rfl ?_
  refine ru_xald hP (v := a1) rfl rfl rfl h1 ?_
  refine ru_sls hP 4 (pc' := 812) (ls' := [(0, (3, 0)), (1, (2, 0)), (2, (2, 1000)), (3, (2, 2000)), (4, (0, i))]) (st' := [(0, w32 (i + 2)), (3, 0), (0, a1), (2, 0)]) rfl ?_
  refine ru_xald hP (v := a2) rfl rfl rfl h2 ?_
  refine ru_call hP 0 [(2, 0), (0, a1), (0, a2)] (r := []) rfl ⟨rfl, Or.inl ⟨_, rfl, by decide⟩⟩ (by decide) (fun _ => ⟨_, rfl, rfl⟩) rfl rfl (Nat.le_of_ble_eq_true rfl) (t_X_ways 74 _ _ _ _ x1) ?_
  refine ru_sls hP 5 (pc' := 822) (ls' := [(0, (3, 0)), (1, (2, 0)), (2, (2, 1000)), (3, (2, 2000)), (4, (0, i))]) (st' := [(0, w32 (i + 1)), (3, 0), (2, 1000), (0, r)]) rfl ?_
  refine ru_xald hP (v := a1) rfl rfl rfl h1 ?_
  refine ru_sls hP 4 (pc' := 828) (ls' := [(0, (3, 0)), (1, (2, 0)), (2, (2, 1000)), (3, (2, 2000)), (4, (0, i))]) (st' := [(0, w32 (i + 2)), (3, 0), (0, a1), (2, 1000), (0, r)]) rfl ?_
  refine ru_xald hP (v := a2) rfl rfl rfl h2 ?_
  refine ru_call hP 0 [(2, 1000), (0, a1), (0, a2)] (r := [(0, r)]) rfl ⟨rfl, Or.inl ⟨_, rfl, by decide⟩⟩ (by decide) (fun _ => ⟨_, rfl, rfl⟩) rfl rfl (Nat.le_of_ble_eq_true rfl) (t_M_ways 13 _ _ _ _ x2) ?_
  exact ru_icT hP (t := 1201) rfl rfl rfl rfl (hK _ g2)
set_option maxRecDepth 20000 in
theorem lc_14 {P : am_P} {L : Nat} {xs : Nat → Int32} (hP : am_rul (some (L, xs)) (am_ar g_mt 80) 7 (some .int) k_law_14 (none, fun _ _ => 0) P) {i a1 a2 a3 a4 a5 a6 : Int} (h1 : am_XS L xs i 1 a1) (h2 : am_XS L xs i 2 a2) (h3 : am_XS L xs i 3 a3) (h4 : am_XS L xs i 4 a4) (h5 : am_XS L xs i 5 a5) (h6 : am_XS L xs i 6 a6) (hK : ∀ μ, GR μ μ → P 1201 [(0, (3, 0)), (1, (2, 0)), (2, (2, 1000)), (3, (2, 2000)), (4, (0, i))] [] μ) {μ : am_M} (g : GR μ μ) : P 837 [(0, (3, 0)), (1, (2, 0)), (2, (2, 1000)), (3, (2, 2000)), (4, (0, i))] [] μ := by
  obtain ⟨r, m1, m2, x1, x2, g2⟩ := (reads_t a1 a2 a3).one g
  refine ru_sls hP 5 (pc' := 843) (ls' := [(0, (3, 0)), (1, (2, 0)), (2, (2, 1000)), (3, (2, 2000)), (4, (0, i))]) (st' := [(0, w32 (i + 1)), (3, 0), (2, 0)]) rfl ?_
  refine ru_xald hP (v := a1) rfl rfl rfl h1 ?_
  refine ru_sls hP 4 (pc' := 849) (ls' := [(0, (3, 0)), (1, (2, 0)), (2, (2, 1000)), (3, (2, 2000)), (4, (0, i))]) (st' := [(0, w32 (i + 2)), (3, 0), (0, a1), (2, 0)]) rfl ?_
  refine ru_xald hP (v := a2) rfl rfl rfl h2 ?_
  refine ru_sls hP 4 (pc' := 855) (ls' := [(0, (3, 0)), (1, (2, 0)), (2, (2, 1000)), (3, (2, 2000)), (4, (0, i))]) (st' := [(0, w32 (i + 3)), (3, 0), (0, a2), (0, a1), (2, 0)]) rfl ?_
  refine ru_xald hP (v := a3) rfl rfl rfl h3 ?_
  refine ru_call hP 0 [(2, 0), (0, a1), (0, a2), (0, a3)] (r := []) rfl ⟨rfl, Or.inl ⟨_, rfl, by decide⟩⟩ (by decide) (fun _ => ⟨_, rfl, rfl⟩) rfl rfl (Nat.le_of_ble_eq_true rfl) (t_X_reads 74 _ _ _ _ _ x1) ?_
  refine ru_sls hP 5 (pc' := 865) (ls' := [(0, (3, 0)), (1, (2, 0)), (2, (2, 1000)), (3, (2, 2000)), (4, (0, i))]) (st' := [(0, w32 (i + 1)), (3, 0), (2, 1000), (0, r)]) rfl ?_
  refine ru_xald hP (v := a1) rfl rfl rfl h1 ?_
  refine ru_sls hP 4 (pc' := 871) (ls' := [(0, (3, 0)), (1, (2, 0)), (2, (2, 1000)), (3, (2, 2000)), (4, (0, i))]) (st' := [(0, w32 (i + 2)), (3, 0), (0, a1), (2, 1000), (0, r)]) rfl ?_
  refine ru_xald hP (v := a2) rfl rfl rfl h2 ?_
  refine ru_sls hP 4 (pc' := 877) (ls' := [(0, (3, 0)), (1, (2, 0)), (2, (2, 1000)), (3, (2, 2000)), (4, (0, i))]) (st' := [(0, w32 (i + 3)), (3, 0), (0, a2), (0, a1), (2, 1000), (0, r)]) rfl ?_
  refine ru_xald hP (v := a3) rfl rfl rfl h3 ?_
  refine ru_call hP 0 [(2, 1000), (0, a1), (0, a2), (0, a3)] (r := [(0, r)]) rfl ⟨rfl, Or.inl ⟨_, rfl, by decide⟩⟩ (by decide) (fun _ => ⟨_, rfl, rfl⟩) rfl rfl (Nat.le_of_ble_eq_true rfl) (t_M_reads 13 _ _ _ _ _ x2) ?_
  exact ru_icT hP (t := 1201) rfl rfl rfl rfl (hK _ g2)
set_option maxRecDepth 20000 in
theorem lc_15 {P : am_P} {L : Nat} {xs : Nat → Int32} (hP : am_rul (some (L, xs)) (am_ar g_mt 80) 7 (some .int) k_law_15 (none, fun _ _ => 0) P) {i a1 a2 a3 a4 a5 a6 : Int} (h1 : am_XS L xs i 1 a1) (h2 : am_XS L xs i 2 a2) (h3 : am_XS L xs i 3 a3) (h4 : am_XS L xs i 4 a4) (h5 : am_XS L xs i 5 a5) (h6 : am_XS L xs i 6 a6) (hK : ∀ μ, GR μ μ → P 1201 [(0, (3, 0)), (1, (2, 0)), (2, (2, 1000)), (3, (2, 2000)), (4, (0, i))] [] μ) {μ : am_M} (g : GR μ μ) : P 886 [(0, (3, 0)), (1, (2, 0)), (2, (2, 1000)), (3, (2, 2000)), (4, (0, i))] [] μ := by
  obtain ⟨r, m1, m2, x1, x2, g2⟩ := (needs_t a1 a2).one g
  refine ru_sls hP 5 (pc' := 892) (ls' := [(0, (3, 0)), (1, (2, 0)), (2, (2, 1000)), (3, (2, 2000)), (4, (0, i))]) (st' := [(0, w32 (i + 1)), (3, 0), (2, 0)]) rfl ?_
  refine ru_xald hP (v := a1) rfl rfl rfl h1 ?_
  refine ru_sls hP 4 (pc' := 898) (ls' := [(0, (3, 0)), (1, (2, 0)), (2, (2, 1000)), (3, (2, 2000)), (4, (0, i))]) (st' := [(0, w32 (i + 2)), (3, 0), (0, a1), (2, 0)]) rfl ?_
  refine ru_xald hP (v := a2) rfl rfl rfl h2 ?_
  refine ru_call hP 0 [(2, 0), (0, a1), (0, a2)] (r := []) rfl ⟨rfl, Or.inl ⟨_, rfl, by decide⟩⟩ (by decide) (fun _ => ⟨_, rfl, rfl⟩) rfl rfl (Nat.le_of_ble_eq_true rfl) (t_X_needs 73 _ _ _ _ x1) ?_
  refine ru_sls hP 5 (pc' := 908) (ls' := [(0, (3, 0)), (1, (2, 0)), (2, (2, 1000)), (3, (2, 2000)), (4, (0, i))]) (st' := [(0, w32 (i + 1)), (3, 0), (2, 1000), (0, r)]) rfl ?_
  refine ru_xald hP (v := a1) rfl rfl rfl h1 ?_
  refine ru_sls hP 4 (pc' := 914) (ls' := [(0, (3, 0)), (1, (2, 0)), (2, (2, 1000)), (3, (2, 2000)), (4, (0, i))]) (st' := [(0, w32 (i + 2)), (3, 0), (0, a1), (2, 1000), (0, r)]) rfl ?_
  refine ru_xald hP (v := a2) rfl rfl rfl h2 ?_
  refine ru_call hP 0 [(2, 1000), (0, a1), (0, a2)] (r := [(0, r)]) rfl ⟨rfl, Or.inl ⟨_, rfl, by decide⟩⟩ (by decide) (fun _ => ⟨_, rfl, rfl⟩) rfl rfl (Nat.le_of_ble_eq_true rfl) (t_M_needs 12 _ _ _ _ x2) ?_
  exact ru_icT hP (t := 1201) rfl rfl rfl rfl (hK _ g2)
set_option maxRecDepth 20000 in
theorem lc_16 {P : am_P} {L : Nat} {xs : Nat → Int32} (hP : am_rul (some (L, xs)) (am_ar g_mt 80) 7 (some .int) k_law_16 (none, fun _ _ => 0) P) {i a1 a2 a3 a4 a5 a6 : Int} (h1 : am_XS L xs i 1 a1) (h2 : am_XS L xs i 2 a2) (h3 : am_XS L xs i 3 a3) (h4 : am_XS L xs i 4 a4) (h5 : am_XS L xs i 5 a5) (h6 : am_XS L xs i 6 a6) (hK : ∀ μ, GR μ μ → P 1201 [(0, (3, 0)), (1, (2, 0)), (2, (2, 1000)), (3, (2, 2000)), (4, (0, i))] [] μ) {μ : am_M} (g : GR μ μ) : P 923 [(0, (3, 0)), (1, (2, 0)), (2, (2, 1000)), (3, (2, 2000)), (4, (0, i))] [] μ := by
  obtain ⟨r, m1, m2, x1, x2, g2⟩ := (plain_t a1).one g
  refine ru_sls hP 5 (pc' := 929) (ls' := [(0, (3, 0)), (1, (2, 0)), (2, (2, 1000)), (3, (2, 2000)), (4, (0, i))]) (st' := [(0, w32 (i + 1)), (3, 0), (2, 0)]) rfl ?_
  refine ru_xald hP (v := a1) rfl rfl rfl h1 ?_
  refine ru_call hP 0 [(2, 0), (0, a1)] (r := []) rfl ⟨rfl, Or.inl ⟨_, rfl, by decide⟩⟩ (by decide) (fun _ => ⟨_, rfl, rfl⟩) rfl rfl (Nat.le_of_ble_eq_true rfl) (t_X_plain 75 _ _ _ x1) ?_
  refine ru_sls hP 5 (pc' := 939) (ls' := [(0, (3, 0)), (1, (2, 0)), (2, (2, 1000)), (3, (2, 2000)), (4, (0, i))]) (st' := [(0, w32 (i + 1)), (3, 0), (2, 1000), (0, r)]) rfl ?_
  refine ru_xald hP (v := a1) rfl rfl rfl h1 ?_
  refine ru_call hP 0 [(2, 1000), (0, a1)] (r := [(0, r)]) rfl ⟨rfl, Or.inl ⟨_, rfl, by decide⟩⟩ (by decide) (fun _ => ⟨_, rfl, rfl⟩) rfl rfl (Nat.le_of_ble_eq_true rfl) (t_M_plain 76 _ _ _ x2) ?_
  exact ru_icT hP (t := 1201) rfl rfl rfl rfl (hK _ g2)
set_option maxRecDepth 20000 in
theorem lc_17 {P : am_P} {L : Nat} {xs : Nat → Int32} (hP : am_rul (some (L, xs)) (am_ar g_mt 80) 7 (some .int) k_law_17 (none, fun _ _ => 0) P) {i a1 a2 a3 a4 a5 a6 : Int} (h1 : am_XS L xs i 1 a1) (h2 : am_XS L xs i 2 a2) (h3 : am_XS L xs i 3 a3) (h4 : am_XS L xs i 4 a4) (h5 : am_XS L xs i 5 a5) (h6 : am_XS L xs i 6 a6) (hK : ∀ μ, GR μ μ → P 1201 [(0, (3, 0)), (1, (2, 0)), (2, (2, 1000)), (3, (2, 2000)), (4, (0, i))] [] μ) {μ : am_M} (g : GR μ μ) : P 948 [(0, (3, 0)), (1, (2, 0)), (2, (2, 1000)), (3, (2, 2000)), (4, (0, i))] [] μ := by
  obtain ⟨r, m1, m2, x1, x2, g2⟩ := (fewest_t a1).one g
  refine ru_sls hP 5 (pc' := 954) (ls' := [(0, (3, 0)), (1, (2, 0)), (2, (2, 1000)), (3, (2, 2000)), (4, (0, i))]) (st' := [(0, w32 (i + 1)), (3, 0), (2, 0)]) rfl ?_
  refine ru_xald hP (v := a1) rfl rfl rfl h1 ?_
  refine ru_call hP 0 [(2, 0), (0, a1)] (r := []) rfl ⟨rfl, Or.inl ⟨_, rfl, by decide⟩⟩ (by decide) (fun _ => ⟨_, rfl, rfl⟩) rfl rfl (Nat.le_of_ble_eq_true rfl) (t_X_fewest 73 _ _ _ x1) ?_
  refine ru_sls hP 5 (pc' := 964) (ls' := [(0, (3, 0)), (1, (2, 0)), (2, (2, 1000)), (3, (2, 2000)), (4, (0, i))]) (st' := [(0, w32 (i + 1)), (3, 0), (2, 1000), (0, r)]) rfl ?_
  refine ru_xald hP (v := a1) rfl rfl rfl h1 ?_
  refine ru_call hP 0 [(2, 1000), (0, a1)] (r := [(0, r)]) rfl ⟨rfl, Or.inl ⟨_, rfl, by decide⟩⟩ (by decide) (fun _ => ⟨_, rfl, rfl⟩) rfl rfl (Nat.le_of_ble_eq_true rfl) (t_M_fewest 75 _ _ _ x2) ?_
  exact ru_icT hP (t := 1201) rfl rfl rfl rfl (hK _ g2)
set_option maxRecDepth 20000 in
theorem lc_18 {P : am_P} {L : Nat} {xs : Nat → Int32} (hP : am_rul (some (L, xs)) (am_ar g_mt 80) 7 (some .int) k_law_18 (none, fun _ _ => 0) P) {i a1 a2 a3 a4 a5 a6 : Int} (h1 : am_XS L xs i 1 a1) (h2 : am_XS L xs i 2 a2) (h3 : am_XS L xs i 3 a3) (h4 : am_XS L xs i 4 a4) (h5 : am_XS L xs i 5 a5) (h6 : am_XS L xs i 6 a6) (hK : ∀ μ, GR μ μ → P 1201 [(0, (3, 0)), (1, (2, 0)), (2, (2, 1000)), (3, (2, 2000)), (4, (0, i))] [] μ) {μ : am_M} (g : GR μ μ) : P 973 [(0, (3, 0)), (1, (2, 0)), (2, (2, 1000)), (3, (2, 2000)), (4, (0, i))] [] μ := by
  obtain ⟨r, m1, m2, x1, x2, g2⟩ := (order_t a1 a2).one g
  refine ru_sls hP 5 (pc' := 979) (ls' := [(0, (3, 0)), (1, (2, 0)), (2, (2, 1000)), (3, (2, 2000)), (4, (0, i))]) (st' := [(0, w32 (i + 1)), (3, 0), (2, 0)]) rfl ?_
  refine ru_xald hP (v := a1) rfl rfl rfl h1 ?_
  refine ru_sls hP 4 (pc' := 985) (ls' := [(0, (3, 0)), (1, (2, 0)), (2, (2, 1000)), (3, (2, 2000)), (4, (0, i))]) (st' := [(0, w32 (i + 2)), (3, 0), (0, a1), (2, 0)]) rfl ?_
  refine ru_xald hP (v := a2) rfl rfl rfl h2 ?_
  refine ru_call hP 0 [(2, 0), (0, a1), (0, a2)] (r := []) rfl ⟨rfl, Or.inl ⟨_, rfl, by decide⟩⟩ (by decide) (fun _ => ⟨_, rfl, rfl⟩) rfl rfl (Nat.le_of_ble_eq_true rfl) (t_X_order 73 _ _ _ _ x1) ?_
  refine ru_sls hP 5 (pc' := 995) (ls' := [(0, (3, 0)), (1, (2, 0)), (2, (2, 1000)), (3, (2, 2000)), (4, (0, i))]) (st' := [(0, w32 (i + 1)), (3, 0), (2, 1000), (0, r)]) rfl ?_
  refine ru_xald hP (v := a1) rfl rfl rfl h1 ?_
  refine ru_sls hP 4 (pc' := 1001) (ls' := [(0, (3, 0)), (1, (2, 0)), (2, (2, 1000)), (3, (2, 2000)), (4, (0, i))]) (st' := [(0, w32 (i + 2)), (3, 0), (0, a1), (2, 1000), (0, r)]) rfl ?_
  refine ru_xald hP (v := a2) rfl rfl rfl h2 ?_
  refine ru_call hP 0 [(2, 1000), (0, a1), (0, a2)] (r := [(0, r)]) rfl ⟨rfl, Or.inl ⟨_, rfl, by decide⟩⟩ (by decide) (fun _ => ⟨_, rfl, rfl⟩) rfl rfl (Nat.le_of_ble_eq_true rfl) (t_M_order 75 _ _ _ _ x2) ?_
  exact ru_icT hP (t := 1201) rfl rfl rfl rfl (hK _ g2)
set_option maxRecDepth 20000 in
theorem lc_19 {P : am_P} {L : Nat} {xs : Nat → Int32} (hP : am_rul (some (L, xs)) (am_ar g_mt 80) 7 (some .int) k_law_19 (none, fun _ _ => 0) P) {i a1 a2 a3 a4 a5 a6 : Int} (h1 : am_XS L xs i 1 a1) (h2 : am_XS L xs i 2 a2) (h3 : am_XS L xs i 3 a3) (h4 : am_XS L xs i 4 a4) (h5 : am_XS L xs i 5 a5) (h6 : am_XS L xs i 6 a6) (hK : ∀ μ, GR μ μ → P 1201 [(0, (3, 0)), (1, (2, 0)), (2, (2, 1000)), (3, (2, 2000)), (4, (0, i))] [] μ) {μ : am_M} (g : GR μ μ) : P 1010 [(0, (3, 0)), (1, (2, 0)), (2, (2, 1000)), (3, (2, 2000)), (4, (0, i))] [] μ := by
  obtain ⟨r, m1, m2, x1, x2, g2⟩ := (asTold_t a1).one g
  refine ru_sls hP 5 (pc' := 1016) (ls' := [(0, (3, 0)), (1, (2, 0)), (2, (2, 1000)), (3, (2, 2000)), (4, (0, i))]) (st' := [(0, w32 (i + 1)), (3, 0), (2, 0)]) rfl ?_
  refine ru_xald hP (v := a1) rfl rfl rfl h1 ?_
  refine ru_call hP 0 [(2, 0), (0, a1)] (r := []) rfl ⟨rfl, Or.inl ⟨_, rfl, by decide⟩⟩ (by decide) (fun _ => ⟨_, rfl, rfl⟩) rfl rfl (Nat.le_of_ble_eq_true rfl) (t_X_asTold 73 _ _ _ x1) ?_
  refine ru_sls hP 5 (pc' := 1026) (ls' := [(0, (3, 0)), (1, (2, 0)), (2, (2, 1000)), (3, (2, 2000)), (4, (0, i))]) (st' := [(0, w32 (i + 1)), (3, 0), (2, 1000), (0, r)]) rfl ?_
  refine ru_xald hP (v := a1) rfl rfl rfl h1 ?_
  refine ru_call hP 0 [(2, 1000), (0, a1)] (r := [(0, r)]) rfl ⟨rfl, Or.inl ⟨_, rfl, by decide⟩⟩ (by decide) (fun _ => ⟨_, rfl, rfl⟩) rfl rfl (Nat.le_of_ble_eq_true rfl) (t_M_asTold 75 _ _ _ x2) ?_
  exact ru_icT hP (t := 1201) rfl rfl rfl rfl (hK _ g2)
set_option maxRecDepth 20000 in
theorem lc_20 {P : am_P} {L : Nat} {xs : Nat → Int32} (hP : am_rul (some (L, xs)) (am_ar g_mt 80) 7 (some .int) k_law_20 (none, fun _ _ => 0) P) {i a1 a2 a3 a4 a5 a6 : Int} (h1 : am_XS L xs i 1 a1) (h2 : am_XS L xs i 2 a2) (h3 : am_XS L xs i 3 a3) (h4 : am_XS L xs i 4 a4) (h5 : am_XS L xs i 5 a5) (h6 : am_XS L xs i 6 a6) (hK : ∀ μ, GR μ μ → P 1201 [(0, (3, 0)), (1, (2, 0)), (2, (2, 1000)), (3, (2, 2000)), (4, (0, i))] [] μ) {μ : am_M} (g : GR μ μ) : P 1035 [(0, (3, 0)), (1, (2, 0)), (2, (2, 1000)), (3, (2, 2000)), (4, (0, i))] [] μ := by
  obtain ⟨r, m1, m2, x1, x2, g2⟩ := (orders_t a1 a2).one g
  refine ru_sls hP 5 (pc' := 1041) (ls' := [(0, (3, 0)), (1, (2, 0)), (2, (2, 1000)), (3, (2, 2000)), (4, (0, i))]) (st' := [(0, w32 (i + 1)), (3, 0), (2, 0)]) rfl ?_
  refine ru_xald hP (v := a1) rfl rfl rfl h1 ?_
  refine ru_sls hP 4 (pc' := 1047) (ls' := [(0, (3, 0)), (1, (2, 0)), (2, (2, 1000)), (3, (2, 2000)), (4, (0, i))]) (st' := [(0, w32 (i + 2)), (3, 0), (0, a1), (2, 0)]) rfl ?_
  refine ru_xald hP (v := a2) rfl rfl rfl h2 ?_
  refine ru_call hP 0 [(2, 0), (0, a1), (0, a2)] (r := []) rfl ⟨rfl, Or.inl ⟨_, rfl, by decide⟩⟩ (by decide) (fun _ => ⟨_, rfl, rfl⟩) rfl rfl (Nat.le_of_ble_eq_true rfl) (t_X_orders 73 _ _ _ _ x1) ?_
  refine ru_sls hP 5 (pc' := 1057) (ls' := [(0, (3, 0)), (1, (2, 0)), (2, (2, 1000)), (3, (2, 2000)), (4, (0, i))]) (st' := [(0, w32 (i + 1)), (3, 0), (2, 1000), (1, r)]) rfl ?_
  refine ru_xald hP (v := a1) rfl rfl rfl h1 ?_
  refine ru_sls hP 4 (pc' := 1063) (ls' := [(0, (3, 0)), (1, (2, 0)), (2, (2, 1000)), (3, (2, 2000)), (4, (0, i))]) (st' := [(0, w32 (i + 2)), (3, 0), (0, a1), (2, 1000), (1, r)]) rfl ?_
  refine ru_xald hP (v := a2) rfl rfl rfl h2 ?_
  refine ru_call hP 0 [(2, 1000), (0, a1), (0, a2)] (r := [(1, r)]) rfl ⟨rfl, Or.inl ⟨_, rfl, by decide⟩⟩ (by decide) (fun _ => ⟨_, rfl, rfl⟩) rfl rfl (Nat.le_of_ble_eq_true rfl) (t_M_orders 75 _ _ _ _ x2) ?_
  refine ru_sls hP 1 (pc' := 1068) (ls' := [(0, (3, 0)), (1, (2, 0)), (2, (2, 1000)), (3, (2, 2000)), (4, (0, i))]) (st' := [(0, lCmp r r)]) rfl ?_
  exact ru_ifT hP (t := 1201) rfl rfl rfl (lCmp_z r) (hK _ g2)
set_option maxRecDepth 20000 in
theorem lc_21 {P : am_P} {L : Nat} {xs : Nat → Int32} (hP : am_rul (some (L, xs)) (am_ar g_mt 80) 7 (some .int) k_law_21 (none, fun _ _ => 0) P) {i a1 a2 a3 a4 a5 a6 : Int} (h1 : am_XS L xs i 1 a1) (h2 : am_XS L xs i 2 a2) (h3 : am_XS L xs i 3 a3) (h4 : am_XS L xs i 4 a4) (h5 : am_XS L xs i 5 a5) (h6 : am_XS L xs i 6 a6) (hK : ∀ μ, GR μ μ → P 1201 [(0, (3, 0)), (1, (2, 0)), (2, (2, 1000)), (3, (2, 2000)), (4, (0, i))] [] μ) {μ : am_M} (g : GR μ μ) : P 1073 [(0, (3, 0)), (1, (2, 0)), (2, (2, 1000)), (3, (2, 2000)), (4, (0, i))] [] μ := by
  obtain ⟨r, m1, m2, x1, x2, g2⟩ := (cheapest_t a1 a2 a3).one g
  refine ru_sls hP 5 (pc' := 1079) (ls' := [(0, (3, 0)), (1, (2, 0)), (2, (2, 1000)), (3, (2, 2000)), (4, (0, i))]) (st' := [(0, w32 (i + 1)), (3, 0), (2, 0)]) rfl ?_
  refine ru_xald hP (v := a1) rfl rfl rfl h1 ?_
  refine ru_sls hP 4 (pc' := 1085) (ls' := [(0, (3, 0)), (1, (2, 0)), (2, (2, 1000)), (3, (2, 2000)), (4, (0, i))]) (st' := [(0, w32 (i + 2)), (3, 0), (0, a1), (2, 0)]) rfl ?_
  refine ru_xald hP (v := a2) rfl rfl rfl h2 ?_
  refine ru_sls hP 4 (pc' := 1091) (ls' := [(0, (3, 0)), (1, (2, 0)), (2, (2, 1000)), (3, (2, 2000)), (4, (0, i))]) (st' := [(0, w32 (i + 3)), (3, 0), (0, a2), (0, a1), (2, 0)]) rfl ?_
  refine ru_xald hP (v := a3) rfl rfl rfl h3 ?_
  refine ru_call hP 0 [(2, 0), (0, a1), (0, a2), (0, a3)] (r := []) rfl ⟨rfl, Or.inl ⟨_, rfl, by decide⟩⟩ (by decide) (fun _ => ⟨_, rfl, rfl⟩) rfl rfl (Nat.le_of_ble_eq_true rfl) (t_X_cheapest 73 _ _ _ _ _ x1) ?_
  refine ru_sls hP 5 (pc' := 1101) (ls' := [(0, (3, 0)), (1, (2, 0)), (2, (2, 1000)), (3, (2, 2000)), (4, (0, i))]) (st' := [(0, w32 (i + 1)), (3, 0), (2, 1000), (1, r)]) rfl ?_
  refine ru_xald hP (v := a1) rfl rfl rfl h1 ?_
  refine ru_sls hP 4 (pc' := 1107) (ls' := [(0, (3, 0)), (1, (2, 0)), (2, (2, 1000)), (3, (2, 2000)), (4, (0, i))]) (st' := [(0, w32 (i + 2)), (3, 0), (0, a1), (2, 1000), (1, r)]) rfl ?_
  refine ru_xald hP (v := a2) rfl rfl rfl h2 ?_
  refine ru_sls hP 4 (pc' := 1113) (ls' := [(0, (3, 0)), (1, (2, 0)), (2, (2, 1000)), (3, (2, 2000)), (4, (0, i))]) (st' := [(0, w32 (i + 3)), (3, 0), (0, a2), (0, a1), (2, 1000), (1, r)]) rfl ?_
  refine ru_xald hP (v := a3) rfl rfl rfl h3 ?_
  refine ru_call hP 0 [(2, 1000), (0, a1), (0, a2), (0, a3)] (r := [(1, r)]) rfl ⟨rfl, Or.inl ⟨_, rfl, by decide⟩⟩ (by decide) (fun _ => ⟨_, rfl, rfl⟩) rfl rfl (Nat.le_of_ble_eq_true rfl) (t_M_cheapest 76 _ _ _ _ _ x2) ?_
  refine ru_sls hP 1 (pc' := 1118) (ls' := [(0, (3, 0)), (1, (2, 0)), (2, (2, 1000)), (3, (2, 2000)), (4, (0, i))]) (st' := [(0, lCmp r r)]) rfl ?_
  exact ru_ifT hP (t := 1201) rfl rfl rfl (lCmp_z r) (hK _ g2)
set_option maxRecDepth 20000 in
theorem lc_22 {P : am_P} {L : Nat} {xs : Nat → Int32} (hP : am_rul (some (L, xs)) (am_ar g_mt 80) 7 (some .int) k_law_22 (none, fun _ _ => 0) P) {i a1 a2 a3 a4 a5 a6 : Int} (h1 : am_XS L xs i 1 a1) (h2 : am_XS L xs i 2 a2) (h3 : am_XS L xs i 3 a3) (h4 : am_XS L xs i 4 a4) (h5 : am_XS L xs i 5 a5) (h6 : am_XS L xs i 6 a6) (hK : ∀ μ, GR μ μ → P 1201 [(0, (3, 0)), (1, (2, 0)), (2, (2, 1000)), (3, (2, 2000)), (4, (0, i))] [] μ) {μ : am_M} (g : GR μ μ) : P 1123 [(0, (3, 0)), (1, (2, 0)), (2, (2, 1000)), (3, (2, 2000)), (4, (0, i))] [] μ := by
  by_cases c : a2 = 0
  · obtain ⟨r, m1, m2, x1, x2, g2⟩ := (mark_t a1 0).one g
    refine ru_sls hP 5 (pc' := 1129) (ls' := [(0, (3, 0)), (1, (2, 0)), (2, (2, 1000)), (3, (2, 2000)), (4, (0, i))]) (st' := [(0, w32 (i + 1)), (3, 0), (2, 0)]) rfl ?_
    refine ru_xald hP (v := a1) rfl rfl rfl h1 ?_
    refine ru_sls hP 4 (pc' := 1135) (ls' := [(0, (3, 0)), (1, (2, 0)), (2, (2, 1000)), (3, (2, 2000)), (4, (0, i))]) (st' := [(0, w32 (i + 2)), (3, 0), (0, a1), (2, 0)]) rfl ?_
    refine ru_xald hP (v := a2) rfl rfl rfl h2 ?_
    refine ru_ifT hP (t := 1143) rfl rfl rfl c ?_
    refine ru_sls hP 1 (pc' := 1144) (ls' := [(0, (3, 0)), (1, (2, 0)), (2, (2, 1000)), (3, (2, 2000)), (4, (0, i))]) (st' := [(0, 0), (0, a1), (2, 0)]) rfl ?_
    refine ru_call hP 0 [(2, 0), (0, a1), (0, 0)] (r := []) rfl ⟨rfl, Or.inl ⟨_, rfl, by decide⟩⟩ (by decide) (fun _ => ⟨_, rfl, rfl⟩) rfl rfl (Nat.le_of_ble_eq_true rfl) (t_X_mark 78 _ _ _ _ x1) ?_
    refine ru_sls hP 5 (pc' := 1153) (ls' := [(0, (3, 0)), (1, (2, 0)), (2, (2, 1000)), (3, (2, 2000)), (4, (0, i))]) (st' := [(0, w32 (i + 1)), (3, 0), (2, 1000), (0, r)]) rfl ?_
    refine ru_xald hP (v := a1) rfl rfl rfl h1 ?_
    refine ru_sls hP 4 (pc' := 1159) (ls' := [(0, (3, 0)), (1, (2, 0)), (2, (2, 1000)), (3, (2, 2000)), (4, (0, i))]) (st' := [(0, w32 (i + 2)), (3, 0), (0, a1), (2, 1000), (0, r)]) rfl ?_
    refine ru_xald hP (v := a2) rfl rfl rfl h2 ?_
    refine ru_ifT hP (t := 1167) rfl rfl rfl c ?_
    refine ru_sls hP 1 (pc' := 1168) (ls' := [(0, (3, 0)), (1, (2, 0)), (2, (2, 1000)), (3, (2, 2000)), (4, (0, i))]) (st' := [(0, 0), (0, a1), (2, 1000), (0, r)]) rfl ?_
    refine ru_call hP 0 [(2, 1000), (0, a1), (0, 0)] (r := [(0, r)]) rfl ⟨rfl, Or.inl ⟨_, rfl, by decide⟩⟩ (by decide) (fun _ => ⟨_, rfl, rfl⟩) rfl rfl (Nat.le_of_ble_eq_true rfl) (t_M_mark 78 _ _ _ _ x2) ?_
    exact ru_icT hP (t := 1201) rfl rfl rfl rfl (hK _ g2)
  · obtain ⟨r, m1, m2, x1, x2, g2⟩ := (mark_t a1 1).one g
    refine ru_sls hP 5 (pc' := 1129) (ls' := [(0, (3, 0)), (1, (2, 0)), (2, (2, 1000)), (3, (2, 2000)), (4, (0, i))]) (st' := [(0, w32 (i + 1)), (3, 0), (2, 0)]) rfl ?_
    refine ru_xald hP (v := a1) rfl rfl rfl h1 ?_
    refine ru_sls hP 4 (pc' := 1135) (ls' := [(0, (3, 0)), (1, (2, 0)), (2, (2, 1000)), (3, (2, 2000)), (4, (0, i))]) (st' := [(0, w32 (i + 2)), (3, 0), (0, a1), (2, 0)]) rfl ?_
    refine ru_xald hP (v := a2) rfl rfl rfl h2 ?_
    refine ru_ifF hP rfl rfl c ?_
    refine ru_sls hP 1 (pc' := 1140) (ls' := [(0, (3, 0)), (1, (2, 0)), (2, (2, 1000)), (3, (2, 2000)), (4, (0, i))]) (st' := [(0, 1), (0, a1), (2, 0)]) rfl ?_
    refine ru_goto hP (t := 1144) rfl rfl rfl ?_
    refine ru_call hP 0 [(2, 0), (0, a1), (0, 1)] (r := []) rfl ⟨rfl, Or.inl ⟨_, rfl, by decide⟩⟩ (by decide) (fun _ => ⟨_, rfl, rfl⟩) rfl rfl (Nat.le_of_ble_eq_true rfl) (t_X_mark 78 _ _ _ _ x1) ?_
    refine ru_sls hP 5 (pc' := 1153) (ls' := [(0, (3, 0)), (1, (2, 0)), (2, (2, 1000)), (3, (2, 2000)), (4, (0, i))]) (st' := [(0, w32 (i + 1)), (3, 0), (2, 1000), (0, r)]) rfl ?_
    refine ru_xald hP (v := a1) rfl rfl rfl h1 ?_
    refine ru_sls hP 4 (pc' := 1159) (ls' := [(0, (3, 0)), (1, (2, 0)), (2, (2, 1000)), (3, (2, 2000)), (4, (0, i))]) (st' := [(0, w32 (i + 2)), (3, 0), (0, a1), (2, 1000), (0, r)]) rfl ?_
    refine ru_xald hP (v := a2) rfl rfl rfl h2 ?_
    refine ru_ifF hP rfl rfl c ?_
    refine ru_sls hP 1 (pc' := 1164) (ls' := [(0, (3, 0)), (1, (2, 0)), (2, (2, 1000)), (3, (2, 2000)), (4, (0, i))]) (st' := [(0, 1), (0, a1), (2, 1000), (0, r)]) rfl ?_
    refine ru_goto hP (t := 1168) rfl rfl rfl ?_
    refine ru_call hP 0 [(2, 1000), (0, a1), (0, 1)] (r := [(0, r)]) rfl ⟨rfl, Or.inl ⟨_, rfl, by decide⟩⟩ (by decide) (fun _ => ⟨_, rfl, rfl⟩) rfl rfl (Nat.le_of_ble_eq_true rfl) (t_M_mark 78 _ _ _ _ x2) ?_
    exact ru_icT hP (t := 1201) rfl rfl rfl rfl (hK _ g2)
set_option maxRecDepth 20000 in
theorem lc_23 {P : am_P} {L : Nat} {xs : Nat → Int32} (hP : am_rul (some (L, xs)) (am_ar g_mt 80) 7 (some .int) k_law_23 (none, fun _ _ => 0) P) {i a1 a2 a3 a4 a5 a6 : Int} (h1 : am_XS L xs i 1 a1) (h2 : am_XS L xs i 2 a2) (h3 : am_XS L xs i 3 a3) (h4 : am_XS L xs i 4 a4) (h5 : am_XS L xs i 5 a5) (h6 : am_XS L xs i 6 a6) (hK : ∀ μ, GR μ μ → P 1201 [(0, (3, 0)), (1, (2, 0)), (2, (2, 1000)), (3, (2, 2000)), (4, (0, i))] [] μ) {μ : am_M} (g : GR μ μ) : P 1176 [(0, (3, 0)), (1, (2, 0)), (2, (2, 1000)), (3, (2, 2000)), (4, (0, i))] [] μ := by
  obtain ⟨r, m1, m2, x1, x2, g2⟩ := (count_t a1).one g
  refine ru_sls hP 5 (pc' := 1182) (ls' := [(0, (3, 0)), (1, (2, 0)), (2, (2, 1000)), (3, (2, 2000)), (4, (0, i))]) (st' := [(0, w32 (i + 1)), (3, 0), (2, 0)]) rfl ?_
  refine ru_xald hP (v := a1) rfl rfl rfl h1 ?_
  refine ru_call hP 0 [(2, 0), (0, a1)] (r := []) rfl ⟨rfl, Or.inl ⟨_, rfl, by decide⟩⟩ (by decide) (fun _ => ⟨_, rfl, rfl⟩) rfl rfl (Nat.le_of_ble_eq_true rfl) (t_X_count 79 _ _ _ x1) ?_
  refine ru_sls hP 5 (pc' := 1192) (ls' := [(0, (3, 0)), (1, (2, 0)), (2, (2, 1000)), (3, (2, 2000)), (4, (0, i))]) (st' := [(0, w32 (i + 1)), (3, 0), (2, 1000), (0, r)]) rfl ?_
  refine ru_xald hP (v := a1) rfl rfl rfl h1 ?_
  refine ru_call hP 0 [(2, 1000), (0, a1)] (r := [(0, r)]) rfl ⟨rfl, Or.inl ⟨_, rfl, by decide⟩⟩ (by decide) (fun _ => ⟨_, rfl, rfl⟩) rfl rfl (Nat.le_of_ble_eq_true rfl) (t_M_count 78 _ _ _ x2) ?_
  exact ru_icT hP (t := 1201) rfl rfl rfl rfl (hK _ g2)
