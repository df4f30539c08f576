/-! The rules hold of the places from which the machine comes to Q: out of part 13 by program (wip/p27/simg.py). -/
/-- a place of the machine, seen through the abstract memory, from which Q comes -/
def am_PW (p : Program) (l : Launch) (e : Env) (R : Room) (s : State) (m : MethodId) (args : Array Value) (below : List Frame) (meth : Method) (c : Code) (Q : State → Prop) (nL : Nat) (dC : Nat → ClassId) (dI : Nat → Nat → Nat) (ad : Int → Nat) (cT : Nat → ClassId) (sb : Nat) (A : Nat → Prop) (H0 : Heap) (cs ss : am_M → Nat) : am_P := fun pc ls st μ => ∀ (H : Heap) (locs : List Loc) (larr : Array Slot), lv_has larr nL (ls.map (am_cvq ad sb)) → (∀ q ∈ ls, am_in q.2) → (∀ v ∈ st, am_in v) → am_G μ → va_P (dC, dI) g_cl (am_wd ad cT μ) H → va_D A (am_wd ad cT μ) → va_S A H0 H locs → cs μ ≤ R.cells → ss μ ≤ R.slots → W p l e R s m args below meth c H locs (cs μ) (ss μ) Q (F0 m pc larr (st.map (am_cv ad sb)))
section AMW
variable {p : Program} {l : Launch} {e : Env} {R : Room} {s : State} {m : MethodId} {args : Array Value} {below : List Frame} {meth : Method} {c : Code} {H : Heap} {locs : List Loc} {cells slots : Nat} {Q : State → Prop}
variable {cc : ByteArray} {own : String} {nL : Nat} {fl : am_FL} {ml : am_ML} {kl kL : am_KL} {dC : Nat → ClassId} {dI : Nat → Nat → Nat} {cT : Nat → ClassId} {ad : Int → Nat} {sb : Nat} {A : Nat → Prop} {H0 : Heap}
theorem am_simG (C0 : am_cx p s m args c cc nL own fl kl kL dC dI cT) {mt : Nat → Option am_I} (hml : ∀ q ∈ ml, am_mlw mt own q) (hmw : ∀ j I, mt j = some I → am_mw I) (hA : ∀ q, H0.size ≤ q → A q) {cs ss : am_M → Nat} (hcs : ∀ μ μ' : am_M, μ (-1) = μ' (-1) → cs μ = cs μ' ∧ ss μ = ss μ') {CR : am_CR} (hCR : am_CRok mt l R dC dI ad cT sb cs ss CR)
    {C : List am_E} (hC : ∀ en ∈ C, am_okE fl ml kl kL cc en = true) {X : am_X} (hX : am_Xok X sb s A H0) (hRf : 1 ≤ R.frames) (hRl : 60 ≤ R.locals) {rt : Option FieldType} {res : am_R}
    (hv1 : rt = some .int) (hv2 : res.1 = none) :
    am_rul X CR nL rt C res (am_PW p l e R s m args below meth c Q nL dC dI ad cT sb A H0 cs ss) := by
  have C1 := C0
  obtain ⟨hx, hb, hmx, hown, hts, hNW, hK, hfl, -⟩ := C1
  have ok : ∀ {en : am_E} {pc : Nat}, am_at C pc = some en → en.1 = pc ∧ decode cc en.1 = .ok (en.2.1, en.2.2.1) ∧ (am_lenOf en.2.1 = 0 ∨ am_lenOf en.2.1 = en.2.2.1) ∧ am_okI fl ml kl kL en = true ∧ am_okE fl ml kl kL cc en = true := fun he => by
    obtain ⟨h1, h2⟩ := am_at_pc he
    have h3 := hC _ h1
    have h4 := h3
    unfold am_okE at h3
    rw [Bool.and_eq_true, Bool.and_eq_true] at h3
    exact ⟨h2, of_decide_eq_true h3.1, of_decide_eq_true h3.2.1, h3.2.2, h4⟩
  have hd2 : ∀ {v : am_V} {r : am_S}, (∀ w ∈ v :: r, am_in w) → am_in v ∧ ∀ w ∈ r, am_in w := fun h => ⟨h _ List.mem_cons_self, fun w hw => h w (List.mem_cons_of_mem _ hw)⟩
  have cons : ∀ {v : am_V} {r : am_S}, am_in v → (∀ w ∈ r, am_in w) → ∀ w ∈ v :: r, am_in w := fun h1 h2 w hw => (List.mem_cons.mp hw).elim (fun z => z ▸ h1) (h2 w)
  have bit : ∀ {v : Int}, (v = 0 ∨ v = 1) → r32 v := fun h => by unfold r32; omega
  have stcs : ∀ {μ : am_M} {a i v : Int} {k : Nat × Nat}, am_shp a = some k → cs (m_st μ a i v) = cs μ ∧ ss (m_st μ a i v) = ss μ := fun {μ a i v k} h => hcs _ _ (by
    have := am_shp_pos h
    exact m_st_ne (by omega))
  have hdec : ∀ {en : am_E} {i : Instr} {n : Nat}, decode cc en.1 = .ok (en.2.1, en.2.2.1) → (am_lenOf en.2.1 = 0 ∨ am_lenOf en.2.1 = en.2.2.1) → en.2.1 = i → am_lenOf i = n → n ≠ 0 → decode cc en.1 = .ok (i, n) := fun h1 h2 h3 h4 h5 => by
    rw [h3] at h1 h2
    rw [h4] at h2
    rcases h2 with h2 | h2
    · exact absurd h2 h5
    · rw [h1, h2]
  refine ⟨?_, ?_, ?_, ?_, ?_, ?_, ?_, ?_, ?_, ?_, ?_, ?_, ?_, ?_, ?_, ?_, ?_, ?_, ?_, ?_, ?_, ?_, ?_, ?_, ?_⟩
  · intro en pc ls st μ ls' st' he hs k H locs larr hl hls hst hG hP hD hS hc1 hs1
    obtain ⟨rfl, hd, hlen, hoI, hoE⟩ := ok he
    obtain ⟨h1, h2⟩ := am_sl_in hoI (fun L xs hq => (hX L xs hq).1) hG hls hst hs
    exact am_sl_W C0 hX hS hP hl hls hst hoE hs (fun larr' hl' => k H locs larr' hl' h1 h2 hG hP hD hS hc1 hs1)
  · intro en pc ls r μ a i n he hi hs h0 h1 k H locs larr hl hls hst hG hP hD hS hc1 hs1
    obtain ⟨rfl, hd, hlen, hoI, hoE⟩ := ok he
    exact am_W_iald C0 hP (hdec hd hlen hi rfl (by decide)) hs h0 h1 (k H locs larr hl hls (cons (am_in0 ((hG _ _ hs).1 rfl i h0 h1)) (hd2 (hd2 hst).2).2) hG hP hD hS hc1 hs1)
  · intro en pc ls r μ a i n he hi hs h0 h1 k H locs larr hl hls hst hG hP hD hS hc1 hs1
    obtain ⟨rfl, hd, hlen, hoI, hoE⟩ := ok he
    exact am_W_lald C0 hP (hdec hd hlen hi rfl (by decide)) hs h0 h1 (k H locs larr hl hls (cons (am_in1 ((hG _ _ hs).2.1 rfl i h0 h1)) (hd2 (hd2 hst).2).2) hG hP hD hS hc1 hs1)
  · intro en pc ls r μ a i n he hi hs h0 h1 k H locs larr hl hls hst hG hP hD hS hc1 hs1
    obtain ⟨rfl, hd, hlen, hoI, hoE⟩ := ok he
    exact am_W_zald C0 hP (hdec hd hlen hi rfl (by decide)) hs h0 h1 (k H locs larr hl hls (cons (am_in0 (bit ((hG _ _ hs).2.2.1 rfl i h0 h1))) (hd2 (hd2 hst).2).2) hG hP hD hS hc1 hs1)
  · intro en pc ls r μ a i n he hi hs h0 h1 k H locs larr hl hls hst hG hP hD hS hc1 hs1
    obtain ⟨rfl, hd, hlen, hoI, hoE⟩ := ok he
    exact am_W_aald C0 hP (hdec hd hlen hi rfl (by decide)) hs h0 h1 (k H locs larr hl hls (cons (am_in2 (by omega)) (hd2 (hd2 hst).2).2) hG hP hD hS hc1 hs1)
  · intro en pc ls r μ w i L xs he hi hXX h0 h1 k H locs larr hl hls hst hG hP hD hS hc1 hs1
    obtain ⟨rfl, hd, hlen, hoI, hoE⟩ := ok he
    obtain ⟨hL, hx1, hx2, hx3⟩ := hX L xs hXX
    have h9 := k H locs larr hl hls (cons (am_in0 (r32_i _)) (hd2 (hd2 hst).2).2) hG hP hD hS hc1 hs1
    refine va_sld hx hb hx1 hx2 hx3 hS (am_ix h0 h1 hL) (hdec hd hlen hi rfl (by decide)) ?_
    rw [am_clamp h0 (by omega)]
    rw [List.map_cons, am_cv0 rfl, Int32.ofInt_toInt] at h9
    exact h9
  · intro en pc ls r μ a i n v he hi hs h0 h1 k H locs larr hl hls hst hG hP hD hS hc1 hs1
    obtain ⟨rfl, hd, hlen, hoI, hoE⟩ := ok he
    obtain ⟨z1, z2⟩ := stcs (μ := μ) (i := i) (v := v) hs
    refine am_W_iast C0 hP hD hS (hdec hd hlen hi rfl (by decide)) hs h0 h1 (fun H1 locs1 hP1 hD1 hS1 => ?_)
    have h9 := k H1 locs1 larr hl hls (hd2 (hd2 (hd2 hst).2).2).2 (am_G_st hG (fun q hq => by
      have : q = (0, n) := Option.some.inj (hq.symm.trans hs)
      subst this
      exact ⟨fun _ => (hd2 hst).1.1 rfl, fun z => (by cases z), fun z => (by cases z), fun ci z => by simp only at z; omega⟩)) hP1 hD1 hS1 (by rw [z1]; exact hc1) (by rw [z2]; exact hs1)
    exact am_W_same z1 z2 h9
  · intro en pc ls r μ a i n v he hi hs h0 h1 k H locs larr hl hls hst hG hP hD hS hc1 hs1
    obtain ⟨rfl, hd, hlen, hoI, hoE⟩ := ok he
    obtain ⟨z1, z2⟩ := stcs (μ := μ) (i := i) (v := v) hs
    refine am_W_last C0 hP hD hS (hdec hd hlen hi rfl (by decide)) hs h0 h1 (fun H1 locs1 hP1 hD1 hS1 => ?_)
    have h9 := k H1 locs1 larr hl hls (hd2 (hd2 (hd2 hst).2).2).2 (am_G_st hG (fun q hq => by
      have : q = (1, n) := Option.some.inj (hq.symm.trans hs)
      subst this
      exact ⟨fun z => (by cases z), fun _ => (hd2 hst).1.2 rfl, fun z => (by cases z), fun ci z => by simp only at z; omega⟩)) hP1 hD1 hS1 (by rw [z1]; exact hc1) (by rw [z2]; exact hs1)
    exact am_W_same z1 z2 h9
  · intro en pc ls r μ a i n v he hi hs h0 h1 hv k H locs larr hl hls hst hG hP hD hS hc1 hs1
    obtain ⟨rfl, hd, hlen, hoI, hoE⟩ := ok he
    obtain ⟨z1, z2⟩ := stcs (μ := μ) (i := i) (v := v) hs
    refine am_W_zast C0 hP hD hS (hdec hd hlen hi rfl (by decide)) hs h0 h1 hv (fun H1 locs1 hP1 hD1 hS1 => ?_)
    have h9 := k H1 locs1 larr hl hls (hd2 (hd2 (hd2 hst).2).2).2 (am_G_st hG (fun q hq => by
      have : q = (2, n) := Option.some.inj (hq.symm.trans hs)
      subst this
      exact ⟨fun z => (by cases z), fun z => (by cases z), fun _ => hv, fun ci z => by simp only at z; omega⟩)) hP1 hD1 hS1 (by rw [z1]; exact hc1) (by rw [z2]; exact hs1)
    exact am_W_same z1 z2 h9
  · intro en kk pc ls r μ a v f he hi ho hf hv k H locs larr hl hls hst hG hP hD hS hc1 hs1
    obtain ⟨rfl, hd, hlen, hoI, hoE⟩ := ok he
    obtain ⟨n, hn⟩ := am_isO_inv ho
    obtain ⟨z1, z2⟩ := stcs (μ := μ) (i := (en.2.2.2.2.1 : Int)) (v := v.2) hn
    unfold am_okI at hoI
    rw [hi] at hoI
    rw [Bool.and_eq_true, Bool.or_eq_true] at hoI
    obtain ⟨hmem, hnf⟩ := hoI
    refine am_W_put C0 hP hD hS (hmem.imp (fun z => of_decide_eq_true z) (fun z => of_decide_eq_true z)) (hdec hd hlen hi rfl (by decide)) ho hf (fun q hq => by
      unfold am_nf at hnf
      rw [hq] at hnf
      simpa using hnf) hv (fun H1 locs1 hP1 hD1 hS1 => ?_)
    have h9 := k H1 locs1 larr hl hls (hd2 (hd2 hst).2).2 (am_G_st hG (fun q hq => by
      have : q = (10 + en.2.2.2.1, n) := Option.some.inj (hq.symm.trans hn)
      subst this
      refine ⟨fun z => by simp only at z; omega, fun z => by simp only at z; omega, fun z => by simp only at z; omega, fun ci z j g hg hj => ?_⟩
      have hci : ci = en.2.2.2.1 := by simp only at z; omega
      have hjj : j = en.2.2.2.2.1 := by omega
      subst hci; subst hjj
      have : g = f := Option.some.inj (hg.symm.trans hf)
      subst this
      rcases hv with ⟨q1, q2⟩ | ⟨q1, q2⟩ | ⟨q1, q2, q3⟩ | ⟨q1, q2⟩ <;> rw [q1]
      · exact ⟨fun _ => (hd2 hst).1.1 q2, fun z => (by cases z), fun z => (by cases z)⟩
      · exact ⟨fun z => (by cases z), fun _ => (hd2 hst).1.2 q2, fun z => (by cases z)⟩
      · exact ⟨fun z => (by cases z), fun z => (by cases z), fun _ => q3⟩
      · exact ⟨fun z => (by cases z), fun z => (by cases z), fun z => (by cases z)⟩)) hP1 hD1 hS1 (by rw [z1]; exact hc1) (by rw [z2]; exact hs1)
    exact am_W_same z1 z2 h9
  · intro en pc ls r μ cd o x he hi kt kf H locs larr hl hls hst hG hP hD hS hc1 hs1
    obtain ⟨rfl, hd, hlen, hoI, hoE⟩ := ok he
    unfold am_okI at hoI
    rw [hi] at hoI
    exact am_W_if hx hb (hdec hd hlen hi rfl (by decide)) hoI ((hd2 hst).1.1 rfl) (fun q => kt q H locs larr hl hls (hd2 hst).2 hG hP hD hS hc1 hs1) (fun q => kf q H locs larr hl hls (hd2 hst).2 hG hP hD hS hc1 hs1)
  · intro en pc ls r μ cd o x y he hi kt kf H locs larr hl hls hst hG hP hD hS hc1 hs1
    obtain ⟨rfl, hd, hlen, hoI, hoE⟩ := ok he
    unfold am_okI at hoI
    rw [hi] at hoI
    exact am_W_icmp hx hb (hdec hd hlen hi rfl (by decide)) hoI ((hd2 (hd2 hst).2).1.1 rfl) ((hd2 hst).1.1 rfl) (fun q => kt q H locs larr hl hls (hd2 (hd2 hst).2).2 hG hP hD hS hc1 hs1) (fun q => kf q H locs larr hl hls (hd2 (hd2 hst).2).2 hG hP hD hS hc1 hs1)
  · intro en pc ls r μ o he hi k H locs larr hl hls hst hG hP hD hS hc1 hs1
    obtain ⟨rfl, hd, hlen, hoI, hoE⟩ := ok he
    unfold am_okI at hoI
    rw [hi] at hoI
    exact lv_goto hx hb (hdec hd hlen hi rfl (by decide)) (am_tg (pc := 0) hoI) (k H locs larr hl hls hst hG hP hD hS hc1 hs1)
  · intro en pc ls r μ o x he hi kt kf H locs larr hl hls hst hG hP hD hS hc1 hs1
    obtain ⟨rfl, hd, hlen, hoI, hoE⟩ := ok he
    unfold am_okI at hoI
    rw [hi] at hoI
    rw [List.map_cons, am_cv2 rfl]
    by_cases q : x < 0
    · rw [if_pos q]
      exact lv_ifnullN hx hb (hdec hd hlen hi rfl (by decide)) (am_tg (pc := 0) hoI) (kt q H locs larr hl hls (hd2 hst).2 hG hP hD hS hc1 hs1)
    · rw [if_neg q]
      exact lv_ifnull hx hb (hdec hd hlen hi rfl (by decide)) (kf q H locs larr hl hls (hd2 hst).2 hG hP hD hS hc1 hs1)
  · intro en pc ls r μ d lo hi os x he hi0 k H locs larr hl hls hst hG hP hD hS hc1 hs1
    obtain ⟨rfl, hd, hlen, hoI, hoE⟩ := ok he
    unfold am_okI at hoI
    rw [hi0] at hoI hd
    simp only [Bool.and_eq_true, decide_eq_true_eq] at hoI
    obtain ⟨o1, o2, o3, o4, o5⟩ := hoI
    have hxr := (hd2 hst).1.1 rfl
    have h9 := k H locs larr hl hls (hd2 hst).2 hG hP hD hS hc1 hs1
    by_cases q : lo ≤ x ∧ x < lo + (os.toList.length : Int)
    · obtain ⟨o, e1, e2⟩ := am_tsw_in (e := en) (d := d) os.toList lo x q.1 q.2
      rw [e2] at h9
      have e1' : os[(x - lo).toNat]? = some o := by rw [← Array.getElem?_toList]; exact e1
      refine lv_tableIn hx hb hd (by rw [r32_to hxr]; omega) (by rw [r32_to hxr]; omega) (by rw [r32_to hxr]; exact e1') (am_tg (pc := 0) ?_) h9
      exact List.all_eq_true.mp o2 _ (List.mem_of_getElem? e1)
    · rw [am_tsw_out os.toList lo x (by omega)] at h9
      exact lv_tableOut hx hb hd (by rw [r32_to hxr]; omega) (am_tg (pc := 0) o1) h9
  · intro en pc ls r μ d ps x he hi0 k H locs larr hl hls hst hG hP hD hS hc1 hs1
    obtain ⟨rfl, hd, hlen, hoI, hoE⟩ := ok he
    unfold am_okI at hoI
    rw [hi0] at hoI hd
    rw [Bool.and_eq_true, Bool.and_eq_true] at hoI
    obtain ⟨o1, o2, o3⟩ := hoI
    have hxr := (hd2 hst).1.1 rfl
    have h9 := k H locs larr hl hls (hd2 hst).2 hG hP hD hS hc1 hs1
    rw [am_lsw_of] at h9
    exact lv_lookup hx hb hd o3 (by rw [r32_to hxr]) (am_tg (pc := 0) (am_lsw_ok _ _ o1 o2)) h9
  · intro en b pc ls st r μ as rv μ' he hi hb5 hr hc hst0 hcat k H locs larr hl hls hst hG hP hD hS hc1 hs1
    obtain ⟨rfl, hd, hlen, hoI, hoE⟩ := ok he
    have hd3 : decode cc en.1 = .ok (en.2.1, 3) := by
      rcases hi with ⟨-, ⟨kq, hk, -⟩ | ⟨kq, hk, -⟩⟩ <;> (have := hdec (n := 3) hd hlen hk rfl (by decide); rw [hk]; exact this)
    refine am_sim_call C0 hml hmw hA hCR hd3 hoI hi hb5 hr hc hst0 hcat hl.1 hst hG hP hD hS hc1 hs1 (fun H1 locs1 g1 g2 hP1 hD1 hS1 hc2 hs2 => ?_)
    refine k H1 locs1 larr hl hls ?_ g1 hP1 hD1 hS1 hc2 hs2
    subst hst0
    obtain ⟨i1, i2⟩ := am_in_app hst
    cases rv with
    | none => exact i2
    | some v => exact cons (g2 v rfl) i2
  · intro en pc ls r μ x y he hi ha hcat k H locs larr hl hls hst hG hP hD hS hc1 hs1
    obtain ⟨rfl, hd, hlen, hoI, hoE⟩ := ok he
    obtain ⟨hib, ⟨kq, hk, hlt⟩ | ⟨kq, hk, -⟩⟩ := hi
    · omega
    · unfold am_okI at hoI
      rw [hk] at hoI
      have hm := hml _ (of_decide_eq_true hoI)
      rw [hib, ha] at hm
      rcases hm with ⟨q, l1, l2, l3, l4⟩ | ⟨q, -⟩ | ⟨q, -⟩
      · have h9 := k H locs larr hl hls (cons (am_in0 (by split; exact (hd2 hst).1.1 rfl; exact (hd2 (hd2 hst).2).1.1 rfl)) (hd2 (hd2 hst).2).2) hG hP hD hS hc1 hs1
        refine va_mmax hx hb (by rw [hmx]; exact hl.1.symm) hown (hts _ l1) (hts _ l2) (hts _ l3) (hts _ l4) hRf (by rw [am_catS]; omega) hc1 hs1 (hdec hd hlen hk rfl (by decide)) ?_
        rw [List.map_cons, am_cv0 rfl] at h9
        have e1 : (if Int32.ofInt x < Int32.ofInt y then Int32.ofInt y else Int32.ofInt x) = Int32.ofInt (if x < y then y else x) := by
          have qq := am_e_lt ((hd2 (hd2 hst).2).1.1 rfl) ((hd2 hst).1.1 rfl)
          by_cases q : x < y
          · rw [if_pos q, if_pos (qq.mpr q)]
          · rw [if_neg q, if_neg (fun z => q (qq.mp z))]
        rw [e1]
        exact h9
      · cases q
      · cases q
  · intro en pc ls r μ x y he hi ha hcat k H locs larr hl hls hst hG hP hD hS hc1 hs1
    obtain ⟨rfl, hd, hlen, hoI, hoE⟩ := ok he
    obtain ⟨hib, ⟨kq, hk, hlt⟩ | ⟨kq, hk, -⟩⟩ := hi
    · omega
    · unfold am_okI at hoI
      rw [hk] at hoI
      have hm := hml _ (of_decide_eq_true hoI)
      rw [hib, ha] at hm
      rcases hm with ⟨q, -⟩ | ⟨q, l1, l2, l3, l4⟩ | ⟨q, -⟩
      · cases q
      · have h9 := k H locs larr hl hls (cons (am_in0 (by split; exact (hd2 hst).1.1 rfl; exact (hd2 (hd2 hst).2).1.1 rfl)) (hd2 (hd2 hst).2).2) hG hP hD hS hc1 hs1
        refine va_mmin hx hb (by rw [hmx]; exact hl.1.symm) hown (hts _ l1) (hts _ l2) (hts _ l3) (hts _ l4) hRf (by rw [am_catS]; omega) hc1 hs1 (hdec hd hlen hk rfl (by decide)) ?_
        rw [List.map_cons, am_cv0 rfl] at h9
        have e1 : (if Int32.ofInt y < Int32.ofInt x then Int32.ofInt y else Int32.ofInt x) = Int32.ofInt (if y < x then y else x) := by
          have qq := am_e_lt ((hd2 hst).1.1 rfl) ((hd2 (hd2 hst).2).1.1 rfl)
          by_cases q : y < x
          · rw [if_pos q, if_pos (qq.mpr q)]
          · rw [if_neg q, if_neg (fun z => q (qq.mp z))]
        rw [e1]
        exact h9
      · cases q
  · intro en pc ls r μ x y he hi ha hcat k H locs larr hl hls hst hG hP hD hS hc1 hs1
    obtain ⟨rfl, hd, hlen, hoI, hoE⟩ := ok he
    obtain ⟨hib, ⟨kq, hk, hlt⟩ | ⟨kq, hk, -⟩⟩ := hi
    · omega
    · unfold am_okI at hoI
      rw [hk] at hoI
      have hm := hml _ (of_decide_eq_true hoI)
      rw [hib, ha] at hm
      rcases hm with ⟨q, -⟩ | ⟨q, -⟩ | ⟨q, l1, l2, l3, l4⟩
      · cases q
      · cases q
      · have h9 := k H locs larr hl hls (cons (am_in1 (by split; exact (hd2 hst).1.2 rfl; exact (hd2 (hd2 hst).2).1.2 rfl)) (hd2 (hd2 hst).2).2) hG hP hD hS hc1 hs1
        refine va_mmin_long hx hb (by rw [hmx]; exact hl.1.symm) hown (hts _ l1) (hts _ l2) (hts _ l3) (hts _ l4) hRf (by rw [am_catS]; omega) hc1 hs1 (hdec hd hlen hk rfl (by decide)) ?_
        rw [List.map_cons, am_cv1 rfl] at h9
        have e1 : (if Int64.ofInt y < Int64.ofInt x then Int64.ofInt y else Int64.ofInt x) = Int64.ofInt (if y < x then y else x) := by
          have qq := am_f_lt ((hd2 hst).1.2 rfl) ((hd2 (hd2 hst).2).1.2 rfl)
          by_cases q : y < x
          · rw [if_pos q, if_pos (qq.mpr q)]
          · rw [if_neg q, if_neg (fun z => q (qq.mp z))]
        rw [e1]
        exact h9
  · intro en pc ls r μ n dp c1 sp c0 n0 n1 he hi h0 h1 a0 a1 a2 a3 a4 hcat k H locs larr hl hls hst hG hP hD hS hc1 hs1
    obtain ⟨rfl, hd, hlen, hoI, hoE⟩ := ok he
    obtain ⟨hib, ⟨kq, hk, hlt⟩ | ⟨kq, hk, -⟩⟩ := hi
    · omega
    · unfold am_okI at hoI
      rw [hk] at hoI
      have hm := hml _ (of_decide_eq_true hoI)
      rw [hib] at hm
      obtain ⟨l1, l2, l3, l4⟩ := hm
      obtain ⟨z1, z2⟩ := hcs (am_cpy μ c0 sp c1 dp n) μ (by
        have := am_shp_pos h1
        funext j
        unfold am_cpy
        rw [if_neg (by omega)])
      obtain ⟨j0, hj0, hw0⟩ := am_wd_at (ad := ad) (cT := cT) (μ := μ) h0
      obtain ⟨j1, hj1, hw1⟩ := am_wd_at (ad := ad) (cT := cT) (μ := μ) h1
      have hn0 := am_shp_len h0
      have hn1 := am_shp_len h1
      simp only [List.map_cons, am_ref h0, am_ref h1]
      have ng : ∀ {x : Int}, 0 ≤ x → x < 2147483648 → ¬ (Int32.ofInt x) < 0 := fun {x} q1 q2 => by
        rw [show (0 : Int32) = Int32.ofInt 0 from rfl, am_e_lt (by unfold r32; omega) (by unfold r32; omega)]
        omega
      refine va_copyi hx hb (by rw [hmx]; exact hl.1.symm) hown (hts _ l1) (hts _ l2) (hts _ l3) (hts _ l4) hK hP hD hS j0 j1 0 0 hw0 hw1 rfl rfl rfl (ng a0 (by omega)) (ng a1 (by omega)) (ng a2 (by omega)) (by rw [am_clamp a0 (by omega), am_clamp a2 (by omega)]; omega) (by rw [am_clamp a1 (by omega), am_clamp a2 (by omega)]; omega) (fun i _ => rfl) hRf (by rw [am_catS]; exact Nat.le_trans (Nat.add_le_add_right hcat _) (Nat.le_trans (by decide) hRl)) (hdec hd hlen hk rfl (by decide)) (fun H1 locs1 hP1 hD1 hS1 => ?_)
      have ew : (am_wd ad cT μ).set j1 (ad c1, .inl (cT 0, n1, .inl (va_cpy (fun j : Nat => Int32.ofInt (μ c0 j)) (fun j : Nat => Int32.ofInt (μ c1 j)) (Int32.ofInt sp).toNatClampNeg (Int32.ofInt dp).toNatClampNeg (Int32.ofInt n).toNatClampNeg))) = am_wd ad cT (am_cpy μ c0 sp c1 dp n) := by
        rw [am_clamp a0 (by omega), am_clamp a1 (by omega), am_clamp a2 (by omega)]
        rw [← am_wd_set (ad := ad) (cT := cT) (μ := μ) (μ' := am_cpy μ c0 sp c1 dp n) hj1 (fun c' hc' => by
          funext j
          unfold am_cpy
          rw [if_neg (fun z => hc' z.1)])]
        congr 2
        show _ = Sum.inl (cT 0, n1, Sum.inl (fun j : Nat => Int32.ofInt (am_cpy μ c0 sp c1 dp n c1 j)))
        congr 4
        funext j
        unfold va_cpy am_cpy
        by_cases q : dp.toNat ≤ j ∧ j < dp.toNat + n.toNat
        · rw [if_pos q, if_pos ⟨rfl, by omega, by omega⟩]
          show Int32.ofInt (μ c0 ((sp.toNat + (j - dp.toNat) : Nat) : Int)) = Int32.ofInt (μ c0 (sp + ((j : Int) - dp)))
          have e5 : ((sp.toNat + (j - dp.toNat) : Nat) : Int) = sp + ((j : Int) - dp) := by omega
          rw [e5]
        · rw [if_neg q, if_neg (fun z => q ⟨by omega, by omega⟩)]
      rw [ew] at hP1 hD1
      have h9 := k H1 locs1 larr hl hls (hd2 (hd2 (hd2 (hd2 (hd2 hst).2).2).2).2).2 (am_G_cpy hG h0 h1 a0 a3) hP1 hD1 hS1 (by rw [z1]; exact hc1) (by rw [z2]; exact hs1)
      exact am_W_same z1 z2 h9
  · intro en pc ls μ v he hi hr hres
    rw [hres] at hv2; cases hv2
  · intro en pc ls μ v he hi hr hres
    rw [hres] at hv2; cases hv2
  · intro en pc ls μ he hi hr hres
    rw [hr] at hv1; cases hv1
  · intro pc ls ls' st μ hsub k H locs larr hl hls hst hG hP hD hS hc1 hs1
    refine k H locs larr ⟨hl.1, hl.2.1, fun q hq => ?_⟩ (fun q hq => hls q (hsub q hq)) hst hG hP hD hS hc1 hs1
    obtain ⟨w, hw, rfl⟩ := List.mem_map.mp hq
    exact hl.2.2 _ (List.mem_map_of_mem (hsub w hw))
end AMW
/-! Rules for any closed set of places. -/
section RU
variable {X : am_X} {CR : am_CR} {nL : Nat} {rt : Option FieldType} {C : List am_E} {pc : Nat} {ls : am_L} {st r : am_S} {μ : am_M} {res : am_R} {e : am_E} {P : am_P}
theorem ru_sls (hP : am_rul X CR nL rt C res P) : ∀ (n : Nat) {pc pc' : Nat} {ls ls' : am_L} {st st' : am_S}, am_sls X nL C n pc ls st μ = some (pc', ls', st') → P pc' ls' st' μ → P pc ls st μ
  | 0, pc, pc', ls, ls', st, st', h, k => by cases h; exact k
  | n + 1, pc, pc', ls, ls', st, st', h, k => by
    unfold am_sls at h
    cases he : am_at C pc with
    | none => rw [he] at h; cases h
    | some e =>
      rw [he] at h
      simp only at h
      cases hs : am_sl X nL e ls st μ with
      | none => rw [hs] at h; cases h
      | some x =>
        rw [hs] at h
        exact hP.1 e pc ls st μ x.1 x.2 he hs (ru_sls hP n h k)
theorem ru_sub (hP : am_rul X CR nL rt C res P) (ks : List Nat) {ls' : am_L} (h : ks.filterMap (fun k => ls[k]?) = ls') (k : P pc ls' st μ) : P pc ls st μ := hP.2.2.2.2.2.2.2.2.2.2.2.2.2.2.2.2.2.2.2.2.2.2.2.2 pc ls ls' st μ (fun q hq => by
  rw [← h] at hq
  obtain ⟨i, -, hi⟩ := List.mem_filterMap.mp hq
  exact List.mem_of_getElem? hi) k
theorem ru_lald (hP : am_rul X CR nL rt C res P) {c i : Int} {n : Nat} (he : am_at C pc = some e) (hi : e.2.1 = .laload) (hs : am_shp c = some (1, n)) (h0 : 0 ≤ i) (h1 : i < (n : Int)) (K : P (pc + 1) ls ((1, μ c i) :: r) μ) : P pc ls ((0, i) :: (2, c) :: r) μ := hP.2.2.1 e pc ls r μ c i n he hi hs h0 h1 K
theorem ru_xald (hP : am_rul X CR nL rt C res P) {w i v : Int} {L : Nat} {xs : Nat → Int32} (he : am_at C pc = some e) (hi : e.2.1 = .iaload) (hX : X = some (L, xs)) (h : 0 ≤ i ∧ i < (L : Int) ∧ v = (xs i.toNat).toInt) (K : P (pc + 1) ls ((0, v) :: r) μ) : P pc ls ((0, i) :: (3, w) :: r) μ := by
  obtain ⟨h0, h1, h2⟩ := h
  subst h2
  exact hP.2.2.2.2.2.1 e pc ls r μ w i L xs he hi hX h0 h1 K
theorem ru_last (hP : am_rul X CR nL rt C res P) {c i v : Int} {n : Nat} (he : am_at C pc = some e) (hi : e.2.1 = .lastore) (hs : am_shp c = some (1, n)) (h0 : 0 ≤ i) (h1 : i < (n : Int)) (K : P (pc + 1) ls r (m_st μ c i v)) : P pc ls ((1, v) :: (0, i) :: (2, c) :: r) μ := hP.2.2.2.2.2.2.2.1 e pc ls r μ c i n v he hi hs h0 h1 K
theorem ru_ifT (hP : am_rul X CR nL rt C res P) {cd : ClassFile.Cond} {o x : Int} {t : Nat} (he : am_at C pc = some e) (hi : e.2.1 = .ifCond cd o) (ht : am_tgt e o = t) (hc : am_cnd cd x 0) (K : P t ls r μ) : P pc ls ((0, x) :: r) μ := by
  subst ht
  exact hP.2.2.2.2.2.2.2.2.2.2.1 e pc ls r μ cd o x he hi (fun _ => K) (fun z => absurd hc z)
theorem ru_ifF (hP : am_rul X CR nL rt C res P) {cd : ClassFile.Cond} {o x : Int} (he : am_at C pc = some e) (hi : e.2.1 = .ifCond cd o) (hc : ¬ am_cnd cd x 0) (K : P (pc + 3) ls r μ) : P pc ls ((0, x) :: r) μ := hP.2.2.2.2.2.2.2.2.2.2.1 e pc ls r μ cd o x he hi (fun z => absurd z hc) (fun _ => K)
theorem ru_icT (hP : am_rul X CR nL rt C res P) {cd : ClassFile.Cond} {o x y : Int} {t : Nat} (he : am_at C pc = some e) (hi : e.2.1 = .if_icmp cd o) (ht : am_tgt e o = t) (hc : am_cnd cd x y) (K : P t ls r μ) : P pc ls ((0, y) :: (0, x) :: r) μ := by
  subst ht
  exact hP.2.2.2.2.2.2.2.2.2.2.2.1 e pc ls r μ cd o x y he hi (fun _ => K) (fun z => absurd hc z)
theorem ru_icF (hP : am_rul X CR nL rt C res P) {cd : ClassFile.Cond} {o x y : Int} (he : am_at C pc = some e) (hi : e.2.1 = .if_icmp cd o) (hc : ¬ am_cnd cd x y) (K : P (pc + 3) ls r μ) : P pc ls ((0, y) :: (0, x) :: r) μ := hP.2.2.2.2.2.2.2.2.2.2.2.1 e pc ls r μ cd o x y he hi (fun z => absurd z hc) (fun _ => K)
theorem ru_goto (hP : am_rul X CR nL rt C res P) {o : Int} {t : Nat} (he : am_at C pc = some e) (hi : e.2.1 = .goto o) (ht : am_tgt e o = t) (K : P t ls r μ) : P pc ls r μ := by
  subst ht
  exact hP.2.2.2.2.2.2.2.2.2.2.2.2.1 e pc ls r μ o he hi K
theorem ru_tsw (hP : am_rul X CR nL rt C res P) {d lo hi : Int} {os : Array Int} {x : Int} (he : am_at C pc = some e) (hi0 : e.2.1 = .tableswitch d lo hi os) (K : P (am_tsw e d lo os.toList x) ls r μ) : P pc ls ((0, x) :: r) μ := hP.2.2.2.2.2.2.2.2.2.2.2.2.2.2.1 e pc ls r μ d lo hi os x he hi0 K
theorem ru_call (hP : am_rul X CR nL rt C res P) (b : Nat) {j : Nat} (as : am_S) {rv : Option am_V} {μ' : am_M} (he : am_at C pc = some e) (hi : am_inv e b) (hb : b < 5) (hr : b < 2 → ∃ c, as.head? = some (2, c) ∧ am_isO c e.2.2.2.2.2.toNat = true) (hj : e.2.2.2.1 = j) (hst : st = as.reverse ++ r) (hcat : am_cat r ≤ 8) (hc : CR j as μ (rv, μ')) (K : P (pc + 3) ls (am_psh rv r) μ') : P pc ls st μ := by
  subst hj
  exact hP.2.2.2.2.2.2.2.2.2.2.2.2.2.2.2.2.1 e b pc ls st r μ as rv μ' he hi hb hr hc hst hcat K
end RU
