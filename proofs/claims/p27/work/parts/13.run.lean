/-! The whole run: every rule. -/
theorem am_tg {pc : Nat} {e : am_E} {o : Int} (h : am_tgo e.1 o = true) : ((e.1 : Int) + o) = (am_tgt e o : Int) := by
  unfold am_tgo at h
  have h := of_decide_eq_true h
  unfold am_tgt
  omega
theorem am_tsw_in {e : am_E} {d : Int} : ∀ (os : List Int) (lo x : Int), lo ≤ x → x < lo + (os.length : Int) → ∃ o, os[(x - lo).toNat]? = some o ∧ am_tsw e d lo os x = am_tgt e o
  | [], lo, x, h1, h2 => by simp only [List.length_nil] at h2; omega
  | o :: r, lo, x, h1, h2 => by
    unfold am_tsw
    by_cases q : x = lo
    · rw [if_pos q]
      refine ⟨o, ?_, rfl⟩
      have : (x - lo).toNat = 0 := by omega
      rw [this]; rfl
    · rw [if_neg q]
      simp only [List.length_cons] at h2
      obtain ⟨o', h3, h4⟩ := am_tsw_in r (lo + 1) x (by omega) (by omega)
      refine ⟨o', ?_, h4⟩
      have : (x - lo).toNat = (x - (lo + 1)).toNat + 1 := by omega
      rw [this]
      exact h3
theorem am_tsw_out {e : am_E} {d : Int} : ∀ (os : List Int) (lo x : Int), (x < lo ∨ lo + (os.length : Int) ≤ x) → am_tsw e d lo os x = am_tgt e d
  | [], lo, x, _ => rfl
  | o :: r, lo, x, h => by
    unfold am_tsw
    simp only [List.length_cons] at h
    rw [if_neg (by omega)]
    exact am_tsw_out r (lo + 1) x (by omega)
theorem am_lsw_of {e : am_E} {d : Int} : ∀ (ps : List (Int × Int)) (x : Int), am_lsw e d ps x = am_tgt e (Op.lookupswitch.offset ps d x)
  | [], x => by
    rw [show am_lsw e d [] x = am_tgt e d from rfl]
    congr 1
  | (k, o) :: r, x => by
    unfold am_lsw
    rw [Op.lookupswitch.offset_cons]
    by_cases q : x = k
    · rw [if_pos q, if_pos q.symm]
    · rw [if_neg q, if_neg (fun z => q z.symm)]
      exact am_lsw_of r x
theorem am_lsw_ok {pc : Nat} {d : Int} : ∀ (ps : List (Int × Int)) (x : Int), am_tgo pc d = true → ps.all (fun q => am_tgo pc q.2 && am_b32 q.1) = true → am_tgo pc (Op.lookupswitch.offset ps d x) = true
  | [], x, h, _ => h
  | (k, o) :: r, x, h, h2 => by
    rw [Op.lookupswitch.offset_cons]
    simp only [List.all_cons, Bool.and_eq_true] at h2
    split
    · exact h2.1.1
    · exact am_lsw_ok r x h (by simpa only [List.all_eq_true, Bool.and_eq_true] using h2.2)
section AMW
variable {p : Program} {l : Launch} {e : Env} {R : Room} {s : State} {m : MethodId} {args : Array Value} {below : List Frame} {meth : Method} {c : Code} {H : Heap} {locs : List Loc} {cells slots : Nat} {Q : State → Prop}
variable {cc : ByteArray} {own : String} {nL : Nat} {fl : am_FL} {ml : am_ML} {kl kL : am_KL} {dC : Nat → ClassId} {dI : Nat → Nat → Nat} {cT : Nat → ClassId} {ad : Int → Nat} {sb : Nat} {A : Nat → Prop} {H0 : Heap}
theorem am_W_if (hx : p.tables.exec = Jvm.exec) (hb : c.code = cc) {en : am_E} {cd : ClassFile.Cond} {o : Int} (hd : decode cc en.1 = .ok (.ifCond cd o, 3)) (ho : am_tgo en.1 o = true) {larr : Array Slot} {rest : List Value} {x : Int} (hr : r32 x)
    (kt : am_cnd cd x 0 → W p l e R s m args below meth c H locs cells slots Q (F0 m (am_tgt en o) larr rest)) (kf : ¬ am_cnd cd x 0 → W p l e R s m args below meth c H locs cells slots Q (F0 m (en.1 + 3) larr rest)) : W p l e R s m args below meth c H locs cells slots Q (F0 m en.1 larr (.int (Int32.ofInt x) :: rest)) := by
  have hry : r32 0 := by unfold r32; omega
  have z0 : (0 : Int32) = Int32.ofInt 0 := rfl
  cases cd with
  | eq => exact lv_if_eq hx hb hd (am_tg (pc := 0) ho) (fun h => kt (by rw [z0, am_e_eq hr hry] at h; exact h)) (fun h => kf (by rw [z0, am_e_eq hr hry] at h; exact h))
  | ne => exact lv_if_ne hx hb hd (am_tg (pc := 0) ho) (fun h => kt (by rw [z0, am_e_eq hr hry] at h; exact h)) (fun h => kf (by rw [z0, am_e_eq hr hry] at h; exact fun q => q h))
  | lt => exact lv_if_lt hx hb hd (am_tg (pc := 0) ho) (fun h => kt (by rw [z0, am_e_lt hr hry] at h; exact h)) (fun h => kf (by rw [z0, am_e_lt hr hry] at h; exact h))
  | ge => exact lv_if_ge hx hb hd (am_tg (pc := 0) ho) (fun h => kt (by rw [z0, am_e_le hry hr] at h; exact h)) (fun h => kf (by rw [z0, am_e_le hry hr] at h; exact h))
  | gt => exact lv_if_gt hx hb hd (am_tg (pc := 0) ho) (fun h => kt (by rw [z0, am_e_lt hry hr] at h; exact h)) (fun h => kf (by rw [z0, am_e_lt hry hr] at h; exact h))
  | le => exact lv_if_le hx hb hd (am_tg (pc := 0) ho) (fun h => kt (by rw [z0, am_e_le hr hry] at h; exact h)) (fun h => kf (by rw [z0, am_e_le hr hry] at h; exact h))
theorem am_W_icmp (hx : p.tables.exec = Jvm.exec) (hb : c.code = cc) {en : am_E} {cd : ClassFile.Cond} {o : Int} (hd : decode cc en.1 = .ok (.if_icmp cd o, 3)) (ho : am_tgo en.1 o = true) {larr : Array Slot} {rest : List Value} {x y : Int} (hr : r32 x) (hry : r32 y)
    (kt : am_cnd cd x y → W p l e R s m args below meth c H locs cells slots Q (F0 m (am_tgt en o) larr rest)) (kf : ¬ am_cnd cd x y → W p l e R s m args below meth c H locs cells slots Q (F0 m (en.1 + 3) larr rest)) : W p l e R s m args below meth c H locs cells slots Q (F0 m en.1 larr (.int (Int32.ofInt y) :: .int (Int32.ofInt x) :: rest)) := by
  cases cd with
  | eq => exact lv_icmp_eq hx hb hd (am_tg (pc := 0) ho) (fun h => kt (by rw [am_e_eq hr hry] at h; exact h)) (fun h => kf (by rw [am_e_eq hr hry] at h; exact h))
  | ne => exact lv_icmp_ne hx hb hd (am_tg (pc := 0) ho) (fun h => kt (by rw [am_e_eq hr hry] at h; exact h)) (fun h => kf (by rw [am_e_eq hr hry] at h; exact fun q => q h))
  | lt => exact lv_icmp_lt hx hb hd (am_tg (pc := 0) ho) (fun h => kt (by rw [am_e_lt hr hry] at h; exact h)) (fun h => kf (by rw [am_e_lt hr hry] at h; exact h))
  | ge => exact lv_icmp_ge hx hb hd (am_tg (pc := 0) ho) (fun h => kt (by rw [am_e_le hry hr] at h; exact h)) (fun h => kf (by rw [am_e_le hry hr] at h; exact h))
  | gt => exact lv_icmp_gt hx hb hd (am_tg (pc := 0) ho) (fun h => kt (by rw [am_e_lt hry hr] at h; exact h)) (fun h => kf (by rw [am_e_lt hry hr] at h; exact h))
  | le => exact lv_icmp_le hx hb hd (am_tg (pc := 0) ho) (fun h => kt (by rw [am_e_le hr hry] at h; exact h)) (fun h => kf (by rw [am_e_le hr hry] at h; exact h))
theorem am_sim (C0 : am_cx p s m args c cc nL own fl kl kL dC dI cT) {mt : Nat → Option am_I} (hml : ∀ q ∈ ml, am_mlw mt own q) (hmw : ∀ j I, mt j = some I → am_mw I) (hA : ∀ q, H0.size ≤ q → A q) {cs ss : am_M → Nat} (hcs : ∀ μ μ' : am_M, μ (-1) = μ' (-1) → cs μ = cs μ' ∧ ss μ = ss μ') {CR : am_CR} (hCR : am_CRok mt l R dC dI ad cT sb cs ss CR)
    {C : List am_E} (hC : ∀ en ∈ C, am_okE fl ml kl kL cc en = true) {X : am_X} (hX : am_Xok X sb s A H0) (hRf : 1 ≤ R.frames) (hRl : 60 ≤ R.locals) {rt : Option FieldType} {res : am_R}
    (hI : ∀ (v : Int) (H : Heap) (locs : List Loc) (larr : Array Slot) (pc : Nat), decode cc pc = .ok (.ireturn, 1) → (rt = some .int ∨ (rt = some .boolean ∧ (v = 0 ∨ v = 1))) → res.1 = some (0, v) → va_P (dC, dI) g_cl (am_wd ad cT res.2) H → va_D A (am_wd ad cT res.2) → va_S A H0 H locs → cs res.2 ≤ R.cells → ss res.2 ≤ R.slots → W p l e R s m args below meth c H locs (cs res.2) (ss res.2) Q (F0 m pc larr [.int (Int32.ofInt v)]))
    (hL : ∀ (v : Int) (H : Heap) (locs : List Loc) (larr : Array Slot) (pc : Nat), decode cc pc = .ok (.lreturn, 1) → rt = some .long → res.1 = some (1, v) → va_P (dC, dI) g_cl (am_wd ad cT res.2) H → va_D A (am_wd ad cT res.2) → va_S A H0 H locs → cs res.2 ≤ R.cells → ss res.2 ≤ R.slots → W p l e R s m args below meth c H locs (cs res.2) (ss res.2) Q (F0 m pc larr [.long (Int64.ofInt v)]))
    (hV : ∀ (H : Heap) (locs : List Loc) (larr : Array Slot) (pc : Nat), decode cc pc = .ok (.return_, 1) → rt = none → res.1 = none → va_P (dC, dI) g_cl (am_wd ad cT res.2) H → va_D A (am_wd ad cT res.2) → va_S A H0 H locs → cs res.2 ≤ R.cells → ss res.2 ≤ R.slots → W p l e R s m args below meth c H locs (cs res.2) (ss res.2) Q (F0 m pc larr []))
    {pc : Nat} {ls : am_L} {st : am_S} {μ : am_M} (h : am_run X CR nL rt C pc ls st μ res) {H : Heap} {locs : List Loc} {larr : Array Slot} (hl : lv_has larr nL (ls.map (am_cvq ad sb))) (hls : ∀ q ∈ ls, am_in q.2) (hst : ∀ v ∈ st, am_in v) (hG : am_G μ) (hP : va_P (dC, dI) g_cl (am_wd ad cT μ) H) (hD : va_D A (am_wd ad cT μ)) (hS : va_S A H0 H locs) (hc1 : cs μ ≤ R.cells) (hs1 : ss μ ≤ R.slots) :
    W p l e R s m args below meth c H locs (cs μ) (ss μ) Q (F0 m pc larr (st.map (am_cv ad sb))) := by
  have C1 := C0
  obtain ⟨hx, hb, hmx, hown, hts, hNW, hK, hfl, -⟩ := C1
  have ok : ∀ {en : am_E} {pc : Nat}, am_at C pc = some en → en.1 = pc ∧ decode cc en.1 = .ok (en.2.1, en.2.2.1) ∧ (am_lenOf en.2.1 = 0 ∨ am_lenOf en.2.1 = en.2.2.1) ∧ am_okI fl ml kl kL en = true ∧ am_okE fl ml kl kL cc en = true := fun he => by
    obtain ⟨h1, h2⟩ := am_at_pc he
    have h3 := hC _ h1
    have h4 := h3
    unfold am_okE at h3
    rw [Bool.and_eq_true, Bool.and_eq_true] at h3
    exact ⟨h2, of_decide_eq_true h3.1, of_decide_eq_true h3.2.1, h3.2.2, h4⟩
  have hd2 : ∀ {v : am_V} {r : am_S}, (∀ w ∈ v :: r, am_in w) → am_in v ∧ ∀ w ∈ r, am_in w := fun h => ⟨h _ List.mem_cons_self, fun w hw => h w (List.mem_cons_of_mem _ hw)⟩
  have cons : ∀ {v : am_V} {r : am_S}, am_in v → (∀ w ∈ r, am_in w) → ∀ w ∈ v :: r, am_in w := fun h1 h2 w hw => (List.mem_cons.mp hw).elim (fun z => z ▸ h1) (h2 w)
  have bit : ∀ {v : Int}, (v = 0 ∨ v = 1) → r32 v := fun h => by unfold r32; omega
  have stcs : ∀ {μ : am_M} {a i v : Int} {k : Nat × Nat}, am_shp a = some k → cs (m_st μ a i v) = cs μ ∧ ss (m_st μ a i v) = ss μ := fun {μ a i v k} h => hcs _ _ (by
    have := am_shp_pos h
    exact m_st_ne (by omega))
  have hdec : ∀ {en : am_E} {i : Instr} {n : Nat}, decode cc en.1 = .ok (en.2.1, en.2.2.1) → (am_lenOf en.2.1 = 0 ∨ am_lenOf en.2.1 = en.2.2.1) → en.2.1 = i → am_lenOf i = n → n ≠ 0 → decode cc en.1 = .ok (i, n) := fun h1 h2 h3 h4 h5 => by
    rw [h3] at h1 h2
    rw [h4] at h2
    rcases h2 with h2 | h2
    · exact absurd h2 h5
    · rw [h1, h2]
  refine h (fun pc ls st μ => ∀ (H : Heap) (locs : List Loc) (larr : Array Slot), lv_has larr nL (ls.map (am_cvq ad sb)) → (∀ q ∈ ls, am_in q.2) → (∀ v ∈ st, am_in v) → am_G μ → va_P (dC, dI) g_cl (am_wd ad cT μ) H → va_D A (am_wd ad cT μ) → va_S A H0 H locs → cs μ ≤ R.cells → ss μ ≤ R.slots → W p l e R s m args below meth c H locs (cs μ) (ss μ) Q (F0 m pc larr (st.map (am_cv ad sb)))) ?_ H locs larr hl hls hst hG hP hD hS hc1 hs1
  clear h hl hls hst hG hP hD hS hc1 hs1
  refine ⟨?_, ?_, ?_, ?_, ?_, ?_, ?_, ?_, ?_, ?_, ?_, ?_, ?_, ?_, ?_, ?_, ?_, ?_, ?_, ?_, ?_, ?_, ?_, ?_, ?_⟩
  · intro en pc ls st μ ls' st' he hs k H locs larr hl hls hst hG hP hD hS hc1 hs1
    obtain ⟨rfl, hd, hlen, hoI, hoE⟩ := ok he
    obtain ⟨h1, h2⟩ := am_sl_in hoI (fun L xs hq => (hX L xs hq).1) hG hls hst hs
    exact am_sl_W C0 hX hS hP hl hls hst hoE hs (fun larr' hl' => k H locs larr' hl' h1 h2 hG hP hD hS hc1 hs1)
  · intro en pc ls r μ a i n he hi hs h0 h1 k H locs larr hl hls hst hG hP hD hS hc1 hs1
    obtain ⟨rfl, hd, hlen, hoI, hoE⟩ := ok he
    exact am_W_iald C0 hP (hdec hd hlen hi rfl (by decide)) hs h0 h1 (k H locs larr hl hls (cons (am_in0 ((hG _ _ hs).1 rfl i h0 h1)) (hd2 (hd2 hst).2).2) hG hP hD hS hc1 hs1)
  · intro en pc ls r μ a i n he hi hs h0 h1 k H locs larr hl hls hst hG hP hD hS hc1 hs1
    obtain ⟨rfl, hd, hlen, hoI, hoE⟩ := ok he
    exact am_W_lald C0 hP (hdec hd hlen hi rfl (by decide)) hs h0 h1 (k H locs larr hl hls (cons (am_in1 ((hG _ _ hs).2.1 rfl i h0 h1)) (hd2 (hd2 hst).2).2) hG hP hD hS hc1 hs1)
  · intro en pc ls r μ a i n he hi hs h0 h1 k H locs larr hl hls hst hG hP hD hS hc1 hs1
    obtain ⟨rfl, hd, hlen, hoI, hoE⟩ := ok he
    exact am_W_zald C0 hP (hdec hd hlen hi rfl (by decide)) hs h0 h1 (k H locs larr hl hls (cons (am_in0 (bit ((hG _ _ hs).2.2.1 rfl i h0 h1))) (hd2 (hd2 hst).2).2) hG hP hD hS hc1 hs1)
  · intro en pc ls r μ a i n he hi hs h0 h1 k H locs larr hl hls hst hG hP hD hS hc1 hs1
    obtain ⟨rfl, hd, hlen, hoI, hoE⟩ := ok he
    exact am_W_aald C0 hP (hdec hd hlen hi rfl (by decide)) hs h0 h1 (k H locs larr hl hls (cons (am_in2 (by omega)) (hd2 (hd2 hst).2).2) hG hP hD hS hc1 hs1)
  · intro en pc ls r μ w i L xs he hi hXX h0 h1 k H locs larr hl hls hst hG hP hD hS hc1 hs1
    obtain ⟨rfl, hd, hlen, hoI, hoE⟩ := ok he
    obtain ⟨hL, hx1, hx2, hx3⟩ := hX L xs hXX
    have h9 := k H locs larr hl hls (cons (am_in0 (r32_i _)) (hd2 (hd2 hst).2).2) hG hP hD hS hc1 hs1
    refine va_sld hx hb hx1 hx2 hx3 hS (am_ix h0 h1 hL) (hdec hd hlen hi rfl (by decide)) ?_
    rw [am_clamp h0 (by omega)]
    rw [List.map_cons, am_cv0 rfl, Int32.ofInt_toInt] at h9
    exact h9
  · intro en pc ls r μ a i n v he hi hs h0 h1 k H locs larr hl hls hst hG hP hD hS hc1 hs1
    obtain ⟨rfl, hd, hlen, hoI, hoE⟩ := ok he
    obtain ⟨z1, z2⟩ := stcs (μ := μ) (i := i) (v := v) hs
    refine am_W_iast C0 hP hD hS (hdec hd hlen hi rfl (by decide)) hs h0 h1 (fun H1 locs1 hP1 hD1 hS1 => ?_)
    have h9 := k H1 locs1 larr hl hls (hd2 (hd2 (hd2 hst).2).2).2 (am_G_st hG (fun q hq => by
      have : q = (0, n) := Option.some.inj (hq.symm.trans hs)
      subst this
      exact ⟨fun _ => (hd2 hst).1.1 rfl, fun z => (by cases z), fun z => (by cases z), fun ci z => by simp only at z; omega⟩)) hP1 hD1 hS1 (by rw [z1]; exact hc1) (by rw [z2]; exact hs1)
    exact am_W_same z1 z2 h9
  · intro en pc ls r μ a i n v he hi hs h0 h1 k H locs larr hl hls hst hG hP hD hS hc1 hs1
    obtain ⟨rfl, hd, hlen, hoI, hoE⟩ := ok he
    obtain ⟨z1, z2⟩ := stcs (μ := μ) (i := i) (v := v) hs
    refine am_W_last C0 hP hD hS (hdec hd hlen hi rfl (by decide)) hs h0 h1 (fun H1 locs1 hP1 hD1 hS1 => ?_)
    have h9 := k H1 locs1 larr hl hls (hd2 (hd2 (hd2 hst).2).2).2 (am_G_st hG (fun q hq => by
      have : q = (1, n) := Option.some.inj (hq.symm.trans hs)
      subst this
      exact ⟨fun z => (by cases z), fun _ => (hd2 hst).1.2 rfl, fun z => (by cases z), fun ci z => by simp only at z; omega⟩)) hP1 hD1 hS1 (by rw [z1]; exact hc1) (by rw [z2]; exact hs1)
    exact am_W_same z1 z2 h9
  · intro en pc ls r μ a i n v he hi hs h0 h1 hv k H locs larr hl hls hst hG hP hD hS hc1 hs1
    obtain ⟨rfl, hd, hlen, hoI, hoE⟩ := ok he
    obtain ⟨z1, z2⟩ := stcs (μ := μ) (i := i) (v := v) hs
    refine am_W_zast C0 hP hD hS (hdec hd hlen hi rfl (by decide)) hs h0 h1 hv (fun H1 locs1 hP1 hD1 hS1 => ?_)
    have h9 := k H1 locs1 larr hl hls (hd2 (hd2 (hd2 hst).2).2).2 (am_G_st hG (fun q hq => by
      have : q = (2, n) := Option.some.inj (hq.symm.trans hs)
      subst this
      exact ⟨fun z => (by cases z), fun z => (by cases z), fun _ => hv, fun ci z => by simp only at z; omega⟩)) hP1 hD1 hS1 (by rw [z1]; exact hc1) (by rw [z2]; exact hs1)
    exact am_W_same z1 z2 h9
  · intro en kk pc ls r μ a v f he hi ho hf hv k H locs larr hl hls hst hG hP hD hS hc1 hs1
    obtain ⟨rfl, hd, hlen, hoI, hoE⟩ := ok he
    obtain ⟨n, hn⟩ := am_isO_inv ho
    obtain ⟨z1, z2⟩ := stcs (μ := μ) (i := (en.2.2.2.2.1 : Int)) (v := v.2) hn
    unfold am_okI at hoI
    rw [hi] at hoI
    rw [Bool.and_eq_true, Bool.or_eq_true] at hoI
    obtain ⟨hmem, hnf⟩ := hoI
    refine am_W_put C0 hP hD hS (hmem.imp (fun z => of_decide_eq_true z) (fun z => of_decide_eq_true z)) (hdec hd hlen hi rfl (by decide)) ho hf (fun q hq => by
      unfold am_nf at hnf
      rw [hq] at hnf
      simpa using hnf) hv (fun H1 locs1 hP1 hD1 hS1 => ?_)
    have h9 := k H1 locs1 larr hl hls (hd2 (hd2 hst).2).2 (am_G_st hG (fun q hq => by
      have : q = (10 + en.2.2.2.1, n) := Option.some.inj (hq.symm.trans hn)
      subst this
      refine ⟨fun z => by simp only at z; omega, fun z => by simp only at z; omega, fun z => by simp only at z; omega, fun ci z j g hg hj => ?_⟩
      have hci : ci = en.2.2.2.1 := by simp only at z; omega
      have hjj : j = en.2.2.2.2.1 := by omega
      subst hci; subst hjj
      have : g = f := Option.some.inj (hg.symm.trans hf)
      subst this
      rcases hv with ⟨q1, q2⟩ | ⟨q1, q2⟩ | ⟨q1, q2, q3⟩ | ⟨q1, q2⟩ <;> rw [q1]
      · exact ⟨fun _ => (hd2 hst).1.1 q2, fun z => (by cases z), fun z => (by cases z)⟩
      · exact ⟨fun z => (by cases z), fun _ => (hd2 hst).1.2 q2, fun z => (by cases z)⟩
      · exact ⟨fun z => (by cases z), fun z => (by cases z), fun _ => q3⟩
      · exact ⟨fun z => (by cases z), fun z => (by cases z), fun z => (by cases z)⟩)) hP1 hD1 hS1 (by rw [z1]; exact hc1) (by rw [z2]; exact hs1)
    exact am_W_same z1 z2 h9
  · intro en pc ls r μ cd o x he hi kt kf H locs larr hl hls hst hG hP hD hS hc1 hs1
    obtain ⟨rfl, hd, hlen, hoI, hoE⟩ := ok he
    unfold am_okI at hoI
    rw [hi] at hoI
    exact am_W_if hx hb (hdec hd hlen hi rfl (by decide)) hoI ((hd2 hst).1.1 rfl) (fun q => kt q H locs larr hl hls (hd2 hst).2 hG hP hD hS hc1 hs1) (fun q => kf q H locs larr hl hls (hd2 hst).2 hG hP hD hS hc1 hs1)
  · intro en pc ls r μ cd o x y he hi kt kf H locs larr hl hls hst hG hP hD hS hc1 hs1
    obtain ⟨rfl, hd, hlen, hoI, hoE⟩ := ok he
    unfold am_okI at hoI
    rw [hi] at hoI
    exact am_W_icmp hx hb (hdec hd hlen hi rfl (by decide)) hoI ((hd2 (hd2 hst).2).1.1 rfl) ((hd2 hst).1.1 rfl) (fun q => kt q H locs larr hl hls (hd2 (hd2 hst).2).2 hG hP hD hS hc1 hs1) (fun q => kf q H locs larr hl hls (hd2 (hd2 hst).2).2 hG hP hD hS hc1 hs1)
  · intro en pc ls r μ o he hi k H locs larr hl hls hst hG hP hD hS hc1 hs1
    obtain ⟨rfl, hd, hlen, hoI, hoE⟩ := ok he
    unfold am_okI at hoI
    rw [hi] at hoI
    exact lv_goto hx hb (hdec hd hlen hi rfl (by decide)) (am_tg (pc := 0) hoI) (k H locs larr hl hls hst hG hP hD hS hc1 hs1)
  · intro en pc ls r μ o x he hi kt kf H locs larr hl hls hst hG hP hD hS hc1 hs1
    obtain ⟨rfl, hd, hlen, hoI, hoE⟩ := ok he
    unfold am_okI at hoI
    rw [hi] at hoI
    rw [List.map_cons, am_cv2 rfl]
    by_cases q : x < 0
    · rw [if_pos q]
      exact lv_ifnullN hx hb (hdec hd hlen hi rfl (by decide)) (am_tg (pc := 0) hoI) (kt q H locs larr hl hls (hd2 hst).2 hG hP hD hS hc1 hs1)
    · rw [if_neg q]
      exact lv_ifnull hx hb (hdec hd hlen hi rfl (by decide)) (kf q H locs larr hl hls (hd2 hst).2 hG hP hD hS hc1 hs1)
  · intro en pc ls r μ d lo hi os x he hi0 k H locs larr hl hls hst hG hP hD hS hc1 hs1
    obtain ⟨rfl, hd, hlen, hoI, hoE⟩ := ok he
    unfold am_okI at hoI
    rw [hi0] at hoI hd
    simp only [Bool.and_eq_true, decide_eq_true_eq] at hoI
    obtain ⟨o1, o2, o3, o4, o5⟩ := hoI
    have hxr := (hd2 hst).1.1 rfl
    have h9 := k H locs larr hl hls (hd2 hst).2 hG hP hD hS hc1 hs1
    by_cases q : lo ≤ x ∧ x < lo + (os.toList.length : Int)
    · obtain ⟨o, e1, e2⟩ := am_tsw_in (e := en) (d := d) os.toList lo x q.1 q.2
      rw [e2] at h9
      have e1' : os[(x - lo).toNat]? = some o := by rw [← Array.getElem?_toList]; exact e1
      refine lv_tableIn hx hb hd (by rw [r32_to hxr]; omega) (by rw [r32_to hxr]; omega) (by rw [r32_to hxr]; exact e1') (am_tg (pc := 0) ?_) h9
      exact List.all_eq_true.mp o2 _ (List.mem_of_getElem? e1)
    · rw [am_tsw_out os.toList lo x (by omega)] at h9
      exact lv_tableOut hx hb hd (by rw [r32_to hxr]; omega) (am_tg (pc := 0) o1) h9
  · intro en pc ls r μ d ps x he hi0 k H locs larr hl hls hst hG hP hD hS hc1 hs1
    obtain ⟨rfl, hd, hlen, hoI, hoE⟩ := ok he
    unfold am_okI at hoI
    rw [hi0] at hoI hd
    rw [Bool.and_eq_true, Bool.and_eq_true] at hoI
    obtain ⟨o1, o2, o3⟩ := hoI
    have hxr := (hd2 hst).1.1 rfl
    have h9 := k H locs larr hl hls (hd2 hst).2 hG hP hD hS hc1 hs1
    rw [am_lsw_of] at h9
    exact lv_lookup hx hb hd o3 (by rw [r32_to hxr]) (am_tg (pc := 0) (am_lsw_ok _ _ o1 o2)) h9
  · intro en b pc ls st r μ as rv μ' he hi hb5 hr hc hst0 hcat k H locs larr hl hls hst hG hP hD hS hc1 hs1
    obtain ⟨rfl, hd, hlen, hoI, hoE⟩ := ok he
    have hd3 : decode cc en.1 = .ok (en.2.1, 3) := by
      rcases hi with ⟨-, ⟨kq, hk, -⟩ | ⟨kq, hk, -⟩⟩ <;> (have := hdec (n := 3) hd hlen hk rfl (by decide); rw [hk]; exact this)
    refine am_sim_call C0 hml hmw hA hCR hd3 hoI hi hb5 hr hc hst0 hcat hl.1 hst hG hP hD hS hc1 hs1 (fun H1 locs1 g1 g2 hP1 hD1 hS1 hc2 hs2 => ?_)
    refine k H1 locs1 larr hl hls ?_ g1 hP1 hD1 hS1 hc2 hs2
    subst hst0
    obtain ⟨i1, i2⟩ := am_in_app hst
    cases rv with
    | none => exact i2
    | some v => exact cons (g2 v rfl) i2
  · intro en pc ls r μ x y he hi ha hcat k H locs larr hl hls hst hG hP hD hS hc1 hs1
    obtain ⟨rfl, hd, hlen, hoI, hoE⟩ := ok he
    obtain ⟨hib, ⟨kq, hk, hlt⟩ | ⟨kq, hk, -⟩⟩ := hi
    · omega
    · unfold am_okI at hoI
      rw [hk] at hoI
      have hm := hml _ (of_decide_eq_true hoI)
      rw [hib, ha] at hm
      rcases hm with ⟨q, l1, l2, l3, l4⟩ | ⟨q, -⟩ | ⟨q, -⟩
      · have h9 := k H locs larr hl hls (cons (am_in0 (by split; exact (hd2 hst).1.1 rfl; exact (hd2 (hd2 hst).2).1.1 rfl)) (hd2 (hd2 hst).2).2) hG hP hD hS hc1 hs1
        refine va_mmax hx hb (by rw [hmx]; exact hl.1.symm) hown (hts _ l1) (hts _ l2) (hts _ l3) (hts _ l4) hRf (by rw [am_catS]; omega) hc1 hs1 (hdec hd hlen hk rfl (by decide)) ?_
        rw [List.map_cons, am_cv0 rfl] at h9
        have e1 : (if Int32.ofInt x < Int32.ofInt y then Int32.ofInt y else Int32.ofInt x) = Int32.ofInt (if x < y then y else x) := by
          have qq := am_e_lt ((hd2 (hd2 hst).2).1.1 rfl) ((hd2 hst).1.1 rfl)
          by_cases q : x < y
          · rw [if_pos q, if_pos (qq.mpr q)]
          · rw [if_neg q, if_neg (fun z => q (qq.mp z))]
        rw [e1]
        exact h9
      · cases q
      · cases q
  · intro en pc ls r μ x y he hi ha hcat k H locs larr hl hls hst hG hP hD hS hc1 hs1
    obtain ⟨rfl, hd, hlen, hoI, hoE⟩ := ok he
    obtain ⟨hib, ⟨kq, hk, hlt⟩ | ⟨kq, hk, -⟩⟩ := hi
    · omega
    · unfold am_okI at hoI
      rw [hk] at hoI
      have hm := hml _ (of_decide_eq_true hoI)
      rw [hib, ha] at hm
      rcases hm with ⟨q, -⟩ | ⟨q, l1, l2, l3, l4⟩ | ⟨q, -⟩
      · cases q
      · have h9 := k H locs larr hl hls (cons (am_in0 (by split; exact (hd2 hst).1.1 rfl; exact (hd2 (hd2 hst).2).1.1 rfl)) (hd2 (hd2 hst).2).2) hG hP hD hS hc1 hs1
        refine va_mmin hx hb (by rw [hmx]; exact hl.1.symm) hown (hts _ l1) (hts _ l2) (hts _ l3) (hts _ l4) hRf (by rw [am_catS]; omega) hc1 hs1 (hdec hd hlen hk rfl (by decide)) ?_
        rw [List.map_cons, am_cv0 rfl] at h9
        have e1 : (if Int32.ofInt y < Int32.ofInt x then Int32.ofInt y else Int32.ofInt x) = Int32.ofInt (if y < x then y else x) := by
          have qq := am_e_lt ((hd2 hst).1.1 rfl) ((hd2 (hd2 hst).2).1.1 rfl)
          by_cases q : y < x
          · rw [if_pos q, if_pos (qq.mpr q)]
          · rw [if_neg q, if_neg (fun z => q (qq.mp z))]
        rw [e1]
        exact h9
      · cases q
  · intro en pc ls r μ x y he hi ha hcat k H locs larr hl hls hst hG hP hD hS hc1 hs1
    obtain ⟨rfl, hd, hlen, hoI, hoE⟩ := ok he
    obtain ⟨hib, ⟨kq, hk, hlt⟩ | ⟨kq, hk, -⟩⟩ := hi
    · omega
    · unfold am_okI at hoI
      rw [hk] at hoI
      have hm := hml _ (of_decide_eq_true hoI)
      rw [hib, ha] at hm
      rcases hm with ⟨q, -⟩ | ⟨q, -⟩ | ⟨q, l1, l2, l3, l4⟩
      · cases q
      · cases q
      · have h9 := k H locs larr hl hls (cons (am_in1 (by split; exact (hd2 hst).1.2 rfl; exact (hd2 (hd2 hst).2).1.2 rfl)) (hd2 (hd2 hst).2).2) hG hP hD hS hc1 hs1
        refine va_mmin_long hx hb (by rw [hmx]; exact hl.1.symm) hown (hts _ l1) (hts _ l2) (hts _ l3) (hts _ l4) hRf (by rw [am_catS]; omega) hc1 hs1 (hdec hd hlen hk rfl (by decide)) ?_
        rw [List.map_cons, am_cv1 rfl] at h9
        have e1 : (if Int64.ofInt y < Int64.ofInt x then Int64.ofInt y else Int64.ofInt x) = Int64.ofInt (if y < x then y else x) := by
          have qq := am_f_lt ((hd2 hst).1.2 rfl) ((hd2 (hd2 hst).2).1.2 rfl)
          by_cases q : y < x
          · rw [if_pos q, if_pos (qq.mpr q)]
          · rw [if_neg q, if_neg (fun z => q (qq.mp z))]
        rw [e1]
        exact h9
  · intro en pc ls r μ n dp c1 sp c0 n0 n1 he hi h0 h1 a0 a1 a2 a3 a4 hcat k H locs larr hl hls hst hG hP hD hS hc1 hs1
    obtain ⟨rfl, hd, hlen, hoI, hoE⟩ := ok he
    obtain ⟨hib, ⟨kq, hk, hlt⟩ | ⟨kq, hk, -⟩⟩ := hi
    · omega
    · unfold am_okI at hoI
      rw [hk] at hoI
      have hm := hml _ (of_decide_eq_true hoI)
      rw [hib] at hm
      obtain ⟨l1, l2, l3, l4⟩ := hm
      obtain ⟨z1, z2⟩ := hcs (am_cpy μ c0 sp c1 dp n) μ (by
        have := am_shp_pos h1
        funext j
        unfold am_cpy
        rw [if_neg (by omega)])
      obtain ⟨j0, hj0, hw0⟩ := am_wd_at (ad := ad) (cT := cT) (μ := μ) h0
      obtain ⟨j1, hj1, hw1⟩ := am_wd_at (ad := ad) (cT := cT) (μ := μ) h1
      have hn0 := am_shp_len h0
      have hn1 := am_shp_len h1
      simp only [List.map_cons, am_ref h0, am_ref h1]
      have ng : ∀ {x : Int}, 0 ≤ x → x < 2147483648 → ¬ (Int32.ofInt x) < 0 := fun {x} q1 q2 => by
        rw [show (0 : Int32) = Int32.ofInt 0 from rfl, am_e_lt (by unfold r32; omega) (by unfold r32; omega)]
        omega
      refine va_copyi hx hb (by rw [hmx]; exact hl.1.symm) hown (hts _ l1) (hts _ l2) (hts _ l3) (hts _ l4) hK hP hD hS j0 j1 0 0 hw0 hw1 rfl rfl rfl (ng a0 (by omega)) (ng a1 (by omega)) (ng a2 (by omega)) (by rw [am_clamp a0 (by omega), am_clamp a2 (by omega)]; omega) (by rw [am_clamp a1 (by omega), am_clamp a2 (by omega)]; omega) (fun i _ => rfl) hRf (by rw [am_catS]; exact Nat.le_trans (Nat.add_le_add_right hcat _) (Nat.le_trans (by decide) hRl)) (hdec hd hlen hk rfl (by decide)) (fun H1 locs1 hP1 hD1 hS1 => ?_)
      have ew : (am_wd ad cT μ).set j1 (ad c1, .inl (cT 0, n1, .inl (va_cpy (fun j : Nat => Int32.ofInt (μ c0 j)) (fun j : Nat => Int32.ofInt (μ c1 j)) (Int32.ofInt sp).toNatClampNeg (Int32.ofInt dp).toNatClampNeg (Int32.ofInt n).toNatClampNeg))) = am_wd ad cT (am_cpy μ c0 sp c1 dp n) := by
        rw [am_clamp a0 (by omega), am_clamp a1 (by omega), am_clamp a2 (by omega)]
        rw [← am_wd_set (ad := ad) (cT := cT) (μ := μ) (μ' := am_cpy μ c0 sp c1 dp n) hj1 (fun c' hc' => by
          funext j
          unfold am_cpy
          rw [if_neg (fun z => hc' z.1)])]
        congr 2
        show _ = Sum.inl (cT 0, n1, Sum.inl (fun j : Nat => Int32.ofInt (am_cpy μ c0 sp c1 dp n c1 j)))
        congr 4
        funext j
        unfold va_cpy am_cpy
        by_cases q : dp.toNat ≤ j ∧ j < dp.toNat + n.toNat
        · rw [if_pos q, if_pos ⟨rfl, by omega, by omega⟩]
          show Int32.ofInt (μ c0 ((sp.toNat + (j - dp.toNat) : Nat) : Int)) = Int32.ofInt (μ c0 (sp + ((j : Int) - dp)))
          have e5 : ((sp.toNat + (j - dp.toNat) : Nat) : Int) = sp + ((j : Int) - dp) := by omega
          rw [e5]
        · rw [if_neg q, if_neg (fun z => q ⟨by omega, by omega⟩)]
      rw [ew] at hP1 hD1
      have h9 := k H1 locs1 larr hl hls (hd2 (hd2 (hd2 (hd2 (hd2 hst).2).2).2).2).2 (am_G_cpy hG h0 h1 a0 a3) hP1 hD1 hS1 (by rw [z1]; exact hc1) (by rw [z2]; exact hs1)
      exact am_W_same z1 z2 h9
  · intro en pc ls μ v he hi hr hres H locs larr hl hls hst hG hP hD hS hc1 hs1
    obtain ⟨rfl, hd, hlen, hoI, hoE⟩ := ok he
    subst hres
    exact hI v H locs larr en.1 (hdec hd hlen hi rfl (by decide)) hr rfl hP hD hS hc1 hs1
  · intro en pc ls μ v he hi hr hres H locs larr hl hls hst hG hP hD hS hc1 hs1
    obtain ⟨rfl, hd, hlen, hoI, hoE⟩ := ok he
    subst hres
    exact hL v H locs larr en.1 (hdec hd hlen hi rfl (by decide)) hr rfl hP hD hS hc1 hs1
  · intro en pc ls μ he hi hr hres H locs larr hl hls hst hG hP hD hS hc1 hs1
    obtain ⟨rfl, hd, hlen, hoI, hoE⟩ := ok he
    subst hres
    exact hV H locs larr en.1 (hdec hd hlen hi rfl (by decide)) hr rfl hP hD hS hc1 hs1
  · intro pc ls ls' st μ hsub k H locs larr hl hls hst hG hP hD hS hc1 hs1
    refine k H locs larr ⟨hl.1, hl.2.1, fun q hq => ?_⟩ (fun q hq => hls q (hsub q hq)) hst hG hP hD hS hc1 hs1
    obtain ⟨w, hw, rfl⟩ := List.mem_map.mp hq
    exact hl.2.2 _ (List.mem_map_of_mem (hsub w hw))
end AMW
