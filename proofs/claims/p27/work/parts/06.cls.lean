/-! Facts of the classes, decided. Printed by program. -/
theorem am_tG_pl {ws : List Cond} (ps : List Nat) (h : ps.map (fun i => lw_tbl[i]?) = ws.map some) (hg : ws.all goodWord = true) : ∀ w ∈ ws, w ∈ am_tG := by
  intro w hw
  have h1 := List.all_eq_true.mp hg w hw
  have h2 : some w ∈ ps.map (fun i => lw_tbl[i]?) := by rw [h]; exact List.mem_map_of_mem hw
  obtain ⟨i, -, hi⟩ := List.mem_map.mp h2
  exact List.mem_filter.mpr ⟨List.mem_of_getElem? hi, h1⟩
theorem am_nest_pl {ws : List Cond} (ps : List Nat) (h : ps.map (fun i => lw_tbl[i]?) = ws.map some) (hg : ws.all am_isN = true) : ∀ w ∈ ws, w ∈ am_nest := by
  intro w hw
  have h1 := List.all_eq_true.mp hg w hw
  have h2 : some w ∈ ps.map (fun i => lw_tbl[i]?) := by rw [h]; exact List.mem_map_of_mem hw
  obtain ⟨i, -, hi⟩ := List.mem_map.mp h2
  exact List.mem_filter.mpr ⟨List.mem_of_getElem? hi, h1⟩
theorem g_w0 : ∀ w ∈ u_ws g_R0 g_T0 14, w ∈ am_tG := am_tG_pl [327, 329, 331, 333, 335, 337, 339, 341, 343, 345, 347, 349, 351, 353] (by decide +kernel) (by decide +kernel)
theorem g_w1 : ∀ w ∈ u_ws g_R1 g_T1 10, w ∈ am_tG := am_tG_pl [421, 423, 425, 427, 429, 431, 433, 435, 437, 439] (by decide +kernel) (by decide +kernel)
theorem g_w2 : ∀ w ∈ u_ws g_R2 g_T2 12, w ∈ am_tG := am_tG_pl [252, 254, 256, 258, 260, 262, 264, 266, 268, 270, 272, 274] (by decide +kernel) (by decide +kernel)
theorem g_w3 : ∀ w ∈ u_ws g_R3 g_T3 14, w ∈ am_tG := am_tG_pl [476, 478, 480, 482, 484, 486, 488, 490, 492, 494, 496, 498, 500, 502] (by decide +kernel) (by decide +kernel)
theorem g_w4 : ∀ w ∈ u_ws g_R4 g_T4 10, w ∈ am_tG := am_tG_pl [570, 572, 574, 576, 578, 580, 582, 584, 586, 588] (by decide +kernel) (by decide +kernel)
theorem g_w5 : ∀ w ∈ u_ws g_R5 g_T5 14, w ∈ am_tG := am_tG_pl [376, 378, 380, 382, 384, 386, 388, 390, 392, 394, 396, 398, 400, 402] (by decide +kernel) (by decide +kernel)
theorem g_w6 : ∀ w ∈ u_ws g_R6 g_T6 1, w ∈ am_tG := am_tG_pl [449] (by decide +kernel) (by decide +kernel)
theorem g_w7 : ∀ w ∈ u_ws g_R7 g_T7 8, w ∈ am_tG := am_tG_pl [170, 172, 174, 176, 178, 180, 182, 184] (by decide +kernel) (by decide +kernel)
theorem g_w8 : ∀ w ∈ u_ws g_R8 g_T8 13, w ∈ am_tG := am_tG_pl [527, 529, 531, 533, 535, 537, 539, 541, 543, 545, 547, 549, 551] (by decide +kernel) (by decide +kernel)
theorem g_w9 : ∀ w ∈ u_ws g_R9 g_T9 11, w ∈ am_tG := am_tG_pl [602, 604, 606, 608, 610, 612, 614, 616, 618, 620, 622] (by decide +kernel) (by decide +kernel)
/-- what a class gives -/
def am_cOk (ci : Nat) (q : vw_C) : Prop := (∀ w ∈ u_ws q.1 q.2.1 q.2.2, w ∈ am_tG) ∧ (∃ ty : Nat → FieldType, (∀ k, k < q.2.2 → parseFieldDescriptor (q.2.1 k).2.2.1 = some (ty k)) ∧ (∀ k, k < q.2.2 → ∃ f, am_fld ci k = some f ∧ (f.1 = 0 → ty k = .int) ∧ (f.1 = 1 → ty k = .long) ∧ (f.1 = 2 → ty k = .boolean) ∧ (f.1 = 3 → ∃ C, ty k = .object C))) ∧ (∀ a, a < q.2.2 → ∀ b, b < q.2.2 → a ≠ b → (q.2.1 a).2.1 ≠ (q.2.1 b).2.1) ∧ ((g_ft[ci]?).getD []).length = q.2.2
def am_tyk : FieldType → Nat
  | .int => 0
  | .long => 1
  | .boolean => 2
  | .object _ => 3
  | _ => 4
theorem am_fok {ci k : Nat} {ty : FieldType} (h : (match am_fld ci k with
  | some f => (bif Nat.blt f.1 4 then Nat.beq (am_tyk ty) f.1 else true)
  | none => false) = true) : ∃ f, am_fld ci k = some f ∧ (f.1 = 0 → ty = .int) ∧ (f.1 = 1 → ty = .long) ∧ (f.1 = 2 → ty = .boolean) ∧ (f.1 = 3 → ∃ C, ty = .object C) := by
  cases hf : am_fld ci k with
  | none => rw [hf] at h; cases h
  | some f =>
    rw [hf] at h
    obtain ⟨t, d⟩ := f
    refine ⟨(t, d), rfl, ?_, ?_, ?_, ?_⟩ <;> (intro e; simp only at e; subst e; cases ty <;> first | rfl | exact ⟨_, rfl⟩ | (exact Bool.noConfusion h))
theorem g_f0 : ∀ k, k < 14 → (match am_fld 0 k with
  | some f => (bif Nat.blt f.1 4 then Nat.beq (am_tyk (g_t0 k)) f.1 else true)
  | none => false) = true := by decide +kernel
theorem g_c0 : am_cOk 0 (g_R0, g_T0, 14) := ⟨g_w0, ⟨g_t0, g_p0, fun k hk => am_fok (g_f0 k hk)⟩, g_n0, rfl⟩
theorem g_f1 : ∀ k, k < 10 → (match am_fld 1 k with
  | some f => (bif Nat.blt f.1 4 then Nat.beq (am_tyk (g_t1 k)) f.1 else true)
  | none => false) = true := by decide +kernel
theorem g_c1 : am_cOk 1 (g_R1, g_T1, 10) := ⟨g_w1, ⟨g_t1, g_p1, fun k hk => am_fok (g_f1 k hk)⟩, g_n1, rfl⟩
theorem g_f2 : ∀ k, k < 12 → (match am_fld 2 k with
  | some f => (bif Nat.blt f.1 4 then Nat.beq (am_tyk (g_t2 k)) f.1 else true)
  | none => false) = true := by decide +kernel
theorem g_c2 : am_cOk 2 (g_R2, g_T2, 12) := ⟨g_w2, ⟨g_t2, g_p2, fun k hk => am_fok (g_f2 k hk)⟩, g_n2, rfl⟩
theorem g_f3 : ∀ k, k < 14 → (match am_fld 3 k with
  | some f => (bif Nat.blt f.1 4 then Nat.beq (am_tyk (g_t3 k)) f.1 else true)
  | none => false) = true := by decide +kernel
theorem g_c3 : am_cOk 3 (g_R3, g_T3, 14) := ⟨g_w3, ⟨g_t3, g_p3, fun k hk => am_fok (g_f3 k hk)⟩, g_n3, rfl⟩
theorem g_f4 : ∀ k, k < 10 → (match am_fld 4 k with
  | some f => (bif Nat.blt f.1 4 then Nat.beq (am_tyk (g_t4 k)) f.1 else true)
  | none => false) = true := by decide +kernel
theorem g_c4 : am_cOk 4 (g_R4, g_T4, 10) := ⟨g_w4, ⟨g_t4, g_p4, fun k hk => am_fok (g_f4 k hk)⟩, g_n4, rfl⟩
theorem g_f5 : ∀ k, k < 14 → (match am_fld 5 k with
  | some f => (bif Nat.blt f.1 4 then Nat.beq (am_tyk (g_t5 k)) f.1 else true)
  | none => false) = true := by decide +kernel
theorem g_c5 : am_cOk 5 (g_R5, g_T5, 14) := ⟨g_w5, ⟨g_t5, g_p5, fun k hk => am_fok (g_f5 k hk)⟩, g_n5, rfl⟩
theorem g_f6 : ∀ k, k < 1 → (match am_fld 6 k with
  | some f => (bif Nat.blt f.1 4 then Nat.beq (am_tyk (g_t6 k)) f.1 else true)
  | none => false) = true := by decide +kernel
theorem g_c6 : am_cOk 6 (g_R6, g_T6, 1) := ⟨g_w6, ⟨g_t6, g_p6, fun k hk => am_fok (g_f6 k hk)⟩, g_n6, rfl⟩
theorem g_f7 : ∀ k, k < 8 → (match am_fld 7 k with
  | some f => (bif Nat.blt f.1 4 then Nat.beq (am_tyk (g_t7 k)) f.1 else true)
  | none => false) = true := by decide +kernel
theorem g_c7 : am_cOk 7 (g_R7, g_T7, 8) := ⟨g_w7, ⟨g_t7, g_p7, fun k hk => am_fok (g_f7 k hk)⟩, g_n7, rfl⟩
theorem g_f8 : ∀ k, k < 13 → (match am_fld 8 k with
  | some f => (bif Nat.blt f.1 4 then Nat.beq (am_tyk (g_t8 k)) f.1 else true)
  | none => false) = true := by decide +kernel
theorem g_c8 : am_cOk 8 (g_R8, g_T8, 13) := ⟨g_w8, ⟨g_t8, g_p8, fun k hk => am_fok (g_f8 k hk)⟩, g_n8, rfl⟩
theorem g_f9 : ∀ k, k < 11 → (match am_fld 9 k with
  | some f => (bif Nat.blt f.1 4 then Nat.beq (am_tyk (g_t9 k)) f.1 else true)
  | none => false) = true := by decide +kernel
theorem g_c9 : am_cOk 9 (g_R9, g_T9, 11) := ⟨g_w9, ⟨g_t9, g_p9, fun k hk => am_fok (g_f9 k hk)⟩, g_n9, rfl⟩
theorem g_cls : ∀ (ci : Nat) (q : vw_C), g_cl[ci]? = some q → am_cOk ci q := by
  intro ci q h
  match ci, h with
  | 0, h => exact (Option.some.inj h) ▸ g_c0
  | 1, h => exact (Option.some.inj h) ▸ g_c1
  | 2, h => exact (Option.some.inj h) ▸ g_c2
  | 3, h => exact (Option.some.inj h) ▸ g_c3
  | 4, h => exact (Option.some.inj h) ▸ g_c4
  | 5, h => exact (Option.some.inj h) ▸ g_c5
  | 6, h => exact (Option.some.inj h) ▸ g_c6
  | 7, h => exact (Option.some.inj h) ▸ g_c7
  | 8, h => exact (Option.some.inj h) ▸ g_c8
  | 9, h => exact (Option.some.inj h) ▸ g_c9
  | n + 10, h => cases h
