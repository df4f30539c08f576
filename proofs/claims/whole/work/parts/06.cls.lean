/-! Facts of the classes, decided. Printed by program. -/
theorem am_tG_pl {ws : List Cond} (ps : List Nat) (h : ps.map (fun i => lw_tbl[i]?) = ws.map some) (hg : ws.all goodWord = true) : ∀ w ∈ ws, w ∈ am_tG := by
  intro w hw
  have h1 := List.all_eq_true.mp hg w hw
  have h2 : some w ∈ ps.map (fun i => lw_tbl[i]?) := by rw [h]; exact List.mem_map_of_mem hw
  obtain ⟨i, -, hi⟩ := List.mem_map.mp h2
  exact List.mem_filter.mpr ⟨List.mem_of_getElem? hi, h1⟩
theorem am_nest_pl {ws : List Cond} (ps : List Nat) (h : ps.map (fun i => lw_tbl[i]?) = ws.map some) (hg : ws.all am_isN = true) : ∀ w ∈ ws, w ∈ am_nest := by
  intro w hw
  have h1 := List.all_eq_true.mp hg w hw
  have h2 : some w ∈ ps.map (fun i => lw_tbl[i]?) := by rw [h]; exact List.mem_map_of_mem hw
  obtain ⟨i, -, hi⟩ := List.mem_map.mp h2
  exact List.mem_filter.mpr ⟨List.mem_of_getElem? hi, h1⟩
theorem g_w0 : ∀ w ∈ u_ws g_R0 g_T0 14, w ∈ am_tG := am_tG_pl [400, 402, 404, 406, 408, 410, 412, 414, 416, 418, 420, 422, 424, 426] (by decide +kernel) (by decide +kernel)
theorem g_w1 : ∀ w ∈ u_ws g_R1 g_T1 10, w ∈ am_tG := am_tG_pl [494, 496, 498, 500, 502, 504, 506, 508, 510, 512] (by decide +kernel) (by decide +kernel)
theorem g_w2 : ∀ w ∈ u_ws g_R2 g_T2 12, w ∈ am_tG := am_tG_pl [325, 327, 329, 331, 333, 335, 337, 339, 341, 343, 345, 347] (by decide +kernel) (by decide +kernel)
theorem g_w3 : ∀ w ∈ u_ws g_R3 g_T3 14, w ∈ am_tG := am_tG_pl [549, 551, 553, 555, 557, 559, 561, 563, 565, 567, 569, 571, 573, 575] (by decide +kernel) (by decide +kernel)
theorem g_w4 : ∀ w ∈ u_ws g_R4 g_T4 10, w ∈ am_tG := am_tG_pl [643, 645, 647, 649, 651, 653, 655, 657, 659, 661] (by decide +kernel) (by decide +kernel)
theorem g_w5 : ∀ w ∈ u_ws g_R5 g_T5 14, w ∈ am_tG := am_tG_pl [449, 451, 453, 455, 457, 459, 461, 463, 465, 467, 469, 471, 473, 475] (by decide +kernel) (by decide +kernel)
theorem g_w6 : ∀ w ∈ u_ws g_R6 g_T6 1, w ∈ am_tG := am_tG_pl [522] (by decide +kernel) (by decide +kernel)
theorem g_w7 : ∀ w ∈ u_ws g_R7 g_T7 8, w ∈ am_tG := am_tG_pl [243, 245, 247, 249, 251, 253, 255, 257] (by decide +kernel) (by decide +kernel)
theorem g_w8 : ∀ w ∈ u_ws g_R8 g_T8 13, w ∈ am_tG := am_tG_pl [600, 602, 604, 606, 608, 610, 612, 614, 616, 618, 620, 622, 624] (by decide +kernel) (by decide +kernel)
theorem g_w9 : ∀ w ∈ u_ws g_R9 g_T9 11, w ∈ am_tG := am_tG_pl [675, 677, 679, 681, 683, 685, 687, 689, 691, 693, 695] (by decide +kernel) (by decide +kernel)
theorem g_w10 : ∀ w ∈ u_ws g_R10 g_T10 91, w ∈ am_tG := am_tG_pl [1500, 1502, 1504, 1506, 1508, 1510, 1512, 1514, 1516, 1518, 1520, 1522, 1524, 1526, 1528, 1530, 1532, 1534, 1536, 1538, 1540, 1542, 1544, 1546, 1548, 1550, 1552, 1554, 1556, 1558, 1560, 1562, 1564, 1566, 1568, 1570, 1572, 1574, 1576, 1578, 1580, 1582, 1584, 1586, 1588, 1590, 1592, 1594, 1596, 1598, 1600, 1602, 1604, 1606, 1608, 1610, 1612, 1614, 1616, 1618, 1620, 1622, 1624, 1626, 1628, 1630, 1632, 1634, 1636, 1638, 1640, 1642, 1644, 1646, 1648, 1650, 1652, 1654, 1656, 1658, 1660, 1662, 1664, 1666, 1668, 1670, 1672, 1674, 1676, 1678, 1680] (by decide +kernel) (by decide +kernel)
/-- what a class gives -/
def am_cOk (ci : Nat) (q : vw_C) : Prop := (∀ w ∈ u_ws q.1 q.2.1 q.2.2, w ∈ am_tG) ∧ (∃ ty : Nat → FieldType, (∀ k, k < q.2.2 → parseFieldDescriptor (q.2.1 k).2.2.1 = some (ty k)) ∧ (∀ k, k < q.2.2 → ∃ f, am_fld ci k = some f ∧ (f.1 = 0 → ty k = .int) ∧ (f.1 = 1 → ty k = .long) ∧ (f.1 = 2 → ty k = .boolean) ∧ (f.1 = 3 → ∃ C, ty k = .object C))) ∧ (∀ a, a < q.2.2 → ∀ b, b < q.2.2 → a ≠ b → (q.2.1 a).2.1 ≠ (q.2.1 b).2.1) ∧ ((g_ft[ci]?).getD []).length = q.2.2
def am_tyk : FieldType → Nat
  | .int => 0
  | .long => 1
  | .boolean => 2
  | .object _ => 3
  | _ => 4
theorem am_fok {ci k : Nat} {ty : FieldType} (h : (match am_fld ci k with
  | some f => (bif Nat.blt f.1 4 then Nat.beq (am_tyk ty) f.1 else true)
  | none => false) = true) : ∃ f, am_fld ci k = some f ∧ (f.1 = 0 → ty = .int) ∧ (f.1 = 1 → ty = .long) ∧ (f.1 = 2 → ty = .boolean) ∧ (f.1 = 3 → ∃ C, ty = .object C) := by
  cases hf : am_fld ci k with
  | none => rw [hf] at h; cases h
  | some f =>
    rw [hf] at h
    obtain ⟨t, d⟩ := f
    refine ⟨(t, d), rfl, ?_, ?_, ?_, ?_⟩ <;> (intro e; simp only at e; subst e; cases ty <;> first | rfl | exact ⟨_, rfl⟩ | (exact Bool.noConfusion h))
theorem g_f0 : ∀ k, k < 14 → (match am_fld 0 k with
  | some f => (bif Nat.blt f.1 4 then Nat.beq (am_tyk (g_t0 k)) f.1 else true)
  | none => false) = true := by decide +kernel
theorem g_c0 : am_cOk 0 (g_R0, g_T0, 14) := ⟨g_w0, ⟨g_t0, g_p0, fun k hk => am_fok (g_f0 k hk)⟩, g_n0, rfl⟩
theorem g_f1 : ∀ k, k < 10 → (match am_fld 1 k with
  | some f => (bif Nat.blt f.1 4 then Nat.beq (am_tyk (g_t1 k)) f.1 else true)
  | none => false) = true := by decide +kernel
theorem g_c1 : am_cOk 1 (g_R1, g_T1, 10) := ⟨g_w1, ⟨g_t1, g_p1, fun k hk => am_fok (g_f1 k hk)⟩, g_n1, rfl⟩
theorem g_f2 : ∀ k, k < 12 → (match am_fld 2 k with
  | some f => (bif Nat.blt f.1 4 then Nat.beq (am_tyk (g_t2 k)) f.1 else true)
  | none => false) = true := by decide +kernel
theorem g_c2 : am_cOk 2 (g_R2, g_T2, 12) := ⟨g_w2, ⟨g_t2, g_p2, fun k hk => am_fok (g_f2 k hk)⟩, g_n2, rfl⟩
theorem g_f3 : ∀ k, k < 14 → (match am_fld 3 k with
  | some f => (bif Nat.blt f.1 4 then Nat.beq (am_tyk (g_t3 k)) f.1 else true)
  | none => false) = true := by decide +kernel
theorem g_c3 : am_cOk 3 (g_R3, g_T3, 14) := ⟨g_w3, ⟨g_t3, g_p3, fun k hk => am_fok (g_f3 k hk)⟩, g_n3, rfl⟩
theorem g_f4 : ∀ k, k < 10 → (match am_fld 4 k with
  | some f => (bif Nat.blt f.1 4 then Nat.beq (am_tyk (g_t4 k)) f.1 else true)
  | none => false) = true := by decide +kernel
theorem g_c4 : am_cOk 4 (g_R4, g_T4, 10) := ⟨g_w4, ⟨g_t4, g_p4, fun k hk => am_fok (g_f4 k hk)⟩, g_n4, rfl⟩
theorem g_f5 : ∀ k, k < 14 → (match am_fld 5 k with
  | some f => (bif Nat.blt f.1 4 then Nat.beq (am_tyk (g_t5 k)) f.1 else true)
  | none => false) = true := by decide +kernel
theorem g_c5 : am_cOk 5 (g_R5, g_T5, 14) := ⟨g_w5, ⟨g_t5, g_p5, fun k hk => am_fok (g_f5 k hk)⟩, g_n5, rfl⟩
theorem g_f6 : ∀ k, k < 1 → (match am_fld 6 k with
  | some f => (bif Nat.blt f.1 4 then Nat.beq (am_tyk (g_t6 k)) f.1 else true)
  | none => false) = true := by decide +kernel
theorem g_c6 : am_cOk 6 (g_R6, g_T6, 1) := ⟨g_w6, ⟨g_t6, g_p6, fun k hk => am_fok (g_f6 k hk)⟩, g_n6, rfl⟩
theorem g_f7 : ∀ k, k < 8 → (match am_fld 7 k with
  | some f => (bif Nat.blt f.1 4 then Nat.beq (am_tyk (g_t7 k)) f.1 else true)
  | none => false) = true := by decide +kernel
theorem g_c7 : am_cOk 7 (g_R7, g_T7, 8) := ⟨g_w7, ⟨g_t7, g_p7, fun k hk => am_fok (g_f7 k hk)⟩, g_n7, rfl⟩
theorem g_f8 : ∀ k, k < 13 → (match am_fld 8 k with
  | some f => (bif Nat.blt f.1 4 then Nat.beq (am_tyk (g_t8 k)) f.1 else true)
  | none => false) = true := by decide +kernel
theorem g_c8 : am_cOk 8 (g_R8, g_T8, 13) := ⟨g_w8, ⟨g_t8, g_p8, fun k hk => am_fok (g_f8 k hk)⟩, g_n8, rfl⟩
theorem g_f9 : ∀ k, k < 11 → (match am_fld 9 k with
  | some f => (bif Nat.blt f.1 4 then Nat.beq (am_tyk (g_t9 k)) f.1 else true)
  | none => false) = true := by decide +kernel
theorem g_c9 : am_cOk 9 (g_R9, g_T9, 11) := ⟨g_w9, ⟨g_t9, g_p9, fun k hk => am_fok (g_f9 k hk)⟩, g_n9, rfl⟩
theorem g_f10 : ∀ k, k < 91 → (match am_fld 10 k with
  | some f => (bif Nat.blt f.1 4 then Nat.beq (am_tyk (g_t10 k)) f.1 else true)
  | none => false) = true := by decide +kernel
theorem g_c10 : am_cOk 10 (g_R10, g_T10, 91) := ⟨g_w10, ⟨g_t10, g_p10, fun k hk => am_fok (g_f10 k hk)⟩, g_n10, rfl⟩
theorem g_cls : ∀ (ci : Nat) (q : vw_C), g_cl[ci]? = some q → am_cOk ci q := by
  intro ci q h
  match ci, h with
  | 0, h => exact (Option.some.inj h) ▸ g_c0
  | 1, h => exact (Option.some.inj h) ▸ g_c1
  | 2, h => exact (Option.some.inj h) ▸ g_c2
  | 3, h => exact (Option.some.inj h) ▸ g_c3
  | 4, h => exact (Option.some.inj h) ▸ g_c4
  | 5, h => exact (Option.some.inj h) ▸ g_c5
  | 6, h => exact (Option.some.inj h) ▸ g_c6
  | 7, h => exact (Option.some.inj h) ▸ g_c7
  | 8, h => exact (Option.some.inj h) ▸ g_c8
  | 9, h => exact (Option.some.inj h) ▸ g_c9
  | 10, h => exact (Option.some.inj h) ▸ g_c10
  | n + 11, h => cases h
