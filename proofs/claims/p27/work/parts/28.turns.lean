/-! L_sound's turns: what one comes to with one continuation, it comes to with any. Printed by program (wip/p27/ev6.py). -/
def PK (V1 V2 : Int) (kx : Int → Int → am_M → am_O) (x0 x : am_O) : Prop := ∀ μ', x0 = some (1000000, μ') → x = kx V1 V2 μ'
noncomputable def pk0 (V1 V2 : Int) : Int → Int → am_M → am_O := fun v1 v2 μ => if v1 = V1 ∧ v2 = V2 then some (1000000, μ) else none
theorem pk_r {V1 V2 n : Int} {kx : Int → Int → am_M → am_O} {μ : am_M} {x : am_O} (h : n ≠ 1000000) : PK V1 V2 kx (some (n, μ)) x := fun μ' e => by
  cases e
  exact absurd rfl h
theorem pk_bd {V1 V2 : Int} {kx : Int → Int → am_M → am_O} {x : am_O} {k k' : Int → am_M → am_O} (h : ∀ v μ, PK V1 V2 kx (k v μ) (k' v μ)) : PK V1 V2 kx (q_bd x k) (q_bd x k') := by
  cases x with
  | none => intro μ' e; cases e
  | some q => exact h q.1 q.2
theorem pk_if {V1 V2 : Int} {kx : Int → Int → am_M → am_O} {c : Prop} {dc : Decidable c} {A A' B B' : am_O} (h1 : PK V1 V2 kx A A') (h2 : PK V1 V2 kx B B') : PK V1 V2 kx (@ite _ c dc A B) (@ite _ c dc A' B') := by
  by_cases q : c
  · rw [if_pos q, if_pos q]; exact h1
  · rw [if_neg q, if_neg q]; exact h2
theorem pk_0 {V1 V2 : Int} {kx : Int → Int → am_M → am_O} (v1 v2 : Int) (μ : am_M) : PK V1 V2 kx (pk0 V1 V2 v1 v2 μ) (kx v1 v2 μ) := by
  intro μ' e
  unfold pk0 at e
  by_cases q : v1 = V1 ∧ v2 = V2
  · rw [if_pos q] at e
    cases e
    rw [q.1, q.2]
  · rw [if_neg q] at e; cases e
set_option maxRecDepth 20000 in
theorem p_L_sound_B255 {V1 V2 : Int} {kx : Int → Int → am_M → am_O} {k4a k4b : Int → Int → am_M → am_O} (hk4 : ∀ (x0 x1 : Int) (μ : am_M), PK V1 V2 kx (k4a x0 x1 μ) (k4b x0 x1 μ)) {k232a k232b : Int → Int → Int → Int → Int → Int → Int → am_M → am_O} (hk232 : ∀ (x0 x1 x2 x3 x4 x5 x6 : Int) (μ : am_M), PK V1 V2 kx (k232a x0 x1 x2 x3 x4 x5 x6 μ) (k232b x0 x1 x2 x3 x4 x5 x6 μ)) : ∀ (v1 v2 v3 v4 v6 v7 v8 : Int) (μ : am_M), PK V1 V2 kx (L_sound_B255 k4a k232a v1 v2 v3 v4 v6 v7 v8 μ) (L_sound_B255 k4b k232b v1 v2 v3 v4 v6 v7 v8 μ) := by
  intro v1 v2 v3 v4 v6 v7 v8 μ
  unfold L_sound_B255
  exact pk_bd (fun a1 μ2 => hk232 _ _ _ _ _ _ _ _)
set_option maxRecDepth 20000 in
theorem p_L_sound_B536 {V1 V2 : Int} {kx : Int → Int → am_M → am_O} {k4a k4b : Int → Int → am_M → am_O} (hk4 : ∀ (x0 x1 : Int) (μ : am_M), PK V1 V2 kx (k4a x0 x1 μ) (k4b x0 x1 μ)) : ∀ (v1 v2 : Int) (μ : am_M), PK V1 V2 kx (L_sound_B536 k4a v1 v2 μ) (L_sound_B536 k4b v1 v2 μ) := by
  intro v1 v2 μ
  unfold L_sound_B536
  exact hk4 _ _ _
set_option maxRecDepth 20000 in
theorem p_L_sound_L470_b {V1 V2 : Int} {kx : Int → Int → am_M → am_O} {k4a k4b : Int → Int → am_M → am_O} (hk4 : ∀ (x0 x1 : Int) (μ : am_M), PK V1 V2 kx (k4a x0 x1 μ) (k4b x0 x1 μ)) {k470a k470b : Int → Int → Int → Int → am_M → am_O} (hk470 : ∀ (x0 x1 x2 x3 : Int) (μ : am_M), PK V1 V2 kx (k470a x0 x1 x2 x3 μ) (k470b x0 x1 x2 x3 μ)) : ∀ (v1 v2 v10 v12 : Int) (μ : am_M), PK V1 V2 kx (L_sound_L470_b k4a k470a v1 v2 v10 v12 μ) (L_sound_L470_b k4b k470b v1 v2 v10 v12 μ) := by
  intro v1 v2 v10 v12 μ
  unfold L_sound_L470_b
  exact pk_if (pk_bd (fun a1 μ2 => pk_if (pk_r (by decide)) (hk470 _ _ _ _ _))) (p_L_sound_B536 hk4 _ _ _)
theorem p_L_sound_L470 {V1 V2 : Int} {kx : Int → Int → am_M → am_O} {k4a k4b : Int → Int → am_M → am_O} (hk4 : ∀ (x0 x1 : Int) (μ : am_M), PK V1 V2 kx (k4a x0 x1 μ) (k4b x0 x1 μ)) : ∀ (n : Nat) (v1 v2 v10 v12 : Int) (μ : am_M), PK V1 V2 kx (L_sound_L470 k4a n v1 v2 v10 v12 μ) (L_sound_L470 k4b n v1 v2 v10 v12 μ) := by
  intro n
  induction n with
  | zero => intro v1 v2 v10 v12 μ μ' e; cases e
  | succ n ih => intro v1 v2 v10 v12 μ; exact p_L_sound_L470_b hk4 ih v1 v2 v10 v12 μ
set_option maxRecDepth 20000 in
theorem p_L_sound_B444 {V1 V2 : Int} {kx : Int → Int → am_M → am_O} {k4a k4b : Int → Int → am_M → am_O} (hk4 : ∀ (x0 x1 : Int) (μ : am_M), PK V1 V2 kx (k4a x0 x1 μ) (k4b x0 x1 μ)) : ∀ (v1 v2 v9 : Int) (μ : am_M), PK V1 V2 kx (L_sound_B444 k4a v1 v2 v9 μ) (L_sound_B444 k4b v1 v2 v9 μ) := by
  intro v1 v2 v9 μ
  unfold L_sound_B444
  exact pk_bd (fun a1 μ2 => pk_bd (fun a3 μ4 => pk_if (pk_r (by decide)) (p_L_sound_L470 hk4 _ _ _ _ _ _)))
set_option maxRecDepth 20000 in
theorem p_L_sound_B382 {V1 V2 : Int} {kx : Int → Int → am_M → am_O} {k4a k4b : Int → Int → am_M → am_O} (hk4 : ∀ (x0 x1 : Int) (μ : am_M), PK V1 V2 kx (k4a x0 x1 μ) (k4b x0 x1 μ)) : ∀ (v1 v2 : Int) (μ : am_M), PK V1 V2 kx (L_sound_B382 k4a v1 v2 μ) (L_sound_B382 k4b v1 v2 μ) := by
  intro v1 v2 μ
  unfold L_sound_B382
  exact pk_bd (fun a1 μ2 => pk_if (pk_bd (fun a7 μ8 => pk_bd (fun a9 μ10 => pk_if (pk_if (pk_r (by decide)) (pk_bd (fun a11 μ12 => pk_if (pk_r (by decide)) (pk_if (p_L_sound_B444 hk4 _ _ _ _) (pk_bd (fun a13 μ14 => pk_if (p_L_sound_B444 hk4 _ _ _ _) (pk_r (by decide)))))))) (pk_r (by decide))))) (pk_bd (fun a3 μ4 => pk_if (pk_bd (fun a5 μ6 => pk_if (p_L_sound_B536 hk4 _ _ _) (pk_r (by decide)))) (pk_r (by decide)))))
set_option maxRecDepth 20000 in
theorem p_L_sound_L310_b {V1 V2 : Int} {kx : Int → Int → am_M → am_O} {k4a k4b : Int → Int → am_M → am_O} (hk4 : ∀ (x0 x1 : Int) (μ : am_M), PK V1 V2 kx (k4a x0 x1 μ) (k4b x0 x1 μ)) {k310a k310b : Int → Int → Int → Int → Int → Int → am_M → am_O} (hk310 : ∀ (x0 x1 x2 x3 x4 x5 : Int) (μ : am_M), PK V1 V2 kx (k310a x0 x1 x2 x3 x4 x5 μ) (k310b x0 x1 x2 x3 x4 x5 μ)) : ∀ (v1 v2 v6 v7 v8 v9 : Int) (μ : am_M), PK V1 V2 kx (L_sound_L310_b k4a k310a v1 v2 v6 v7 v8 v9 μ) (L_sound_L310_b k4b k310b v1 v2 v6 v7 v8 v9 μ) := by
  intro v1 v2 v6 v7 v8 v9 μ
  unfold L_sound_L310_b
  exact pk_bd (fun a1 μ2 => pk_if (pk_bd (fun a3 μ4 => pk_bd (fun a5 μ6 => pk_if (pk_bd (fun a7 μ8 => hk310 _ _ _ _ _ _ _)) (pk_r (by decide))))) (pk_if (pk_if (pk_if (p_L_sound_B382 hk4 _ _ _) (pk_r (by decide))) (p_L_sound_B382 hk4 _ _ _)) (pk_r (by decide))))
theorem p_L_sound_L310 {V1 V2 : Int} {kx : Int → Int → am_M → am_O} {k4a k4b : Int → Int → am_M → am_O} (hk4 : ∀ (x0 x1 : Int) (μ : am_M), PK V1 V2 kx (k4a x0 x1 μ) (k4b x0 x1 μ)) : ∀ (n : Nat) (v1 v2 v6 v7 v8 v9 : Int) (μ : am_M), PK V1 V2 kx (L_sound_L310 k4a n v1 v2 v6 v7 v8 v9 μ) (L_sound_L310 k4b n v1 v2 v6 v7 v8 v9 μ) := by
  intro n
  induction n with
  | zero => intro v1 v2 v6 v7 v8 v9 μ μ' e; cases e
  | succ n ih => intro v1 v2 v6 v7 v8 v9 μ; exact p_L_sound_L310_b hk4 ih v1 v2 v6 v7 v8 v9 μ
set_option maxRecDepth 20000 in
theorem p_L_sound_B304 {V1 V2 : Int} {kx : Int → Int → am_M → am_O} {k4a k4b : Int → Int → am_M → am_O} (hk4 : ∀ (x0 x1 : Int) (μ : am_M), PK V1 V2 kx (k4a x0 x1 μ) (k4b x0 x1 μ)) : ∀ (v1 v2 v6 v7 : Int) (μ : am_M), PK V1 V2 kx (L_sound_B304 k4a v1 v2 v6 v7 μ) (L_sound_B304 k4b v1 v2 v6 v7 μ) := by
  intro v1 v2 v6 v7 μ
  unfold L_sound_B304
  exact p_L_sound_L310 hk4 _ _ _ _ _ _ _ _
set_option maxRecDepth 20000 in
theorem p_L_sound_B288 {V1 V2 : Int} {kx : Int → Int → am_M → am_O} {k4a k4b : Int → Int → am_M → am_O} (hk4 : ∀ (x0 x1 : Int) (μ : am_M), PK V1 V2 kx (k4a x0 x1 μ) (k4b x0 x1 μ)) : ∀ (v1 v2 v6 v7 : Int) (μ : am_M), PK V1 V2 kx (L_sound_B288 k4a v1 v2 v6 v7 μ) (L_sound_B288 k4b v1 v2 v6 v7 μ) := by
  intro v1 v2 v6 v7 μ
  unfold L_sound_B288
  exact pk_bd (fun a1 μ2 => pk_if (pk_if (p_L_sound_B304 hk4 _ _ _ _ _) (pk_r (by decide))) (p_L_sound_B304 hk4 _ _ _ _ _))
set_option maxRecDepth 20000 in
theorem p_L_sound_L232_b {V1 V2 : Int} {kx : Int → Int → am_M → am_O} {k4a k4b : Int → Int → am_M → am_O} (hk4 : ∀ (x0 x1 : Int) (μ : am_M), PK V1 V2 kx (k4a x0 x1 μ) (k4b x0 x1 μ)) {k232a k232b : Int → Int → Int → Int → Int → Int → Int → am_M → am_O} (hk232 : ∀ (x0 x1 x2 x3 x4 x5 x6 : Int) (μ : am_M), PK V1 V2 kx (k232a x0 x1 x2 x3 x4 x5 x6 μ) (k232b x0 x1 x2 x3 x4 x5 x6 μ)) : ∀ (v1 v2 v3 v4 v6 v7 v8 : Int) (μ : am_M), PK V1 V2 kx (L_sound_L232_b k4a k232a v1 v2 v3 v4 v6 v7 v8 μ) (L_sound_L232_b k4b k232b v1 v2 v3 v4 v6 v7 v8 μ) := by
  intro v1 v2 v3 v4 v6 v7 v8 μ
  unfold L_sound_L232_b
  exact pk_if (pk_bd (fun a3 μ4 => pk_if (p_L_sound_B255 hk4 hk232 _ _ _ _ _ _ _ _) (p_L_sound_B255 hk4 hk232 _ _ _ _ _ _ _ _))) (pk_if (pk_bd (fun a1 μ2 => pk_if (p_L_sound_B288 hk4 _ _ _ _ _) (pk_r (by decide)))) (p_L_sound_B288 hk4 _ _ _ _ _))
theorem p_L_sound_L232 {V1 V2 : Int} {kx : Int → Int → am_M → am_O} {k4a k4b : Int → Int → am_M → am_O} (hk4 : ∀ (x0 x1 : Int) (μ : am_M), PK V1 V2 kx (k4a x0 x1 μ) (k4b x0 x1 μ)) : ∀ (n : Nat) (v1 v2 v3 v4 v6 v7 v8 : Int) (μ : am_M), PK V1 V2 kx (L_sound_L232 k4a n v1 v2 v3 v4 v6 v7 v8 μ) (L_sound_L232 k4b n v1 v2 v3 v4 v6 v7 v8 μ) := by
  intro n
  induction n with
  | zero => intro v1 v2 v3 v4 v6 v7 v8 μ μ' e; cases e
  | succ n ih => intro v1 v2 v3 v4 v6 v7 v8 μ; exact p_L_sound_L232_b hk4 ih v1 v2 v3 v4 v6 v7 v8 μ
set_option maxRecDepth 20000 in
theorem p_L_sound_B150 {V1 V2 : Int} {kx : Int → Int → am_M → am_O} {k4a k4b : Int → Int → am_M → am_O} (hk4 : ∀ (x0 x1 : Int) (μ : am_M), PK V1 V2 kx (k4a x0 x1 μ) (k4b x0 x1 μ)) : ∀ (v1 v2 v3 v4 : Int) (μ : am_M), PK V1 V2 kx (L_sound_B150 k4a v1 v2 v3 v4 μ) (L_sound_B150 k4b v1 v2 v3 v4 μ) := by
  intro v1 v2 v3 v4 μ
  unfold L_sound_B150
  exact pk_bd (fun a1 μ2 => pk_if (pk_r (by decide)) (pk_bd (fun a3 μ4 => pk_bd (fun a5 μ6 => pk_if (pk_r (by decide)) (pk_bd (fun a7 μ8 => pk_if (pk_bd (fun a9 μ10 => pk_bd (fun a11 μ12 => pk_if (pk_bd (fun a13 μ14 => pk_bd (fun a15 μ16 => pk_if (p_L_sound_L232 hk4 _ _ _ _ _ _ _ _ _) (pk_r (by decide))))) (pk_r (by decide))))) (pk_r (by decide))))))))
set_option maxRecDepth 20000 in
theorem p_L_sound_B117 {V1 V2 : Int} {kx : Int → Int → am_M → am_O} {k4a k4b : Int → Int → am_M → am_O} (hk4 : ∀ (x0 x1 : Int) (μ : am_M), PK V1 V2 kx (k4a x0 x1 μ) (k4b x0 x1 μ)) : ∀ (v1 v2 v3 v4 v5 s0 s1 : Int) (μ : am_M), PK V1 V2 kx (L_sound_B117 k4a v1 v2 v3 v4 v5 s0 s1 μ) (L_sound_B117 k4b v1 v2 v3 v4 v5 s0 s1 μ) := by
  intro v1 v2 v3 v4 v5 s0 s1 μ
  unfold L_sound_B117
  exact pk_if (pk_if (p_L_sound_B150 hk4 _ _ _ _ _) (pk_bd (fun a1 μ2 => pk_if (pk_r (by decide)) (pk_bd (fun a3 μ4 => pk_if (p_L_sound_B150 hk4 _ _ _ _ _) (pk_r (by decide))))))) (pk_r (by decide))
set_option maxRecDepth 20000 in
theorem p_L_sound_B103 {V1 V2 : Int} {kx : Int → Int → am_M → am_O} {k4a k4b : Int → Int → am_M → am_O} (hk4 : ∀ (x0 x1 : Int) (μ : am_M), PK V1 V2 kx (k4a x0 x1 μ) (k4b x0 x1 μ)) : ∀ (v1 v2 v3 v4 v5 s0 : Int) (μ : am_M), PK V1 V2 kx (L_sound_B103 k4a v1 v2 v3 v4 v5 s0 μ) (L_sound_B103 k4b v1 v2 v3 v4 v5 s0 μ) := by
  intro v1 v2 v3 v4 v5 s0 μ
  unfold L_sound_B103
  exact pk_bd (fun a1 μ2 => pk_if (p_L_sound_B117 hk4 _ _ _ _ _ _ _ _) (p_L_sound_B117 hk4 _ _ _ _ _ _ _ _))
set_option maxRecDepth 20000 in
theorem p_L_sound_B57 {V1 V2 : Int} {kx : Int → Int → am_M → am_O} {k4a k4b : Int → Int → am_M → am_O} (hk4 : ∀ (x0 x1 : Int) (μ : am_M), PK V1 V2 kx (k4a x0 x1 μ) (k4b x0 x1 μ)) : ∀ (v1 v2 v3 v4 v5 s0 s1 : Int) (μ : am_M), PK V1 V2 kx (L_sound_B57 k4a v1 v2 v3 v4 v5 s0 s1 μ) (L_sound_B57 k4b v1 v2 v3 v4 v5 s0 s1 μ) := by
  intro v1 v2 v3 v4 v5 s0 s1 μ
  unfold L_sound_B57
  exact pk_if (pk_bd (fun a1 μ2 => pk_bd (fun a3 μ4 => pk_if (pk_bd (fun a5 μ6 => pk_if (pk_if (p_L_sound_B103 hk4 _ _ _ _ _ _ _) (p_L_sound_B103 hk4 _ _ _ _ _ _ _)) (pk_r (by decide)))) (pk_r (by decide))))) (pk_r (by decide))
set_option maxRecDepth 20000 in
theorem p_turn {V1 V2 : Int} {kx : Int → Int → am_M → am_O} (v1 v2 : Int) (μ : am_M) {n : Int} {μ2 : am_M} (h1 : X_count 1 μ = some (n, μ2)) (h2 : v2 < n) : PK V1 V2 kx (L_sound_L4_b (pk0 V1 V2) v1 v2 μ) (L_sound_L4_b kx v1 v2 μ) := by
  unfold L_sound_L4_b
  rw [h1, q_bd_s, q_bd_s, if_pos h2, if_pos h2]
  have hk4 : ∀ (x0 x1 : Int) (μ : am_M), PK V1 V2 kx (pk0 V1 V2 x0 x1 μ) (kx x0 x1 μ) := pk_0
  exact pk_bd (fun a7 μ8 => pk_bd (fun a9 μ10 => pk_bd (fun a11 μ12 => pk_if (pk_bd (fun a13 μ14 => pk_if (p_L_sound_B57 hk4 _ _ _ _ _ _ _ _) (p_L_sound_B57 hk4 _ _ _ _ _ _ _ _))) (pk_r (by decide)))))
/-- the evaluator's way on, that is stopped at -/
noncomputable def e_k0 (U1 U2 : Nat) : Nat → Nat → e_T → e_O := fun u1 u2 t => eB (eB (Nat.beq u1 U1) (Nat.beq u2 U2) false) (some (9223372036855775809, t)) none
theorem so_k0 {c : Int} {μ0 : am_M} {V1 V2 : Int} {U1 U2 : Nat} (h1 : 0 < U1 ∧ U1 < 1180591620717411303424 ∧ V1 = (U1 : Int) - 9223372036854775809) (h2 : 0 < U2 ∧ U2 < 1180591620717411303424 ∧ V2 = (U2 : Int) - 9223372036854775809) : ∀ {u0 : Nat} {x0 : Int} {u1 : Nat} {x1 : Int} {t : e_T} {μ : am_M}, vr c u0 x0 → vr c u1 x1 → e_R c μ0 t μ → so c μ0 (e_k0 U1 U2 u0 u1 t) (pk0 V1 V2 x0 x1 μ) := by
  intro u0 x0 u1 x1 t μ a b hR v t' e
  obtain ⟨q1, q2⟩ := eB_some e
  obtain ⟨q1, q3⟩ := eB_and q1
  have q1 := Nat.eq_of_beq_eq_true q1
  have q3 := Nat.eq_of_beq_eq_true q3
  subst q1
  subst q3
  have e1 := vr_use a h1.1 h1.2.1
  have e2 := vr_use b h2.1 h2.2.1
  unfold pk0
  rw [if_pos ⟨e1.trans h1.2.2.symm, e2.trans h2.2.2.symm⟩]
  exact so_ret (vr_k (by decide) (by decide)) hR v t' q2

