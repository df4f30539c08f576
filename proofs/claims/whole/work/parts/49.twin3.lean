/-! twin, both sides. -/
/-- a line's sign at its end, both sides, all else done -/
theorem line_end {b B W l p q t : Int} {Wn : Int → Int} {μ ν μ1 ν1 : am_M} (hb : bOk b) (ln1 : LN b B W l p μ1 ν1) (f1 : FL1 b l p μ μ1) (f2 : FL2 B l q ν ν1) (hs : μ 20 6 ≤ μ1 20 6) (hp : μ 10 3 ≤ μ1 10 3) (hz : NZ l ν ν1)
    (H : ∀ μ2 ν2, LN b B W l p μ2 ν2 → (∀ c i, c ≠ 10 → μ2 c i = μ1 c i) → (∀ c i, ¬ (c = 1000 ∧ 4 ≤ i ∧ i ≤ 8) → ν2 c i = ν1 c i) → LR b 60 1000 W (μ2 20 6) t l Wn μ2 ν2) : LO b B W l p q t Wn μ ν (some (1, μ1)) (q_bd (M_ends ν1) fun a7 μ8 => if a7 = 0 then (some (0, μ8)) else (some (1, μ8))) := by
  obtain ⟨r2, μ3, ν3, c1, c2, c3⟩ := ends_s ln1.tr ln1.rd.rf
  rw [c2, q_bd_s]
  refine ⟨1, μ1, rfl, f1, Or.inr ⟨rfl, r2, μ3, ν3, c1, ?_, ?_⟩⟩
  · rcases c3 with ⟨d1, -⟩ | ⟨d1, -⟩ <;> (subst d1; rfl)
  · rcases c3 with ⟨d1, d2, d3, d4⟩ | ⟨d1, d2, d3, d4, d5⟩
    · exact ⟨f1.tr (FL1_f d3), f2.tr (FL2_f d4), Or.inl ⟨d1, d2⟩⟩
    · have ln3 := LN_adv hb ln1 d2 d3 d4 d5
      have e6 : μ3 20 6 = μ1 20 6 := d3 _ _ (by decide)
      exact ⟨f1.tr (FL1_10 d3), f2.tr (FL2_t d4), Or.inr ⟨d1, ln3, H μ3 ν3 ln3 d3 d4, by omega, by omega, by rw [d4 _ _ (by omega)]; exact hz.1, by rw [d4 _ _ (by omega)]; exact hz.2.1, by rw [d4 _ _ (by omega)]; exact hz.2.2⟩⟩
