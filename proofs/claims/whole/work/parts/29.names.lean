/-! What the reference asks of its token; names looked up. -/
theorem kwI0 (m : Int) : kw m = 100 ↔ m = 394691 := by
  constructor
  · intro h
    unfold kw at h
    by_cases q0 : m = 394691
    · exact q0
    rw [if_neg q0] at h
    by_cases q1 : m = 8903
    · rw [if_pos q1] at h; omega
    rw [if_neg q1] at h
    by_cases q2 : m = 410684
    · rw [if_pos q2] at h; omega
    rw [if_neg q2] at h
    by_cases q3 : m = 55175
    · rw [if_pos q3] at h; omega
    rw [if_neg q3] at h
    by_cases q4 : m = 60114
    · rw [if_pos q4] at h; omega
    rw [if_neg q4] at h
    by_cases q5 : m = 249
    · rw [if_pos q5] at h; omega
    rw [if_neg q5] at h
    by_cases q6 : m = 107681
    · rw [if_pos q6] at h; omega
    rw [if_neg q6] at h
    by_cases q7 : m = 4027
    · rw [if_pos q7] at h; omega
    rw [if_neg q7] at h
    by_cases q8 : m = 144941
    · rw [if_pos q8] at h; omega
    rw [if_neg q8] at h
    by_cases q9 : m = 453774
    · rw [if_pos q9] at h; omega
    rw [if_neg q9] at h
    by_cases q10 : m = 46263
    · rw [if_pos q10] at h; omega
    rw [if_neg q10] at h
    by_cases q11 : m = 305537
    · rw [if_pos q11] at h; omega
    rw [if_neg q11] at h
    by_cases q12 : m = 267347
    · rw [if_pos q12] at h; omega
    rw [if_neg q12] at h
    by_cases q13 : m = 46
    · rw [if_pos q13] at h; omega
    rw [if_neg q13] at h
    by_cases q14 : m = 10631
    · rw [if_pos q14] at h; omega
    rw [if_neg q14] at h
    by_cases q15 : m = 1111
    · rw [if_pos q15] at h; omega
    rw [if_neg q15] at h
    by_cases q16 : m = 423
    · rw [if_pos q16] at h; omega
    rw [if_neg q16] at h
    omega
  · intro h; subst h; rfl
theorem kwI1 (m : Int) : kw m = 101 ↔ m = 8903 := by
  constructor
  · intro h
    unfold kw at h
    by_cases q0 : m = 394691
    · rw [if_pos q0] at h; omega
    rw [if_neg q0] at h
    by_cases q1 : m = 8903
    · exact q1
    rw [if_neg q1] at h
    by_cases q2 : m = 410684
    · rw [if_pos q2] at h; omega
    rw [if_neg q2] at h
    by_cases q3 : m = 55175
    · rw [if_pos q3] at h; omega
    rw [if_neg q3] at h
    by_cases q4 : m = 60114
    · rw [if_pos q4] at h; omega
    rw [if_neg q4] at h
    by_cases q5 : m = 249
    · rw [if_pos q5] at h; omega
    rw [if_neg q5] at h
    by_cases q6 : m = 107681
    · rw [if_pos q6] at h; omega
    rw [if_neg q6] at h
    by_cases q7 : m = 4027
    · rw [if_pos q7] at h; omega
    rw [if_neg q7] at h
    by_cases q8 : m = 144941
    · rw [if_pos q8] at h; omega
    rw [if_neg q8] at h
    by_cases q9 : m = 453774
    · rw [if_pos q9] at h; omega
    rw [if_neg q9] at h
    by_cases q10 : m = 46263
    · rw [if_pos q10] at h; omega
    rw [if_neg q10] at h
    by_cases q11 : m = 305537
    · rw [if_pos q11] at h; omega
    rw [if_neg q11] at h
    by_cases q12 : m = 267347
    · rw [if_pos q12] at h; omega
    rw [if_neg q12] at h
    by_cases q13 : m = 46
    · rw [if_pos q13] at h; omega
    rw [if_neg q13] at h
    by_cases q14 : m = 10631
    · rw [if_pos q14] at h; omega
    rw [if_neg q14] at h
    by_cases q15 : m = 1111
    · rw [if_pos q15] at h; omega
    rw [if_neg q15] at h
    by_cases q16 : m = 423
    · rw [if_pos q16] at h; omega
    rw [if_neg q16] at h
    omega
  · intro h; subst h; rfl
theorem kwI2 (m : Int) : kw m = 102 ↔ m = 410684 := by
  constructor
  · intro h
    unfold kw at h
    by_cases q0 : m = 394691
    · rw [if_pos q0] at h; omega
    rw [if_neg q0] at h
    by_cases q1 : m = 8903
    · rw [if_pos q1] at h; omega
    rw [if_neg q1] at h
    by_cases q2 : m = 410684
    · exact q2
    rw [if_neg q2] at h
    by_cases q3 : m = 55175
    · rw [if_pos q3] at h; omega
    rw [if_neg q3] at h
    by_cases q4 : m = 60114
    · rw [if_pos q4] at h; omega
    rw [if_neg q4] at h
    by_cases q5 : m = 249
    · rw [if_pos q5] at h; omega
    rw [if_neg q5] at h
    by_cases q6 : m = 107681
    · rw [if_pos q6] at h; omega
    rw [if_neg q6] at h
    by_cases q7 : m = 4027
    · rw [if_pos q7] at h; omega
    rw [if_neg q7] at h
    by_cases q8 : m = 144941
    · rw [if_pos q8] at h; omega
    rw [if_neg q8] at h
    by_cases q9 : m = 453774
    · rw [if_pos q9] at h; omega
    rw [if_neg q9] at h
    by_cases q10 : m = 46263
    · rw [if_pos q10] at h; omega
    rw [if_neg q10] at h
    by_cases q11 : m = 305537
    · rw [if_pos q11] at h; omega
    rw [if_neg q11] at h
    by_cases q12 : m = 267347
    · rw [if_pos q12] at h; omega
    rw [if_neg q12] at h
    by_cases q13 : m = 46
    · rw [if_pos q13] at h; omega
    rw [if_neg q13] at h
    by_cases q14 : m = 10631
    · rw [if_pos q14] at h; omega
    rw [if_neg q14] at h
    by_cases q15 : m = 1111
    · rw [if_pos q15] at h; omega
    rw [if_neg q15] at h
    by_cases q16 : m = 423
    · rw [if_pos q16] at h; omega
    rw [if_neg q16] at h
    omega
  · intro h; subst h; rfl
theorem kwI3 (m : Int) : kw m = 103 ↔ m = 55175 := by
  constructor
  · intro h
    unfold kw at h
    by_cases q0 : m = 394691
    · rw [if_pos q0] at h; omega
    rw [if_neg q0] at h
    by_cases q1 : m = 8903
    · rw [if_pos q1] at h; omega
    rw [if_neg q1] at h
    by_cases q2 : m = 410684
    · rw [if_pos q2] at h; omega
    rw [if_neg q2] at h
    by_cases q3 : m = 55175
    · exact q3
    rw [if_neg q3] at h
    by_cases q4 : m = 60114
    · rw [if_pos q4] at h; omega
    rw [if_neg q4] at h
    by_cases q5 : m = 249
    · rw [if_pos q5] at h; omega
    rw [if_neg q5] at h
    by_cases q6 : m = 107681
    · rw [if_pos q6] at h; omega
    rw [if_neg q6] at h
    by_cases q7 : m = 4027
    · rw [if_pos q7] at h; omega
    rw [if_neg q7] at h
    by_cases q8 : m = 144941
    · rw [if_pos q8] at h; omega
    rw [if_neg q8] at h
    by_cases q9 : m = 453774
    · rw [if_pos q9] at h; omega
    rw [if_neg q9] at h
    by_cases q10 : m = 46263
    · rw [if_pos q10] at h; omega
    rw [if_neg q10] at h
    by_cases q11 : m = 305537
    · rw [if_pos q11] at h; omega
    rw [if_neg q11] at h
    by_cases q12 : m = 267347
    · rw [if_pos q12] at h; omega
    rw [if_neg q12] at h
    by_cases q13 : m = 46
    · rw [if_pos q13] at h; omega
    rw [if_neg q13] at h
    by_cases q14 : m = 10631
    · rw [if_pos q14] at h; omega
    rw [if_neg q14] at h
    by_cases q15 : m = 1111
    · rw [if_pos q15] at h; omega
    rw [if_neg q15] at h
    by_cases q16 : m = 423
    · rw [if_pos q16] at h; omega
    rw [if_neg q16] at h
    omega
  · intro h; subst h; rfl
theorem kwI4 (m : Int) : kw m = 104 ↔ m = 60114 := by
  constructor
  · intro h
    unfold kw at h
    by_cases q0 : m = 394691
    · rw [if_pos q0] at h; omega
    rw [if_neg q0] at h
    by_cases q1 : m = 8903
    · rw [if_pos q1] at h; omega
    rw [if_neg q1] at h
    by_cases q2 : m = 410684
    · rw [if_pos q2] at h; omega
    rw [if_neg q2] at h
    by_cases q3 : m = 55175
    · rw [if_pos q3] at h; omega
    rw [if_neg q3] at h
    by_cases q4 : m = 60114
    · exact q4
    rw [if_neg q4] at h
    by_cases q5 : m = 249
    · rw [if_pos q5] at h; omega
    rw [if_neg q5] at h
    by_cases q6 : m = 107681
    · rw [if_pos q6] at h; omega
    rw [if_neg q6] at h
    by_cases q7 : m = 4027
    · rw [if_pos q7] at h; omega
    rw [if_neg q7] at h
    by_cases q8 : m = 144941
    · rw [if_pos q8] at h; omega
    rw [if_neg q8] at h
    by_cases q9 : m = 453774
    · rw [if_pos q9] at h; omega
    rw [if_neg q9] at h
    by_cases q10 : m = 46263
    · rw [if_pos q10] at h; omega
    rw [if_neg q10] at h
    by_cases q11 : m = 305537
    · rw [if_pos q11] at h; omega
    rw [if_neg q11] at h
    by_cases q12 : m = 267347
    · rw [if_pos q12] at h; omega
    rw [if_neg q12] at h
    by_cases q13 : m = 46
    · rw [if_pos q13] at h; omega
    rw [if_neg q13] at h
    by_cases q14 : m = 10631
    · rw [if_pos q14] at h; omega
    rw [if_neg q14] at h
    by_cases q15 : m = 1111
    · rw [if_pos q15] at h; omega
    rw [if_neg q15] at h
    by_cases q16 : m = 423
    · rw [if_pos q16] at h; omega
    rw [if_neg q16] at h
    omega
  · intro h; subst h; rfl
theorem kwI5 (m : Int) : kw m = 105 ↔ m = 249 := by
  constructor
  · intro h
    unfold kw at h
    by_cases q0 : m = 394691
    · rw [if_pos q0] at h; omega
    rw [if_neg q0] at h
    by_cases q1 : m = 8903
    · rw [if_pos q1] at h; omega
    rw [if_neg q1] at h
    by_cases q2 : m = 410684
    · rw [if_pos q2] at h; omega
    rw [if_neg q2] at h
    by_cases q3 : m = 55175
    · rw [if_pos q3] at h; omega
    rw [if_neg q3] at h
    by_cases q4 : m = 60114
    · rw [if_pos q4] at h; omega
    rw [if_neg q4] at h
    by_cases q5 : m = 249
    · exact q5
    rw [if_neg q5] at h
    by_cases q6 : m = 107681
    · rw [if_pos q6] at h; omega
    rw [if_neg q6] at h
    by_cases q7 : m = 4027
    · rw [if_pos q7] at h; omega
    rw [if_neg q7] at h
    by_cases q8 : m = 144941
    · rw [if_pos q8] at h; omega
    rw [if_neg q8] at h
    by_cases q9 : m = 453774
    · rw [if_pos q9] at h; omega
    rw [if_neg q9] at h
    by_cases q10 : m = 46263
    · rw [if_pos q10] at h; omega
    rw [if_neg q10] at h
    by_cases q11 : m = 305537
    · rw [if_pos q11] at h; omega
    rw [if_neg q11] at h
    by_cases q12 : m = 267347
    · rw [if_pos q12] at h; omega
    rw [if_neg q12] at h
    by_cases q13 : m = 46
    · rw [if_pos q13] at h; omega
    rw [if_neg q13] at h
    by_cases q14 : m = 10631
    · rw [if_pos q14] at h; omega
    rw [if_neg q14] at h
    by_cases q15 : m = 1111
    · rw [if_pos q15] at h; omega
    rw [if_neg q15] at h
    by_cases q16 : m = 423
    · rw [if_pos q16] at h; omega
    rw [if_neg q16] at h
    omega
  · intro h; subst h; rfl
theorem kwI6 (m : Int) : kw m = 106 ↔ m = 107681 := by
  constructor
  · intro h
    unfold kw at h
    by_cases q0 : m = 394691
    · rw [if_pos q0] at h; omega
    rw [if_neg q0] at h
    by_cases q1 : m = 8903
    · rw [if_pos q1] at h; omega
    rw [if_neg q1] at h
    by_cases q2 : m = 410684
    · rw [if_pos q2] at h; omega
    rw [if_neg q2] at h
    by_cases q3 : m = 55175
    · rw [if_pos q3] at h; omega
    rw [if_neg q3] at h
    by_cases q4 : m = 60114
    · rw [if_pos q4] at h; omega
    rw [if_neg q4] at h
    by_cases q5 : m = 249
    · rw [if_pos q5] at h; omega
    rw [if_neg q5] at h
    by_cases q6 : m = 107681
    · exact q6
    rw [if_neg q6] at h
    by_cases q7 : m = 4027
    · rw [if_pos q7] at h; omega
    rw [if_neg q7] at h
    by_cases q8 : m = 144941
    · rw [if_pos q8] at h; omega
    rw [if_neg q8] at h
    by_cases q9 : m = 453774
    · rw [if_pos q9] at h; omega
    rw [if_neg q9] at h
    by_cases q10 : m = 46263
    · rw [if_pos q10] at h; omega
    rw [if_neg q10] at h
    by_cases q11 : m = 305537
    · rw [if_pos q11] at h; omega
    rw [if_neg q11] at h
    by_cases q12 : m = 267347
    · rw [if_pos q12] at h; omega
    rw [if_neg q12] at h
    by_cases q13 : m = 46
    · rw [if_pos q13] at h; omega
    rw [if_neg q13] at h
    by_cases q14 : m = 10631
    · rw [if_pos q14] at h; omega
    rw [if_neg q14] at h
    by_cases q15 : m = 1111
    · rw [if_pos q15] at h; omega
    rw [if_neg q15] at h
    by_cases q16 : m = 423
    · rw [if_pos q16] at h; omega
    rw [if_neg q16] at h
    omega
  · intro h; subst h; rfl
theorem kwI7 (m : Int) : kw m = 107 ↔ m = 4027 := by
  constructor
  · intro h
    unfold kw at h
    by_cases q0 : m = 394691
    · rw [if_pos q0] at h; omega
    rw [if_neg q0] at h
    by_cases q1 : m = 8903
    · rw [if_pos q1] at h; omega
    rw [if_neg q1] at h
    by_cases q2 : m = 410684
    · rw [if_pos q2] at h; omega
    rw [if_neg q2] at h
    by_cases q3 : m = 55175
    · rw [if_pos q3] at h; omega
    rw [if_neg q3] at h
    by_cases q4 : m = 60114
    · rw [if_pos q4] at h; omega
    rw [if_neg q4] at h
    by_cases q5 : m = 249
    · rw [if_pos q5] at h; omega
    rw [if_neg q5] at h
    by_cases q6 : m = 107681
    · rw [if_pos q6] at h; omega
    rw [if_neg q6] at h
    by_cases q7 : m = 4027
    · exact q7
    rw [if_neg q7] at h
    by_cases q8 : m = 144941
    · rw [if_pos q8] at h; omega
    rw [if_neg q8] at h
    by_cases q9 : m = 453774
    · rw [if_pos q9] at h; omega
    rw [if_neg q9] at h
    by_cases q10 : m = 46263
    · rw [if_pos q10] at h; omega
    rw [if_neg q10] at h
    by_cases q11 : m = 305537
    · rw [if_pos q11] at h; omega
    rw [if_neg q11] at h
    by_cases q12 : m = 267347
    · rw [if_pos q12] at h; omega
    rw [if_neg q12] at h
    by_cases q13 : m = 46
    · rw [if_pos q13] at h; omega
    rw [if_neg q13] at h
    by_cases q14 : m = 10631
    · rw [if_pos q14] at h; omega
    rw [if_neg q14] at h
    by_cases q15 : m = 1111
    · rw [if_pos q15] at h; omega
    rw [if_neg q15] at h
    by_cases q16 : m = 423
    · rw [if_pos q16] at h; omega
    rw [if_neg q16] at h
    omega
  · intro h; subst h; rfl
theorem kwI8 (m : Int) : kw m = 108 ↔ m = 144941 := by
  constructor
  · intro h
    unfold kw at h
    by_cases q0 : m = 394691
    · rw [if_pos q0] at h; omega
    rw [if_neg q0] at h
    by_cases q1 : m = 8903
    · rw [if_pos q1] at h; omega
    rw [if_neg q1] at h
    by_cases q2 : m = 410684
    · rw [if_pos q2] at h; omega
    rw [if_neg q2] at h
    by_cases q3 : m = 55175
    · rw [if_pos q3] at h; omega
    rw [if_neg q3] at h
    by_cases q4 : m = 60114
    · rw [if_pos q4] at h; omega
    rw [if_neg q4] at h
    by_cases q5 : m = 249
    · rw [if_pos q5] at h; omega
    rw [if_neg q5] at h
    by_cases q6 : m = 107681
    · rw [if_pos q6] at h; omega
    rw [if_neg q6] at h
    by_cases q7 : m = 4027
    · rw [if_pos q7] at h; omega
    rw [if_neg q7] at h
    by_cases q8 : m = 144941
    · exact q8
    rw [if_neg q8] at h
    by_cases q9 : m = 453774
    · rw [if_pos q9] at h; omega
    rw [if_neg q9] at h
    by_cases q10 : m = 46263
    · rw [if_pos q10] at h; omega
    rw [if_neg q10] at h
    by_cases q11 : m = 305537
    · rw [if_pos q11] at h; omega
    rw [if_neg q11] at h
    by_cases q12 : m = 267347
    · rw [if_pos q12] at h; omega
    rw [if_neg q12] at h
    by_cases q13 : m = 46
    · rw [if_pos q13] at h; omega
    rw [if_neg q13] at h
    by_cases q14 : m = 10631
    · rw [if_pos q14] at h; omega
    rw [if_neg q14] at h
    by_cases q15 : m = 1111
    · rw [if_pos q15] at h; omega
    rw [if_neg q15] at h
    by_cases q16 : m = 423
    · rw [if_pos q16] at h; omega
    rw [if_neg q16] at h
    omega
  · intro h; subst h; rfl
theorem kwI9 (m : Int) : kw m = 109 ↔ m = 453774 := by
  constructor
  · intro h
    unfold kw at h
    by_cases q0 : m = 394691
    · rw [if_pos q0] at h; omega
    rw [if_neg q0] at h
    by_cases q1 : m = 8903
    · rw [if_pos q1] at h; omega
    rw [if_neg q1] at h
    by_cases q2 : m = 410684
    · rw [if_pos q2] at h; omega
    rw [if_neg q2] at h
    by_cases q3 : m = 55175
    · rw [if_pos q3] at h; omega
    rw [if_neg q3] at h
    by_cases q4 : m = 60114
    · rw [if_pos q4] at h; omega
    rw [if_neg q4] at h
    by_cases q5 : m = 249
    · rw [if_pos q5] at h; omega
    rw [if_neg q5] at h
    by_cases q6 : m = 107681
    · rw [if_pos q6] at h; omega
    rw [if_neg q6] at h
    by_cases q7 : m = 4027
    · rw [if_pos q7] at h; omega
    rw [if_neg q7] at h
    by_cases q8 : m = 144941
    · rw [if_pos q8] at h; omega
    rw [if_neg q8] at h
    by_cases q9 : m = 453774
    · exact q9
    rw [if_neg q9] at h
    by_cases q10 : m = 46263
    · rw [if_pos q10] at h; omega
    rw [if_neg q10] at h
    by_cases q11 : m = 305537
    · rw [if_pos q11] at h; omega
    rw [if_neg q11] at h
    by_cases q12 : m = 267347
    · rw [if_pos q12] at h; omega
    rw [if_neg q12] at h
    by_cases q13 : m = 46
    · rw [if_pos q13] at h; omega
    rw [if_neg q13] at h
    by_cases q14 : m = 10631
    · rw [if_pos q14] at h; omega
    rw [if_neg q14] at h
    by_cases q15 : m = 1111
    · rw [if_pos q15] at h; omega
    rw [if_neg q15] at h
    by_cases q16 : m = 423
    · rw [if_pos q16] at h; omega
    rw [if_neg q16] at h
    omega
  · intro h; subst h; rfl
theorem kwI10 (m : Int) : kw m = 110 ↔ m = 46263 := by
  constructor
  · intro h
    unfold kw at h
    by_cases q0 : m = 394691
    · rw [if_pos q0] at h; omega
    rw [if_neg q0] at h
    by_cases q1 : m = 8903
    · rw [if_pos q1] at h; omega
    rw [if_neg q1] at h
    by_cases q2 : m = 410684
    · rw [if_pos q2] at h; omega
    rw [if_neg q2] at h
    by_cases q3 : m = 55175
    · rw [if_pos q3] at h; omega
    rw [if_neg q3] at h
    by_cases q4 : m = 60114
    · rw [if_pos q4] at h; omega
    rw [if_neg q4] at h
    by_cases q5 : m = 249
    · rw [if_pos q5] at h; omega
    rw [if_neg q5] at h
    by_cases q6 : m = 107681
    · rw [if_pos q6] at h; omega
    rw [if_neg q6] at h
    by_cases q7 : m = 4027
    · rw [if_pos q7] at h; omega
    rw [if_neg q7] at h
    by_cases q8 : m = 144941
    · rw [if_pos q8] at h; omega
    rw [if_neg q8] at h
    by_cases q9 : m = 453774
    · rw [if_pos q9] at h; omega
    rw [if_neg q9] at h
    by_cases q10 : m = 46263
    · exact q10
    rw [if_neg q10] at h
    by_cases q11 : m = 305537
    · rw [if_pos q11] at h; omega
    rw [if_neg q11] at h
    by_cases q12 : m = 267347
    · rw [if_pos q12] at h; omega
    rw [if_neg q12] at h
    by_cases q13 : m = 46
    · rw [if_pos q13] at h; omega
    rw [if_neg q13] at h
    by_cases q14 : m = 10631
    · rw [if_pos q14] at h; omega
    rw [if_neg q14] at h
    by_cases q15 : m = 1111
    · rw [if_pos q15] at h; omega
    rw [if_neg q15] at h
    by_cases q16 : m = 423
    · rw [if_pos q16] at h; omega
    rw [if_neg q16] at h
    omega
  · intro h; subst h; rfl
theorem kwI11 (m : Int) : kw m = 111 ↔ m = 305537 := by
  constructor
  · intro h
    unfold kw at h
    by_cases q0 : m = 394691
    · rw [if_pos q0] at h; omega
    rw [if_neg q0] at h
    by_cases q1 : m = 8903
    · rw [if_pos q1] at h; omega
    rw [if_neg q1] at h
    by_cases q2 : m = 410684
    · rw [if_pos q2] at h; omega
    rw [if_neg q2] at h
    by_cases q3 : m = 55175
    · rw [if_pos q3] at h; omega
    rw [if_neg q3] at h
    by_cases q4 : m = 60114
    · rw [if_pos q4] at h; omega
    rw [if_neg q4] at h
    by_cases q5 : m = 249
    · rw [if_pos q5] at h; omega
    rw [if_neg q5] at h
    by_cases q6 : m = 107681
    · rw [if_pos q6] at h; omega
    rw [if_neg q6] at h
    by_cases q7 : m = 4027
    · rw [if_pos q7] at h; omega
    rw [if_neg q7] at h
    by_cases q8 : m = 144941
    · rw [if_pos q8] at h; omega
    rw [if_neg q8] at h
    by_cases q9 : m = 453774
    · rw [if_pos q9] at h; omega
    rw [if_neg q9] at h
    by_cases q10 : m = 46263
    · rw [if_pos q10] at h; omega
    rw [if_neg q10] at h
    by_cases q11 : m = 305537
    · exact q11
    rw [if_neg q11] at h
    by_cases q12 : m = 267347
    · rw [if_pos q12] at h; omega
    rw [if_neg q12] at h
    by_cases q13 : m = 46
    · rw [if_pos q13] at h; omega
    rw [if_neg q13] at h
    by_cases q14 : m = 10631
    · rw [if_pos q14] at h; omega
    rw [if_neg q14] at h
    by_cases q15 : m = 1111
    · rw [if_pos q15] at h; omega
    rw [if_neg q15] at h
    by_cases q16 : m = 423
    · rw [if_pos q16] at h; omega
    rw [if_neg q16] at h
    omega
  · intro h; subst h; rfl
theorem kwI12 (m : Int) : kw m = 112 ↔ m = 267347 := by
  constructor
  · intro h
    unfold kw at h
    by_cases q0 : m = 394691
    · rw [if_pos q0] at h; omega
    rw [if_neg q0] at h
    by_cases q1 : m = 8903
    · rw [if_pos q1] at h; omega
    rw [if_neg q1] at h
    by_cases q2 : m = 410684
    · rw [if_pos q2] at h; omega
    rw [if_neg q2] at h
    by_cases q3 : m = 55175
    · rw [if_pos q3] at h; omega
    rw [if_neg q3] at h
    by_cases q4 : m = 60114
    · rw [if_pos q4] at h; omega
    rw [if_neg q4] at h
    by_cases q5 : m = 249
    · rw [if_pos q5] at h; omega
    rw [if_neg q5] at h
    by_cases q6 : m = 107681
    · rw [if_pos q6] at h; omega
    rw [if_neg q6] at h
    by_cases q7 : m = 4027
    · rw [if_pos q7] at h; omega
    rw [if_neg q7] at h
    by_cases q8 : m = 144941
    · rw [if_pos q8] at h; omega
    rw [if_neg q8] at h
    by_cases q9 : m = 453774
    · rw [if_pos q9] at h; omega
    rw [if_neg q9] at h
    by_cases q10 : m = 46263
    · rw [if_pos q10] at h; omega
    rw [if_neg q10] at h
    by_cases q11 : m = 305537
    · rw [if_pos q11] at h; omega
    rw [if_neg q11] at h
    by_cases q12 : m = 267347
    · exact q12
    rw [if_neg q12] at h
    by_cases q13 : m = 46
    · rw [if_pos q13] at h; omega
    rw [if_neg q13] at h
    by_cases q14 : m = 10631
    · rw [if_pos q14] at h; omega
    rw [if_neg q14] at h
    by_cases q15 : m = 1111
    · rw [if_pos q15] at h; omega
    rw [if_neg q15] at h
    by_cases q16 : m = 423
    · rw [if_pos q16] at h; omega
    rw [if_neg q16] at h
    omega
  · intro h; subst h; rfl
theorem kwI13 (m : Int) : kw m = 113 ↔ m = 46 := by
  constructor
  · intro h
    unfold kw at h
    by_cases q0 : m = 394691
    · rw [if_pos q0] at h; omega
    rw [if_neg q0] at h
    by_cases q1 : m = 8903
    · rw [if_pos q1] at h; omega
    rw [if_neg q1] at h
    by_cases q2 : m = 410684
    · rw [if_pos q2] at h; omega
    rw [if_neg q2] at h
    by_cases q3 : m = 55175
    · rw [if_pos q3] at h; omega
    rw [if_neg q3] at h
    by_cases q4 : m = 60114
    · rw [if_pos q4] at h; omega
    rw [if_neg q4] at h
    by_cases q5 : m = 249
    · rw [if_pos q5] at h; omega
    rw [if_neg q5] at h
    by_cases q6 : m = 107681
    · rw [if_pos q6] at h; omega
    rw [if_neg q6] at h
    by_cases q7 : m = 4027
    · rw [if_pos q7] at h; omega
    rw [if_neg q7] at h
    by_cases q8 : m = 144941
    · rw [if_pos q8] at h; omega
    rw [if_neg q8] at h
    by_cases q9 : m = 453774
    · rw [if_pos q9] at h; omega
    rw [if_neg q9] at h
    by_cases q10 : m = 46263
    · rw [if_pos q10] at h; omega
    rw [if_neg q10] at h
    by_cases q11 : m = 305537
    · rw [if_pos q11] at h; omega
    rw [if_neg q11] at h
    by_cases q12 : m = 267347
    · rw [if_pos q12] at h; omega
    rw [if_neg q12] at h
    by_cases q13 : m = 46
    · exact q13
    rw [if_neg q13] at h
    by_cases q14 : m = 10631
    · rw [if_pos q14] at h; omega
    rw [if_neg q14] at h
    by_cases q15 : m = 1111
    · rw [if_pos q15] at h; omega
    rw [if_neg q15] at h
    by_cases q16 : m = 423
    · rw [if_pos q16] at h; omega
    rw [if_neg q16] at h
    omega
  · intro h; subst h; rfl
theorem kwI14 (m : Int) : kw m = 114 ↔ m = 10631 := by
  constructor
  · intro h
    unfold kw at h
    by_cases q0 : m = 394691
    · rw [if_pos q0] at h; omega
    rw [if_neg q0] at h
    by_cases q1 : m = 8903
    · rw [if_pos q1] at h; omega
    rw [if_neg q1] at h
    by_cases q2 : m = 410684
    · rw [if_pos q2] at h; omega
    rw [if_neg q2] at h
    by_cases q3 : m = 55175
    · rw [if_pos q3] at h; omega
    rw [if_neg q3] at h
    by_cases q4 : m = 60114
    · rw [if_pos q4] at h; omega
    rw [if_neg q4] at h
    by_cases q5 : m = 249
    · rw [if_pos q5] at h; omega
    rw [if_neg q5] at h
    by_cases q6 : m = 107681
    · rw [if_pos q6] at h; omega
    rw [if_neg q6] at h
    by_cases q7 : m = 4027
    · rw [if_pos q7] at h; omega
    rw [if_neg q7] at h
    by_cases q8 : m = 144941
    · rw [if_pos q8] at h; omega
    rw [if_neg q8] at h
    by_cases q9 : m = 453774
    · rw [if_pos q9] at h; omega
    rw [if_neg q9] at h
    by_cases q10 : m = 46263
    · rw [if_pos q10] at h; omega
    rw [if_neg q10] at h
    by_cases q11 : m = 305537
    · rw [if_pos q11] at h; omega
    rw [if_neg q11] at h
    by_cases q12 : m = 267347
    · rw [if_pos q12] at h; omega
    rw [if_neg q12] at h
    by_cases q13 : m = 46
    · rw [if_pos q13] at h; omega
    rw [if_neg q13] at h
    by_cases q14 : m = 10631
    · exact q14
    rw [if_neg q14] at h
    by_cases q15 : m = 1111
    · rw [if_pos q15] at h; omega
    rw [if_neg q15] at h
    by_cases q16 : m = 423
    · rw [if_pos q16] at h; omega
    rw [if_neg q16] at h
    omega
  · intro h; subst h; rfl
theorem kwI15 (m : Int) : kw m = 115 ↔ m = 1111 := by
  constructor
  · intro h
    unfold kw at h
    by_cases q0 : m = 394691
    · rw [if_pos q0] at h; omega
    rw [if_neg q0] at h
    by_cases q1 : m = 8903
    · rw [if_pos q1] at h; omega
    rw [if_neg q1] at h
    by_cases q2 : m = 410684
    · rw [if_pos q2] at h; omega
    rw [if_neg q2] at h
    by_cases q3 : m = 55175
    · rw [if_pos q3] at h; omega
    rw [if_neg q3] at h
    by_cases q4 : m = 60114
    · rw [if_pos q4] at h; omega
    rw [if_neg q4] at h
    by_cases q5 : m = 249
    · rw [if_pos q5] at h; omega
    rw [if_neg q5] at h
    by_cases q6 : m = 107681
    · rw [if_pos q6] at h; omega
    rw [if_neg q6] at h
    by_cases q7 : m = 4027
    · rw [if_pos q7] at h; omega
    rw [if_neg q7] at h
    by_cases q8 : m = 144941
    · rw [if_pos q8] at h; omega
    rw [if_neg q8] at h
    by_cases q9 : m = 453774
    · rw [if_pos q9] at h; omega
    rw [if_neg q9] at h
    by_cases q10 : m = 46263
    · rw [if_pos q10] at h; omega
    rw [if_neg q10] at h
    by_cases q11 : m = 305537
    · rw [if_pos q11] at h; omega
    rw [if_neg q11] at h
    by_cases q12 : m = 267347
    · rw [if_pos q12] at h; omega
    rw [if_neg q12] at h
    by_cases q13 : m = 46
    · rw [if_pos q13] at h; omega
    rw [if_neg q13] at h
    by_cases q14 : m = 10631
    · rw [if_pos q14] at h; omega
    rw [if_neg q14] at h
    by_cases q15 : m = 1111
    · exact q15
    rw [if_neg q15] at h
    by_cases q16 : m = 423
    · rw [if_pos q16] at h; omega
    rw [if_neg q16] at h
    omega
  · intro h; subst h; rfl
theorem kwI16 (m : Int) : kw m = 116 ↔ m = 423 := by
  constructor
  · intro h
    unfold kw at h
    by_cases q0 : m = 394691
    · rw [if_pos q0] at h; omega
    rw [if_neg q0] at h
    by_cases q1 : m = 8903
    · rw [if_pos q1] at h; omega
    rw [if_neg q1] at h
    by_cases q2 : m = 410684
    · rw [if_pos q2] at h; omega
    rw [if_neg q2] at h
    by_cases q3 : m = 55175
    · rw [if_pos q3] at h; omega
    rw [if_neg q3] at h
    by_cases q4 : m = 60114
    · rw [if_pos q4] at h; omega
    rw [if_neg q4] at h
    by_cases q5 : m = 249
    · rw [if_pos q5] at h; omega
    rw [if_neg q5] at h
    by_cases q6 : m = 107681
    · rw [if_pos q6] at h; omega
    rw [if_neg q6] at h
    by_cases q7 : m = 4027
    · rw [if_pos q7] at h; omega
    rw [if_neg q7] at h
    by_cases q8 : m = 144941
    · rw [if_pos q8] at h; omega
    rw [if_neg q8] at h
    by_cases q9 : m = 453774
    · rw [if_pos q9] at h; omega
    rw [if_neg q9] at h
    by_cases q10 : m = 46263
    · rw [if_pos q10] at h; omega
    rw [if_neg q10] at h
    by_cases q11 : m = 305537
    · rw [if_pos q11] at h; omega
    rw [if_neg q11] at h
    by_cases q12 : m = 267347
    · rw [if_pos q12] at h; omega
    rw [if_neg q12] at h
    by_cases q13 : m = 46
    · rw [if_pos q13] at h; omega
    rw [if_neg q13] at h
    by_cases q14 : m = 10631
    · rw [if_pos q14] at h; omega
    rw [if_neg q14] at h
    by_cases q15 : m = 1111
    · rw [if_pos q15] at h; omega
    rw [if_neg q15] at h
    by_cases q16 : m = 423
    · exact q16
    rw [if_neg q16] at h
    omega
  · intro h; subst h; rfl
theorem sSgn_r {s : Int} (h : sSgn s = true) : 40 ≤ s ∧ s ≤ 61 := by
  unfold sSgn at h
  have := of_decide_eq_true h
  omega
theorem kOf_w {μ ν : am_M} (h : TR μ ν) {k : Int} (hk : 100 ≤ k) : μ 10 5 = k ↔ ν 1000 6 = 1 ∧ kw (ν 1000 7) = k := by
  rw [h.kin]
  unfold kOf
  have ht := h.tok
  by_cases c0 : ν 1000 6 = 0
  · rw [if_pos c0]; omega
  rw [if_neg c0]
  by_cases c1 : ν 1000 6 = 1
  · rw [if_pos c1]; exact ⟨fun z => ⟨c1, z⟩, fun z => z.2⟩
  rw [if_neg c1]
  by_cases c2 : ν 1000 6 = 2
  · rw [if_pos c2]; omega
  rw [if_neg c2]
  by_cases c3 : ν 1000 6 = 3
  · rw [if_pos c3]; have := sSgn_r (h.sgn c3); omega
  rw [if_neg c3]; omega
theorem isWd {μ ν : am_M} (h : TR μ ν) {w k : Int} (hk : 100 ≤ k) (hw : ∀ m, kw m = k ↔ m = w) : M_isWord w ν = some (if μ 10 5 = k then 1 else 0, ν) := by
  have e := kOf_w h hk
  unfold M_isWord
  by_cases c1 : ν 1000 6 = 1
  · rw [if_pos c1]
    by_cases c2 : ν 1000 7 = w
    · rw [if_pos (lCmp_0.mpr c2), if_pos (e.mpr ⟨c1, (hw _).mpr c2⟩)]
    · rw [if_neg (fun z => c2 (lCmp_0.mp z)), if_neg (fun z => c2 ((hw _).mp (e.mp z).2))]
  · rw [if_neg c1, if_neg (fun z => c1 (e.mp z).1)]
theorem isSg {μ ν : am_M} (h : TR μ ν) {s : Int} (hs : sSgn s = true) : M_isSign s ν = some (if μ 10 5 = s then 1 else 0, ν) := by
  have hr := sSgn_r hs
  have hk := h.kin
  have ht := h.tok
  unfold kOf at hk
  unfold M_isSign
  by_cases c3 : ν 1000 6 = 3
  · have hl := h.lst (by omega)
    have h0 := h.be0
    have h1 := h.base.at3
    have h2 := h.base.n1
    rw [if_neg (by omega), if_neg (by omega), if_neg (by omega), if_pos c3] at hk
    rw [if_pos c3, h.beg, q_ld_s (by omega) (by omega), h.base.row, ← hk]
    by_cases c4 : μ 10 5 = s
    · rw [if_pos c4, if_pos c4]
    · rw [if_neg c4, if_neg c4]
  · rw [if_neg c3]
    by_cases c0 : ν 1000 6 = 0
    · rw [if_pos c0] at hk; rw [if_neg (by omega)]
    rw [if_neg c0] at hk
    by_cases c1 : ν 1000 6 = 1
    · rw [if_pos c1] at hk; have := kw_100 (ν 1000 7); rw [if_neg (by omega)]
    rw [if_neg c1] at hk
    by_cases c2 : ν 1000 6 = 2
    · rw [if_pos c2] at hk; rw [if_neg (by omega)]
    rw [if_neg c2, if_neg c3] at hk
    rw [if_neg (by omega)]
theorem tkN {μ ν : am_M} (h : TR μ ν) : (ν 1000 6 = 2 ↔ μ 10 5 = 3) ∧ (ν 1000 6 = 0 ↔ μ 10 5 = 1) ∧ (μ 10 5 = 2 → ν 1000 6 = 1) := by
  have hk := h.kin
  have ht := h.tok
  unfold kOf at hk
  by_cases c0 : ν 1000 6 = 0
  · rw [if_pos c0] at hk; omega
  rw [if_neg c0] at hk
  by_cases c1 : ν 1000 6 = 1
  · rw [if_pos c1] at hk; have := kw_100 (ν 1000 7); omega
  rw [if_neg c1] at hk
  by_cases c2 : ν 1000 6 = 2
  · rw [if_pos c2] at hk; omega
  rw [if_neg c2] at hk
  by_cases c3 : ν 1000 6 = 3
  · rw [if_pos c3] at hk; have := sSgn_r (h.sgn c3); omega
  rw [if_neg c3] at hk; omega
theorem isKp {μ ν : am_M} (h : TR μ ν) : M_isKept ν = some (if μ 10 5 = 2 then 0 else 1, ν) := by
  have hk := h.kin
  have ht := h.tok
  unfold kOf at hk
  unfold M_isKept
  by_cases c1 : ν 1000 6 = 1
  · rw [if_neg (by omega), if_pos c1] at hk
    rw [if_pos c1, hk]
    by_cases q9 : ν 1000 7 = 453774
    · rw [if_pos (lCmp_0.mpr q9), (kwI9 _).mpr q9]; rfl
    rw [if_neg (fun z => q9 (lCmp_0.mp z))]
    by_cases q10 : ν 1000 7 = 46263
    · rw [if_pos (lCmp_0.mpr q10), (kwI10 _).mpr q10]; rfl
    rw [if_neg (fun z => q10 (lCmp_0.mp z))]
    by_cases q0 : ν 1000 7 = 394691
    · rw [if_pos (lCmp_0.mpr q0), (kwI0 _).mpr q0]; rfl
    rw [if_neg (fun z => q0 (lCmp_0.mp z))]
    by_cases q11 : ν 1000 7 = 305537
    · rw [if_pos (lCmp_0.mpr q11), (kwI11 _).mpr q11]; rfl
    rw [if_neg (fun z => q11 (lCmp_0.mp z))]
    by_cases q12 : ν 1000 7 = 267347
    · rw [if_pos (lCmp_0.mpr q12), (kwI12 _).mpr q12]; rfl
    rw [if_neg (fun z => q12 (lCmp_0.mp z))]
    by_cases q8 : ν 1000 7 = 144941
    · rw [if_pos (lCmp_0.mpr q8), (kwI8 _).mpr q8]; rfl
    rw [if_neg (fun z => q8 (lCmp_0.mp z))]
    by_cases q1 : ν 1000 7 = 8903
    · rw [if_pos (lCmp_0.mpr q1), (kwI1 _).mpr q1]; rfl
    rw [if_neg (fun z => q1 (lCmp_0.mp z))]
    by_cases q2 : ν 1000 7 = 410684
    · rw [if_pos (lCmp_0.mpr q2), (kwI2 _).mpr q2]; rfl
    rw [if_neg (fun z => q2 (lCmp_0.mp z))]
    by_cases q13 : ν 1000 7 = 46
    · rw [if_pos (lCmp_0.mpr q13), (kwI13 _).mpr q13]; rfl
    rw [if_neg (fun z => q13 (lCmp_0.mp z))]
    by_cases q3 : ν 1000 7 = 55175
    · rw [if_pos (lCmp_0.mpr q3), (kwI3 _).mpr q3]; rfl
    rw [if_neg (fun z => q3 (lCmp_0.mp z))]
    by_cases q4 : ν 1000 7 = 60114
    · rw [if_pos (lCmp_0.mpr q4), (kwI4 _).mpr q4]; rfl
    rw [if_neg (fun z => q4 (lCmp_0.mp z))]
    by_cases q5 : ν 1000 7 = 249
    · rw [if_pos (lCmp_0.mpr q5), (kwI5 _).mpr q5]; rfl
    rw [if_neg (fun z => q5 (lCmp_0.mp z))]
    by_cases q6 : ν 1000 7 = 107681
    · rw [if_pos (lCmp_0.mpr q6), (kwI6 _).mpr q6]; rfl
    rw [if_neg (fun z => q6 (lCmp_0.mp z))]
    by_cases q7 : ν 1000 7 = 4027
    · rw [if_pos (lCmp_0.mpr q7), (kwI7 _).mpr q7]; rfl
    rw [if_neg (fun z => q7 (lCmp_0.mp z))]
    by_cases q14 : ν 1000 7 = 10631
    · rw [if_pos (lCmp_0.mpr q14), (kwI14 _).mpr q14]; rfl
    rw [if_neg (fun z => q14 (lCmp_0.mp z))]
    by_cases q15 : ν 1000 7 = 1111
    · rw [if_pos (lCmp_0.mpr q15), (kwI15 _).mpr q15]; rfl
    rw [if_neg (fun z => q15 (lCmp_0.mp z))]
    by_cases q16 : ν 1000 7 = 423
    · rw [if_pos (lCmp_0.mpr q16), (kwI16 _).mpr q16]; rfl
    rw [if_neg (fun z => q16 (lCmp_0.mp z))]
    have e : kw (ν 1000 7) = 2 := by
      unfold kw
      rw [if_neg q0, if_neg q1, if_neg q2, if_neg q3, if_neg q4, if_neg q5, if_neg q6, if_neg q7, if_neg q8, if_neg q9, if_neg q10, if_neg q11, if_neg q12, if_neg q13, if_neg q14, if_neg q15, if_neg q16]
    rw [e]; rfl
  · rw [if_neg c1]
    rw [if_neg (fun z => c1 ((tkN h).2.2 z))]
def RD (b : Int) (μ : am_M) : Prop := (μ 20 4 = b) ∧ (μ 20 5 = b + 1) ∧ (μ 20 10 = 0)
theorem RD.rb {b : Int} {μ : am_M} (h : RD b μ) : μ 20 4 = b := h.1
theorem RD.rl {b : Int} {μ : am_M} (h : RD b μ) : μ 20 5 = b + 1 := h.2.1
theorem RD.rf {b : Int} {μ : am_M} (h : RD b μ) : μ 20 10 = 0 := h.2.2
theorem RD.mk {b : Int} {μ : am_M} (rb : μ 20 4 = b) (rl : μ 20 5 = b + 1) (rf : μ 20 10 = 0) : RD b μ := ⟨rb, rl, rf⟩
def NW (b : Int) (μ ν : am_M) : Prop := (0 ≤ ν 1013 3 ∧ ν 1013 3 ≤ 4) ∧ (0 ≤ ν 1013 4 ∧ ν 1013 4 ≤ 4) ∧ (μ b 12 = ν 1013 3) ∧ (μ b 13 = ν 1013 4) ∧ (∀ i, 0 ≤ i → i < ν 1013 3 → NM (μ (b + 12) i) (ν 1014 i)) ∧ (∀ i, 0 ≤ i → i < ν 1013 3 → μ (b + 13) i = ν 1015 (4 + i) ∧ 0 ≤ μ (b + 13) i ∧ μ (b + 13) i ≤ 9999) ∧ (∀ i, 0 ≤ i → i < ν 1013 4 → NM (μ (b + 14) i) (ν 1016 i))
theorem NW.w0 {b : Int} {μ ν : am_M} (h : NW b μ ν) : 0 ≤ ν 1013 3 ∧ ν 1013 3 ≤ 4 := h.1
theorem NW.b0 {b : Int} {μ ν : am_M} (h : NW b μ ν) : 0 ≤ ν 1013 4 ∧ ν 1013 4 ≤ 4 := h.2.1
theorem NW.wc {b : Int} {μ ν : am_M} (h : NW b μ ν) : μ b 12 = ν 1013 3 := h.2.2.1
theorem NW.bc {b : Int} {μ ν : am_M} (h : NW b μ ν) : μ b 13 = ν 1013 4 := h.2.2.2.1
theorem NW.wn {b : Int} {μ ν : am_M} (h : NW b μ ν) : ∀ i, 0 ≤ i → i < ν 1013 3 → NM (μ (b + 12) i) (ν 1014 i) := h.2.2.2.2.1
theorem NW.wv {b : Int} {μ ν : am_M} (h : NW b μ ν) : ∀ i, 0 ≤ i → i < ν 1013 3 → μ (b + 13) i = ν 1015 (4 + i) ∧ 0 ≤ μ (b + 13) i ∧ μ (b + 13) i ≤ 9999 := h.2.2.2.2.2.1
theorem NW.bn {b : Int} {μ ν : am_M} (h : NW b μ ν) : ∀ i, 0 ≤ i → i < ν 1013 4 → NM (μ (b + 14) i) (ν 1016 i) := h.2.2.2.2.2.2
theorem NW.mk {b : Int} {μ ν : am_M} (w0 : 0 ≤ ν 1013 3 ∧ ν 1013 3 ≤ 4) (b0 : 0 ≤ ν 1013 4 ∧ ν 1013 4 ≤ 4) (wc : μ b 12 = ν 1013 3) (bc : μ b 13 = ν 1013 4) (wn : ∀ i, 0 ≤ i → i < ν 1013 3 → NM (μ (b + 12) i) (ν 1014 i)) (wv : ∀ i, 0 ≤ i → i < ν 1013 3 → μ (b + 13) i = ν 1015 (4 + i) ∧ 0 ≤ μ (b + 13) i ∧ μ (b + 13) i ≤ 9999) (bn : ∀ i, 0 ≤ i → i < ν 1013 4 → NM (μ (b + 14) i) (ν 1016 i)) : NW b μ ν := ⟨w0, b0, wc, bc, wn, wv, bn⟩
def SL (μ ν : am_M) : Prop := (0 ≤ μ 20 6 ∧ μ 20 6 ≤ 10) ∧ (ν 1020 (3 + ν 1013 4) = μ 20 6) ∧ (∀ i, 0 ≤ i → i < μ 20 6 → NM (μ 21 i) (ν 1021 i))
theorem SL.s0 {μ ν : am_M} (h : SL μ ν) : 0 ≤ μ 20 6 ∧ μ 20 6 ≤ 10 := h.1
theorem SL.sc {μ ν : am_M} (h : SL μ ν) : ν 1020 (3 + ν 1013 4) = μ 20 6 := h.2.1
theorem SL.sn {μ ν : am_M} (h : SL μ ν) : ∀ i, 0 ≤ i → i < μ 20 6 → NM (μ 21 i) (ν 1021 i) := h.2.2
theorem SL.mk {μ ν : am_M} (s0 : 0 ≤ μ 20 6 ∧ μ 20 6 ≤ 10) (sc : ν 1020 (3 + ν 1013 4) = μ 20 6) (sn : ∀ i, 0 ≤ i → i < μ 20 6 → NM (μ 21 i) (ν 1021 i)) : SL μ ν := ⟨s0, sc, sn⟩
theorem RD.cong {b : Int} {μ μ' : am_M} (h : RD b μ) (hf : ∀ i, i = 4 ∨ i = 5 ∨ i = 10 → μ' 20 i = μ 20 i) : RD b μ' := (RD.mk (rb := by rw [hf 4 (by omega)]; exact h.rb) (rl := by rw [hf 5 (by omega)]; exact h.rl) (rf := by rw [hf 10 (by omega)]; exact h.rf))
theorem NW.cong {b : Int} {μ ν μ' ν' : am_M} (h : NW b μ ν) (hf : ∀ c i, (c = b ∧ (i = 12 ∨ i = 13)) ∨ (b + 12 ≤ c ∧ c ≤ b + 14) → μ' c i = μ c i) (hg : ∀ c i, (c = 1013 ∧ (i = 3 ∨ i = 4)) ∨ c = 1014 ∨ c = 1016 ∨ c = 1015 → ν' c i = ν c i) : NW b μ' ν' := by
  have e3 := hg 1013 3 (by omega)
  have e4 := hg 1013 4 (by omega)
  exact (NW.mk (w0 := by rw [e3]; exact h.w0) (b0 := by rw [e4]; exact h.b0) (wc := by rw [e3, hf b 12 (by omega)]; exact h.wc) (bc := by rw [e4, hf b 13 (by omega)]; exact h.bc) (wn := fun i p q => by rw [hf _ _ (by omega), hg _ _ (by omega)]; exact h.wn i p (by omega)) (wv := fun i p q => by rw [hf _ _ (by omega), hg _ _ (by omega)]; exact h.wv i p (by omega)) (bn := fun i p q => by rw [hf _ _ (by omega), hg _ _ (by omega)]; exact h.bn i p (by omega)))
theorem SL.cong {μ ν μ' ν' : am_M} (h : SL μ ν) (hf : ∀ c i, (c = 20 ∧ i = 6) ∨ c = 21 → μ' c i = μ c i) (hg : ∀ c i, (c = 1013 ∧ i = 4) ∨ c = 1020 ∨ c = 1021 → ν' c i = ν c i) : SL μ' ν' := by
  have e3 := hf 20 6 (by omega)
  have e4 := hg 1013 4 (by omega)
  exact (SL.mk (s0 := by rw [e3]; exact h.s0) (sc := by rw [e3, e4, hg _ _ (by omega)]; exact h.sc) (sn := fun i p q => by rw [hf _ _ (by omega), hg _ _ (by omega)]; exact h.sn i p (by omega)))
theorem TR.cong {μ ν μ' ν' : am_M} (h : TR μ ν) (hf : ∀ c i, 10 ≤ c ∧ c ≤ 12 → μ' c i = μ c i) (hg : ∀ c i, (c = 1000 ∧ 3 ≤ i ∧ i ≤ 8) ∨ c = 1001 → ν' c i = ν c i) : TR μ' ν' := by
  have a10 : μ' 10 = μ 10 := funext fun i => hf 10 i (by omega)
  have a11 : μ' 11 = μ 11 := funext fun i => hf 11 i (by omega)
  have a12 : μ' 12 = μ 12 := funext fun i => hf 12 i (by omega)
  have c3 := hg 1000 3 (by omega)
  have c4 := hg 1000 4 (by omega)
  have c5 := hg 1000 5 (by omega)
  have c6 := hg 1000 6 (by omega)
  have c7 := hg 1000 7 (by omega)
  have c8 := hg 1000 8 (by omega)
  have b1 : ν' 1001 = ν 1001 := funext fun i => hg 1001 i (by omega)
  unfold TR TP at *
  rw [a10, a11, a12, c3, c4, c5, c6, c7, c8, b1]
  exact h
theorem M_wallOf_L {ν : am_M} (h1 : ν 1013 3 ≤ 4) : ∀ (k f : Nat) (i : Int), 0 ≤ i → (i + k : Int) = ν 1013 3 → k < f → M_wallOf_L2 f i ν = some (fnd (ν 1014) (ν 1000 7) k i, ν) := by
  intro k
  induction k with
  | zero =>
    intro f i h0 hi hf
    cases f with
    | zero => omega
    | succ f =>
      show M_wallOf_L2_b (M_wallOf_L2 f) i ν = _
      unfold M_wallOf_L2_b
      rw [q_ld_s (by decide) (by decide), if_neg (by omega)]
      rfl
  | succ k ih =>
    intro f i h0 hi hf
    cases f with
    | zero => omega
    | succ f =>
      show M_wallOf_L2_b (M_wallOf_L2 f) i ν = _
      unfold M_wallOf_L2_b
      rw [q_ld_s (by decide) (by decide), if_pos (by omega), q_ld_s h0 (by omega)]
      unfold fnd
      by_cases q : ν 1014 i = ν 1000 7
      · rw [if_pos (lCmp_0.mpr q), if_pos q]
      · rw [if_neg (fun z => q (lCmp_0.mp z)), if_neg q, w32_i (by omega) (by omega)]
        exact ih f (i + 1) (by omega) (by omega) (by omega)
theorem M_wallOf_s {ν : am_M} (h0 : 0 ≤ ν 1013 3) (h1 : ν 1013 3 ≤ 4) : M_wallOf ν = some (fnd (ν 1014) (ν 1000 7) (ν 1013 3).toNat 0, ν) :=
  M_wallOf_L h1 (ν 1013 3).toNat am_FU 0 (Int.le_refl _) (by omega) (by have := am_FU_ge; omega)
theorem M_billOf_L {ν : am_M} (h1 : ν 1013 4 ≤ 4) : ∀ (k f : Nat) (i : Int), 0 ≤ i → (i + k : Int) = ν 1013 4 → k < f → M_billOf_L2 f i ν = some (fnd (ν 1016) (ν 1000 7) k i, ν) := by
  intro k
  induction k with
  | zero =>
    intro f i h0 hi hf
    cases f with
    | zero => omega
    | succ f =>
      show M_billOf_L2_b (M_billOf_L2 f) i ν = _
      unfold M_billOf_L2_b
      rw [q_ld_s (by decide) (by decide), if_neg (by omega)]
      rfl
  | succ k ih =>
    intro f i h0 hi hf
    cases f with
    | zero => omega
    | succ f =>
      show M_billOf_L2_b (M_billOf_L2 f) i ν = _
      unfold M_billOf_L2_b
      rw [q_ld_s (by decide) (by decide), if_pos (by omega), q_ld_s h0 (by omega)]
      unfold fnd
      by_cases q : ν 1016 i = ν 1000 7
      · rw [if_pos (lCmp_0.mpr q), if_pos q]
      · rw [if_neg (fun z => q (lCmp_0.mp z)), if_neg q, w32_i (by omega) (by omega)]
        exact ih f (i + 1) (by omega) (by omega) (by omega)
theorem M_billOf_s {ν : am_M} (h0 : 0 ≤ ν 1013 4) (h1 : ν 1013 4 ≤ 4) : M_billOf ν = some (fnd (ν 1016) (ν 1000 7) (ν 1013 4).toNat 0, ν) :=
  M_billOf_L h1 (ν 1013 4).toNat am_FU 0 (Int.le_refl _) (by omega) (by have := am_FU_ge; omega)
/-- which wall, bill the name at hand is -/
def wf (ν : am_M) : Int := fnd (ν 1014) (ν 1000 7) (ν 1013 3).toNat 0
def bf (ν : am_M) : Int := fnd (ν 1016) (ν 1000 7) (ν 1013 4).toNat 0
def sf (ν : am_M) : Int := fnd (ν 1021) (ν 1000 7) (ν 1020 (3 + ν 1013 4)).toNat 0
theorem wf_s {b : Int} {μ ν : am_M} (hb : bOk b) (h : TR μ ν) (hn : NW b μ ν) (hk : ν 1000 6 = 1) : X_find (b + 12) (μ b 12) (μ 10 7) μ = some (wf ν, μ) ∧ M_wallOf ν = some (wf ν, ν) := by
  have h0 := hn.w0
  have e := hn.wc
  refine ⟨?_, M_wallOf_s h0.1 h0.2⟩
  rw [X_find_s (bLA12 hb) (bLK12 hb) (by omega) (by omega) (by omega), e]
  congr 2
  exact fnd_c _ _ (fun j p q => NM_iff (hn.wn j p (by omega)) (h.nam hk))
theorem bf_s {b : Int} {μ ν : am_M} (hb : bOk b) (h : TR μ ν) (hn : NW b μ ν) (hk : ν 1000 6 = 1) : X_find (b + 14) (μ b 13) (μ 10 7) μ = some (bf ν, μ) ∧ M_billOf ν = some (bf ν, ν) := by
  have h0 := hn.b0
  have e := hn.bc
  refine ⟨?_, M_billOf_s h0.1 h0.2⟩
  rw [X_find_s (bLA14 hb) (bLK14 hb) (by omega) (by omega) (by omega), e]
  congr 2
  exact fnd_c _ _ (fun j p q => NM_iff (hn.bn j p (by omega)) (h.nam hk))
theorem sf_s {b : Int} {μ ν : am_M} (h : TR μ ν) (hs : SL μ ν) (hk : ν 1000 6 = 1) : X_find 21 (μ 20 6) (μ 10 7) μ = some (sf ν, μ) := by
  have h0 := hs.s0
  have e := hs.sc
  rw [X_find_s (L := 10) rfl rfl (by omega) (by omega) (by omega)]
  unfold sf
  rw [e]
  congr 2
  exact fnd_c _ _ (fun j p q => NM_iff (hs.sn j p (by omega)) (h.nam hk))
theorem Rd_isWall_s {b : Int} {μ ν : am_M} (hb : bOk b) (h : TR μ ν) (hr : RD b μ) (hn : NW b μ ν) (hk : ν 1000 6 = 1) : Rd_isWall μ = some (if wf ν = -1 then 0 else 1, μ) := by
  unfold Rd_isWall
  rw [hr.rb, q_gd_s (bO0 hb), (wf_s hb h hn hk).1, q_bd_s]
  by_cases q : wf ν = -1
  · rw [if_pos q, if_pos q]
  · rw [if_neg q, if_neg q]
theorem Rd_isBill_s {b : Int} {μ ν : am_M} (hb : bOk b) (h : TR μ ν) (hr : RD b μ) (hn : NW b μ ν) (hk : ν 1000 6 = 1) : Rd_isBill μ = some (if bf ν = -1 then 0 else 1, μ) := by
  unfold Rd_isBill
  rw [hr.rb, q_gd_s (bO0 hb), (bf_s hb h hn hk).1, q_bd_s]
  by_cases q : bf ν = -1
  · rw [if_pos q, if_pos q]
  · rw [if_neg q, if_neg q]
theorem M_slipOf_L {ν : am_M} {B S : Int} (hB : 3 ≤ B) (hB8 : B < 8) (hS : ν 1020 B = S) (h1 : S ≤ 10) : ∀ (k f : Nat) (i : Int), 0 ≤ i → (i + k : Int) = S → k < f → M_slipOf_L11 f B i ν = (if fnd (ν 1021) (ν 1000 7) k i = -1 then M_slipOf_L11_b (M_slipOf_L11 (f - k - 1)) B S ν else some (fnd (ν 1021) (ν 1000 7) k i, ν)) := by
  intro k
  induction k with
  | zero =>
    intro f i h0 hi hf
    cases f with
    | zero => omega
    | succ f =>
      show M_slipOf_L11_b (M_slipOf_L11 f) B i ν = _
      have e : i = S := by omega
      rw [if_pos (show fnd (ν 1021) (ν 1000 7) 0 i = -1 from rfl), e]
      rfl
  | succ k ih =>
    intro f i h0 hi hf
    cases f with
    | zero => omega
    | succ f =>
      show M_slipOf_L11_b (M_slipOf_L11 f) B i ν = _
      unfold M_slipOf_L11_b
      rw [q_ld_s (by omega) hB8, hS, if_pos (by omega), q_ld_s h0 (by omega)]
      unfold fnd
      by_cases q : ν 1021 i = ν 1000 7
      · rw [if_pos (lCmp_0.mpr q), if_pos q, if_neg (by omega)]
      · rw [if_neg (fun z => q (lCmp_0.mp z)), if_neg q, w32_i (by omega) (by omega), ih f (i + 1) (by omega) (by omega) (by omega)]
        have e : f + 1 - (k + 1) - 1 = f - k - 1 := by omega
        rw [e]
        rfl
/-- the slip of the name at hand, on both sides -/
theorem slip_s {b : Int} {μ ν : am_M} (h : TR μ ν) (hn : NW b μ ν) (hs : SL μ ν) (hk : ν 1000 6 = 1) (hB : 1 ≤ ν 1013 4) : ∃ s μ' ν', Rd_slipNamed μ = some (s, μ') ∧ M_slipOf ν = some (s, ν') ∧ SL μ' ν' ∧ (∀ c i, ¬ ((c = 20 ∧ i = 6) ∨ c = 21) → μ' c i = μ c i) ∧ (∀ c i, ¬ ((c = 1020 ∧ i = 3 + ν 1013 4) ∨ c = 1021) → ν' c i = ν c i) ∧ μ 20 6 ≤ μ' 20 6 ∧ ((s = -1) ∨ (0 ≤ s ∧ s < μ' 20 6 ∧ s < 10)) ∧ (sf ν = -1 → s ≠ -1 → s = μ 20 6 ∧ μ' 20 6 = μ 20 6 + 1) ∧ (sf ν ≠ -1 → s = sf ν ∧ μ' 20 6 = μ 20 6) := by
  have h0 := hs.s0
  have hc := hs.sc
  have hb0 := hn.b0
  have e1 := sf_s (b := b) h hs hk
  have e2 : ∃ f, M_slipOf ν = (if fnd (ν 1021) (ν 1000 7) (μ 20 6).toNat 0 = -1 then M_slipOf_L11_b (M_slipOf_L11 f) (3 + ν 1013 4) (μ 20 6) ν else some (fnd (ν 1021) (ν 1000 7) (μ 20 6).toNat 0, ν)) := by
    refine ⟨am_FU - (μ 20 6).toNat - 1, ?_⟩
    unfold M_slipOf
    rw [q_ld_s (by decide) (by decide), w32_i (by omega) (by omega)]
    exact M_slipOf_L (B := 3 + ν 1013 4) (S := μ 20 6) (by omega) (by omega) hc h0.2 (μ 20 6).toNat am_FU 0 (Int.le_refl _) (by omega) (by have := am_FU_ge; omega)
  obtain ⟨fu, e2⟩ := e2
  have e3 : sf ν = fnd (ν 1021) (ν 1000 7) (μ 20 6).toNat 0 := by unfold sf; rw [hc]
  rw [← e3] at e2
  have e4 : sf ν = -1 ∨ (0 ≤ sf ν ∧ sf ν < μ 20 6) := by
    rw [e3]
    rcases fnd_b (ν 1021) (ν 1000 7) (μ 20 6).toNat 0 (Int.le_refl _) with z | ⟨z1, z2, -⟩
    · exact Or.inl z
    · right; omega
  by_cases q : sf ν = -1
  · rw [if_pos q] at e2
    unfold M_slipOf_L11_b at e2
    rw [q_ld_s (by omega) (by omega), hc, if_neg (by omega), q_ld_s (by omega) (by omega), hc] at e2
    by_cases q2 : μ 20 6 = 10
    · refine ⟨-1, μ, ν, ?_, ?_, hs, fun _ _ _ => rfl, fun _ _ _ => rfl, Int.le_refl _, Or.inl rfl, fun _ z => absurd rfl z, fun z => absurd q z⟩
      · unfold Rd_slipNamed
        rw [e1, q_bd_s, if_pos q, if_neg (by omega), q]
      · rw [e2, if_pos q2]
    · rw [if_neg q2, q_ld_s (by omega) (by omega), hc, q_st_s (by omega) (by omega)] at e2
      have f1 : ∀ i, m_st ν 1021 (μ 20 6) (ν 1000 7) 1020 i = ν 1020 i := fun i => m_st_c (by decide)
      rw [q_ld_s (by omega) (by omega), f1, hc, q_st_s (by omega) (by omega), w32_i (by omega) (by omega), q_ld_s (by omega) (by omega)] at e2
      have f2 : ∀ v, m_st (m_st ν 1021 (μ 20 6) (ν 1000 7)) 1020 (3 + ν 1013 4) v 1020 (3 + ν 1013 4) = v := fun v => by rw [m_st_d, if_pos ⟨rfl, rfl⟩]
      rw [f2, w32_i (by omega) (by omega)] at e2
      refine ⟨μ 20 6, m_st (m_st μ 21 (μ 20 6) (μ 10 7)) 20 6 (μ 20 6 + 1), m_st (m_st ν 1021 (μ 20 6) (ν 1000 7)) 1020 (3 + ν 1013 4) (μ 20 6 + 1), ?_, ?_, ?_, ?_, ?_, ?_, ?_, ?_, ?_⟩
      · unfold Rd_slipNamed
        rw [e1, q_bd_s, if_pos q, if_pos (by omega), q_st_s (by omega) (by omega), q_pf_d]
        have f3 : m_st μ 21 (μ 20 6) (μ 10 7) 20 6 = μ 20 6 := m_st_c (by decide)
        rw [f3, w32_i (by omega) (by omega)]
      · rw [e2]; congr 2; omega
      · have g1 : m_st (m_st μ 21 (μ 20 6) (μ 10 7)) 20 6 (μ 20 6 + 1) 20 6 = μ 20 6 + 1 := rfl
        have g2 : m_st (m_st ν 1021 (μ 20 6) (ν 1000 7)) 1020 (3 + ν 1013 4) (μ 20 6 + 1) 1013 4 = ν 1013 4 := rfl
        refine (SL.mk (s0 := by rw [g1]; omega) (sc := by rw [g1, g2, m_st_d, if_pos ⟨rfl, rfl⟩]) (sn := fun i p q => ?_))
        rw [g1] at q
        have g3 : m_st (m_st μ 21 (μ 20 6) (μ 10 7)) 20 6 (μ 20 6 + 1) 21 i = m_st μ 21 (μ 20 6) (μ 10 7) 21 i := m_st_c (by decide)
        have g4 : m_st (m_st ν 1021 (μ 20 6) (ν 1000 7)) 1020 (3 + ν 1013 4) (μ 20 6 + 1) 1021 i = m_st ν 1021 (μ 20 6) (ν 1000 7) 1021 i := m_st_c (by decide)
        rw [g3, g4, m_st_d, m_st_d]
        by_cases q3 : i = μ 20 6
        · rw [if_pos ⟨rfl, q3⟩, if_pos ⟨rfl, q3⟩]
          exact h.nam hk
        · rw [if_neg (fun z => q3 z.2), if_neg (fun z => q3 z.2)]
          exact hs.sn i p (by omega)
      · intro c i z
        rw [m_st_d, if_neg (by omega), m_st_d, if_neg (by omega)]
      · intro c i z
        rw [m_st_d, if_neg (by omega), m_st_d, if_neg (by omega)]
      · show μ 20 6 ≤ μ 20 6 + 1; omega
      · right; exact ⟨h0.1, by show μ 20 6 < μ 20 6 + 1; omega, by omega⟩
      · intro _ _; exact ⟨rfl, rfl⟩
      · intro z; exact absurd q z
  · rw [if_neg q] at e2
    refine ⟨sf ν, μ, ν, ?_, e2, hs, fun _ _ _ => rfl, fun _ _ _ => rfl, Int.le_refl _, Or.inr (by omega), fun z => absurd z q, fun _ => ⟨rfl, rfl⟩⟩
    unfold Rd_slipNamed
    rw [e1, q_bd_s, if_neg q]
