/-! The start, with the tables. -/
theorem w0_JB : JB w0 := ⟨w0_JA, fun l hl => absurd hl (by
  rw [show w0.1 152 2 = 0 from rfl, t_i0]
  omega)⟩
