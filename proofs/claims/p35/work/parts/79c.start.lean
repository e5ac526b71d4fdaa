/-! The start, with the tables. -/
theorem w0_JB : JB w0 := ⟨w0_JA, fun l hl => absurd hl (by
  rw [show w0.1 152 2 = 0 from rfl, t_i0]
  omega)⟩
theorem w0_JP : JP w0 := ⟨w0_JB, by
  have e : pal (nk (w0.1 16)) 3 = [] := (pal_cg (g := nk (w0.1 16)) (g' := fun _ => 0) (fun j hj => by
    obtain rfl | rfl | rfl : j = 0 ∨ j = 1 ∨ j = 2 := by omega
    all_goals rfl)).trans rfl
  unfold PRS
  rw [e]
  exact ⟨rfl, fun i t h => by cases h⟩⟩
