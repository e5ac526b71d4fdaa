/-! The fresh objects: a state of the general world. -/
noncomputable def w0 : wS := (fun k b => bif (Nat.beq k 163 && Nat.beq b 4) || ((Nat.beq k 14 || Nat.beq k 104 || Nat.beq k 116 || Nat.beq k 128 || Nat.beq k 140) && Nat.beq b 7) then -1 else 0, fun _ _ => 0)
theorem w0_eq : ri_eqM ri_M3 (wmk w0) = true := by decide +kernel
theorem w0_INV : INV w0 := by
  have z163 : ∀ b, b ≠ 4 → w0.1 163 b = 0 := fun b hb => by
    show (bif (Nat.beq 163 163 && Nat.beq b 4) || (false && Nat.beq b 7) then (-1 : Int32) else 0) = 0
    rw [nq_false hb]
    rfl
  refine ⟨by decide, ⟨⟨?_, ?_⟩, by decide, fun k _ h => absurd rfl h⟩, rfl, fun k _ => ⟨Iff.rfl, fun h => absurd rfl h⟩⟩
  · unfold qC
    rw [z163 0 (by decide), z163 1 (by decide), z163 2 (by decide), z163 3 (by decide), z163 5 (by decide), z163 6 (by decide)]
    refine ⟨by decide, by decide, by decide, fun h => absurd h (by decide), by decide, by decide, fun a h => ?_, fun a h => ?_, by decide⟩
    · rw [t_i0] at h; omega
    · rw [t_i0] at h; omega
  · refine ⟨by decide, fun l h => ?_⟩
    have e : w0.1 152 2 = 0 := rfl
    rw [e, t_i0] at h
    omega
