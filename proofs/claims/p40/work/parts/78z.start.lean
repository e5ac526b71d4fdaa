/-! The fresh objects keep what is between the calls. -/
theorem w0_JA : JA w0 := by
  have z163 : ∀ b, b ≠ 4 → w0.1 163 b = 0 := fun b hb => by
    show (bif (Nat.beq 163 163 && Nat.beq b 4) || (false && Nat.beq b 7) then (-1 : Int32) else 0) = 0
    rw [nq_false hb]
    rfl
  have e4 : w0.1 163 4 = -1 := rfl
  have neg : ∀ {x : Nat} {y : Int32}, y = 0 → (x : Int) < y.toInt → False := fun hy h => by
    rw [hy, t_i0] at h
    omega
  have neg2 : ∀ {x : Nat} {y : Int32}, y = 0 → (x : Int) < 2 * y.toInt → False := fun hy h => by
    rw [hy, t_i0] at h
    omega
  have z1 := z163 1 (by decide)
  have z2 := z163 2 (by decide)
  have z3 := z163 3 (by decide)
  have z5 := z163 5 (by decide)
  refine ⟨w0_INV.2.1, rfl, ⟨rfl, by decide, rfl⟩, fun i => ?_, ⟨⟨⟨rfl, rfl, rfl⟩, fun i hi => (neg z1 hi).elim, fun i hi => (neg z2 hi).elim⟩, ⟨⟨rfl, rfl, rfl, rfl⟩, fun i hi => (neg z3 hi).elim, fun i hi => (neg z5 hi).elim⟩, ⟨fun _ => ⟨z1, z2⟩, ?_, fun i hi => (neg z3 hi).elim, fun w => ?_, fun i hi => (neg z5 hi).elim, fun i hi => (neg2 z1 hi).elim, fun i hi => (neg2 z2 hi).elim⟩⟩, fun k _ => ⟨Iff.rfl, fun h => absurd rfl h⟩, fun l hl => ?_⟩
  · have : w0.1 2 i = 0 := rfl
    rw [this, t_i0]
    omega
  · rw [e4]
    decide
  · rw [z3]
    show (0 : Nat) ≤ 9
    omega
  · have : w0.1 152 2 = 0 := rfl
    exact (neg this hl).elim
