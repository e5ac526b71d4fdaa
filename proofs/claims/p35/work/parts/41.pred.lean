/-! The reference: its tests, FAR. -/
theorem wX11_isCourt_T {s : wS} : Tot (wX11_isCourt s) (fun t => (t = 1 ∧ 0 < (s.1 163 0).toInt) ∨ t = 0) := by
  unfold wX11_isCourt
  exact t_ite (fun c => t_some (Or.inl ⟨rfl, t_lt c⟩)) (fun c => t_some (Or.inr rfl))
theorem wX11_isLaw_T {x1 : Int32} {s : wS} : Tot (wX11_isLaw x1 s) (fun t => (t = 1 ∧ 0 ≤ x1.toInt ∧ x1.toInt < (s.1 152 2).toInt) ∨ t = 0) := by
  unfold wX11_isLaw
  exact t_ite (fun c => t_some (Or.inr rfl)) (fun c => t_ite (fun c1 => t_some (Or.inl ⟨rfl, t_ge c, t_lt c1⟩)) (fun c1 => t_some (Or.inr rfl)))
theorem wX11_isKind_T {x1 : Int32} {s : wS} : Tot (wX11_isKind x1 s) (fun t => (t = 1 ∧ 0 ≤ x1.toInt ∧ x1.toInt ≤ 2) ∨ t = 0) := by
  unfold wX11_isKind
  refine t_bind wX11_isCourt_T (fun t1 _ => t_ite (fun _ => t_some (Or.inr rfl)) (fun _ => ?_))
  refine t_bind wX11_in_T (fun t4 h4 => t_ite (fun _ => t_some (Or.inr rfl)) (fun c => t_some (Or.inl ⟨rfl, ?_⟩)))
  rcases h4 with h | h
  · rw [Int32.toInt_toInt64] at h
    exact ⟨h.2.1, h.2.2⟩
  · exact absurd h.1 c
theorem wX11_isThing_T {x1 x2 : Int32} {s : wS} (hR : RQ s) : Tot (wX11_isThing x1 x2 s) (fun t => (t = 1 ∧ (0 ≤ x1.toInt ∧ x1.toInt ≤ 2) ∧ 0 ≤ x2.toInt ∧ x2.toInt < 8 ∧ x2.toInt < (s.1 163 x1.toNatClampNeg).toInt) ∨ t = 0) := by
  unfold wX11_isThing
  refine t_bind wX11_isKind_T (fun t1 h1 => t_ite (fun _ => t_some (Or.inr rfl)) (fun c => ?_))
  have hk : 0 ≤ x1.toInt ∧ x1.toInt ≤ 2 := by
    rcases h1 with h | h
    · exact h.2
    · exact absurd h c
  refine t_ite (fun _ => t_some (Or.inr rfl)) (fun c2 => ?_)
  refine t_bind (t_ldI (n := 262) hk.1 (by omega)) (fun t5 h5 => t_ite (fun c5 => t_some (Or.inl ⟨rfl, hk, t_ge c2, ?_, ?_⟩)) (fun _ => t_some (Or.inr rfl)))
  · have := (RQ_k hR hk.1 hk.2).2
    have h6 := t_lt c5
    rw [h5] at h6
    omega
  · have h6 := t_lt c5
    rw [h5] at h6
    exact h6
theorem wX11_isWorld_T {x1 : Int32} {s : wS} : Tot (wX11_isWorld x1 s) (fun t => (t = 1 ∧ 0 ≤ x1.toInt ∧ x1.toInt < (wW s).toInt) ∨ t = 0) := by
  unfold wX11_isWorld
  refine t_ite (fun _ => t_some (Or.inr rfl)) (fun c2 => ?_)
  refine t_bind wX11_worlds_T (fun t2 h2 => t_ite (fun c5 => t_some (Or.inl ⟨rfl, t_ge c2, ?_⟩)) (fun _ => t_some (Or.inr rfl)))
  rw [h2] at c5
  exact t_lt c5
theorem wX11_isWitness_T {x0 : Int32} {s : wS} : Tot (wX11_isWitness x0 s) (fun t => (t = 1 ∧ 0 ≤ x0.toInt ∧ x0.toInt < 6) ∨ t = 0) := by
  unfold wX11_isWitness
  exact t_ite (fun c => t_some (Or.inr rfl)) (fun c => t_ite (fun c1 => t_some (Or.inl ⟨rfl, t_ge c, t_lt c1⟩)) (fun c1 => t_some (Or.inr rfl)))
theorem wX11_isAnswer_T {x1 : Int32} {s : wS} : Tot (wX11_isAnswer x1 s) (fun t => (t = 1 ∧ 0 ≤ x1.toInt ∧ x1.toInt < (s.1 163 3).toInt) ∨ t = 0) := by
  unfold wX11_isAnswer
  exact t_ite (fun c => t_some (Or.inr rfl)) (fun c => t_ite (fun c1 => t_some (Or.inl ⟨rfl, t_ge c, t_lt c1⟩)) (fun c1 => t_some (Or.inr rfl)))
theorem wX11_canAsk_T {x1 : Int32} {s : wS} : Tot (wX11_canAsk x1 s) (fun t => (t = 1 ∧ 0 < (s.1 163 0).toInt ∧ 0 ≤ x1.toInt ∧ x1.toInt < (s.1 152 2).toInt) ∨ t = 0) := by
  unfold wX11_canAsk
  refine t_bind wX11_isCourt_T (fun t1 h1 => t_ite (fun _ => t_some (Or.inr rfl)) (fun c1 => ?_))
  refine t_bind wX11_isLaw_T (fun t4 h4 => t_ite (fun _ => t_some (Or.inr rfl)) (fun c4 => t_some (Or.inl ⟨rfl, ?_, ?_⟩)))
  · rcases h1 with h | h
    · exact h.2
    · exact absurd h c1
  · rcases h4 with h | h
    · exact h.2
    · exact absurd h c4
theorem wX11_isMany_T {x0 : Int32} {s : wS} : Tot (wX11_isMany x0 s) (fun _ => True) := by
  unfold wX11_isMany
  refine t_bind wX11_in_T (fun t1 h1 => t_mono (t_rtZ ?_) (fun _ _ => trivial))
  rcases h1 with h | h
  · exact Or.inr h.1
  · exact Or.inl h.1
/-- a set of 64 bits has an end: after j steps its j lowest bits are gone -/
theorem t_low {j : Nat} {x : BitVec 64} (hj : j < 64) (h : ∀ i, i < j → x.getLsbD i = false) : ∀ i, i < j + 1 → (x &&& (x - 1#64)).getLsbD i = false := by
  intro i hi
  rw [BitVec.getLsbD_and]
  by_cases e : i < j
  · rw [h i e, Bool.false_and]
  · obtain rfl : i = j := by omega
    cases hx : x.getLsbD i with
    | false => rfl
    | true =>
      rw [Bool.true_and]
      have hm : x.toNat % 2 ^ i = 0 := by
        apply Nat.eq_of_testBit_eq
        intro k
        rw [Nat.testBit_mod_two_pow, Nat.zero_testBit]
        by_cases hk : k < i
        · have := h k hk
          rw [BitVec.getLsbD] at this
          rw [this, Bool.and_false]
        · simp [hk]
      have hb : x.toNat.testBit i = true := hx
      have hge : 2 ^ i ≤ x.toNat := Nat.ge_two_pow_of_testBit hb
      have hx64 := x.isLt
      have hpos : 0 < 2 ^ i := Nat.two_pow_pos i
      have e1 : (x - 1#64).toNat = x.toNat - 1 := by
        rw [BitVec.toNat_sub]
        have : (1#64).toNat = 1 := rfl
        rw [this]
        omega
      show (x - 1#64).toNat.testBit i = false
      rw [e1]
      obtain ⟨q, hq⟩ := Nat.dvd_of_mod_eq_zero hm
      rw [hq] at hb hge ⊢
      rw [Nat.testBit_two_pow_mul] at hb
      simp at hb
      have hq1 : q % 2 = 1 := by
        simpa [Nat.testBit_zero] using hb
      obtain ⟨w, hw⟩ : ∃ w, q = 2 * w + 1 := ⟨q / 2, by omega⟩
      have e2 : 2 ^ i * q - 1 = 2 ^ (i + 1) * w + (2 ^ i - 1) := by
        rw [hw, Nat.mul_add, Nat.mul_one, ← Nat.mul_assoc, Nat.pow_succ]
        omega
      rw [e2]
      have hlt : 2 ^ i - 1 < 2 ^ (i + 1) := by rw [Nat.pow_succ]; omega
      rw [Nat.testBit_two_pow_mul_add w hlt i, if_pos (by omega)]
      exact Nat.testBit_lt_two_pow (by omega)
theorem wX11_bits_h4_T {s : wS} : ∀ (n j : Nat) {x2 : Int32} {x3 : Int64}, j ≤ 64 → (∀ i, i < j → x3.toBitVec.getLsbD i = false) → 64 < n + j → Tot (wX11_bits_h4 s n x2 x3) (fun _ => True) := by
  intro n
  induction n with
  | zero => intro j x2 x3 hj h hm; exfalso; omega
  | succ n ih =>
    intro j x2 x3 hj h hm
    rw [wX11_bits_h4]
    refine t_ite (fun _ => t_some trivial) (fun c => ?_)
    have hj2 : j < 64 := by
      rcases Nat.lt_or_ge j 64 with q | q
      · exact q
      · exfalso
        apply c
        apply Int64.toBitVec_inj.1
        apply BitVec.eq_of_getLsbD_eq
        intro i hi
        rw [h i (by omega)]
        exact (BitVec.getLsbD_zero).symm
    refine ih (j + 1) (by omega) ?_ (by omega)
    have e : (x3 &&& (x3 - 1)).toBitVec = x3.toBitVec &&& (x3.toBitVec - 1#64) := by
      rw [Int64.toBitVec_and, Int64.toBitVec_sub]
      rfl
    rw [e]
    exact t_low hj2 h
theorem wX11_bits_T {x0 : Int64} {s : wS} : Tot (wX11_bits x0 s) (fun _ => True) := by
  unfold wX11_bits
  refine t_bind (wX11_bits_h4_T _ 0 (by omega) (fun i hi => by omega) (by decide +kernel)) (fun _ _ => t_some trivial)
