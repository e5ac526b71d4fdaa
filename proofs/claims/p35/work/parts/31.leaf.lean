/-! The leaves of the class. -/
theorem t_i0 : (0 : Int32).toInt = 0 := rfl
theorem wX10_isOutside_T {x0 x1 : Int32} {s : wS} : Tot (wX10_isOutside x0 x1 s) (fun t => (t = 0 ∧ 0 ≤ x0.toInt ∧ x0.toInt < x1.toInt) ∨ (t = 1 ∧ ¬ (0 ≤ x0.toInt ∧ x0.toInt < x1.toInt))) := by
  unfold wX10_isOutside wX10_isOutside_j9
  refine t_ite (fun c => t_some (Or.inr ⟨rfl, ?_⟩)) (fun c => t_ite (fun c1 => t_some (Or.inl ⟨rfl, ?_⟩)) (fun c1 => t_some (Or.inr ⟨rfl, ?_⟩)))
  · have := t_lt c
    rw [t_i0] at this
    omega
  · have h1 := t_ge c
    have h2 := t_lt c1
    rw [t_i0] at h1
    omega
  · have h2 := t_ge c1
    omega
theorem t_ofNat {n : Nat} (h : n ≤ 2400) : (Int32.ofNat n).toInt = n := Int32.toInt_ofNat_of_lt (by omega)
theorem wX10_at_T {k0 : Nat} {x1 : Int32} {s : wS} (hk0 : wkd k0 = 20) : Tot (wX10_at k0 x1 s) (fun v => v = if 0 ≤ x1.toInt ∧ x1.toInt < wln k0 then s.1 k0 x1.toNatClampNeg else 0) := by
  unfold wX10_at
  have hn := wln_le (k := k0) (by omega)
  refine t_ite (fun c => t_some ?_) (fun c => t_ite (fun c1 => ?_) (fun c1 => t_some ?_))
  · have := t_lt c
    rw [t_i0] at this
    rw [if_neg (by omega)]
  · have h1 := t_ge c
    have h2 := t_lt c1
    rw [t_i0] at h1
    rw [t_ofNat hn] at h2
    refine t_bind (t_ldI h1 h2) (fun v hv => t_some ?_)
    rw [if_pos ⟨h1, h2⟩]
    exact hv
  · have h2 := t_ge c1
    rw [t_ofNat hn] at h2
    rw [if_neg (by omega)]
theorem wX10_set_T {B : Nat → Nat → Bool} {k0 : Nat} {x1 x2 : Int32} {s : wS} (hk0 : wkd k0 = 20) (hB : ∀ b, B k0 b = true) : Tot (wX10_set k0 x1 x2 s) (fun s' => wA B s s' ∧ s' = if 0 ≤ x1.toInt ∧ x1.toInt < wln k0 then wupI s k0 x1.toNatClampNeg x2 else s) := by
  unfold wX10_set
  have hn := wln_le (k := k0) (by omega)
  refine t_ite (fun c => t_some ⟨wA.refl, ?_⟩) (fun c => t_ite (fun c1 => ?_) (fun c1 => t_some ⟨wA.refl, ?_⟩))
  · have := t_lt c
    rw [t_i0] at this
    rw [if_neg (by omega)]
  · have h1 := t_ge c
    have h2 := t_lt c1
    rw [t_i0] at h1
    rw [t_ofNat hn] at h2
    refine t_bind (t_stI h1 h2 hB) (fun v hv => t_some ?_)
    rw [if_pos ⟨h1, h2⟩]
    exact hv
  · have h2 := t_ge c1
    rw [t_ofNat hn] at h2
    rw [if_neg (by omega)]
theorem wX10_empty_h2_T {B : Nat → Nat → Bool} {k0 : Nat} (hk0 : wkd k0 = 20) (hB : ∀ b, B k0 b = true) : ∀ (n : Nat) {x1 : Int32} {s : wS}, 0 ≤ x1.toInt → 2147483648 - x1.toInt < (n : Int) → Tot (wX10_empty_h2 k0 n x1 s) (fun r => wA B s r) := by
  intro n
  induction n with
  | zero => intro x1 s hi hm; exact absurd hm t_m0
  | succ n ih =>
    intro x1 s hi hm
    rw [wX10_empty_h2]
    have hn := wln_le (k := k0) (by omega)
    refine t_ite (fun c => ?_) (fun c => t_some wA.refl)
    have h2 := t_lt c
    rw [t_ofNat hn] at h2
    refine t_bind (t_stI hi h2 hB) (fun s1 h => ?_)
    exact t_mono (ih (t_n1 c hi) (t_m1 c hm)) (fun r hr => h.1.trans hr)
theorem wX10_empty_T {B : Nat → Nat → Bool} {k0 : Nat} {s : wS} (hk0 : wkd k0 = 20) (hB : ∀ b, B k0 b = true) : Tot (wX10_empty k0 s) (fun r => wA B s r) := by
  unfold wX10_empty
  refine t_bind (wX10_empty_h2_T hk0 hB _ (by decide) t_mi) (fun s1 h => t_some h)
