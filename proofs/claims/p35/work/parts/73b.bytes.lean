/-! The class's bytes. -/
/-- the byte that stands at a place; 0 behind the end -/
noncomputable def bt (s : wS) (i : Nat) : Int32 := if (i : Int) < (s.1 1 1).toInt then s.1 2 i &&& 255 else 0
theorem wX8_byteAt_E {i : Int32} {s : wS} (hi : 0 ≤ i.toInt) (hT : (s.1 1 1).toInt ≤ 400) : wX8_byteAt i s = some (bt s i.toNatClampNeg) := by
  have en : ((i.toNatClampNeg : Nat) : Int) = i.toInt := by unfold Int32.toNatClampNeg; omega
  have j : wX8_byteAt_j23 s = some 0 := rfl
  unfold wX8_byteAt
  obtain ⟨t1, e1, h1⟩ := wX10_isOutside_T (x0 := i) (x1 := s.1 1 1) (s := s)
  rw [e1]
  show (if t1 = 0 then _ else _) = _
  rcases h1 with h | h
  · rw [if_pos h.1]
    obtain ⟨t4, e4, h4⟩ := wX10_isOutside_T (x0 := i) (x1 := 400) (s := s)
    rw [e4]
    show (if t4 = 0 then _ else _) = _
    rcases h4 with h' | h'
    · rw [if_pos h'.1]
      obtain ⟨t7, e7, h7⟩ := t_ldI (s := s) (k := 2) (n := 400) (i := i) hi (by omega)
      rw [e7, h7]
      show some (s.1 2 i.toNatClampNeg &&& 255) = _
      unfold bt
      rw [if_pos (by omega)]
    · exact absurd ⟨hi, by rw [show (400 : Int32).toInt = 400 from rfl]; omega⟩ h'.2
  · rw [if_neg (by rw [h.1]; decide), j]
    unfold bt
    rw [if_neg (fun q => h.2 ⟨hi, by omega⟩)]
/-- a byte between two -/
noncomputable def bw (s : wS) (lo hi : Int32) (i : Nat) : Prop := ¬ bt s i < lo ∧ ¬ hi < bt s i
theorem wX8_isBetween_E {i lo hi : Int32} {s : wS} (h0 : 0 ≤ i.toInt) (hT : (s.1 1 1).toInt ≤ 400) : Tot (wX8_isBetween i lo hi s) (fun t => (t = 0 ∧ ¬ bw s lo hi i.toNatClampNeg) ∨ (t = 1 ∧ bw s lo hi i.toNatClampNeg)) := by
  unfold wX8_isBetween
  rw [wX8_byteAt_E h0 hT]
  show Tot (if bt s i.toNatClampNeg < lo then _ else _) _
  exact t_ite (fun c => t_some (Or.inl ⟨rfl, fun q => q.1 c⟩)) (fun c => t_ite (fun c2 => t_some (Or.inl ⟨rfl, fun q => q.2 c2⟩)) (fun c2 => t_some (Or.inr ⟨rfl, c, c2⟩)))
/-- where a run of such bytes ends -/
theorem wX9_endOf_h5_E {lo hi : Int32} {s : wS} (hT : (s.1 1 1).toInt ≤ 400) : ∀ (n : Nat) {i : Int32}, 0 ≤ i.toInt → i.toInt ≤ 400 → 400 - i.toInt < (n : Int) → Tot (wX9_endOf_h5 lo hi s n i) (fun t => i.toInt ≤ t.toInt ∧ t.toInt ≤ 400 ∧ (∀ j : Nat, i.toInt ≤ j → (j : Int) < t.toInt → bw s lo hi j) ∧ (t.toInt < 400 → ¬ bw s lo hi t.toNatClampNeg)) := by
  intro n
  induction n with
  | zero => intro i h0 h4 hm; exfalso; omega
  | succ n ih =>
    intro i h0 h4 hm
    rw [wX9_endOf_h5]
    have e400 : (400 : Int32).toInt = 400 := rfl
    refine t_ite (fun c => ?_) (fun c => ?_)
    · have hc := t_lt c
      rw [e400] at hc
      refine t_bind (wX8_isBetween_E h0 hT) (fun t2 h2 => t_ite (fun c2 => ?_) (fun c2 => ?_))
      · have q := (h2.resolve_right (fun h => by rw [h.1] at c2; exact absurd c2 (by decide))).2
        exact t_some ⟨Int.le_refl _, h4, fun j h1 h3 => by omega, fun _ => q⟩
      · have q := (h2.resolve_left (fun h => c2 h.1)).2
        have e1 := t_p1 (x := i) h0 (by omega)
        refine t_mono (ih (i := i + 1) (by omega) (by omega) (by omega)) (fun t h => ⟨by omega, h.2.1, fun j h1 h3 => ?_, h.2.2.2⟩)
        by_cases hj : (j : Int) = i.toInt
        · have : j = i.toNatClampNeg := by unfold Int32.toNatClampNeg; omega
          rw [this]
          exact q
        · exact h.2.2.1 j (by omega) h3
    · have hc := t_ge c
      rw [e400] at hc
      exact t_some ⟨Int.le_refl _, h4, fun j h1 h3 => by omega, fun h => by omega⟩
theorem wX9_endOf_E {i lo hi : Int32} {s : wS} (hT : (s.1 1 1).toInt ≤ 400) (h0 : 0 ≤ i.toInt) (h4 : i.toInt < 400) : Tot (wX9_endOf i lo hi s) (fun t => i.toInt + 1 ≤ t.toInt ∧ t.toInt ≤ 400 ∧ (∀ j : Nat, i.toInt + 1 ≤ j → (j : Int) < t.toInt → bw s lo hi j) ∧ (t.toInt < 400 → ¬ bw s lo hi t.toNatClampNeg)) := by
  have e1 := t_p1 (x := i) h0 (by omega)
  unfold wX9_endOf
  refine t_bind (wX9_endOf_h5_E hT wFuel (i := i + 1) (by omega) (by omega) (by
    have e : ((wFuel : Nat) : Int) = 1099511627776 := rfl
    omega)) (fun t h => t_some ?_)
  rw [e1] at h
  exact h
