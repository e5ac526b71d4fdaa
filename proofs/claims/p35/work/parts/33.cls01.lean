/-! The class: its methods answer. -/
theorem wX7_fillWith_T {k0 : Nat} {x1 : Int32} {s : wS} (hk0 : wkd k0 = 7) : Tot (wX7_fillWith k0 x1 s) (fun (r : wS) => wA bQ s r) := by
  unfold wX7_fillWith
  refine t_bind (wJ6_bitCount_0f7a4_T) (fun t1 h1 => ?_)
  refine t_bind (wX10_slot_T) (fun t3 h2 => ?_)
  refine t_bind (wJ6_bitCount_0f7a4_T) (fun t5 h3 => ?_)
  refine t_bind (wX10_slot_T) (fun t7 h4 => ?_)
  refine t_bind (wJ6_bitCount_0f7a4_T) (fun t9 h5 => ?_)
  refine t_bind (t_pfI (B := bQ) (bQ_7f1 hk0)) (fun s11 h6 => ?_)
  refine t_bind (wX7_fillWith_h53_T hk0 _  (by decide) t_mi) (fun s23 h7 => ?_)
  have a8 := h6.1.trans h7
  exact t_some a8
theorem wX7_keepOnly_h5_T {k0 : Nat} {x1 : Int32} {x2 : Int32} {s : wS} (hk0 : wkd k0 = 7)  : ∀ (n : Nat) {x3 : Int32} {x4 : Int32}, 2147483648 - x4.toInt < (n : Int) → Tot (wX7_keepOnly_h5 k0 x1 x2 s n x3 x4) (fun (_ : Int32) => True) := by
  intro n
  induction n with
  | zero =>
    intro x3 x4 hm
    exact (t_m0 hm).elim
  | succ n ih =>
    intro x3 x4 hm
    rw [wX7_keepOnly_h5]
    refine t_ite (fun c1 => ?_) (fun c1 => ?_)
    · refine t_ite (fun c2 => ?_) (fun c2 => ?_)
      · refine t_bind (wX7_thingsOf_T hk0) (fun t3 h3 => ?_)
        unfold wX7_keepOnly_j34
        refine t_bind (wX10_slot_T) (fun t5 h4 => ?_)
        exact t_mono (ih (t_m1 c1 hm)) (fun _ _ => trivial)
      · refine t_bind (wX7_thingsOf_T hk0) (fun t7 h5 => ?_)
        unfold wX7_keepOnly_j34
        refine t_bind (wX10_slot_T) (fun t5 h6 => ?_)
        exact t_mono (ih (t_m1 c1 hm)) (fun _ _ => trivial)
    · exact t_some trivial
theorem wX7_keepOnly_T {k0 : Nat} {x1 : Int32} {x2 : Int32} {s : wS} (hk0 : wkd k0 = 7) : Tot (wX7_keepOnly k0 x1 x2 s) (fun (r : wS) => wA bQ s r) := by
  unfold wX7_keepOnly
  refine t_bind (wX7_keepOnly_h5_T hk0 _   t_mi) (fun t10 h1 => ?_)
  refine t_bind (wX7_fillWith_T hk0) (fun s16 h2 => ?_)
  exact t_some h2
theorem wX8_byteAt_j23_T {s : wS}  : Tot (wX8_byteAt_j23 s) (fun (_ : Int32) => True) := by
  unfold wX8_byteAt_j23
  exact t_some trivial
theorem wX8_byteAt_T {x1 : Int32} {s : wS}  : Tot (wX8_byteAt x1 s) (fun (_ : Int32) => True) := by
  unfold wX8_byteAt
  refine t_bind (wX10_isOutside_T) (fun t1 h1 => ?_)
  refine t_ite (fun c2 => ?_) (fun c2 => ?_)
  · refine t_bind (wX10_isOutside_T) (fun t4 h3 => ?_)
    refine t_ite (fun c4 => ?_) (fun c4 => ?_)
    · refine t_bind (t_ldI (n := 400) (by (try simp only [Int32.lt_iff_toInt_lt, Int32.le_iff_toInt_le, ← Int32.toInt_inj, Int32.reduceToInt] at *) <;> omega) (by (try simp only [Int32.lt_iff_toInt_lt, Int32.le_iff_toInt_le, ← Int32.toInt_inj, Int32.reduceToInt] at *) <;> omega)) (fun t7 h5 => ?_)
      exact t_some trivial
    · exact t_mono (wX8_byteAt_j23_T) (fun _ _ => trivial)
  · exact t_mono (wX8_byteAt_j23_T) (fun _ _ => trivial)
theorem wX8_isBetween_T {x1 : Int32} {x2 : Int32} {x3 : Int32} {s : wS}  : Tot (wX8_isBetween x1 x2 x3 s) (fun (_ : Int32) => True) := by
  unfold wX8_isBetween
  refine t_bind (wX8_byteAt_T) (fun t1 h1 => ?_)
  refine t_ite (fun c2 => ?_) (fun c2 => ?_)
  · exact t_some trivial
  · refine t_ite (fun c3 => ?_) (fun c3 => ?_)
    · exact t_some trivial
    · exact t_some trivial
theorem wX9_put_T {x1 : Int32} {x2 : Int32} {x3 : Int32} {s : wS}  : Tot (wX9_put x1 x2 x3 s) (fun (r : wS) => wA bR s r) := by
  unfold wX9_put
  refine t_bind (wX10_isOutside_T) (fun t1 h1 => ?_)
  refine t_ite (fun c2 => ?_) (fun c2 => ?_)
  · refine t_bind (t_stI (B := bR) (n := 401) (by (try simp only [Int32.lt_iff_toInt_lt, Int32.le_iff_toInt_le, ← Int32.toInt_inj, Int32.reduceToInt] at *) <;> omega) (by (try simp only [Int32.lt_iff_toInt_lt, Int32.le_iff_toInt_le, ← Int32.toInt_inj, Int32.reduceToInt] at *) <;> omega) (fun _ => rfl)) (fun s4 h3 => ?_)
    have f4 : s4.1 3 3 = s.1 3 3 := by rw [h3.2, wupI_n (by omega)]
    refine t_bind (t_stI (B := bR) (n := 401) (by (try simp only [Int32.lt_iff_toInt_lt, Int32.le_iff_toInt_le, ← Int32.toInt_inj, Int32.reduceToInt] at *) <;> omega) (by (try simp only [Int32.lt_iff_toInt_lt, Int32.le_iff_toInt_le, ← Int32.toInt_inj, Int32.reduceToInt] at *) <;> omega) (fun _ => rfl)) (fun s5 h5 => ?_)
    have a6 := h3.1.trans h5.1
    have f7 : s5.1 3 3 = s4.1 3 3 := by rw [h5.2, wupI_n (by omega)]
    refine t_bind (t_stI (B := bR) (n := 401) (by (try simp only [Int32.lt_iff_toInt_lt, Int32.le_iff_toInt_le, ← Int32.toInt_inj, Int32.reduceToInt] at *) <;> omega) (by (try simp only [Int32.lt_iff_toInt_lt, Int32.le_iff_toInt_le, ← Int32.toInt_inj, Int32.reduceToInt] at *) <;> omega) (fun _ => rfl)) (fun s6 h8 => ?_)
    have a9 := a6.trans h8.1
    have f10 : s6.1 3 3 = s5.1 3 3 := by rw [h8.2, wupI_n (by omega)]
    refine t_bind (t_pfI (B := bR) rfl) (fun s7 h11 => ?_)
    have a12 := a9.trans h11.1
    exact t_some a12
  · exact t_some wA.refl
theorem wX9_endOf_h5_T {x2 : Int32} {x3 : Int32} {s : wS}   : ∀ (n : Nat) {x4 : Int32}, 2147483648 - x4.toInt < (n : Int) → Tot (wX9_endOf_h5 x2 x3 s n x4) (fun (_ : Int32) => True) := by
  intro n
  induction n with
  | zero =>
    intro x4 hm
    exact (t_m0 hm).elim
  | succ n ih =>
    intro x4 hm
    rw [wX9_endOf_h5]
    refine t_ite (fun c1 => ?_) (fun c1 => ?_)
    · refine t_bind (wX8_isBetween_T) (fun t2 h2 => ?_)
      refine t_ite (fun c3 => ?_) (fun c3 => ?_)
      · exact t_some trivial
      · exact t_mono (ih (t_m1 c1 hm)) (fun _ _ => trivial)
    · exact t_some trivial
theorem wX9_endOf_T {x1 : Int32} {x2 : Int32} {x3 : Int32} {s : wS}  : Tot (wX9_endOf x1 x2 x3 s) (fun (_ : Int32) => True) := by
  unfold wX9_endOf
  refine t_bind (wX9_endOf_h5_T  _   t_mi) (fun t6 h1 => ?_)
  exact t_some trivial
theorem wX9_numberAt_h14_T {x2 : Int32} {s : wS}   : ∀ (n : Nat) {x3 : Int32} {x4 : Int32}, 2147483648 - x4.toInt < (n : Int) → Tot (wX9_numberAt_h14 x2 s n x3 x4) (fun (_ : Int32) => True) := by
  intro n
  induction n with
  | zero =>
    intro x3 x4 hm
    exact (t_m0 hm).elim
  | succ n ih =>
    intro x3 x4 hm
    rw [wX9_numberAt_h14]
    refine t_ite (fun c1 => ?_) (fun c1 => ?_)
    · refine t_bind (wX8_byteAt_T) (fun t3 h2 => ?_)
      exact t_mono (ih (t_m1 c1 hm)) (fun _ _ => trivial)
    · exact t_some trivial
theorem wX9_numberAt_T {x1 : Int32} {x2 : Int32} {s : wS}  : Tot (wX9_numberAt x1 x2 s) (fun (_ : Int32) => True) := by
  unfold wX9_numberAt
  refine t_ite (fun c1 => ?_) (fun c1 => ?_)
  · exact t_some trivial
  · refine t_bind (wX9_numberAt_h14_T  _   t_mi) (fun t6 h2 => ?_)
    exact t_some trivial
theorem wX9_byteSign_T {x0 : Int32} {x1 : Int32} {s : wS}  : Tot (wX9_byteSign x0 x1 s) (fun (_ : Int32) => True) := by
  unfold wX9_byteSign
  refine t_ite (fun c1 => ?_) (fun c1 => ?_)
  · exact t_some trivial
  · refine t_ite (fun c2 => ?_) (fun c2 => ?_)
    · exact t_some trivial
    · refine t_ite (fun c3 => ?_) (fun c3 => ?_)
      · exact t_some trivial
      · refine t_ite (fun c4 => ?_) (fun c4 => ?_)
        · exact t_some trivial
        · refine t_ite (fun c5 => ?_) (fun c5 => ?_)
          · exact t_some trivial
          · refine t_ite (fun c6 => ?_) (fun c6 => ?_)
            · refine t_ite (fun c7 => ?_) (fun c7 => ?_)
              · exact t_some trivial
              · exact t_some trivial
            · refine t_ite (fun c8 => ?_) (fun c8 => ?_)
              · exact t_some trivial
              · refine t_ite (fun c9 => ?_) (fun c9 => ?_)
                · refine t_ite (fun c10 => ?_) (fun c10 => ?_)
                  · exact t_some trivial
                  · exact t_some trivial
                · refine t_ite (fun c11 => ?_) (fun c11 => ?_)
                  · exact t_some trivial
                  · refine t_ite (fun c12 => ?_) (fun c12 => ?_)
                    · exact t_some trivial
                    · exact t_some trivial
theorem wX10_courtIsAnother_h16_T    : ∀ (n : Nat) {x1 : Int32} {s : wS}, 0 ≤ x1.toInt → 2147483648 - x1.toInt < (n : Int) → Tot (wX10_courtIsAnother_h16  n x1 s) (fun (r : wS) => wA bQ s r) := by
  intro n
  induction n with
  | zero =>
    intro x1 s hi hm
    exact (t_m0 hm).elim
  | succ n ih =>
    intro x1 s hi hm
    rw [wX10_courtIsAnother_h16]
    refine t_ite (fun c1 => ?_) (fun c1 => ?_)
    · refine t_bind (t_ldR3 (by (try simp only [Int32.lt_iff_toInt_lt, Int32.le_iff_toInt_le, ← Int32.toInt_inj, Int32.reduceToInt] at *) <;> omega) (by (try simp only [Int32.lt_iff_toInt_lt, Int32.le_iff_toInt_le, ← Int32.toInt_inj, Int32.reduceToInt] at *) <;> omega)) (fun k5 h2 => ?_)
      refine t_bind (t_ldR3 (by (try simp only [Int32.lt_iff_toInt_lt, Int32.le_iff_toInt_le, ← Int32.toInt_inj, Int32.reduceToInt] at *) <;> omega) (by (try simp only [Int32.lt_iff_toInt_lt, Int32.le_iff_toInt_le, ← Int32.toInt_inj, Int32.reduceToInt] at *) <;> omega)) (fun k6 h3 => ?_)
      refine t_bind (t_pfZ (B := bQ) (by decide) (bQ_3f12 h3.1)) (fun s7 h4 => ?_)
      unfold wX10_courtIsAnother_j44
      exact t_mono (ih (t_n1 c1 hi) (t_m1 c1 hm)) (fun r h => (h4.1.trans h))
    · exact t_some wA.refl
theorem wX10_courtIsAnother_T {s : wS}  : Tot (wX10_courtIsAnother s) (fun (r : wS) => wA bR s r) := by
  unfold wX10_courtIsAnother
  refine t_bind (wX5_fill_T rfl) (fun s2 h1 => ?_)
  refine t_bind (wX10_courtIsAnother_h16_T  _  (by decide) t_mi) (fun s9 h2 => ?_)
  have a3 := h1.trans (h2.mono bQ_le_bR)
  exact t_some a3
theorem wX10_thing_T {x1 : Int32} {x2 : Int32} {x3 : Int32} {s : wS}  : Tot (wX10_thing x1 x2 x3 s) (fun (_ : Int32) => True) := by
  unfold wX10_thing
  refine t_bind (wX10_isOutside_T) (fun t1 h1 => ?_)
  refine t_ite (fun c2 => ?_) (fun c2 => ?_)
  · refine t_bind (wX0_isTold_T rfl) (fun t4 h3 => ?_)
    refine t_ite (fun c4 => ?_) (fun c4 => ?_)
    · exact t_some trivial
    · refine t_ite (fun c5 => ?_) (fun c5 => ?_)
      · refine t_bind (wX0_manyOf_T rfl) (fun t8 h6 => ?_)
        exact t_some trivial
      · refine t_bind (wX10_isOutside_T) (fun t10 h7 => ?_)
        refine t_ite (fun c8 => ?_) (fun c8 => ?_)
        · refine t_ite (fun c9 => ?_) (fun c9 => ?_)
          · exact t_some trivial
          · refine t_bind (wX0_has_T rfl) (fun t14 h10 => ?_)
            refine t_ite (fun c11 => ?_) (fun c11 => ?_)
            · exact t_some trivial
            · refine t_ite (fun c12 => ?_) (fun c12 => ?_)
              · refine t_bind (wX0_firstOf_T rfl) (fun t18 h13 => ?_)
                exact t_some trivial
              · refine t_bind (wX0_secondOf_T rfl) (fun t20 h14 => ?_)
                exact t_some trivial
        · exact t_some trivial
  · exact t_some trivial
theorem wX10_lawInUse_T {x1 : Int32} {s : wS} : Tot (wX10_lawInUse x1 s) (fun (r : Option Nat × wS) => (∀ k, r.1 = some k → wkd k = 3) ∧ wA bQ s r.2) := by
  unfold wX10_lawInUse
  refine t_bind (wX0_isTold_T rfl) (fun t1 h1 => t_ite (fun c1 => t_some ⟨fun k e => (by cases e), wA.refl⟩) (fun c1 => ?_))
  refine t_bind wX10_isOutside_T (fun t4 h4 => t_ite (fun c4 => ?_) (fun c1 => t_some ⟨fun k e => (by cases e), wA.refl⟩))
  refine t_bind wX10_isOutside_T (fun t7 h7 => t_ite (fun c7 => ?_) (fun c1 => t_some ⟨fun k e => (by cases e), wA.refl⟩))
  have h8 : 0 ≤ x1.toInt ∧ x1.toInt < 6 := by
    rcases h7 with h | h
    · exact h.2
    · rw [h.1] at c7; exact absurd c7 (by decide)
  refine t_bind (t_ldR3 h8.1 h8.2) (fun k10 h10 => t_ite (fun c10 => ?_) (fun c10 => t_some ⟨fun k e => (by cases e; exact h10.1), wA.refl⟩))
  refine t_bind (wX3_measure_T h10.1 rfl) (fun s13 h13 => t_some ⟨fun k e => (by cases e; exact h10.1), h13⟩)
theorem wX10_far_T {x1 : Int32} {x2 : Int32} {x3 : Int32} {x4 : Int32} {s : wS}  : Tot (wX10_far x1 x2 x3 x4 s) (fun (r : Int64 × wS) => wA bQ s r.2) := by
  unfold wX10_far
  refine t_bind (wX10_lawInUse_T) (fun r2 h1 => ?_)
  obtain ⟨o1, s2⟩ := r2
  dsimp only at h1 ⊢
  refine t_elim (fun e3 => ?_) (fun k4 e3 => ?_)
  · exact t_some h1.2
  · have hk4 := (h1.1) k4 e3
    refine t_bind (wX0_has_T rfl) (fun t5 h4 => ?_)
    refine t_ite (fun c5 => ?_) (fun c5 => ?_)
    · exact t_some h1.2
    · refine t_bind (wX0_has_T rfl) (fun t8 h6 => ?_)
      refine t_ite (fun c7 => ?_) (fun c7 => ?_)
      · exact t_some h1.2
      · refine t_bind (wX3_farOf_T hk4) (fun t11 h8 => ?_)
        exact t_some h1.2
theorem wX10_answers_T {x1 : Int32} {x2 : Int32} {s : wS}  : Tot (wX10_answers x1 x2 s) (fun (_ : Int32) => True) := by
  unfold wX10_answers
  refine t_bind (wX2_hasAnswer_T rfl) (fun t1 h1 => ?_)
  refine t_ite (fun c2 => ?_) (fun c2 => ?_)
  · exact t_some trivial
  · refine t_ite (fun c3 => ?_) (fun c3 => ?_)
    · refine t_bind (wX10_at_T rfl) (fun t5 h4 => ?_)
      exact t_some trivial
    · refine t_ite (fun c5 => ?_) (fun c5 => ?_)
      · refine t_bind (wX10_at_T rfl) (fun t8 h6 => ?_)
        exact t_some trivial
      · refine t_ite (fun c7 => ?_) (fun c7 => ?_)
        · refine t_bind (wX10_at_T rfl) (fun t11 h8 => ?_)
          exact t_some trivial
        · refine t_ite (fun c9 => ?_) (fun c9 => ?_)
          · refine t_bind (wX10_at_T rfl) (fun t14 h10 => ?_)
            exact t_some trivial
          · refine t_ite (fun c11 => ?_) (fun c11 => ?_)
            · refine t_bind (wX2_isStruck_T rfl) (fun t17 h12 => ?_)
              refine t_ite (fun c13 => ?_) (fun c13 => ?_)
              · exact t_some trivial
              · exact t_some trivial
            · exact t_some trivial
theorem wX10_spare_T {x1 : Int32} {s : wS}  : Tot (wX10_spare x1 s) (fun (_ : Int32) => True) := by
  unfold wX10_spare
  refine t_bind (wX10_isOutside_T) (fun t1 h1 => ?_)
  refine t_ite (fun c2 => ?_) (fun c2 => ?_)
  · refine t_bind (wX2_mayStillGive_T rfl) (fun t4 h3 => ?_)
    exact t_some trivial
  · exact t_some trivial
theorem wX10_nearThings_T {k1 : Nat} {x2 : Int32} {s : wS} (hk1 : wkd k1 = 3) : Tot (wX10_nearThings k1 x2 s) (fun (_ : Int32) => True) := by
  unfold wX10_nearThings
  refine t_bind (wX10_at_T rfl) (fun t1 h1 => ?_)
  refine t_bind (wX10_at_T rfl) (fun t3 h2 => ?_)
  refine t_bind (wX10_at_T rfl) (fun t5 h3 => ?_)
  refine t_bind (wX3_nearOf_T hk1) (fun t7 h4 => ?_)
  exact t_some trivial
theorem wX10_isTrue_T {k1 : Nat} {x2 : Int32} {x3 : Int32} {s : wS} (hk1 : wkd k1 = 3) : Tot (wX10_isTrue k1 x2 x3 s) (fun (_ : Int32) => True) := by
  unfold wX10_isTrue
  refine t_bind (wX10_at_T rfl) (fun t1 h1 => ?_)
  refine t_bind (wX0_thingIn_T rfl) (fun t3 h2 => ?_)
  refine t_bind (wX10_nearThings_T hk1) (fun t5 h3 => ?_)
  refine t_ite (fun c4 => ?_) (fun c4 => ?_)
  · exact t_some trivial
  · exact t_some trivial
theorem wX10_holds_T {x1 : Int32} {x2 : Int32} {x3 : Int32} {s : wS}  : Tot (wX10_holds x1 x2 x3 s) (fun (r : Int32 × wS) => wA bQ s r.2) := by
  unfold wX10_holds
  refine t_bind (wX10_lawInUse_T) (fun r2 h1 => ?_)
  obtain ⟨o1, s2⟩ := r2
  dsimp only at h1 ⊢
  refine t_elim (fun e3 => ?_) (fun k4 e3 => ?_)
  · exact t_some h1.2
  · have hk4 := (h1.1) k4 e3
    refine t_bind (wX2_hasAnswer_T rfl) (fun t5 h4 => ?_)
    refine t_ite (fun c5 => ?_) (fun c5 => ?_)
    · exact t_some h1.2
    · refine t_bind (wX0_worlds_T rfl) (fun t8 h6 => ?_)
      refine t_bind (wX10_isOutside_T) (fun t10 h7 => ?_)
      refine t_ite (fun c8 => ?_) (fun c8 => ?_)
      · refine t_bind (wX10_isTrue_T hk4) (fun t13 h9 => ?_)
        refine t_ite (fun c10 => ?_) (fun c10 => ?_)
        · exact t_some h1.2
        · exact t_some h1.2
      · exact t_some h1.2
theorem wX10_addFalse_h2_T {x1 : Int32} {x2 : Int32}   : ∀ (n : Nat) {x3 : Int32} {s : wS}, 2147483648 - x3.toInt < (n : Int) → Tot (wX10_addFalse_h2 x1 x2 n x3 s) (fun (r : wS) => wA bQ s r) := by
  intro n
  induction n with
  | zero =>
    intro x3 s hm
    exact (t_m0 hm).elim
  | succ n ih =>
    intro x3 s hm
    rw [wX10_addFalse_h2]
    refine t_bind (wX0_manyOf_T rfl) (fun t1 h1 => ?_)
    refine t_ite (fun c2 => ?_) (fun c2 => ?_)
    · refine t_ite (fun c3 => ?_) (fun c3 => ?_)
      · refine t_bind (wX10_slot_T) (fun t5 h4 => ?_)
        refine t_bind (wX10_slot_T) (fun t7 h5 => ?_)
        refine t_bind (wX10_at_T rfl) (fun t9 h6 => ?_)
        refine t_bind (wX10_set_T rfl (B := bQ) (fun _ => rfl)) (fun s12 h7 => ?_)
        unfold wX10_addFalse_j51
        exact t_mono (ih (t_m1 c2 hm)) (fun r h => (h7.1.trans h))
      · unfold wX10_addFalse_j51
        exact t_mono (ih (t_m1 c2 hm)) (fun r h => h)
    · exact t_some wA.refl
theorem wX10_addFalse_T {x1 : Int32} {x2 : Int32} {s : wS}  : Tot (wX10_addFalse x1 x2 s) (fun (r : wS) => wA bQ s r) := by
  unfold wX10_addFalse
  refine t_bind (wX10_addFalse_h2_T  _   t_mi) (fun s15 h1 => ?_)
  exact t_some h1
theorem wX10_countFalse_h10_T {k1 : Nat} {x2 : Int32} {x3 : Int32} {x4 : Int32} (hk1 : wkd k1 = 3)  : ∀ (n : Nat) {x5 : Int32} {s : wS}, 2147483648 - x5.toInt < (n : Int) → Tot (wX10_countFalse_h10 k1 x2 x3 x4 n x5 s) (fun (r : wS) => wA bQ s r) := by
  intro n
  induction n with
  | zero =>
    intro x5 s hm
    exact (t_m0 hm).elim
  | succ n ih =>
    intro x5 s hm
    rw [wX10_countFalse_h10]
    refine t_ite (fun c1 => ?_) (fun c1 => ?_)
    · refine t_ite (fun c2 => ?_) (fun c2 => ?_)
      · unfold wX10_countFalse_j38
        unfold wX10_countFalse_j43
        refine t_bind (wX2_isLookedAt_T rfl) (fun t6 h3 => ?_)
        refine t_ite (fun c4 => ?_) (fun c4 => ?_)
        · unfold wX10_countFalse_j93
          exact t_mono (ih (t_m1 c1 hm)) (fun r h => h)
        · refine t_ite (fun c5 => ?_) (fun c5 => ?_)
          · unfold wX10_countFalse_j93
            exact t_mono (ih (t_m1 c1 hm)) (fun r h => h)
          · refine t_ite (fun c6 => ?_) (fun c6 => ?_)
            · unfold wX10_countFalse_j93
              exact t_mono (ih (t_m1 c1 hm)) (fun r h => h)
            · refine t_bind (wX10_at_T rfl) (fun t11 h7 => ?_)
              refine t_bind (wX10_nearThings_T hk1) (fun t13 h8 => ?_)
              refine t_bind (wX10_addFalse_T) (fun s16 h9 => ?_)
              unfold wX10_countFalse_j93
              exact t_mono (ih (t_m1 c1 hm)) (fun r h => (h9.trans h))
      · refine t_bind (wX10_at_T rfl) (fun t18 h10 => ?_)
        refine t_ite (fun c11 => ?_) (fun c11 => ?_)
        · unfold wX10_countFalse_j38
          unfold wX10_countFalse_j43
          refine t_bind (wX2_isLookedAt_T rfl) (fun t6 h12 => ?_)
          refine t_ite (fun c13 => ?_) (fun c13 => ?_)
          · unfold wX10_countFalse_j93
            exact t_mono (ih (t_m1 c1 hm)) (fun r h => h)
          · refine t_ite (fun c14 => ?_) (fun c14 => ?_)
            · unfold wX10_countFalse_j93
              exact t_mono (ih (t_m1 c1 hm)) (fun r h => h)
            · refine t_ite (fun c15 => ?_) (fun c15 => ?_)
              · unfold wX10_countFalse_j93
                exact t_mono (ih (t_m1 c1 hm)) (fun r h => h)
              · refine t_bind (wX10_at_T rfl) (fun t11 h16 => ?_)
                refine t_bind (wX10_nearThings_T hk1) (fun t13 h17 => ?_)
                refine t_bind (wX10_addFalse_T) (fun s16 h18 => ?_)
                unfold wX10_countFalse_j93
                exact t_mono (ih (t_m1 c1 hm)) (fun r h => (h18.trans h))
        · unfold wX10_countFalse_j43
          refine t_bind (wX2_isLookedAt_T rfl) (fun t6 h19 => ?_)
          refine t_ite (fun c20 => ?_) (fun c20 => ?_)
          · unfold wX10_countFalse_j93
            exact t_mono (ih (t_m1 c1 hm)) (fun r h => h)
          · refine t_ite (fun c21 => ?_) (fun c21 => ?_)
            · unfold wX10_countFalse_j93
              exact t_mono (ih (t_m1 c1 hm)) (fun r h => h)
            · refine t_ite (fun c22 => ?_) (fun c22 => ?_)
              · unfold wX10_countFalse_j93
                exact t_mono (ih (t_m1 c1 hm)) (fun r h => h)
              · refine t_bind (wX10_at_T rfl) (fun t11 h23 => ?_)
                refine t_bind (wX10_nearThings_T hk1) (fun t13 h24 => ?_)
                refine t_bind (wX10_addFalse_T) (fun s16 h25 => ?_)
                unfold wX10_countFalse_j93
                exact t_mono (ih (t_m1 c1 hm)) (fun r h => (h25.trans h))
    · exact t_some wA.refl
theorem wX10_countFalse_h172_T {x6 : Int32} {x7 : Int32} {x8 : Int32}   : ∀ (n : Nat) {x5 : Int32} {x9 : Int32} {s : wS}, 2147483648 - x9.toInt < (n : Int) → Tot (wX10_countFalse_h172 x6 x7 x8 n x5 x9 s) (fun (r : Int32 × wS) => wA bQ s r.2) := by
  intro n
  induction n with
  | zero =>
    intro x5 x9 s hm
    exact (t_m0 hm).elim
  | succ n ih =>
    intro x5 x9 s hm
    rw [wX10_countFalse_h172]
    refine t_bind (wX0_manyOf_T rfl) (fun t46 h1 => ?_)
    refine t_ite (fun c2 => ?_) (fun c2 => ?_)
    · refine t_bind (wX10_slot_T) (fun t49 h3 => ?_)
      refine t_bind (wX10_at_T rfl) (fun t51 h4 => ?_)
      refine t_bind (wX10_set_T rfl (B := bQ) (fun _ => rfl)) (fun s54 h5 => ?_)
      exact t_mono (ih (t_m1 c2 hm)) (fun r h => (h5.1.trans h))
    · exact t_some wA.refl
theorem wX10_countFalse_h124_T {x6 : Int32}   : ∀ (n : Nat) {x5 : Int32} {x7 : Int32} {s : wS}, 2147483648 - x7.toInt < (n : Int) → Tot (wX10_countFalse_h124 x6 n x5 x7 s) (fun (r : Int32 × wS) => wA bQ s r.2) := by
  intro n
  induction n with
  | zero =>
    intro x5 x7 s hm
    exact (t_m0 hm).elim
  | succ n ih =>
    intro x5 x7 s hm
    rw [wX10_countFalse_h124]
    refine t_bind (wX0_manyOf_T rfl) (fun t35 h1 => ?_)
    refine t_ite (fun c2 => ?_) (fun c2 => ?_)
    · refine t_bind (wX10_slot_T) (fun t38 h3 => ?_)
      refine t_bind (wX10_at_T rfl) (fun t40 h4 => ?_)
      refine t_bind (wX10_slot_T) (fun t42 h5 => ?_)
      refine t_bind (wX10_at_T rfl) (fun t44 h6 => ?_)
      refine t_bind (wX10_countFalse_h172_T  _   t_mi) (fun r8 h7 => ?_)
      obtain ⟨t57, s58⟩ := r8
      dsimp only at h7 ⊢
      exact t_mono (ih (t_m1 c2 hm)) (fun r h => (h7.trans h))
    · exact t_some wA.refl
theorem wX10_countFalse_h105_T    : ∀ (n : Nat) {x5 : Int32} {x6 : Int32} {s : wS}, 2147483648 - x6.toInt < (n : Int) → Tot (wX10_countFalse_h105  n x5 x6 s) (fun (r : wS) => wA bQ s r) := by
  intro n
  induction n with
  | zero =>
    intro x5 x6 s hm
    exact (t_m0 hm).elim
  | succ n ih =>
    intro x5 x6 s hm
    rw [wX10_countFalse_h105]
    refine t_bind (wX0_manyOf_T rfl) (fun t32 h1 => ?_)
    refine t_ite (fun c2 => ?_) (fun c2 => ?_)
    · refine t_bind (wX10_countFalse_h124_T  _   t_mi) (fun r4 h3 => ?_)
      obtain ⟨t66, s67⟩ := r4
      dsimp only at h3 ⊢
      exact t_mono (ih (t_m1 c2 hm)) (fun r h => (h3.trans h))
    · exact t_some wA.refl
theorem wX10_countFalse_T {k1 : Nat} {x2 : Int32} {x3 : Int32} {x4 : Int32} {s : wS} (hk1 : wkd k1 = 3) : Tot (wX10_countFalse k1 x2 x3 x4 s) (fun (r : wS) => wA bQ s r) := by
  unfold wX10_countFalse
  refine t_bind (wX10_empty_T rfl (B := bQ) (fun _ => rfl)) (fun s2 h1 => ?_)
  refine t_bind (wX10_countFalse_h10_T hk1 _   t_mi) (fun s22 h2 => ?_)
  have a3 := h1.trans h2
  refine t_bind (wX10_countFalse_h105_T  _   t_mi) (fun s76 h4 => ?_)
  have a5 := a3.trans h4
  exact t_some a5
theorem wX10_wrong_T {x1 : Int32} {x2 : Int32} {s : wS}  : Tot (wX10_wrong x1 x2 s) (fun (r : Int32 × wS) => wA bQ s r.2) := by
  unfold wX10_wrong
  refine t_bind (wX10_lawInUse_T) (fun r2 h1 => ?_)
  obtain ⟨o1, s2⟩ := r2
  dsimp only at h1 ⊢
  refine t_elim (fun e3 => ?_) (fun k4 e3 => ?_)
  · exact t_some h1.2
  · have hk4 := (h1.1) k4 e3
    refine t_bind (wX0_worlds_T rfl) (fun t5 h4 => ?_)
    refine t_bind (wX10_isOutside_T) (fun t7 h5 => ?_)
    refine t_ite (fun c6 => ?_) (fun c6 => ?_)
    · refine t_bind (wX2_first_T rfl) (fun t10 h7 => ?_)
      refine t_bind (wX10_countFalse_T hk4) (fun s13 h8 => ?_)
      have a9 := h1.2.trans h8
      refine t_bind (wX10_at_T rfl) (fun t15 h10 => ?_)
      exact t_some a9
    · exact t_some h1.2
theorem wX10_fillKept_h48_T {k1 : Nat} {x2 : Int32} {x3 : Int32} {x5 : Int32} {x6 : Int32} (hk1 : wkd k1 = 7)  : ∀ (n : Nat) {x4 : Int32} {x7 : Int32} {s : wS}, 2147483648 - x7.toInt < (n : Int) → Tot (wX10_fillKept_h48 k1 x2 x3 x5 x6 n x4 x7 s) (fun (r : Int32 × wS) => wA bQ s r.2) := by
  intro n
  induction n with
  | zero =>
    intro x4 x7 s hm
    exact (t_m0 hm).elim
  | succ n ih =>
    intro x4 x7 s hm
    rw [wX10_fillKept_h48]
    refine t_bind (wX0_manyOf_T rfl) (fun t10 h1 => ?_)
    refine t_ite (fun c2 => ?_) (fun c2 => ?_)
    · refine t_bind (wX10_at_T rfl) (fun t13 h3 => ?_)
      refine t_ite (fun c4 => ?_) (fun c4 => ?_)
      · unfold wX10_fillKept_j98
        exact t_mono (ih (t_m1 c2 hm)) (fun r h => h)
      · refine t_ite (fun c5 => ?_) (fun c5 => ?_)
        · unfold wX10_fillKept_j88
          refine t_bind (wX7_add_T hk1) (fun s18 h6 => ?_)
          unfold wX10_fillKept_j98
          exact t_mono (ih (t_m1 c2 hm)) (fun r h => (h6.trans h))
        · refine t_ite (fun c7 => ?_) (fun c7 => ?_)
          · unfold wX10_fillKept_j88
            refine t_bind (wX7_add_T hk1) (fun s18 h8 => ?_)
            unfold wX10_fillKept_j98
            exact t_mono (ih (t_m1 c2 hm)) (fun r h => (h8.trans h))
          · unfold wX10_fillKept_j98
            exact t_mono (ih (t_m1 c2 hm)) (fun r h => h)
    · exact t_some wA.refl
theorem wX10_fillKept_h29_T {k1 : Nat} {x2 : Int32} {x3 : Int32} {x5 : Int32} (hk1 : wkd k1 = 7)  : ∀ (n : Nat) {x4 : Int32} {x6 : Int32} {s : wS}, 2147483648 - x6.toInt < (n : Int) → Tot (wX10_fillKept_h29 k1 x2 x3 x5 n x4 x6 s) (fun (r : Int32 × wS) => wA bQ s r.2) := by
  intro n
  induction n with
  | zero =>
    intro x4 x6 s hm
    exact (t_m0 hm).elim
  | succ n ih =>
    intro x4 x6 s hm
    rw [wX10_fillKept_h29]
    refine t_bind (wX0_manyOf_T rfl) (fun t7 h1 => ?_)
    refine t_ite (fun c2 => ?_) (fun c2 => ?_)
    · refine t_bind (wX10_fillKept_h48_T hk1 _   t_mi) (fun r4 h3 => ?_)
      obtain ⟨t22, s23⟩ := r4
      dsimp only at h3 ⊢
      exact t_mono (ih (t_m1 c2 hm)) (fun r h => (h3.trans h))
    · exact t_some wA.refl
theorem wX10_fillKept_h10_T {k1 : Nat} {x2 : Int32} {x3 : Int32} (hk1 : wkd k1 = 7)  : ∀ (n : Nat) {x4 : Int32} {x5 : Int32} {s : wS}, 2147483648 - x5.toInt < (n : Int) → Tot (wX10_fillKept_h10 k1 x2 x3 n x4 x5 s) (fun (r : wS) => wA bQ s r) := by
  intro n
  induction n with
  | zero =>
    intro x4 x5 s hm
    exact (t_m0 hm).elim
  | succ n ih =>
    intro x4 x5 s hm
    rw [wX10_fillKept_h10]
    refine t_bind (wX0_manyOf_T rfl) (fun t4 h1 => ?_)
    refine t_ite (fun c2 => ?_) (fun c2 => ?_)
    · refine t_bind (wX10_fillKept_h29_T hk1 _   t_mi) (fun r4 h3 => ?_)
      obtain ⟨t26, s27⟩ := r4
      dsimp only at h3 ⊢
      exact t_mono (ih (t_m1 c2 hm)) (fun r h => (h3.trans h))
    · exact t_some wA.refl
theorem wX10_fillKept_T {k1 : Nat} {x2 : Int32} {x3 : Int32} {s : wS} (hk1 : wkd k1 = 7) : Tot (wX10_fillKept k1 x2 x3 s) (fun (r : wS) => wA bQ s r) := by
  unfold wX10_fillKept
  refine t_bind (wX7_clear_T hk1) (fun s2 h1 => ?_)
  refine t_bind (wX10_fillKept_h10_T hk1 _   t_mi) (fun s31 h2 => ?_)
  have a3 := h1.trans h2
  exact t_some a3
theorem wX10_lawWithKept_T {x1 x2 : Int32} {s : wS} : Tot (wX10_lawWithKept x1 x2 s) (fun (r : Option Nat × wS) => (∀ k, r.1 = some k → wkd k = 3) ∧ wA bQ s r.2) := by
  unfold wX10_lawWithKept
  refine t_bind wX10_lawInUse_T (fun r h1 => ?_)
  obtain ⟨o1, s2⟩ := r
  dsimp only at h1 ⊢
  refine t_elim (fun e => t_some ⟨fun k e => (by cases e), h1.2⟩) (fun k4 e => ?_)
  have hk4 := h1.1 k4 e
  refine t_bind wX10_isOutside_T (fun t5 h5 => t_ite (fun c4 => ?_) (fun c1 => t_some ⟨fun k e => (by cases e), h1.2⟩))
  refine t_bind (wX2_first_T rfl) (fun t8 h8 => ?_)
  refine t_bind (wX10_countFalse_T hk4) (fun s11 h11 => ?_)
  refine t_bind (wX10_fillKept_T rfl) (fun s14 h14 => t_some ⟨fun k e => (by cases e; exact hk4), (h1.2.trans h11).trans h14⟩)
theorem wX10_kept_T {x1 : Int32} {x2 : Int32} {s : wS}  : Tot (wX10_kept x1 x2 s) (fun (r : Int32 × wS) => wA bQ s r.2) := by
  unfold wX10_kept
  refine t_bind (wX10_lawWithKept_T) (fun r2 h1 => ?_)
  obtain ⟨o1, s2⟩ := r2
  dsimp only at h1 ⊢
  refine t_elim (fun e3 => ?_) (fun k4 e3 => ?_)
  · exact t_some h1.2
  · have hk4 := (h1.1) k4 e3
    exact t_some h1.2
theorem wX10_world_h21_T {x2 : Int32} {x3 : Int32} {s : wS}   : ∀ (n : Nat) {x5 : Int32} {x6 : Int32}, 2147483648 - x6.toInt < (n : Int) → Tot (wX10_world_h21 x2 x3 s n x5 x6) (fun (_ : (Unit) ⊕ (Int32)) => True) := by
  intro n
  induction n with
  | zero =>
    intro x5 x6 hm
    exact (t_m0 hm).elim
  | succ n ih =>
    intro x5 x6 hm
    rw [wX10_world_h21]
    refine t_bind (wX0_worlds_T rfl) (fun t5 h1 => ?_)
    refine t_ite (fun c2 => ?_) (fun c2 => ?_)
    · refine t_bind (wX10_at_T rfl) (fun t8 h3 => ?_)
      refine t_ite (fun c4 => ?_) (fun c4 => ?_)
      · unfold wX10_world_j61
        exact t_mono (ih (t_m1 c2 hm)) (fun _ _ => trivial)
      · refine t_ite (fun c5 => ?_) (fun c5 => ?_)
        · exact t_some trivial
        · unfold wX10_world_j61
          exact t_mono (ih (t_m1 c2 hm)) (fun _ _ => trivial)
    · exact t_some trivial
theorem wX10_world_T {x1 : Int32} {x2 : Int32} {x3 : Int32} {s : wS}  : Tot (wX10_world x1 x2 x3 s) (fun (r : Int32 × wS) => wA bQ s r.2) := by
  unfold wX10_world
  refine t_bind (wX10_lawWithKept_T) (fun r2 h1 => ?_)
  obtain ⟨o1, s2⟩ := r2
  dsimp only at h1 ⊢
  refine t_elim (fun e3 => ?_) (fun k4 e3 => ?_)
  · exact t_some h1.2
  · have hk4 := (h1.1) k4 e3
    refine t_bind (wX10_world_h21_T  _   t_mi) (fun z12 h4 => ?_)
    rcases z12 with z12 | z12
    · dsimp only
      exact t_some h1.2
    · obtain t19 := z12
      dsimp only
      exact t_some h1.2
theorem wX10_may_T {x1 : Int32} {x2 : Int32} {x3 : Int32} {x4 : Int32} {s : wS}  : Tot (wX10_may x1 x2 x3 x4 s) (fun (r : Int32 × wS) => wA bQ s r.2) := by
  unfold wX10_may
  refine t_bind (wX10_lawWithKept_T) (fun r2 h1 => ?_)
  obtain ⟨o1, s2⟩ := r2
  dsimp only at h1 ⊢
  refine t_elim (fun e3 => ?_) (fun k4 e3 => ?_)
  · exact t_some h1.2
  · have hk4 := (h1.1) k4 e3
    refine t_bind (wX0_has_T rfl) (fun t5 h4 => ?_)
    refine t_ite (fun c5 => ?_) (fun c5 => ?_)
    · exact t_some h1.2
    · refine t_bind (wX7_with_T rfl) (fun t8 h6 => ?_)
      exact t_some h1.2
theorem wX10_cleared_T {x1 : Int32} {x2 : Int32} {s : wS}  : Tot (wX10_cleared x1 x2 s) (fun (r : Int32 × wS) => wA bQ s r.2) := by
  unfold wX10_cleared
  refine t_bind (wX10_lawWithKept_T) (fun r2 h1 => ?_)
  obtain ⟨o1, s2⟩ := r2
  dsimp only at h1 ⊢
  refine t_elim (fun e3 => ?_) (fun k4 e3 => ?_)
  · exact t_some h1.2
  · have hk4 := (h1.1) k4 e3
    refine t_bind (wX0_bitsOf_T rfl) (fun t5 h4 => ?_)
    refine t_bind (wX7_thingsOf_T rfl) (fun t7 h5 => ?_)
    exact t_some h1.2
theorem wX10_worldsWithAtMost_h4_T {x1 : Int32} {s : wS}   : ∀ (n : Nat) {x2 : Int32} {x3 : Int32}, 2147483648 - x3.toInt < (n : Int) → Tot (wX10_worldsWithAtMost_h4 x1 s n x2 x3) (fun (_ : Int32) => True) := by
  intro n
  induction n with
  | zero =>
    intro x2 x3 hm
    exact (t_m0 hm).elim
  | succ n ih =>
    intro x2 x3 hm
    rw [wX10_worldsWithAtMost_h4]
    refine t_bind (wX0_worlds_T rfl) (fun t1 h1 => ?_)
    refine t_ite (fun c2 => ?_) (fun c2 => ?_)
    · refine t_bind (wX10_at_T rfl) (fun t4 h3 => ?_)
      refine t_ite (fun c4 => ?_) (fun c4 => ?_)
      · unfold wX10_worldsWithAtMost_j33
        exact t_mono (ih (t_m1 c2 hm)) (fun _ _ => trivial)
      · unfold wX10_worldsWithAtMost_j33
        exact t_mono (ih (t_m1 c2 hm)) (fun _ _ => trivial)
    · exact t_some trivial
theorem wX10_worldsWithAtMost_T {x1 : Int32} {s : wS}  : Tot (wX10_worldsWithAtMost x1 s) (fun (_ : Int32) => True) := by
  unfold wX10_worldsWithAtMost
  refine t_bind (wX10_worldsWithAtMost_h4_T  _   t_mi) (fun t8 h1 => ?_)
  exact t_some trivial
theorem wX10_bestWorld_h18_T {s : wS}   : ∀ (n : Nat) {x2 : Int32} {x3 : Int32}, 2147483648 - x3.toInt < (n : Int) → Tot (wX10_bestWorld_h18 s n x2 x3) (fun (_ : Int32) => True) := by
  intro n
  induction n with
  | zero =>
    intro x2 x3 hm
    exact (t_m0 hm).elim
  | succ n ih =>
    intro x2 x3 hm
    rw [wX10_bestWorld_h18]
    refine t_bind (wX0_worlds_T rfl) (fun t6 h1 => ?_)
    refine t_ite (fun c2 => ?_) (fun c2 => ?_)
    · refine t_bind (wX10_at_T rfl) (fun t9 h3 => ?_)
      refine t_bind (wX10_at_T rfl) (fun t11 h4 => ?_)
      refine t_ite (fun c5 => ?_) (fun c5 => ?_)
      · unfold wX10_bestWorld_j53
        exact t_mono (ih (t_m1 c2 hm)) (fun _ _ => trivial)
      · unfold wX10_bestWorld_j53
        exact t_mono (ih (t_m1 c2 hm)) (fun _ _ => trivial)
    · exact t_some trivial
theorem wX10_bestWorld_T {k1 : Nat} {s : wS} (hk1 : wkd k1 = 3) : Tot (wX10_bestWorld k1 s) (fun (r : Int32 × wS) => wA bQ s r.2) := by
  unfold wX10_bestWorld
  refine t_bind (wX2_first_T rfl) (fun t1 h1 => ?_)
  refine t_bind (wX10_countFalse_T hk1) (fun s4 h2 => ?_)
  refine t_bind (wX10_bestWorld_h18_T  _   t_mi) (fun t15 h3 => ?_)
  exact t_some h2
theorem wX10_fewest_T {x1 : Int32} {x2 : Int32} {s : wS}  : Tot (wX10_fewest x1 x2 s) (fun (r : Int32 × wS) => wA bQ s r.2) := by
  unfold wX10_fewest
  refine t_bind (wX10_lawInUse_T) (fun r2 h1 => ?_)
  obtain ⟨o1, s2⟩ := r2
  dsimp only at h1 ⊢
  refine t_elim (fun e3 => ?_) (fun k4 e3 => ?_)
  · exact t_some h1.2
  · have hk4 := (h1.1) k4 e3
    refine t_bind (wX10_isOutside_T) (fun t5 h4 => ?_)
    refine t_ite (fun c5 => ?_) (fun c5 => ?_)
    · refine t_bind (wX10_bestWorld_T hk4) (fun r7 h6 => ?_)
      obtain ⟨t8, s9⟩ := r7
      dsimp only at h6 ⊢
      have a8 := h1.2.trans h6
      refine t_bind (wX10_at_T rfl) (fun t11 h9 => ?_)
      refine t_ite (fun c10 => ?_) (fun c10 => ?_)
      · exact t_some a8
      · refine t_ite (fun c11 => ?_) (fun c11 => ?_)
        · exact t_some a8
        · refine t_bind (wX10_worldsWithAtMost_T) (fun t15 h12 => ?_)
          exact t_some a8
    · exact t_some h1.2
theorem wX10_falseOnes_h26_T {k2 : Nat} {x3 : Int32} {s : wS} (hk2 : wkd k2 = 3)  : ∀ (n : Nat) {x4 : Int64} {x6 : Int32}, 2147483648 - x6.toInt < (n : Int) → Tot (wX10_falseOnes_h26 k2 x3 s n x4 x6) (fun (_ : Int64) => True) := by
  intro n
  induction n with
  | zero =>
    intro x4 x6 hm
    exact (t_m0 hm).elim
  | succ n ih =>
    intro x4 x6 hm
    rw [wX10_falseOnes_h26]
    refine t_ite (fun c1 => ?_) (fun c1 => ?_)
    · refine t_bind (wX2_first_T rfl) (fun t9 h2 => ?_)
      refine t_bind (wX2_isLookedAt_T rfl) (fun t11 h3 => ?_)
      refine t_ite (fun c4 => ?_) (fun c4 => ?_)
      · unfold wX10_falseOnes_j72
        exact t_mono (ih (t_m1 c1 hm)) (fun _ _ => trivial)
      · refine t_bind (wX10_isTrue_T hk2) (fun t14 h5 => ?_)
        refine t_ite (fun c6 => ?_) (fun c6 => ?_)
        · unfold wX10_falseOnes_j72
          exact t_mono (ih (t_m1 c1 hm)) (fun _ _ => trivial)
        · unfold wX10_falseOnes_j72
          exact t_mono (ih (t_m1 c1 hm)) (fun _ _ => trivial)
    · exact t_some trivial
theorem wX10_falseOnes_T {x1 : Int32} {s : wS}  : Tot (wX10_falseOnes x1 s) (fun (r : Int64 × wS) => wA bQ s r.2) := by
  unfold wX10_falseOnes
  refine t_bind (wX10_lawInUse_T) (fun r2 h1 => ?_)
  obtain ⟨o1, s2⟩ := r2
  dsimp only at h1 ⊢
  refine t_elim (fun e3 => ?_) (fun k4 e3 => ?_)
  · exact t_some h1.2
  · have hk4 := (h1.1) k4 e3
    refine t_bind (wX10_bestWorld_T hk4) (fun r5 h4 => ?_)
    obtain ⟨t5, s6⟩ := r5
    dsimp only at h4 ⊢
    have a6 := h1.2.trans h4
    refine t_bind (wX10_falseOnes_h26_T hk4 _   t_mi) (fun t18 h7 => ?_)
    exact t_some a6
theorem wX10_isLesserSet_j23_T {s : wS}  : Tot (wX10_isLesserSet_j23 s) (fun (_ : Int32) => True) := by
  unfold wX10_isLesserSet_j23
  exact t_some trivial
theorem wX10_isLesserSet_T {x0 : Int32} {x1 : Int32} {s : wS}  : Tot (wX10_isLesserSet x0 x1 s) (fun (_ : Int32) => True) := by
  unfold wX10_isLesserSet
  refine t_bind (wJ6_bitCount_0f7a4_T) (fun t1 h1 => ?_)
  refine t_bind (wJ6_bitCount_0f7a4_T) (fun t3 h2 => ?_)
  refine t_ite (fun c3 => ?_) (fun c3 => ?_)
  · exact t_mono (wX10_isLesserSet_j23_T) (fun _ _ => trivial)
  · refine t_ite (fun c4 => ?_) (fun c4 => ?_)
    · refine t_ite (fun c5 => ?_) (fun c5 => ?_)
      · exact t_mono (wX10_isLesserSet_j23_T) (fun _ _ => trivial)
      · exact t_some trivial
    · exact t_some trivial
theorem wX10_markLiars_h56_T {k1 : Nat} {x2 : Int32} {x3 : Int32} {x4 : Int32} (hk1 : wkd k1 = 3)  : ∀ (n : Nat) {x5 : Int32} {s : wS}, 2147483648 - x5.toInt < (n : Int) → Tot (wX10_markLiars_h56 k1 x2 x3 x4 n x5 s) (fun (r : wS) => wA bQ s r) := by
  intro n
  induction n with
  | zero =>
    intro x5 s hm
    exact (t_m0 hm).elim
  | succ n ih =>
    intro x5 s hm
    rw [wX10_markLiars_h56]
    refine t_bind (wX0_manyOf_T rfl) (fun t14 h1 => ?_)
    refine t_ite (fun c2 => ?_) (fun c2 => ?_)
    · refine t_ite (fun c3 => ?_) (fun c3 => ?_)
      · refine t_bind (wX10_slot_T) (fun t18 h4 => ?_)
        refine t_bind (wX10_at_T rfl) (fun t20 h5 => ?_)
        refine t_bind (wX10_at_T rfl) (fun t22 h6 => ?_)
        refine t_bind (wX10_slot_T) (fun t24 h7 => ?_)
        refine t_bind (wX10_set_T rfl (B := bQ) (fun _ => rfl)) (fun s27 h8 => ?_)
        unfold wX10_markLiars_j126
        exact t_mono (ih (t_m1 c2 hm)) (fun r h => (h8.1.trans h))
      · unfold wX10_markLiars_j126
        exact t_mono (ih (t_m1 c2 hm)) (fun r h => h)
    · exact t_some wA.refl
theorem wX10_markLiars_h9_T {k1 : Nat} (hk1 : wkd k1 = 3)  : ∀ (n : Nat) {x2 : Int32} {s : wS}, 2147483648 - x2.toInt < (n : Int) → Tot (wX10_markLiars_h9 k1 n x2 s) (fun (r : wS) => wA bQ s r) := by
  intro n
  induction n with
  | zero =>
    intro x2 s hm
    exact (t_m0 hm).elim
  | succ n ih =>
    intro x2 s hm
    rw [wX10_markLiars_h9]
    refine t_ite (fun c1 => ?_) (fun c1 => ?_)
    · refine t_bind (wX2_first_T rfl) (fun t5 h2 => ?_)
      refine t_bind (wX2_isLookedAt_T rfl) (fun t7 h3 => ?_)
      refine t_ite (fun c4 => ?_) (fun c4 => ?_)
      · unfold wX10_markLiars_j132
        exact t_mono (ih (t_m1 c1 hm)) (fun r h => h)
      · refine t_bind (wX10_at_T rfl) (fun t10 h5 => ?_)
        refine t_bind (wX10_nearThings_T hk1) (fun t12 h6 => ?_)
        refine t_bind (wX10_markLiars_h56_T hk1 _   t_mi) (fun s30 h7 => ?_)
        unfold wX10_markLiars_j132
        exact t_mono (ih (t_m1 c1 hm)) (fun r h => (h7.trans h))
    · exact t_some wA.refl
theorem wX10_markLiars_T {k1 : Nat} {s : wS} (hk1 : wkd k1 = 3) : Tot (wX10_markLiars k1 s) (fun (r : wS) => wA bQ s r) := by
  unfold wX10_markLiars
  refine t_bind (wX10_empty_T rfl (B := bQ) (fun _ => rfl)) (fun s2 h1 => ?_)
  refine t_bind (wX10_markLiars_h9_T hk1 _   t_mi) (fun s36 h2 => ?_)
  have a3 := h1.trans h2
  exact t_some a3
theorem wX10_liars_h43_T {x3 : Int32} {x4 : Int32} {s : wS}   : ∀ (n : Nat) {x5 : Int32} {x6 : Int32}, 2147483648 - x6.toInt < (n : Int) → Tot (wX10_liars_h43 x3 x4 s n x5 x6) (fun (_ : Int32) => True) := by
  intro n
  induction n with
  | zero =>
    intro x5 x6 hm
    exact (t_m0 hm).elim
  | succ n ih =>
    intro x5 x6 hm
    rw [wX10_liars_h43]
    refine t_ite (fun c1 => ?_) (fun c1 => ?_)
    · refine t_bind (wX0_thingIn_T rfl) (fun t12 h2 => ?_)
      refine t_bind (wX10_slot_T) (fun t14 h3 => ?_)
      refine t_bind (wX10_at_T rfl) (fun t16 h4 => ?_)
      exact t_mono (ih (t_m1 c1 hm)) (fun _ _ => trivial)
    · exact t_some trivial
theorem wX10_liars_h22_T {s : wS}   : ∀ (n : Nat) {x3 : Int32} {x4 : Int32}, 2147483648 - x4.toInt < (n : Int) → Tot (wX10_liars_h22 s n x3 x4) (fun (_ : Int32) => True) := by
  intro n
  induction n with
  | zero =>
    intro x3 x4 hm
    exact (t_m0 hm).elim
  | succ n ih =>
    intro x3 x4 hm
    rw [wX10_liars_h22]
    refine t_bind (wX0_worlds_T rfl) (fun t8 h1 => ?_)
    refine t_ite (fun c2 => ?_) (fun c2 => ?_)
    · refine t_bind (wX10_liars_h43_T  _   t_mi) (fun t19 h3 => ?_)
      refine t_ite (fun c4 => ?_) (fun c4 => ?_)
      · unfold wX10_liars_j100
        unfold wX10_liars_j103
        exact t_mono (ih (t_m1 c2 hm)) (fun _ _ => trivial)
      · refine t_bind (wX10_isLesserSet_T) (fun t24 h5 => ?_)
        refine t_ite (fun c6 => ?_) (fun c6 => ?_)
        · unfold wX10_liars_j103
          exact t_mono (ih (t_m1 c2 hm)) (fun _ _ => trivial)
        · unfold wX10_liars_j100
          unfold wX10_liars_j103
          exact t_mono (ih (t_m1 c2 hm)) (fun _ _ => trivial)
    · exact t_some trivial
theorem wX10_liars_T {x1 : Int32} {s : wS}  : Tot (wX10_liars x1 s) (fun (r : Int32 × wS) => wA bQ s r.2) := by
  unfold wX10_liars
  refine t_bind (wX10_lawInUse_T) (fun r2 h1 => ?_)
  obtain ⟨o1, s2⟩ := r2
  dsimp only at h1 ⊢
  refine t_elim (fun e3 => ?_) (fun k4 e3 => ?_)
  · exact t_some h1.2
  · have hk4 := (h1.1) k4 e3
    refine t_bind (wX10_markLiars_T hk4) (fun s6 h4 => ?_)
    have a5 := h1.2.trans h4
    refine t_bind (wX10_liars_h22_T  _   t_mi) (fun t28 h6 => ?_)
    exact t_some a5
theorem wX10_trueThings_T {k1 : Nat} {x2 : Int32} {s : wS} (hk1 : wkd k1 = 3) : Tot (wX10_trueThings k1 x2 s) (fun (_ : Int32) => True) := by
  unfold wX10_trueThings
  refine t_bind (wX10_at_T rfl) (fun t1 h1 => ?_)
  refine t_bind (wX10_slot_T) (fun t3 h2 => ?_)
  refine t_bind (wX0_bitsOfAll_T rfl) (fun t5 h3 => ?_)
  refine t_bind (wX10_nearThings_T hk1) (fun t7 h4 => ?_)
  exact t_some trivial
theorem wX10_hasWorld_T {x0 : Int32} {s : wS}  : Tot (wX10_hasWorld x0 s) (fun (_ : Int32) => True) := by
  unfold wX10_hasWorld
  refine t_ite (fun c1 => ?_) (fun c1 => ?_)
  · exact t_some trivial
  · refine t_bind (wX10_slot_T) (fun t2 h2 => ?_)
    refine t_ite (fun c3 => ?_) (fun c3 => ?_)
    · exact t_some trivial
    · refine t_bind (wX10_slot_T) (fun t5 h4 => ?_)
      refine t_ite (fun c5 => ?_) (fun c5 => ?_)
      · exact t_some trivial
      · exact t_some trivial
theorem wX10_quarrel_h25_T {k2 : Nat} {x3 : Int32} {s : wS} (hk2 : wkd k2 = 3)  : ∀ (n : Nat) {x4 : Int32}, 2147483648 - x4.toInt < (n : Int) → Tot (wX10_quarrel_h25 k2 x3 s n x4) (fun (_ : (Unit) ⊕ (Int32)) => True) := by
  intro n
  induction n with
  | zero =>
    intro x4 hm
    exact (t_m0 hm).elim
  | succ n ih =>
    intro x4 hm
    rw [wX10_quarrel_h25]
    refine t_ite (fun c1 => ?_) (fun c1 => ?_)
    · refine t_bind (wX2_first_T rfl) (fun t7 h2 => ?_)
      refine t_bind (wX2_isLookedAt_T rfl) (fun t9 h3 => ?_)
      refine t_ite (fun c4 => ?_) (fun c4 => ?_)
      · unfold wX10_quarrel_j73
        unfold wX10_quarrel_j74
        refine t_ite (fun c5 => ?_) (fun c5 => ?_)
        · unfold wX10_quarrel_j109
          exact t_mono (ih (t_m1 c1 hm)) (fun _ _ => trivial)
        · refine t_bind (wX10_trueThings_T hk2) (fun t13 h6 => ?_)
          refine t_bind (wX10_trueThings_T hk2) (fun t15 h7 => ?_)
          refine t_bind (wX10_hasWorld_T) (fun t17 h8 => ?_)
          refine t_ite (fun c9 => ?_) (fun c9 => ?_)
          · exact t_some trivial
          · unfold wX10_quarrel_j109
            exact t_mono (ih (t_m1 c1 hm)) (fun _ _ => trivial)
      · refine t_bind (wX2_first_T rfl) (fun t20 h10 => ?_)
        refine t_bind (wX2_isLookedAt_T rfl) (fun t22 h11 => ?_)
        refine t_ite (fun c12 => ?_) (fun c12 => ?_)
        · unfold wX10_quarrel_j73
          unfold wX10_quarrel_j74
          refine t_ite (fun c13 => ?_) (fun c13 => ?_)
          · unfold wX10_quarrel_j109
            exact t_mono (ih (t_m1 c1 hm)) (fun _ _ => trivial)
          · refine t_bind (wX10_trueThings_T hk2) (fun t13 h14 => ?_)
            refine t_bind (wX10_trueThings_T hk2) (fun t15 h15 => ?_)
            refine t_bind (wX10_hasWorld_T) (fun t17 h16 => ?_)
            refine t_ite (fun c17 => ?_) (fun c17 => ?_)
            · exact t_some trivial
            · unfold wX10_quarrel_j109
              exact t_mono (ih (t_m1 c1 hm)) (fun _ _ => trivial)
        · unfold wX10_quarrel_j74
          refine t_ite (fun c18 => ?_) (fun c18 => ?_)
          · unfold wX10_quarrel_j109
            exact t_mono (ih (t_m1 c1 hm)) (fun _ _ => trivial)
          · refine t_bind (wX10_trueThings_T hk2) (fun t13 h19 => ?_)
            refine t_bind (wX10_trueThings_T hk2) (fun t15 h20 => ?_)
            refine t_bind (wX10_hasWorld_T) (fun t17 h21 => ?_)
            refine t_ite (fun c22 => ?_) (fun c22 => ?_)
            · exact t_some trivial
            · unfold wX10_quarrel_j109
              exact t_mono (ih (t_m1 c1 hm)) (fun _ _ => trivial)
    · exact t_some trivial
theorem wX10_quarrel_h14_T {k2 : Nat} {s : wS} (hk2 : wkd k2 = 3)  : ∀ (n : Nat) {x3 : Int32}, 2147483648 - x3.toInt < (n : Int) → Tot (wX10_quarrel_h14 k2 s n x3) (fun (_ : (Unit) ⊕ (Int32 × Int32)) => True) := by
  intro n
  induction n with
  | zero =>
    intro x3 hm
    exact (t_m0 hm).elim
  | succ n ih =>
    intro x3 hm
    rw [wX10_quarrel_h14]
    refine t_ite (fun c1 => ?_) (fun c1 => ?_)
    · refine t_bind (wX10_quarrel_h25_T hk2 _   t_mi) (fun z25 h2 => ?_)
      rcases z25 with z25 | z25
      · dsimp only
        exact t_mono (ih (t_m1 c1 hm)) (fun _ _ => trivial)
      · obtain t29 := z25
        dsimp only
        exact t_some trivial
    · exact t_some trivial
theorem wX10_quarrel_T {x1 : Int32} {s : wS}  : Tot (wX10_quarrel x1 s) (fun (r : Int32 × wS) => wA bQ s r.2) := by
  unfold wX10_quarrel
  refine t_bind (wX10_lawInUse_T) (fun r2 h1 => ?_)
  obtain ⟨o1, s2⟩ := r2
  dsimp only at h1 ⊢
  refine t_elim (fun e3 => ?_) (fun k4 e3 => ?_)
  · exact t_some h1.2
  · have hk4 := (h1.1) k4 e3
    refine t_bind (wX10_quarrel_h14_T hk4 _   t_mi) (fun z33 h4 => ?_)
    rcases z33 with z33 | z33
    · dsimp only
      exact t_some h1.2
    · obtain ⟨t39, t40⟩ := z33
      dsimp only
      exact t_some h1.2
theorem wX10_gatherProof_h4_T {k1 : Nat} (hk1 : wkd k1 = 3)  : ∀ (n : Nat) {x2 : Int32} {x3 : Int32} {s : wS}, 2147483648 - x3.toInt < (n : Int) → Tot (wX10_gatherProof_h4 k1 n x2 x3 s) (fun (r : Int32 × wS) => wA bQ s r.2) := by
  intro n
  induction n with
  | zero =>
    intro x2 x3 s hm
    exact (t_m0 hm).elim
  | succ n ih =>
    intro x2 x3 s hm
    rw [wX10_gatherProof_h4]
    refine t_ite (fun c1 => ?_) (fun c1 => ?_)
    · refine t_ite (fun c2 => ?_) (fun c2 => ?_)
      · refine t_bind (wX2_first_T rfl) (fun t3 h3 => ?_)
        refine t_bind (wX2_isLookedAt_T rfl) (fun t5 h4 => ?_)
        refine t_ite (fun c5 => ?_) (fun c5 => ?_)
        · unfold wX10_gatherProof_j51
          exact t_mono (ih (t_m1 c1 hm)) (fun r h => h)
        · refine t_bind (wX10_trueThings_T hk1) (fun t8 h6 => ?_)
          refine t_bind (wX10_set_T rfl (B := bQ) (fun _ => rfl)) (fun s11 h7 => ?_)
          unfold wX10_gatherProof_j51
          exact t_mono (ih (t_m1 c1 hm)) (fun r h => (h7.1.trans h))
      · exact t_some wA.refl
    · exact t_some wA.refl
theorem wX10_gatherProof_T {k1 : Nat} {s : wS} (hk1 : wkd k1 = 3) : Tot (wX10_gatherProof k1 s) (fun (r : Int32 × wS) => wA bQ s r.2) := by
  unfold wX10_gatherProof
  refine t_bind (wX10_gatherProof_h4_T hk1 _   t_mi) (fun r2 h1 => ?_)
  obtain ⟨t14, s15⟩ := r2
  dsimp only at h1 ⊢
  exact t_some h1
theorem wX10_provesMan_h15_T {x1 : Int32} {x2 : Int32} {x3 : Int32} {s : wS}   : ∀ (n : Nat) {x4 : Int32} {x5 : Int32}, 2147483648 - x5.toInt < (n : Int) → Tot (wX10_provesMan_h15 x1 x2 x3 s n x4 x5) (fun (_ : Int32) => True) := by
  intro n
  induction n with
  | zero =>
    intro x4 x5 hm
    exact (t_m0 hm).elim
  | succ n ih =>
    intro x4 x5 hm
    rw [wX10_provesMan_h15]
    refine t_ite (fun c1 => ?_) (fun c1 => ?_)
    · refine t_ite (fun c2 => ?_) (fun c2 => ?_)
      · refine t_bind (wX10_at_T rfl) (fun t5 h3 => ?_)
        unfold wX10_provesMan_j45
        exact t_mono (ih (t_m1 c1 hm)) (fun _ _ => trivial)
      · unfold wX10_provesMan_j45
        exact t_mono (ih (t_m1 c1 hm)) (fun _ _ => trivial)
    · exact t_some trivial
theorem wX10_provesMan_T {x1 : Int32} {x2 : Int32} {x3 : Int32} {s : wS}  : Tot (wX10_provesMan x1 x2 x3 s) (fun (_ : Int32) => True) := by
  unfold wX10_provesMan
  refine t_bind (wX0_bitsOfAll_T rfl) (fun t1 h1 => ?_)
  refine t_bind (wX10_provesMan_h15_T  _   t_mi) (fun t8 h2 => ?_)
  refine t_bind (wX10_hasWorld_T) (fun t12 h3 => ?_)
  refine t_ite (fun c4 => ?_) (fun c4 => ?_)
  · exact t_some trivial
  · refine t_bind (wX10_slot_T) (fun t15 h5 => ?_)
    refine t_ite (fun c6 => ?_) (fun c6 => ?_)
    · exact t_some trivial
    · exact t_some trivial
theorem wX10_proof_h41_T {x2 : Int32} {x4 : Int32} {s : wS}   : ∀ (n : Nat) {x5 : Int32} {x6 : Int32}, 2147483648 - x6.toInt < (n : Int) → Tot (wX10_proof_h41 x2 x4 s n x5 x6) (fun (_ : Int32) => True) := by
  intro n
  induction n with
  | zero =>
    intro x5 x6 hm
    exact (t_m0 hm).elim
  | succ n ih =>
    intro x5 x6 hm
    rw [wX10_proof_h41]
    refine t_ite (fun c1 => ?_) (fun c1 => ?_)
    · refine t_ite (fun c2 => ?_) (fun c2 => ?_)
      · unfold wX10_proof_j70
        unfold wX10_proof_j75
        refine t_ite (fun c3 => ?_) (fun c3 => ?_)
        · unfold wX10_proof_j98
          exact t_mono (ih (t_m1 c1 hm)) (fun _ _ => trivial)
        · refine t_bind (wX10_provesMan_T) (fun t14 h4 => ?_)
          refine t_ite (fun c5 => ?_) (fun c5 => ?_)
          · unfold wX10_proof_j98
            exact t_mono (ih (t_m1 c1 hm)) (fun _ _ => trivial)
          · unfold wX10_proof_j98
            exact t_mono (ih (t_m1 c1 hm)) (fun _ _ => trivial)
      · refine t_bind (wJ6_bitCount_0f7a4_T) (fun t17 h6 => ?_)
        refine t_bind (wJ6_bitCount_0f7a4_T) (fun t19 h7 => ?_)
        refine t_ite (fun c8 => ?_) (fun c8 => ?_)
        · unfold wX10_proof_j70
          unfold wX10_proof_j75
          refine t_ite (fun c9 => ?_) (fun c9 => ?_)
          · unfold wX10_proof_j98
            exact t_mono (ih (t_m1 c1 hm)) (fun _ _ => trivial)
          · refine t_bind (wX10_provesMan_T) (fun t14 h10 => ?_)
            refine t_ite (fun c11 => ?_) (fun c11 => ?_)
            · unfold wX10_proof_j98
              exact t_mono (ih (t_m1 c1 hm)) (fun _ _ => trivial)
            · unfold wX10_proof_j98
              exact t_mono (ih (t_m1 c1 hm)) (fun _ _ => trivial)
        · unfold wX10_proof_j75
          refine t_ite (fun c12 => ?_) (fun c12 => ?_)
          · unfold wX10_proof_j98
            exact t_mono (ih (t_m1 c1 hm)) (fun _ _ => trivial)
          · refine t_bind (wX10_provesMan_T) (fun t14 h13 => ?_)
            refine t_ite (fun c14 => ?_) (fun c14 => ?_)
            · unfold wX10_proof_j98
              exact t_mono (ih (t_m1 c1 hm)) (fun _ _ => trivial)
            · unfold wX10_proof_j98
              exact t_mono (ih (t_m1 c1 hm)) (fun _ _ => trivial)
    · exact t_some trivial
theorem wX10_proof_T {x1 : Int32} {x2 : Int32} {s : wS}  : Tot (wX10_proof x1 x2 s) (fun (r : Int32 × wS) => wA bQ s r.2) := by
  unfold wX10_proof
  refine t_bind (wX10_lawInUse_T) (fun r2 h1 => ?_)
  obtain ⟨o1, s2⟩ := r2
  dsimp only at h1 ⊢
  refine t_elim (fun e3 => ?_) (fun k4 e3 => ?_)
  · exact t_some h1.2
  · have hk4 := (h1.1) k4 e3
    refine t_bind (wX0_has_T rfl) (fun t5 h4 => ?_)
    refine t_ite (fun c5 => ?_) (fun c5 => ?_)
    · exact t_some h1.2
    · refine t_bind (wX10_gatherProof_T hk4) (fun r7 h6 => ?_)
      obtain ⟨t8, s9⟩ := r7
      dsimp only at h6 ⊢
      have a8 := h1.2.trans h6
      refine t_bind (wX10_proof_h41_T  _   t_mi) (fun t23 h9 => ?_)
      exact t_some a8
theorem wX10_countKeptBy_h60_T {x1 : Int32} {x2 : Int32} {x3 : Int32}   : ∀ (n : Nat) {x5 : Int32} {s : wS}, 2147483648 - x5.toInt < (n : Int) → Tot (wX10_countKeptBy_h60 x1 x2 x3 n x5 s) (fun (r : wS) => wA bQ s r) := by
  intro n
  induction n with
  | zero =>
    intro x5 s hm
    exact (t_m0 hm).elim
  | succ n ih =>
    intro x5 s hm
    rw [wX10_countKeptBy_h60]
    refine t_bind (wX0_worlds_T rfl) (fun t15 h1 => ?_)
    refine t_ite (fun c2 => ?_) (fun c2 => ?_)
    · refine t_bind (wX10_at_T rfl) (fun t18 h3 => ?_)
      refine t_bind (wX10_at_T rfl) (fun t20 h4 => ?_)
      refine t_ite (fun c5 => ?_) (fun c5 => ?_)
      · unfold wX10_countKeptBy_j108
        refine t_bind (wX10_set_T rfl (B := bQ) (fun _ => rfl)) (fun s24 h6 => ?_)
        exact t_mono (ih (t_m1 c2 hm)) (fun r h => (h6.1.trans h))
      · unfold wX10_countKeptBy_j108
        refine t_bind (wX10_set_T rfl (B := bQ) (fun _ => rfl)) (fun s24 h7 => ?_)
        exact t_mono (ih (t_m1 c2 hm)) (fun r h => (h7.1.trans h))
    · exact t_some wA.refl
theorem wX10_countKeptBy_h9_T {x1 : Int32} {x2 : Int32}   : ∀ (n : Nat) {x3 : Int32} {s : wS}, 2147483648 - x3.toInt < (n : Int) → Tot (wX10_countKeptBy_h9 x1 x2 n x3 s) (fun (r : wS) => wA bQ s r) := by
  intro n
  induction n with
  | zero =>
    intro x3 s hm
    exact (t_m0 hm).elim
  | succ n ih =>
    intro x3 s hm
    rw [wX10_countKeptBy_h9]
    refine t_ite (fun c1 => ?_) (fun c1 => ?_)
    · refine t_ite (fun c2 => ?_) (fun c2 => ?_)
      · refine t_bind (wX10_lawInUse_T) (fun r4 h3 => ?_)
        obtain ⟨o6, s7⟩ := r4
        dsimp only at h3 ⊢
        unfold wX10_countKeptBy_j35
        refine t_elim (fun e5 => ?_) (fun k9 e5 => ?_)
        · unfold wX10_countKeptBy_j118
          exact t_mono (ih (t_m1 c1 hm)) (fun r h => (h3.2.trans h))
        · have hk9 := (h3.1) k9 e5
          refine t_bind (wX2_first_T rfl) (fun t10 h6 => ?_)
          refine t_bind (wX10_countFalse_T hk9) (fun s13 h7 => ?_)
          have a8 := h3.2.trans h7
          refine t_bind (wX10_countKeptBy_h60_T  _   t_mi) (fun s27 h9 => ?_)
          have a10 := a8.trans h9
          unfold wX10_countKeptBy_j118
          exact t_mono (ih (t_m1 c1 hm)) (fun r h => (a10.trans h))
      · unfold wX10_countKeptBy_j35
        refine t_elim (fun e11 => ?_) (fun k9 e11 => ?_)
        · unfold wX10_countKeptBy_j118
          exact t_mono (ih (t_m1 c1 hm)) (fun r h => h)
        · exact absurd e11 (by simp)
    · exact t_some wA.refl
theorem wX10_countKeptBy_T {x1 : Int32} {x2 : Int32} {s : wS}  : Tot (wX10_countKeptBy x1 x2 s) (fun (r : wS) => wA bQ s r) := by
  unfold wX10_countKeptBy
  refine t_bind (wX10_empty_T rfl (B := bQ) (fun _ => rfl)) (fun s2 h1 => ?_)
  refine t_bind (wX10_countKeptBy_h9_T  _   t_mi) (fun s31 h2 => ?_)
  have a3 := h1.trans h2
  exact t_some a3
theorem wX10_byLaws_h85_T {x5 : Int32} {s : wS}   : ∀ (n : Nat) {x6 : Int32} {x7 : Int32}, 2147483648 - x7.toInt < (n : Int) → Tot (wX10_byLaws_h85 x5 s n x6 x7) (fun (_ : Int32) => True) := by
  intro n
  induction n with
  | zero =>
    intro x6 x7 hm
    exact (t_m0 hm).elim
  | succ n ih =>
    intro x6 x7 hm
    rw [wX10_byLaws_h85]
    refine t_bind (wX0_worlds_T rfl) (fun t18 h1 => ?_)
    refine t_ite (fun c2 => ?_) (fun c2 => ?_)
    · refine t_bind (wX10_at_T rfl) (fun t21 h3 => ?_)
      refine t_ite (fun c4 => ?_) (fun c4 => ?_)
      · unfold wX10_byLaws_j117
        exact t_mono (ih (t_m1 c2 hm)) (fun _ _ => trivial)
      · unfold wX10_byLaws_j117
        exact t_mono (ih (t_m1 c2 hm)) (fun _ _ => trivial)
    · exact t_some trivial
theorem wX10_byLaws_j77_T {y0 : Int32} {s : wS}  : Tot (wX10_byLaws_j77 y0 s) (fun (r : Int32 × wS) => wA bQ s r.2) := by
  unfold wX10_byLaws_j77
  refine t_bind (wX10_byLaws_h85_T  _   t_mi) (fun t25 h1 => ?_)
  exact t_some wA.refl
theorem wX10_byLaws_j20_T {x1 : Int32} {x2 : Int32} {x3 : Int32} {y0 : Int32} {s : wS}  : Tot (wX10_byLaws_j20 x1 x2 x3 y0 s) (fun (r : Int32 × wS) => wA bQ s r.2) := by
  unfold wX10_byLaws_j20
  refine t_ite (fun c1 => ?_) (fun c1 => ?_)
  · exact t_some wA.refl
  · refine t_bind (wX0_isTold_T rfl) (fun t3 h2 => ?_)
    refine t_ite (fun c3 => ?_) (fun c3 => ?_)
    · exact t_some wA.refl
    · refine t_bind (wX10_isOutside_T) (fun t6 h4 => ?_)
      refine t_ite (fun c5 => ?_) (fun c5 => ?_)
      · refine t_bind (wX10_isOutside_T) (fun t9 h6 => ?_)
        refine t_ite (fun c7 => ?_) (fun c7 => ?_)
        · refine t_bind (wX10_countKeptBy_T) (fun s13 h8 => ?_)
          refine t_ite (fun c9 => ?_) (fun c9 => ?_)
          · refine t_bind (wJ6_bitCount_0f7a4_T) (fun t16 h10 => ?_)
            exact t_mono (wX10_byLaws_j77_T) (fun r h => (h8.trans h))
          · exact t_mono (wX10_byLaws_j77_T) (fun r h => (h8.trans h))
        · exact t_some wA.refl
      · exact t_some wA.refl
theorem wX10_byLaws_j19_T {x1 : Int32} {x2 : Int32} {x3 : Int32} {s : wS}  : Tot (wX10_byLaws_j19 x1 x2 x3 s) (fun (r : Int32 × wS) => wA bQ s r.2) := by
  unfold wX10_byLaws_j19
  exact t_mono (wX10_byLaws_j20_T) (fun r h => h)
theorem wX10_byLaws_T {x1 : Int32} {x2 : Int32} {x3 : Int32} {s : wS}  : Tot (wX10_byLaws x1 x2 x3 s) (fun (r : Int32 × wS) => wA bQ s r.2) := by
  unfold wX10_byLaws
  refine t_ite (fun c1 => ?_) (fun c1 => ?_)
  · exact t_mono (wX10_byLaws_j19_T) (fun r h => h)
  · refine t_ite (fun c2 => ?_) (fun c2 => ?_)
    · exact t_mono (wX10_byLaws_j20_T) (fun r h => h)
    · exact t_mono (wX10_byLaws_j19_T) (fun r h => h)
theorem wX10_looks_T {x1 : Int32} {x2 : Int32} {x3 : Int32} {s : wS}  : Tot (wX10_looks x1 x2 x3 s) (fun (r : Int32 × wS) => wA bQ s r.2) := by
  unfold wX10_looks
  refine t_bind (wX10_lawWithKept_T) (fun r2 h1 => ?_)
  obtain ⟨o1, s2⟩ := r2
  dsimp only at h1 ⊢
  refine t_elim (fun e3 => ?_) (fun k4 e3 => ?_)
  · exact t_some h1.2
  · have hk4 := (h1.1) k4 e3
    refine t_bind (wX2_hasAnswer_T rfl) (fun t5 h4 => ?_)
    refine t_ite (fun c5 => ?_) (fun c5 => ?_)
    · exact t_some h1.2
    · refine t_bind (wX10_at_T rfl) (fun t8 h6 => ?_)
      refine t_bind (wX10_nearThings_T hk4) (fun t10 h7 => ?_)
      refine t_bind (wX7_withAny_T rfl) (fun t12 h8 => ?_)
      exact t_some h1.2
theorem wJ6_numberOfTrailingZeros_0f7a4_j74_T {x0 : Int32} {x1 : Int32} {s : wS}  : Tot (wJ6_numberOfTrailingZeros_0f7a4_j74 x0 x1 s) (fun (_ : Int32) => True) := by
  unfold wJ6_numberOfTrailingZeros_0f7a4_j74
  exact t_some trivial
theorem wJ6_numberOfTrailingZeros_0f7a4_j62_T {x0 : Int32} {x1 : Int32} {s : wS}  : Tot (wJ6_numberOfTrailingZeros_0f7a4_j62 x0 x1 s) (fun (_ : Int32) => True) := by
  unfold wJ6_numberOfTrailingZeros_0f7a4_j62
  refine t_ite (fun c1 => ?_) (fun c1 => ?_)
  · exact t_mono (wJ6_numberOfTrailingZeros_0f7a4_j74_T) (fun _ _ => trivial)
  · exact t_mono (wJ6_numberOfTrailingZeros_0f7a4_j74_T) (fun _ _ => trivial)
theorem wJ6_numberOfTrailingZeros_0f7a4_j49_T {x0 : Int32} {x1 : Int32} {s : wS}  : Tot (wJ6_numberOfTrailingZeros_0f7a4_j49 x0 x1 s) (fun (_ : Int32) => True) := by
  unfold wJ6_numberOfTrailingZeros_0f7a4_j49
  refine t_ite (fun c1 => ?_) (fun c1 => ?_)
  · exact t_mono (wJ6_numberOfTrailingZeros_0f7a4_j62_T) (fun _ _ => trivial)
  · exact t_mono (wJ6_numberOfTrailingZeros_0f7a4_j62_T) (fun _ _ => trivial)
theorem wJ6_numberOfTrailingZeros_0f7a4_j34_T {x0 : Int32} {x1 : Int32} {s : wS}  : Tot (wJ6_numberOfTrailingZeros_0f7a4_j34 x0 x1 s) (fun (_ : Int32) => True) := by
  unfold wJ6_numberOfTrailingZeros_0f7a4_j34
  refine t_ite (fun c1 => ?_) (fun c1 => ?_)
  · exact t_mono (wJ6_numberOfTrailingZeros_0f7a4_j49_T) (fun _ _ => trivial)
  · exact t_mono (wJ6_numberOfTrailingZeros_0f7a4_j49_T) (fun _ _ => trivial)
theorem wJ6_numberOfTrailingZeros_0f7a4_T {x0 : Int32} {s : wS}  : Tot (wJ6_numberOfTrailingZeros_0f7a4 x0 s) (fun (_ : Int32) => True) := by
  unfold wJ6_numberOfTrailingZeros_0f7a4
  refine t_ite (fun c1 => ?_) (fun c1 => ?_)
  · refine t_ite (fun c2 => ?_) (fun c2 => ?_)
    · exact t_mono (wJ6_numberOfTrailingZeros_0f7a4_j34_T) (fun _ _ => trivial)
    · exact t_mono (wJ6_numberOfTrailingZeros_0f7a4_j34_T) (fun _ _ => trivial)
  · exact t_some trivial
theorem wX10_sure_T {x1 : Int32} {x2 : Int32} {x3 : Int32} {s : wS}  : Tot (wX10_sure x1 x2 x3 s) (fun (r : Int32 × wS) => wA bQ s r.2) := by
  unfold wX10_sure
  refine t_bind (wX10_lawWithKept_T) (fun r2 h1 => ?_)
  obtain ⟨o1, s2⟩ := r2
  dsimp only at h1 ⊢
  refine t_elim (fun e3 => ?_) (fun k4 e3 => ?_)
  · exact t_some h1.2
  · have hk4 := (h1.1) k4 e3
    refine t_bind (wX10_isOutside_T) (fun t5 h4 => ?_)
    refine t_ite (fun c5 => ?_) (fun c5 => ?_)
    · refine t_bind (wX7_thingsOf_T rfl) (fun t8 h6 => ?_)
      refine t_bind (wJ6_bitCount_0f7a4_T) (fun t10 h7 => ?_)
      refine t_ite (fun c8 => ?_) (fun c8 => ?_)
      · refine t_bind (wJ6_numberOfTrailingZeros_0f7a4_T) (fun t13 h9 => ?_)
        exact t_some h1.2
      · exact t_some h1.2
    · exact t_some h1.2
theorem wX10_alone_T {x1 : Int32} {x2 : Int32} {s : wS}  : Tot (wX10_alone x1 x2 s) (fun (r : Int32 × wS) => wA bQ s r.2) := by
  unfold wX10_alone
  refine t_bind (wX10_lawInUse_T) (fun r2 h1 => ?_)
  obtain ⟨o1, s2⟩ := r2
  dsimp only at h1 ⊢
  refine t_elim (fun e3 => ?_) (fun k4 e3 => ?_)
  · exact t_some h1.2
  · have hk4 := (h1.1) k4 e3
    refine t_bind (wX10_isOutside_T) (fun t5 h4 => ?_)
    refine t_ite (fun c5 => ?_) (fun c5 => ?_)
    · refine t_bind (wX2_first_T rfl) (fun t8 h6 => ?_)
      refine t_bind (wX10_countFalse_T hk4) (fun s11 h7 => ?_)
      have a8 := h1.2.trans h7
      refine t_bind (wX10_worldsWithAtMost_T) (fun t13 h9 => ?_)
      exact t_some a8
    · exact t_some h1.2
theorem wX10_mean_h42_T {x3 : Int32} {s : wS}   : ∀ (n : Nat) {x5 : Int32} {x6 : Int32}, 2147483648 - x6.toInt < (n : Int) → Tot (wX10_mean_h42 x3 s n x5 x6) (fun (_ : Int32) => True) := by
  intro n
  induction n with
  | zero =>
    intro x5 x6 hm
    exact (t_m0 hm).elim
  | succ n ih =>
    intro x5 x6 hm
    rw [wX10_mean_h42]
    refine t_bind (wX0_manyOf_T rfl) (fun t9 h1 => ?_)
    refine t_ite (fun c2 => ?_) (fun c2 => ?_)
    · refine t_ite (fun c3 => ?_) (fun c3 => ?_)
      · refine t_bind (wX0_firstOf_T rfl) (fun t13 h4 => ?_)
        unfold wX10_mean_j91
        refine t_bind (wX7_with_T rfl) (fun t15 h5 => ?_)
        exact t_mono (ih (t_m1 c2 hm)) (fun _ _ => trivial)
      · refine t_bind (wX0_secondOf_T rfl) (fun t17 h6 => ?_)
        unfold wX10_mean_j91
        refine t_bind (wX7_with_T rfl) (fun t15 h7 => ?_)
        exact t_mono (ih (t_m1 c2 hm)) (fun _ _ => trivial)
    · exact t_some trivial
theorem wX10_mean_T {x1 : Int32} {x2 : Int32} {x3 : Int32} {s : wS}  : Tot (wX10_mean x1 x2 x3 s) (fun (r : Int32 × wS) => wA bQ s r.2) := by
  unfold wX10_mean
  refine t_bind (wX10_lawWithKept_T) (fun r2 h1 => ?_)
  obtain ⟨o1, s2⟩ := r2
  dsimp only at h1 ⊢
  refine t_elim (fun e3 => ?_) (fun k4 e3 => ?_)
  · exact t_some h1.2
  · have hk4 := (h1.1) k4 e3
    refine t_bind (wX10_isOutside_T) (fun t5 h4 => ?_)
    refine t_ite (fun c5 => ?_) (fun c5 => ?_)
    · refine t_ite (fun c6 => ?_) (fun c6 => ?_)
      · refine t_bind (wX10_mean_h42_T  _   t_mi) (fun t20 h7 => ?_)
        refine t_bind (t_dvI (by (try simp only [Int32.lt_iff_toInt_lt, Int32.le_iff_toInt_le, ← Int32.toInt_inj, Int32.reduceToInt] at *) <;> omega)) (fun t27 h8 => ?_)
        exact t_some h1.2
      · exact t_some h1.2
    · exact t_some h1.2
theorem wX10_filled_h113_T {k4 : Nat} {x5 : Int32} {x6 : Int32} {x7 : Int32} {x9 : Int32} {s : wS} (hk4 : wkd k4 = 3)  : ∀ (n : Nat) {x8 : Int32} {x10 : Int32}, 2147483648 - x10.toInt < (n : Int) → Tot (wX10_filled_h113 k4 x5 x6 x7 x9 s n x8 x10) (fun (_ : Int32) => True) := by
  intro n
  induction n with
  | zero =>
    intro x8 x10 hm
    exact (t_m0 hm).elim
  | succ n ih =>
    intro x8 x10 hm
    rw [wX10_filled_h113]
    refine t_ite (fun c1 => ?_) (fun c1 => ?_)
    · refine t_ite (fun c2 => ?_) (fun c2 => ?_)
      · unfold wX10_filled_j147
        exact t_mono (ih (t_m1 c1 hm)) (fun _ _ => trivial)
      · refine t_bind (wX3_nearOf_T hk4) (fun t28 h3 => ?_)
        refine t_ite (fun c4 => ?_) (fun c4 => ?_)
        · unfold wX10_filled_j147
          exact t_mono (ih (t_m1 c1 hm)) (fun _ _ => trivial)
        · unfold wX10_filled_j147
          exact t_mono (ih (t_m1 c1 hm)) (fun _ _ => trivial)
    · exact t_some trivial
theorem wX10_filled_h103_T {k4 : Nat} {x5 : Int32} {x6 : Int32} {x7 : Int32} {s : wS} (hk4 : wkd k4 = 3)  : ∀ (n : Nat) {x8 : Int32} {x9 : Int32}, 2147483648 - x9.toInt < (n : Int) → Tot (wX10_filled_h103 k4 x5 x6 x7 s n x8 x9) (fun (_ : Int32) => True) := by
  intro n
  induction n with
  | zero =>
    intro x8 x9 hm
    exact (t_m0 hm).elim
  | succ n ih =>
    intro x8 x9 hm
    rw [wX10_filled_h103]
    refine t_ite (fun c1 => ?_) (fun c1 => ?_)
    · refine t_bind (wX10_filled_h113_T hk4 _   t_mi) (fun t32 h2 => ?_)
      exact t_mono (ih (t_m1 c1 hm)) (fun _ _ => trivial)
    · exact t_some trivial
theorem wX10_filled_T {x1 : Int32} {x2 : Int32} {x3 : Int32} {s : wS}  : Tot (wX10_filled x1 x2 x3 s) (fun (r : Int32 × wS) => wA bQ s r.2) := by
  unfold wX10_filled
  refine t_bind (wX10_lawInUse_T) (fun r2 h1 => ?_)
  obtain ⟨o1, s2⟩ := r2
  dsimp only at h1 ⊢
  refine t_elim (fun e3 => ?_) (fun k4 e3 => ?_)
  · exact t_some h1.2
  · have hk4 := (h1.1) k4 e3
    refine t_bind (wX10_isOutside_T) (fun t5 h4 => ?_)
    refine t_ite (fun c5 => ?_) (fun c5 => ?_)
    · refine t_bind (wX2_hasAnswer_T rfl) (fun t8 h6 => ?_)
      refine t_ite (fun c7 => ?_) (fun c7 => ?_)
      · exact t_some h1.2
      · refine t_bind (wX2_first_T rfl) (fun t11 h8 => ?_)
        refine t_bind (wX10_countFalse_T hk4) (fun s14 h9 => ?_)
        have a10 := h1.2.trans h9
        refine t_bind (wX10_fillKept_T rfl) (fun s17 h11 => ?_)
        have a12 := a10.trans h11
        refine t_bind (wX10_at_T rfl) (fun t19 h13 => ?_)
        refine t_bind (wX7_thingsOf_T rfl) (fun t21 h14 => ?_)
        refine t_bind (wX0_manyOf_T rfl) (fun t23 h15 => ?_)
        refine t_bind (wX10_filled_h103_T hk4 _   t_mi) (fun t38 h16 => ?_)
        exact t_some a12
    · exact t_some h1.2
theorem wX10_lowerBound_h2_T {x0 : Int32} {s : wS}   : ∀ (n : Nat) {x1 : Int32}, 2147483648 - x1.toInt < (n : Int) → Tot (wX10_lowerBound_h2 x0 s n x1) (fun (_ : Int32) => True) := by
  intro n
  induction n with
  | zero =>
    intro x1 hm
    exact (t_m0 hm).elim
  | succ n ih =>
    intro x1 hm
    rw [wX10_lowerBound_h2]
    refine t_ite (fun c1 => ?_) (fun c1 => ?_)
    · refine t_ite (fun c2 => ?_) (fun c2 => ?_)
      · exact t_mono (ih (t_m1 c1 hm)) (fun _ _ => trivial)
      · exact t_some trivial
    · exact t_some trivial
theorem wX10_lowerBound_T {x0 : Int32} {s : wS}  : Tot (wX10_lowerBound x0 s) (fun (_ : Int32) => True) := by
  unfold wX10_lowerBound
  refine t_bind (wX10_lowerBound_h2_T  _   t_mi) (fun t4 h1 => ?_)
  exact t_some trivial
theorem wX10_usefulPairs_h4_T {k1 : Nat} {s : wS} (hk1 : wkd k1 = 3)  : ∀ (n : Nat) {x2 : Int32} {x3 : Int32}, 2147483648 - x3.toInt < (n : Int) → Tot (wX10_usefulPairs_h4 k1 s n x2 x3) (fun (_ : Int32) => True) := by
  intro n
  induction n with
  | zero =>
    intro x2 x3 hm
    exact (t_m0 hm).elim
  | succ n ih =>
    intro x2 x3 hm
    rw [wX10_usefulPairs_h4]
    refine t_ite (fun c1 => ?_) (fun c1 => ?_)
    · refine t_bind (wX5_leftForFirst_T hk1 rfl) (fun t2 h2 => ?_)
      refine t_ite (fun c3 => ?_) (fun c3 => ?_)
      · refine t_bind (wX5_leftForSecond_T hk1 rfl) (fun t5 h4 => ?_)
        refine t_ite (fun c5 => ?_) (fun c5 => ?_)
        · unfold wX10_usefulPairs_j64
          exact t_mono (ih (t_m1 c1 hm)) (fun _ _ => trivial)
        · unfold wX10_usefulPairs_j64
          exact t_mono (ih (t_m1 c1 hm)) (fun _ _ => trivial)
      · unfold wX10_usefulPairs_j64
        exact t_mono (ih (t_m1 c1 hm)) (fun _ _ => trivial)
    · exact t_some trivial
theorem wX10_usefulPairs_T {k1 : Nat} {s : wS} (hk1 : wkd k1 = 3) : Tot (wX10_usefulPairs k1 s) (fun (_ : Int32) => True) := by
  unfold wX10_usefulPairs
  refine t_bind (wX10_usefulPairs_h4_T hk1 _   t_mi) (fun t9 h1 => ?_)
  exact t_some trivial
theorem wX10_useful_T {x1 : Int32} {x2 : Int32} {x3 : Int32} {s : wS}  : Tot (wX10_useful x1 x2 x3 s) (fun (r : Int32 × wS) => wA bQ s r.2) := by
  unfold wX10_useful
  refine t_bind (wX10_lawWithKept_T) (fun r2 h1 => ?_)
  obtain ⟨o1, s2⟩ := r2
  dsimp only at h1 ⊢
  refine t_elim (fun e3 => ?_) (fun k4 e3 => ?_)
  · exact t_some h1.2
  · have hk4 := (h1.1) k4 e3
    refine t_bind (wX10_isOutside_T) (fun t5 h4 => ?_)
    refine t_ite (fun c5 => ?_) (fun c5 => ?_)
    · refine t_ite (fun c6 => ?_) (fun c6 => ?_)
      · refine t_bind (wX10_usefulPairs_T hk4) (fun t9 h7 => ?_)
        exact t_some h1.2
      · refine t_bind (wX10_lowerBound_T) (fun t11 h8 => ?_)
        exact t_some h1.2
    · exact t_some h1.2
theorem wX10_next_T {x1 : Int32} {x2 : Int32} {x3 : Int32} {x4 : Int32} {s : wS}  : Tot (wX10_next x1 x2 x3 x4 s) (fun (r : Int32 × wS) => wA bQ s r.2) := by
  unfold wX10_next
  refine t_bind (wX10_isOutside_T) (fun t1 h1 => ?_)
  refine t_ite (fun c2 => ?_) (fun c2 => ?_)
  · refine t_bind (wX10_isOutside_T) (fun t4 h3 => ?_)
    refine t_ite (fun c4 => ?_) (fun c4 => ?_)
    · refine t_bind (wX10_lawWithKept_T) (fun r6 h5 => ?_)
      obtain ⟨o7, s8⟩ := r6
      dsimp only at h5 ⊢
      refine t_elim (fun e7 => ?_) (fun k10 e7 => ?_)
      · exact t_some h5.2
      · have hk10 := (h5.1) k10 e7
        refine t_bind (wX5_best_T hk10 rfl) (fun t11 h8 => ?_)
        refine t_ite (fun c9 => ?_) (fun c9 => ?_)
        · exact t_some h5.2
        · refine t_bind (wX5_leftForFirst_T hk10 rfl) (fun t14 h10 => ?_)
          refine t_bind (wX5_leftForSecond_T hk10 rfl) (fun t16 h11 => ?_)
          refine t_bind (wX5_told_T) (fun t18 h12 => ?_)
          exact t_some h5.2
    · exact t_some wA.refl
  · exact t_some wA.refl
theorem wX10_needed_h57_T {x2 : Int32} {k3 : Nat} (hk3 : wkd k3 = 3)  : ∀ (n : Nat) {x4 : Int32} {s : wS}, 2147483648 - x4.toInt < (n : Int) → Tot (wX10_needed_h57 x2 k3 n x4 s) (fun (r : wS) => wA bQ s r) := by
  intro n
  induction n with
  | zero =>
    intro x4 s hm
    exact (t_m0 hm).elim
  | succ n ih =>
    intro x4 s hm
    rw [wX10_needed_h57]
    refine t_bind (wX0_worlds_T rfl) (fun t10 h1 => ?_)
    refine t_ite (fun c2 => ?_) (fun c2 => ?_)
    · refine t_bind (wX10_at_T rfl) (fun t13 h3 => ?_)
      refine t_ite (fun c4 => ?_) (fun c4 => ?_)
      · unfold wX10_needed_j106
        exact t_mono (ih (t_m1 c2 hm)) (fun r h => h)
      · refine t_bind (wX6_add_T hk3 rfl) (fun s17 h5 => ?_)
        unfold wX10_needed_j106
        exact t_mono (ih (t_m1 c2 hm)) (fun r h => (h5.trans h))
    · exact t_some wA.refl
theorem wX10_needed_T {x1 : Int32} {x2 : Int32} {s : wS}  : Tot (wX10_needed x1 x2 s) (fun (r : Int32 × wS) => wA bQ s r.2) := by
  unfold wX10_needed
  refine t_bind (wX10_lawWithKept_T) (fun r2 h1 => ?_)
  obtain ⟨o1, s2⟩ := r2
  dsimp only at h1 ⊢
  refine t_elim (fun e3 => ?_) (fun k4 e3 => ?_)
  · exact t_some h1.2
  · have hk4 := (h1.1) k4 e3
    refine t_ite (fun c4 => ?_) (fun c4 => ?_)
    · exact t_some h1.2
    · refine t_ite (fun c5 => ?_) (fun c5 => ?_)
      · exact t_some h1.2
      · refine t_bind (wX6_clear_T) (fun s8 h6 => ?_)
        have a7 := h1.2.trans h6
        refine t_bind (wX10_needed_h57_T hk4 _   t_mi) (fun s20 h8 => ?_)
        have a9 := a7.trans h8
        refine t_bind (wX6_pairsForAll_T) (fun r11 h10 => ?_)
        obtain ⟨t25, s26⟩ := r11
        dsimp only at h10 ⊢
        have a12 := a9.trans h10
        refine t_ite (fun c13 => ?_) (fun c13 => ?_)
        · exact t_some a12
        · exact t_some a12
theorem wX10_steered_h80_T {x3 : Int32} {x5 : Int32} {k6 : Nat} {s : wS} (hk6 : wkd k6 = 3)  : ∀ (n : Nat) {x7 : Int32} {x8 : Int32} {x9 : Int32} {x10 : Int32}, 2147483648 - x10.toInt < (n : Int) → Tot (wX10_steered_h80 x3 x5 k6 s n x7 x8 x9 x10) (fun (_ : Int32 × Int32 × Int32) => True) := by
  intro n
  induction n with
  | zero =>
    intro x7 x8 x9 x10 hm
    exact (t_m0 hm).elim
  | succ n ih =>
    intro x7 x8 x9 x10 hm
    rw [wX10_steered_h80]
    refine t_ite (fun c1 => ?_) (fun c1 => ?_)
    · refine t_bind (wX5_leftAsIn_T hk6 rfl rfl) (fun t20 h2 => ?_)
      refine t_bind (wX5_leftAsIn_T hk6 rfl rfl) (fun t22 h3 => ?_)
      refine t_ite (fun c4 => ?_) (fun c4 => ?_)
      · refine t_ite (fun c5 => ?_) (fun c5 => ?_)
        · unfold wX10_steered_j166
          unfold wX10_steered_j178
          exact t_mono (ih (t_m1 c1 hm)) (fun _ _ => trivial)
        · refine t_ite (fun c6 => ?_) (fun c6 => ?_)
          · unfold wX10_steered_j166
            unfold wX10_steered_j178
            exact t_mono (ih (t_m1 c1 hm)) (fun _ _ => trivial)
          · unfold wX10_steered_j178
            exact t_mono (ih (t_m1 c1 hm)) (fun _ _ => trivial)
      · unfold wX10_steered_j178
        exact t_mono (ih (t_m1 c1 hm)) (fun _ _ => trivial)
    · exact t_some trivial
theorem wX10_steered_T {x1 : Int32} {x2 : Int32} {x3 : Int32} {x4 : Int32} {x5 : Int32} {s : wS}  : Tot (wX10_steered x1 x2 x3 x4 x5 s) (fun (r : Int32 × wS) => wA bQ s r.2) := by
  unfold wX10_steered
  refine t_bind (wX10_lawWithKept_T) (fun r2 h1 => ?_)
  obtain ⟨o1, s2⟩ := r2
  dsimp only at h1 ⊢
  refine t_elim (fun e3 => ?_) (fun k4 e3 => ?_)
  · exact t_some h1.2
  · have hk4 := (h1.1) k4 e3
    refine t_bind (wX0_worlds_T rfl) (fun t5 h4 => ?_)
    refine t_bind (wX10_isOutside_T) (fun t7 h5 => ?_)
    refine t_ite (fun c6 => ?_) (fun c6 => ?_)
    · refine t_bind (wX0_has_T rfl) (fun t10 h7 => ?_)
      refine t_ite (fun c8 => ?_) (fun c8 => ?_)
      · exact t_some h1.2
      · refine t_bind (wX10_isOutside_T) (fun t13 h9 => ?_)
        refine t_ite (fun c10 => ?_) (fun c10 => ?_)
        · refine t_bind (wX10_fillKept_T rfl) (fun s17 h11 => ?_)
          have a12 := h1.2.trans h11
          refine t_bind (wX10_steered_h80_T hk4 _   t_mi) (fun r14 h13 => ?_)
          obtain ⟨t28, t29, t30⟩ := r14
          dsimp only at h13 ⊢
          refine t_ite (fun c15 => ?_) (fun c15 => ?_)
          · exact t_some a12
          · refine t_bind (wX5_told_T) (fun t40 h16 => ?_)
            exact t_some a12
        · exact t_some h1.2
    · exact t_some h1.2
theorem wX10_drawn_T {x0 : Int32} {s : wS}  : Tot (wX10_drawn x0 s) (fun (_ : Int32) => True) := by
  unfold wX10_drawn
  exact t_some trivial
theorem wX10_trial_h19_T {k1 : Nat} {x2 : Int32} (hk1 : wkd k1 = 3)  : ∀ (n : Nat) {x3 : Int32} {s : wS}, 2147483648 - x3.toInt < (n : Int) → Tot (wX10_trial_h19 k1 x2 n x3 s) (Sum.elim (fun (r : Int32 × wS) => wA bQ s r.2) (fun (r : Int32 × wS) => wA bQ s r.2)) := by
  intro n
  induction n with
  | zero =>
    intro x3 s hm
    exact (t_m0 hm).elim
  | succ n ih =>
    intro x3 s hm
    rw [wX10_trial_h19]
    refine t_ite (fun c1 => ?_) (fun c1 => ?_)
    · refine t_ite (fun c2 => ?_) (fun c2 => ?_)
      · refine t_bind (wX5_best_T hk1 rfl) (fun t8 h3 => ?_)
        refine t_ite (fun c4 => ?_) (fun c4 => ?_)
        · exact t_some wA.refl
        · refine t_bind (wX5_greaterLeft_T hk1 rfl) (fun t11 h5 => ?_)
          refine t_ite (fun c6 => ?_) (fun c6 => ?_)
          · refine t_bind (wX10_at_T rfl) (fun t14 h7 => ?_)
            refine t_bind (wX5_nearAsIn_T hk1 rfl) (fun t16 h8 => ?_)
            refine t_bind (wX7_keepOnly_T rfl) (fun s19 h9 => ?_)
            exact t_mono (ih (t_m1 c1 hm)) (fun r h => match r, h with | .inl r, h => (h9.trans h) | .inr r, h => (h9.trans h))
          · exact t_some wA.refl
      · exact t_some wA.refl
    · exact t_some wA.refl
theorem wX10_trial_T {k1 : Nat} {x2 : Int32} {s : wS} (hk1 : wkd k1 = 3) : Tot (wX10_trial k1 x2 s) (fun (r : Int32 × wS) => wA bQ s r.2) := by
  unfold wX10_trial
  refine t_bind (wX0_bitsOfAll_T rfl) (fun t1 h1 => ?_)
  refine t_bind (wX7_fillWith_T rfl) (fun s4 h2 => ?_)
  refine t_bind (wX10_trial_h19_T hk1 _   t_mi) (fun z21 h3 => ?_)
  rcases z21 with z21 | z21
  · obtain ⟨t22, s23⟩ := z21
    simp only [Sum.elim_inl, Sum.elim_inr] at h3
    dsimp only
    have a4 := h2.trans h3
    exact t_some a4
  · obtain ⟨t28, s29⟩ := z21
    simp only [Sum.elim_inl, Sum.elim_inr] at h3
    dsimp only
    have a5 := h2.trans h3
    exact t_some a5
theorem wX10_trials_h71_T {x2 : Int32} {x3 : Int32} {k4 : Nat} {x5 : Int32} (hk4 : wkd k4 = 3) (hx5 : 0 < x5.toInt) : ∀ (n : Nat) {x6 : Int32} {x7 : Int32} {x8 : Int32} {x9 : Int32} {x10 : Int32} {s : wS}, 2147483648 - x10.toInt < (n : Int) → Tot (wX10_trials_h71 x2 x3 k4 x5 n x6 x7 x8 x9 x10 s) (fun (r : Int32 × Int32 × Int32 × wS) => wA bQ s r.2.2.2) := by
  intro n
  induction n with
  | zero =>
    intro x6 x7 x8 x9 x10 s hm
    exact (t_m0 hm).elim
  | succ n ih =>
    intro x6 x7 x8 x9 x10 s hm
    rw [wX10_trials_h71]
    refine t_ite (fun c1 => ?_) (fun c1 => ?_)
    · refine t_bind (wX10_drawn_T) (fun t14 h2 => ?_)
      refine t_bind (t_rmI (by (try simp only [Int32.lt_iff_toInt_lt, Int32.le_iff_toInt_le, ← Int32.toInt_inj, Int32.reduceToInt] at *) <;> omega)) (fun t16 h3 => ?_)
      refine t_bind (wX10_trial_T hk4) (fun r5 h4 => ?_)
      obtain ⟨t17, s18⟩ := r5
      dsimp only at h4 ⊢
      refine t_ite (fun c6 => ?_) (fun c6 => ?_)
      · unfold wX10_trials_j130
        exact t_mono (ih (t_m1 c1 hm)) (fun r h => (h4.trans h))
      · unfold wX10_trials_j130
        exact t_mono (ih (t_m1 c1 hm)) (fun r h => (h4.trans h))
    · exact t_some wA.refl
theorem wX10_trials_T {x1 : Int32} {x2 : Int32} {x3 : Int32} {s : wS}  : Tot (wX10_trials x1 x2 x3 s) (fun (r : Int32 × wS) => wA bQ s r.2) := by
  unfold wX10_trials
  refine t_bind (wX10_lawInUse_T) (fun r2 h1 => ?_)
  obtain ⟨o1, s2⟩ := r2
  dsimp only at h1 ⊢
  refine t_bind (wX0_worlds_T rfl) (fun t4 h3 => ?_)
  refine t_elim (fun e4 => ?_) (fun k6 e4 => ?_)
  · exact t_some h1.2
  · have hk6 := (h1.1) k6 e4
    refine t_ite (fun c5 => ?_) (fun c5 => ?_)
    · refine t_ite (fun c6 => ?_) (fun c6 => ?_)
      · exact t_some h1.2
      · refine t_ite (fun c7 => ?_) (fun c7 => ?_)
        · exact t_some h1.2
        · refine t_bind (wX10_isOutside_T) (fun t10 h8 => ?_)
          refine t_ite (fun c9 => ?_) (fun c9 => ?_)
          · refine t_bind (wX10_trials_h71_T hk6 (by (try simp only [Int32.lt_iff_toInt_lt, Int32.le_iff_toInt_le, ← Int32.toInt_inj, Int32.reduceToInt] at *) <;> omega) _   t_mi) (fun r11 h10 => ?_)
            obtain ⟨t22, t23, t24, s25⟩ := r11
            dsimp only at h10 ⊢
            have a12 := h1.2.trans h10
            refine t_ite (fun c13 => ?_) (fun c13 => ?_)
            · exact t_some a12
            · refine t_ite (fun c14 => ?_) (fun c14 => ?_)
              · exact t_some a12
              · exact t_some a12
          · exact t_some h1.2
    · exact t_some h1.2
theorem wX10_old_j96_T {x2 : Int32} {x4 : Int32} {x6 : Int32} {y0 : Int32} {s : wS}  : Tot (wX10_old_j96 x2 x4 x6 y0 s) (fun (r : Int32 × wS) => wA bQ s r.2) := by
  unfold wX10_old_j96
  refine t_ite (fun c1 => ?_) (fun c1 => ?_)
  · exact t_some wA.refl
  · refine t_ite (fun c2 => ?_) (fun c2 => ?_)
    · refine t_bind (wX10_worldsWithAtMost_T) (fun t26 h3 => ?_)
      exact t_some wA.refl
    · exact t_some wA.refl
theorem wX10_old_T {x1 : Int32} {x2 : Int32} {x3 : Int32} {x4 : Int32} {s : wS}  : Tot (wX10_old x1 x2 x3 x4 s) (fun (r : Int32 × wS) => wA bQ s r.2) := by
  unfold wX10_old
  refine t_bind (wX10_lawInUse_T) (fun r2 h1 => ?_)
  obtain ⟨o1, s2⟩ := r2
  dsimp only at h1 ⊢
  refine t_elim (fun e3 => ?_) (fun k4 e3 => ?_)
  · exact t_some h1.2
  · have hk4 := (h1.1) k4 e3
    refine t_bind (wX10_isOutside_T) (fun t5 h4 => ?_)
    refine t_ite (fun c5 => ?_) (fun c5 => ?_)
    · refine t_bind (wX10_isOutside_T) (fun t8 h6 => ?_)
      refine t_ite (fun c7 => ?_) (fun c7 => ?_)
      · refine t_bind (wX10_isOutside_T) (fun t11 h8 => ?_)
        refine t_ite (fun c9 => ?_) (fun c9 => ?_)
        · refine t_bind (wX10_at_T rfl) (fun t14 h10 => ?_)
          refine t_bind (wX10_countFalse_T hk4) (fun s17 h11 => ?_)
          have a12 := h1.2.trans h11
          refine t_bind (wX10_at_T rfl) (fun t19 h13 => ?_)
          refine t_bind (wX10_at_T rfl) (fun t21 h14 => ?_)
          refine t_ite (fun c15 => ?_) (fun c15 => ?_)
          · exact t_mono (wX10_old_j96_T) (fun r h => (a12.trans h))
          · exact t_mono (wX10_old_j96_T) (fun r h => (a12.trans h))
        · exact t_some h1.2
      · exact t_some h1.2
    · exact t_some h1.2
theorem wX10_count_j56_T {x1 : Int32} {s : wS}  : Tot (wX10_count_j56 x1 s) (fun (_ : Int32) => True) := by
  unfold wX10_count_j56
  refine t_bind (wX0_manyOf_T rfl) (fun t2 h1 => ?_)
  exact t_some trivial
theorem wX10_count_T {x1 : Int32} {s : wS}  : Tot (wX10_count x1 s) (fun (_ : Int32) => True) := by
  unfold wX10_count
  refine t_ite (fun c1 => ?_) (fun c1 => ?_)
  · exact t_mono (wX10_count_j56_T) (fun _ _ => trivial)
  · refine t_ite (fun c2 => ?_) (fun c2 => ?_)
    · exact t_mono (wX10_count_j56_T) (fun _ _ => trivial)
    · refine t_ite (fun c3 => ?_) (fun c3 => ?_)
      · exact t_mono (wX10_count_j56_T) (fun _ _ => trivial)
      · refine t_ite (fun c4 => ?_) (fun c4 => ?_)
        · exact t_some trivial
        · refine t_ite (fun c5 => ?_) (fun c5 => ?_)
          · exact t_some trivial
          · refine t_ite (fun c6 => ?_) (fun c6 => ?_)
            · refine t_bind (wX2_struckOnes_T rfl) (fun t9 h7 => ?_)
              exact t_some trivial
            · refine t_ite (fun c8 => ?_) (fun c8 => ?_)
              · refine t_bind (wX2_lookedAtOnes_T rfl) (fun t12 h9 => ?_)
                exact t_some trivial
              · refine t_ite (fun c10 => ?_) (fun c10 => ?_)
                · exact t_some trivial
                · refine t_ite (fun c11 => ?_) (fun c11 => ?_)
                  · exact t_some trivial
                  · refine t_ite (fun c12 => ?_) (fun c12 => ?_)
                    · exact t_some trivial
                    · exact t_some trivial
