/-! The class: its calls that change what it was told. -/
theorem wX8_putNumber_h3_T {x1 : Int32} : ∀ (n : Nat) {x2 : Int32} {s : wS}, -8 ≤ x2.toInt → x2.toInt + 9 < (n : Int) → Tot (wX8_putNumber_h3 x1 n x2 s) (fun (r : wS) => wA (fun k _ => Nat.beq k 1 || Nat.beq k 2) s r) := by
  intro n
  induction n with
  | zero => intro x2 s h1 h2; exfalso; omega
  | succ n ih =>
    intro x2 s h1 h2
    rw [wX8_putNumber_h3]
    refine t_ite (fun c => t_some wA.refl) (fun c => ?_)
    have h0 := t_ge c
    rw [t_i0] at h0
    have e : (x2 + (-8)).toInt = x2.toInt - 8 := by
      rw [Int32.toInt_add, show (-8 : Int32).toInt = -8 from rfl]
      have := Int32.toInt_lt x2
      exact Int.bmod_eq_of_le (by omega) (by omega)
    refine t_bind wX10_isOutside_T (fun t2 ht => t_ite (fun c2 => ?_) (fun c2 => ?_))
    · have h4 : 0 ≤ (s.1 1 1).toInt ∧ (s.1 1 1).toInt < (400 : Int32).toInt := by
        rcases ht with h | h
        · exact h.2
        · rw [h.1] at c2; exact absurd c2 (by decide)
      rw [show (400 : Int32).toInt = 400 from rfl] at h4
      refine t_bind (t_stB (B := fun k _ => Nat.beq k 1 || Nat.beq k 2) (n := 400) h4.1 (by omega) (fun _ => rfl)) (fun s5 h5 => ?_)
      refine t_bind (t_pfI (B := fun k _ => Nat.beq k 1 || Nat.beq k 2) rfl) (fun s6 h6 => ?_)
      unfold wX8_putNumber_j45
      exact t_mono (ih (by omega) (by omega)) (fun r h => (h5.1.trans h6.1).trans h)
    · unfold wX8_putNumber_j45
      exact ih (by omega) (by omega)
theorem wX8_putNumber_T {x1 : Int32} {s : wS} : Tot (wX8_putNumber x1 s) (fun (r : wS) => wA (fun k _ => Nat.beq k 1 || Nat.beq k 2) s r) := by
  unfold wX8_putNumber
  exact t_bind (wX8_putNumber_h3_T _ (by decide) (by decide +kernel)) (fun s8 h => t_some h)
theorem wX10_feed_T {x1 x2 x3 x4 x5 : Int32} {s : wS} : Tot (wX10_feed x1 x2 x3 x4 x5 s) (fun (r : Int32 × wS) => wA (fun k _ => Nat.beq k 1 || Nat.beq k 2) s r.2) := by
  unfold wX10_feed
  refine t_ite (fun _ => t_some wA.refl) (fun _ => ?_)
  refine t_bind wX8_putNumber_T (fun s3 h3 => ?_)
  refine t_bind wX8_putNumber_T (fun s6 h6 => ?_)
  refine t_bind wX8_putNumber_T (fun s9 h9 => ?_)
  refine t_bind wX8_putNumber_T (fun s12 h12 => ?_)
  refine t_bind wX8_putNumber_T (fun s15 h15 => ?_)
  exact t_some ((((h3.trans h6).trans h9).trans h12).trans h15)
theorem wX10_end_T {x1 : Int32} {s : wS} : Tot (wX10_end x1 s) (fun (r : Int32 × wS) => wA (fun k _ => Nat.beq k 1) s r.2) := by
  unfold wX10_end
  refine t_ite (fun _ => t_some wA.refl) (fun _ => t_ite (fun _ => t_some wA.refl) (fun _ => ?_))
  exact t_bind (t_pfI (B := fun k _ => Nat.beq k 1) rfl) (fun s3 h3 => t_some h3.1)
theorem wX2_takeDown_T {x1 x2 x3 x4 : Int32} {s : wS} : Tot (wX2_takeDown 14 x1 x2 x3 x4 s) (fun (r : Int32 × wS) => wA (fun k b => (Nat.ble 19 k && Nat.ble k 23) || (Nat.beq k 14 && Nat.beq b 6)) s r.2) := by
  unfold wX2_takeDown
  refine t_bind wX10_isOutside_T (fun t1 ht => t_ite (fun c => ?_) (fun c => t_some wA.refl))
  have h4 : 0 ≤ (s.1 14 6).toInt ∧ (s.1 14 6).toInt < (40 : Int32).toInt := by
    rcases ht with h | h
    · exact h.2
    · rw [h.1] at c; exact absurd c (by decide)
  rw [show (40 : Int32).toInt = 40 from rfl] at h4
  obtain ⟨h0, h1⟩ := h4
  refine t_bind (t_stI (B := fun k b => (Nat.ble 19 k && Nat.ble k 23) || (Nat.beq k 14 && Nat.beq b 6)) (n := 40) h0 (by omega) (fun _ => rfl)) (fun s4 h4 => ?_)
  have f4 : s4.1 14 6 = s.1 14 6 := by rw [h4.2, wupI_n (by omega)]
  refine t_bind (t_stI (B := fun k b => (Nat.ble 19 k && Nat.ble k 23) || (Nat.beq k 14 && Nat.beq b 6)) (n := 40) (by rw [f4]; exact h0) (by rw [f4]; omega) (fun _ => rfl)) (fun s5 h5 => ?_)
  have f5 : s5.1 14 6 = s.1 14 6 := by rw [h5.2, wupI_n (by omega), f4]
  refine t_bind (t_stI (B := fun k b => (Nat.ble 19 k && Nat.ble k 23) || (Nat.beq k 14 && Nat.beq b 6)) (n := 40) (by rw [f5]; exact h0) (by rw [f5]; omega) (fun _ => rfl)) (fun s6 h6 => ?_)
  have f6 : s6.1 14 6 = s.1 14 6 := by rw [h6.2, wupI_n (by omega), f5]
  refine t_bind (t_stI (B := fun k b => (Nat.ble 19 k && Nat.ble k 23) || (Nat.beq k 14 && Nat.beq b 6)) (n := 40) (by rw [f6]; exact h0) (by rw [f6]; omega) (fun _ => rfl)) (fun s7 h7 => ?_)
  have f7 : s7.1 14 6 = s.1 14 6 := by rw [h7.2, wupI_n (by omega), f6]
  refine t_bind (t_stZ (B := fun k b => (Nat.ble 19 k && Nat.ble k 23) || (Nat.beq k 14 && Nat.beq b 6)) (n := 40) (by rw [f7]; exact h0) (by rw [f7]; omega) (fun _ => rfl)) (fun s8 h8 => ?_)
  refine t_bind (t_pfI (B := fun k b => (Nat.ble 19 k && Nat.ble k 23) || (Nat.beq k 14 && Nat.beq b 6)) rfl) (fun s9 h9 => ?_)
  exact t_some (((((h4.1.trans h5.1).trans h6.1).trans h7.1).trans h8.1).trans h9.1)
theorem wX10_answer_T {x1 x2 x3 x4 : Int32} {s : wS} : Tot (wX10_answer x1 x2 x3 x4 s) (fun (r : Int32 × wS) => wA (fun k b => (Nat.ble 19 k && Nat.ble k 23) || (Nat.beq k 14 && Nat.beq b 6)) s r.2) := by
  unfold wX10_answer
  refine t_bind wX10_isOutside_T (fun t1 ht => t_ite (fun c => ?_) (fun c => t_some wA.refl))
  refine t_bind (wX2_mayStillGive_T rfl) (fun t4 h4 => t_ite (fun c => ?_) (fun c => t_some wA.refl))
  refine t_bind (wX0_has_T rfl) (fun t7 h7 => t_ite (fun c => t_some wA.refl) (fun c => ?_))
  refine t_bind (wX0_has_T rfl) (fun t10 h10 => t_ite (fun c => t_some wA.refl) (fun c => ?_))
  refine t_ite (fun c => t_some wA.refl) (fun c => ?_)
  refine t_bind wX2_takeDown_T (fun r h => ?_)
  obtain ⟨t14, s15⟩ := r
  exact t_some h
theorem wX10_strike_T {x1 x2 : Int32} {s : wS} : Tot (wX10_strike x1 x2 s) (fun (r : Int32 × wS) => wA (fun k _ => Nat.beq k 23) s r.2) := by
  unfold wX10_strike
  refine t_bind (wX2_hasAnswer_T rfl) (fun t1 h1 => t_ite (fun c => t_some wA.refl) (fun c => ?_))
  refine t_bind (wX2_isStruck_T rfl) (fun t4 h4 => t_ite (fun c => t_some wA.refl) (fun c => ?_))
  unfold wX2_setStruck
  refine t_bind (P := fun s8 => wA (fun k _ => Nat.beq k 23) s s8) ?_ (fun s8 h => t_some h)
  refine t_bind wX10_isOutside_T (fun t1 ht => t_ite (fun c => ?_) (fun c => t_some wA.refl))
  have h4 : 0 ≤ x1.toInt ∧ x1.toInt < (40 : Int32).toInt := by
    rcases ht with h | h
    · exact h.2
    · rw [h.1] at c; exact absurd c (by decide)
  rw [show (40 : Int32).toInt = 40 from rfl] at h4
  exact t_bind (t_stZ (B := fun k _ => Nat.beq k 23) (n := 40) h4.1 (by omega) (fun _ => rfl)) (fun s4 h => t_some h.1)
theorem wX10_only_T {x1 : Int32} {s : wS} : Tot (wX10_only x1 s) (fun (r : Int32 × wS) => wA (fun k b => Nat.beq k 14 && Nat.beq b 7) s r.2) := by
  unfold wX10_only
  refine t_ite (fun _ => t_some wA.refl) (fun _ => t_ite (fun _ => t_some wA.refl) (fun _ => ?_))
  exact t_bind (t_pfI (B := fun k b => Nat.beq k 14 && Nat.beq b 7) rfl) (fun s3 h3 => t_some h3.1)
theorem wX10_seed_T {x1 : Int32} {s : wS} : Tot (wX10_seed x1 s) (fun (r : Int32 × wS) => wA (fun k b => Nat.beq k 14 && Nat.beq b 11) s r.2 ∧ ((x1 < 0 ∧ r = (-1, s)) ∨ (¬ x1 < 0 ∧ r.1 = s.1 14 11 ∧ r.2.1 14 11 = x1))) := by
  unfold wX10_seed
  refine t_ite (fun c => t_some ⟨wA.refl, Or.inl ⟨c, rfl⟩⟩) (fun c => ?_)
  exact t_bind (t_pfI (B := fun k b => Nat.beq k 14 && Nat.beq b 11) rfl) (fun s3 h3 => t_some ⟨h3.1, Or.inr ⟨c, rfl, by
    show s3.1 14 11 = x1
    rw [h3.2]
    exact wup_same⟩⟩)
theorem wX2_judge_T {x1 : Int32} {s : wS} : Tot (wX2_judge 14 x1 s) (fun (r : wS) => wA (fun k b => Nat.beq k 24 || (Nat.beq k 25 || (Nat.beq k 14 && Nat.beq b 10))) s r) := by
  unfold wX2_judge
  refine t_bind wX10_isOutside_T (fun t1 ht => t_ite (fun c => ?_) (fun c => t_some wA.refl))
  have h4 : 0 ≤ (s.1 14 10).toInt ∧ (s.1 14 10).toInt < (10 : Int32).toInt := by
    rcases ht with h | h
    · exact h.2
    · rw [h.1] at c; exact absurd c (by decide)
  rw [show (10 : Int32).toInt = 10 from rfl] at h4
  obtain ⟨h0, h1⟩ := h4
  refine t_bind (t_stI (B := fun k b => Nat.beq k 24 || (Nat.beq k 25 || (Nat.beq k 14 && Nat.beq b 10))) (n := 10) h0 (by omega) (fun _ => rfl)) (fun s4 h4 => ?_)
  have f4 : s4.1 14 10 = s.1 14 10 := by rw [h4.2, wupI_n (by omega)]
  refine t_bind (t_stI (B := fun k b => Nat.beq k 24 || (Nat.beq k 25 || (Nat.beq k 14 && Nat.beq b 10))) (n := 10) (by rw [f4]; exact h0) (by rw [f4]; omega) (fun _ => rfl)) (fun s5 h5 => ?_)
  refine t_bind (t_pfI (B := fun k b => Nat.beq k 24 || (Nat.beq k 25 || (Nat.beq k 14 && Nat.beq b 10))) rfl) (fun s6 h6 => ?_)
  exact t_some ((h4.1.trans h5.1).trans h6.1)
theorem wX10_verdict_T {x1 : Int32} {s : wS} : Tot (wX10_verdict x1 s) (fun (r : Int32 × wS) => wA (fun k b => Nat.beq k 24 || (Nat.beq k 25 || (Nat.beq k 14 && Nat.beq b 10))) s r.2) := by
  unfold wX10_verdict
  refine t_ite (fun c => ?_) (fun c => ?_)
  · exact t_bind (t_pfI (B := fun k b => Nat.beq k 24 || (Nat.beq k 25 || (Nat.beq k 14 && Nat.beq b 10))) rfl) (fun s6 h6 => t_some h6.1)
  · refine t_bind (wX0_worlds_T rfl) (fun t3 h3 => ?_)
    refine t_bind wX10_isOutside_T (fun t5 ht => t_ite (fun c => ?_) (fun c => t_some wA.refl))
    refine t_ite (fun c => ?_) (fun c => t_some wA.refl)
    exact t_bind wX2_judge_T (fun s10 h => t_some h)
theorem wX2_becomes_h73_T {B : Nat → Nat → Bool} {k0 k1 : Nat} (hB : ∀ b, B (k0 + 9) b = true) : ∀ (n : Nat) {x2 : Int32} {s : wS}, 0 ≤ x2.toInt → 2147483648 - x2.toInt < (n : Int) → Tot (wX2_becomes_h73 k0 k1 n x2 s) (fun (r : wS) => wA B s r) := by
  intro n
  induction n with
  | zero => intro x2 s hi hm; exact (t_m0 hm).elim
  | succ n ih =>
    intro x2 s hi hm
    rw [wX2_becomes_h73]
    refine t_ite (fun c => ?_) (fun c => t_some wA.refl)
    have h2 := t_lt c
    rw [show (40 : Int32).toInt = 40 from rfl] at h2
    refine t_bind (t_ldI (n := 40) hi (by omega)) (fun t9 h9 => ?_)
    refine t_bind (t_stZ (n := 40) hi (by omega) hB) (fun s10 h10 => ?_)
    exact t_mono (ih (t_n1 c hi) (t_m1 c hm)) (fun r hr => h10.1.trans hr)
theorem wX2_becomes_T {B : Nat → Nat → Bool} {k0 k1 : Nat} {s : wS} (hk0 : wkd k0 = 2) (hk1 : wkd k1 = 2) (hne : k1 ≠ k0) (hB : ∀ o b, o < 12 → B (k0 + o) b = true) : Tot (wX2_becomes k0 k1 s) (fun (r : wS) => wA B s r ∧ r.1 k0 11 = r.1 k1 11) := by
  unfold wX2_becomes
  refine t_bind (wX0_becomes_T (B := B) (wly_2_0 hk0).2.1 (wly_2_0 hk1).2.1 (fun b => hB 2 b (by omega)) (fun b => hB 3 b (by omega)) (fun b => hB 4 b (by omega))) (fun s2 h2 => ?_)
  refine t_bind (t_cpI (B := B) (by decide) (fun b => hB 5 b (by omega))) (fun s4 h4 => ?_)
  refine t_bind (t_cpI (B := B) (by decide) (fun b => hB 6 b (by omega))) (fun s5 h5 => ?_)
  refine t_bind (t_cpI (B := B) (by decide) (fun b => hB 7 b (by omega))) (fun s6 h6 => ?_)
  refine t_bind (t_cpI (B := B) (by decide) (fun b => hB 8 b (by omega))) (fun s7 h7 => ?_)
  refine t_bind (wX2_becomes_h73_T (B := B) (fun b => hB 9 b (by omega)) _ (by decide) t_mi) (fun s12 h12 => ?_)
  refine t_bind (t_pfI (B := B) (hB 0 6 (by omega))) (fun s14 h14 => ?_)
  refine t_bind (t_pfI (B := B) (hB 0 7 (by omega))) (fun s15 h15 => ?_)
  refine t_bind (t_cpI (B := B) (by decide) (fun b => hB 10 b (by omega))) (fun s16 h16 => ?_)
  refine t_bind (t_cpI (B := B) (by decide) (fun b => hB 11 b (by omega))) (fun s17 h17 => ?_)
  refine t_bind (t_pfI (B := B) (hB 0 10 (by omega))) (fun s18 h18 => ?_)
  refine t_bind (t_pfI (B := B) (hB 0 11 (by omega))) (fun s19 h19 => t_some ⟨?_, ?_⟩)
  · exact ((((((((((h2.trans h4.1).trans h5.1).trans h6.1).trans h7.1).trans h12).trans h14.1).trans h15.1).trans h16.1).trans h17.1).trans h18.1).trans h19.1
  · rw [h19.2, wup_same, wupI_n hne]
theorem wX10_image_T {x1 : Int32} {s : wS} : Tot (wX10_image x1 s) (fun (r : Int32 × wS) => (r = (-1, s) ∧ ¬ (0 ≤ x1.toInt ∧ x1.toInt < 4)) ∨ ((0 ≤ x1.toInt ∧ x1.toInt < 4) ∧ wA (fun k _ => Nat.beq k 27 || (Nat.ble (104 + 12 * x1.toNatClampNeg) k && Nat.ble k (115 + 12 * x1.toNatClampNeg))) s r.2 ∧ r.2.1 (104 + 12 * x1.toNatClampNeg) 11 = s.1 14 11 ∧ r.2.1 27 = upd (s.1 27) x1.toNatClampNeg 1)) := by
  unfold wX10_image
  refine t_bind wX10_isOutside_T (fun t1 ht => ?_)
  rw [show (4 : Int32).toInt = 4 from rfl] at ht
  refine t_ite (fun c => ?_) (fun c => t_some (Or.inl ⟨rfl, ?_⟩))
  · have h4 : 0 ≤ x1.toInt ∧ x1.toInt < 4 := by
      rcases ht with h | h
      · exact h.2
      · rw [h.1] at c; exact absurd c (by decide)
    refine t_bind (t_ldR2 h4.1 h4.2) (fun k4 hk4 => ?_)
    refine t_bind (t_ldR2 h4.1 h4.2) (fun k5 hk5 => ?_)
    obtain ⟨hk, rfl⟩ := hk5
    have hl : x1.toNatClampNeg < 4 := by unfold Int32.toNatClampNeg; omega
    generalize hj : x1.toNatClampNeg = j at *
    refine t_bind (wX2_becomes_T (B := fun k _ => Nat.ble (104 + 12 * j) k && Nat.ble k (115 + 12 * j)) hk rfl (by omega) (fun o b ho => by
      rw [Bool.and_eq_true]
      exact ⟨Nat.ble_eq_true_of_le (by omega), Nat.ble_eq_true_of_le (by omega)⟩)) (fun s7 h7 => ?_)
    refine t_bind (t_stZ (B := fun k _ => Nat.beq k 27) (n := 4) h4.1 (by omega) (fun _ => rfl)) (fun s9 h9 => t_some (Or.inr ⟨h4, ?_, ?_, ?_⟩))
    · refine wA.trans (h7.1.mono (fun k b h => ?_)) (h9.1.mono (fun k b h => ?_))
      · rw [h, Bool.or_true]
      · rw [h, Bool.true_or]
    · show s9.1 (104 + 12 * j) 11 = s.1 14 11
      rw [h9.2, wupI_n (by omega), h7.2]
      refine h7.1 14 11 ?_
      have : Nat.ble (104 + 12 * j) 14 = false := by
        cases e : Nat.ble (104 + 12 * j) 14
        · rfl
        · have := Nat.le_of_ble_eq_true e
          omega
      dsimp only
      rw [this, Bool.false_and]
    · show s9.1 27 = upd (s.1 27) j 1
      rw [h9.2, wupI_k, hj]
      have : s7.1 27 = s.1 27 := by
        funext b
        refine h7.1 27 b ?_
        have : Nat.ble (104 + 12 * j) 27 = false := by
          cases e : Nat.ble (104 + 12 * j) 27
          · rfl
          · have := Nat.le_of_ble_eq_true e
            omega
        dsimp only
        rw [this, Bool.false_and]
      rw [this]
      rfl
  · rcases ht with h | h
    · exact absurd h.1 c
    · exact h.2
theorem bR_14 : ∀ b, bR 14 b = false := fun b => by
  unfold bR
  rfl
theorem wX10_back_T {x1 : Int32} {s : wS} : Tot (wX10_back x1 s) (fun (r : Int32 × wS) => (r = (-1, s) ∧ (¬ (0 ≤ x1.toInt ∧ x1.toInt < 4) ∨ s.1 27 x1.toNatClampNeg = 0)) ∨ ((0 ≤ x1.toInt ∧ x1.toInt < 4) ∧ ¬ s.1 27 x1.toNatClampNeg = 0 ∧ wA (fun k b => (Nat.ble 14 k && Nat.ble k 25) || bR k b) s r.2 ∧ r.2.1 14 11 = s.1 (104 + 12 * x1.toNatClampNeg) 11)) := by
  unfold wX10_back
  refine t_bind wX10_isOutside_T (fun t1 ht => ?_)
  rw [show (4 : Int32).toInt = 4 from rfl] at ht
  refine t_ite (fun c => ?_) (fun c => t_some (Or.inl ⟨rfl, ?_⟩))
  · have h4 : 0 ≤ x1.toInt ∧ x1.toInt < 4 := by
      rcases ht with h | h
      · exact h.2
      · rw [h.1] at c; exact absurd c (by decide)
    refine t_bind (t_ldI (n := 4) h4.1 (by omega)) (fun t4 h5 => t_ite (fun c4 => t_some (Or.inl ⟨rfl, Or.inr (by rw [← h5]; exact c4)⟩)) (fun c4 => ?_))
    rw [h5] at c4
    refine t_bind (t_ldR2 h4.1 h4.2) (fun k4 hk4 => ?_)
    refine t_bind (t_ldR2 h4.1 h4.2) (fun k5 hk5 => ?_)
    obtain ⟨hk, rfl⟩ := hk5
    have hl : x1.toNatClampNeg < 4 := by unfold Int32.toNatClampNeg; omega
    generalize hj : x1.toNatClampNeg = j at *
    refine t_bind (wX2_becomes_T (B := fun k _ => Nat.ble 14 k && Nat.ble k 25) rfl hk (by omega) (fun o b ho => by
      rw [Bool.and_eq_true]
      exact ⟨Nat.ble_eq_true_of_le (by omega), Nat.ble_eq_true_of_le (by omega)⟩)) (fun s9 h9 => ?_)
    refine t_bind wX10_courtIsAnother_T (fun s12 h12 => t_some (Or.inr ⟨h4, c4, ?_, ?_⟩))
    · refine wA.trans (h9.1.mono (fun k b h => ?_)) (h12.mono (fun k b h => ?_))
      · rw [h, Bool.true_or]
      · rw [h, Bool.or_true]
    · show s12.1 14 11 = s.1 (104 + 12 * j) 11
      rw [h12 14 11 (bR_14 11), h9.2]
      refine h9.1 _ 11 ?_
      have : Nat.ble (104 + 12 * j) 25 = false := by
        cases e : Nat.ble (104 + 12 * j) 25
        · rfl
        · have := Nat.le_of_ble_eq_true e
          omega
      dsimp only
      rw [this, Bool.and_false]
  · rcases ht with h | h
    · exact absurd h.1 c
    · exact Or.inl h.2
