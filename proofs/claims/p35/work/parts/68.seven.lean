/-! The class: a text is cut, a COURT and a LAW are read. -/
theorem wsch_T {i : Nat} {k : Int32} (h0 : 0 ≤ k.toInt) (h1 : k < ri_sln i) : Tot (wsch i k) (fun _ => True) := by
  unfold wsch
  rw [if_pos ⟨fun q => absurd (t_lt q) (by rw [t_i0]; omega), h1⟩]
  exact t_some trivial
theorem wX8_spells_h15_T {x1 : Int32} {z3 : Nat} {s : wS} : ∀ (n : Nat) {x4 : Int32}, 0 ≤ x4.toInt → 2147483648 - x4.toInt < (n : Int) → Tot (wX8_spells_h15 x1 z3 s n x4) (fun _ => True) := by
  intro n
  induction n with
  | zero => intro x4 h0 hm; exact (t_m0 hm).elim
  | succ n ih =>
    intro x4 h0 hm
    rw [wX8_spells_h15]
    refine t_ite (fun c => ?_) (fun c => t_some trivial)
    refine t_bind wX8_byteAt_T (fun t3 _ => t_bind (wsch_T h0 c) (fun t5 _ => t_ite (fun _ => ?_) (fun _ => t_some trivial)))
    exact ih (t_n1 c h0) (t_m1 c hm)
theorem wX8_spells_T {x1 x2 : Int32} {z3 : Nat} {s : wS} : Tot (wX8_spells x1 x2 z3 s) (fun _ => True) := by
  unfold wX8_spells
  refine t_ite (fun _ => ?_) (fun _ => t_some trivial)
  refine t_bind (wX8_spells_h15_T _ (by decide) t_mi) (fun z7 _ => ?_)
  rcases z7 with _ | _
  · exact t_some trivial
  · exact t_some trivial
theorem wX9_valueWordSign_T {x1 x2 : Int32} {s : wS} : Tot (wX9_valueWordSign x1 x2 s) (fun _ => True) := by
  unfold wX9_valueWordSign
  refine t_bind wX8_spells_T (fun _ _ => t_ite (fun _ => ?_) (fun _ => t_some trivial))
  refine t_bind wX8_spells_T (fun _ _ => t_ite (fun _ => ?_) (fun _ => t_some trivial))
  refine t_bind wX8_spells_T (fun _ _ => t_ite (fun _ => ?_) (fun _ => t_some trivial))
  refine t_bind wX8_spells_T (fun _ _ => t_ite (fun _ => ?_) (fun _ => t_some trivial))
  refine t_bind wX8_spells_T (fun _ _ => t_ite (fun _ => ?_) (fun _ => t_some trivial))
  refine t_bind wX8_spells_T (fun _ _ => t_ite (fun _ => ?_) (fun _ => t_some trivial))
  refine t_bind wX8_spells_T (fun _ _ => t_ite (fun _ => ?_) (fun _ => t_some trivial))
  exact t_bind wX8_spells_T (fun _ _ => t_ite (fun _ => t_some trivial) (fun _ => t_some trivial))
theorem wX9_wordSign_T {x1 x2 : Int32} {s : wS} : Tot (wX9_wordSign x1 x2 s) (fun _ => True) := by
  unfold wX9_wordSign
  refine t_bind wX8_spells_T (fun _ _ => t_ite (fun _ => ?_) (fun _ => t_some trivial))
  refine t_bind wX8_spells_T (fun _ _ => t_ite (fun _ => ?_) (fun _ => t_some trivial))
  refine t_bind wX8_spells_T (fun _ _ => t_ite (fun _ => ?_) (fun _ => t_some trivial))
  refine t_bind wX8_spells_T (fun _ _ => t_ite (fun _ => ?_) (fun _ => t_some trivial))
  refine t_bind wX8_spells_T (fun _ _ => t_ite (fun _ => ?_) (fun _ => t_some trivial))
  refine t_bind wX8_spells_T (fun _ _ => t_ite (fun _ => ?_) (fun _ => t_some trivial))
  refine t_bind wX8_spells_T (fun _ _ => t_ite (fun _ => ?_) (fun _ => t_some trivial))
  refine t_bind wX8_spells_T (fun _ _ => t_ite (fun _ => ?_) (fun _ => t_some trivial))
  exact t_bind wX9_valueWordSign_T (fun _ _ => t_some trivial)
theorem wX9_cutOne_T {x2 : Int32} {s : wS} : Tot (wX9_cutOne x2 s) (fun r => wA bR s r.2) := by
  have j108 : ∀ y0 y1, Tot (wX9_cutOne_j108 x2 y0 y1 s) (fun r => wA bR s r.2) := by
    intro y0 y1
    unfold wX9_cutOne_j108 wX9_cutOne_j131
    exact t_bind wX9_byteSign_T (fun t15 _ => t_bind wX9_put_T (fun s18 h => t_ite (fun _ => t_some h) (fun _ => t_ite (fun _ => t_some h) (fun _ => t_some h))))
  unfold wX9_cutOne
  refine t_bind wX8_byteAt_T (fun t1 _ => t_ite (fun _ => t_some wA.refl) (fun _ => ?_))
  refine t_bind wX8_isBetween_T (fun t4 _ => t_ite (fun _ => ?_) (fun _ => ?_))
  · refine t_bind wX8_isBetween_T (fun t7 _ => t_ite (fun _ => ?_) (fun _ => ?_))
    · exact t_bind wX8_byteAt_T (fun t10 _ => t_bind wX8_byteAt_T (fun t12 _ => t_ite (fun _ => j108 _ _) (fun _ => j108 _ _)))
    · exact t_bind wX9_endOf_T (fun t22 _ => t_bind wX9_numberAt_T (fun t24 _ => t_bind wX9_put_T (fun s27 h => t_some h)))
  · exact t_bind wX9_endOf_T (fun t29 _ => t_bind wX9_wordSign_T (fun t31 _ => t_bind wX9_put_T (fun s34 h => t_some h)))
theorem wX9_cut_h19_T : ∀ (n : Nat) {x2 x3 : Int32} {s : wS}, 2147483648 - x3.toInt < (n : Int) → Tot (wX9_cut_h19 n x2 x3 s) (fun r => wA bR s r) := by
  intro n
  induction n with
  | zero => intro x2 x3 s hm; exact (t_m0 hm).elim
  | succ n ih =>
    intro x2 x3 s hm
    rw [wX9_cut_h19]
    refine t_ite (fun c => t_ite (fun _ => ?_) (fun _ => t_some wA.refl)) (fun _ => t_some wA.refl)
    refine t_bind wX9_cutOne_T (fun r h => ?_)
    obtain ⟨t6, s7⟩ := r
    exact t_mono (ih (t_m1 c hm)) (fun r hr => h.trans hr)
theorem wX9_cut_T {s : wS} : Tot (wX9_cut s) (fun r => wA bR s r) := by
  unfold wX9_cut
  refine t_bind (t_pfI (B := bR) rfl) (fun s1 h1 => t_bind (t_pfI (B := bR) rfl) (fun s2 h2 => t_bind (t_pfI (B := bR) rfl) (fun s3 h3 => t_bind (wX9_cut_h19_T _ t_mi) (fun s10 h10 => ?_))))
  unfold wX9_cut_j47
  exact t_bind wX9_put_T (fun s14 h => t_some ((((h1.1.trans h2.1).trans h3.1).trans h10).trans h))
/-- what a court's reading may write -/
noncomputable def bK (k b : Nat) : Bool := bR k b || (Nat.beq k 1 || ((Nat.beq k 14 && Nat.blt b 11) || (Nat.ble 15 k && Nat.ble k 18)))
theorem bR_le_bK : ∀ k b, bR k b = true → bK k b = true := fun k b h => by
  unfold bK
  rw [h]
  rfl
theorem bK_14 {b : Nat} (h : Nat.blt b 11 = true) : bK 14 b = true := by
  unfold bK
  rw [show (Nat.beq 14 14 && Nat.blt b 11) = true by rw [h]; rfl, Bool.true_or, Bool.or_true, Bool.or_true]
theorem wX2_open_T {s : wS} : Tot (wX2_open 14 9 s) (fun r => wA bK s r) := by
  unfold wX2_open
  refine t_bind (wX0_becomes_T (B := bK) (k0 := 15) (k1 := 9) rfl rfl (fun _ => rfl) (fun _ => rfl) (fun _ => rfl)) (fun s2 h2 => ?_)
  refine t_bind (t_pfI (B := bK) rfl) (fun s4 h4 => t_bind (t_pfI (B := bK) rfl) (fun s5 h5 => t_bind (t_pfI (B := bK) rfl) (fun s6 h6 => t_some ?_)))
  exact ((h2.trans h4.1).trans h5.1).trans h6.1
theorem wX10_court_T {s : wS} : Tot (wX10_court s) (fun r => wA bK s r.2) := by
  unfold wX10_court
  refine t_bind wX9_cut_T (fun s2 h2 => t_bind (t_pfI (B := bK) rfl) (fun s4 h4 => t_bind wX1_read_T (fun s6 h6 => ?_)))
  have A := ((h2.mono bR_le_bK).trans h4.1).trans (h6.mono bR_le_bK)
  refine t_ite (fun _ => ?_) (fun _ => t_some A)
  refine t_bind wX2_open_T (fun s10 h10 => t_bind wX10_courtIsAnother_T (fun s13 h13 => t_bind (wX0_worlds_T rfl) (fun t15 _ => t_some ?_)))
  exact (A.trans h10).trans (h13.mono bR_le_bK)
/-- what a LAW's reading may write -/
noncomputable def bKL (k b : Nat) : Bool := bK k b || (Nat.beq k 0 && Nat.beq b 6)
theorem bK_le_bKL : ∀ k b, bK k b = true → bKL k b = true := fun k b h => by
  unfold bKL
  rw [h]
  rfl
theorem bR_le_bKL : ∀ k b, bR k b = true → bKL k b = true := fun k b h => bK_le_bKL k b (bR_le_bK k b h)
theorem wX10_law_T {s : wS} (h0 : 0 ≤ (s.1 0 6).toInt ∧ (s.1 0 6).toInt ≤ 6) : Tot (wX10_law s) (fun r => wA bKL s r.2 ∧ 0 ≤ (r.2.1 0 6).toInt ∧ (r.2.1 0 6).toInt ≤ 6) := by
  unfold wX10_law
  refine t_ite (fun c => ?_) (fun _ => t_some ⟨wA.refl, h0⟩)
  have hc := t_lt c
  rw [show (6 : Int32).toInt = 6 from rfl] at hc
  refine t_bind (t_ldR3 h0.1 hc) (fun k2 hk => t_bind wX9_cut_T (fun s4 h4 => t_bind (t_pfI (B := bKL) rfl) (fun s6 h6 => t_bind (wX4_read_T hk.1) (fun s8 h8 => ?_))))
  have A : wA bKL s s8 := ((h4.mono bR_le_bKL).trans h6.1).trans (h8.mono bR_le_bKL)
  have e4 : s4.1 0 6 = s.1 0 6 := h4 0 6 rfl
  have e8 : s8.1 0 6 = s.1 0 6 := by rw [h8 0 6 rfl, h6.2, wupI_n (by omega), e4]
  refine t_ite (fun _ => ?_) (fun _ => t_some ⟨A, by show 0 ≤ (s8.1 0 6).toInt ∧ (s8.1 0 6).toInt ≤ 6; rw [e8]; exact h0⟩)
  refine t_bind (t_pfI (B := bKL) rfl) (fun s11 h11 => t_some ⟨A.trans h11.1, ?_⟩)
  show 0 ≤ (s11.1 0 6).toInt ∧ (s11.1 0 6).toInt ≤ 6
  rw [h11.2, wup_same, e8, t_p1 h0.1 (by omega)]
  omega
