/-! What is told leaves the COURT, the LAWS and their tables. -/
theorem wX0_clear_KT {s0 : wS} {k0 : Nat} {s : wS}  (hk0_1 : ∀ b, bKt (k0 + 1) b = true) (g : KT s0 s) : PK (wX0_clear k0 s) (fun (r : wS) => KT s0 r) := by
  unfold wX0_clear
  refine pk_bind (kt_stI hk0_1 g) (fun s1 g1 => ?_)
  refine pk_bind (kt_stI hk0_1 g1) (fun s2 g2 => ?_)
  refine pk_bind (kt_stI hk0_1 g2) (fun s3 g3 => ?_)
  exact pk_some g3
theorem wX0_setHours_j19_KT {s0 : wS} {k100 : Nat} {y1 : Int32} {y2 : Int32} {s : wS}  (hk100_0 : ∀ b, bKt (k100) b = true) (g : KT s0 s) : PK (wX0_setHours_j19 k100 y1 y2 s) (fun (r : wS) => KT s0 r) := by
  unfold wX0_setHours_j19
  refine pk_bind (kt_stI hk100_0 g) (fun s4 g1 => ?_)
  exact pk_some g1
theorem wX0_setHours_KT {s0 : wS} {k0 : Nat} {x1 : Int32} {s : wS}  (hk0_1 : ∀ b, bKt (k0 + 1) b = true) (g : KT s0 s) : PK (wX0_setHours k0 x1 s) (fun (r : wS) => KT s0 r) := by
  unfold wX0_setHours
  refine pk_bind pk_any (fun t1 _ => ?_)
  refine pk_ite (fun _ => ?_) (fun _ => ?_)
  · exact wX0_setHours_j19_KT hk0_1 g
  · exact wX0_setHours_j19_KT hk0_1 g
theorem wX10_set_KT {s0 : wS} {k0 : Nat} {x1 : Int32} {x2 : Int32} {s : wS}  (hk0_0 : ∀ b, bKt (k0) b = true) (g : KT s0 s) : PK (wX10_set k0 x1 x2 s) (fun (r : wS) => KT s0 r) := by
  unfold wX10_set
  refine pk_ite (fun _ => ?_) (fun _ => ?_)
  · exact pk_some g
  · refine pk_ite (fun _ => ?_) (fun _ => ?_)
    · refine pk_bind (kt_stI hk0_0 g) (fun s3 g1 => ?_)
      exact pk_some g1
    · exact pk_some g
theorem wX0_add_KT {s0 : wS} {k0 : Nat} {x1 : Int32} {x2 : Int32} {x3 : Int32} {s : wS}  (hk0_1 : ∀ b, bKt (k0 + 1) b = true) (hk0_2 : ∀ b, bKt (k0 + 2) b = true) (hk0_3 : ∀ b, bKt (k0 + 3) b = true) (g : KT s0 s) : PK (wX0_add k0 x1 x2 x3 s) (fun (r : wS) => KT s0 r) := by
  unfold wX0_add
  refine pk_bind pk_any (fun t1 _ => ?_)
  refine pk_ite (fun _ => ?_) (fun _ => ?_)
  · refine pk_bind pk_any (fun t4 _ => ?_)
    refine pk_bind (wX10_set_KT hk0_2 g) (fun s7 g1 => ?_)
    refine pk_bind pk_any (fun t9 _ => ?_)
    refine pk_bind (wX10_set_KT hk0_3 g1) (fun s12 g2 => ?_)
    refine pk_bind (wX10_set_KT hk0_1 g2) (fun s15 g3 => ?_)
    exact pk_some g3
  · exact pk_some g
theorem wX0_becomes_KT {s0 : wS} {k0 : Nat} {k1 : Nat} {s : wS}  (hk0_1 : ∀ b, bKt (k0 + 1) b = true) (hk0_2 : ∀ b, bKt (k0 + 2) b = true) (hk0_3 : ∀ b, bKt (k0 + 3) b = true) (g : KT s0 s) : PK (wX0_becomes k0 k1 s) (fun (r : wS) => KT s0 r) := by
  unfold wX0_becomes
  refine pk_bind (kt_cpI hk0_1 g) (fun s1 g1 => ?_)
  refine pk_bind (kt_cpI hk0_2 g1) (fun s2 g2 => ?_)
  refine pk_bind (kt_cpI hk0_3 g2) (fun s3 g3 => ?_)
  exact pk_some g3
theorem wX9_skip_KT {s0 : wS} {s : wS}   (g : KT s0 s) : PK (wX9_skip s) (fun (r : wS) => KT s0 r) := by
  unfold wX9_skip
  refine pk_ite (fun _ => ?_) (fun _ => ?_)
  · refine pk_bind (kt_pfI rfl g) (fun s2 g1 => ?_)
    exact pk_some g1
  · exact pk_some g
theorem wX9_fail_j29_KT {s0 : wS} {s : wS}   (g : KT s0 s) : PK (wX9_fail_j29 s) (fun (r : wS) => KT s0 r) := by
  unfold wX9_fail_j29
  refine pk_bind (kt_pfI rfl g) (fun s5 g1 => ?_)
  exact pk_some g1
theorem wX9_fail_KT {s0 : wS} {x1 : Int32} {s : wS}   (g : KT s0 s) : PK (wX9_fail x1 s) (fun (r : wS) => KT s0 r) := by
  unfold wX9_fail
  refine pk_ite (fun _ => ?_) (fun _ => ?_)
  · refine pk_bind pk_any (fun t2 _ => ?_)
    refine pk_bind (kt_pfI rfl g) (fun s4 g1 => ?_)
    exact wX9_fail_j29_KT g1
  · exact wX9_fail_j29_KT g
theorem wX9_takeNumber_j45_KT {s0 : wS} {x3 : Int32} {s : wS}   (g : KT s0 s) : PK (wX9_takeNumber_j45 x3 s) (fun (r : Int32 × wS) => KT s0 r.2) := by
  unfold wX9_takeNumber_j45
  refine pk_bind (wX9_fail_KT g) (fun s8 g1 => ?_)
  exact pk_some g1
theorem wX9_takeNumber_KT {s0 : wS} {x1 : Int32} {x2 : Int32} {s : wS}   (g : KT s0 s) : PK (wX9_takeNumber x1 x2 s) (fun (r : Int32 × wS) => KT s0 r.2) := by
  unfold wX9_takeNumber
  refine pk_bind pk_any (fun t1 _ => ?_)
  refine pk_bind pk_any (fun t3 _ => ?_)
  refine pk_ite (fun _ => ?_) (fun _ => ?_)
  · refine pk_ite (fun _ => ?_) (fun _ => ?_)
    · exact wX9_takeNumber_j45_KT g
    · refine pk_ite (fun _ => ?_) (fun _ => ?_)
      · exact wX9_takeNumber_j45_KT g
      · refine pk_bind (wX9_skip_KT g) (fun s12 g1 => ?_)
        exact pk_some g1
  · refine pk_bind (wX9_fail_KT g) (fun s15 g2 => ?_)
    exact pk_some g2
theorem wX1_readClause_j121_KT {s0 : wS} {k100 : Nat} {y1 : Int32} {y2 : Int32} {y4 : Int32} {y5 : Int32} {s : wS}  (hk100_1 : ∀ b, bKt (k100 + 1) b = true) (hk100_2 : ∀ b, bKt (k100 + 2) b = true) (hk100_3 : ∀ b, bKt (k100 + 3) b = true) (g : KT s0 s) : PK (wX1_readClause_j121 k100 y1 y2 y4 y5 s) (fun (r : wS) => KT s0 r) := by
  unfold wX1_readClause_j121
  refine pk_bind (wX9_takeNumber_KT g) (fun p1 h2 => ?_)
  obtain ⟨t26, s27⟩ := p1
  have g3 : KT s0 s27 := h2
  dsimp only
  refine pk_bind (wX0_add_KT hk100_1 hk100_2 hk100_3 g3) (fun s30 g4 => ?_)
  exact pk_some g4
theorem wX1_readClause_j51_KT {s0 : wS} {k2 : Nat} {x4 : Int32} {y0 : Int32} {s : wS}  (hk2_1 : ∀ b, bKt (k2 + 1) b = true) (hk2_2 : ∀ b, bKt (k2 + 2) b = true) (hk2_3 : ∀ b, bKt (k2 + 3) b = true) (g : KT s0 s) : PK (wX1_readClause_j51 k2 x4 y0 s) (fun (r : wS) => KT s0 r) := by
  unfold wX1_readClause_j51
  refine pk_ite (fun _ => ?_) (fun _ => ?_)
  · refine pk_bind (wX9_skip_KT g) (fun s12 g1 => ?_)
    refine pk_ite (fun _ => ?_) (fun _ => ?_)
    · refine pk_bind (wX9_takeNumber_KT g1) (fun p2 h3 => ?_)
      obtain ⟨t15, s16⟩ := p2
      have g4 : KT s0 s16 := h3
      dsimp only
      refine pk_bind (wX0_setHours_KT hk2_1 g4) (fun s19 g5 => ?_)
      refine pk_bind (kt_pfZ rfl g5) (fun s21 g6 => ?_)
      exact pk_some g6
    · refine pk_bind (wX9_takeNumber_KT g1) (fun p7 h8 => ?_)
      obtain ⟨t22, s23⟩ := p7
      have g9 : KT s0 s23 := h8
      dsimp only
      refine pk_ite (fun _ => ?_) (fun _ => ?_)
      · exact wX1_readClause_j121_KT hk2_1 hk2_2 hk2_3 g9
      · exact wX1_readClause_j121_KT hk2_1 hk2_2 hk2_3 g9
  · refine pk_bind (wX9_fail_KT g) (fun s33 g10 => ?_)
    exact pk_some g10
theorem wX1_readClause_KT {s0 : wS} {k2 : Nat} {s : wS}  (hk2_1 : ∀ b, bKt (k2 + 1) b = true) (hk2_2 : ∀ b, bKt (k2 + 2) b = true) (hk2_3 : ∀ b, bKt (k2 + 3) b = true) (g : KT s0 s) : PK (wX1_readClause k2 s) (fun (r : wS) => KT s0 r) := by
  unfold wX1_readClause
  refine pk_bind pk_any (fun t1 _ => ?_)
  refine pk_bind pk_any (fun t3 _ => ?_)
  refine pk_ite (fun _ => ?_) (fun _ => ?_)
  · refine pk_bind (wX9_fail_KT g) (fun s7 g1 => ?_)
    exact pk_some g1
  · refine pk_ite (fun _ => ?_) (fun _ => ?_)
    · exact wX1_readClause_j51_KT hk2_1 hk2_2 hk2_3 g
    · refine pk_bind pk_any (fun t35 _ => ?_)
      refine pk_ite (fun _ => ?_) (fun _ => ?_)
      · exact wX1_readClause_j51_KT hk2_1 hk2_2 hk2_3 g
      · exact wX1_readClause_j51_KT hk2_1 hk2_2 hk2_3 g
theorem wX9_take_KT {s0 : wS} {x1 : Int32} {s : wS}   (g : KT s0 s) : PK (wX9_take x1 s) (fun (r : Int32 × wS) => KT s0 r.2) := by
  unfold wX9_take
  refine pk_bind pk_any (fun t1 _ => ?_)
  refine pk_ite (fun _ => ?_) (fun _ => ?_)
  · refine pk_bind (wX9_skip_KT g) (fun s5 g1 => ?_)
    exact pk_some g1
  · exact pk_some g
theorem wX1_read_h14_KT {s0 : wS} {k2 : Nat}  (hk2_1 : ∀ b, bKt (k2 + 1) b = true) (hk2_2 : ∀ b, bKt (k2 + 2) b = true) (hk2_3 : ∀ b, bKt (k2 + 3) b = true) : ∀ (n : Nat) {x3 : Int32} {x4 : Int32} {s : wS}, KT s0 s → PK (wX1_read_h14 k2 n x3 x4 s) (fun (r : wS) => KT s0 r) := by
  intro n
  induction n with
  | zero =>
    intro x3 x4 s g
    rw [wX1_read_h14]
    exact pk_none
  | succ n ih =>
    intro x3 x4 s g
    rw [wX1_read_h14]
    refine pk_ite (fun _ => ?_) (fun _ => ?_)
    · refine pk_ite (fun _ => ?_) (fun _ => ?_)
      · exact pk_some g
      · refine pk_bind (wX1_readClause_KT hk2_1 hk2_2 hk2_3 g) (fun s8 g1 => ?_)
        refine pk_bind (wX9_take_KT g1) (fun p2 h3 => ?_)
        obtain ⟨t10, s11⟩ := p2
        have g4 : KT s0 s11 := h3
        dsimp only
        exact ih g4
    · exact pk_some g
theorem wX1_read_j58_KT {s0 : wS} {s : wS}   (g : KT s0 s) : PK (wX1_read_j58 s) (fun (r : wS) => KT s0 r) := by
  unfold wX1_read_j58
  refine pk_bind (wX9_fail_KT g) (fun s24 g1 => ?_)
  exact pk_some g1
theorem wX1_read_j44_KT {s0 : wS} {k2 : Nat} {s : wS}   (g : KT s0 s) : PK (wX1_read_j44 k2 s) (fun (r : wS) => KT s0 r) := by
  unfold wX1_read_j44
  refine pk_bind pk_any (fun t17 _ => ?_)
  refine pk_ite (fun _ => ?_) (fun _ => ?_)
  · refine pk_bind pk_any (fun t20 _ => ?_)
    refine pk_ite (fun _ => ?_) (fun _ => ?_)
    · exact wX1_read_j58_KT g
    · exact pk_some g
  · exact wX1_read_j58_KT g
theorem wX1_read_KT {s0 : wS} {k2 : Nat} {s : wS}  (hk2_1 : ∀ b, bKt (k2 + 1) b = true) (hk2_2 : ∀ b, bKt (k2 + 2) b = true) (hk2_3 : ∀ b, bKt (k2 + 3) b = true) (g : KT s0 s) : PK (wX1_read k2 s) (fun (r : wS) => KT s0 r) := by
  unfold wX1_read
  refine pk_bind (wX0_clear_KT hk2_1 g) (fun s2 g1 => ?_)
  refine pk_bind (kt_pfZ rfl g1) (fun s4 g2 => ?_)
  refine pk_bind (wX1_read_h14_KT hk2_1 hk2_2 hk2_3 _ g2) (fun s14 g3 => ?_)
  exact wX1_read_j44_KT g3
theorem wX2_becomes_h73_KT {s0 : wS} {k0 : Nat} {k1 : Nat}  (hk0_9 : ∀ b, bKt (k0 + 9) b = true) : ∀ (n : Nat) {x2 : Int32} {s : wS}, KT s0 s → PK (wX2_becomes_h73 k0 k1 n x2 s) (fun (r : wS) => KT s0 r) := by
  intro n
  induction n with
  | zero =>
    intro x2 s g
    rw [wX2_becomes_h73]
    exact pk_none
  | succ n ih =>
    intro x2 s g
    rw [wX2_becomes_h73]
    refine pk_ite (fun _ => ?_) (fun _ => ?_)
    · refine pk_bind pk_any (fun t9 _ => ?_)
      refine pk_bind (kt_stZ hk0_9 g) (fun s10 g1 => ?_)
      exact ih g1
    · exact pk_some g
theorem wX2_becomes_KT {s0 : wS} {k0 : Nat} {k1 : Nat} {s : wS}  (hk0_0 : ∀ b, bKt (k0) b = true) (hk0_2 : ∀ b, bKt (k0 + 2) b = true) (hk0_3 : ∀ b, bKt (k0 + 3) b = true) (hk0_4 : ∀ b, bKt (k0 + 4) b = true) (hk0_5 : ∀ b, bKt (k0 + 5) b = true) (hk0_6 : ∀ b, bKt (k0 + 6) b = true) (hk0_7 : ∀ b, bKt (k0 + 7) b = true) (hk0_8 : ∀ b, bKt (k0 + 8) b = true) (hk0_9 : ∀ b, bKt (k0 + 9) b = true) (hk0_10 : ∀ b, bKt (k0 + 10) b = true) (hk0_11 : ∀ b, bKt (k0 + 11) b = true) (g : KT s0 s) : PK (wX2_becomes k0 k1 s) (fun (r : wS) => KT s0 r) := by
  unfold wX2_becomes
  refine pk_bind (wX0_becomes_KT hk0_2 hk0_3 hk0_4 g) (fun s2 g1 => ?_)
  refine pk_bind (kt_cpI hk0_5 g1) (fun s4 g2 => ?_)
  refine pk_bind (kt_cpI hk0_6 g2) (fun s5 g3 => ?_)
  refine pk_bind (kt_cpI hk0_7 g3) (fun s6 g4 => ?_)
  refine pk_bind (kt_cpI hk0_8 g4) (fun s7 g5 => ?_)
  refine pk_bind (wX2_becomes_h73_KT hk0_9 _ g5) (fun s12 g6 => ?_)
  refine pk_bind (kt_pfI (hk0_0 _) g6) (fun s14 g7 => ?_)
  refine pk_bind (kt_pfI (hk0_0 _) g7) (fun s15 g8 => ?_)
  refine pk_bind (kt_cpI hk0_10 g8) (fun s16 g9 => ?_)
  refine pk_bind (kt_cpI hk0_11 g9) (fun s17 g10 => ?_)
  refine pk_bind (kt_pfI (hk0_0 _) g10) (fun s18 g11 => ?_)
  refine pk_bind (kt_pfI (hk0_0 _) g11) (fun s19 g12 => ?_)
  exact pk_some g12
theorem wX2_takeDown_KT {s0 : wS} {k0 : Nat} {x1 : Int32} {x2 : Int32} {x3 : Int32} {x4 : Int32} {s : wS}  (hk0_0 : ∀ b, bKt (k0) b = true) (hk0_5 : ∀ b, bKt (k0 + 5) b = true) (hk0_6 : ∀ b, bKt (k0 + 6) b = true) (hk0_7 : ∀ b, bKt (k0 + 7) b = true) (hk0_8 : ∀ b, bKt (k0 + 8) b = true) (hk0_9 : ∀ b, bKt (k0 + 9) b = true) (g : KT s0 s) : PK (wX2_takeDown k0 x1 x2 x3 x4 s) (fun (r : Int32 × wS) => KT s0 r.2) := by
  unfold wX2_takeDown
  refine pk_bind pk_any (fun t1 _ => ?_)
  refine pk_ite (fun _ => ?_) (fun _ => ?_)
  · refine pk_bind (kt_stI hk0_5 g) (fun s4 g1 => ?_)
    refine pk_bind (kt_stI hk0_6 g1) (fun s5 g2 => ?_)
    refine pk_bind (kt_stI hk0_7 g2) (fun s6 g3 => ?_)
    refine pk_bind (kt_stI hk0_8 g3) (fun s7 g4 => ?_)
    refine pk_bind (kt_stZ hk0_9 g4) (fun s8 g5 => ?_)
    refine pk_bind (kt_pfI (hk0_0 _) g5) (fun s9 g6 => ?_)
    exact pk_some g6
  · exact pk_some g
theorem wX2_setStruck_KT {s0 : wS} {k0 : Nat} {x1 : Int32} {x2 : Int32} {s : wS}  (hk0_9 : ∀ b, bKt (k0 + 9) b = true) (g : KT s0 s) : PK (wX2_setStruck k0 x1 x2 s) (fun (r : wS) => KT s0 r) := by
  unfold wX2_setStruck
  refine pk_bind pk_any (fun t1 _ => ?_)
  refine pk_ite (fun _ => ?_) (fun _ => ?_)
  · refine pk_bind (kt_stZ hk0_9 g) (fun s4 g1 => ?_)
    exact pk_some g1
  · exact pk_some g
theorem wX2_judge_KT {s0 : wS} {k0 : Nat} {x1 : Int32} {s : wS}  (hk0_0 : ∀ b, bKt (k0) b = true) (hk0_10 : ∀ b, bKt (k0 + 10) b = true) (hk0_11 : ∀ b, bKt (k0 + 11) b = true) (g : KT s0 s) : PK (wX2_judge k0 x1 s) (fun (r : wS) => KT s0 r) := by
  unfold wX2_judge
  refine pk_bind pk_any (fun t1 _ => ?_)
  refine pk_ite (fun _ => ?_) (fun _ => ?_)
  · refine pk_bind (kt_stI hk0_10 g) (fun s4 g1 => ?_)
    refine pk_bind (kt_stI hk0_11 g1) (fun s5 g2 => ?_)
    refine pk_bind (kt_pfI (hk0_0 _) g2) (fun s6 g3 => ?_)
    exact pk_some g3
  · exact pk_some g
theorem wX8_putNumber_j45_KT {s0 : wS} {x1 : Int32} {x2 : Int32} {s : wS} {qq : Int32 → wS → Option (wS)} (hqq : ∀ (v0 : Int32) (v1 : wS), KT s0 v1 → PK (qq v0 v1) (fun (r : wS) => KT s0 r)) (g : KT s0 s) : PK (wX8_putNumber_j45 qq x1 x2 s) (fun (r : wS) => KT s0 r) := by
  unfold wX8_putNumber_j45
  exact hqq _ _ g
theorem wX8_putNumber_h3_KT {s0 : wS} {x1 : Int32}   : ∀ (n : Nat) {x2 : Int32} {s : wS}, KT s0 s → PK (wX8_putNumber_h3 x1 n x2 s) (fun (r : wS) => KT s0 r) := by
  intro n
  induction n with
  | zero =>
    intro x2 s g
    rw [wX8_putNumber_h3]
    exact pk_none
  | succ n ih =>
    intro x2 s g
    rw [wX8_putNumber_h3]
    refine pk_ite (fun _ => ?_) (fun _ => ?_)
    · exact pk_some g
    · refine pk_bind pk_any (fun t2 _ => ?_)
      refine pk_ite (fun _ => ?_) (fun _ => ?_)
      · refine pk_bind (kt_stB (fun _ => rfl) g) (fun s5 g1 => ?_)
        refine pk_bind (kt_pfI rfl g1) (fun s6 g2 => ?_)
        exact wX8_putNumber_j45_KT (fun _ _ g => ih g) g2
      · exact wX8_putNumber_j45_KT (fun _ _ g => ih g) g
theorem wX8_putNumber_KT {s0 : wS} {x1 : Int32} {s : wS}   (g : KT s0 s) : PK (wX8_putNumber x1 s) (fun (r : wS) => KT s0 r) := by
  unfold wX8_putNumber
  refine pk_bind (wX8_putNumber_h3_KT _ g) (fun s8 g1 => ?_)
  exact pk_some g1
theorem wX9_put_KT {s0 : wS} {x1 : Int32} {x2 : Int32} {x3 : Int32} {s : wS}   (g : KT s0 s) : PK (wX9_put x1 x2 x3 s) (fun (r : wS) => KT s0 r) := by
  unfold wX9_put
  refine pk_bind pk_any (fun t1 _ => ?_)
  refine pk_ite (fun _ => ?_) (fun _ => ?_)
  · refine pk_bind (kt_stI (fun _ => rfl) g) (fun s4 g1 => ?_)
    refine pk_bind (kt_stI (fun _ => rfl) g1) (fun s5 g2 => ?_)
    refine pk_bind (kt_stI (fun _ => rfl) g2) (fun s6 g3 => ?_)
    refine pk_bind (kt_pfI rfl g3) (fun s7 g4 => ?_)
    exact pk_some g4
  · exact pk_some g
theorem wX10_feed_KT {s0 : wS} {x1 : Int32} {x2 : Int32} {x3 : Int32} {x4 : Int32} {x5 : Int32} {s : wS}   (g : KT s0 s) : PK (wX10_feed x1 x2 x3 x4 x5 s) (fun (r : Int32 × wS) => KT s0 r.2) := by
  unfold wX10_feed
  refine pk_ite (fun _ => ?_) (fun _ => ?_)
  · exact pk_some g
  · refine pk_bind (wX8_putNumber_KT g) (fun s3 g1 => ?_)
    refine pk_bind (wX8_putNumber_KT g1) (fun s6 g2 => ?_)
    refine pk_bind (wX8_putNumber_KT g2) (fun s9 g3 => ?_)
    refine pk_bind (wX8_putNumber_KT g3) (fun s12 g4 => ?_)
    refine pk_bind (wX8_putNumber_KT g4) (fun s15 g5 => ?_)
    exact pk_some g5
theorem wX10_end_KT {s0 : wS} {x1 : Int32} {s : wS}   (g : KT s0 s) : PK (wX10_end x1 s) (fun (r : Int32 × wS) => KT s0 r.2) := by
  unfold wX10_end
  refine pk_ite (fun _ => ?_) (fun _ => ?_)
  · exact pk_some g
  · refine pk_ite (fun _ => ?_) (fun _ => ?_)
    · exact pk_some g
    · refine pk_bind (kt_pfI rfl g) (fun s3 g1 => ?_)
      exact pk_some g1
theorem wX10_answer_KT {s0 : wS} {x1 : Int32} {x2 : Int32} {x3 : Int32} {x4 : Int32} {s : wS}   (g : KT s0 s) : PK (wX10_answer x1 x2 x3 x4 s) (fun (r : Int32 × wS) => KT s0 r.2) := by
  unfold wX10_answer
  refine pk_bind pk_any (fun t1 _ => ?_)
  refine pk_ite (fun _ => ?_) (fun _ => ?_)
  · refine pk_bind pk_any (fun t4 _ => ?_)
    refine pk_ite (fun _ => ?_) (fun _ => ?_)
    · refine pk_bind pk_any (fun t7 _ => ?_)
      refine pk_ite (fun _ => ?_) (fun _ => ?_)
      · exact pk_some g
      · refine pk_bind pk_any (fun t10 _ => ?_)
        refine pk_ite (fun _ => ?_) (fun _ => ?_)
        · exact pk_some g
        · refine pk_ite (fun _ => ?_) (fun _ => ?_)
          · exact pk_some g
          · refine pk_bind (wX2_takeDown_KT (fun _ => rfl) (fun _ => rfl) (fun _ => rfl) (fun _ => rfl) (fun _ => rfl) (fun _ => rfl) g) (fun p1 h2 => ?_)
            obtain ⟨t14, s15⟩ := p1
            have g3 : KT s0 s15 := h2
            dsimp only
            exact pk_some g3
    · exact pk_some g
  · exact pk_some g
theorem wX10_strike_KT {s0 : wS} {x1 : Int32} {x2 : Int32} {s : wS}   (g : KT s0 s) : PK (wX10_strike x1 x2 s) (fun (r : Int32 × wS) => KT s0 r.2) := by
  unfold wX10_strike
  refine pk_bind pk_any (fun t1 _ => ?_)
  refine pk_ite (fun _ => ?_) (fun _ => ?_)
  · exact pk_some g
  · refine pk_bind pk_any (fun t4 _ => ?_)
    refine pk_ite (fun _ => ?_) (fun _ => ?_)
    · exact pk_some g
    · refine pk_bind (wX2_setStruck_KT (fun _ => rfl) g) (fun s8 g1 => ?_)
      exact pk_some g1
theorem wX10_only_KT {s0 : wS} {x1 : Int32} {s : wS}   (g : KT s0 s) : PK (wX10_only x1 s) (fun (r : Int32 × wS) => KT s0 r.2) := by
  unfold wX10_only
  refine pk_ite (fun _ => ?_) (fun _ => ?_)
  · exact pk_some g
  · refine pk_ite (fun _ => ?_) (fun _ => ?_)
    · exact pk_some g
    · refine pk_bind (kt_pfI rfl g) (fun s3 g1 => ?_)
      exact pk_some g1
theorem wX10_seed_KT {s0 : wS} {x1 : Int32} {s : wS}   (g : KT s0 s) : PK (wX10_seed x1 s) (fun (r : Int32 × wS) => KT s0 r.2) := by
  unfold wX10_seed
  refine pk_ite (fun _ => ?_) (fun _ => ?_)
  · exact pk_some g
  · refine pk_bind (kt_pfI rfl g) (fun s2 g1 => ?_)
    exact pk_some g1
theorem wX10_verdict_KT {s0 : wS} {x1 : Int32} {s : wS}   (g : KT s0 s) : PK (wX10_verdict x1 s) (fun (r : Int32 × wS) => KT s0 r.2) := by
  unfold wX10_verdict
  refine pk_ite (fun _ => ?_) (fun _ => ?_)
  · refine pk_bind (kt_pfI rfl g) (fun s2 g1 => ?_)
    exact pk_some g1
  · refine pk_bind pk_any (fun t3 _ => ?_)
    refine pk_bind pk_any (fun t5 _ => ?_)
    refine pk_ite (fun _ => ?_) (fun _ => ?_)
    · refine pk_ite (fun _ => ?_) (fun _ => ?_)
      · refine pk_bind (wX2_judge_KT (fun _ => rfl) (fun _ => rfl) (fun _ => rfl) g) (fun s10 g2 => ?_)
        exact pk_some g2
      · exact pk_some g
    · exact pk_some g
theorem wX10_image_KT {s0 : wS} {x1 : Int32} {s : wS}   (g : KT s0 s) : PK (wX10_image x1 s) (fun (r : Int32 × wS) => KT s0 r.2) := by
  unfold wX10_image
  refine pk_bind pk_any (fun t1 _ => ?_)
  refine pk_ite (fun _ => ?_) (fun _ => ?_)
  · refine pk_bind pk_ldR26 (fun k4 hk4 => ?_)
    refine pk_bind pk_ldR26 (fun k5 hk5 => ?_)
    refine pk_bind (wX2_becomes_KT (fun _ => bK_im0 hk5) (fun _ => bK_im hk5 (by decide)) (fun _ => bK_im hk5 (by decide)) (fun _ => bK_im hk5 (by decide)) (fun _ => bK_im hk5 (by decide)) (fun _ => bK_im hk5 (by decide)) (fun _ => bK_im hk5 (by decide)) (fun _ => bK_im hk5 (by decide)) (fun _ => bK_im hk5 (by decide)) (fun _ => bK_im hk5 (by decide)) (fun _ => bK_im hk5 (by decide)) g) (fun s7 g1 => ?_)
    refine pk_bind (kt_stZ (fun _ => rfl) g1) (fun s9 g2 => ?_)
    exact pk_some g2
  · exact pk_some g
theorem wX11_four_h3_KT {s0 : wS} {x1 : Int32}   : ∀ (n : Nat) {x2 : Int32} {s : wS}, KT s0 s → PK (wX11_four_h3 x1 n x2 s) (fun (r : wS) => KT s0 r) := by
  intro n
  induction n with
  | zero =>
    intro x2 s g
    rw [wX11_four_h3]
    exact pk_none
  | succ n ih =>
    intro x2 s g
    rw [wX11_four_h3]
    refine pk_ite (fun _ => ?_) (fun _ => ?_)
    · exact pk_some g
    · refine pk_bind (kt_stB (fun _ => rfl) g) (fun s2 g1 => ?_)
      refine pk_bind (kt_pfI rfl g1) (fun s3 g2 => ?_)
      exact ih g2
theorem wX11_four_KT {s0 : wS} {x1 : Int32} {s : wS}   (g : KT s0 s) : PK (wX11_four x1 s) (fun (r : wS) => KT s0 r) := by
  unfold wX11_four
  refine pk_bind (wX11_four_h3_KT _ g) (fun s5 g1 => ?_)
  exact pk_some g1
theorem wX11_feed_KT {s0 : wS} {x1 : Int32} {x2 : Int32} {x3 : Int32} {x4 : Int32} {x5 : Int32} {s : wS}   (g : KT s0 s) : PK (wX11_feed x1 x2 x3 x4 x5 s) (fun (r : Int32 × wS) => KT s0 r.2) := by
  unfold wX11_feed
  refine pk_ite (fun _ => ?_) (fun _ => ?_)
  · exact pk_some g
  · refine pk_bind (wX11_four_KT g) (fun s3 g1 => ?_)
    refine pk_bind (wX11_four_KT g1) (fun s6 g2 => ?_)
    refine pk_bind (wX11_four_KT g2) (fun s9 g3 => ?_)
    refine pk_bind (wX11_four_KT g3) (fun s12 g4 => ?_)
    refine pk_bind (wX11_four_KT g4) (fun s15 g5 => ?_)
    exact pk_some g5
theorem wX11_end_KT {s0 : wS} {x1 : Int32} {s : wS}   (g : KT s0 s) : PK (wX11_end x1 s) (fun (r : Int32 × wS) => KT s0 r.2) := by
  unfold wX11_end
  refine pk_ite (fun _ => ?_) (fun _ => ?_)
  · exact pk_some g
  · refine pk_ite (fun _ => ?_) (fun _ => ?_)
    · exact pk_some g
    · refine pk_bind (kt_pfI rfl g) (fun s3 g1 => ?_)
      exact pk_some g1
theorem wX11_fails_KT {s0 : wS} {x1 : Int32} {x2 : Int32} {s : wS}   (g : KT s0 s) : PK (wX11_fails x1 x2 s) (fun (r : Int32 × wS) => KT s0 r.2) := by
  unfold wX11_fails
  refine pk_ite (fun _ => ?_) (fun _ => ?_)
  · refine pk_bind (kt_pfI rfl g) (fun s2 g1 => ?_)
    exact pk_some g1
  · exact pk_some g
theorem wX11_see_h0_KT {s0 : wS}    : ∀ (n : Nat) {s : wS}, KT s0 s → PK (wX11_see_h0 n s) (fun (r : wS) => KT s0 r) := by
  intro n
  induction n with
  | zero =>
    intro s g
    rw [wX11_see_h0]
    exact pk_none
  | succ n ih =>
    intro s g
    rw [wX11_see_h0]
    refine pk_ite (fun _ => ?_) (fun _ => ?_)
    · refine pk_bind pk_any (fun t2 _ => ?_)
      refine pk_ite (fun _ => ?_) (fun _ => ?_)
      · refine pk_bind (kt_pfI rfl g) (fun s4 g1 => ?_)
        exact ih g1
      · exact pk_some g
    · exact pk_some g
theorem wX11_see_j38_KT {s0 : wS} {s : wS}   (g : KT s0 s) : PK (wX11_see_j38 s) (fun (r : Int32 × wS) => KT s0 r.2) := by
  unfold wX11_see_j38
  refine pk_ite (fun _ => ?_) (fun _ => ?_)
  · refine pk_bind pk_any (fun t8 _ => ?_)
    exact pk_some g
  · exact pk_some g
theorem wX11_see_KT {s0 : wS} {s : wS}   (g : KT s0 s) : PK (wX11_see s) (fun (r : Int32 × wS) => KT s0 r.2) := by
  unfold wX11_see
  refine pk_bind (wX11_see_h0_KT _ g) (fun s6 g1 => ?_)
  exact wX11_see_j38_KT g1
theorem wX11_isWord_KT {s0 : wS} {x1 : Int64} {s : wS}   (g : KT s0 s) : PK (wX11_isWord x1 s) (fun (r : Int32 × wS) => KT s0 r.2) := by
  unfold wX11_isWord
  refine pk_bind (wX11_see_KT g) (fun p1 h2 => ?_)
  obtain ⟨t1, s2⟩ := p1
  have g3 : KT s0 s2 := h2
  dsimp only
  refine pk_bind pk_any (fun p4 h5 => ?_)
  obtain ⟨t10, t11⟩ := p4
  dsimp only
  refine pk_ite (fun _ => ?_) (fun _ => ?_)
  · refine pk_ite (fun _ => ?_) (fun _ => ?_)
    · refine pk_ite (fun _ => ?_) (fun _ => ?_)
      · exact pk_some g3
      · exact pk_some g3
    · exact pk_some g3
  · exact pk_some g3
theorem wX11_passWord_h0_KT {s0 : wS}    : ∀ (n : Nat) {s : wS}, KT s0 s → PK (wX11_passWord_h0 n s) (fun (r : wS) => KT s0 r) := by
  intro n
  induction n with
  | zero =>
    intro s g
    rw [wX11_passWord_h0]
    exact pk_none
  | succ n ih =>
    intro s g
    rw [wX11_passWord_h0]
    refine pk_bind pk_any (fun t1 _ => ?_)
    refine pk_ite (fun _ => ?_) (fun _ => ?_)
    · exact pk_some g
    · refine pk_bind (kt_pfI rfl g) (fun s4 g1 => ?_)
      exact ih g1
theorem wX11_passWord_KT {s0 : wS} {s : wS}   (g : KT s0 s) : PK (wX11_passWord s) (fun (r : wS) => KT s0 r) := by
  unfold wX11_passWord
  refine pk_bind (wX11_passWord_h0_KT _ g) (fun s6 g1 => ?_)
  exact pk_some g1
theorem wX11_takesWord_KT {s0 : wS} {x1 : Int64} {s : wS}   (g : KT s0 s) : PK (wX11_takesWord x1 s) (fun (r : Int32 × wS) => KT s0 r.2) := by
  unfold wX11_takesWord
  refine pk_bind (wX11_isWord_KT g) (fun p1 h2 => ?_)
  obtain ⟨t1, s2⟩ := p1
  have g3 : KT s0 s2 := h2
  dsimp only
  refine pk_ite (fun _ => ?_) (fun _ => ?_)
  · exact pk_some g3
  · refine pk_bind (wX11_passWord_KT g3) (fun s6 g4 => ?_)
    exact pk_some g4
theorem wX11_numberHere_j75_KT {s0 : wS} {x1 : Int32} {x2 : Int32} {x3 : Int32} {x4 : Int32} {s : wS} {qq : Int32 → wS → Option (Int32 × wS)} (hqq : ∀ (v0 : Int32) (v1 : wS), KT s0 v1 → PK (qq v0 v1) (fun (r : Int32 × wS) => KT s0 r.2)) (g : KT s0 s) : PK (wX11_numberHere_j75 qq x1 x2 x3 x4 s) (fun (r : Int32 × wS) => KT s0 r.2) := by
  unfold wX11_numberHere_j75
  refine pk_bind (kt_pfI rfl g) (fun s16 g1 => ?_)
  exact hqq _ _ g1
theorem wX11_numberHere_h34_KT {s0 : wS} {x1 : Int32} {x2 : Int32} {x3 : Int32}   : ∀ (n : Nat) {x4 : Int32} {s : wS}, KT s0 s → PK (wX11_numberHere_h34 x1 x2 x3 n x4 s) (fun (r : Int32 × wS) => KT s0 r.2) := by
  intro n
  induction n with
  | zero =>
    intro x4 s g
    rw [wX11_numberHere_h34]
    exact pk_none
  | succ n ih =>
    intro x4 s g
    rw [wX11_numberHere_h34]
    refine pk_bind pk_any (fun t11 _ => ?_)
    refine pk_ite (fun _ => ?_) (fun _ => ?_)
    · exact pk_some g
    · refine pk_ite (fun _ => ?_) (fun _ => ?_)
      · refine pk_bind pk_any (fun t15 _ => ?_)
        exact wX11_numberHere_j75_KT (fun _ _ g => ih g) g
      · exact wX11_numberHere_j75_KT (fun _ _ g => ih g) g
theorem wX11_numberHere_j126_KT {s0 : wS} {s : wS}   (g : KT s0 s) : PK (wX11_numberHere_j126 s) (fun (r : Int32 × wS) => KT s0 r.2) := by
  unfold wX11_numberHere_j126
  exact pk_some g
theorem wX11_numberHere_j117_KT {s0 : wS} {x3 : Int32} {s : wS}   (g : KT s0 s) : PK (wX11_numberHere_j117 x3 s) (fun (r : Int32 × wS) => KT s0 r.2) := by
  unfold wX11_numberHere_j117
  refine pk_bind (wX11_fails_KT g) (fun p1 h2 => ?_)
  obtain ⟨t22, s23⟩ := p1
  have g3 : KT s0 s23 := h2
  dsimp only
  refine pk_ite (fun _ => ?_) (fun _ => ?_)
  · exact pk_some g3
  · exact wX11_numberHere_j126_KT g3
theorem wX11_numberHere_KT {s0 : wS} {x1 : Int32} {x2 : Int32} {s : wS}   (g : KT s0 s) : PK (wX11_numberHere x1 x2 s) (fun (r : Int32 × wS) => KT s0 r.2) := by
  unfold wX11_numberHere
  refine pk_bind (wX11_see_KT g) (fun p1 h2 => ?_)
  obtain ⟨t1, s2⟩ := p1
  have g3 : KT s0 s2 := h2
  dsimp only
  refine pk_bind pk_any (fun t4 _ => ?_)
  refine pk_ite (fun _ => ?_) (fun _ => ?_)
  · refine pk_bind (wX11_fails_KT g3) (fun p4 h5 => ?_)
    obtain ⟨t7, s8⟩ := p4
    have g6 : KT s0 s8 := h5
    dsimp only
    refine pk_bind pk_any (fun t10 _ => ?_)
    exact pk_some g6
  · refine pk_bind (wX11_numberHere_h34_KT _ g3) (fun p7 h8 => ?_)
    obtain ⟨t18, s19⟩ := p7
    have g9 : KT s0 s19 := h8
    dsimp only
    refine pk_bind (kt_pfI rfl g9) (fun s20 g10 => ?_)
    refine pk_ite (fun _ => ?_) (fun _ => ?_)
    · exact wX11_numberHere_j117_KT g10
    · refine pk_bind pk_any (fun t26 _ => ?_)
      refine pk_ite (fun _ => ?_) (fun _ => ?_)
      · exact wX11_numberHere_j117_KT g10
      · exact wX11_numberHere_j126_KT g10
theorem wX11_wordHere_KT {s0 : wS} {s : wS}   (g : KT s0 s) : PK (wX11_wordHere s) (fun (r : Int32 × wS) => KT s0 r.2) := by
  unfold wX11_wordHere
  refine pk_bind (wX11_isWord_KT g) (fun p1 h2 => ?_)
  obtain ⟨t1, s2⟩ := p1
  have g3 : KT s0 s2 := h2
  dsimp only
  refine pk_ite (fun _ => ?_) (fun _ => ?_)
  · refine pk_bind (wX11_isWord_KT g3) (fun p4 h5 => ?_)
    obtain ⟨t5, s6⟩ := p4
    have g6 : KT s0 s6 := h5
    dsimp only
    refine pk_ite (fun _ => ?_) (fun _ => ?_)
    · refine pk_bind (wX11_isWord_KT g6) (fun p7 h8 => ?_)
      obtain ⟨t9, s10⟩ := p7
      have g9 : KT s0 s10 := h8
      dsimp only
      refine pk_ite (fun _ => ?_) (fun _ => ?_)
      · refine pk_bind (wX11_isWord_KT g9) (fun p10 h11 => ?_)
        obtain ⟨t13, s14⟩ := p10
        have g12 : KT s0 s14 := h11
        dsimp only
        refine pk_ite (fun _ => ?_) (fun _ => ?_)
        · refine pk_bind (wX11_isWord_KT g12) (fun p13 h14 => ?_)
          obtain ⟨t17, s18⟩ := p13
          have g15 : KT s0 s18 := h14
          dsimp only
          refine pk_ite (fun _ => ?_) (fun _ => ?_)
          · refine pk_bind (wX11_isWord_KT g15) (fun p16 h17 => ?_)
            obtain ⟨t21, s22⟩ := p16
            have g18 : KT s0 s22 := h17
            dsimp only
            refine pk_ite (fun _ => ?_) (fun _ => ?_)
            · refine pk_bind (wX11_isWord_KT g18) (fun p19 h20 => ?_)
              obtain ⟨t25, s26⟩ := p19
              have g21 : KT s0 s26 := h20
              dsimp only
              refine pk_ite (fun _ => ?_) (fun _ => ?_)
              · refine pk_bind (wX11_isWord_KT g21) (fun p22 h23 => ?_)
                obtain ⟨t29, s30⟩ := p22
                have g24 : KT s0 s30 := h23
                dsimp only
                refine pk_ite (fun _ => ?_) (fun _ => ?_)
                · exact pk_some g24
                · exact pk_some g24
              · exact pk_some g21
            · exact pk_some g18
          · exact pk_some g15
        · exact pk_some g12
      · exact pk_some g9
    · exact pk_some g6
  · exact pk_some g3
theorem wX11_puts_KT {s0 : wS} {x1 : Int32} {x2 : Int32} {s : wS}   (g : KT s0 s) : PK (wX11_puts x1 x2 s) (fun (r : wS) => KT s0 r) := by
  unfold wX11_puts
  refine pk_bind pk_any (fun t1 _ => ?_)
  refine pk_bind (kt_stI (fun _ => rfl) g) (fun s2 g1 => ?_)
  refine pk_bind pk_any (fun t3 _ => ?_)
  refine pk_bind (kt_stI (fun _ => rfl) g1) (fun s4 g2 => ?_)
  exact pk_some g2
theorem wX11_makes_KT {s0 : wS} {x1 : Int32} {s : wS}   (g : KT s0 s) : PK (wX11_makes x1 s) (fun (r : Int32 × wS) => KT s0 r.2) := by
  unfold wX11_makes
  refine pk_ite (fun _ => ?_) (fun _ => ?_)
  · refine pk_bind (wX11_fails_KT g) (fun p1 h2 => ?_)
    obtain ⟨t2, s3⟩ := p1
    have g3 : KT s0 s3 := h2
    dsimp only
    refine pk_bind pk_any (fun t5 _ => ?_)
    exact pk_some g3
  · refine pk_bind (kt_pfI rfl g) (fun s6 g4 => ?_)
    exact pk_some g4
theorem wX11_opens_KT {s0 : wS} {x1 : Int32} {s : wS}   (g : KT s0 s) : PK (wX11_opens x1 s) (fun (r : Int32 × wS) => KT s0 r.2) := by
  unfold wX11_opens
  refine pk_ite (fun _ => ?_) (fun _ => ?_)
  · refine pk_bind (wX11_fails_KT g) (fun p1 h2 => ?_)
    obtain ⟨t2, s3⟩ := p1
    have g3 : KT s0 s3 := h2
    dsimp only
    refine pk_bind pk_any (fun t5 _ => ?_)
    exact pk_some g3
  · refine pk_bind (kt_pfI rfl g) (fun s6 g4 => ?_)
    refine pk_bind (kt_stI (fun _ => rfl) g4) (fun s7 g5 => ?_)
    refine pk_bind (kt_pfI rfl g5) (fun s8 g6 => ?_)
    exact pk_some g6
theorem wX11_settles_h0_KT {s0 : wS} {x1 : Int32}   : ∀ (n : Nat) {s : wS}, KT s0 s → PK (wX11_settles_h0 x1 n s) (fun (r : wS) => KT s0 r) := by
  intro n
  induction n with
  | zero =>
    intro s g
    rw [wX11_settles_h0]
    exact pk_none
  | succ n ih =>
    intro s g
    rw [wX11_settles_h0]
    refine pk_ite (fun _ => ?_) (fun _ => ?_)
    · refine pk_bind pk_any (fun t2 _ => ?_)
      refine pk_bind pk_any (fun t3 _ => ?_)
      refine pk_ite (fun _ => ?_) (fun _ => ?_)
      · exact pk_some g
      · refine pk_bind (kt_pfI rfl g) (fun s6 g1 => ?_)
        refine pk_bind pk_any (fun t7 _ => ?_)
        refine pk_bind (wX11_puts_KT g1) (fun s9 g2 => ?_)
        refine pk_bind pk_any (fun t11 _ => ?_)
        refine pk_ite (fun _ => ?_) (fun _ => ?_)
        · refine pk_bind (kt_pfI rfl g2) (fun s13 g3 => ?_)
          exact ih g3
        · exact ih g2
    · exact pk_some g
theorem wX11_settles_KT {s0 : wS} {x1 : Int32} {s : wS}   (g : KT s0 s) : PK (wX11_settles x1 s) (fun (r : wS) => KT s0 r) := by
  unfold wX11_settles
  refine pk_bind (wX11_settles_h0_KT _ g) (fun s15 g1 => ?_)
  exact pk_some g1
theorem wX11_value_KT {s0 : wS} {s : wS}   (g : KT s0 s) : PK (wX11_value s) (fun (r : Int32 × wS) => KT s0 r.2) := by
  unfold wX11_value
  refine pk_bind (wX11_see_KT g) (fun p1 h2 => ?_)
  obtain ⟨t1, s2⟩ := p1
  have g3 : KT s0 s2 := h2
  dsimp only
  refine pk_bind pk_any (fun t4 _ => ?_)
  refine pk_ite (fun _ => ?_) (fun _ => ?_)
  · refine pk_bind (wX11_wordHere_KT g3) (fun p4 h5 => ?_)
    obtain ⟨t7, s8⟩ := p4
    have g6 : KT s0 s8 := h5
    dsimp only
    refine pk_ite (fun _ => ?_) (fun _ => ?_)
    · refine pk_bind (wX11_fails_KT g6) (fun p7 h8 => ?_)
      obtain ⟨t11, s12⟩ := p7
      have g9 : KT s0 s12 := h8
      dsimp only
      refine pk_bind pk_any (fun t14 _ => ?_)
      exact pk_some g9
    · refine pk_bind (wX11_makes_KT g6) (fun p10 h11 => ?_)
      obtain ⟨t15, s16⟩ := p10
      have g12 : KT s0 s16 := h11
      dsimp only
      refine pk_ite (fun _ => ?_) (fun _ => ?_)
      · exact pk_some g12
      · refine pk_bind (wX11_passWord_KT g12) (fun s20 g13 => ?_)
        refine pk_bind (wX11_puts_KT g13) (fun s23 g14 => ?_)
        exact pk_some g14
  · refine pk_bind (wX11_numberHere_KT g3) (fun p15 h16 => ?_)
    obtain ⟨t25, s26⟩ := p15
    have g17 : KT s0 s26 := h16
    dsimp only
    refine pk_ite (fun _ => ?_) (fun _ => ?_)
    · exact pk_some g17
    · refine pk_bind (wX11_makes_KT g17) (fun p18 h19 => ?_)
      obtain ⟨t29, s30⟩ := p18
      have g20 : KT s0 s30 := h19
      dsimp only
      refine pk_ite (fun _ => ?_) (fun _ => ?_)
      · exact pk_some g20
      · refine pk_bind (wX11_puts_KT g20) (fun s34 g21 => ?_)
        exact pk_some g21
theorem wX11_term_j46_KT {s0 : wS} {y0 : Int32} {s : wS} {qq : wS → Option ((wS) ⊕ (wS))} (hqq : ∀ (v0 : wS), KT s0 v0 → PK (qq v0) (Sum.elim (fun (r : wS) => KT s0 r) (fun (r : wS) => KT s0 r))) (g : KT s0 s) : PK (wX11_term_j46 qq y0 s) (Sum.elim (fun (r : wS) => KT s0 r) (fun (r : wS) => KT s0 r)) := by
  unfold wX11_term_j46
  refine pk_bind (kt_pfI rfl g) (fun s11 g1 => ?_)
  refine pk_bind (wX11_value_KT g1) (fun p2 h3 => ?_)
  obtain ⟨t12, s13⟩ := p2
  have g4 : KT s0 s13 := h3
  dsimp only
  refine pk_ite (fun _ => ?_) (fun _ => ?_)
  · exact pk_some g4
  · refine pk_bind (wX11_puts_KT g4) (fun s17 g5 => ?_)
    exact hqq _ g5
theorem wX11_term_j27_KT {s0 : wS} {s : wS} {qq : wS → Option ((wS) ⊕ (wS))} (hqq : ∀ (v0 : wS), KT s0 v0 → PK (qq v0) (Sum.elim (fun (r : wS) => KT s0 r) (fun (r : wS) => KT s0 r))) (g : KT s0 s) : PK (wX11_term_j27 qq s) (Sum.elim (fun (r : wS) => KT s0 r) (fun (r : wS) => KT s0 r)) := by
  unfold wX11_term_j27
  refine pk_bind pk_any (fun t9 _ => ?_)
  refine pk_ite (fun _ => ?_) (fun _ => ?_)
  · exact wX11_term_j46_KT hqq g
  · exact wX11_term_j46_KT hqq g
theorem wX11_term_h9_KT {s0 : wS}    : ∀ (n : Nat) {s : wS}, KT s0 s → PK (wX11_term_h9 n s) (Sum.elim (fun (r : wS) => KT s0 r) (fun (r : wS) => KT s0 r)) := by
  intro n
  induction n with
  | zero =>
    intro s g
    rw [wX11_term_h9]
    exact pk_none
  | succ n ih =>
    intro s g
    rw [wX11_term_h9]
    refine pk_bind (wX11_see_KT g) (fun p1 h2 => ?_)
    obtain ⟨t5, s6⟩ := p1
    have g3 : KT s0 s6 := h2
    dsimp only
    refine pk_ite (fun _ => ?_) (fun _ => ?_)
    · exact wX11_term_j27_KT (fun _ g => ih g) g3
    · refine pk_bind (wX11_see_KT g3) (fun p4 h5 => ?_)
      obtain ⟨t19, s20⟩ := p4
      have g6 : KT s0 s20 := h5
      dsimp only
      refine pk_ite (fun _ => ?_) (fun _ => ?_)
      · exact wX11_term_j27_KT (fun _ g => ih g) g6
      · exact pk_some g6
theorem wX11_term_KT {s0 : wS} {s : wS}   (g : KT s0 s) : PK (wX11_term s) (fun (r : Int32 × wS) => KT s0 r.2) := by
  unfold wX11_term
  refine pk_bind (wX11_value_KT g) (fun p1 h2 => ?_)
  obtain ⟨t1, s2⟩ := p1
  have g3 : KT s0 s2 := h2
  dsimp only
  refine pk_ite (fun _ => ?_) (fun _ => ?_)
  · exact pk_some g3
  · refine pk_bind (wX11_term_h9_KT _ g3) (fun z23 h4 => ?_)
    rcases z23 with s24 | s26
    · have g5 : KT s0 s24 := h4
      dsimp only
      exact pk_some g5
    · have g6 : KT s0 s26 := h4
      dsimp only
      exact pk_some g6
theorem wX11_sum_j46_KT {s0 : wS} {y0 : Int32} {s : wS} {qq : wS → Option ((wS) ⊕ (wS))} (hqq : ∀ (v0 : wS), KT s0 v0 → PK (qq v0) (Sum.elim (fun (r : wS) => KT s0 r) (fun (r : wS) => KT s0 r))) (g : KT s0 s) : PK (wX11_sum_j46 qq y0 s) (Sum.elim (fun (r : wS) => KT s0 r) (fun (r : wS) => KT s0 r)) := by
  unfold wX11_sum_j46
  refine pk_bind (kt_pfI rfl g) (fun s11 g1 => ?_)
  refine pk_bind (wX11_term_KT g1) (fun p2 h3 => ?_)
  obtain ⟨t12, s13⟩ := p2
  have g4 : KT s0 s13 := h3
  dsimp only
  refine pk_ite (fun _ => ?_) (fun _ => ?_)
  · exact pk_some g4
  · refine pk_bind (wX11_puts_KT g4) (fun s17 g5 => ?_)
    exact hqq _ g5
theorem wX11_sum_j27_KT {s0 : wS} {s : wS} {qq : wS → Option ((wS) ⊕ (wS))} (hqq : ∀ (v0 : wS), KT s0 v0 → PK (qq v0) (Sum.elim (fun (r : wS) => KT s0 r) (fun (r : wS) => KT s0 r))) (g : KT s0 s) : PK (wX11_sum_j27 qq s) (Sum.elim (fun (r : wS) => KT s0 r) (fun (r : wS) => KT s0 r)) := by
  unfold wX11_sum_j27
  refine pk_bind pk_any (fun t9 _ => ?_)
  refine pk_ite (fun _ => ?_) (fun _ => ?_)
  · exact wX11_sum_j46_KT hqq g
  · exact wX11_sum_j46_KT hqq g
theorem wX11_sum_h9_KT {s0 : wS}    : ∀ (n : Nat) {s : wS}, KT s0 s → PK (wX11_sum_h9 n s) (Sum.elim (fun (r : wS) => KT s0 r) (fun (r : wS) => KT s0 r)) := by
  intro n
  induction n with
  | zero =>
    intro s g
    rw [wX11_sum_h9]
    exact pk_none
  | succ n ih =>
    intro s g
    rw [wX11_sum_h9]
    refine pk_bind (wX11_see_KT g) (fun p1 h2 => ?_)
    obtain ⟨t5, s6⟩ := p1
    have g3 : KT s0 s6 := h2
    dsimp only
    refine pk_ite (fun _ => ?_) (fun _ => ?_)
    · exact wX11_sum_j27_KT (fun _ g => ih g) g3
    · refine pk_bind (wX11_see_KT g3) (fun p4 h5 => ?_)
      obtain ⟨t19, s20⟩ := p4
      have g6 : KT s0 s20 := h5
      dsimp only
      refine pk_ite (fun _ => ?_) (fun _ => ?_)
      · exact wX11_sum_j27_KT (fun _ g => ih g) g6
      · exact pk_some g6
theorem wX11_sum_KT {s0 : wS} {s : wS}   (g : KT s0 s) : PK (wX11_sum s) (fun (r : Int32 × wS) => KT s0 r.2) := by
  unfold wX11_sum
  refine pk_bind (wX11_term_KT g) (fun p1 h2 => ?_)
  obtain ⟨t1, s2⟩ := p1
  have g3 : KT s0 s2 := h2
  dsimp only
  refine pk_ite (fun _ => ?_) (fun _ => ?_)
  · exact pk_some g3
  · refine pk_bind (wX11_sum_h9_KT _ g3) (fun z23 h4 => ?_)
    rcases z23 with s24 | s26
    · have g5 : KT s0 s24 := h4
      dsimp only
      exact pk_some g5
    · have g6 : KT s0 s26 := h4
      dsimp only
      exact pk_some g6
theorem wX11_compare_j152_KT {s0 : wS} {y0 : Int32} {s : wS}   (g : KT s0 s) : PK (wX11_compare_j152 y0 s) (fun (r : Int32 × wS) => KT s0 r.2) := by
  unfold wX11_compare_j152
  refine pk_bind (wX11_sum_KT g) (fun p1 h2 => ?_)
  obtain ⟨t18, s19⟩ := p1
  have g3 : KT s0 s19 := h2
  dsimp only
  refine pk_ite (fun _ => ?_) (fun _ => ?_)
  · exact pk_some g3
  · refine pk_bind (wX11_puts_KT g3) (fun s23 g4 => ?_)
    exact pk_some g4
theorem wX11_compare_j105_KT {s0 : wS} {x1 : Int32} {x2 : Int32} {x3 : Int32} {s : wS}   (g : KT s0 s) : PK (wX11_compare_j105 x1 x2 x3 s) (fun (r : Int32 × wS) => KT s0 r.2) := by
  unfold wX11_compare_j105
  refine pk_bind (wX11_makes_KT g) (fun p1 h2 => ?_)
  obtain ⟨t12, s13⟩ := p1
  have g3 : KT s0 s13 := h2
  dsimp only
  refine pk_ite (fun _ => ?_) (fun _ => ?_)
  · exact pk_some g3
  · refine pk_ite (fun _ => ?_) (fun _ => ?_)
    · refine pk_ite (fun _ => ?_) (fun _ => ?_)
      · exact wX11_compare_j152_KT g3
      · exact wX11_compare_j152_KT g3
    · refine pk_ite (fun _ => ?_) (fun _ => ?_)
      · exact wX11_compare_j152_KT g3
      · refine pk_ite (fun _ => ?_) (fun _ => ?_)
        · exact wX11_compare_j152_KT g3
        · exact wX11_compare_j152_KT g3
theorem wX11_compare_j90_KT {s0 : wS} {x1 : Int32} {x2 : Int32} {y0 : Int32} {s : wS}   (g : KT s0 s) : PK (wX11_compare_j90 x1 x2 y0 s) (fun (r : Int32 × wS) => KT s0 r.2) := by
  unfold wX11_compare_j90
  refine pk_ite (fun _ => ?_) (fun _ => ?_)
  · exact wX11_compare_j105_KT g
  · refine pk_bind (kt_pfI rfl g) (fun s27 g1 => ?_)
    exact wX11_compare_j105_KT g1
theorem wX11_compare_j89_KT {s0 : wS} {x1 : Int32} {x2 : Int32} {s : wS}   (g : KT s0 s) : PK (wX11_compare_j89 x1 x2 s) (fun (r : Int32 × wS) => KT s0 r.2) := by
  unfold wX11_compare_j89
  exact wX11_compare_j90_KT g
theorem wX11_compare_j44_KT {s0 : wS} {x1 : Int32} {x2 : Int32} {s : wS}   (g : KT s0 s) : PK (wX11_compare_j44 x1 x2 s) (fun (r : Int32 × wS) => KT s0 r.2) := by
  unfold wX11_compare_j44
  refine pk_bind (kt_pfI rfl g) (fun s9 g1 => ?_)
  refine pk_ite (fun _ => ?_) (fun _ => ?_)
  · exact wX11_compare_j89_KT g1
  · refine pk_ite (fun _ => ?_) (fun _ => ?_)
    · refine pk_bind pk_any (fun t29 _ => ?_)
      refine pk_ite (fun _ => ?_) (fun _ => ?_)
      · exact wX11_compare_j90_KT g1
      · exact wX11_compare_j89_KT g1
    · exact wX11_compare_j89_KT g1
theorem wX11_compare_KT {s0 : wS} {s : wS}   (g : KT s0 s) : PK (wX11_compare s) (fun (r : Int32 × wS) => KT s0 r.2) := by
  unfold wX11_compare
  refine pk_bind (wX11_sum_KT g) (fun p1 h2 => ?_)
  obtain ⟨t1, s2⟩ := p1
  have g3 : KT s0 s2 := h2
  dsimp only
  refine pk_ite (fun _ => ?_) (fun _ => ?_)
  · exact pk_some g3
  · refine pk_bind (wX11_see_KT g3) (fun p4 h5 => ?_)
    obtain ⟨t5, s6⟩ := p4
    have g6 : KT s0 s6 := h5
    dsimp only
    refine pk_ite (fun _ => ?_) (fun _ => ?_)
    · exact wX11_compare_j44_KT g6
    · refine pk_ite (fun _ => ?_) (fun _ => ?_)
      · exact wX11_compare_j44_KT g6
      · refine pk_ite (fun _ => ?_) (fun _ => ?_)
        · exact wX11_compare_j44_KT g6
        · refine pk_bind (wX11_fails_KT g6) (fun p7 h8 => ?_)
          obtain ⟨t33, s34⟩ := p7
          have g9 : KT s0 s34 := h8
          dsimp only
          refine pk_bind pk_any (fun t36 _ => ?_)
          exact pk_some g9
theorem wX11_fact_j72_KT {s0 : wS} {x1 : Int32} {s : wS} {qq : Int32 → wS → Option ((wS) ⊕ ((wS) ⊕ (wS)))} (hqq : ∀ (v0 : Int32) (v1 : wS), KT s0 v1 → PK (qq v0 v1) (Sum.elim (fun (r : wS) => KT s0 r) (Sum.elim (fun (r : wS) => KT s0 r) (fun (r : wS) => KT s0 r)))) (g : KT s0 s) : PK (wX11_fact_j72 qq x1 s) (Sum.elim (fun (r : wS) => KT s0 r) (Sum.elim (fun (r : wS) => KT s0 r) (fun (r : wS) => KT s0 r))) := by
  unfold wX11_fact_j72
  exact hqq _ _ g
theorem wX11_fact_h2_KT {s0 : wS}    : ∀ (n : Nat) {x1 : Int32} {s : wS}, KT s0 s → PK (wX11_fact_h2 n x1 s) (Sum.elim (fun (r : wS) => KT s0 r) (Sum.elim (fun (r : wS) => KT s0 r) (fun (r : wS) => KT s0 r))) := by
  intro n
  induction n with
  | zero =>
    intro x1 s g
    rw [wX11_fact_h2]
    exact pk_none
  | succ n ih =>
    intro x1 s g
    rw [wX11_fact_h2]
    refine pk_ite (fun _ => ?_) (fun _ => ?_)
    · exact pk_some g
    · refine pk_bind (wX11_see_KT g) (fun p1 h2 => ?_)
      obtain ⟨t2, s3⟩ := p1
      have g3 : KT s0 s3 := h2
      dsimp only
      refine pk_bind (wX11_isWord_KT g3) (fun p4 h5 => ?_)
      obtain ⟨t5, s6⟩ := p4
      have g6 : KT s0 s6 := h5
      dsimp only
      refine pk_ite (fun _ => ?_) (fun _ => ?_)
      · refine pk_ite (fun _ => ?_) (fun _ => ?_)
        · refine pk_bind (wX11_opens_KT g6) (fun p7 h8 => ?_)
          obtain ⟨t10, s11⟩ := p7
          have g9 : KT s0 s11 := h8
          dsimp only
          refine pk_ite (fun _ => ?_) (fun _ => ?_)
          · exact pk_some g9
          · refine pk_bind (kt_pfI rfl g9) (fun s14 g10 => ?_)
            exact wX11_fact_j72_KT (fun _ _ g => ih g) g10
        · exact wX11_fact_j72_KT (fun _ _ g => ih g) g6
      · refine pk_bind (wX11_opens_KT g6) (fun p11 h12 => ?_)
        obtain ⟨t15, s16⟩ := p11
        have g13 : KT s0 s16 := h12
        dsimp only
        refine pk_ite (fun _ => ?_) (fun _ => ?_)
        · exact pk_some g13
        · refine pk_bind (wX11_passWord_KT g13) (fun s20 g14 => ?_)
          exact wX11_fact_j72_KT (fun _ _ g => ih g) g14
theorem wX11_fact_KT {s0 : wS} {s : wS}   (g : KT s0 s) : PK (wX11_fact s) (fun (r : Int32 × wS) => KT s0 r.2) := by
  unfold wX11_fact
  refine pk_bind (wX11_fact_h2_KT _ g) (fun z22 h1 => ?_)
  rcases z22 with s23 | (s30 | s33)
  · have g2 : KT s0 s23 := h1
    dsimp only
    refine pk_bind (wX11_compare_KT g2) (fun p3 h4 => ?_)
    obtain ⟨t26, s27⟩ := p3
    have g5 : KT s0 s27 := h4
    dsimp only
    refine pk_bind pk_any (fun t29 _ => ?_)
    exact pk_some g5
  · have g6 : KT s0 s30 := h1
    dsimp only
    exact pk_some g6
  · have g7 : KT s0 s33 := h1
    dsimp only
    exact pk_some g7
theorem wX11_closes_h5_KT {s0 : wS}    : ∀ (n : Nat) {s : wS}, KT s0 s → PK (wX11_closes_h5 n s) (fun (r : wS) => KT s0 r) := by
  intro n
  induction n with
  | zero =>
    intro s g
    rw [wX11_closes_h5]
    exact pk_none
  | succ n ih =>
    intro s g
    rw [wX11_closes_h5]
    refine pk_bind (wX11_see_KT g) (fun p1 h2 => ?_)
    obtain ⟨t4, s5⟩ := p1
    have g3 : KT s0 s5 := h2
    dsimp only
    refine pk_ite (fun _ => ?_) (fun _ => ?_)
    · refine pk_bind pk_any (fun t8 _ => ?_)
      refine pk_ite (fun _ => ?_) (fun _ => ?_)
      · exact pk_some g3
      · refine pk_bind (wX11_settles_KT g3) (fun s12 g4 => ?_)
        refine pk_bind (kt_pfI rfl g4) (fun s14 g5 => ?_)
        refine pk_bind (kt_pfI rfl g5) (fun s15 g6 => ?_)
        refine pk_bind (kt_pfI rfl g6) (fun s16 g7 => ?_)
        refine pk_bind (wX11_settles_KT g7) (fun s18 g8 => ?_)
        exact ih g8
    · exact pk_some g3
theorem wX11_closes_KT {s0 : wS} {s : wS}   (g : KT s0 s) : PK (wX11_closes s) (fun (r : wS) => KT s0 r) := by
  unfold wX11_closes
  refine pk_bind (wX11_settles_KT g) (fun s2 g1 => ?_)
  refine pk_bind (wX11_closes_h5_KT _ g1) (fun s21 g2 => ?_)
  exact pk_some g2
theorem wX11_tested_j76_KT {s0 : wS} {x1 : Int32} {y0 : Int32} {s : wS} {qq : Int32 → wS → Option ((wS) ⊕ (wS))} (hqq : ∀ (v0 : Int32) (v1 : wS), KT s0 v1 → PK (qq v0 v1) (Sum.elim (fun (r : wS) => KT s0 r) (fun (r : wS) => KT s0 r))) (g : KT s0 s) : PK (wX11_tested_j76 qq x1 y0 s) (Sum.elim (fun (r : wS) => KT s0 r) (fun (r : wS) => KT s0 r)) := by
  unfold wX11_tested_j76
  refine pk_bind (wX11_passWord_KT g) (fun s25 g1 => ?_)
  refine pk_bind pk_any (fun t27 _ => ?_)
  refine pk_bind (wX11_settles_KT g1) (fun s30 g2 => ?_)
  refine pk_bind (kt_stI (fun _ => rfl) g2) (fun s32 g3 => ?_)
  refine pk_bind (kt_pfI rfl g3) (fun s33 g4 => ?_)
  exact hqq _ _ g4
theorem wX11_tested_j54_KT {s0 : wS} {y0 : Int32} {s : wS} {qq : Int32 → wS → Option ((wS) ⊕ (wS))} (hqq : ∀ (v0 : Int32) (v1 : wS), KT s0 v1 → PK (qq v0 v1) (Sum.elim (fun (r : wS) => KT s0 r) (fun (r : wS) => KT s0 r))) (g : KT s0 s) : PK (wX11_tested_j54 qq y0 s) (Sum.elim (fun (r : wS) => KT s0 r) (fun (r : wS) => KT s0 r)) := by
  unfold wX11_tested_j54
  refine pk_ite (fun _ => ?_) (fun _ => ?_)
  · exact hqq _ _ g
  · refine pk_bind (wX11_isWord_KT g) (fun p1 h2 => ?_)
    obtain ⟨t20, s21⟩ := p1
    have g3 : KT s0 s21 := h2
    dsimp only
    refine pk_ite (fun _ => ?_) (fun _ => ?_)
    · exact wX11_tested_j76_KT hqq g3
    · exact wX11_tested_j76_KT hqq g3
theorem wX11_tested_j49_KT {s0 : wS} {s : wS} {qq : Int32 → wS → Option ((wS) ⊕ (wS))} (hqq : ∀ (v0 : Int32) (v1 : wS), KT s0 v1 → PK (qq v0 v1) (Sum.elim (fun (r : wS) => KT s0 r) (fun (r : wS) => KT s0 r))) (g : KT s0 s) : PK (wX11_tested_j49 qq s) (Sum.elim (fun (r : wS) => KT s0 r) (fun (r : wS) => KT s0 r)) := by
  unfold wX11_tested_j49
  exact wX11_tested_j54_KT hqq g
theorem wX11_tested_h12_KT {s0 : wS}    : ∀ (n : Nat) {x1 : Int32} {s : wS}, KT s0 s → PK (wX11_tested_h12 n x1 s) (Sum.elim (fun (r : wS) => KT s0 r) (fun (r : wS) => KT s0 r)) := by
  intro n
  induction n with
  | zero =>
    intro x1 s g
    rw [wX11_tested_h12]
    exact pk_none
  | succ n ih =>
    intro x1 s g
    rw [wX11_tested_h12]
    refine pk_ite (fun _ => ?_) (fun _ => ?_)
    · exact pk_some g
    · refine pk_bind (wX11_fact_KT g) (fun p1 h2 => ?_)
      obtain ⟨t4, s5⟩ := p1
      have g3 : KT s0 s5 := h2
      dsimp only
      refine pk_ite (fun _ => ?_) (fun _ => ?_)
      · exact pk_some g3
      · refine pk_bind (wX11_closes_KT g3) (fun s9 g4 => ?_)
        refine pk_bind (wX11_isWord_KT g4) (fun p5 h6 => ?_)
        obtain ⟨t11, s12⟩ := p5
        have g7 : KT s0 s12 := h6
        dsimp only
        refine pk_ite (fun _ => ?_) (fun _ => ?_)
        · refine pk_bind (wX11_isWord_KT g7) (fun p8 h9 => ?_)
          obtain ⟨t15, s16⟩ := p8
          have g10 : KT s0 s16 := h9
          dsimp only
          refine pk_ite (fun _ => ?_) (fun _ => ?_)
          · exact wX11_tested_j54_KT (fun _ _ g => ih g) g10
          · exact wX11_tested_j49_KT (fun _ _ g => ih g) g10
        · exact wX11_tested_j49_KT (fun _ _ g => ih g) g7
theorem wX11_tested_KT {s0 : wS} {s : wS}   (g : KT s0 s) : PK (wX11_tested s) (fun (r : Int32 × wS) => KT s0 r.2) := by
  unfold wX11_tested
  refine pk_bind (kt_pfI rfl g) (fun s1 g1 => ?_)
  refine pk_bind (kt_pfI rfl g1) (fun s2 g2 => ?_)
  refine pk_bind (wX11_tested_h12_KT _ g2) (fun z34 h3 => ?_)
  rcases z34 with s35 | s51
  · have g4 : KT s0 s35 := h3
    dsimp only
    refine pk_bind pk_any (fun t38 _ => ?_)
    refine pk_ite (fun _ => ?_) (fun _ => ?_)
    · refine pk_bind (wX11_settles_KT g4) (fun s42 g5 => ?_)
      exact pk_some g5
    · refine pk_bind (wX11_see_KT g4) (fun p6 h7 => ?_)
      obtain ⟨t44, s45⟩ := p6
      have g8 : KT s0 s45 := h7
      dsimp only
      refine pk_bind (wX11_fails_KT g8) (fun p9 h10 => ?_)
      obtain ⟨t47, s48⟩ := p9
      have g11 : KT s0 s48 := h10
      dsimp only
      refine pk_bind pk_any (fun t50 _ => ?_)
      exact pk_some g11
  · have g12 : KT s0 s51 := h3
    dsimp only
    exact pk_some g12
theorem wX11_clauseOf_j119_KT {s0 : wS} {x2 : Int32} {s : wS}   (g : KT s0 s) : PK (wX11_clauseOf_j119 x2 s) (fun (r : Int32 × wS) => KT s0 r.2) := by
  unfold wX11_clauseOf_j119
  refine pk_bind pk_any (fun t19 _ => ?_)
  refine pk_bind (kt_stI (fun _ => rfl) g) (fun s20 g1 => ?_)
  refine pk_bind pk_any (fun t21 _ => ?_)
  refine pk_bind (kt_stI (fun _ => rfl) g1) (fun s22 g2 => ?_)
  exact pk_some g2
theorem wX11_clauseOf_KT {s0 : wS} {x1 : Int32} {s : wS}   (g : KT s0 s) : PK (wX11_clauseOf x1 s) (fun (r : Int32 × wS) => KT s0 r.2) := by
  unfold wX11_clauseOf
  refine pk_bind (wX11_passWord_KT g) (fun s2 g1 => ?_)
  refine pk_bind pk_any (fun t4 _ => ?_)
  refine pk_bind (kt_stI (fun _ => rfl) g1) (fun s5 g2 => ?_)
  refine pk_bind pk_any (fun t6 _ => ?_)
  refine pk_bind (kt_stI (fun _ => rfl) g2) (fun s7 g3 => ?_)
  refine pk_bind (wX11_sum_KT g3) (fun p4 h5 => ?_)
  obtain ⟨t8, s9⟩ := p4
  have g6 : KT s0 s9 := h5
  dsimp only
  refine pk_ite (fun _ => ?_) (fun _ => ?_)
  · exact pk_some g6
  · refine pk_bind pk_any (fun t12 _ => ?_)
    refine pk_bind (kt_stI (fun _ => rfl) g6) (fun s13 g7 => ?_)
    refine pk_bind (kt_stI (fun _ => rfl) g7) (fun s14 g8 => ?_)
    refine pk_bind (wX11_takesWord_KT g8) (fun p9 h10 => ?_)
    obtain ⟨t15, s16⟩ := p9
    have g11 : KT s0 s16 := h10
    dsimp only
    refine pk_ite (fun _ => ?_) (fun _ => ?_)
    · exact wX11_clauseOf_j119_KT g11
    · refine pk_bind pk_any (fun t23 _ => ?_)
      refine pk_bind (kt_stI (fun _ => rfl) g11) (fun s24 g12 => ?_)
      refine pk_bind (wX11_tested_KT g12) (fun p13 h14 => ?_)
      obtain ⟨t25, s26⟩ := p13
      have g15 : KT s0 s26 := h14
      dsimp only
      refine pk_ite (fun _ => ?_) (fun _ => ?_)
      · exact pk_some g15
      · exact wX11_clauseOf_j119_KT g15
theorem wX11_isRoadHere_h2_KT {s0 : wS}    : ∀ (n : Nat) {x1 : Int32} {s : wS}, KT s0 s → PK (wX11_isRoadHere_h2 n x1 s) (Sum.elim (fun (r : wS) => KT s0 r) (fun (r : wS) => KT s0 r)) := by
  intro n
  induction n with
  | zero =>
    intro x1 s g
    rw [wX11_isRoadHere_h2]
    exact pk_none
  | succ n ih =>
    intro x1 s g
    rw [wX11_isRoadHere_h2]
    refine pk_ite (fun _ => ?_) (fun _ => ?_)
    · refine pk_bind (wX11_numberHere_KT g) (fun p1 h2 => ?_)
      obtain ⟨t2, s3⟩ := p1
      have g3 : KT s0 s3 := h2
      dsimp only
      refine pk_ite (fun _ => ?_) (fun _ => ?_)
      · exact pk_some g3
      · refine pk_bind (kt_stI (fun _ => rfl) g3) (fun s6 g4 => ?_)
        exact ih g4
    · exact pk_some g
theorem wX11_isRoadHere_KT {s0 : wS} {s : wS}   (g : KT s0 s) : PK (wX11_isRoadHere s) (fun (r : Int32 × wS) => KT s0 r.2) := by
  unfold wX11_isRoadHere
  refine pk_bind (wX11_isRoadHere_h2_KT _ g) (fun z7 h1 => ?_)
  rcases z7 with s8 | s11
  · have g2 : KT s0 s8 := h1
    dsimp only
    refine pk_bind (kt_pfI rfl g2) (fun s10 g3 => ?_)
    exact pk_some g3
  · have g4 : KT s0 s11 := h1
    dsimp only
    exact pk_some g4
theorem wX11_isManHere_j20_KT {s0 : wS} {x1 : Int32} {y1 : Int32} {y2 : Int32} {s : wS} {qq : Int32 → wS → Option ((wS) ⊕ (wS))} (hqq : ∀ (v0 : Int32) (v1 : wS), KT s0 v1 → PK (qq v0 v1) (Sum.elim (fun (r : wS) => KT s0 r) (fun (r : wS) => KT s0 r))) (g : KT s0 s) : PK (wX11_isManHere_j20 qq x1 y1 y2 s) (Sum.elim (fun (r : wS) => KT s0 r) (fun (r : wS) => KT s0 r)) := by
  unfold wX11_isManHere_j20
  refine pk_bind (wX11_numberHere_KT g) (fun p1 h2 => ?_)
  obtain ⟨t3, s4⟩ := p1
  have g3 : KT s0 s4 := h2
  dsimp only
  refine pk_ite (fun _ => ?_) (fun _ => ?_)
  · exact pk_some g3
  · refine pk_bind (kt_stI (fun _ => rfl) g3) (fun s7 g4 => ?_)
    exact hqq _ _ g4
theorem wX11_isManHere_h2_KT {s0 : wS}    : ∀ (n : Nat) {x1 : Int32} {s : wS}, KT s0 s → PK (wX11_isManHere_h2 n x1 s) (Sum.elim (fun (r : wS) => KT s0 r) (fun (r : wS) => KT s0 r)) := by
  intro n
  induction n with
  | zero =>
    intro x1 s g
    rw [wX11_isManHere_h2]
    exact pk_none
  | succ n ih =>
    intro x1 s g
    rw [wX11_isManHere_h2]
    refine pk_ite (fun _ => ?_) (fun _ => ?_)
    · refine pk_ite (fun _ => ?_) (fun _ => ?_)
      · exact wX11_isManHere_j20_KT (fun _ _ g => ih g) g
      · exact wX11_isManHere_j20_KT (fun _ _ g => ih g) g
    · exact pk_some g
theorem wX11_isManHere_KT {s0 : wS} {s : wS}   (g : KT s0 s) : PK (wX11_isManHere s) (fun (r : Int32 × wS) => KT s0 r.2) := by
  unfold wX11_isManHere
  refine pk_bind (wX11_isManHere_h2_KT _ g) (fun z8 h1 => ?_)
  rcases z8 with s9 | s12
  · have g2 : KT s0 s9 := h1
    dsimp only
    refine pk_bind (kt_pfI rfl g2) (fun s11 g3 => ?_)
    exact pk_some g3
  · have g4 : KT s0 s12 := h1
    dsimp only
    exact pk_some g4
theorem wX11_courtLineHere_j73_KT {s0 : wS} {x1 : Int32} {x2 : Int32} {y0 : Int32} {s : wS}   (g : KT s0 s) : PK (wX11_courtLineHere_j73 x1 x2 y0 s) (fun (r : Int32 × wS) => KT s0 r.2) := by
  unfold wX11_courtLineHere_j73
  refine pk_ite (fun _ => ?_) (fun _ => ?_)
  · refine pk_bind (wX11_fails_KT g) (fun p1 h2 => ?_)
    obtain ⟨t10, s11⟩ := p1
    have g3 : KT s0 s11 := h2
    dsimp only
    refine pk_bind pk_any (fun t13 _ => ?_)
    exact pk_some g3
  · refine pk_bind (wX11_passWord_KT g) (fun s15 g4 => ?_)
    refine pk_ite (fun _ => ?_) (fun _ => ?_)
    · refine pk_bind (wX11_isManHere_KT g4) (fun p5 h6 => ?_)
      obtain ⟨t18, s19⟩ := p5
      have g7 : KT s0 s19 := h6
      dsimp only
      refine pk_bind pk_any (fun t21 _ => ?_)
      exact pk_some g7
    · refine pk_bind (wX11_isRoadHere_KT g4) (fun p8 h9 => ?_)
      obtain ⟨t22, s23⟩ := p8
      have g10 : KT s0 s23 := h9
      dsimp only
      refine pk_bind pk_any (fun t25 _ => ?_)
      exact pk_some g10
theorem wX11_courtLineHere_KT {s0 : wS} {x1 : Int32} {s : wS}   (g : KT s0 s) : PK (wX11_courtLineHere x1 s) (fun (r : Int32 × wS) => KT s0 r.2) := by
  unfold wX11_courtLineHere
  refine pk_bind (wX11_isWord_KT g) (fun p1 h2 => ?_)
  obtain ⟨t1, s2⟩ := p1
  have g3 : KT s0 s2 := h2
  dsimp only
  refine pk_ite (fun _ => ?_) (fun _ => ?_)
  · refine pk_bind (wX11_isWord_KT g3) (fun p4 h5 => ?_)
    obtain ⟨t5, s6⟩ := p4
    have g6 : KT s0 s6 := h5
    dsimp only
    refine pk_ite (fun _ => ?_) (fun _ => ?_)
    · exact wX11_courtLineHere_j73_KT g6
    · exact wX11_courtLineHere_j73_KT g6
  · refine pk_ite (fun _ => ?_) (fun _ => ?_)
    · refine pk_bind (wX11_fails_KT g3) (fun p7 h8 => ?_)
      obtain ⟨t27, s28⟩ := p7
      have g9 : KT s0 s28 := h8
      dsimp only
      refine pk_bind pk_any (fun t30 _ => ?_)
      exact pk_some g9
    · refine pk_bind (wX11_passWord_KT g3) (fun s32 g10 => ?_)
      refine pk_bind (wX11_numberHere_KT g10) (fun p11 h12 => ?_)
      obtain ⟨t34, s35⟩ := p11
      have g13 : KT s0 s35 := h12
      dsimp only
      refine pk_ite (fun _ => ?_) (fun _ => ?_)
      · exact pk_some g13
      · refine pk_bind (kt_pfI rfl g13) (fun s38 g14 => ?_)
        exact pk_some g14
theorem wX11_clauseHere_j157_KT {s0 : wS} {y1 : Int32} {s : wS}   (g : KT s0 s) : PK (wX11_clauseHere_j157 y1 s) (fun (r : Int32 × wS) => KT s0 r.2) := by
  unfold wX11_clauseHere_j157
  refine pk_bind (wX11_clauseOf_KT g) (fun p1 h2 => ?_)
  obtain ⟨t39, s40⟩ := p1
  have g3 : KT s0 s40 := h2
  dsimp only
  refine pk_bind pk_any (fun t42 _ => ?_)
  exact pk_some g3
theorem wX11_clauseHere_j97_KT {s0 : wS} {x1 : Int32} {x2 : Int32} {y0 : Int32} {y1 : Int32} {s : wS}   (g : KT s0 s) : PK (wX11_clauseHere_j97 x1 x2 y0 y1 s) (fun (r : Int32 × wS) => KT s0 r.2) := by
  unfold wX11_clauseHere_j97
  refine pk_ite (fun _ => ?_) (fun _ => ?_)
  · refine pk_bind (wX11_fails_KT g) (fun p1 h2 => ?_)
    obtain ⟨t25, s26⟩ := p1
    have g3 : KT s0 s26 := h2
    dsimp only
    refine pk_bind pk_any (fun t28 _ => ?_)
    exact pk_some g3
  · refine pk_bind (kt_pfI rfl g) (fun s29 g4 => ?_)
    refine pk_ite (fun _ => ?_) (fun _ => ?_)
    · refine pk_bind (wX11_isWord_KT g4) (fun p5 h6 => ?_)
      obtain ⟨t31, s32⟩ := p5
      have g7 : KT s0 s32 := h6
      dsimp only
      refine pk_ite (fun _ => ?_) (fun _ => ?_)
      · refine pk_bind (wX11_isWord_KT g7) (fun p8 h9 => ?_)
        obtain ⟨t35, s36⟩ := p8
        have g10 : KT s0 s36 := h9
        dsimp only
        refine pk_ite (fun _ => ?_) (fun _ => ?_)
        · exact wX11_clauseHere_j157_KT g10
        · exact wX11_clauseHere_j157_KT g10
      · exact wX11_clauseHere_j157_KT g7
    · refine pk_bind (wX11_courtLineHere_KT g4) (fun p11 h12 => ?_)
      obtain ⟨t43, s44⟩ := p11
      have g13 : KT s0 s44 := h12
      dsimp only
      refine pk_bind pk_any (fun t46 _ => ?_)
      exact pk_some g13
theorem wX11_clauseHere_j70_KT {s0 : wS} {x1 : Int32} {x2 : Int32} {y0 : Int32} {s : wS}   (g : KT s0 s) : PK (wX11_clauseHere_j70 x1 x2 y0 s) (fun (r : Int32 × wS) => KT s0 r.2) := by
  unfold wX11_clauseHere_j70
  refine pk_ite (fun _ => ?_) (fun _ => ?_)
  · refine pk_bind (wX11_fails_KT g) (fun p1 h2 => ?_)
    obtain ⟨t19, s20⟩ := p1
    have g3 : KT s0 s20 := h2
    dsimp only
    refine pk_bind pk_any (fun t22 _ => ?_)
    exact pk_some g3
  · refine pk_ite (fun _ => ?_) (fun _ => ?_)
    · exact wX11_clauseHere_j97_KT g
    · exact wX11_clauseHere_j97_KT g
theorem wX11_clauseHere_j65_KT {s0 : wS} {x1 : Int32} {x2 : Int32} {s : wS}   (g : KT s0 s) : PK (wX11_clauseHere_j65 x1 x2 s) (fun (r : Int32 × wS) => KT s0 r.2) := by
  unfold wX11_clauseHere_j65
  exact wX11_clauseHere_j70_KT g
theorem wX11_clauseHere_j59_KT {s0 : wS} {x1 : Int32} {x2 : Int32} {y1 : Int64} {s : wS}   (g : KT s0 s) : PK (wX11_clauseHere_j59 x1 x2 y1 s) (fun (r : Int32 × wS) => KT s0 r.2) := by
  unfold wX11_clauseHere_j59
  refine pk_bind (wX11_isWord_KT g) (fun p1 h2 => ?_)
  obtain ⟨t14, s15⟩ := p1
  have g3 : KT s0 s15 := h2
  dsimp only
  refine pk_ite (fun _ => ?_) (fun _ => ?_)
  · exact wX11_clauseHere_j70_KT g3
  · exact wX11_clauseHere_j65_KT g3
theorem wX11_clauseHere_j24_KT {s0 : wS} {x1 : Int32} {y0 : Int32} {s : wS}   (g : KT s0 s) : PK (wX11_clauseHere_j24 x1 y0 s) (fun (r : Int32 × wS) => KT s0 r.2) := by
  unfold wX11_clauseHere_j24
  refine pk_bind (wX11_isWord_KT g) (fun p1 h2 => ?_)
  obtain ⟨t5, s6⟩ := p1
  have g3 : KT s0 s6 := h2
  dsimp only
  refine pk_ite (fun _ => ?_) (fun _ => ?_)
  · refine pk_bind (wX11_isWord_KT g3) (fun p4 h5 => ?_)
    obtain ⟨t9, s10⟩ := p4
    have g6 : KT s0 s10 := h5
    dsimp only
    refine pk_ite (fun _ => ?_) (fun _ => ?_)
    · refine pk_ite (fun _ => ?_) (fun _ => ?_)
      · exact wX11_clauseHere_j59_KT g6
      · exact wX11_clauseHere_j59_KT g6
    · exact wX11_clauseHere_j65_KT g6
  · exact wX11_clauseHere_j65_KT g3
theorem wX11_clauseHere_KT {s0 : wS} {s : wS}   (g : KT s0 s) : PK (wX11_clauseHere s) (fun (r : Int32 × wS) => KT s0 r.2) := by
  unfold wX11_clauseHere
  refine pk_bind (wX11_see_KT g) (fun p1 h2 => ?_)
  obtain ⟨t1, s2⟩ := p1
  have g3 : KT s0 s2 := h2
  dsimp only
  refine pk_ite (fun _ => ?_) (fun _ => ?_)
  · exact wX11_clauseHere_j24_KT g3
  · exact wX11_clauseHere_j24_KT g3
theorem wX11_readsAll_h35_KT {s0 : wS}    : ∀ (n : Nat) {x1 : Int32} {s : wS}, KT s0 s → PK (wX11_readsAll_h35 n x1 s) (fun (r : Int32 × wS) => KT s0 r.2) := by
  intro n
  induction n with
  | zero =>
    intro x1 s g
    rw [wX11_readsAll_h35]
    exact pk_none
  | succ n ih =>
    intro x1 s g
    rw [wX11_readsAll_h35]
    refine pk_ite (fun _ => ?_) (fun _ => ?_)
    · exact pk_some g
    · refine pk_bind (wX11_see_KT g) (fun p1 h2 => ?_)
      obtain ⟨t10, s11⟩ := p1
      have g3 : KT s0 s11 := h2
      dsimp only
      refine pk_ite (fun _ => ?_) (fun _ => ?_)
      · refine pk_bind (kt_pfI rfl g3) (fun s14 g4 => ?_)
        refine pk_bind (wX11_clauseHere_KT g4) (fun p5 h6 => ?_)
        obtain ⟨t15, s16⟩ := p5
        have g7 : KT s0 s16 := h6
        dsimp only
        exact ih g7
      · exact pk_some g3
theorem wX11_readsAll_j125_KT {s0 : wS} {s : wS}   (g : KT s0 s) : PK (wX11_readsAll_j125 s) (fun (r : Int32 × wS) => KT s0 r.2) := by
  unfold wX11_readsAll_j125
  refine pk_bind (kt_pfI rfl g) (fun s23 g1 => ?_)
  refine pk_ite (fun _ => ?_) (fun _ => ?_)
  · exact pk_some g1
  · exact pk_some g1
theorem wX11_readsAll_j115_KT {s0 : wS} {s : wS}   (g : KT s0 s) : PK (wX11_readsAll_j115 s) (fun (r : Int32 × wS) => KT s0 r.2) := by
  unfold wX11_readsAll_j115
  refine pk_bind (wX11_fails_KT g) (fun p1 h2 => ?_)
  obtain ⟨t27, s28⟩ := p1
  have g3 : KT s0 s28 := h2
  dsimp only
  exact wX11_readsAll_j125_KT g3
theorem wX11_readsAll_j88_KT {s0 : wS} {x1 : Int32} {s : wS}   (g : KT s0 s) : PK (wX11_readsAll_j88 x1 s) (fun (r : Int32 × wS) => KT s0 r.2) := by
  unfold wX11_readsAll_j88
  refine pk_ite (fun _ => ?_) (fun _ => ?_)
  · exact wX11_readsAll_j125_KT g
  · refine pk_ite (fun _ => ?_) (fun _ => ?_)
    · refine pk_ite (fun _ => ?_) (fun _ => ?_)
      · exact wX11_readsAll_j115_KT g
      · refine pk_ite (fun _ => ?_) (fun _ => ?_)
        · exact wX11_readsAll_j115_KT g
        · exact wX11_readsAll_j125_KT g
    · exact wX11_readsAll_j125_KT g
theorem wX11_readsAll_j66_KT {s0 : wS} {x1 : Int32} {s : wS}   (g : KT s0 s) : PK (wX11_readsAll_j66 x1 s) (fun (r : Int32 × wS) => KT s0 r.2) := by
  unfold wX11_readsAll_j66
  refine pk_ite (fun _ => ?_) (fun _ => ?_)
  · exact wX11_readsAll_j88_KT g
  · refine pk_bind (wX11_see_KT g) (fun p1 h2 => ?_)
    obtain ⟨t31, s32⟩ := p1
    have g3 : KT s0 s32 := h2
    dsimp only
    refine pk_ite (fun _ => ?_) (fun _ => ?_)
    · exact wX11_readsAll_j88_KT g3
    · refine pk_bind (wX11_fails_KT g3) (fun p4 h5 => ?_)
      obtain ⟨t35, s36⟩ := p4
      have g6 : KT s0 s36 := h5
      dsimp only
      exact wX11_readsAll_j88_KT g6
theorem wX11_readsAll_KT {s0 : wS} {s : wS}   (g : KT s0 s) : PK (wX11_readsAll s) (fun (r : Int32 × wS) => KT s0 r.2) := by
  unfold wX11_readsAll
  refine pk_bind (kt_stI (fun _ => rfl) g) (fun s1 g1 => ?_)
  refine pk_bind (kt_pfI rfl g1) (fun s2 g2 => ?_)
  refine pk_bind (kt_pfI rfl g2) (fun s3 g3 => ?_)
  refine pk_bind (kt_pfI rfl g3) (fun s4 g4 => ?_)
  refine pk_bind (kt_pfI rfl g4) (fun s5 g5 => ?_)
  refine pk_bind (wX11_clauseHere_KT g5) (fun p6 h7 => ?_)
  obtain ⟨t6, s7⟩ := p6
  have g8 : KT s0 s7 := h7
  dsimp only
  refine pk_bind (wX11_readsAll_h35_KT _ g8) (fun p9 h10 => ?_)
  obtain ⟨t19, s20⟩ := p9
  have g11 : KT s0 s20 := h10
  dsimp only
  exact wX11_readsAll_j66_KT g11
theorem wX11_law_KT {s0 : wS} {s : wS}   (g : KT s0 s) : PK (wX11_law s) (fun (r : Int32 × wS) => KT s0 r.2) := by
  unfold wX11_law
  refine pk_ite (fun _ => ?_) (fun _ => ?_)
  · exact pk_some g
  · refine pk_bind (kt_pfI rfl g) (fun s2 g1 => ?_)
    refine pk_bind (kt_stI (fun _ => rfl) g1) (fun s3 g2 => ?_)
    refine pk_bind (wX11_readsAll_KT g2) (fun p3 h4 => ?_)
    obtain ⟨t4, s5⟩ := p3
    have g5 : KT s0 s5 := h4
    dsimp only
    refine pk_ite (fun _ => ?_) (fun _ => ?_)
    · exact pk_some g5
    · refine pk_bind (kt_pfI rfl g5) (fun s8 g6 => ?_)
      exact pk_some g6
theorem wX11_court_h100_KT {s0 : wS}    : ∀ (n : Nat) {x1 : Int32} {s : wS}, KT s0 s → PK (wX11_court_h100 n x1 s) (fun (r : wS) => KT s0 r) := by
  intro n
  induction n with
  | zero =>
    intro x1 s g
    rw [wX11_court_h100]
    exact pk_none
  | succ n ih =>
    intro x1 s g
    rw [wX11_court_h100]
    refine pk_ite (fun _ => ?_) (fun _ => ?_)
    · refine pk_bind pk_any (fun t17 _ => ?_)
      refine pk_bind (kt_stI (fun _ => rfl) g) (fun s18 g1 => ?_)
      exact ih g1
    · exact pk_some g
theorem wX11_court_h133_KT {s0 : wS}    : ∀ (n : Nat) {x1 : Int32} {s : wS}, KT s0 s → PK (wX11_court_h133 n x1 s) (fun (r : wS) => KT s0 r) := by
  intro n
  induction n with
  | zero =>
    intro x1 s g
    rw [wX11_court_h133]
    exact pk_none
  | succ n ih =>
    intro x1 s g
    rw [wX11_court_h133]
    refine pk_ite (fun _ => ?_) (fun _ => ?_)
    · refine pk_bind pk_any (fun t23 _ => ?_)
      refine pk_bind (kt_stI (fun _ => rfl) g) (fun s24 g1 => ?_)
      exact ih g1
    · exact pk_some g
theorem wX11_court_j56_KT {s0 : wS} {y1 : Int32} {y2 : Int32} {s : wS}   (g : KT s0 s) : PK (wX11_court_j56 y1 y2 s) (fun (r : Int32 × wS) => KT s0 r.2) := by
  unfold wX11_court_j56
  refine pk_bind (kt_stI (fun _ => rfl) g) (fun s10 g1 => ?_)
  refine pk_bind (kt_stI (fun _ => rfl) g1) (fun s11 g2 => ?_)
  refine pk_bind (kt_stI (fun _ => rfl) g2) (fun s12 g3 => ?_)
  refine pk_bind (kt_stI (fun _ => rfl) g3) (fun s13 g4 => ?_)
  refine pk_bind (kt_stI (fun _ => rfl) g4) (fun s14 g5 => ?_)
  refine pk_bind (kt_stI (fun _ => rfl) g5) (fun s15 g6 => ?_)
  refine pk_bind (wX11_court_h100_KT _ g6) (fun s20 g7 => ?_)
  refine pk_bind (wX11_court_h133_KT _ g7) (fun s26 g8 => ?_)
  refine pk_bind pk_any (fun t28 _ => ?_)
  exact pk_some g8
theorem wX11_court_KT {s0 : wS} {s : wS}   (g : KT s0 s) : PK (wX11_court s) (fun (r : Int32 × wS) => KT s0 r.2) := by
  unfold wX11_court
  refine pk_bind (kt_pfI rfl g) (fun s1 g1 => ?_)
  refine pk_bind (kt_pfI rfl g1) (fun s2 g2 => ?_)
  refine pk_bind (kt_pfI rfl g2) (fun s3 g3 => ?_)
  refine pk_bind (kt_pfI rfl g3) (fun s4 g4 => ?_)
  refine pk_bind (wX11_readsAll_KT g4) (fun p5 h6 => ?_)
  obtain ⟨t5, s6⟩ := p5
  have g7 : KT s0 s6 := h6
  dsimp only
  refine pk_ite (fun _ => ?_) (fun _ => ?_)
  · exact pk_some g7
  · refine pk_ite (fun _ => ?_) (fun _ => ?_)
    · exact wX11_court_j56_KT g7
    · exact wX11_court_j56_KT g7
theorem wX11_answer_KT {s0 : wS} {x1 : Int32} {x2 : Int32} {x3 : Int32} {x4 : Int32} {s : wS}   (g : KT s0 s) : PK (wX11_answer x1 x2 x3 x4 s) (fun (r : Int32 × wS) => KT s0 r.2) := by
  unfold wX11_answer
  refine pk_ite (fun _ => ?_) (fun _ => ?_)
  · exact pk_some g
  · refine pk_bind pk_any (fun t3 _ => ?_)
    refine pk_ite (fun _ => ?_) (fun _ => ?_)
    · exact pk_some g
    · refine pk_bind pk_any (fun t6 _ => ?_)
      refine pk_ite (fun _ => ?_) (fun _ => ?_)
      · exact pk_some g
      · refine pk_bind pk_any (fun t9 _ => ?_)
        refine pk_ite (fun _ => ?_) (fun _ => ?_)
        · exact pk_some g
        · refine pk_ite (fun _ => ?_) (fun _ => ?_)
          · exact pk_some g
          · refine pk_bind pk_any (fun t13 _ => ?_)
            refine pk_ite (fun _ => ?_) (fun _ => ?_)
            · exact pk_some g
            · refine pk_bind (kt_stI (fun _ => rfl) g) (fun s17 g1 => ?_)
              refine pk_bind (kt_stI (fun _ => rfl) g1) (fun s18 g2 => ?_)
              refine pk_bind (kt_stI (fun _ => rfl) g2) (fun s19 g3 => ?_)
              refine pk_bind (kt_stI (fun _ => rfl) g3) (fun s20 g4 => ?_)
              refine pk_bind (kt_stI (fun _ => rfl) g4) (fun s21 g5 => ?_)
              refine pk_bind (kt_stI (fun _ => rfl) g5) (fun s23 g6 => ?_)
              exact pk_some g6
theorem wX11_strike_j50_KT {s0 : wS} {y1 : Int32} {y2 : Int32} {s : wS}   (g : KT s0 s) : PK (wX11_strike_j50 y1 y2 s) (fun (r : Int32 × wS) => KT s0 r.2) := by
  unfold wX11_strike_j50
  refine pk_bind (kt_stI (fun _ => rfl) g) (fun s9 g1 => ?_)
  exact pk_some g1
theorem wX11_strike_j23_KT {s0 : wS} {x1 : Int32} {x2 : Int32} {y0 : Int32} {s : wS}   (g : KT s0 s) : PK (wX11_strike_j23 x1 x2 y0 s) (fun (r : Int32 × wS) => KT s0 r.2) := by
  unfold wX11_strike_j23
  refine pk_ite (fun _ => ?_) (fun _ => ?_)
  · exact pk_some g
  · refine pk_ite (fun _ => ?_) (fun _ => ?_)
    · exact wX11_strike_j50_KT g
    · exact wX11_strike_j50_KT g
theorem wX11_strike_KT {s0 : wS} {x1 : Int32} {x2 : Int32} {s : wS}   (g : KT s0 s) : PK (wX11_strike x1 x2 s) (fun (r : Int32 × wS) => KT s0 r.2) := by
  unfold wX11_strike
  refine pk_bind pk_any (fun t1 _ => ?_)
  refine pk_ite (fun _ => ?_) (fun _ => ?_)
  · exact pk_some g
  · refine pk_bind pk_any (fun t4 _ => ?_)
    refine pk_ite (fun _ => ?_) (fun _ => ?_)
    · exact wX11_strike_j23_KT g
    · exact wX11_strike_j23_KT g
theorem wX11_only_KT {s0 : wS} {x1 : Int32} {s : wS}   (g : KT s0 s) : PK (wX11_only x1 s) (fun (r : Int32 × wS) => KT s0 r.2) := by
  unfold wX11_only
  refine pk_bind pk_any (fun t1 _ => ?_)
  refine pk_ite (fun _ => ?_) (fun _ => ?_)
  · exact pk_some g
  · refine pk_bind (kt_stI (fun _ => rfl) g) (fun s5 g1 => ?_)
    exact pk_some g1
theorem wX11_seed_KT {s0 : wS} {x1 : Int32} {s : wS}   (g : KT s0 s) : PK (wX11_seed x1 s) (fun (r : Int32 × wS) => KT s0 r.2) := by
  unfold wX11_seed
  refine pk_ite (fun _ => ?_) (fun _ => ?_)
  · exact pk_some g
  · refine pk_bind (kt_stI (fun _ => rfl) g) (fun s3 g1 => ?_)
    exact pk_some g1
theorem wX11_verdict_KT {s0 : wS} {x1 : Int32} {s : wS}   (g : KT s0 s) : PK (wX11_verdict x1 s) (fun (r : Int32 × wS) => KT s0 r.2) := by
  unfold wX11_verdict
  refine pk_ite (fun _ => ?_) (fun _ => ?_)
  · refine pk_bind (kt_stI (fun _ => rfl) g) (fun s2 g1 => ?_)
    exact pk_some g1
  · refine pk_bind pk_any (fun t3 _ => ?_)
    refine pk_ite (fun _ => ?_) (fun _ => ?_)
    · exact pk_some g
    · refine pk_ite (fun _ => ?_) (fun _ => ?_)
      · exact pk_some g
      · refine pk_bind (kt_stI (fun _ => rfl) g) (fun s9 g2 => ?_)
        refine pk_bind (kt_stI (fun _ => rfl) g2) (fun s12 g3 => ?_)
        refine pk_bind (kt_stI (fun _ => rfl) g3) (fun s14 g4 => ?_)
        exact pk_some g4
theorem wX11_image_h23_KT {s0 : wS} {x1 : Int32}   : ∀ (n : Nat) {x2 : Int32} {s : wS}, KT s0 s → PK (wX11_image_h23 x1 n x2 s) (fun (r : wS) => KT s0 r) := by
  intro n
  induction n with
  | zero =>
    intro x2 s g
    rw [wX11_image_h23]
    exact pk_none
  | succ n ih =>
    intro x2 s g
    rw [wX11_image_h23]
    refine pk_ite (fun _ => ?_) (fun _ => ?_)
    · refine pk_bind pk_any (fun t6 _ => ?_)
      refine pk_bind (kt_stI (fun _ => rfl) g) (fun s7 g1 => ?_)
      exact ih g1
    · exact pk_some g
theorem wX11_image_KT {s0 : wS} {x1 : Int32} {s : wS}   (g : KT s0 s) : PK (wX11_image x1 s) (fun (r : Int32 × wS) => KT s0 r.2) := by
  unfold wX11_image
  refine pk_bind pk_any (fun t1 _ => ?_)
  refine pk_ite (fun _ => ?_) (fun _ => ?_)
  · exact pk_some g
  · refine pk_bind (kt_stZ (fun _ => rfl) g) (fun s4 g1 => ?_)
    refine pk_bind (wX11_image_h23_KT _ g1) (fun s9 g2 => ?_)
    exact pk_some g2
theorem wX11_back_h25_KT {s0 : wS} {x1 : Int32}   : ∀ (n : Nat) {x2 : Int32} {s : wS}, KT s0 s → PK (wX11_back_h25 x1 n x2 s) (fun (r : wS) => KT s0 r) := by
  intro n
  induction n with
  | zero =>
    intro x2 s g
    rw [wX11_back_h25]
    exact pk_none
  | succ n ih =>
    intro x2 s g
    rw [wX11_back_h25]
    refine pk_ite (fun _ => ?_) (fun _ => ?_)
    · refine pk_bind pk_any (fun t7 _ => ?_)
      refine pk_bind (kt_stI (fun _ => rfl) g) (fun s8 g1 => ?_)
      exact ih g1
    · exact pk_some g
theorem wX11_back_KT {s0 : wS} {x1 : Int32} {s : wS}   (g : KT s0 s) : PK (wX11_back x1 s) (fun (r : Int32 × wS) => KT s0 r.2) := by
  unfold wX11_back
  refine pk_bind pk_any (fun t1 _ => ?_)
  refine pk_ite (fun _ => ?_) (fun _ => ?_)
  · exact pk_some g
  · refine pk_bind pk_any (fun t4 _ => ?_)
    refine pk_ite (fun _ => ?_) (fun _ => ?_)
    · exact pk_some g
    · refine pk_bind (wX11_back_h25_KT _ g) (fun s10 g1 => ?_)
      exact pk_some g1
theorem wX9_cutOne_j131_KT {s0 : wS} {x2 : Int32} {s : wS}   (g : KT s0 s) : PK (wX9_cutOne_j131 x2 s) (fun (r : Int32 × wS) => KT s0 r.2) := by
  unfold wX9_cutOne_j131
  exact pk_some g
theorem wX9_cutOne_j108_KT {s0 : wS} {x2 : Int32} {y0 : Int32} {y1 : Int32} {s : wS}   (g : KT s0 s) : PK (wX9_cutOne_j108 x2 y0 y1 s) (fun (r : Int32 × wS) => KT s0 r.2) := by
  unfold wX9_cutOne_j108
  refine pk_bind pk_any (fun t15 _ => ?_)
  refine pk_bind (wX9_put_KT g) (fun s18 g1 => ?_)
  refine pk_ite (fun _ => ?_) (fun _ => ?_)
  · exact wX9_cutOne_j131_KT g1
  · refine pk_ite (fun _ => ?_) (fun _ => ?_)
    · exact wX9_cutOne_j131_KT g1
    · exact pk_some g1
theorem wX9_cutOne_KT {s0 : wS} {x2 : Int32} {s : wS}   (g : KT s0 s) : PK (wX9_cutOne x2 s) (fun (r : Int32 × wS) => KT s0 r.2) := by
  unfold wX9_cutOne
  refine pk_bind pk_any (fun t1 _ => ?_)
  refine pk_ite (fun _ => ?_) (fun _ => ?_)
  · exact pk_some g
  · refine pk_bind pk_any (fun t4 _ => ?_)
    refine pk_ite (fun _ => ?_) (fun _ => ?_)
    · refine pk_bind pk_any (fun t7 _ => ?_)
      refine pk_ite (fun _ => ?_) (fun _ => ?_)
      · refine pk_bind pk_any (fun t10 _ => ?_)
        refine pk_bind pk_any (fun t12 _ => ?_)
        refine pk_ite (fun _ => ?_) (fun _ => ?_)
        · exact wX9_cutOne_j108_KT g
        · exact wX9_cutOne_j108_KT g
      · refine pk_bind pk_any (fun t22 _ => ?_)
        refine pk_bind pk_any (fun t24 _ => ?_)
        refine pk_bind (wX9_put_KT g) (fun s27 g1 => ?_)
        exact pk_some g1
    · refine pk_bind pk_any (fun t29 _ => ?_)
      refine pk_bind pk_any (fun t31 _ => ?_)
      refine pk_bind (wX9_put_KT g) (fun s34 g2 => ?_)
      exact pk_some g2
theorem wX9_cut_h19_KT {s0 : wS}    : ∀ (n : Nat) {x2 : Int32} {x3 : Int32} {s : wS}, KT s0 s → PK (wX9_cut_h19 n x2 x3 s) (fun (r : wS) => KT s0 r) := by
  intro n
  induction n with
  | zero =>
    intro x2 x3 s g
    rw [wX9_cut_h19]
    exact pk_none
  | succ n ih =>
    intro x2 x3 s g
    rw [wX9_cut_h19]
    refine pk_ite (fun _ => ?_) (fun _ => ?_)
    · refine pk_ite (fun _ => ?_) (fun _ => ?_)
      · refine pk_bind (wX9_cutOne_KT g) (fun p1 h2 => ?_)
        obtain ⟨t6, s7⟩ := p1
        have g3 : KT s0 s7 := h2
        dsimp only
        exact ih g3
      · exact pk_some g
    · exact pk_some g
theorem wX9_cut_j47_KT {s0 : wS} {s : wS}   (g : KT s0 s) : PK (wX9_cut_j47 s) (fun (r : wS) => KT s0 r) := by
  unfold wX9_cut_j47
  refine pk_bind (wX9_put_KT g) (fun s14 g1 => ?_)
  exact pk_some g1
theorem wX9_cut_KT {s0 : wS} {s : wS}   (g : KT s0 s) : PK (wX9_cut s) (fun (r : wS) => KT s0 r) := by
  unfold wX9_cut
  refine pk_bind (kt_pfI rfl g) (fun s1 g1 => ?_)
  refine pk_bind (kt_pfI rfl g1) (fun s2 g2 => ?_)
  refine pk_bind (kt_pfI rfl g2) (fun s3 g3 => ?_)
  refine pk_bind (wX9_cut_h19_KT _ g3) (fun s10 g4 => ?_)
  exact wX9_cut_j47_KT g4
