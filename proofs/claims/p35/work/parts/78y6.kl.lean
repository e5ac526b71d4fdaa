/-! What is told writes no far table. -/
theorem wX0_clear_KL {s0 : wS} {k0 : Nat} {s : wS}   (g : KLo s0 s) : PK (wX0_clear k0 s) (fun (r : wS) => KLo s0 r) := by
  unfold wX0_clear
  refine pk_bind (kl_stI  g) (fun s1 g1 => ?_)
  refine pk_bind (kl_stI  g1) (fun s2 g2 => ?_)
  refine pk_bind (kl_stI  g2) (fun s3 g3 => ?_)
  exact pk_some g3
theorem wX0_setHours_j19_KL {s0 : wS} {k100 : Nat} {y1 : Int32} {y2 : Int32} {s : wS}   (g : KLo s0 s) : PK (wX0_setHours_j19 k100 y1 y2 s) (fun (r : wS) => KLo s0 r) := by
  unfold wX0_setHours_j19
  refine pk_bind (kl_stI  g) (fun s4 g1 => ?_)
  exact pk_some g1
theorem wX0_setHours_KL {s0 : wS} {k0 : Nat} {x1 : Int32} {s : wS}   (g : KLo s0 s) : PK (wX0_setHours k0 x1 s) (fun (r : wS) => KLo s0 r) := by
  unfold wX0_setHours
  refine pk_bind pk_any (fun t1 _ => ?_)
  refine pk_ite (fun _ => ?_) (fun _ => ?_)
  · exact wX0_setHours_j19_KL g
  · exact wX0_setHours_j19_KL g
theorem wX10_set_KL {s0 : wS} {k0 : Nat} {x1 : Int32} {x2 : Int32} {s : wS}   (g : KLo s0 s) : PK (wX10_set k0 x1 x2 s) (fun (r : wS) => KLo s0 r) := by
  unfold wX10_set
  refine pk_ite (fun _ => ?_) (fun _ => ?_)
  · exact pk_some g
  · refine pk_ite (fun _ => ?_) (fun _ => ?_)
    · refine pk_bind (kl_stI  g) (fun s3 g1 => ?_)
      exact pk_some g1
    · exact pk_some g
theorem wX0_add_KL {s0 : wS} {k0 : Nat} {x1 : Int32} {x2 : Int32} {x3 : Int32} {s : wS}   (g : KLo s0 s) : PK (wX0_add k0 x1 x2 x3 s) (fun (r : wS) => KLo s0 r) := by
  unfold wX0_add
  refine pk_bind pk_any (fun t1 _ => ?_)
  refine pk_ite (fun _ => ?_) (fun _ => ?_)
  · refine pk_bind pk_any (fun t4 _ => ?_)
    refine pk_bind (wX10_set_KL g) (fun s7 g1 => ?_)
    refine pk_bind pk_any (fun t9 _ => ?_)
    refine pk_bind (wX10_set_KL g1) (fun s12 g2 => ?_)
    refine pk_bind (wX10_set_KL g2) (fun s15 g3 => ?_)
    exact pk_some g3
  · exact pk_some g
theorem wX0_becomes_KL {s0 : wS} {k0 : Nat} {k1 : Nat} {s : wS}   (g : KLo s0 s) : PK (wX0_becomes k0 k1 s) (fun (r : wS) => KLo s0 r) := by
  unfold wX0_becomes
  refine pk_bind (kl_cpI  g) (fun s1 g1 => ?_)
  refine pk_bind (kl_cpI  g1) (fun s2 g2 => ?_)
  refine pk_bind (kl_cpI  g2) (fun s3 g3 => ?_)
  exact pk_some g3
theorem wX9_skip_KL {s0 : wS} {s : wS}   (g : KLo s0 s) : PK (wX9_skip s) (fun (r : wS) => KLo s0 r) := by
  unfold wX9_skip
  refine pk_ite (fun _ => ?_) (fun _ => ?_)
  · refine pk_bind (kl_pfI  g) (fun s2 g1 => ?_)
    exact pk_some g1
  · exact pk_some g
theorem wX9_fail_j29_KL {s0 : wS} {s : wS}   (g : KLo s0 s) : PK (wX9_fail_j29 s) (fun (r : wS) => KLo s0 r) := by
  unfold wX9_fail_j29
  refine pk_bind (kl_pfI  g) (fun s5 g1 => ?_)
  exact pk_some g1
theorem wX9_fail_KL {s0 : wS} {x1 : Int32} {s : wS}   (g : KLo s0 s) : PK (wX9_fail x1 s) (fun (r : wS) => KLo s0 r) := by
  unfold wX9_fail
  refine pk_ite (fun _ => ?_) (fun _ => ?_)
  · refine pk_bind pk_any (fun t2 _ => ?_)
    refine pk_bind (kl_pfI  g) (fun s4 g1 => ?_)
    exact wX9_fail_j29_KL g1
  · exact wX9_fail_j29_KL g
theorem wX9_takeNumber_j45_KL {s0 : wS} {x3 : Int32} {s : wS}   (g : KLo s0 s) : PK (wX9_takeNumber_j45 x3 s) (fun (r : Int32 × wS) => KLo s0 r.2) := by
  unfold wX9_takeNumber_j45
  refine pk_bind (wX9_fail_KL g) (fun s8 g1 => ?_)
  exact pk_some g1
theorem wX9_takeNumber_KL {s0 : wS} {x1 : Int32} {x2 : Int32} {s : wS}   (g : KLo s0 s) : PK (wX9_takeNumber x1 x2 s) (fun (r : Int32 × wS) => KLo s0 r.2) := by
  unfold wX9_takeNumber
  refine pk_bind pk_any (fun t1 _ => ?_)
  refine pk_bind pk_any (fun t3 _ => ?_)
  refine pk_ite (fun _ => ?_) (fun _ => ?_)
  · refine pk_ite (fun _ => ?_) (fun _ => ?_)
    · exact wX9_takeNumber_j45_KL g
    · refine pk_ite (fun _ => ?_) (fun _ => ?_)
      · exact wX9_takeNumber_j45_KL g
      · refine pk_bind (wX9_skip_KL g) (fun s12 g1 => ?_)
        exact pk_some g1
  · refine pk_bind (wX9_fail_KL g) (fun s15 g2 => ?_)
    exact pk_some g2
theorem wX1_readClause_j121_KL {s0 : wS} {k100 : Nat} {y1 : Int32} {y2 : Int32} {y4 : Int32} {y5 : Int32} {s : wS}   (g : KLo s0 s) : PK (wX1_readClause_j121 k100 y1 y2 y4 y5 s) (fun (r : wS) => KLo s0 r) := by
  unfold wX1_readClause_j121
  refine pk_bind (wX9_takeNumber_KL g) (fun p1 h2 => ?_)
  obtain ⟨t26, s27⟩ := p1
  have g3 : KLo s0 s27 := h2
  dsimp only
  refine pk_bind (wX0_add_KL g3) (fun s30 g4 => ?_)
  exact pk_some g4
theorem wX1_readClause_j51_KL {s0 : wS} {k2 : Nat} {x4 : Int32} {y0 : Int32} {s : wS}   (g : KLo s0 s) : PK (wX1_readClause_j51 k2 x4 y0 s) (fun (r : wS) => KLo s0 r) := by
  unfold wX1_readClause_j51
  refine pk_ite (fun _ => ?_) (fun _ => ?_)
  · refine pk_bind (wX9_skip_KL g) (fun s12 g1 => ?_)
    refine pk_ite (fun _ => ?_) (fun _ => ?_)
    · refine pk_bind (wX9_takeNumber_KL g1) (fun p2 h3 => ?_)
      obtain ⟨t15, s16⟩ := p2
      have g4 : KLo s0 s16 := h3
      dsimp only
      refine pk_bind (wX0_setHours_KL g4) (fun s19 g5 => ?_)
      refine pk_bind (kl_pfZ  g5) (fun s21 g6 => ?_)
      exact pk_some g6
    · refine pk_bind (wX9_takeNumber_KL g1) (fun p7 h8 => ?_)
      obtain ⟨t22, s23⟩ := p7
      have g9 : KLo s0 s23 := h8
      dsimp only
      refine pk_ite (fun _ => ?_) (fun _ => ?_)
      · exact wX1_readClause_j121_KL g9
      · exact wX1_readClause_j121_KL g9
  · refine pk_bind (wX9_fail_KL g) (fun s33 g10 => ?_)
    exact pk_some g10
theorem wX1_readClause_KL {s0 : wS} {k2 : Nat} {s : wS}   (g : KLo s0 s) : PK (wX1_readClause k2 s) (fun (r : wS) => KLo s0 r) := by
  unfold wX1_readClause
  refine pk_bind pk_any (fun t1 _ => ?_)
  refine pk_bind pk_any (fun t3 _ => ?_)
  refine pk_ite (fun _ => ?_) (fun _ => ?_)
  · refine pk_bind (wX9_fail_KL g) (fun s7 g1 => ?_)
    exact pk_some g1
  · refine pk_ite (fun _ => ?_) (fun _ => ?_)
    · exact wX1_readClause_j51_KL g
    · refine pk_bind pk_any (fun t35 _ => ?_)
      refine pk_ite (fun _ => ?_) (fun _ => ?_)
      · exact wX1_readClause_j51_KL g
      · exact wX1_readClause_j51_KL g
theorem wX9_take_KL {s0 : wS} {x1 : Int32} {s : wS}   (g : KLo s0 s) : PK (wX9_take x1 s) (fun (r : Int32 × wS) => KLo s0 r.2) := by
  unfold wX9_take
  refine pk_bind pk_any (fun t1 _ => ?_)
  refine pk_ite (fun _ => ?_) (fun _ => ?_)
  · refine pk_bind (wX9_skip_KL g) (fun s5 g1 => ?_)
    exact pk_some g1
  · exact pk_some g
theorem wX1_read_h14_KL {s0 : wS} {k2 : Nat}   : ∀ (n : Nat) {x3 : Int32} {x4 : Int32} {s : wS}, KLo s0 s → PK (wX1_read_h14 k2 n x3 x4 s) (fun (r : wS) => KLo s0 r) := by
  intro n
  induction n with
  | zero =>
    intro x3 x4 s g
    rw [wX1_read_h14]
    exact pk_none
  | succ n ih =>
    intro x3 x4 s g
    rw [wX1_read_h14]
    refine pk_ite (fun _ => ?_) (fun _ => ?_)
    · refine pk_ite (fun _ => ?_) (fun _ => ?_)
      · exact pk_some g
      · refine pk_bind (wX1_readClause_KL g) (fun s8 g1 => ?_)
        refine pk_bind (wX9_take_KL g1) (fun p2 h3 => ?_)
        obtain ⟨t10, s11⟩ := p2
        have g4 : KLo s0 s11 := h3
        dsimp only
        exact ih g4
    · exact pk_some g
theorem wX1_read_j58_KL {s0 : wS} {s : wS}   (g : KLo s0 s) : PK (wX1_read_j58 s) (fun (r : wS) => KLo s0 r) := by
  unfold wX1_read_j58
  refine pk_bind (wX9_fail_KL g) (fun s24 g1 => ?_)
  exact pk_some g1
theorem wX1_read_j44_KL {s0 : wS} {k2 : Nat} {s : wS}   (g : KLo s0 s) : PK (wX1_read_j44 k2 s) (fun (r : wS) => KLo s0 r) := by
  unfold wX1_read_j44
  refine pk_bind pk_any (fun t17 _ => ?_)
  refine pk_ite (fun _ => ?_) (fun _ => ?_)
  · refine pk_bind pk_any (fun t20 _ => ?_)
    refine pk_ite (fun _ => ?_) (fun _ => ?_)
    · exact wX1_read_j58_KL g
    · exact pk_some g
  · exact wX1_read_j58_KL g
theorem wX1_read_KL {s0 : wS} {k2 : Nat} {s : wS}   (g : KLo s0 s) : PK (wX1_read k2 s) (fun (r : wS) => KLo s0 r) := by
  unfold wX1_read
  refine pk_bind (wX0_clear_KL g) (fun s2 g1 => ?_)
  refine pk_bind (kl_pfZ  g1) (fun s4 g2 => ?_)
  refine pk_bind (wX1_read_h14_KL _ g2) (fun s14 g3 => ?_)
  exact wX1_read_j44_KL g3
theorem wX2_open_KL {s0 : wS} {k0 : Nat} {k1 : Nat} {s : wS}   (g : KLo s0 s) : PK (wX2_open k0 k1 s) (fun (r : wS) => KLo s0 r) := by
  unfold wX2_open
  refine pk_bind (wX0_becomes_KL g) (fun s2 g1 => ?_)
  refine pk_bind (kl_pfI  g1) (fun s4 g2 => ?_)
  refine pk_bind (kl_pfI  g2) (fun s5 g3 => ?_)
  refine pk_bind (kl_pfI  g3) (fun s6 g4 => ?_)
  exact pk_some g4
theorem wX2_becomes_h73_KL {s0 : wS} {k0 : Nat} {k1 : Nat}   : ∀ (n : Nat) {x2 : Int32} {s : wS}, KLo s0 s → PK (wX2_becomes_h73 k0 k1 n x2 s) (fun (r : wS) => KLo s0 r) := by
  intro n
  induction n with
  | zero =>
    intro x2 s g
    rw [wX2_becomes_h73]
    exact pk_none
  | succ n ih =>
    intro x2 s g
    rw [wX2_becomes_h73]
    refine pk_ite (fun _ => ?_) (fun _ => ?_)
    · refine pk_bind pk_any (fun t9 _ => ?_)
      refine pk_bind (kl_stZ  g) (fun s10 g1 => ?_)
      exact ih g1
    · exact pk_some g
theorem wX2_becomes_KL {s0 : wS} {k0 : Nat} {k1 : Nat} {s : wS}   (g : KLo s0 s) : PK (wX2_becomes k0 k1 s) (fun (r : wS) => KLo s0 r) := by
  unfold wX2_becomes
  refine pk_bind (wX0_becomes_KL g) (fun s2 g1 => ?_)
  refine pk_bind (kl_cpI  g1) (fun s4 g2 => ?_)
  refine pk_bind (kl_cpI  g2) (fun s5 g3 => ?_)
  refine pk_bind (kl_cpI  g3) (fun s6 g4 => ?_)
  refine pk_bind (kl_cpI  g4) (fun s7 g5 => ?_)
  refine pk_bind (wX2_becomes_h73_KL _ g5) (fun s12 g6 => ?_)
  refine pk_bind (kl_pfI  g6) (fun s14 g7 => ?_)
  refine pk_bind (kl_pfI  g7) (fun s15 g8 => ?_)
  refine pk_bind (kl_cpI  g8) (fun s16 g9 => ?_)
  refine pk_bind (kl_cpI  g9) (fun s17 g10 => ?_)
  refine pk_bind (kl_pfI  g10) (fun s18 g11 => ?_)
  refine pk_bind (kl_pfI  g11) (fun s19 g12 => ?_)
  exact pk_some g12
theorem wX2_takeDown_KL {s0 : wS} {k0 : Nat} {x1 : Int32} {x2 : Int32} {x3 : Int32} {x4 : Int32} {s : wS}   (g : KLo s0 s) : PK (wX2_takeDown k0 x1 x2 x3 x4 s) (fun (r : Int32 × wS) => KLo s0 r.2) := by
  unfold wX2_takeDown
  refine pk_bind pk_any (fun t1 _ => ?_)
  refine pk_ite (fun _ => ?_) (fun _ => ?_)
  · refine pk_bind (kl_stI  g) (fun s4 g1 => ?_)
    refine pk_bind (kl_stI  g1) (fun s5 g2 => ?_)
    refine pk_bind (kl_stI  g2) (fun s6 g3 => ?_)
    refine pk_bind (kl_stI  g3) (fun s7 g4 => ?_)
    refine pk_bind (kl_stZ  g4) (fun s8 g5 => ?_)
    refine pk_bind (kl_pfI  g5) (fun s9 g6 => ?_)
    exact pk_some g6
  · exact pk_some g
theorem wX2_setStruck_KL {s0 : wS} {k0 : Nat} {x1 : Int32} {x2 : Int32} {s : wS}   (g : KLo s0 s) : PK (wX2_setStruck k0 x1 x2 s) (fun (r : wS) => KLo s0 r) := by
  unfold wX2_setStruck
  refine pk_bind pk_any (fun t1 _ => ?_)
  refine pk_ite (fun _ => ?_) (fun _ => ?_)
  · refine pk_bind (kl_stZ  g) (fun s4 g1 => ?_)
    exact pk_some g1
  · exact pk_some g
theorem wX2_judge_KL {s0 : wS} {k0 : Nat} {x1 : Int32} {s : wS}   (g : KLo s0 s) : PK (wX2_judge k0 x1 s) (fun (r : wS) => KLo s0 r) := by
  unfold wX2_judge
  refine pk_bind pk_any (fun t1 _ => ?_)
  refine pk_ite (fun _ => ?_) (fun _ => ?_)
  · refine pk_bind (kl_stI  g) (fun s4 g1 => ?_)
    refine pk_bind (kl_stI  g1) (fun s5 g2 => ?_)
    refine pk_bind (kl_pfI  g2) (fun s6 g3 => ?_)
    exact pk_some g3
  · exact pk_some g
theorem wX3_clear_KL {s0 : wS} {k0 : Nat} {s : wS}   (g : KLo s0 s) : PK (wX3_clear k0 s) (fun (r : wS) => KLo s0 r) := by
  unfold wX3_clear
  refine pk_bind (kl_pfI  g) (fun s1 g1 => ?_)
  refine pk_bind (kl_pfI  g1) (fun s2 g2 => ?_)
  refine pk_bind (kl_pfZ  g2) (fun s3 g3 => ?_)
  exact pk_some g3
theorem wX3_put_KL {s0 : wS} {k0 : Nat} {x1 : Int32} {s : wS}   (g : KLo s0 s) : PK (wX3_put k0 x1 s) (fun (r : wS) => KLo s0 r) := by
  unfold wX3_put
  refine pk_ite (fun _ => ?_) (fun _ => ?_)
  · exact pk_some g
  · refine pk_ite (fun _ => ?_) (fun _ => ?_)
    · exact pk_some g
    · refine pk_ite (fun _ => ?_) (fun _ => ?_)
      · refine pk_bind (kl_stI  g) (fun s4 g1 => ?_)
        refine pk_bind (kl_pfI  g1) (fun s5 g2 => ?_)
        exact pk_some g2
      · exact pk_some g
theorem wX3_addClause_KL {s0 : wS} {k0 : Nat} {x1 : Int32} {x2 : Int32} {x3 : Int32} {s : wS}   (g : KLo s0 s) : PK (wX3_addClause k0 x1 x2 x3 s) (fun (r : wS) => KLo s0 r) := by
  unfold wX3_addClause
  refine pk_bind pk_any (fun t1 _ => ?_)
  refine pk_ite (fun _ => ?_) (fun _ => ?_)
  · refine pk_bind (kl_stI  g) (fun s4 g1 => ?_)
    refine pk_bind (kl_stI  g1) (fun s5 g2 => ?_)
    refine pk_bind (kl_stI  g2) (fun s6 g3 => ?_)
    refine pk_bind (kl_stI  g3) (fun s7 g4 => ?_)
    refine pk_bind (kl_pfI  g4) (fun s8 g5 => ?_)
    exact pk_some g5
  · exact pk_some g
theorem wX4_readValue_j34_KL {s0 : wS} {s : wS}   (g : KLo s0 s) : PK (wX4_readValue_j34 s) (fun (r : wS) => KLo s0 r) := by
  unfold wX4_readValue_j34
  refine pk_bind (wX9_fail_KL g) (fun s7 g1 => ?_)
  exact pk_some g1
theorem wX4_readValue_j111_KL {s0 : wS} {k100 : Nat} {y1 : Int32} {s : wS}   (g : KLo s0 s) : PK (wX4_readValue_j111 k100 y1 s) (fun (r : wS) => KLo s0 r) := by
  unfold wX4_readValue_j111
  refine pk_bind (wX3_put_KL g) (fun s15 g1 => ?_)
  refine pk_bind (wX9_skip_KL g1) (fun s18 g2 => ?_)
  exact pk_some g2
theorem wX4_readValue_j67_KL {s0 : wS} {k2 : Nat} {x3 : Int32} {x4 : Int32} {s : wS}   (g : KLo s0 s) : PK (wX4_readValue_j67 k2 x3 x4 s) (fun (r : wS) => KLo s0 r) := by
  unfold wX4_readValue_j67
  refine pk_ite (fun _ => ?_) (fun _ => ?_)
  · refine pk_bind (kl_pfI  g) (fun s12 g1 => ?_)
    refine pk_ite (fun _ => ?_) (fun _ => ?_)
    · exact wX4_readValue_j111_KL g1
    · refine pk_bind pk_any (fun t20 _ => ?_)
      exact wX4_readValue_j111_KL g1
  · refine pk_bind (wX9_fail_KL g) (fun s23 g2 => ?_)
    exact pk_some g2
theorem wX4_readValue_j42_KL {s0 : wS} {k2 : Nat} {x3 : Int32} {x4 : Int32} {s : wS}   (g : KLo s0 s) : PK (wX4_readValue_j42 k2 x3 x4 s) (fun (r : wS) => KLo s0 r) := by
  unfold wX4_readValue_j42
  refine pk_ite (fun _ => ?_) (fun _ => ?_)
  · exact wX4_readValue_j67_KL g
  · refine pk_bind pk_any (fun t25 _ => ?_)
    refine pk_bind pk_any (fun t27 _ => ?_)
    refine pk_ite (fun _ => ?_) (fun _ => ?_)
    · exact wX4_readValue_j67_KL g
    · refine pk_bind (wX9_fail_KL g) (fun s31 g1 => ?_)
      exact pk_some g1
theorem wX4_readValue_j15_KL {s0 : wS} {k2 : Nat} {x3 : Int32} {y0 : Int32} {s : wS}   (g : KLo s0 s) : PK (wX4_readValue_j15 k2 x3 y0 s) (fun (r : wS) => KLo s0 r) := by
  unfold wX4_readValue_j15
  refine pk_ite (fun _ => ?_) (fun _ => ?_)
  · refine pk_ite (fun _ => ?_) (fun _ => ?_)
    · exact wX4_readValue_j34_KL g
    · refine pk_ite (fun _ => ?_) (fun _ => ?_)
      · exact wX4_readValue_j34_KL g
      · exact wX4_readValue_j42_KL g
  · exact wX4_readValue_j42_KL g
theorem wX4_readValue_KL {s0 : wS} {k2 : Nat} {s : wS}   (g : KLo s0 s) : PK (wX4_readValue k2 s) (fun (r : wS) => KLo s0 r) := by
  unfold wX4_readValue
  refine pk_bind pk_any (fun t1 _ => ?_)
  refine pk_ite (fun _ => ?_) (fun _ => ?_)
  · exact wX4_readValue_j15_KL g
  · exact wX4_readValue_j15_KL g
theorem wX4_readSum_j89_KL {s0 : wS} {k2 : Nat} {x3 : Int32} {x4 : Int32} {s : wS} {qq : Int32 → Int32 → wS → Option ((Int32 × wS) ⊕ (Int32 × wS))} (hqq : ∀ (v0 : Int32) (v1 : Int32) (v2 : wS), KLo s0 v2 → PK (qq v0 v1 v2) (Sum.elim (fun (r : Int32 × wS) => KLo s0 r.2) (fun (r : Int32 × wS) => KLo s0 r.2))) (g : KLo s0 s) : PK (wX4_readSum_j89 qq k2 x3 x4 s) (Sum.elim (fun (r : Int32 × wS) => KLo s0 r.2) (fun (r : Int32 × wS) => KLo s0 r.2)) := by
  unfold wX4_readSum_j89
  exact hqq _ _ _ g
theorem wX4_readSum_j60_KL {s0 : wS} {k2 : Nat} {x3 : Int32} {x4 : Int32} {x5 : Int32} {s : wS} {qq : Int32 → Int32 → wS → Option ((Int32 × wS) ⊕ (Int32 × wS))} (hqq : ∀ (v0 : Int32) (v1 : Int32) (v2 : wS), KLo s0 v2 → PK (qq v0 v1 v2) (Sum.elim (fun (r : Int32 × wS) => KLo s0 r.2) (fun (r : Int32 × wS) => KLo s0 r.2))) (g : KLo s0 s) : PK (wX4_readSum_j60 qq k2 x3 x4 x5 s) (Sum.elim (fun (r : Int32 × wS) => KLo s0 r.2) (fun (r : Int32 × wS) => KLo s0 r.2)) := by
  unfold wX4_readSum_j60
  refine pk_bind (wX4_readValue_KL g) (fun s14 g1 => ?_)
  refine pk_bind (wX3_put_KL g1) (fun s17 g2 => ?_)
  exact wX4_readSum_j89_KL hqq g2
theorem wX4_readSum_h11_KL {s0 : wS} {k2 : Nat}   : ∀ (n : Nat) {x3 : Int32} {x4 : Int32} {s : wS}, KLo s0 s → PK (wX4_readSum_h11 k2 n x3 x4 s) (Sum.elim (fun (r : Int32 × wS) => KLo s0 r.2) (fun (r : Int32 × wS) => KLo s0 r.2)) := by
  intro n
  induction n with
  | zero =>
    intro x3 x4 s g
    rw [wX4_readSum_h11]
    exact pk_none
  | succ n ih =>
    intro x3 x4 s g
    rw [wX4_readSum_h11]
    refine pk_ite (fun _ => ?_) (fun _ => ?_)
    · refine pk_bind pk_any (fun t5 _ => ?_)
      refine pk_ite (fun _ => ?_) (fun _ => ?_)
      · exact pk_some g
      · refine pk_ite (fun _ => ?_) (fun _ => ?_)
        · exact pk_some g
        · refine pk_bind (wX9_skip_KL g) (fun s10 g1 => ?_)
          refine pk_ite (fun _ => ?_) (fun _ => ?_)
          · exact wX4_readSum_j60_KL (fun _ _ _ g => ih g) g1
          · refine pk_ite (fun _ => ?_) (fun _ => ?_)
            · exact wX4_readSum_j60_KL (fun _ _ _ g => ih g) g1
            · refine pk_bind (wX3_put_KL g1) (fun s21 g2 => ?_)
              refine pk_bind (wX4_readValue_KL g2) (fun s24 g3 => ?_)
              exact wX4_readSum_j89_KL (fun _ _ _ g => ih g) g3
    · exact pk_some g
theorem wX4_readSum_j95_KL {s0 : wS} {k2 : Nat} {x3 : Int32} {s : wS}   (g : KLo s0 s) : PK (wX4_readSum_j95 k2 x3 s) (fun (r : wS) => KLo s0 r) := by
  unfold wX4_readSum_j95
  refine pk_bind (wX3_put_KL g) (fun s32 g1 => ?_)
  exact pk_some g1
theorem wX4_readSum_KL {s0 : wS} {k2 : Nat} {s : wS}   (g : KLo s0 s) : PK (wX4_readSum k2 s) (fun (r : wS) => KLo s0 r) := by
  unfold wX4_readSum
  refine pk_bind (wX4_readValue_KL g) (fun s2 g1 => ?_)
  refine pk_bind (wX4_readSum_h11_KL _ g1) (fun z26 h2 => ?_)
  rcases z26 with ⟨t27, s28⟩ | ⟨t34, s35⟩
  · have g3 : KLo s0 s28 := h2
    dsimp only
    exact wX4_readSum_j95_KL g3
  · have g4 : KLo s0 s35 := h2
    dsimp only
    exact wX4_readSum_j95_KL g4
theorem wX4_readTest_j76_KL {s0 : wS} {k2 : Nat} {x3 : Int32} {x4 : Int32} {x5 : Int32} {s : wS} {q : Nat → Int32 → wS → Option wS} {qq : Int32 → Int32 → wS → Option (Int32 × wS)} (hq : ∀ (v0 : Nat) (v1 : Int32) (v2 : wS), KLo s0 v2 → PK (q v0 v1 v2) (fun (r : wS) => KLo s0 r)) (hqq : ∀ (v0 : Int32) (v1 : Int32) (v2 : wS), KLo s0 v2 → PK (qq v0 v1 v2) (fun (r : Int32 × wS) => KLo s0 r.2)) (g : KLo s0 s) : PK (wX4_readTest_j76 q qq k2 x3 x4 x5 s) (fun (r : Int32 × wS) => KLo s0 r.2) := by
  unfold wX4_readTest_j76
  exact hqq _ _ _ g
theorem wX4_readTest_j66_KL {s0 : wS} {k2 : Nat} {x3 : Int32} {x5 : Int32} {s : wS} {q : Nat → Int32 → wS → Option wS} {qq : Int32 → Int32 → wS → Option (Int32 × wS)} (hq : ∀ (v0 : Nat) (v1 : Int32) (v2 : wS), KLo s0 v2 → PK (q v0 v1 v2) (fun (r : wS) => KLo s0 r)) (hqq : ∀ (v0 : Int32) (v1 : Int32) (v2 : wS), KLo s0 v2 → PK (qq v0 v1 v2) (fun (r : Int32 × wS) => KLo s0 r.2)) (g : KLo s0 s) : PK (wX4_readTest_j66 q qq k2 x3 x5 s) (fun (r : Int32 × wS) => KLo s0 r.2) := by
  unfold wX4_readTest_j66
  refine pk_bind (hq _ _ _ g) (fun s15 g1 => ?_)
  exact wX4_readTest_j76_KL hq hqq g1
theorem wX4_readTest_h13_KL {s0 : wS} {k2 : Nat} {x3 : Int32} {q : Nat → Int32 → wS → Option wS} (hq : ∀ (v0 : Nat) (v1 : Int32) (v2 : wS), KLo s0 v2 → PK (q v0 v1 v2) (fun (r : wS) => KLo s0 r)) : ∀ (n : Nat) {x4 : Int32} {x5 : Int32} {s : wS}, KLo s0 s → PK (wX4_readTest_h13 q k2 x3 n x4 x5 s) (fun (r : Int32 × wS) => KLo s0 r.2) := by
  intro n
  induction n with
  | zero =>
    intro x4 x5 s g
    rw [wX4_readTest_h13]
    exact pk_none
  | succ n ih =>
    intro x4 x5 s g
    rw [wX4_readTest_h13]
    refine pk_ite (fun _ => ?_) (fun _ => ?_)
    · refine pk_bind (wX9_take_KL g) (fun p1 h2 => ?_)
      obtain ⟨t5, s6⟩ := p1
      have g3 : KLo s0 s6 := h2
      dsimp only
      refine pk_ite (fun _ => ?_) (fun _ => ?_)
      · refine pk_bind (wX9_take_KL g3) (fun p4 h5 => ?_)
        obtain ⟨t9, s10⟩ := p4
        have g6 : KLo s0 s10 := h5
        dsimp only
        refine pk_ite (fun _ => ?_) (fun _ => ?_)
        · exact pk_some g6
        · refine pk_ite (fun _ => ?_) (fun _ => ?_)
          · exact wX4_readTest_j66_KL hq (fun _ _ _ g => ih g) g6
          · refine pk_bind (wX3_put_KL g6) (fun s18 g7 => ?_)
            exact wX4_readTest_j66_KL hq (fun _ _ _ g => ih g) g7
      · refine pk_bind (hq _ _ _ g3) (fun s21 g8 => ?_)
        refine pk_bind (wX3_put_KL g8) (fun s24 g9 => ?_)
        exact wX4_readTest_j76_KL hq (fun _ _ _ g => ih g) g9
    · exact pk_some g
theorem wX4_readTest_j82_KL {s0 : wS} {k2 : Nat} {x4 : Int32} {s : wS} {q : Nat → Int32 → wS → Option wS} (hq : ∀ (v0 : Nat) (v1 : Int32) (v2 : wS), KLo s0 v2 → PK (q v0 v1 v2) (fun (r : wS) => KLo s0 r)) (g : KLo s0 s) : PK (wX4_readTest_j82 q k2 x4 s) (fun (r : wS) => KLo s0 r) := by
  unfold wX4_readTest_j82
  refine pk_ite (fun _ => ?_) (fun _ => ?_)
  · exact pk_some g
  · refine pk_bind (wX3_put_KL g) (fun s33 g1 => ?_)
    exact pk_some g1
theorem wX4_readTest_b_KL {s0 : wS} {k2 : Nat} {x3 : Int32} {s : wS} {q : Nat → Int32 → wS → Option wS} (hq : ∀ (v0 : Nat) (v1 : Int32) (v2 : wS), KLo s0 v2 → PK (q v0 v1 v2) (fun (r : wS) => KLo s0 r)) (g : KLo s0 s) : PK (wX4_readTest_b q k2 x3 s) (fun (r : wS) => KLo s0 r) := by
  unfold wX4_readTest_b
  refine pk_bind (hq _ _ _ g) (fun s2 g1 => ?_)
  refine pk_bind (wX4_readTest_h13_KL hq _ g1) (fun p2 h3 => ?_)
  obtain ⟨t27, s28⟩ := p2
  have g4 : KLo s0 s28 := h3
  dsimp only
  exact wX4_readTest_j82_KL hq g4
theorem wX4_readFact_j153_KL {s0 : wS} {k2 : Nat} {x6 : Int32} {s : wS} {q : Nat → Int32 → wS → Option wS} (hq : ∀ (v0 : Nat) (v1 : Int32) (v2 : wS), KLo s0 v2 → PK (q v0 v1 v2) (fun (r : wS) => KLo s0 r)) (g : KLo s0 s) : PK (wX4_readFact_j153 q k2 x6 s) (fun (r : wS) => KLo s0 r) := by
  unfold wX4_readFact_j153
  refine pk_bind (kl_pfI  g) (fun s22 g1 => ?_)
  refine pk_bind (wX9_skip_KL g1) (fun s24 g2 => ?_)
  refine pk_bind (wX4_readSum_KL g2) (fun s27 g3 => ?_)
  refine pk_bind (wX3_put_KL g3) (fun s30 g4 => ?_)
  exact pk_some g4
theorem wX4_readFact_j131_KL {s0 : wS} {k2 : Nat} {x6 : Int32} {s : wS} {q : Nat → Int32 → wS → Option wS} (hq : ∀ (v0 : Nat) (v1 : Int32) (v2 : wS), KLo s0 v2 → PK (q v0 v1 v2) (fun (r : wS) => KLo s0 r)) (g : KLo s0 s) : PK (wX4_readFact_j131 q k2 x6 s) (fun (r : wS) => KLo s0 r) := by
  unfold wX4_readFact_j131
  refine pk_bind (wX9_fail_KL g) (fun s20 g1 => ?_)
  exact wX4_readFact_j153_KL hq g1
theorem wX4_readFact_j45_KL {s0 : wS} {k2 : Nat} {x3 : Int32} {s : wS} {q : Nat → Int32 → wS → Option wS} (hq : ∀ (v0 : Nat) (v1 : Int32) (v2 : wS), KLo s0 v2 → PK (q v0 v1 v2) (fun (r : wS) => KLo s0 r)) (g : KLo s0 s) : PK (wX4_readFact_j45 q k2 x3 s) (fun (r : wS) => KLo s0 r) := by
  unfold wX4_readFact_j45
  refine pk_bind (wX9_take_KL g) (fun p1 h2 => ?_)
  obtain ⟨t5, s6⟩ := p1
  have g3 : KLo s0 s6 := h2
  dsimp only
  refine pk_ite (fun _ => ?_) (fun _ => ?_)
  · refine pk_bind (wX9_take_KL g3) (fun p4 h5 => ?_)
    obtain ⟨t9, s10⟩ := p4
    have g6 : KLo s0 s10 := h5
    dsimp only
    refine pk_ite (fun _ => ?_) (fun _ => ?_)
    · refine pk_bind (wX4_readSum_KL g6) (fun s14 g7 => ?_)
      refine pk_bind pk_any (fun t16 _ => ?_)
      refine pk_ite (fun _ => ?_) (fun _ => ?_)
      · exact wX4_readFact_j131_KL hq g7
      · refine pk_ite (fun _ => ?_) (fun _ => ?_)
        · exact wX4_readFact_j131_KL hq g7
        · refine pk_ite (fun _ => ?_) (fun _ => ?_)
          · exact wX4_readFact_j153_KL hq g7
          · refine pk_bind (wX9_fail_KL g7) (fun s35 g8 => ?_)
            exact wX4_readFact_j153_KL hq g8
    · refine pk_bind (wX4_readTest_b_KL hq g6) (fun s38 g9 => ?_)
      refine pk_bind (wX9_take_KL g9) (fun p10 h11 => ?_)
      obtain ⟨t40, s41⟩ := p10
      have g12 : KLo s0 s41 := h11
      dsimp only
      refine pk_ite (fun _ => ?_) (fun _ => ?_)
      · refine pk_bind (wX9_fail_KL g12) (fun s45 g13 => ?_)
        exact pk_some g13
      · exact pk_some g12
  · refine pk_bind (hq _ _ _ g3) (fun s48 g14 => ?_)
    refine pk_bind (wX3_put_KL g14) (fun s51 g15 => ?_)
    exact pk_some g15
theorem wX4_readFact_j24_KL {s0 : wS} {k2 : Nat} {x3 : Int32} {y0 : Int32} {s : wS} {q : Nat → Int32 → wS → Option wS} (hq : ∀ (v0 : Nat) (v1 : Int32) (v2 : wS), KLo s0 v2 → PK (q v0 v1 v2) (fun (r : wS) => KLo s0 r)) (g : KLo s0 s) : PK (wX4_readFact_j24 q k2 x3 y0 s) (fun (r : wS) => KLo s0 r) := by
  unfold wX4_readFact_j24
  refine pk_ite (fun _ => ?_) (fun _ => ?_)
  · exact wX4_readFact_j45_KL hq g
  · refine pk_ite (fun _ => ?_) (fun _ => ?_)
    · exact wX4_readFact_j45_KL hq g
    · refine pk_bind (wX9_fail_KL g) (fun s55 g1 => ?_)
      exact pk_some g1
theorem wX4_readFact_j19_KL {s0 : wS} {k2 : Nat} {x3 : Int32} {s : wS} {q : Nat → Int32 → wS → Option wS} (hq : ∀ (v0 : Nat) (v1 : Int32) (v2 : wS), KLo s0 v2 → PK (q v0 v1 v2) (fun (r : wS) => KLo s0 r)) (g : KLo s0 s) : PK (wX4_readFact_j19 q k2 x3 s) (fun (r : wS) => KLo s0 r) := by
  unfold wX4_readFact_j19
  exact wX4_readFact_j24_KL hq g
theorem wX4_readFact_b_KL {s0 : wS} {k2 : Nat} {x3 : Int32} {s : wS} {q : Nat → Int32 → wS → Option wS} (hq : ∀ (v0 : Nat) (v1 : Int32) (v2 : wS), KLo s0 v2 → PK (q v0 v1 v2) (fun (r : wS) => KLo s0 r)) (g : KLo s0 s) : PK (wX4_readFact_b q k2 x3 s) (fun (r : wS) => KLo s0 r) := by
  unfold wX4_readFact_b
  refine pk_bind pk_any (fun t1 _ => ?_)
  refine pk_ite (fun _ => ?_) (fun _ => ?_)
  · exact wX4_readFact_j19_KL hq g
  · refine pk_ite (fun _ => ?_) (fun _ => ?_)
    · exact wX4_readFact_j19_KL hq g
    · exact wX4_readFact_j24_KL hq g
theorem wX4_readFact_KL {s0 : wS}    : ∀ (n : Nat) {k : Nat} {a : Int32} {s : wS}, KLo s0 s → PK (wX4_readFact n k a s) (fun (r : wS) => KLo s0 r) := by
  intro n
  induction n with
  | zero =>
    intro k a s g
    rw [wX4_readFact]
    exact pk_none
  | succ n ih =>
    intro k a s g
    rw [wX4_readFact]
    exact wX4_readFact_b_KL (fun _ _ _ g => ih g) g
theorem wX4_readTest_KL {s0 : wS} {k : Nat} {a : Int32} {s : wS}   (g : KLo s0 s) : PK (wX4_readTest k a s) (fun (r : wS) => KLo s0 r) := by
  unfold wX4_readTest
  exact wX4_readTest_b_KL (fun _ _ _ g => wX4_readFact_KL _ g) g
theorem wX4_read_j101_KL {s0 : wS} {k2 : Nat} {x4 : Int32} {x5 : Int32} {x6 : Int32} {x7 : Int32} {s : wS} {qq : Int32 → Int32 → wS → Option (wS)} (hqq : ∀ (v0 : Int32) (v1 : Int32) (v2 : wS), KLo s0 v2 → PK (qq v0 v1 v2) (fun (r : wS) => KLo s0 r)) (g : KLo s0 s) : PK (wX4_read_j101 qq k2 x4 x5 x6 x7 s) (fun (r : wS) => KLo s0 r) := by
  unfold wX4_read_j101
  refine pk_bind (wX3_addClause_KL g) (fun s26 g1 => ?_)
  refine pk_bind (wX9_take_KL g1) (fun p2 h3 => ?_)
  obtain ⟨t28, s29⟩ := p2
  have g4 : KLo s0 s29 := h3
  dsimp only
  exact hqq _ _ _ g4
theorem wX4_read_j63_KL {s0 : wS} {k2 : Nat} {x4 : Int32} {x5 : Int32} {s : wS} {qq : Int32 → Int32 → wS → Option (wS)} (hqq : ∀ (v0 : Int32) (v1 : Int32) (v2 : wS), KLo s0 v2 → PK (qq v0 v1 v2) (fun (r : wS) => KLo s0 r)) (g : KLo s0 s) : PK (wX4_read_j63 qq k2 x4 x5 s) (fun (r : wS) => KLo s0 r) := by
  unfold wX4_read_j63
  refine pk_bind (wX9_skip_KL g) (fun s16 g1 => ?_)
  refine pk_bind (wX4_readSum_KL g1) (fun s19 g2 => ?_)
  refine pk_bind (wX9_take_KL g2) (fun p3 h4 => ?_)
  obtain ⟨t21, s22⟩ := p3
  have g5 : KLo s0 s22 := h4
  dsimp only
  refine pk_ite (fun _ => ?_) (fun _ => ?_)
  · exact wX4_read_j101_KL hqq g5
  · refine pk_bind (wX4_readTest_KL g5) (fun s32 g6 => ?_)
    exact wX4_read_j101_KL hqq g6
theorem wX4_read_h14_KL {s0 : wS} {k2 : Nat}   : ∀ (n : Nat) {x3 : Int32} {x4 : Int32} {s : wS}, KLo s0 s → PK (wX4_read_h14 k2 n x3 x4 s) (fun (r : wS) => KLo s0 r) := by
  intro n
  induction n with
  | zero =>
    intro x3 x4 s g
    rw [wX4_read_h14]
    exact pk_none
  | succ n ih =>
    intro x3 x4 s g
    rw [wX4_read_h14]
    refine pk_ite (fun _ => ?_) (fun _ => ?_)
    · refine pk_ite (fun _ => ?_) (fun _ => ?_)
      · exact pk_some g
      · refine pk_bind pk_any (fun t7 _ => ?_)
        refine pk_bind pk_any (fun t9 _ => ?_)
        refine pk_ite (fun _ => ?_) (fun _ => ?_)
        · refine pk_bind (wX9_fail_KL g) (fun s13 g1 => ?_)
          exact wX4_read_j63_KL (fun _ _ _ g => ih g) g1
        · refine pk_ite (fun _ => ?_) (fun _ => ?_)
          · exact wX4_read_j63_KL (fun _ _ _ g => ih g) g
          · refine pk_bind (wX9_fail_KL g) (fun s36 g2 => ?_)
            exact wX4_read_j63_KL (fun _ _ _ g => ih g) g2
    · exact pk_some g
theorem wX4_read_j123_KL {s0 : wS} {s : wS}   (g : KLo s0 s) : PK (wX4_read_j123 s) (fun (r : wS) => KLo s0 r) := by
  unfold wX4_read_j123
  refine pk_bind pk_any (fun t46 _ => ?_)
  refine pk_ite (fun _ => ?_) (fun _ => ?_)
  · exact pk_some g
  · refine pk_bind (wX9_fail_KL g) (fun s50 g1 => ?_)
    exact pk_some g1
theorem wX4_read_KL {s0 : wS} {k2 : Nat} {s : wS}   (g : KLo s0 s) : PK (wX4_read k2 s) (fun (r : wS) => KLo s0 r) := by
  unfold wX4_read
  refine pk_bind (kl_pfI  g) (fun s1 g1 => ?_)
  refine pk_bind (wX3_clear_KL g1) (fun s3 g2 => ?_)
  refine pk_bind (wX4_read_h14_KL _ g2) (fun s39 g3 => ?_)
  exact wX4_read_j123_KL g3
theorem wX5_add_KL {s0 : wS} {x1 : Int32} {x2 : Int32} {x3 : Int32} {s : wS}   (g : KLo s0 s) : PK (wX5_add x1 x2 x3 s) (fun (r : wS) => KLo s0 r) := by
  unfold wX5_add
  refine pk_bind pk_any (fun t1 _ => ?_)
  refine pk_ite (fun _ => ?_) (fun _ => ?_)
  · refine pk_bind (kl_stI  g) (fun s4 g1 => ?_)
    refine pk_bind (kl_stI  g1) (fun s5 g2 => ?_)
    refine pk_bind (kl_stI  g2) (fun s6 g3 => ?_)
    refine pk_bind (kl_pfI  g3) (fun s7 g4 => ?_)
    exact pk_some g4
  · exact pk_some g
theorem wX5_fill_h28_KL {s0 : wS} {k1 : Nat} {x2 : Int32} {x3 : Int32}   : ∀ (n : Nat) {x4 : Int32} {s : wS}, KLo s0 s → PK (wX5_fill_h28 k1 x2 x3 n x4 s) (fun (r : wS) => KLo s0 r) := by
  intro n
  induction n with
  | zero =>
    intro x4 s g
    rw [wX5_fill_h28]
    exact pk_none
  | succ n ih =>
    intro x4 s g
    rw [wX5_fill_h28]
    refine pk_bind pk_any (fun t6 _ => ?_)
    refine pk_ite (fun _ => ?_) (fun _ => ?_)
    · refine pk_bind (wX5_add_KL g) (fun s10 g1 => ?_)
      exact ih g1
    · exact pk_some g
theorem wX5_fill_h14_KL {s0 : wS} {k1 : Nat} {x2 : Int32}   : ∀ (n : Nat) {x3 : Int32} {s : wS}, KLo s0 s → PK (wX5_fill_h14 k1 x2 n x3 s) (fun (r : wS) => KLo s0 r) := by
  intro n
  induction n with
  | zero =>
    intro x3 s g
    rw [wX5_fill_h14]
    exact pk_none
  | succ n ih =>
    intro x3 s g
    rw [wX5_fill_h14]
    refine pk_bind pk_any (fun t3 _ => ?_)
    refine pk_ite (fun _ => ?_) (fun _ => ?_)
    · refine pk_bind (wX5_fill_h28_KL _ g) (fun s13 g1 => ?_)
      exact ih g1
    · exact pk_some g
theorem wX5_fill_h7_KL {s0 : wS} {k1 : Nat}   : ∀ (n : Nat) {x2 : Int32} {s : wS}, KLo s0 s → PK (wX5_fill_h7 k1 n x2 s) (fun (r : wS) => KLo s0 r) := by
  intro n
  induction n with
  | zero =>
    intro x2 s g
    rw [wX5_fill_h7]
    exact pk_none
  | succ n ih =>
    intro x2 s g
    rw [wX5_fill_h7]
    refine pk_ite (fun _ => ?_) (fun _ => ?_)
    · refine pk_bind (wX5_fill_h14_KL _ g) (fun s16 g1 => ?_)
      exact ih g1
    · exact pk_some g
theorem wX5_fill_KL {s0 : wS} {k1 : Nat} {s : wS}   (g : KLo s0 s) : PK (wX5_fill k1 s) (fun (r : wS) => KLo s0 r) := by
  unfold wX5_fill
  refine pk_bind (kl_pfI  g) (fun s1 g1 => ?_)
  refine pk_bind (wX5_fill_h7_KL _ g1) (fun s20 g2 => ?_)
  exact pk_some g2
theorem wX8_putNumber_j45_KL {s0 : wS} {x1 : Int32} {x2 : Int32} {s : wS} {qq : Int32 → wS → Option (wS)} (hqq : ∀ (v0 : Int32) (v1 : wS), KLo s0 v1 → PK (qq v0 v1) (fun (r : wS) => KLo s0 r)) (g : KLo s0 s) : PK (wX8_putNumber_j45 qq x1 x2 s) (fun (r : wS) => KLo s0 r) := by
  unfold wX8_putNumber_j45
  exact hqq _ _ g
theorem wX8_putNumber_h3_KL {s0 : wS} {x1 : Int32}   : ∀ (n : Nat) {x2 : Int32} {s : wS}, KLo s0 s → PK (wX8_putNumber_h3 x1 n x2 s) (fun (r : wS) => KLo s0 r) := by
  intro n
  induction n with
  | zero =>
    intro x2 s g
    rw [wX8_putNumber_h3]
    exact pk_none
  | succ n ih =>
    intro x2 s g
    rw [wX8_putNumber_h3]
    refine pk_ite (fun _ => ?_) (fun _ => ?_)
    · exact pk_some g
    · refine pk_bind pk_any (fun t2 _ => ?_)
      refine pk_ite (fun _ => ?_) (fun _ => ?_)
      · refine pk_bind (kl_stB  g) (fun s5 g1 => ?_)
        refine pk_bind (kl_pfI  g1) (fun s6 g2 => ?_)
        exact wX8_putNumber_j45_KL (fun _ _ g => ih g) g2
      · exact wX8_putNumber_j45_KL (fun _ _ g => ih g) g
theorem wX8_putNumber_KL {s0 : wS} {x1 : Int32} {s : wS}   (g : KLo s0 s) : PK (wX8_putNumber x1 s) (fun (r : wS) => KLo s0 r) := by
  unfold wX8_putNumber
  refine pk_bind (wX8_putNumber_h3_KL _ g) (fun s8 g1 => ?_)
  exact pk_some g1
theorem wX9_put_KL {s0 : wS} {x1 : Int32} {x2 : Int32} {x3 : Int32} {s : wS}   (g : KLo s0 s) : PK (wX9_put x1 x2 x3 s) (fun (r : wS) => KLo s0 r) := by
  unfold wX9_put
  refine pk_bind pk_any (fun t1 _ => ?_)
  refine pk_ite (fun _ => ?_) (fun _ => ?_)
  · refine pk_bind (kl_stI  g) (fun s4 g1 => ?_)
    refine pk_bind (kl_stI  g1) (fun s5 g2 => ?_)
    refine pk_bind (kl_stI  g2) (fun s6 g3 => ?_)
    refine pk_bind (kl_pfI  g3) (fun s7 g4 => ?_)
    exact pk_some g4
  · exact pk_some g
theorem wX10_feed_KL {s0 : wS} {x1 : Int32} {x2 : Int32} {x3 : Int32} {x4 : Int32} {x5 : Int32} {s : wS}   (g : KLo s0 s) : PK (wX10_feed x1 x2 x3 x4 x5 s) (fun (r : Int32 × wS) => KLo s0 r.2) := by
  unfold wX10_feed
  refine pk_ite (fun _ => ?_) (fun _ => ?_)
  · exact pk_some g
  · refine pk_bind (wX8_putNumber_KL g) (fun s3 g1 => ?_)
    refine pk_bind (wX8_putNumber_KL g1) (fun s6 g2 => ?_)
    refine pk_bind (wX8_putNumber_KL g2) (fun s9 g3 => ?_)
    refine pk_bind (wX8_putNumber_KL g3) (fun s12 g4 => ?_)
    refine pk_bind (wX8_putNumber_KL g4) (fun s15 g5 => ?_)
    exact pk_some g5
theorem wX10_end_KL {s0 : wS} {x1 : Int32} {s : wS}   (g : KLo s0 s) : PK (wX10_end x1 s) (fun (r : Int32 × wS) => KLo s0 r.2) := by
  unfold wX10_end
  refine pk_ite (fun _ => ?_) (fun _ => ?_)
  · exact pk_some g
  · refine pk_ite (fun _ => ?_) (fun _ => ?_)
    · exact pk_some g
    · refine pk_bind (kl_pfI  g) (fun s3 g1 => ?_)
      exact pk_some g1
theorem wX10_courtIsAnother_j44_KL {s0 : wS} {x1 : Int32} {s : wS} {qq : Int32 → wS → Option (wS)} (hqq : ∀ (v0 : Int32) (v1 : wS), KLo s0 v1 → PK (qq v0 v1) (fun (r : wS) => KLo s0 r)) (g : KLo s0 s) : PK (wX10_courtIsAnother_j44 qq x1 s) (fun (r : wS) => KLo s0 r) := by
  unfold wX10_courtIsAnother_j44
  exact hqq _ _ g
theorem wX10_courtIsAnother_h16_KL {s0 : wS}    : ∀ (n : Nat) {x1 : Int32} {s : wS}, KLo s0 s → PK (wX10_courtIsAnother_h16 n x1 s) (fun (r : wS) => KLo s0 r) := by
  intro n
  induction n with
  | zero =>
    intro x1 s g
    rw [wX10_courtIsAnother_h16]
    exact pk_none
  | succ n ih =>
    intro x1 s g
    rw [wX10_courtIsAnother_h16]
    refine pk_ite (fun _ => ?_) (fun _ => ?_)
    · refine pk_bind pk_any (fun k5 _ => ?_)
      refine pk_bind pk_any (fun k6 _ => ?_)
      refine pk_bind (kl_pfZ  g) (fun s7 g1 => ?_)
      exact wX10_courtIsAnother_j44_KL (fun _ _ g => ih g) g1
    · exact pk_some g
theorem wX10_courtIsAnother_KL {s0 : wS} {s : wS}   (g : KLo s0 s) : PK (wX10_courtIsAnother s) (fun (r : wS) => KLo s0 r) := by
  unfold wX10_courtIsAnother
  refine pk_bind (wX5_fill_KL g) (fun s2 g1 => ?_)
  refine pk_bind (wX10_courtIsAnother_h16_KL _ g1) (fun s9 g2 => ?_)
  exact pk_some g2
theorem wX10_answer_KL {s0 : wS} {x1 : Int32} {x2 : Int32} {x3 : Int32} {x4 : Int32} {s : wS}   (g : KLo s0 s) : PK (wX10_answer x1 x2 x3 x4 s) (fun (r : Int32 × wS) => KLo s0 r.2) := by
  unfold wX10_answer
  refine pk_bind pk_any (fun t1 _ => ?_)
  refine pk_ite (fun _ => ?_) (fun _ => ?_)
  · refine pk_bind pk_any (fun t4 _ => ?_)
    refine pk_ite (fun _ => ?_) (fun _ => ?_)
    · refine pk_bind pk_any (fun t7 _ => ?_)
      refine pk_ite (fun _ => ?_) (fun _ => ?_)
      · exact pk_some g
      · refine pk_bind pk_any (fun t10 _ => ?_)
        refine pk_ite (fun _ => ?_) (fun _ => ?_)
        · exact pk_some g
        · refine pk_ite (fun _ => ?_) (fun _ => ?_)
          · exact pk_some g
          · refine pk_bind (wX2_takeDown_KL g) (fun p1 h2 => ?_)
            obtain ⟨t14, s15⟩ := p1
            have g3 : KLo s0 s15 := h2
            dsimp only
            exact pk_some g3
    · exact pk_some g
  · exact pk_some g
theorem wX10_strike_KL {s0 : wS} {x1 : Int32} {x2 : Int32} {s : wS}   (g : KLo s0 s) : PK (wX10_strike x1 x2 s) (fun (r : Int32 × wS) => KLo s0 r.2) := by
  unfold wX10_strike
  refine pk_bind pk_any (fun t1 _ => ?_)
  refine pk_ite (fun _ => ?_) (fun _ => ?_)
  · exact pk_some g
  · refine pk_bind pk_any (fun t4 _ => ?_)
    refine pk_ite (fun _ => ?_) (fun _ => ?_)
    · exact pk_some g
    · refine pk_bind (wX2_setStruck_KL g) (fun s8 g1 => ?_)
      exact pk_some g1
theorem wX10_only_KL {s0 : wS} {x1 : Int32} {s : wS}   (g : KLo s0 s) : PK (wX10_only x1 s) (fun (r : Int32 × wS) => KLo s0 r.2) := by
  unfold wX10_only
  refine pk_ite (fun _ => ?_) (fun _ => ?_)
  · exact pk_some g
  · refine pk_ite (fun _ => ?_) (fun _ => ?_)
    · exact pk_some g
    · refine pk_bind (kl_pfI  g) (fun s3 g1 => ?_)
      exact pk_some g1
theorem wX10_seed_KL {s0 : wS} {x1 : Int32} {s : wS}   (g : KLo s0 s) : PK (wX10_seed x1 s) (fun (r : Int32 × wS) => KLo s0 r.2) := by
  unfold wX10_seed
  refine pk_ite (fun _ => ?_) (fun _ => ?_)
  · exact pk_some g
  · refine pk_bind (kl_pfI  g) (fun s2 g1 => ?_)
    exact pk_some g1
theorem wX10_verdict_KL {s0 : wS} {x1 : Int32} {s : wS}   (g : KLo s0 s) : PK (wX10_verdict x1 s) (fun (r : Int32 × wS) => KLo s0 r.2) := by
  unfold wX10_verdict
  refine pk_ite (fun _ => ?_) (fun _ => ?_)
  · refine pk_bind (kl_pfI  g) (fun s2 g1 => ?_)
    exact pk_some g1
  · refine pk_bind pk_any (fun t3 _ => ?_)
    refine pk_bind pk_any (fun t5 _ => ?_)
    refine pk_ite (fun _ => ?_) (fun _ => ?_)
    · refine pk_ite (fun _ => ?_) (fun _ => ?_)
      · refine pk_bind (wX2_judge_KL g) (fun s10 g2 => ?_)
        exact pk_some g2
      · exact pk_some g
    · exact pk_some g
theorem wX10_image_KL {s0 : wS} {x1 : Int32} {s : wS}   (g : KLo s0 s) : PK (wX10_image x1 s) (fun (r : Int32 × wS) => KLo s0 r.2) := by
  unfold wX10_image
  refine pk_bind pk_any (fun t1 _ => ?_)
  refine pk_ite (fun _ => ?_) (fun _ => ?_)
  · refine pk_bind pk_any (fun k4 _ => ?_)
    refine pk_bind pk_any (fun k5 _ => ?_)
    refine pk_bind (wX2_becomes_KL g) (fun s7 g1 => ?_)
    refine pk_bind (kl_stZ  g1) (fun s9 g2 => ?_)
    exact pk_some g2
  · exact pk_some g
theorem wX10_back_KL {s0 : wS} {x1 : Int32} {s : wS}   (g : KLo s0 s) : PK (wX10_back x1 s) (fun (r : Int32 × wS) => KLo s0 r.2) := by
  unfold wX10_back
  refine pk_bind pk_any (fun t1 _ => ?_)
  refine pk_ite (fun _ => ?_) (fun _ => ?_)
  · refine pk_bind pk_any (fun t4 _ => ?_)
    refine pk_ite (fun _ => ?_) (fun _ => ?_)
    · exact pk_some g
    · refine pk_bind pk_any (fun k6 _ => ?_)
      refine pk_bind pk_any (fun k7 _ => ?_)
      refine pk_bind (wX2_becomes_KL g) (fun s9 g1 => ?_)
      refine pk_bind (wX10_courtIsAnother_KL g1) (fun s12 g2 => ?_)
      exact pk_some g2
  · exact pk_some g
theorem wX9_cutOne_j131_KL {s0 : wS} {x2 : Int32} {s : wS}   (g : KLo s0 s) : PK (wX9_cutOne_j131 x2 s) (fun (r : Int32 × wS) => KLo s0 r.2) := by
  unfold wX9_cutOne_j131
  exact pk_some g
theorem wX9_cutOne_j108_KL {s0 : wS} {x2 : Int32} {y0 : Int32} {y1 : Int32} {s : wS}   (g : KLo s0 s) : PK (wX9_cutOne_j108 x2 y0 y1 s) (fun (r : Int32 × wS) => KLo s0 r.2) := by
  unfold wX9_cutOne_j108
  refine pk_bind pk_any (fun t15 _ => ?_)
  refine pk_bind (wX9_put_KL g) (fun s18 g1 => ?_)
  refine pk_ite (fun _ => ?_) (fun _ => ?_)
  · exact wX9_cutOne_j131_KL g1
  · refine pk_ite (fun _ => ?_) (fun _ => ?_)
    · exact wX9_cutOne_j131_KL g1
    · exact pk_some g1
theorem wX9_cutOne_KL {s0 : wS} {x2 : Int32} {s : wS}   (g : KLo s0 s) : PK (wX9_cutOne x2 s) (fun (r : Int32 × wS) => KLo s0 r.2) := by
  unfold wX9_cutOne
  refine pk_bind pk_any (fun t1 _ => ?_)
  refine pk_ite (fun _ => ?_) (fun _ => ?_)
  · exact pk_some g
  · refine pk_bind pk_any (fun t4 _ => ?_)
    refine pk_ite (fun _ => ?_) (fun _ => ?_)
    · refine pk_bind pk_any (fun t7 _ => ?_)
      refine pk_ite (fun _ => ?_) (fun _ => ?_)
      · refine pk_bind pk_any (fun t10 _ => ?_)
        refine pk_bind pk_any (fun t12 _ => ?_)
        refine pk_ite (fun _ => ?_) (fun _ => ?_)
        · exact wX9_cutOne_j108_KL g
        · exact wX9_cutOne_j108_KL g
      · refine pk_bind pk_any (fun t22 _ => ?_)
        refine pk_bind pk_any (fun t24 _ => ?_)
        refine pk_bind (wX9_put_KL g) (fun s27 g1 => ?_)
        exact pk_some g1
    · refine pk_bind pk_any (fun t29 _ => ?_)
      refine pk_bind pk_any (fun t31 _ => ?_)
      refine pk_bind (wX9_put_KL g) (fun s34 g2 => ?_)
      exact pk_some g2
theorem wX9_cut_h19_KL {s0 : wS}    : ∀ (n : Nat) {x2 : Int32} {x3 : Int32} {s : wS}, KLo s0 s → PK (wX9_cut_h19 n x2 x3 s) (fun (r : wS) => KLo s0 r) := by
  intro n
  induction n with
  | zero =>
    intro x2 x3 s g
    rw [wX9_cut_h19]
    exact pk_none
  | succ n ih =>
    intro x2 x3 s g
    rw [wX9_cut_h19]
    refine pk_ite (fun _ => ?_) (fun _ => ?_)
    · refine pk_ite (fun _ => ?_) (fun _ => ?_)
      · refine pk_bind (wX9_cutOne_KL g) (fun p1 h2 => ?_)
        obtain ⟨t6, s7⟩ := p1
        have g3 : KLo s0 s7 := h2
        dsimp only
        exact ih g3
      · exact pk_some g
    · exact pk_some g
theorem wX9_cut_j47_KL {s0 : wS} {s : wS}   (g : KLo s0 s) : PK (wX9_cut_j47 s) (fun (r : wS) => KLo s0 r) := by
  unfold wX9_cut_j47
  refine pk_bind (wX9_put_KL g) (fun s14 g1 => ?_)
  exact pk_some g1
theorem wX9_cut_KL {s0 : wS} {s : wS}   (g : KLo s0 s) : PK (wX9_cut s) (fun (r : wS) => KLo s0 r) := by
  unfold wX9_cut
  refine pk_bind (kl_pfI  g) (fun s1 g1 => ?_)
  refine pk_bind (kl_pfI  g1) (fun s2 g2 => ?_)
  refine pk_bind (kl_pfI  g2) (fun s3 g3 => ?_)
  refine pk_bind (wX9_cut_h19_KL _ g3) (fun s10 g4 => ?_)
  exact wX9_cut_j47_KL g4
theorem wX10_court_KL {s0 : wS} {s : wS}   (g : KLo s0 s) : PK (wX10_court s) (fun (r : Int32 × wS) => KLo s0 r.2) := by
  unfold wX10_court
  refine pk_bind (wX9_cut_KL g) (fun s2 g1 => ?_)
  refine pk_bind (kl_pfI  g1) (fun s4 g2 => ?_)
  refine pk_bind (wX1_read_KL g2) (fun s6 g3 => ?_)
  refine pk_ite (fun _ => ?_) (fun _ => ?_)
  · refine pk_bind (wX2_open_KL g3) (fun s10 g4 => ?_)
    refine pk_bind (wX10_courtIsAnother_KL g4) (fun s13 g5 => ?_)
    refine pk_bind pk_any (fun t15 _ => ?_)
    exact pk_some g5
  · exact pk_some g3
theorem wX10_law_KL {s0 : wS} {s : wS}   (g : KLo s0 s) : PK (wX10_law s) (fun (r : Int32 × wS) => KLo s0 r.2) := by
  unfold wX10_law
  refine pk_ite (fun _ => ?_) (fun _ => ?_)
  · refine pk_bind pk_any (fun k2 _ => ?_)
    refine pk_bind (wX9_cut_KL g) (fun s4 g1 => ?_)
    refine pk_bind (kl_pfI  g1) (fun s6 g2 => ?_)
    refine pk_bind (wX4_read_KL g2) (fun s8 g3 => ?_)
    refine pk_ite (fun _ => ?_) (fun _ => ?_)
    · refine pk_bind (kl_pfI  g3) (fun s11 g4 => ?_)
      exact pk_some g4
    · exact pk_some g3
  · exact pk_some g
