/-! The class: a question leaves the tables right. -/
theorem wX10_set_J  {k0 : Nat} {x1 : Int32} {x2 : Int32} {s : wS}  (hk0_0 : ∀ b, bJ (k0) b = true) (g : JB s) : PK (wX10_set k0 x1 x2 s) (fun (r : wS) => JB r) := by
  unfold wX10_set
  refine pk_ite (fun _ => ?_) (fun _ => ?_)
  · exact pk_some g
  · refine pk_ite (fun _ => ?_) (fun _ => ?_)
    · refine pk_bind (pk_stI hk0_0 g) (fun s3 g1 => ?_)
      exact pk_some g1
    · exact pk_some g
theorem wX10_empty_h2_J  {k0 : Nat}  (hk0_0 : ∀ b, bJ (k0) b = true) : ∀ (n : Nat) {x1 : Int32} {s : wS}, JB s → PK (wX10_empty_h2 k0 n x1 s) (fun (r : wS) => JB r) := by
  intro n
  induction n with
  | zero =>
    intro x1 s g
    rw [wX10_empty_h2]
    exact pk_none
  | succ n ih =>
    intro x1 s g
    rw [wX10_empty_h2]
    refine pk_ite (fun _ => ?_) (fun _ => ?_)
    · refine pk_bind (pk_stI hk0_0 g) (fun s2 g1 => ?_)
      exact ih g1
    · exact pk_some g
theorem wX10_empty_J  {k0 : Nat} {s : wS}  (hk0_0 : ∀ b, bJ (k0) b = true) (g : JB s) : PK (wX10_empty k0 s) (fun (r : wS) => JB r) := by
  unfold wX10_empty
  refine pk_bind (wX10_empty_h2_J hk0_0 _ g) (fun s4 g1 => ?_)
  exact pk_some g1
theorem wX6_clear_J  {x1 : Int32} {s : wS}   (g : JB s) : PK (wX6_clear x1 s) (fun (r : wS) => JB r) := by
  unfold wX6_clear
  refine pk_bind (wX10_empty_J (fun _ => rfl) g) (fun s2 g1 => ?_)
  refine pk_bind (wX10_empty_J (fun _ => rfl) g1) (fun s5 g2 => ?_)
  refine pk_bind (pk_pfI rfl g2) (fun s7 g3 => ?_)
  refine pk_bind (pk_pfI rfl g3) (fun s8 g4 => ?_)
  exact pk_some g4
theorem wX6_add_h13_J  {x1 : Int32} {k2 : Nat} {k3 : Nat}   : ∀ (n : Nat) {x5 : Int32} {s : wS}, JB s → PK (wX6_add_h13 x1 k2 k3 n x5 s) (fun (r : wS) => JB r) := by
  intro n
  induction n with
  | zero =>
    intro x5 s g
    rw [wX6_add_h13]
    exact pk_none
  | succ n ih =>
    intro x5 s g
    rw [wX6_add_h13]
    refine pk_ite (fun _ => ?_) (fun _ => ?_)
    · refine pk_ite (fun _ => ?_) (fun _ => ?_)
      · refine pk_bind pk_any (fun t4 _ => ?_)
        refine pk_bind pk_any (fun t6 _ => ?_)
        refine pk_bind pk_any (fun t8 _ => ?_)
        refine pk_bind pk_any (fun t9 _ => ?_)
        refine pk_bind (pk_stI (fun _ => rfl) g) (fun s11 g1 => ?_)
        refine pk_bind pk_any (fun t12 _ => ?_)
        refine pk_bind pk_any (fun t13 _ => ?_)
        refine pk_bind (pk_stI (fun _ => rfl) g1) (fun s15 g2 => ?_)
        exact ih g2
      · exact pk_some g
    · exact pk_some g
theorem wX6_add_j108_J  {s : wS}   (g : JB s) : PK (wX6_add_j108 s) (fun (r : wS) => JB r) := by
  unfold wX6_add_j108
  refine pk_bind (pk_pfI rfl g) (fun s23 g1 => ?_)
  exact pk_some g1
theorem wX6_add_J  {x1 : Int32} {k2 : Nat} {k3 : Nat} {s : wS}   (g : JB s) : PK (wX6_add x1 k2 k3 s) (fun (r : wS) => JB r) := by
  unfold wX6_add
  refine pk_ite (fun _ => ?_) (fun _ => ?_)
  · refine pk_bind (wX6_add_h13_J _ g) (fun s17 g1 => ?_)
    exact wX6_add_j108_J g1
  · exact pk_some g
theorem wX6_pairsForAll_h11_J  {x1 : Int32}   : ∀ (n : Nat) {x2 : Int32} {s : wS}, JB s → PK (wX6_pairsForAll_h11 x1 n x2 s) (fun (r : wS) => JB r) := by
  intro n
  induction n with
  | zero =>
    intro x2 s g
    rw [wX6_pairsForAll_h11]
    exact pk_none
  | succ n ih =>
    intro x2 s g
    rw [wX6_pairsForAll_h11]
    refine pk_ite (fun _ => ?_) (fun _ => ?_)
    · exact pk_some g
    · refine pk_ite (fun _ => ?_) (fun _ => ?_)
      · refine pk_bind pk_any (fun t3 _ => ?_)
        refine pk_bind (pk_stI (fun _ => rfl) g) (fun s5 g1 => ?_)
        exact ih g1
      · exact pk_some g
theorem wX6_pairsForAll_j42_J  {x1 : Int32} {s : wS}   (g : JB s) : PK (wX6_pairsForAll_j42 x1 s) (fun (r : Int32 × wS) => JB r.2) := by
  unfold wX6_pairsForAll_j42
  refine pk_bind pk_any (fun t9 _ => ?_)
  exact pk_some g
theorem wX6_pairsForAll_J  {s : wS}   (g : JB s) : PK (wX6_pairsForAll s) (fun (r : Int32 × wS) => JB r.2) := by
  unfold wX6_pairsForAll
  refine pk_bind (wX6_pairsForAll_h11_J _ g) (fun s7 g1 => ?_)
  exact wX6_pairsForAll_j42_J g1
theorem wX7_clear_J  {k0 : Nat} {s : wS}  (hk0_0 : ∀ b, bJ (k0) b = true) (hk0_1 : ∀ b, bJ (k0 + 1) b = true) (g : JB s) : PK (wX7_clear k0 s) (fun (r : wS) => JB r) := by
  unfold wX7_clear
  refine pk_bind (wX10_empty_J hk0_1 g) (fun s2 g1 => ?_)
  refine pk_bind (pk_pfI (hk0_0 _) g1) (fun s4 g2 => ?_)
  exact pk_some g2
theorem wX7_addOne_J  {k0 : Nat} {x1 : Int32} {s : wS}  (hk0_1 : ∀ b, bJ (k0 + 1) b = true) (g : JB s) : PK (wX7_addOne k0 x1 s) (fun (r : wS) => JB r) := by
  unfold wX7_addOne
  refine pk_bind pk_any (fun t1 _ => ?_)
  refine pk_bind (wX10_set_J hk0_1 g) (fun s4 g1 => ?_)
  exact pk_some g1
theorem wX7_add_J  {k0 : Nat} {x1 : Int32} {x2 : Int32} {x3 : Int32} {s : wS}  (hk0_0 : ∀ b, bJ (k0) b = true) (hk0_1 : ∀ b, bJ (k0 + 1) b = true) (g : JB s) : PK (wX7_add k0 x1 x2 x3 s) (fun (r : wS) => JB r) := by
  unfold wX7_add
  refine pk_bind pk_any (fun t1 _ => ?_)
  refine pk_bind (wX7_addOne_J hk0_1 g) (fun s4 g1 => ?_)
  refine pk_bind pk_any (fun t6 _ => ?_)
  refine pk_bind (wX7_addOne_J hk0_1 g1) (fun s9 g2 => ?_)
  refine pk_bind pk_any (fun t11 _ => ?_)
  refine pk_bind (wX7_addOne_J hk0_1 g2) (fun s14 g3 => ?_)
  refine pk_bind (pk_pfI (hk0_0 _) g3) (fun s16 g4 => ?_)
  exact pk_some g4
theorem wX7_fillWith_j132_J  {k0 : Nat} {x1 : Int32} {x2 : Int32} {x3 : Int32} {x4 : Int32} {x5 : Int32} {k100 : Nat} {y1 : Int32} {y2 : Int32} {s : wS} {qq : Int32 → wS → Option (wS)} (hqq : ∀ (v0 : Int32) (v1 : wS), JB v1 → PK (qq v0 v1) (fun (r : wS) => JB r)) (hk100_0 : ∀ b, bJ (k100) b = true) (g : JB s) : PK (wX7_fillWith_j132 qq k0 x1 x2 x3 x4 x5 k100 y1 y2 s) (fun (r : wS) => JB r) := by
  unfold wX7_fillWith_j132
  refine pk_bind (pk_stI hk100_0 g) (fun s21 g1 => ?_)
  exact hqq _ _ g1
theorem wX7_fillWith_j115_J  {k0 : Nat} {x1 : Int32} {x2 : Int32} {x3 : Int32} {x4 : Int32} {x5 : Int32} {x6 : Int32} {x7 : Int32} {s : wS} {qq : Int32 → wS → Option (wS)} (hqq : ∀ (v0 : Int32) (v1 : wS), JB v1 → PK (qq v0 v1) (fun (r : wS) => JB r)) (hk0_1 : ∀ b, bJ (k0 + 1) b = true) (g : JB s) : PK (wX7_fillWith_j115 qq k0 x1 x2 x3 x4 x5 x6 x7 s) (fun (r : wS) => JB r) := by
  unfold wX7_fillWith_j115
  refine pk_ite (fun _ => ?_) (fun _ => ?_)
  · exact wX7_fillWith_j132_J hqq hk0_1 g
  · exact wX7_fillWith_j132_J hqq hk0_1 g
theorem wX7_fillWith_j98_J  {k0 : Nat} {x1 : Int32} {x2 : Int32} {x3 : Int32} {x4 : Int32} {x5 : Int32} {x6 : Int32} {y0 : Int32} {s : wS} {qq : Int32 → wS → Option (wS)} (hqq : ∀ (v0 : Int32) (v1 : wS), JB v1 → PK (qq v0 v1) (fun (r : wS) => JB r)) (hk0_1 : ∀ b, bJ (k0 + 1) b = true) (g : JB s) : PK (wX7_fillWith_j98 qq k0 x1 x2 x3 x4 x5 x6 y0 s) (fun (r : wS) => JB r) := by
  unfold wX7_fillWith_j98
  refine pk_bind pk_any (fun t17 _ => ?_)
  refine pk_ite (fun _ => ?_) (fun _ => ?_)
  · exact wX7_fillWith_j115_J hqq hk0_1 g
  · exact wX7_fillWith_j115_J hqq hk0_1 g
theorem wX7_fillWith_j75_J  {k0 : Nat} {x1 : Int32} {x2 : Int32} {x3 : Int32} {x4 : Int32} {x5 : Int32} {y0 : Int32} {s : wS} {qq : Int32 → wS → Option (wS)} (hqq : ∀ (v0 : Int32) (v1 : wS), JB v1 → PK (qq v0 v1) (fun (r : wS) => JB r)) (hk0_1 : ∀ b, bJ (k0 + 1) b = true) (g : JB s) : PK (wX7_fillWith_j75 qq k0 x1 x2 x3 x4 x5 y0 s) (fun (r : wS) => JB r) := by
  unfold wX7_fillWith_j75
  refine pk_bind pk_any (fun t14 _ => ?_)
  refine pk_ite (fun _ => ?_) (fun _ => ?_)
  · exact wX7_fillWith_j98_J hqq hk0_1 g
  · exact wX7_fillWith_j98_J hqq hk0_1 g
theorem wX7_fillWith_h53_J  {k0 : Nat} {x1 : Int32} {x2 : Int32} {x3 : Int32} {x4 : Int32}  (hk0_1 : ∀ b, bJ (k0 + 1) b = true) : ∀ (n : Nat) {x5 : Int32} {s : wS}, JB s → PK (wX7_fillWith_h53 k0 x1 x2 x3 x4 n x5 s) (fun (r : wS) => JB r) := by
  intro n
  induction n with
  | zero =>
    intro x5 s g
    rw [wX7_fillWith_h53]
    exact pk_none
  | succ n ih =>
    intro x5 s g
    rw [wX7_fillWith_h53]
    refine pk_ite (fun _ => ?_) (fun _ => ?_)
    · refine pk_ite (fun _ => ?_) (fun _ => ?_)
      · exact wX7_fillWith_j75_J (fun _ _ g => ih g) hk0_1 g
      · exact wX7_fillWith_j75_J (fun _ _ g => ih g) hk0_1 g
    · exact pk_some g
theorem wX7_fillWith_J  {k0 : Nat} {x1 : Int32} {s : wS}  (hk0_0 : ∀ b, bJ (k0) b = true) (hk0_1 : ∀ b, bJ (k0 + 1) b = true) (g : JB s) : PK (wX7_fillWith k0 x1 s) (fun (r : wS) => JB r) := by
  unfold wX7_fillWith
  refine pk_bind pk_any (fun t1 _ => ?_)
  refine pk_bind pk_any (fun t3 _ => ?_)
  refine pk_bind pk_any (fun t5 _ => ?_)
  refine pk_bind pk_any (fun t7 _ => ?_)
  refine pk_bind pk_any (fun t9 _ => ?_)
  refine pk_bind (pk_pfI (hk0_0 _) g) (fun s11 g1 => ?_)
  refine pk_bind (wX7_fillWith_h53_J hk0_1 _ g1) (fun s23 g2 => ?_)
  exact pk_some g2
theorem wX7_keepOnly_J  {k0 : Nat} {x1 : Int32} {x2 : Int32} {s : wS}  (hk0_0 : ∀ b, bJ (k0) b = true) (hk0_1 : ∀ b, bJ (k0 + 1) b = true) (g : JB s) : PK (wX7_keepOnly k0 x1 x2 s) (fun (r : wS) => JB r) := by
  unfold wX7_keepOnly
  refine pk_bind pk_any (fun t10 _ => ?_)
  refine pk_bind (wX7_fillWith_J hk0_0 hk0_1 g) (fun s16 g1 => ?_)
  exact pk_some g1
theorem wX10_far_J  {x1 : Int32} {x2 : Int32} {x3 : Int32} {x4 : Int32} {s : wS}   (g : JB s) : PK (wX10_far x1 x2 x3 x4 s) (fun (r : Int64 × wS) => JB r.2) := by
  unfold wX10_far
  refine pk_bind (wX10_lawInUse_J g) (fun p1 h2 => ?_)
  obtain ⟨o1, s2⟩ := p1
  have g3 : JB s2 := h2
  dsimp only
  refine pk_elim ?_ (fun k4 => ?_)
  · exact pk_some g3
  · refine pk_bind pk_any (fun t5 _ => ?_)
    refine pk_ite (fun _ => ?_) (fun _ => ?_)
    · exact pk_some g3
    · refine pk_bind pk_any (fun t8 _ => ?_)
      refine pk_ite (fun _ => ?_) (fun _ => ?_)
      · exact pk_some g3
      · refine pk_bind pk_any (fun t11 _ => ?_)
        exact pk_some g3
theorem wX10_holds_J  {x1 : Int32} {x2 : Int32} {x3 : Int32} {s : wS}   (g : JB s) : PK (wX10_holds x1 x2 x3 s) (fun (r : Int32 × wS) => JB r.2) := by
  unfold wX10_holds
  refine pk_bind (wX10_lawInUse_J g) (fun p1 h2 => ?_)
  obtain ⟨o1, s2⟩ := p1
  have g3 : JB s2 := h2
  dsimp only
  refine pk_elim ?_ (fun k4 => ?_)
  · exact pk_some g3
  · refine pk_bind pk_any (fun t5 _ => ?_)
    refine pk_ite (fun _ => ?_) (fun _ => ?_)
    · exact pk_some g3
    · refine pk_bind pk_any (fun t8 _ => ?_)
      refine pk_bind pk_any (fun t10 _ => ?_)
      refine pk_ite (fun _ => ?_) (fun _ => ?_)
      · refine pk_bind pk_any (fun t13 _ => ?_)
        refine pk_ite (fun _ => ?_) (fun _ => ?_)
        · exact pk_some g3
        · exact pk_some g3
      · exact pk_some g3
theorem wX10_addFalse_j51_J  {x1 : Int32} {x2 : Int32} {x3 : Int32} {s : wS} {qq : Int32 → wS → Option (wS)} (hqq : ∀ (v0 : Int32) (v1 : wS), JB v1 → PK (qq v0 v1) (fun (r : wS) => JB r)) (g : JB s) : PK (wX10_addFalse_j51 qq x1 x2 x3 s) (fun (r : wS) => JB r) := by
  unfold wX10_addFalse_j51
  exact hqq _ _ g
theorem wX10_addFalse_h2_J  {x1 : Int32} {x2 : Int32}   : ∀ (n : Nat) {x3 : Int32} {s : wS}, JB s → PK (wX10_addFalse_h2 x1 x2 n x3 s) (fun (r : wS) => JB r) := by
  intro n
  induction n with
  | zero =>
    intro x3 s g
    rw [wX10_addFalse_h2]
    exact pk_none
  | succ n ih =>
    intro x3 s g
    rw [wX10_addFalse_h2]
    refine pk_bind pk_any (fun t1 _ => ?_)
    refine pk_ite (fun _ => ?_) (fun _ => ?_)
    · refine pk_ite (fun _ => ?_) (fun _ => ?_)
      · refine pk_bind pk_any (fun t5 _ => ?_)
        refine pk_bind pk_any (fun t7 _ => ?_)
        refine pk_bind pk_any (fun t9 _ => ?_)
        refine pk_bind (wX10_set_J (fun _ => rfl) g) (fun s12 g1 => ?_)
        exact wX10_addFalse_j51_J (fun _ _ g => ih g) g1
      · exact wX10_addFalse_j51_J (fun _ _ g => ih g) g
    · exact pk_some g
theorem wX10_addFalse_J  {x1 : Int32} {x2 : Int32} {s : wS}   (g : JB s) : PK (wX10_addFalse x1 x2 s) (fun (r : wS) => JB r) := by
  unfold wX10_addFalse
  refine pk_bind (wX10_addFalse_h2_J _ g) (fun s15 g1 => ?_)
  exact pk_some g1
theorem wX10_countFalse_j93_J  {k1 : Nat} {x2 : Int32} {x3 : Int32} {x4 : Int32} {x5 : Int32} {s : wS} {qq : Int32 → wS → Option (wS)} (hqq : ∀ (v0 : Int32) (v1 : wS), JB v1 → PK (qq v0 v1) (fun (r : wS) => JB r)) (g : JB s) : PK (wX10_countFalse_j93 qq k1 x2 x3 x4 x5 s) (fun (r : wS) => JB r) := by
  unfold wX10_countFalse_j93
  exact hqq _ _ g
theorem wX10_countFalse_j43_J  {k1 : Nat} {x2 : Int32} {x3 : Int32} {x4 : Int32} {x5 : Int32} {y0 : Int32} {s : wS} {qq : Int32 → wS → Option (wS)} (hqq : ∀ (v0 : Int32) (v1 : wS), JB v1 → PK (qq v0 v1) (fun (r : wS) => JB r)) (g : JB s) : PK (wX10_countFalse_j43 qq k1 x2 x3 x4 x5 y0 s) (fun (r : wS) => JB r) := by
  unfold wX10_countFalse_j43
  refine pk_bind pk_any (fun t6 _ => ?_)
  refine pk_ite (fun _ => ?_) (fun _ => ?_)
  · exact wX10_countFalse_j93_J hqq g
  · refine pk_ite (fun _ => ?_) (fun _ => ?_)
    · exact wX10_countFalse_j93_J hqq g
    · refine pk_ite (fun _ => ?_) (fun _ => ?_)
      · exact wX10_countFalse_j93_J hqq g
      · refine pk_bind pk_any (fun t11 _ => ?_)
        refine pk_bind pk_any (fun t13 _ => ?_)
        refine pk_bind (wX10_addFalse_J g) (fun s16 g1 => ?_)
        exact wX10_countFalse_j93_J hqq g1
theorem wX10_countFalse_j38_J  {k1 : Nat} {x2 : Int32} {x3 : Int32} {x4 : Int32} {x5 : Int32} {s : wS} {qq : Int32 → wS → Option (wS)} (hqq : ∀ (v0 : Int32) (v1 : wS), JB v1 → PK (qq v0 v1) (fun (r : wS) => JB r)) (g : JB s) : PK (wX10_countFalse_j38 qq k1 x2 x3 x4 x5 s) (fun (r : wS) => JB r) := by
  unfold wX10_countFalse_j38
  exact wX10_countFalse_j43_J hqq g
theorem wX10_countFalse_h10_J  {k1 : Nat} {x2 : Int32} {x3 : Int32} {x4 : Int32}   : ∀ (n : Nat) {x5 : Int32} {s : wS}, JB s → PK (wX10_countFalse_h10 k1 x2 x3 x4 n x5 s) (fun (r : wS) => JB r) := by
  intro n
  induction n with
  | zero =>
    intro x5 s g
    rw [wX10_countFalse_h10]
    exact pk_none
  | succ n ih =>
    intro x5 s g
    rw [wX10_countFalse_h10]
    refine pk_ite (fun _ => ?_) (fun _ => ?_)
    · refine pk_ite (fun _ => ?_) (fun _ => ?_)
      · exact wX10_countFalse_j38_J (fun _ _ g => ih g) g
      · refine pk_bind pk_any (fun t18 _ => ?_)
        refine pk_ite (fun _ => ?_) (fun _ => ?_)
        · exact wX10_countFalse_j38_J (fun _ _ g => ih g) g
        · exact wX10_countFalse_j43_J (fun _ _ g => ih g) g
    · exact pk_some g
theorem wX10_countFalse_h172_J  {x6 : Int32} {x7 : Int32} {x8 : Int32}   : ∀ (n : Nat) {x5 : Int32} {x9 : Int32} {s : wS}, JB s → PK (wX10_countFalse_h172 x6 x7 x8 n x5 x9 s) (fun (r : Int32 × wS) => JB r.2) := by
  intro n
  induction n with
  | zero =>
    intro x5 x9 s g
    rw [wX10_countFalse_h172]
    exact pk_none
  | succ n ih =>
    intro x5 x9 s g
    rw [wX10_countFalse_h172]
    refine pk_bind pk_any (fun t46 _ => ?_)
    refine pk_ite (fun _ => ?_) (fun _ => ?_)
    · refine pk_bind pk_any (fun t49 _ => ?_)
      refine pk_bind pk_any (fun t51 _ => ?_)
      refine pk_bind (wX10_set_J (fun _ => rfl) g) (fun s54 g1 => ?_)
      exact ih g1
    · exact pk_some g
theorem wX10_countFalse_h124_J  {x6 : Int32}   : ∀ (n : Nat) {x5 : Int32} {x7 : Int32} {s : wS}, JB s → PK (wX10_countFalse_h124 x6 n x5 x7 s) (fun (r : Int32 × wS) => JB r.2) := by
  intro n
  induction n with
  | zero =>
    intro x5 x7 s g
    rw [wX10_countFalse_h124]
    exact pk_none
  | succ n ih =>
    intro x5 x7 s g
    rw [wX10_countFalse_h124]
    refine pk_bind pk_any (fun t35 _ => ?_)
    refine pk_ite (fun _ => ?_) (fun _ => ?_)
    · refine pk_bind pk_any (fun t38 _ => ?_)
      refine pk_bind pk_any (fun t40 _ => ?_)
      refine pk_bind pk_any (fun t42 _ => ?_)
      refine pk_bind pk_any (fun t44 _ => ?_)
      refine pk_bind (wX10_countFalse_h172_J _ g) (fun p1 h2 => ?_)
      obtain ⟨t57, s58⟩ := p1
      have g3 : JB s58 := h2
      dsimp only
      exact ih g3
    · exact pk_some g
theorem wX10_countFalse_h105_J     : ∀ (n : Nat) {x5 : Int32} {x6 : Int32} {s : wS}, JB s → PK (wX10_countFalse_h105 n x5 x6 s) (fun (r : wS) => JB r) := by
  intro n
  induction n with
  | zero =>
    intro x5 x6 s g
    rw [wX10_countFalse_h105]
    exact pk_none
  | succ n ih =>
    intro x5 x6 s g
    rw [wX10_countFalse_h105]
    refine pk_bind pk_any (fun t32 _ => ?_)
    refine pk_ite (fun _ => ?_) (fun _ => ?_)
    · refine pk_bind (wX10_countFalse_h124_J _ g) (fun p1 h2 => ?_)
      obtain ⟨t66, s67⟩ := p1
      have g3 : JB s67 := h2
      dsimp only
      exact ih g3
    · exact pk_some g
theorem wX10_countFalse_J  {k1 : Nat} {x2 : Int32} {x3 : Int32} {x4 : Int32} {s : wS}   (g : JB s) : PK (wX10_countFalse k1 x2 x3 x4 s) (fun (r : wS) => JB r) := by
  unfold wX10_countFalse
  refine pk_bind (wX10_empty_J (fun _ => rfl) g) (fun s2 g1 => ?_)
  refine pk_bind (wX10_countFalse_h10_J _ g1) (fun s22 g2 => ?_)
  refine pk_bind (wX10_countFalse_h105_J _ g2) (fun s76 g3 => ?_)
  exact pk_some g3
theorem wX10_wrong_J  {x1 : Int32} {x2 : Int32} {s : wS}   (g : JB s) : PK (wX10_wrong x1 x2 s) (fun (r : Int32 × wS) => JB r.2) := by
  unfold wX10_wrong
  refine pk_bind (wX10_lawInUse_J g) (fun p1 h2 => ?_)
  obtain ⟨o1, s2⟩ := p1
  have g3 : JB s2 := h2
  dsimp only
  refine pk_elim ?_ (fun k4 => ?_)
  · exact pk_some g3
  · refine pk_bind pk_any (fun t5 _ => ?_)
    refine pk_bind pk_any (fun t7 _ => ?_)
    refine pk_ite (fun _ => ?_) (fun _ => ?_)
    · refine pk_bind pk_any (fun t10 _ => ?_)
      refine pk_bind (wX10_countFalse_J g3) (fun s13 g4 => ?_)
      refine pk_bind pk_any (fun t15 _ => ?_)
      exact pk_some g4
    · exact pk_some g3
theorem wX10_fillKept_j98_J  {k1 : Nat} {x2 : Int32} {x3 : Int32} {x4 : Int32} {x5 : Int32} {x6 : Int32} {x7 : Int32} {s : wS} {qq : Int32 → Int32 → wS → Option (Int32 × wS)} (hqq : ∀ (v0 : Int32) (v1 : Int32) (v2 : wS), JB v2 → PK (qq v0 v1 v2) (fun (r : Int32 × wS) => JB r.2)) (g : JB s) : PK (wX10_fillKept_j98 qq k1 x2 x3 x4 x5 x6 x7 s) (fun (r : Int32 × wS) => JB r.2) := by
  unfold wX10_fillKept_j98
  exact hqq _ _ _ g
theorem wX10_fillKept_j88_J  {k1 : Nat} {x2 : Int32} {x3 : Int32} {x4 : Int32} {x5 : Int32} {x6 : Int32} {x7 : Int32} {s : wS} {qq : Int32 → Int32 → wS → Option (Int32 × wS)} (hqq : ∀ (v0 : Int32) (v1 : Int32) (v2 : wS), JB v2 → PK (qq v0 v1 v2) (fun (r : Int32 × wS) => JB r.2)) (hk1_0 : ∀ b, bJ (k1) b = true) (hk1_1 : ∀ b, bJ (k1 + 1) b = true) (g : JB s) : PK (wX10_fillKept_j88 qq k1 x2 x3 x4 x5 x6 x7 s) (fun (r : Int32 × wS) => JB r.2) := by
  unfold wX10_fillKept_j88
  refine pk_bind (wX7_add_J hk1_0 hk1_1 g) (fun s18 g1 => ?_)
  exact wX10_fillKept_j98_J hqq g1
theorem wX10_fillKept_h48_J  {k1 : Nat} {x2 : Int32} {x3 : Int32} {x5 : Int32} {x6 : Int32}  (hk1_0 : ∀ b, bJ (k1) b = true) (hk1_1 : ∀ b, bJ (k1 + 1) b = true) : ∀ (n : Nat) {x4 : Int32} {x7 : Int32} {s : wS}, JB s → PK (wX10_fillKept_h48 k1 x2 x3 x5 x6 n x4 x7 s) (fun (r : Int32 × wS) => JB r.2) := by
  intro n
  induction n with
  | zero =>
    intro x4 x7 s g
    rw [wX10_fillKept_h48]
    exact pk_none
  | succ n ih =>
    intro x4 x7 s g
    rw [wX10_fillKept_h48]
    refine pk_bind pk_any (fun t10 _ => ?_)
    refine pk_ite (fun _ => ?_) (fun _ => ?_)
    · refine pk_bind pk_any (fun t13 _ => ?_)
      refine pk_ite (fun _ => ?_) (fun _ => ?_)
      · exact wX10_fillKept_j98_J (fun _ _ _ g => ih g) g
      · refine pk_ite (fun _ => ?_) (fun _ => ?_)
        · exact wX10_fillKept_j88_J (fun _ _ _ g => ih g) hk1_0 hk1_1 g
        · refine pk_ite (fun _ => ?_) (fun _ => ?_)
          · exact wX10_fillKept_j88_J (fun _ _ _ g => ih g) hk1_0 hk1_1 g
          · exact wX10_fillKept_j98_J (fun _ _ _ g => ih g) g
    · exact pk_some g
theorem wX10_fillKept_h29_J  {k1 : Nat} {x2 : Int32} {x3 : Int32} {x5 : Int32}  (hk1_0 : ∀ b, bJ (k1) b = true) (hk1_1 : ∀ b, bJ (k1 + 1) b = true) : ∀ (n : Nat) {x4 : Int32} {x6 : Int32} {s : wS}, JB s → PK (wX10_fillKept_h29 k1 x2 x3 x5 n x4 x6 s) (fun (r : Int32 × wS) => JB r.2) := by
  intro n
  induction n with
  | zero =>
    intro x4 x6 s g
    rw [wX10_fillKept_h29]
    exact pk_none
  | succ n ih =>
    intro x4 x6 s g
    rw [wX10_fillKept_h29]
    refine pk_bind pk_any (fun t7 _ => ?_)
    refine pk_ite (fun _ => ?_) (fun _ => ?_)
    · refine pk_bind (wX10_fillKept_h48_J hk1_0 hk1_1 _ g) (fun p1 h2 => ?_)
      obtain ⟨t22, s23⟩ := p1
      have g3 : JB s23 := h2
      dsimp only
      exact ih g3
    · exact pk_some g
theorem wX10_fillKept_h10_J  {k1 : Nat} {x2 : Int32} {x3 : Int32}  (hk1_0 : ∀ b, bJ (k1) b = true) (hk1_1 : ∀ b, bJ (k1 + 1) b = true) : ∀ (n : Nat) {x4 : Int32} {x5 : Int32} {s : wS}, JB s → PK (wX10_fillKept_h10 k1 x2 x3 n x4 x5 s) (fun (r : wS) => JB r) := by
  intro n
  induction n with
  | zero =>
    intro x4 x5 s g
    rw [wX10_fillKept_h10]
    exact pk_none
  | succ n ih =>
    intro x4 x5 s g
    rw [wX10_fillKept_h10]
    refine pk_bind pk_any (fun t4 _ => ?_)
    refine pk_ite (fun _ => ?_) (fun _ => ?_)
    · refine pk_bind (wX10_fillKept_h29_J hk1_0 hk1_1 _ g) (fun p1 h2 => ?_)
      obtain ⟨t26, s27⟩ := p1
      have g3 : JB s27 := h2
      dsimp only
      exact ih g3
    · exact pk_some g
theorem wX10_fillKept_J  {k1 : Nat} {x2 : Int32} {x3 : Int32} {s : wS}  (hk1_0 : ∀ b, bJ (k1) b = true) (hk1_1 : ∀ b, bJ (k1 + 1) b = true) (g : JB s) : PK (wX10_fillKept k1 x2 x3 s) (fun (r : wS) => JB r) := by
  unfold wX10_fillKept
  refine pk_bind (wX7_clear_J hk1_0 hk1_1 g) (fun s2 g1 => ?_)
  refine pk_bind (wX10_fillKept_h10_J hk1_0 hk1_1 _ g1) (fun s31 g2 => ?_)
  exact pk_some g2
theorem wX10_lawWithKept_J  {x1 : Int32} {x2 : Int32} {s : wS}   (g : JB s) : PK (wX10_lawWithKept x1 x2 s) (fun (r : (Option Nat) × wS) => JB r.2) := by
  unfold wX10_lawWithKept
  refine pk_bind (wX10_lawInUse_J g) (fun p1 h2 => ?_)
  obtain ⟨o1, s2⟩ := p1
  have g3 : JB s2 := h2
  dsimp only
  refine pk_elim ?_ (fun k4 => ?_)
  · exact pk_some g3
  · refine pk_bind pk_any (fun t5 _ => ?_)
    refine pk_ite (fun _ => ?_) (fun _ => ?_)
    · refine pk_bind pk_any (fun t8 _ => ?_)
      refine pk_bind (wX10_countFalse_J g3) (fun s11 g4 => ?_)
      refine pk_bind (wX10_fillKept_J (fun _ => rfl) (fun _ => rfl) g4) (fun s14 g5 => ?_)
      exact pk_some g5
    · exact pk_some g3
theorem wX10_kept_J  {x1 : Int32} {x2 : Int32} {s : wS}   (g : JB s) : PK (wX10_kept x1 x2 s) (fun (r : Int32 × wS) => JB r.2) := by
  unfold wX10_kept
  refine pk_bind (wX10_lawWithKept_J g) (fun p1 h2 => ?_)
  obtain ⟨o1, s2⟩ := p1
  have g3 : JB s2 := h2
  dsimp only
  refine pk_elim ?_ (fun k4 => ?_)
  · exact pk_some g3
  · exact pk_some g3
theorem wX10_world_J  {x1 : Int32} {x2 : Int32} {x3 : Int32} {s : wS}   (g : JB s) : PK (wX10_world x1 x2 x3 s) (fun (r : Int32 × wS) => JB r.2) := by
  unfold wX10_world
  refine pk_bind (wX10_lawWithKept_J g) (fun p1 h2 => ?_)
  obtain ⟨o1, s2⟩ := p1
  have g3 : JB s2 := h2
  dsimp only
  refine pk_elim ?_ (fun k4 => ?_)
  · exact pk_some g3
  · refine pk_bind pk_any (fun z12 h4 => ?_)
    rcases z12 with _u | t19
    · dsimp only
      exact pk_some g3
    · dsimp only
      exact pk_some g3
theorem wX10_may_J  {x1 : Int32} {x2 : Int32} {x3 : Int32} {x4 : Int32} {s : wS}   (g : JB s) : PK (wX10_may x1 x2 x3 x4 s) (fun (r : Int32 × wS) => JB r.2) := by
  unfold wX10_may
  refine pk_bind (wX10_lawWithKept_J g) (fun p1 h2 => ?_)
  obtain ⟨o1, s2⟩ := p1
  have g3 : JB s2 := h2
  dsimp only
  refine pk_elim ?_ (fun k4 => ?_)
  · exact pk_some g3
  · refine pk_bind pk_any (fun t5 _ => ?_)
    refine pk_ite (fun _ => ?_) (fun _ => ?_)
    · exact pk_some g3
    · refine pk_bind pk_any (fun t8 _ => ?_)
      exact pk_some g3
theorem wX10_cleared_J  {x1 : Int32} {x2 : Int32} {s : wS}   (g : JB s) : PK (wX10_cleared x1 x2 s) (fun (r : Int32 × wS) => JB r.2) := by
  unfold wX10_cleared
  refine pk_bind (wX10_lawWithKept_J g) (fun p1 h2 => ?_)
  obtain ⟨o1, s2⟩ := p1
  have g3 : JB s2 := h2
  dsimp only
  refine pk_elim ?_ (fun k4 => ?_)
  · exact pk_some g3
  · refine pk_bind pk_any (fun t5 _ => ?_)
    refine pk_bind pk_any (fun t7 _ => ?_)
    exact pk_some g3
theorem wX10_bestWorld_J  {k1 : Nat} {s : wS}   (g : JB s) : PK (wX10_bestWorld k1 s) (fun (r : Int32 × wS) => JB r.2) := by
  unfold wX10_bestWorld
  refine pk_bind pk_any (fun t1 _ => ?_)
  refine pk_bind (wX10_countFalse_J g) (fun s4 g1 => ?_)
  refine pk_bind pk_any (fun t15 _ => ?_)
  exact pk_some g1
theorem wX10_fewest_J  {x1 : Int32} {x2 : Int32} {s : wS}   (g : JB s) : PK (wX10_fewest x1 x2 s) (fun (r : Int32 × wS) => JB r.2) := by
  unfold wX10_fewest
  refine pk_bind (wX10_lawInUse_J g) (fun p1 h2 => ?_)
  obtain ⟨o1, s2⟩ := p1
  have g3 : JB s2 := h2
  dsimp only
  refine pk_elim ?_ (fun k4 => ?_)
  · exact pk_some g3
  · refine pk_bind pk_any (fun t5 _ => ?_)
    refine pk_ite (fun _ => ?_) (fun _ => ?_)
    · refine pk_bind (wX10_bestWorld_J g3) (fun p4 h5 => ?_)
      obtain ⟨t8, s9⟩ := p4
      have g6 : JB s9 := h5
      dsimp only
      refine pk_bind pk_any (fun t11 _ => ?_)
      refine pk_ite (fun _ => ?_) (fun _ => ?_)
      · exact pk_some g6
      · refine pk_ite (fun _ => ?_) (fun _ => ?_)
        · exact pk_some g6
        · refine pk_bind pk_any (fun t15 _ => ?_)
          exact pk_some g6
    · exact pk_some g3
theorem wX10_falseOnes_J  {x1 : Int32} {s : wS}   (g : JB s) : PK (wX10_falseOnes x1 s) (fun (r : Int64 × wS) => JB r.2) := by
  unfold wX10_falseOnes
  refine pk_bind (wX10_lawInUse_J g) (fun p1 h2 => ?_)
  obtain ⟨o1, s2⟩ := p1
  have g3 : JB s2 := h2
  dsimp only
  refine pk_elim ?_ (fun k4 => ?_)
  · exact pk_some g3
  · refine pk_bind (wX10_bestWorld_J g3) (fun p4 h5 => ?_)
    obtain ⟨t5, s6⟩ := p4
    have g6 : JB s6 := h5
    dsimp only
    refine pk_bind pk_any (fun t18 _ => ?_)
    exact pk_some g6
theorem wX10_markLiars_j132_J  {k1 : Nat} {x2 : Int32} {s : wS} {qq : Int32 → wS → Option (wS)} (hqq : ∀ (v0 : Int32) (v1 : wS), JB v1 → PK (qq v0 v1) (fun (r : wS) => JB r)) (g : JB s) : PK (wX10_markLiars_j132 qq k1 x2 s) (fun (r : wS) => JB r) := by
  unfold wX10_markLiars_j132
  exact hqq _ _ g
theorem wX10_markLiars_j126_J  {k1 : Nat} {x2 : Int32} {x3 : Int32} {x4 : Int32} {x5 : Int32} {s : wS} {qq : Int32 → wS → Option (wS)} (hqq : ∀ (v0 : Int32) (v1 : wS), JB v1 → PK (qq v0 v1) (fun (r : wS) => JB r)) (g : JB s) : PK (wX10_markLiars_j126 qq k1 x2 x3 x4 x5 s) (fun (r : wS) => JB r) := by
  unfold wX10_markLiars_j126
  exact hqq _ _ g
theorem wX10_markLiars_h56_J  {k1 : Nat} {x2 : Int32} {x3 : Int32} {x4 : Int32}   : ∀ (n : Nat) {x5 : Int32} {s : wS}, JB s → PK (wX10_markLiars_h56 k1 x2 x3 x4 n x5 s) (fun (r : wS) => JB r) := by
  intro n
  induction n with
  | zero =>
    intro x5 s g
    rw [wX10_markLiars_h56]
    exact pk_none
  | succ n ih =>
    intro x5 s g
    rw [wX10_markLiars_h56]
    refine pk_bind pk_any (fun t14 _ => ?_)
    refine pk_ite (fun _ => ?_) (fun _ => ?_)
    · refine pk_ite (fun _ => ?_) (fun _ => ?_)
      · refine pk_bind pk_any (fun t18 _ => ?_)
        refine pk_bind pk_any (fun t20 _ => ?_)
        refine pk_bind pk_any (fun t22 _ => ?_)
        refine pk_bind pk_any (fun t24 _ => ?_)
        refine pk_bind (wX10_set_J (fun _ => rfl) g) (fun s27 g1 => ?_)
        exact wX10_markLiars_j126_J (fun _ _ g => ih g) g1
      · exact wX10_markLiars_j126_J (fun _ _ g => ih g) g
    · exact pk_some g
theorem wX10_markLiars_h9_J  {k1 : Nat}   : ∀ (n : Nat) {x2 : Int32} {s : wS}, JB s → PK (wX10_markLiars_h9 k1 n x2 s) (fun (r : wS) => JB r) := by
  intro n
  induction n with
  | zero =>
    intro x2 s g
    rw [wX10_markLiars_h9]
    exact pk_none
  | succ n ih =>
    intro x2 s g
    rw [wX10_markLiars_h9]
    refine pk_ite (fun _ => ?_) (fun _ => ?_)
    · refine pk_bind pk_any (fun t5 _ => ?_)
      refine pk_bind pk_any (fun t7 _ => ?_)
      refine pk_ite (fun _ => ?_) (fun _ => ?_)
      · exact wX10_markLiars_j132_J (fun _ _ g => ih g) g
      · refine pk_bind pk_any (fun t10 _ => ?_)
        refine pk_bind pk_any (fun t12 _ => ?_)
        refine pk_bind (wX10_markLiars_h56_J _ g) (fun s30 g1 => ?_)
        exact wX10_markLiars_j132_J (fun _ _ g => ih g) g1
    · exact pk_some g
theorem wX10_markLiars_J  {k1 : Nat} {s : wS}   (g : JB s) : PK (wX10_markLiars k1 s) (fun (r : wS) => JB r) := by
  unfold wX10_markLiars
  refine pk_bind (wX10_empty_J (fun _ => rfl) g) (fun s2 g1 => ?_)
  refine pk_bind (wX10_markLiars_h9_J _ g1) (fun s36 g2 => ?_)
  exact pk_some g2
theorem wX10_liars_J  {x1 : Int32} {s : wS}   (g : JB s) : PK (wX10_liars x1 s) (fun (r : Int32 × wS) => JB r.2) := by
  unfold wX10_liars
  refine pk_bind (wX10_lawInUse_J g) (fun p1 h2 => ?_)
  obtain ⟨o1, s2⟩ := p1
  have g3 : JB s2 := h2
  dsimp only
  refine pk_elim ?_ (fun k4 => ?_)
  · exact pk_some g3
  · refine pk_bind (wX10_markLiars_J g3) (fun s6 g4 => ?_)
    refine pk_bind pk_any (fun t28 _ => ?_)
    exact pk_some g4
theorem wX10_quarrel_J  {x1 : Int32} {s : wS}   (g : JB s) : PK (wX10_quarrel x1 s) (fun (r : Int32 × wS) => JB r.2) := by
  unfold wX10_quarrel
  refine pk_bind (wX10_lawInUse_J g) (fun p1 h2 => ?_)
  obtain ⟨o1, s2⟩ := p1
  have g3 : JB s2 := h2
  dsimp only
  refine pk_elim ?_ (fun k4 => ?_)
  · exact pk_some g3
  · refine pk_bind pk_any (fun z33 h4 => ?_)
    rcases z33 with _u | ⟨t39, t40⟩
    · dsimp only
      exact pk_some g3
    · dsimp only
      exact pk_some g3
theorem wX10_gatherProof_j51_J  {k1 : Nat} {x2 : Int32} {x3 : Int32} {s : wS} {qq : Int32 → Int32 → wS → Option (Int32 × wS)} (hqq : ∀ (v0 : Int32) (v1 : Int32) (v2 : wS), JB v2 → PK (qq v0 v1 v2) (fun (r : Int32 × wS) => JB r.2)) (g : JB s) : PK (wX10_gatherProof_j51 qq k1 x2 x3 s) (fun (r : Int32 × wS) => JB r.2) := by
  unfold wX10_gatherProof_j51
  exact hqq _ _ _ g
theorem wX10_gatherProof_h4_J  {k1 : Nat}   : ∀ (n : Nat) {x2 : Int32} {x3 : Int32} {s : wS}, JB s → PK (wX10_gatherProof_h4 k1 n x2 x3 s) (fun (r : Int32 × wS) => JB r.2) := by
  intro n
  induction n with
  | zero =>
    intro x2 x3 s g
    rw [wX10_gatherProof_h4]
    exact pk_none
  | succ n ih =>
    intro x2 x3 s g
    rw [wX10_gatherProof_h4]
    refine pk_ite (fun _ => ?_) (fun _ => ?_)
    · refine pk_ite (fun _ => ?_) (fun _ => ?_)
      · refine pk_bind pk_any (fun t3 _ => ?_)
        refine pk_bind pk_any (fun t5 _ => ?_)
        refine pk_ite (fun _ => ?_) (fun _ => ?_)
        · exact wX10_gatherProof_j51_J (fun _ _ _ g => ih g) g
        · refine pk_bind pk_any (fun t8 _ => ?_)
          refine pk_bind (wX10_set_J (fun _ => rfl) g) (fun s11 g1 => ?_)
          exact wX10_gatherProof_j51_J (fun _ _ _ g => ih g) g1
      · exact pk_some g
    · exact pk_some g
theorem wX10_gatherProof_J  {k1 : Nat} {s : wS}   (g : JB s) : PK (wX10_gatherProof k1 s) (fun (r : Int32 × wS) => JB r.2) := by
  unfold wX10_gatherProof
  refine pk_bind (wX10_gatherProof_h4_J _ g) (fun p1 h2 => ?_)
  obtain ⟨t14, s15⟩ := p1
  have g3 : JB s15 := h2
  dsimp only
  exact pk_some g3
theorem wX10_proof_J  {x1 : Int32} {x2 : Int32} {s : wS}   (g : JB s) : PK (wX10_proof x1 x2 s) (fun (r : Int32 × wS) => JB r.2) := by
  unfold wX10_proof
  refine pk_bind (wX10_lawInUse_J g) (fun p1 h2 => ?_)
  obtain ⟨o1, s2⟩ := p1
  have g3 : JB s2 := h2
  dsimp only
  refine pk_elim ?_ (fun k4 => ?_)
  · exact pk_some g3
  · refine pk_bind pk_any (fun t5 _ => ?_)
    refine pk_ite (fun _ => ?_) (fun _ => ?_)
    · exact pk_some g3
    · refine pk_bind (wX10_gatherProof_J g3) (fun p4 h5 => ?_)
      obtain ⟨t8, s9⟩ := p4
      have g6 : JB s9 := h5
      dsimp only
      refine pk_bind pk_any (fun t23 _ => ?_)
      exact pk_some g6
theorem wX10_countKeptBy_j118_J  {x1 : Int32} {x2 : Int32} {x3 : Int32} {s : wS} {qq : Int32 → wS → Option (wS)} (hqq : ∀ (v0 : Int32) (v1 : wS), JB v1 → PK (qq v0 v1) (fun (r : wS) => JB r)) (g : JB s) : PK (wX10_countKeptBy_j118 qq x1 x2 x3 s) (fun (r : wS) => JB r) := by
  unfold wX10_countKeptBy_j118
  exact hqq _ _ g
theorem wX10_countKeptBy_j108_J  {x1 : Int32} {x2 : Int32} {x3 : Int32} {x5 : Int32} {y1 : Int32} {y2 : Int32} {y3 : Int32} {s : wS} {qq : Int32 → wS → Option (wS)} (hqq : ∀ (v0 : Int32) (v1 : wS), JB v1 → PK (qq v0 v1) (fun (r : wS) => JB r)) (g : JB s) : PK (wX10_countKeptBy_j108 qq x1 x2 x3 x5 y1 y2 y3 s) (fun (r : wS) => JB r) := by
  unfold wX10_countKeptBy_j108
  refine pk_bind (wX10_set_J (fun _ => rfl) g) (fun s24 g1 => ?_)
  exact hqq _ _ g1
theorem wX10_countKeptBy_h60_J  {x1 : Int32} {x2 : Int32} {x3 : Int32}   : ∀ (n : Nat) {x5 : Int32} {s : wS}, JB s → PK (wX10_countKeptBy_h60 x1 x2 x3 n x5 s) (fun (r : wS) => JB r) := by
  intro n
  induction n with
  | zero =>
    intro x5 s g
    rw [wX10_countKeptBy_h60]
    exact pk_none
  | succ n ih =>
    intro x5 s g
    rw [wX10_countKeptBy_h60]
    refine pk_bind pk_any (fun t15 _ => ?_)
    refine pk_ite (fun _ => ?_) (fun _ => ?_)
    · refine pk_bind pk_any (fun t18 _ => ?_)
      refine pk_bind pk_any (fun t20 _ => ?_)
      refine pk_ite (fun _ => ?_) (fun _ => ?_)
      · exact wX10_countKeptBy_j108_J (fun _ _ g => ih g) g
      · exact wX10_countKeptBy_j108_J (fun _ _ g => ih g) g
    · exact pk_some g
theorem wX10_countKeptBy_j35_J  {x1 : Int32} {x2 : Int32} {x3 : Int32} {o100 : Option Nat} {s : wS} {qq : Int32 → wS → Option (wS)} (hqq : ∀ (v0 : Int32) (v1 : wS), JB v1 → PK (qq v0 v1) (fun (r : wS) => JB r)) (g : JB s) : PK (wX10_countKeptBy_j35 qq x1 x2 x3 o100 s) (fun (r : wS) => JB r) := by
  unfold wX10_countKeptBy_j35
  refine pk_elim ?_ (fun k9 => ?_)
  · exact wX10_countKeptBy_j118_J hqq g
  · refine pk_bind pk_any (fun t10 _ => ?_)
    refine pk_bind (wX10_countFalse_J g) (fun s13 g1 => ?_)
    refine pk_bind (wX10_countKeptBy_h60_J _ g1) (fun s27 g2 => ?_)
    exact wX10_countKeptBy_j118_J hqq g2
theorem wX10_countKeptBy_h9_J  {x1 : Int32} {x2 : Int32}   : ∀ (n : Nat) {x3 : Int32} {s : wS}, JB s → PK (wX10_countKeptBy_h9 x1 x2 n x3 s) (fun (r : wS) => JB r) := by
  intro n
  induction n with
  | zero =>
    intro x3 s g
    rw [wX10_countKeptBy_h9]
    exact pk_none
  | succ n ih =>
    intro x3 s g
    rw [wX10_countKeptBy_h9]
    refine pk_ite (fun _ => ?_) (fun _ => ?_)
    · refine pk_ite (fun _ => ?_) (fun _ => ?_)
      · refine pk_bind (wX10_lawInUse_J g) (fun p1 h2 => ?_)
        obtain ⟨o6, s7⟩ := p1
        have g3 : JB s7 := h2
        dsimp only
        exact wX10_countKeptBy_j35_J (fun _ _ g => ih g) g3
      · exact wX10_countKeptBy_j35_J (fun _ _ g => ih g) g
    · exact pk_some g
theorem wX10_countKeptBy_J  {x1 : Int32} {x2 : Int32} {s : wS}   (g : JB s) : PK (wX10_countKeptBy x1 x2 s) (fun (r : wS) => JB r) := by
  unfold wX10_countKeptBy
  refine pk_bind (wX10_empty_J (fun _ => rfl) g) (fun s2 g1 => ?_)
  refine pk_bind (wX10_countKeptBy_h9_J _ g1) (fun s31 g2 => ?_)
  exact pk_some g2
theorem wX10_byLaws_j77_J  {y0 : Int32} {s : wS}   (g : JB s) : PK (wX10_byLaws_j77 y0 s) (fun (r : Int32 × wS) => JB r.2) := by
  unfold wX10_byLaws_j77
  refine pk_bind pk_any (fun t25 _ => ?_)
  exact pk_some g
theorem wX10_byLaws_j20_J  {x1 : Int32} {x2 : Int32} {x3 : Int32} {y0 : Int32} {s : wS}   (g : JB s) : PK (wX10_byLaws_j20 x1 x2 x3 y0 s) (fun (r : Int32 × wS) => JB r.2) := by
  unfold wX10_byLaws_j20
  refine pk_ite (fun _ => ?_) (fun _ => ?_)
  · exact pk_some g
  · refine pk_bind pk_any (fun t3 _ => ?_)
    refine pk_ite (fun _ => ?_) (fun _ => ?_)
    · exact pk_some g
    · refine pk_bind pk_any (fun t6 _ => ?_)
      refine pk_ite (fun _ => ?_) (fun _ => ?_)
      · refine pk_bind pk_any (fun t9 _ => ?_)
        refine pk_ite (fun _ => ?_) (fun _ => ?_)
        · refine pk_bind (wX10_countKeptBy_J g) (fun s13 g1 => ?_)
          refine pk_ite (fun _ => ?_) (fun _ => ?_)
          · refine pk_bind pk_any (fun t16 _ => ?_)
            exact wX10_byLaws_j77_J g1
          · exact wX10_byLaws_j77_J g1
        · exact pk_some g
      · exact pk_some g
theorem wX10_byLaws_j19_J  {x1 : Int32} {x2 : Int32} {x3 : Int32} {s : wS}   (g : JB s) : PK (wX10_byLaws_j19 x1 x2 x3 s) (fun (r : Int32 × wS) => JB r.2) := by
  unfold wX10_byLaws_j19
  exact wX10_byLaws_j20_J g
theorem wX10_byLaws_J  {x1 : Int32} {x2 : Int32} {x3 : Int32} {s : wS}   (g : JB s) : PK (wX10_byLaws x1 x2 x3 s) (fun (r : Int32 × wS) => JB r.2) := by
  unfold wX10_byLaws
  refine pk_ite (fun _ => ?_) (fun _ => ?_)
  · exact wX10_byLaws_j19_J g
  · refine pk_ite (fun _ => ?_) (fun _ => ?_)
    · exact wX10_byLaws_j20_J g
    · exact wX10_byLaws_j19_J g
theorem wX10_looks_J  {x1 : Int32} {x2 : Int32} {x3 : Int32} {s : wS}   (g : JB s) : PK (wX10_looks x1 x2 x3 s) (fun (r : Int32 × wS) => JB r.2) := by
  unfold wX10_looks
  refine pk_bind (wX10_lawWithKept_J g) (fun p1 h2 => ?_)
  obtain ⟨o1, s2⟩ := p1
  have g3 : JB s2 := h2
  dsimp only
  refine pk_elim ?_ (fun k4 => ?_)
  · exact pk_some g3
  · refine pk_bind pk_any (fun t5 _ => ?_)
    refine pk_ite (fun _ => ?_) (fun _ => ?_)
    · exact pk_some g3
    · refine pk_bind pk_any (fun t8 _ => ?_)
      refine pk_bind pk_any (fun t10 _ => ?_)
      refine pk_bind pk_any (fun t12 _ => ?_)
      exact pk_some g3
theorem wX10_sure_J  {x1 : Int32} {x2 : Int32} {x3 : Int32} {s : wS}   (g : JB s) : PK (wX10_sure x1 x2 x3 s) (fun (r : Int32 × wS) => JB r.2) := by
  unfold wX10_sure
  refine pk_bind (wX10_lawWithKept_J g) (fun p1 h2 => ?_)
  obtain ⟨o1, s2⟩ := p1
  have g3 : JB s2 := h2
  dsimp only
  refine pk_elim ?_ (fun k4 => ?_)
  · exact pk_some g3
  · refine pk_bind pk_any (fun t5 _ => ?_)
    refine pk_ite (fun _ => ?_) (fun _ => ?_)
    · refine pk_bind pk_any (fun t8 _ => ?_)
      refine pk_bind pk_any (fun t10 _ => ?_)
      refine pk_ite (fun _ => ?_) (fun _ => ?_)
      · refine pk_bind pk_any (fun t13 _ => ?_)
        exact pk_some g3
      · exact pk_some g3
    · exact pk_some g3
theorem wX10_alone_J  {x1 : Int32} {x2 : Int32} {s : wS}   (g : JB s) : PK (wX10_alone x1 x2 s) (fun (r : Int32 × wS) => JB r.2) := by
  unfold wX10_alone
  refine pk_bind (wX10_lawInUse_J g) (fun p1 h2 => ?_)
  obtain ⟨o1, s2⟩ := p1
  have g3 : JB s2 := h2
  dsimp only
  refine pk_elim ?_ (fun k4 => ?_)
  · exact pk_some g3
  · refine pk_bind pk_any (fun t5 _ => ?_)
    refine pk_ite (fun _ => ?_) (fun _ => ?_)
    · refine pk_bind pk_any (fun t8 _ => ?_)
      refine pk_bind (wX10_countFalse_J g3) (fun s11 g4 => ?_)
      refine pk_bind pk_any (fun t13 _ => ?_)
      exact pk_some g4
    · exact pk_some g3
theorem wX10_mean_J  {x1 : Int32} {x2 : Int32} {x3 : Int32} {s : wS}   (g : JB s) : PK (wX10_mean x1 x2 x3 s) (fun (r : Int32 × wS) => JB r.2) := by
  unfold wX10_mean
  refine pk_bind (wX10_lawWithKept_J g) (fun p1 h2 => ?_)
  obtain ⟨o1, s2⟩ := p1
  have g3 : JB s2 := h2
  dsimp only
  refine pk_elim ?_ (fun k4 => ?_)
  · exact pk_some g3
  · refine pk_bind pk_any (fun t5 _ => ?_)
    refine pk_ite (fun _ => ?_) (fun _ => ?_)
    · refine pk_ite (fun _ => ?_) (fun _ => ?_)
      · refine pk_bind pk_any (fun t20 _ => ?_)
        refine pk_bind pk_any (fun t27 _ => ?_)
        exact pk_some g3
      · exact pk_some g3
    · exact pk_some g3
theorem wX10_filled_J  {x1 : Int32} {x2 : Int32} {x3 : Int32} {s : wS}   (g : JB s) : PK (wX10_filled x1 x2 x3 s) (fun (r : Int32 × wS) => JB r.2) := by
  unfold wX10_filled
  refine pk_bind (wX10_lawInUse_J g) (fun p1 h2 => ?_)
  obtain ⟨o1, s2⟩ := p1
  have g3 : JB s2 := h2
  dsimp only
  refine pk_elim ?_ (fun k4 => ?_)
  · exact pk_some g3
  · refine pk_bind pk_any (fun t5 _ => ?_)
    refine pk_ite (fun _ => ?_) (fun _ => ?_)
    · refine pk_bind pk_any (fun t8 _ => ?_)
      refine pk_ite (fun _ => ?_) (fun _ => ?_)
      · exact pk_some g3
      · refine pk_bind pk_any (fun t11 _ => ?_)
        refine pk_bind (wX10_countFalse_J g3) (fun s14 g4 => ?_)
        refine pk_bind (wX10_fillKept_J (fun _ => rfl) (fun _ => rfl) g4) (fun s17 g5 => ?_)
        refine pk_bind pk_any (fun t19 _ => ?_)
        refine pk_bind pk_any (fun t21 _ => ?_)
        refine pk_bind pk_any (fun t23 _ => ?_)
        refine pk_bind pk_any (fun t38 _ => ?_)
        exact pk_some g5
    · exact pk_some g3
theorem wX10_useful_J  {x1 : Int32} {x2 : Int32} {x3 : Int32} {s : wS}   (g : JB s) : PK (wX10_useful x1 x2 x3 s) (fun (r : Int32 × wS) => JB r.2) := by
  unfold wX10_useful
  refine pk_bind (wX10_lawWithKept_J g) (fun p1 h2 => ?_)
  obtain ⟨o1, s2⟩ := p1
  have g3 : JB s2 := h2
  dsimp only
  refine pk_elim ?_ (fun k4 => ?_)
  · exact pk_some g3
  · refine pk_bind pk_any (fun t5 _ => ?_)
    refine pk_ite (fun _ => ?_) (fun _ => ?_)
    · refine pk_ite (fun _ => ?_) (fun _ => ?_)
      · refine pk_bind pk_any (fun t9 _ => ?_)
        exact pk_some g3
      · refine pk_bind pk_any (fun t11 _ => ?_)
        exact pk_some g3
    · exact pk_some g3
theorem wX10_next_J  {x1 : Int32} {x2 : Int32} {x3 : Int32} {x4 : Int32} {s : wS}   (g : JB s) : PK (wX10_next x1 x2 x3 x4 s) (fun (r : Int32 × wS) => JB r.2) := by
  unfold wX10_next
  refine pk_bind pk_any (fun t1 _ => ?_)
  refine pk_ite (fun _ => ?_) (fun _ => ?_)
  · refine pk_bind pk_any (fun t4 _ => ?_)
    refine pk_ite (fun _ => ?_) (fun _ => ?_)
    · refine pk_bind (wX10_lawWithKept_J g) (fun p1 h2 => ?_)
      obtain ⟨o7, s8⟩ := p1
      have g3 : JB s8 := h2
      dsimp only
      refine pk_elim ?_ (fun k10 => ?_)
      · exact pk_some g3
      · refine pk_bind pk_any (fun t11 _ => ?_)
        refine pk_ite (fun _ => ?_) (fun _ => ?_)
        · exact pk_some g3
        · refine pk_bind pk_any (fun t14 _ => ?_)
          refine pk_bind pk_any (fun t16 _ => ?_)
          refine pk_bind pk_any (fun t18 _ => ?_)
          exact pk_some g3
    · exact pk_some g
  · exact pk_some g
theorem wX10_needed_j106_J  {x2 : Int32} {k3 : Nat} {x4 : Int32} {s : wS} {qq : Int32 → wS → Option (wS)} (hqq : ∀ (v0 : Int32) (v1 : wS), JB v1 → PK (qq v0 v1) (fun (r : wS) => JB r)) (g : JB s) : PK (wX10_needed_j106 qq x2 k3 x4 s) (fun (r : wS) => JB r) := by
  unfold wX10_needed_j106
  exact hqq _ _ g
theorem wX10_needed_h57_J  {x2 : Int32} {k3 : Nat}   : ∀ (n : Nat) {x4 : Int32} {s : wS}, JB s → PK (wX10_needed_h57 x2 k3 n x4 s) (fun (r : wS) => JB r) := by
  intro n
  induction n with
  | zero =>
    intro x4 s g
    rw [wX10_needed_h57]
    exact pk_none
  | succ n ih =>
    intro x4 s g
    rw [wX10_needed_h57]
    refine pk_bind pk_any (fun t10 _ => ?_)
    refine pk_ite (fun _ => ?_) (fun _ => ?_)
    · refine pk_bind pk_any (fun t13 _ => ?_)
      refine pk_ite (fun _ => ?_) (fun _ => ?_)
      · exact wX10_needed_j106_J (fun _ _ g => ih g) g
      · refine pk_bind (wX6_add_J g) (fun s17 g1 => ?_)
        exact wX10_needed_j106_J (fun _ _ g => ih g) g1
    · exact pk_some g
theorem wX10_needed_J  {x1 : Int32} {x2 : Int32} {s : wS}   (g : JB s) : PK (wX10_needed x1 x2 s) (fun (r : Int32 × wS) => JB r.2) := by
  unfold wX10_needed
  refine pk_bind (wX10_lawWithKept_J g) (fun p1 h2 => ?_)
  obtain ⟨o1, s2⟩ := p1
  have g3 : JB s2 := h2
  dsimp only
  refine pk_elim ?_ (fun k4 => ?_)
  · exact pk_some g3
  · refine pk_ite (fun _ => ?_) (fun _ => ?_)
    · exact pk_some g3
    · refine pk_ite (fun _ => ?_) (fun _ => ?_)
      · exact pk_some g3
      · refine pk_bind (wX6_clear_J g3) (fun s8 g4 => ?_)
        refine pk_bind (wX10_needed_h57_J _ g4) (fun s20 g5 => ?_)
        refine pk_bind (wX6_pairsForAll_J g5) (fun p6 h7 => ?_)
        obtain ⟨t25, s26⟩ := p6
        have g8 : JB s26 := h7
        dsimp only
        refine pk_ite (fun _ => ?_) (fun _ => ?_)
        · exact pk_some g8
        · exact pk_some g8
theorem wX10_steered_J  {x1 : Int32} {x2 : Int32} {x3 : Int32} {x4 : Int32} {x5 : Int32} {s : wS}   (g : JB s) : PK (wX10_steered x1 x2 x3 x4 x5 s) (fun (r : Int32 × wS) => JB r.2) := by
  unfold wX10_steered
  refine pk_bind (wX10_lawWithKept_J g) (fun p1 h2 => ?_)
  obtain ⟨o1, s2⟩ := p1
  have g3 : JB s2 := h2
  dsimp only
  refine pk_elim ?_ (fun k4 => ?_)
  · exact pk_some g3
  · refine pk_bind pk_any (fun t5 _ => ?_)
    refine pk_bind pk_any (fun t7 _ => ?_)
    refine pk_ite (fun _ => ?_) (fun _ => ?_)
    · refine pk_bind pk_any (fun t10 _ => ?_)
      refine pk_ite (fun _ => ?_) (fun _ => ?_)
      · exact pk_some g3
      · refine pk_bind pk_any (fun t13 _ => ?_)
        refine pk_ite (fun _ => ?_) (fun _ => ?_)
        · refine pk_bind (wX10_fillKept_J (fun _ => rfl) (fun _ => rfl) g3) (fun s17 g4 => ?_)
          refine pk_bind pk_any (fun p5 h6 => ?_)
          obtain ⟨t28, t29, t30⟩ := p5
          dsimp only
          refine pk_ite (fun _ => ?_) (fun _ => ?_)
          · exact pk_some g4
          · refine pk_bind pk_any (fun t40 _ => ?_)
            exact pk_some g4
        · exact pk_some g3
    · exact pk_some g3
theorem wX10_trial_h19_J  {k1 : Nat} {x2 : Int32}   : ∀ (n : Nat) {x3 : Int32} {s : wS}, JB s → PK (wX10_trial_h19 k1 x2 n x3 s) (Sum.elim (fun (r : Int32 × wS) => JB r.2) (fun (r : Int32 × wS) => JB r.2)) := by
  intro n
  induction n with
  | zero =>
    intro x3 s g
    rw [wX10_trial_h19]
    exact pk_none
  | succ n ih =>
    intro x3 s g
    rw [wX10_trial_h19]
    refine pk_ite (fun _ => ?_) (fun _ => ?_)
    · refine pk_ite (fun _ => ?_) (fun _ => ?_)
      · refine pk_bind pk_any (fun t8 _ => ?_)
        refine pk_ite (fun _ => ?_) (fun _ => ?_)
        · exact pk_some g
        · refine pk_bind pk_any (fun t11 _ => ?_)
          refine pk_ite (fun _ => ?_) (fun _ => ?_)
          · refine pk_bind pk_any (fun t14 _ => ?_)
            refine pk_bind pk_any (fun t16 _ => ?_)
            refine pk_bind (wX7_keepOnly_J (fun _ => rfl) (fun _ => rfl) g) (fun s19 g1 => ?_)
            exact ih g1
          · exact pk_some g
      · exact pk_some g
    · exact pk_some g
theorem wX10_trial_J  {k1 : Nat} {x2 : Int32} {s : wS}   (g : JB s) : PK (wX10_trial k1 x2 s) (fun (r : Int32 × wS) => JB r.2) := by
  unfold wX10_trial
  refine pk_bind pk_any (fun t1 _ => ?_)
  refine pk_bind (wX7_fillWith_J (fun _ => rfl) (fun _ => rfl) g) (fun s4 g1 => ?_)
  refine pk_bind (wX10_trial_h19_J _ g1) (fun z21 h2 => ?_)
  rcases z21 with ⟨t22, s23⟩ | ⟨t28, s29⟩
  · have g3 : JB s23 := h2
    dsimp only
    exact pk_some g3
  · have g4 : JB s29 := h2
    dsimp only
    exact pk_some g4
theorem wX10_trials_j130_J  {x2 : Int32} {x3 : Int32} {k4 : Nat} {x5 : Int32} {x6 : Int32} {x7 : Int32} {x8 : Int32} {x9 : Int32} {x10 : Int32} {s : wS} {qq : Int32 → Int32 → Int32 → Int32 → Int32 → wS → Option (Int32 × Int32 × Int32 × wS)} (hqq : ∀ (v0 : Int32) (v1 : Int32) (v2 : Int32) (v3 : Int32) (v4 : Int32) (v5 : wS), JB v5 → PK (qq v0 v1 v2 v3 v4 v5) (fun (r : Int32 × Int32 × Int32 × wS) => JB r.2.2.2)) (g : JB s) : PK (wX10_trials_j130 qq x2 x3 k4 x5 x6 x7 x8 x9 x10 s) (fun (r : Int32 × Int32 × Int32 × wS) => JB r.2.2.2) := by
  unfold wX10_trials_j130
  exact hqq _ _ _ _ _ _ g
theorem wX10_trials_h71_J  {x2 : Int32} {x3 : Int32} {k4 : Nat} {x5 : Int32}   : ∀ (n : Nat) {x6 : Int32} {x7 : Int32} {x8 : Int32} {x9 : Int32} {x10 : Int32} {s : wS}, JB s → PK (wX10_trials_h71 x2 x3 k4 x5 n x6 x7 x8 x9 x10 s) (fun (r : Int32 × Int32 × Int32 × wS) => JB r.2.2.2) := by
  intro n
  induction n with
  | zero =>
    intro x6 x7 x8 x9 x10 s g
    rw [wX10_trials_h71]
    exact pk_none
  | succ n ih =>
    intro x6 x7 x8 x9 x10 s g
    rw [wX10_trials_h71]
    refine pk_ite (fun _ => ?_) (fun _ => ?_)
    · refine pk_bind pk_any (fun t14 _ => ?_)
      refine pk_bind pk_any (fun t16 _ => ?_)
      refine pk_bind (wX10_trial_J g) (fun p1 h2 => ?_)
      obtain ⟨t17, s18⟩ := p1
      have g3 : JB s18 := h2
      dsimp only
      refine pk_ite (fun _ => ?_) (fun _ => ?_)
      · exact wX10_trials_j130_J (fun _ _ _ _ _ _ g => ih g) g3
      · exact wX10_trials_j130_J (fun _ _ _ _ _ _ g => ih g) g3
    · exact pk_some g
theorem wX10_trials_J  {x1 : Int32} {x2 : Int32} {x3 : Int32} {s : wS}   (g : JB s) : PK (wX10_trials x1 x2 x3 s) (fun (r : Int32 × wS) => JB r.2) := by
  unfold wX10_trials
  refine pk_bind (wX10_lawInUse_J g) (fun p1 h2 => ?_)
  obtain ⟨o1, s2⟩ := p1
  have g3 : JB s2 := h2
  dsimp only
  refine pk_bind pk_any (fun t4 _ => ?_)
  refine pk_elim ?_ (fun k6 => ?_)
  · exact pk_some g3
  · refine pk_ite (fun _ => ?_) (fun _ => ?_)
    · refine pk_ite (fun _ => ?_) (fun _ => ?_)
      · exact pk_some g3
      · refine pk_ite (fun _ => ?_) (fun _ => ?_)
        · exact pk_some g3
        · refine pk_bind pk_any (fun t10 _ => ?_)
          refine pk_ite (fun _ => ?_) (fun _ => ?_)
          · refine pk_bind (wX10_trials_h71_J _ g3) (fun p4 h5 => ?_)
            obtain ⟨t22, t23, t24, s25⟩ := p4
            have g6 : JB s25 := h5
            dsimp only
            refine pk_ite (fun _ => ?_) (fun _ => ?_)
            · exact pk_some g6
            · refine pk_ite (fun _ => ?_) (fun _ => ?_)
              · exact pk_some g6
              · exact pk_some g6
          · exact pk_some g3
    · exact pk_some g3
theorem wX10_old_j96_J  {x2 : Int32} {x4 : Int32} {x6 : Int32} {y0 : Int32} {s : wS}   (g : JB s) : PK (wX10_old_j96 x2 x4 x6 y0 s) (fun (r : Int32 × wS) => JB r.2) := by
  unfold wX10_old_j96
  refine pk_ite (fun _ => ?_) (fun _ => ?_)
  · exact pk_some g
  · refine pk_ite (fun _ => ?_) (fun _ => ?_)
    · refine pk_bind pk_any (fun t26 _ => ?_)
      exact pk_some g
    · exact pk_some g
theorem wX10_old_J  {x1 : Int32} {x2 : Int32} {x3 : Int32} {x4 : Int32} {s : wS}   (g : JB s) : PK (wX10_old x1 x2 x3 x4 s) (fun (r : Int32 × wS) => JB r.2) := by
  unfold wX10_old
  refine pk_bind (wX10_lawInUse_J g) (fun p1 h2 => ?_)
  obtain ⟨o1, s2⟩ := p1
  have g3 : JB s2 := h2
  dsimp only
  refine pk_elim ?_ (fun k4 => ?_)
  · exact pk_some g3
  · refine pk_bind pk_any (fun t5 _ => ?_)
    refine pk_ite (fun _ => ?_) (fun _ => ?_)
    · refine pk_bind pk_any (fun t8 _ => ?_)
      refine pk_ite (fun _ => ?_) (fun _ => ?_)
      · refine pk_bind pk_any (fun t11 _ => ?_)
        refine pk_ite (fun _ => ?_) (fun _ => ?_)
        · refine pk_bind pk_any (fun t14 _ => ?_)
          refine pk_bind (wX10_countFalse_J g3) (fun s17 g4 => ?_)
          refine pk_bind pk_any (fun t19 _ => ?_)
          refine pk_bind pk_any (fun t21 _ => ?_)
          refine pk_ite (fun _ => ?_) (fun _ => ?_)
          · exact wX10_old_j96_J g4
          · exact wX10_old_j96_J g4
        · exact pk_some g3
      · exact pk_some g3
    · exact pk_some g3
