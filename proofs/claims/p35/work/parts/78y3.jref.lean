/-! The reference: a question leaves the tables right. -/
theorem wX11_push_J  {x1 : Int64} {s : wS}   (g : JB s) : PK (wX11_push x1 s) (fun (r : wS) => JB r) := by
  unfold wX11_push
  refine pk_bind (pk_stL (by decide) g) (fun s1 g1 => ?_)
  refine pk_bind (pk_pfI rfl g1) (fun s2 g2 => ?_)
  exact pk_some g2
theorem wX11_pop_J  {s : wS}   (g : JB s) : PK (wX11_pop s) (fun (r : Int64 × wS) => JB r.2) := by
  unfold wX11_pop
  refine pk_bind (pk_pfI rfl g) (fun s1 g1 => ?_)
  refine pk_bind pk_any (fun t2 _ => ?_)
  exact pk_some g1
theorem wX11_reckons_j129_J  {x1 : Int32} {x3 : Int32} {x4 : Int32} {s : wS} {qq : Int32 → wS → Option (wS)} (hqq : ∀ (v0 : Int32) (v1 : wS), JB v1 → PK (qq v0 v1) (fun (r : wS) => JB r)) (g : JB s) : PK (wX11_reckons_j129 qq x1 x3 x4 s) (fun (r : wS) => JB r) := by
  unfold wX11_reckons_j129
  exact hqq _ _ g
theorem wX11_reckons_h8_J  {x1 : Int32} {x3 : Int32}   : ∀ (n : Nat) {x4 : Int32} {s : wS}, JB s → PK (wX11_reckons_h8 x1 x3 n x4 s) (fun (r : wS) => JB r) := by
  intro n
  induction n with
  | zero =>
    intro x4 s g
    rw [wX11_reckons_h8]
    exact pk_none
  | succ n ih =>
    intro x4 s g
    rw [wX11_reckons_h8]
    refine pk_ite (fun _ => ?_) (fun _ => ?_)
    · refine pk_bind pk_any (fun t3 _ => ?_)
      refine pk_bind pk_any (fun t4 _ => ?_)
      refine pk_ite (fun _ => ?_) (fun _ => ?_)
      · refine pk_bind (wX11_push_J g) (fun s7 g1 => ?_)
        exact wX11_reckons_j129_J (fun _ _ g => ih g) g1
      · refine pk_ite (fun _ => ?_) (fun _ => ?_)
        · refine pk_bind pk_any (fun t10 _ => ?_)
          refine pk_bind (wX11_push_J g) (fun s12 g2 => ?_)
          exact wX11_reckons_j129_J (fun _ _ g => ih g) g2
        · refine pk_ite (fun _ => ?_) (fun _ => ?_)
          · refine pk_bind (wX11_pop_J g) (fun p3 h4 => ?_)
            obtain ⟨t15, s16⟩ := p3
            have g5 : JB s16 := h4
            dsimp only
            refine pk_bind (wX11_push_J g5) (fun s19 g6 => ?_)
            exact wX11_reckons_j129_J (fun _ _ g => ih g) g6
          · refine pk_bind (wX11_pop_J g) (fun p7 h8 => ?_)
            obtain ⟨t21, s22⟩ := p7
            have g9 : JB s22 := h8
            dsimp only
            refine pk_bind (wX11_pop_J g9) (fun p10 h11 => ?_)
            obtain ⟨t24, s25⟩ := p10
            have g12 : JB s25 := h11
            dsimp only
            refine pk_bind pk_any (fun t27 _ => ?_)
            refine pk_bind (wX11_push_J g12) (fun s30 g13 => ?_)
            exact wX11_reckons_j129_J (fun _ _ g => ih g) g13
    · exact pk_some g
theorem wX11_reckons_J  {x1 : Int32} {x2 : Int32} {x3 : Int32} {s : wS}   (g : JB s) : PK (wX11_reckons x1 x2 x3 s) (fun (r : Int64 × wS) => JB r.2) := by
  unfold wX11_reckons
  refine pk_bind (pk_pfI rfl g) (fun s1 g1 => ?_)
  refine pk_bind (wX11_reckons_h8_J _ g1) (fun s33 g2 => ?_)
  refine pk_bind (wX11_pop_J g2) (fun p3 h4 => ?_)
  obtain ⟨t44, s45⟩ := p3
  have g5 : JB s45 := h4
  dsimp only
  exact pk_some g5
theorem wX11_words_h3_J  {x1 : Int32} {x2 : Int32} {x3 : Int32}   : ∀ (n : Nat) {x4 : Int32} {s : wS}, JB s → PK (wX11_words_h3 x1 x2 x3 n x4 s) (fun (r : wS) => JB r) := by
  intro n
  induction n with
  | zero =>
    intro x4 s g
    rw [wX11_words_h3]
    exact pk_none
  | succ n ih =>
    intro x4 s g
    rw [wX11_words_h3]
    refine pk_ite (fun _ => ?_) (fun _ => ?_)
    · refine pk_bind (pk_stL (by decide) g) (fun s2 g1 => ?_)
      exact ih g1
    · exact pk_some g
theorem wX11_words_j221_J  {y1 : Int32} {y2 : Int64} {s : wS}   (g : JB s) : PK (wX11_words_j221 y1 y2 s) (fun (r : wS) => JB r) := by
  unfold wX11_words_j221
  refine pk_bind (pk_stL (by decide) g) (fun s33 g1 => ?_)
  exact pk_some g1
theorem wX11_words_j125_J  {x1 : Int32} {x2 : Int32} {x3 : Int32} {s : wS}   (g : JB s) : PK (wX11_words_j125 x1 x2 x3 s) (fun (r : wS) => JB r) := by
  unfold wX11_words_j125
  refine pk_ite (fun _ => ?_) (fun _ => ?_)
  · refine pk_bind pk_any (fun t23 _ => ?_)
    refine pk_bind (pk_stL (by decide) g) (fun s24 g1 => ?_)
    refine pk_bind pk_any (fun t25 _ => ?_)
    refine pk_bind pk_any (fun t26 _ => ?_)
    refine pk_bind pk_any (fun t27 _ => ?_)
    refine pk_bind (pk_stL (by decide) g1) (fun s29 g2 => ?_)
    refine pk_bind pk_any (fun t30 _ => ?_)
    refine pk_bind pk_any (fun t31 _ => ?_)
    refine pk_ite (fun _ => ?_) (fun _ => ?_)
    · exact wX11_words_j221_J g2
    · exact wX11_words_j221_J g2
  · exact pk_some g
theorem wX11_words_J  {x1 : Int32} {x2 : Int32} {x3 : Int32} {s : wS}   (g : JB s) : PK (wX11_words x1 x2 x3 s) (fun (r : wS) => JB r) := by
  unfold wX11_words
  refine pk_bind (wX11_words_h3_J _ g) (fun s4 g1 => ?_)
  refine pk_bind (pk_stL (by decide) g1) (fun s6 g2 => ?_)
  refine pk_bind (pk_stL (by decide) g2) (fun s7 g3 => ?_)
  refine pk_bind pk_any (fun t8 _ => ?_)
  refine pk_bind (pk_stL (by decide) g3) (fun s10 g4 => ?_)
  refine pk_ite (fun _ => ?_) (fun _ => ?_)
  · refine pk_bind pk_any (fun t12 _ => ?_)
    refine pk_bind pk_any (fun t13 _ => ?_)
    refine pk_bind pk_any (fun t14 _ => ?_)
    refine pk_bind (pk_stL (by decide) g4) (fun s16 g5 => ?_)
    refine pk_bind pk_any (fun t17 _ => ?_)
    refine pk_bind pk_any (fun t18 _ => ?_)
    refine pk_bind pk_any (fun t19 _ => ?_)
    refine pk_bind (pk_stL (by decide) g5) (fun s21 g6 => ?_)
    exact wX11_words_j125_J g6
  · exact wX11_words_j125_J g4
theorem wX11_farBy_j111_J  {x1 : Int32} {x2 : Int32} {x5 : Int32} {s : wS} {qq : Int32 → wS → Option ((wS) ⊕ (Int32 × wS))} (hqq : ∀ (v0 : Int32) (v1 : wS), JB v1 → PK (qq v0 v1) (Sum.elim (fun (r : wS) => JB r) (fun (r : Int32 × wS) => JB r.2))) (g : JB s) : PK (wX11_farBy_j111 qq x1 x2 x5 s) (Sum.elim (fun (r : wS) => JB r) (fun (r : Int32 × wS) => JB r.2)) := by
  unfold wX11_farBy_j111
  exact hqq _ _ g
theorem wX11_farBy_h11_J  {x1 : Int32} {x2 : Int32}   : ∀ (n : Nat) {x5 : Int32} {s : wS}, JB s → PK (wX11_farBy_h11 x1 x2 n x5 s) (Sum.elim (fun (r : wS) => JB r) (fun (r : Int32 × wS) => JB r.2)) := by
  intro n
  induction n with
  | zero =>
    intro x5 s g
    rw [wX11_farBy_h11]
    exact pk_none
  | succ n ih =>
    intro x5 s g
    rw [wX11_farBy_h11]
    refine pk_bind pk_any (fun t4 _ => ?_)
    refine pk_ite (fun _ => ?_) (fun _ => ?_)
    · refine pk_bind pk_any (fun t6 _ => ?_)
      refine pk_ite (fun _ => ?_) (fun _ => ?_)
      · refine pk_bind pk_any (fun t8 _ => ?_)
        refine pk_ite (fun _ => ?_) (fun _ => ?_)
        · exact pk_some g
        · refine pk_bind pk_any (fun t10 _ => ?_)
          refine pk_bind pk_any (fun t11 _ => ?_)
          refine pk_bind (wX11_reckons_J g) (fun p1 h2 => ?_)
          obtain ⟨t12, s13⟩ := p1
          have g3 : JB s13 := h2
          dsimp only
          refine pk_ite (fun _ => ?_) (fun _ => ?_)
          · exact wX11_farBy_j111_J (fun _ _ g => ih g) g3
          · exact pk_some g3
      · exact wX11_farBy_j111_J (fun _ _ g => ih g) g
    · exact pk_some g
theorem wX11_farBy_j87_J  {x1 : Int32} {x6 : Int32} {s : wS}   (g : JB s) : PK (wX11_farBy_j87 x1 x6 s) (fun (r : Int64 × wS) => JB r.2) := by
  unfold wX11_farBy_j87
  refine pk_bind pk_any (fun t31 _ => ?_)
  refine pk_bind pk_any (fun t32 _ => ?_)
  refine pk_bind (wX11_reckons_J g) (fun p1 h2 => ?_)
  obtain ⟨t33, s34⟩ := p1
  have g3 : JB s34 := h2
  dsimp only
  exact pk_some g3
theorem wX11_farBy_J  {x1 : Int32} {x2 : Int32} {x3 : Int32} {x4 : Int32} {s : wS}   (g : JB s) : PK (wX11_farBy x1 x2 x3 x4 s) (fun (r : Int64 × wS) => JB r.2) := by
  unfold wX11_farBy
  refine pk_bind (wX11_words_J g) (fun s2 g1 => ?_)
  refine pk_bind (wX11_farBy_h11_J _ g1) (fun z16 h2 => ?_)
  rcases z16 with s17 | ⟨t25, s26⟩
  · have g3 : JB s17 := h2
    dsimp only
    exact pk_some g3
  · have g4 : JB s26 := h2
    dsimp only
    exact wX11_farBy_j87_J g4
theorem wX11_far_J  {x1 : Int32} {x2 : Int32} {x3 : Int32} {x4 : Int32} {s : wS}   (g : JB s) : PK (wX11_far x1 x2 x3 x4 s) (fun (r : Int64 × wS) => JB r.2) := by
  unfold wX11_far
  refine pk_bind pk_any (fun t1 _ => ?_)
  refine pk_ite (fun _ => ?_) (fun _ => ?_)
  · exact pk_some g
  · refine pk_bind pk_any (fun t4 _ => ?_)
    refine pk_ite (fun _ => ?_) (fun _ => ?_)
    · exact pk_some g
    · refine pk_bind pk_any (fun t7 _ => ?_)
      refine pk_ite (fun _ => ?_) (fun _ => ?_)
      · exact pk_some g
      · refine pk_bind (wX11_farBy_J g) (fun p1 h2 => ?_)
        obtain ⟨t10, s11⟩ := p1
        have g3 : JB s11 := h2
        dsimp only
        exact pk_some g3
theorem wX11_reaches_h22_J  {x1 : Int32} {x2 : Int32} {x3 : Int32}   : ∀ (n : Nat) {x4 : Int32} {s : wS}, JB s → PK (wX11_reaches_h22 x1 x2 x3 n x4 s) (fun (r : wS) => JB r) := by
  intro n
  induction n with
  | zero =>
    intro x4 s g
    rw [wX11_reaches_h22]
    exact pk_none
  | succ n ih =>
    intro x4 s g
    rw [wX11_reaches_h22]
    refine pk_bind pk_any (fun t4 _ => ?_)
    refine pk_ite (fun _ => ?_) (fun _ => ?_)
    · refine pk_bind (wX11_farBy_J g) (fun p1 h2 => ?_)
      obtain ⟨t6, s7⟩ := p1
      have g3 : JB s7 := h2
      dsimp only
      refine pk_bind (pk_stL (by decide) g3) (fun s9 g4 => ?_)
      exact ih g4
    · exact pk_some g
theorem wX11_reaches_h9_J  {x1 : Int32} {x2 : Int32}   : ∀ (n : Nat) {x3 : Int32} {s : wS}, JB s → PK (wX11_reaches_h9 x1 x2 n x3 s) (fun (r : wS) => JB r) := by
  intro n
  induction n with
  | zero =>
    intro x3 s g
    rw [wX11_reaches_h9]
    exact pk_none
  | succ n ih =>
    intro x3 s g
    rw [wX11_reaches_h9]
    refine pk_bind pk_any (fun t2 _ => ?_)
    refine pk_ite (fun _ => ?_) (fun _ => ?_)
    · refine pk_bind (wX11_reaches_h22_J _ g) (fun s11 g1 => ?_)
      exact ih g1
    · exact pk_some g
theorem wX11_reaches_h2_J  {x1 : Int32}   : ∀ (n : Nat) {x2 : Int32} {s : wS}, JB s → PK (wX11_reaches_h2 x1 n x2 s) (fun (r : wS) => JB r) := by
  intro n
  induction n with
  | zero =>
    intro x2 s g
    rw [wX11_reaches_h2]
    exact pk_none
  | succ n ih =>
    intro x2 s g
    rw [wX11_reaches_h2]
    refine pk_ite (fun _ => ?_) (fun _ => ?_)
    · refine pk_bind (wX11_reaches_h9_J _ g) (fun s14 g1 => ?_)
      exact ih g1
    · exact pk_some g
theorem wX11_reaches_J  {x1 : Int32} {s : wS}   (g : JB s) : PK (wX11_reaches x1 s) (fun (r : wS) => JB r) := by
  unfold wX11_reaches
  refine pk_bind (wX11_reaches_h2_J _ g) (fun s18 g1 => ?_)
  exact pk_some g1
theorem wX11_keeps_j60_J  {x2 : Int32} {x3 : Int32} {x5 : Int32} {y0 : Int32} {y1 : Int32} {s : wS} {qq : Int32 → Int32 → wS → Option (Int32 × wS)} (hqq : ∀ (v0 : Int32) (v1 : Int32) (v2 : wS), JB v2 → PK (qq v0 v1 v2) (fun (r : Int32 × wS) => JB r.2)) (g : JB s) : PK (wX11_keeps_j60 qq x2 x3 x5 y0 y1 s) (fun (r : Int32 × wS) => JB r.2) := by
  unfold wX11_keeps_j60
  exact hqq _ _ _ g
theorem wX11_keeps_j42_J  {x2 : Int32} {x3 : Int32} {x4 : Int32} {x5 : Int32} {y1 : Int32} {y2 : Int32} {s : wS} {qq : Int32 → Int32 → wS → Option (Int32 × wS)} (hqq : ∀ (v0 : Int32) (v1 : Int32) (v2 : wS), JB v2 → PK (qq v0 v1 v2) (fun (r : Int32 × wS) => JB r.2)) (g : JB s) : PK (wX11_keeps_j42 qq x2 x3 x4 x5 y1 y2 s) (fun (r : Int32 × wS) => JB r.2) := by
  unfold wX11_keeps_j42
  refine pk_bind (pk_stZ (fun _ => rfl) g) (fun s10 g1 => ?_)
  refine pk_bind pk_any (fun t11 _ => ?_)
  refine pk_ite (fun _ => ?_) (fun _ => ?_)
  · exact wX11_keeps_j60_J hqq g1
  · exact wX11_keeps_j60_J hqq g1
theorem wX11_keeps_h11_J  {x2 : Int32} {x3 : Int32}   : ∀ (n : Nat) {x4 : Int32} {x5 : Int32} {s : wS}, JB s → PK (wX11_keeps_h11 x2 x3 n x4 x5 s) (fun (r : Int32 × wS) => JB r.2) := by
  intro n
  induction n with
  | zero =>
    intro x4 x5 s g
    rw [wX11_keeps_h11]
    exact pk_none
  | succ n ih =>
    intro x4 x5 s g
    rw [wX11_keeps_h11]
    refine pk_bind pk_any (fun t4 _ => ?_)
    refine pk_ite (fun _ => ?_) (fun _ => ?_)
    · refine pk_bind pk_any (fun t7 _ => ?_)
      refine pk_ite (fun _ => ?_) (fun _ => ?_)
      · exact wX11_keeps_j42_J (fun _ _ _ g => ih g) g
      · exact wX11_keeps_j42_J (fun _ _ _ g => ih g) g
    · exact pk_some g
theorem wX11_keeps_J  {x1 : Int32} {x2 : Int32} {x3 : Int32} {s : wS}   (g : JB s) : PK (wX11_keeps x1 x2 x3 s) (fun (r : Int32 × wS) => JB r.2) := by
  unfold wX11_keeps
  refine pk_bind (wX11_reaches_J g) (fun s2 g1 => ?_)
  refine pk_bind (wX11_keeps_h11_J _ g1) (fun p2 h3 => ?_)
  obtain ⟨t14, s15⟩ := p2
  have g4 : JB s15 := h3
  dsimp only
  exact pk_some g4
theorem wX11_holds_J  {x1 : Int32} {x2 : Int32} {x3 : Int32} {s : wS}   (g : JB s) : PK (wX11_holds x1 x2 x3 s) (fun (r : Int32 × wS) => JB r.2) := by
  unfold wX11_holds
  refine pk_bind pk_any (fun t1 _ => ?_)
  refine pk_ite (fun _ => ?_) (fun _ => ?_)
  · exact pk_some g
  · refine pk_bind pk_any (fun t4 _ => ?_)
    refine pk_ite (fun _ => ?_) (fun _ => ?_)
    · exact pk_some g
    · refine pk_bind pk_any (fun t7 _ => ?_)
      refine pk_ite (fun _ => ?_) (fun _ => ?_)
      · exact pk_some g
      · refine pk_bind (wX11_reaches_J g) (fun s11 g1 => ?_)
        refine pk_bind pk_any (fun t13 _ => ?_)
        refine pk_ite (fun _ => ?_) (fun _ => ?_)
        · exact pk_some g1
        · exact pk_some g1
theorem wX11_wrong_J  {x1 : Int32} {x2 : Int32} {s : wS}   (g : JB s) : PK (wX11_wrong x1 x2 s) (fun (r : Int32 × wS) => JB r.2) := by
  unfold wX11_wrong
  refine pk_bind pk_any (fun t1 _ => ?_)
  refine pk_ite (fun _ => ?_) (fun _ => ?_)
  · exact pk_some g
  · refine pk_bind pk_any (fun t4 _ => ?_)
    refine pk_ite (fun _ => ?_) (fun _ => ?_)
    · exact pk_some g
    · refine pk_bind (wX11_reaches_J g) (fun s8 g1 => ?_)
      refine pk_bind pk_any (fun t10 _ => ?_)
      exact pk_some g1
theorem wX11_kept_J  {x1 : Int32} {x2 : Int32} {s : wS}   (g : JB s) : PK (wX11_kept x1 x2 s) (fun (r : Int32 × wS) => JB r.2) := by
  unfold wX11_kept
  refine pk_bind pk_any (fun t1 _ => ?_)
  refine pk_ite (fun _ => ?_) (fun _ => ?_)
  · exact pk_some g
  · refine pk_bind pk_any (fun t4 _ => ?_)
    refine pk_ite (fun _ => ?_) (fun _ => ?_)
    · exact pk_some g
    · refine pk_bind (wX11_keeps_J g) (fun p1 h2 => ?_)
      obtain ⟨t7, s8⟩ := p1
      have g3 : JB s8 := h2
      dsimp only
      exact pk_some g3
theorem wX11_world_J  {x1 : Int32} {x2 : Int32} {x3 : Int32} {s : wS}   (g : JB s) : PK (wX11_world x1 x2 x3 s) (fun (r : Int32 × wS) => JB r.2) := by
  unfold wX11_world
  refine pk_bind pk_any (fun t1 _ => ?_)
  refine pk_ite (fun _ => ?_) (fun _ => ?_)
  · exact pk_some g
  · refine pk_bind pk_any (fun t4 _ => ?_)
    refine pk_ite (fun _ => ?_) (fun _ => ?_)
    · exact pk_some g
    · refine pk_ite (fun _ => ?_) (fun _ => ?_)
      · exact pk_some g
      · refine pk_bind (wX11_keeps_J g) (fun p1 h2 => ?_)
        obtain ⟨t8, s9⟩ := p1
        have g3 : JB s9 := h2
        dsimp only
        refine pk_bind pk_any (fun z17 h4 => ?_)
        rcases z17 with _u | t23
        · dsimp only
          exact pk_some g3
        · dsimp only
          exact pk_some g3
theorem wX11_may_J  {x1 : Int32} {x2 : Int32} {x3 : Int32} {x4 : Int32} {s : wS}   (g : JB s) : PK (wX11_may x1 x2 x3 x4 s) (fun (r : Int32 × wS) => JB r.2) := by
  unfold wX11_may
  refine pk_bind pk_any (fun t1 _ => ?_)
  refine pk_ite (fun _ => ?_) (fun _ => ?_)
  · exact pk_some g
  · refine pk_bind pk_any (fun t4 _ => ?_)
    refine pk_ite (fun _ => ?_) (fun _ => ?_)
    · exact pk_some g
    · refine pk_bind pk_any (fun t7 _ => ?_)
      refine pk_ite (fun _ => ?_) (fun _ => ?_)
      · exact pk_some g
      · refine pk_bind (wX11_keeps_J g) (fun p1 h2 => ?_)
        obtain ⟨t10, s11⟩ := p1
        have g3 : JB s11 := h2
        dsimp only
        refine pk_bind pk_any (fun t13 _ => ?_)
        exact pk_some g3
theorem wX11_cleared_J  {x1 : Int32} {x2 : Int32} {s : wS}   (g : JB s) : PK (wX11_cleared x1 x2 s) (fun (r : Int32 × wS) => JB r.2) := by
  unfold wX11_cleared
  refine pk_bind pk_any (fun t1 _ => ?_)
  refine pk_ite (fun _ => ?_) (fun _ => ?_)
  · exact pk_some g
  · refine pk_bind pk_any (fun t4 _ => ?_)
    refine pk_ite (fun _ => ?_) (fun _ => ?_)
    · exact pk_some g
    · refine pk_bind (wX11_keeps_J g) (fun p1 h2 => ?_)
      obtain ⟨t7, s8⟩ := p1
      have g3 : JB s8 := h2
      dsimp only
      refine pk_bind pk_any (fun t16 _ => ?_)
      exact pk_some g3
theorem wX11_finds_j85_J  {x2 : Int32} {y1 : Int32} {y2 : Int32} {s : wS} {qq : Int32 → wS → Option (wS)} (hqq : ∀ (v0 : Int32) (v1 : wS), JB v1 → PK (qq v0 v1) (fun (r : wS) => JB r)) (g : JB s) : PK (wX11_finds_j85 qq x2 y1 y2 s) (fun (r : wS) => JB r) := by
  unfold wX11_finds_j85
  refine pk_bind (pk_pfI rfl g) (fun s17 g1 => ?_)
  exact hqq _ _ g1
theorem wX11_finds_j67_J  {x2 : Int32} {x3 : Int32} {s : wS} {qq : Int32 → wS → Option (wS)} (hqq : ∀ (v0 : Int32) (v1 : wS), JB v1 → PK (qq v0 v1) (fun (r : wS) => JB r)) (g : JB s) : PK (wX11_finds_j67 qq x2 x3 s) (fun (r : wS) => JB r) := by
  unfold wX11_finds_j67
  refine pk_ite (fun _ => ?_) (fun _ => ?_)
  · exact wX11_finds_j85_J hqq g
  · exact wX11_finds_j85_J hqq g
theorem wX11_finds_j52_J  {x2 : Int32} {x3 : Int32} {s : wS} {qq : Int32 → wS → Option (wS)} (hqq : ∀ (v0 : Int32) (v1 : wS), JB v1 → PK (qq v0 v1) (fun (r : wS) => JB r)) (g : JB s) : PK (wX11_finds_j52 qq x2 x3 s) (fun (r : wS) => JB r) := by
  unfold wX11_finds_j52
  refine pk_bind (pk_pfI rfl g) (fun s13 g1 => ?_)
  refine pk_bind (pk_pfI rfl g1) (fun s14 g2 => ?_)
  refine pk_bind (pk_pfI rfl g2) (fun s15 g3 => ?_)
  exact wX11_finds_j67_J hqq g3
theorem wX11_finds_h22_J     : ∀ (n : Nat) {x2 : Int32} {s : wS}, JB s → PK (wX11_finds_h22 n x2 s) (fun (r : wS) => JB r) := by
  intro n
  induction n with
  | zero =>
    intro x2 s g
    rw [wX11_finds_h22]
    exact pk_none
  | succ n ih =>
    intro x2 s g
    rw [wX11_finds_h22]
    refine pk_bind pk_any (fun t7 _ => ?_)
    refine pk_ite (fun _ => ?_) (fun _ => ?_)
    · refine pk_bind pk_any (fun t10 _ => ?_)
      refine pk_ite (fun _ => ?_) (fun _ => ?_)
      · exact wX11_finds_j52_J (fun _ _ g => ih g) g
      · refine pk_ite (fun _ => ?_) (fun _ => ?_)
        · exact wX11_finds_j52_J (fun _ _ g => ih g) g
        · exact wX11_finds_j67_J (fun _ _ g => ih g) g
    · exact pk_some g
theorem wX11_finds_J  {x1 : Int32} {s : wS}   (g : JB s) : PK (wX11_finds x1 s) (fun (r : wS) => JB r) := by
  unfold wX11_finds
  refine pk_bind (wX11_reaches_J g) (fun s2 g1 => ?_)
  refine pk_bind (pk_pfI rfl g1) (fun s4 g2 => ?_)
  refine pk_bind (pk_pfI rfl g2) (fun s5 g3 => ?_)
  refine pk_bind (pk_pfI rfl g3) (fun s6 g4 => ?_)
  refine pk_bind (wX11_finds_h22_J _ g4) (fun s20 g5 => ?_)
  exact pk_some g5
theorem wX11_fewest_J  {x1 : Int32} {x2 : Int32} {s : wS}   (g : JB s) : PK (wX11_fewest x1 x2 s) (fun (r : Int32 × wS) => JB r.2) := by
  unfold wX11_fewest
  refine pk_bind pk_any (fun t1 _ => ?_)
  refine pk_ite (fun _ => ?_) (fun _ => ?_)
  · exact pk_some g
  · refine pk_bind pk_any (fun t4 _ => ?_)
    refine pk_ite (fun _ => ?_) (fun _ => ?_)
    · exact pk_some g
    · refine pk_bind (wX11_finds_J g) (fun s8 g1 => ?_)
      refine pk_ite (fun _ => ?_) (fun _ => ?_)
      · exact pk_some g1
      · refine pk_ite (fun _ => ?_) (fun _ => ?_)
        · exact pk_some g1
        · exact pk_some g1
theorem wX11_falseOnes_J  {x1 : Int32} {s : wS}   (g : JB s) : PK (wX11_falseOnes x1 s) (fun (r : Int64 × wS) => JB r.2) := by
  unfold wX11_falseOnes
  refine pk_bind pk_any (fun t1 _ => ?_)
  refine pk_ite (fun _ => ?_) (fun _ => ?_)
  · exact pk_some g
  · refine pk_bind (wX11_finds_J g) (fun s5 g1 => ?_)
    refine pk_bind pk_any (fun t16 _ => ?_)
    exact pk_some g1
theorem wX11_liars_J  {x1 : Int32} {s : wS}   (g : JB s) : PK (wX11_liars x1 s) (fun (r : Int32 × wS) => JB r.2) := by
  unfold wX11_liars
  refine pk_bind pk_any (fun t1 _ => ?_)
  refine pk_ite (fun _ => ?_) (fun _ => ?_)
  · exact pk_some g
  · refine pk_bind (wX11_reaches_J g) (fun s5 g1 => ?_)
    refine pk_bind pk_any (fun t37 _ => ?_)
    exact pk_some g1
theorem wX11_quarrel_J  {x1 : Int32} {s : wS}   (g : JB s) : PK (wX11_quarrel x1 s) (fun (r : Int32 × wS) => JB r.2) := by
  unfold wX11_quarrel
  refine pk_bind pk_any (fun t1 _ => ?_)
  refine pk_ite (fun _ => ?_) (fun _ => ?_)
  · exact pk_some g
  · refine pk_bind (wX11_reaches_J g) (fun s5 g1 => ?_)
    refine pk_bind pk_any (fun z25 h2 => ?_)
    rcases z25 with _u | ⟨t29, t30⟩
    · dsimp only
      exact pk_some g1
    · dsimp only
      exact pk_some g1
theorem wX11_twelve_h4_J  {x1 : Int32}   : ∀ (n : Nat) {x2 : Int32} {s : wS}, JB s → PK (wX11_twelve_h4 x1 n x2 s) (fun (r : wS) => JB r) := by
  intro n
  induction n with
  | zero =>
    intro x2 s g
    rw [wX11_twelve_h4]
    exact pk_none
  | succ n ih =>
    intro x2 s g
    rw [wX11_twelve_h4]
    refine pk_bind pk_any (fun t1 _ => ?_)
    refine pk_ite (fun _ => ?_) (fun _ => ?_)
    · refine pk_bind (pk_stI (fun _ => rfl) g) (fun s4 g1 => ?_)
      exact ih g1
    · exact pk_some g
theorem wX11_twelve_j98_J  {x1 : Int32} {x2 : Int32} {s : wS} {qq : Int32 → Int32 → wS → Option (Int32 × wS)} (hqq : ∀ (v0 : Int32) (v1 : Int32) (v2 : wS), JB v2 → PK (qq v0 v1 v2) (fun (r : Int32 × wS) => JB r.2)) (g : JB s) : PK (wX11_twelve_j98 qq x1 x2 s) (fun (r : Int32 × wS) => JB r.2) := by
  unfold wX11_twelve_j98
  exact hqq _ _ _ g
theorem wX11_twelve_j87_J  {x1 : Int32} {x2 : Int32} {x3 : Int32} {y1 : Int32} {y2 : Int32} {y3 : Int32} {s : wS} {qq : Int32 → wS → Option (wS)} (hqq : ∀ (v0 : Int32) (v1 : wS), JB v1 → PK (qq v0 v1) (fun (r : wS) => JB r)) (g : JB s) : PK (wX11_twelve_j87 qq x1 x2 x3 y1 y2 y3 s) (fun (r : wS) => JB r) := by
  unfold wX11_twelve_j87
  refine pk_bind (pk_stI (fun _ => rfl) g) (fun s22 g1 => ?_)
  exact hqq _ _ g1
theorem wX11_twelve_h56_J  {x1 : Int32} {x2 : Int32}   : ∀ (n : Nat) {x3 : Int32} {s : wS}, JB s → PK (wX11_twelve_h56 x1 x2 n x3 s) (fun (r : wS) => JB r) := by
  intro n
  induction n with
  | zero =>
    intro x3 s g
    rw [wX11_twelve_h56]
    exact pk_none
  | succ n ih =>
    intro x3 s g
    rw [wX11_twelve_h56]
    refine pk_bind pk_any (fun t15 _ => ?_)
    refine pk_ite (fun _ => ?_) (fun _ => ?_)
    · refine pk_bind pk_any (fun t18 _ => ?_)
      refine pk_bind pk_any (fun t19 _ => ?_)
      refine pk_ite (fun _ => ?_) (fun _ => ?_)
      · exact wX11_twelve_j87_J (fun _ _ g => ih g) g
      · exact wX11_twelve_j87_J (fun _ _ g => ih g) g
    · exact pk_some g
theorem wX11_twelve_h27_J     : ∀ (n : Nat) {x1 : Int32} {x2 : Int32} {s : wS}, JB s → PK (wX11_twelve_h27 n x1 x2 s) (fun (r : Int32 × wS) => JB r.2) := by
  intro n
  induction n with
  | zero =>
    intro x1 x2 s g
    rw [wX11_twelve_h27]
    exact pk_none
  | succ n ih =>
    intro x1 x2 s g
    rw [wX11_twelve_h27]
    refine pk_ite (fun _ => ?_) (fun _ => ?_)
    · refine pk_ite (fun _ => ?_) (fun _ => ?_)
      · refine pk_bind pk_any (fun t12 _ => ?_)
        refine pk_ite (fun _ => ?_) (fun _ => ?_)
        · exact wX11_twelve_j98_J (fun _ _ _ g => ih g) g
        · refine pk_bind (wX11_twelve_h56_J _ g) (fun s24 g1 => ?_)
          exact wX11_twelve_j98_J (fun _ _ _ g => ih g) g1
      · exact pk_some g
    · exact pk_some g
theorem wX11_twelve_J  {s : wS}   (g : JB s) : PK (wX11_twelve s) (fun (r : Int32 × wS) => JB r.2) := by
  unfold wX11_twelve
  refine pk_bind (wX11_twelve_h4_J _ g) (fun s6 g1 => ?_)
  refine pk_bind (wX11_twelve_h27_J _ g1) (fun p2 h3 => ?_)
  obtain ⟨t27, s28⟩ := p2
  have g4 : JB s28 := h3
  dsimp only
  exact pk_some g4
theorem wX11_proof_J  {x1 : Int32} {x2 : Int32} {s : wS}   (g : JB s) : PK (wX11_proof x1 x2 s) (fun (r : Int32 × wS) => JB r.2) := by
  unfold wX11_proof
  refine pk_bind pk_any (fun t1 _ => ?_)
  refine pk_ite (fun _ => ?_) (fun _ => ?_)
  · exact pk_some g
  · refine pk_bind pk_any (fun t4 _ => ?_)
    refine pk_ite (fun _ => ?_) (fun _ => ?_)
    · exact pk_some g
    · refine pk_bind (wX11_reaches_J g) (fun s8 g1 => ?_)
      refine pk_bind (wX11_twelve_J g1) (fun p2 h3 => ?_)
      obtain ⟨t10, s11⟩ := p2
      have g4 : JB s11 := h3
      dsimp only
      refine pk_bind pk_any (fun t24 _ => ?_)
      exact pk_some g4
theorem wX11_byLaws_h47_J  {x1 : Int32} {x2 : Int32} {x3 : Int32}   : ∀ (n : Nat) {x4 : Int32} {s : wS}, JB s → PK (wX11_byLaws_h47 x1 x2 x3 n x4 s) (fun (r : wS) => JB r) := by
  intro n
  induction n with
  | zero =>
    intro x4 s g
    rw [wX11_byLaws_h47]
    exact pk_none
  | succ n ih =>
    intro x4 s g
    rw [wX11_byLaws_h47]
    refine pk_bind pk_any (fun t13 _ => ?_)
    refine pk_ite (fun _ => ?_) (fun _ => ?_)
    · refine pk_bind (pk_stI (fun _ => rfl) g) (fun s16 g1 => ?_)
      exact ih g1
    · exact pk_some g
theorem wX11_byLaws_j146_J  {x1 : Int32} {x2 : Int32} {x3 : Int32} {x4 : Int32} {s : wS} {qq : Int32 → wS → Option (wS)} (hqq : ∀ (v0 : Int32) (v1 : wS), JB v1 → PK (qq v0 v1) (fun (r : wS) => JB r)) (g : JB s) : PK (wX11_byLaws_j146 qq x1 x2 x3 x4 s) (fun (r : wS) => JB r) := by
  unfold wX11_byLaws_j146
  exact hqq _ _ g
theorem wX11_byLaws_j138_J  {x1 : Int32} {x2 : Int32} {x3 : Int32} {x4 : Int32} {x5 : Int32} {y1 : Int32} {y2 : Int32} {y3 : Int32} {s : wS} {qq : Int32 → wS → Option (wS)} (hqq : ∀ (v0 : Int32) (v1 : wS), JB v1 → PK (qq v0 v1) (fun (r : wS) => JB r)) (g : JB s) : PK (wX11_byLaws_j138 qq x1 x2 x3 x4 x5 y1 y2 y3 s) (fun (r : wS) => JB r) := by
  unfold wX11_byLaws_j138
  refine pk_bind (pk_stI (fun _ => rfl) g) (fun s32 g1 => ?_)
  exact hqq _ _ g1
theorem wX11_byLaws_h106_J  {x1 : Int32} {x2 : Int32} {x3 : Int32} {x4 : Int32}   : ∀ (n : Nat) {x5 : Int32} {s : wS}, JB s → PK (wX11_byLaws_h106 x1 x2 x3 x4 n x5 s) (fun (r : wS) => JB r) := by
  intro n
  induction n with
  | zero =>
    intro x5 s g
    rw [wX11_byLaws_h106]
    exact pk_none
  | succ n ih =>
    intro x5 s g
    rw [wX11_byLaws_h106]
    refine pk_bind pk_any (fun t26 _ => ?_)
    refine pk_ite (fun _ => ?_) (fun _ => ?_)
    · refine pk_bind pk_any (fun t29 _ => ?_)
      refine pk_bind pk_any (fun t30 _ => ?_)
      refine pk_ite (fun _ => ?_) (fun _ => ?_)
      · exact wX11_byLaws_j138_J (fun _ _ g => ih g) g
      · exact wX11_byLaws_j138_J (fun _ _ g => ih g) g
    · exact pk_some g
theorem wX11_byLaws_h73_J  {x1 : Int32} {x2 : Int32} {x3 : Int32}   : ∀ (n : Nat) {x4 : Int32} {s : wS}, JB s → PK (wX11_byLaws_h73 x1 x2 x3 n x4 s) (fun (r : wS) => JB r) := by
  intro n
  induction n with
  | zero =>
    intro x4 s g
    rw [wX11_byLaws_h73]
    exact pk_none
  | succ n ih =>
    intro x4 s g
    rw [wX11_byLaws_h73]
    refine pk_ite (fun _ => ?_) (fun _ => ?_)
    · refine pk_ite (fun _ => ?_) (fun _ => ?_)
      · exact wX11_byLaws_j146_J (fun _ _ g => ih g) g
      · refine pk_bind (wX11_keeps_J g) (fun p1 h2 => ?_)
        obtain ⟨t23, s24⟩ := p1
        have g3 : JB s24 := h2
        dsimp only
        refine pk_bind (wX11_byLaws_h106_J _ g3) (fun s34 g4 => ?_)
        exact wX11_byLaws_j146_J (fun _ _ g => ih g) g4
    · exact pk_some g
theorem wX11_byLaws_J  {x1 : Int32} {x2 : Int32} {x3 : Int32} {s : wS}   (g : JB s) : PK (wX11_byLaws x1 x2 x3 s) (fun (r : Int32 × wS) => JB r.2) := by
  unfold wX11_byLaws
  refine pk_bind pk_any (fun t1 _ => ?_)
  refine pk_ite (fun _ => ?_) (fun _ => ?_)
  · exact pk_some g
  · refine pk_bind pk_any (fun t4 _ => ?_)
    refine pk_ite (fun _ => ?_) (fun _ => ?_)
    · exact pk_some g
    · refine pk_bind pk_any (fun t7 _ => ?_)
      refine pk_ite (fun _ => ?_) (fun _ => ?_)
      · exact pk_some g
      · refine pk_bind pk_any (fun t10 _ => ?_)
        refine pk_ite (fun _ => ?_) (fun _ => ?_)
        · exact pk_some g
        · refine pk_bind (wX11_byLaws_h47_J _ g) (fun s18 g1 => ?_)
          refine pk_bind (wX11_byLaws_h73_J _ g1) (fun s37 g2 => ?_)
          refine pk_bind pk_any (fun t50 _ => ?_)
          exact pk_some g2
theorem wX11_looks_J  {x1 : Int32} {x2 : Int32} {x3 : Int32} {s : wS}   (g : JB s) : PK (wX11_looks x1 x2 x3 s) (fun (r : Int32 × wS) => JB r.2) := by
  unfold wX11_looks
  refine pk_bind pk_any (fun t1 _ => ?_)
  refine pk_ite (fun _ => ?_) (fun _ => ?_)
  · exact pk_some g
  · refine pk_bind pk_any (fun t4 _ => ?_)
    refine pk_ite (fun _ => ?_) (fun _ => ?_)
    · exact pk_some g
    · refine pk_bind pk_any (fun t7 _ => ?_)
      refine pk_ite (fun _ => ?_) (fun _ => ?_)
      · exact pk_some g
      · refine pk_bind (wX11_keeps_J g) (fun p1 h2 => ?_)
        obtain ⟨t10, s11⟩ := p1
        have g3 : JB s11 := h2
        dsimp only
        refine pk_bind pk_any (fun t22 _ => ?_)
        exact pk_some g3
theorem wX11_sure_J  {x1 : Int32} {x2 : Int32} {x3 : Int32} {s : wS}   (g : JB s) : PK (wX11_sure x1 x2 x3 s) (fun (r : Int32 × wS) => JB r.2) := by
  unfold wX11_sure
  refine pk_bind pk_any (fun t1 _ => ?_)
  refine pk_ite (fun _ => ?_) (fun _ => ?_)
  · exact pk_some g
  · refine pk_bind pk_any (fun t4 _ => ?_)
    refine pk_ite (fun _ => ?_) (fun _ => ?_)
    · exact pk_some g
    · refine pk_bind pk_any (fun t7 _ => ?_)
      refine pk_ite (fun _ => ?_) (fun _ => ?_)
      · exact pk_some g
      · refine pk_bind (wX11_keeps_J g) (fun p1 h2 => ?_)
        obtain ⟨t10, s11⟩ := p1
        have g3 : JB s11 := h2
        dsimp only
        refine pk_bind pk_any (fun z19 h4 => ?_)
        rcases z19 with _u | t25
        · dsimp only
          exact pk_some g3
        · dsimp only
          exact pk_some g3
theorem wX11_alone_J  {x1 : Int32} {x2 : Int32} {s : wS}   (g : JB s) : PK (wX11_alone x1 x2 s) (fun (r : Int32 × wS) => JB r.2) := by
  unfold wX11_alone
  refine pk_bind pk_any (fun t1 _ => ?_)
  refine pk_ite (fun _ => ?_) (fun _ => ?_)
  · exact pk_some g
  · refine pk_bind pk_any (fun t4 _ => ?_)
    refine pk_ite (fun _ => ?_) (fun _ => ?_)
    · exact pk_some g
    · refine pk_bind (wX11_reaches_J g) (fun s8 g1 => ?_)
      refine pk_bind pk_any (fun t31 _ => ?_)
      exact pk_some g1
theorem wX11_mean_J  {x1 : Int32} {x2 : Int32} {x3 : Int32} {s : wS}   (g : JB s) : PK (wX11_mean x1 x2 x3 s) (fun (r : Int32 × wS) => JB r.2) := by
  unfold wX11_mean
  refine pk_bind pk_any (fun t1 _ => ?_)
  refine pk_ite (fun _ => ?_) (fun _ => ?_)
  · exact pk_some g
  · refine pk_bind pk_any (fun t4 _ => ?_)
    refine pk_ite (fun _ => ?_) (fun _ => ?_)
    · exact pk_some g
    · refine pk_bind pk_any (fun t7 _ => ?_)
      refine pk_ite (fun _ => ?_) (fun _ => ?_)
      · exact pk_some g
      · refine pk_bind (wX11_keeps_J g) (fun p1 h2 => ?_)
        obtain ⟨t10, s11⟩ := p1
        have g3 : JB s11 := h2
        dsimp only
        refine pk_bind pk_any (fun t22 _ => ?_)
        refine pk_ite (fun _ => ?_) (fun _ => ?_)
        · exact pk_some g3
        · refine pk_bind pk_any (fun t28 _ => ?_)
          exact pk_some g3
theorem wX11_gathers_h28_J  {x1 : Int32} {x2 : Int32}   : ∀ (n : Nat) {x3 : Int32} {s : wS}, JB s → PK (wX11_gathers_h28 x1 x2 n x3 s) (fun (r : wS) => JB r) := by
  intro n
  induction n with
  | zero =>
    intro x3 s g
    rw [wX11_gathers_h28]
    exact pk_none
  | succ n ih =>
    intro x3 s g
    rw [wX11_gathers_h28]
    refine pk_bind pk_any (fun t5 _ => ?_)
    refine pk_ite (fun _ => ?_) (fun _ => ?_)
    · refine pk_bind (pk_stI (fun _ => rfl) g) (fun s7 g1 => ?_)
      refine pk_bind (pk_stI (fun _ => rfl) g1) (fun s8 g2 => ?_)
      refine pk_bind (pk_stI (fun _ => rfl) g2) (fun s9 g3 => ?_)
      refine pk_bind (pk_pfI rfl g3) (fun s10 g4 => ?_)
      exact ih g4
    · exact pk_some g
theorem wX11_gathers_h14_J  {x1 : Int32}   : ∀ (n : Nat) {x2 : Int32} {s : wS}, JB s → PK (wX11_gathers_h14 x1 n x2 s) (fun (r : wS) => JB r) := by
  intro n
  induction n with
  | zero =>
    intro x2 s g
    rw [wX11_gathers_h14]
    exact pk_none
  | succ n ih =>
    intro x2 s g
    rw [wX11_gathers_h14]
    refine pk_bind pk_any (fun t3 _ => ?_)
    refine pk_ite (fun _ => ?_) (fun _ => ?_)
    · refine pk_bind (wX11_gathers_h28_J _ g) (fun s12 g1 => ?_)
      exact ih g1
    · exact pk_some g
theorem wX11_gathers_h7_J     : ∀ (n : Nat) {x1 : Int32} {s : wS}, JB s → PK (wX11_gathers_h7 n x1 s) (fun (r : wS) => JB r) := by
  intro n
  induction n with
  | zero =>
    intro x1 s g
    rw [wX11_gathers_h7]
    exact pk_none
  | succ n ih =>
    intro x1 s g
    rw [wX11_gathers_h7]
    refine pk_ite (fun _ => ?_) (fun _ => ?_)
    · refine pk_bind (wX11_gathers_h14_J _ g) (fun s15 g1 => ?_)
      exact ih g1
    · exact pk_some g
theorem wX11_gathers_J  {s : wS}   (g : JB s) : PK (wX11_gathers s) (fun (r : wS) => JB r) := by
  unfold wX11_gathers
  refine pk_bind (pk_pfI rfl g) (fun s1 g1 => ?_)
  refine pk_bind (wX11_gathers_h7_J _ g1) (fun s19 g2 => ?_)
  exact pk_some g2
theorem wX11_asks_j80_J  {x1 : Int32} {x2 : Int32} {s : wS} {qq : Int32 → wS → Option (wS)} (hqq : ∀ (v0 : Int32) (v1 : wS), JB v1 → PK (qq v0 v1) (fun (r : wS) => JB r)) (g : JB s) : PK (wX11_asks_j80 qq x1 x2 s) (fun (r : wS) => JB r) := by
  unfold wX11_asks_j80
  exact hqq _ _ g
theorem wX11_asks_j76_J  {x1 : Int32} {x2 : Int32} {y1 : Int32} {y2 : Int32} {s : wS} {qq : Int32 → wS → Option (wS)} (hqq : ∀ (v0 : Int32) (v1 : wS), JB v1 → PK (qq v0 v1) (fun (r : wS) => JB r)) (g : JB s) : PK (wX11_asks_j76 qq x1 x2 y1 y2 s) (fun (r : wS) => JB r) := by
  unfold wX11_asks_j76
  refine pk_bind (pk_pfI rfl g) (fun s15 g1 => ?_)
  exact wX11_asks_j80_J hqq g1
theorem wX11_asks_j52_J  {x1 : Int32} {x2 : Int32} {y1 : Int32} {y2 : Int32} {s : wS} {qq : Int32 → wS → Option (wS)} (hqq : ∀ (v0 : Int32) (v1 : wS), JB v1 → PK (qq v0 v1) (fun (r : wS) => JB r)) (g : JB s) : PK (wX11_asks_j52 qq x1 x2 y1 y2 s) (fun (r : wS) => JB r) := by
  unfold wX11_asks_j52
  refine pk_bind (pk_pfI rfl g) (fun s11 g1 => ?_)
  refine pk_bind pk_any (fun t12 _ => ?_)
  refine pk_ite (fun _ => ?_) (fun _ => ?_)
  · exact wX11_asks_j76_J hqq g1
  · exact wX11_asks_j76_J hqq g1
theorem wX11_asks_h12_J  {x1 : Int32}   : ∀ (n : Nat) {x2 : Int32} {s : wS}, JB s → PK (wX11_asks_h12 x1 n x2 s) (fun (r : wS) => JB r) := by
  intro n
  induction n with
  | zero =>
    intro x2 s g
    rw [wX11_asks_h12]
    exact pk_none
  | succ n ih =>
    intro x2 s g
    rw [wX11_asks_h12]
    refine pk_bind pk_any (fun t3 _ => ?_)
    refine pk_ite (fun _ => ?_) (fun _ => ?_)
    · refine pk_bind pk_any (fun t6 _ => ?_)
      refine pk_ite (fun _ => ?_) (fun _ => ?_)
      · exact wX11_asks_j80_J (fun _ _ g => ih g) g
      · refine pk_bind pk_any (fun t8 _ => ?_)
        refine pk_ite (fun _ => ?_) (fun _ => ?_)
        · exact wX11_asks_j52_J (fun _ _ g => ih g) g
        · exact wX11_asks_j52_J (fun _ _ g => ih g) g
    · exact pk_some g
theorem wX11_asks_J  {x1 : Int32} {s : wS}   (g : JB s) : PK (wX11_asks x1 s) (fun (r : wS) => JB r) := by
  unfold wX11_asks
  refine pk_bind (pk_pfI rfl g) (fun s1 g1 => ?_)
  refine pk_bind (pk_pfI rfl g1) (fun s2 g2 => ?_)
  refine pk_bind (wX11_asks_h12_J _ g2) (fun s17 g3 => ?_)
  exact pk_some g3
theorem wX11_asksNext_j90_J  {x1 : Int32} {x2 : Int32} {x3 : Int64} {x5 : Int32} {s : wS} {qq : Int32 → Int64 → Int32 → wS → Option (Int32 × wS)} (hqq : ∀ (v0 : Int32) (v1 : Int64) (v2 : Int32) (v3 : wS), JB v3 → PK (qq v0 v1 v2 v3) (fun (r : Int32 × wS) => JB r.2)) (g : JB s) : PK (wX11_asksNext_j90 qq x1 x2 x3 x5 s) (fun (r : Int32 × wS) => JB r.2) := by
  unfold wX11_asksNext_j90
  exact hqq _ _ _ _ g
theorem wX11_asksNext_j84_J  {x1 : Int32} {x5 : Int32} {x6 : Int64} {s : wS} {qq : Int32 → Int64 → Int32 → wS → Option (Int32 × wS)} (hqq : ∀ (v0 : Int32) (v1 : Int64) (v2 : Int32) (v3 : wS), JB v3 → PK (qq v0 v1 v2 v3) (fun (r : Int32 × wS) => JB r.2)) (g : JB s) : PK (wX11_asksNext_j84 qq x1 x5 x6 s) (fun (r : Int32 × wS) => JB r.2) := by
  unfold wX11_asksNext_j84
  exact wX11_asksNext_j90_J hqq g
theorem wX11_asksNext_j68_J  {x1 : Int32} {x2 : Int32} {x3 : Int64} {x5 : Int32} {y0 : Int64} {s : wS} {qq : Int32 → Int64 → Int32 → wS → Option (Int32 × wS)} (hqq : ∀ (v0 : Int32) (v1 : Int64) (v2 : Int32) (v3 : wS), JB v3 → PK (qq v0 v1 v2 v3) (fun (r : Int32 × wS) => JB r.2)) (g : JB s) : PK (wX11_asksNext_j68 qq x1 x2 x3 x5 y0 s) (fun (r : Int32 × wS) => JB r.2) := by
  unfold wX11_asksNext_j68
  refine pk_ite (fun _ => ?_) (fun _ => ?_)
  · exact wX11_asksNext_j84_J hqq g
  · refine pk_ite (fun _ => ?_) (fun _ => ?_)
    · exact wX11_asksNext_j84_J hqq g
    · exact wX11_asksNext_j90_J hqq g
theorem wX11_asksNext_h11_J  {x1 : Int32}   : ∀ (n : Nat) {x2 : Int32} {x3 : Int64} {x5 : Int32} {s : wS}, JB s → PK (wX11_asksNext_h11 x1 n x2 x3 x5 s) (fun (r : Int32 × wS) => JB r.2) := by
  intro n
  induction n with
  | zero =>
    intro x2 x3 x5 s g
    rw [wX11_asksNext_h11]
    exact pk_none
  | succ n ih =>
    intro x2 x3 x5 s g
    rw [wX11_asksNext_h11]
    refine pk_ite (fun _ => ?_) (fun _ => ?_)
    · refine pk_bind (wX11_asks_J g) (fun s6 g1 => ?_)
      refine pk_ite (fun _ => ?_) (fun _ => ?_)
      · refine pk_bind pk_any (fun t9 _ => ?_)
        exact wX11_asksNext_j68_J (fun _ _ _ _ g => ih g) g1
      · exact wX11_asksNext_j68_J (fun _ _ _ _ g => ih g) g1
    · exact pk_some g
theorem wX11_asksNext_J  {x1 : Int32} {s : wS}   (g : JB s) : PK (wX11_asksNext x1 s) (fun (r : Int32 × wS) => JB r.2) := by
  unfold wX11_asksNext
  refine pk_bind (wX11_gathers_J g) (fun s2 g1 => ?_)
  refine pk_bind (wX11_asksNext_h11_J _ g1) (fun p2 h3 => ?_)
  obtain ⟨t14, s15⟩ := p2
  have g4 : JB s15 := h3
  dsimp only
  refine pk_ite (fun _ => ?_) (fun _ => ?_)
  · exact pk_some g4
  · refine pk_bind (wX11_asks_J g4) (fun s23 g5 => ?_)
    exact pk_some g5
theorem wX11_useful_j112_J  {x4 : Int32} {x6 : Int32} {y0 : Int32} {y1 : Int32} {s : wS} {qq : Int32 → Int32 → wS → Option (Int32 × wS)} (hqq : ∀ (v0 : Int32) (v1 : Int32) (v2 : wS), JB v2 → PK (qq v0 v1 v2) (fun (r : Int32 × wS) => JB r.2)) (g : JB s) : PK (wX11_useful_j112 qq x4 x6 y0 y1 s) (fun (r : Int32 × wS) => JB r.2) := by
  unfold wX11_useful_j112
  exact hqq _ _ _ g
theorem wX11_useful_h74_J  {x4 : Int32}   : ∀ (n : Nat) {x5 : Int32} {x6 : Int32} {s : wS}, JB s → PK (wX11_useful_h74 x4 n x5 x6 s) (fun (r : Int32 × wS) => JB r.2) := by
  intro n
  induction n with
  | zero =>
    intro x5 x6 s g
    rw [wX11_useful_h74]
    exact pk_none
  | succ n ih =>
    intro x5 x6 s g
    rw [wX11_useful_h74]
    refine pk_ite (fun _ => ?_) (fun _ => ?_)
    · refine pk_bind (wX11_asks_J g) (fun s28 g1 => ?_)
      refine pk_bind pk_any (fun t30 _ => ?_)
      refine pk_ite (fun _ => ?_) (fun _ => ?_)
      · exact wX11_useful_j112_J (fun _ _ _ g => ih g) g1
      · exact wX11_useful_j112_J (fun _ _ _ g => ih g) g1
    · exact pk_some g
theorem wX11_useful_J  {x1 : Int32} {x2 : Int32} {x3 : Int32} {s : wS}   (g : JB s) : PK (wX11_useful x1 x2 x3 s) (fun (r : Int32 × wS) => JB r.2) := by
  unfold wX11_useful
  refine pk_bind pk_any (fun t1 _ => ?_)
  refine pk_ite (fun _ => ?_) (fun _ => ?_)
  · exact pk_some g
  · refine pk_bind pk_any (fun t4 _ => ?_)
    refine pk_ite (fun _ => ?_) (fun _ => ?_)
    · exact pk_some g
    · refine pk_bind pk_any (fun t7 _ => ?_)
      refine pk_ite (fun _ => ?_) (fun _ => ?_)
      · exact pk_some g
      · refine pk_bind (wX11_keeps_J g) (fun p1 h2 => ?_)
        obtain ⟨t10, s11⟩ := p1
        have g3 : JB s11 := h2
        dsimp only
        refine pk_ite (fun _ => ?_) (fun _ => ?_)
        · refine pk_bind pk_any (fun t17 _ => ?_)
          exact pk_some g3
        · refine pk_bind (wX11_gathers_J g3) (fun s24 g4 => ?_)
          refine pk_bind (wX11_useful_h74_J _ g4) (fun p5 h6 => ?_)
          obtain ⟨t34, s35⟩ := p5
          have g7 : JB s35 := h6
          dsimp only
          exact pk_some g7
theorem wX11_filled_J  {x1 : Int32} {x2 : Int32} {x3 : Int32} {s : wS}   (g : JB s) : PK (wX11_filled x1 x2 x3 s) (fun (r : Int32 × wS) => JB r.2) := by
  unfold wX11_filled
  refine pk_bind pk_any (fun t1 _ => ?_)
  refine pk_ite (fun _ => ?_) (fun _ => ?_)
  · exact pk_some g
  · refine pk_bind pk_any (fun t4 _ => ?_)
    refine pk_ite (fun _ => ?_) (fun _ => ?_)
    · exact pk_some g
    · refine pk_bind pk_any (fun t7 _ => ?_)
      refine pk_ite (fun _ => ?_) (fun _ => ?_)
      · exact pk_some g
      · refine pk_bind (wX11_keeps_J g) (fun p1 h2 => ?_)
        obtain ⟨t10, s11⟩ := p1
        have g3 : JB s11 := h2
        dsimp only
        refine pk_bind pk_any (fun t13 _ => ?_)
        refine pk_bind pk_any (fun t45 _ => ?_)
        exact pk_some g3
theorem wX11_next_j59_J  {x4 : Int32} {y1 : Int32} {s : wS}   (g : JB s) : PK (wX11_next_j59 x4 y1 s) (fun (r : Int32 × wS) => JB r.2) := by
  unfold wX11_next_j59
  refine pk_bind (wX11_asksNext_J g) (fun p1 h2 => ?_)
  obtain ⟨t17, s18⟩ := p1
  have g3 : JB s18 := h2
  dsimp only
  refine pk_ite (fun _ => ?_) (fun _ => ?_)
  · exact pk_some g3
  · refine pk_ite (fun _ => ?_) (fun _ => ?_)
    · refine pk_bind pk_any (fun t22 _ => ?_)
      exact pk_some g3
    · refine pk_bind pk_any (fun t23 _ => ?_)
      refine pk_ite (fun _ => ?_) (fun _ => ?_)
      · exact pk_some g3
      · exact pk_some g3
theorem wX11_next_J  {x1 : Int32} {x2 : Int32} {x3 : Int32} {x4 : Int32} {s : wS}   (g : JB s) : PK (wX11_next x1 x2 x3 x4 s) (fun (r : Int32 × wS) => JB r.2) := by
  unfold wX11_next
  refine pk_bind pk_any (fun t1 _ => ?_)
  refine pk_ite (fun _ => ?_) (fun _ => ?_)
  · exact pk_some g
  · refine pk_bind pk_any (fun t4 _ => ?_)
    refine pk_ite (fun _ => ?_) (fun _ => ?_)
    · exact pk_some g
    · refine pk_bind pk_any (fun t7 _ => ?_)
      refine pk_ite (fun _ => ?_) (fun _ => ?_)
      · exact pk_some g
      · refine pk_bind pk_any (fun t10 _ => ?_)
        refine pk_ite (fun _ => ?_) (fun _ => ?_)
        · exact pk_some g
        · refine pk_bind (wX11_keeps_J g) (fun p1 h2 => ?_)
          obtain ⟨t13, s14⟩ := p1
          have g3 : JB s14 := h2
          dsimp only
          refine pk_ite (fun _ => ?_) (fun _ => ?_)
          · exact wX11_next_j59_J g3
          · exact wX11_next_j59_J g3
theorem wX11_needed_j125_J  {x3 : Int32} {x4 : Int32} {x5 : Int32} {x6 : Int32} {s : wS} {qq : Int32 → Int32 → wS → Option (wS)} (hqq : ∀ (v0 : Int32) (v1 : Int32) (v2 : wS), JB v2 → PK (qq v0 v1 v2) (fun (r : wS) => JB r)) (g : JB s) : PK (wX11_needed_j125 qq x3 x4 x5 x6 s) (fun (r : wS) => JB r) := by
  unfold wX11_needed_j125
  exact hqq _ _ _ g
theorem wX11_needed_j120_J  {x3 : Int32} {x4 : Int32} {x5 : Int32} {x6 : Int32} {y1 : Int32} {y2 : Int64} {y3 : Int64} {s : wS} {qq : Int32 → Int32 → wS → Option (wS)} (hqq : ∀ (v0 : Int32) (v1 : Int32) (v2 : wS), JB v2 → PK (qq v0 v1 v2) (fun (r : wS) => JB r)) (g : JB s) : PK (wX11_needed_j120 qq x3 x4 x5 x6 y1 y2 y3 s) (fun (r : wS) => JB r) := by
  unfold wX11_needed_j120
  refine pk_bind (pk_stL (by decide) g) (fun s25 g1 => ?_)
  exact wX11_needed_j125_J hqq g1
theorem wX11_needed_h65_J  {x3 : Int32} {x4 : Int32}   : ∀ (n : Nat) {x5 : Int32} {x6 : Int32} {s : wS}, JB s → PK (wX11_needed_h65 x3 x4 n x5 x6 s) (fun (r : wS) => JB r) := by
  intro n
  induction n with
  | zero =>
    intro x5 x6 s g
    rw [wX11_needed_h65]
    exact pk_none
  | succ n ih =>
    intro x5 x6 s g
    rw [wX11_needed_h65]
    refine pk_bind pk_any (fun t16 _ => ?_)
    refine pk_ite (fun _ => ?_) (fun _ => ?_)
    · refine pk_bind pk_any (fun t19 _ => ?_)
      refine pk_ite (fun _ => ?_) (fun _ => ?_)
      · exact wX11_needed_j125_J (fun _ _ _ g => ih g) g
      · refine pk_bind pk_any (fun t21 _ => ?_)
        refine pk_bind pk_any (fun t22 _ => ?_)
        refine pk_ite (fun _ => ?_) (fun _ => ?_)
        · exact wX11_needed_j120_J (fun _ _ _ g => ih g) g
        · exact wX11_needed_j120_J (fun _ _ _ g => ih g) g
    · exact pk_some g
theorem wX11_needed_h40_J  {x3 : Int32}   : ∀ (n : Nat) {x4 : Int32} {s : wS}, JB s → PK (wX11_needed_h40 x3 n x4 s) (fun (r : wS) => JB r) := by
  intro n
  induction n with
  | zero =>
    intro x4 s g
    rw [wX11_needed_h40]
    exact pk_none
  | succ n ih =>
    intro x4 s g
    rw [wX11_needed_h40]
    refine pk_ite (fun _ => ?_) (fun _ => ?_)
    · refine pk_bind (pk_stL (by decide) g) (fun s15 g1 => ?_)
      refine pk_bind (wX11_needed_h65_J _ g1) (fun s27 g2 => ?_)
      exact ih g2
    · exact pk_some g
theorem wX11_needed_j154_J  {y0 : Int64} {s : wS}   (g : JB s) : PK (wX11_needed_j154 y0 s) (fun (r : Int32 × wS) => JB r.2) := by
  unfold wX11_needed_j154
  refine pk_bind pk_any (fun t40 _ => ?_)
  refine pk_ite (fun _ => ?_) (fun _ => ?_)
  · refine pk_bind pk_any (fun t43 _ => ?_)
    refine pk_ite (fun _ => ?_) (fun _ => ?_)
    · refine pk_bind pk_any (fun t46 _ => ?_)
      refine pk_ite (fun _ => ?_) (fun _ => ?_)
      · refine pk_bind pk_any (fun t49 _ => ?_)
        refine pk_ite (fun _ => ?_) (fun _ => ?_)
        · exact pk_some g
        · exact pk_some g
      · exact pk_some g
    · exact pk_some g
  · exact pk_some g
theorem wX11_needed_J  {x1 : Int32} {x2 : Int32} {s : wS}   (g : JB s) : PK (wX11_needed x1 x2 s) (fun (r : Int32 × wS) => JB r.2) := by
  unfold wX11_needed
  refine pk_bind pk_any (fun t1 _ => ?_)
  refine pk_ite (fun _ => ?_) (fun _ => ?_)
  · exact pk_some g
  · refine pk_bind pk_any (fun t4 _ => ?_)
    refine pk_ite (fun _ => ?_) (fun _ => ?_)
    · exact pk_some g
    · refine pk_bind (wX11_keeps_J g) (fun p1 h2 => ?_)
      obtain ⟨t7, s8⟩ := p1
      have g3 : JB s8 := h2
      dsimp only
      refine pk_ite (fun _ => ?_) (fun _ => ?_)
      · exact pk_some g3
      · refine pk_bind (wX11_gathers_J g3) (fun s12 g4 => ?_)
        refine pk_bind (wX11_needed_h40_J _ g4) (fun s33 g5 => ?_)
        refine pk_ite (fun _ => ?_) (fun _ => ?_)
        · exact wX11_needed_j154_J g5
        · exact wX11_needed_j154_J g5
theorem wX11_steered_J  {x1 : Int32} {x2 : Int32} {x3 : Int32} {x4 : Int32} {x5 : Int32} {s : wS}   (g : JB s) : PK (wX11_steered x1 x2 x3 x4 x5 s) (fun (r : Int32 × wS) => JB r.2) := by
  unfold wX11_steered
  refine pk_bind pk_any (fun t1 _ => ?_)
  refine pk_ite (fun _ => ?_) (fun _ => ?_)
  · exact pk_some g
  · refine pk_bind pk_any (fun t4 _ => ?_)
    refine pk_ite (fun _ => ?_) (fun _ => ?_)
    · exact pk_some g
    · refine pk_bind pk_any (fun t7 _ => ?_)
      refine pk_ite (fun _ => ?_) (fun _ => ?_)
      · exact pk_some g
      · refine pk_bind pk_any (fun t10 _ => ?_)
        refine pk_ite (fun _ => ?_) (fun _ => ?_)
        · exact pk_some g
        · refine pk_bind pk_any (fun t13 _ => ?_)
          refine pk_ite (fun _ => ?_) (fun _ => ?_)
          · exact pk_some g
          · refine pk_bind (wX11_keeps_J g) (fun p1 h2 => ?_)
            obtain ⟨t16, s17⟩ := p1
            have g3 : JB s17 := h2
            dsimp only
            refine pk_bind (wX11_gathers_J g3) (fun s20 g4 => ?_)
            refine pk_bind pk_any (fun p5 h6 => ?_)
            obtain ⟨t48, t49, t50⟩ := p5
            dsimp only
            refine pk_ite (fun _ => ?_) (fun _ => ?_)
            · exact pk_some g4
            · refine pk_ite (fun _ => ?_) (fun _ => ?_)
              · refine pk_bind pk_any (fun t62 _ => ?_)
                exact pk_some g4
              · refine pk_ite (fun _ => ?_) (fun _ => ?_)
                · exact pk_some g4
                · exact pk_some g4
theorem wX11_trials_h101_J  {x2 : Int32} {x3 : Int32} {x4 : Int64} {x6 : Int32} {x7 : Int32} {x8 : Int32} {x9 : Int32} {x10 : Int32}   : ∀ (n : Nat) {x11 : Int32} {s : wS}, JB s → PK (wX11_trials_h101 x2 x3 x4 x6 x7 x8 x9 x10 n x11 s) (fun (r : wS) => JB r) := by
  intro n
  induction n with
  | zero =>
    intro x11 s g
    rw [wX11_trials_h101]
    exact pk_none
  | succ n ih =>
    intro x11 s g
    rw [wX11_trials_h101]
    refine pk_bind pk_any (fun t20 _ => ?_)
    refine pk_ite (fun _ => ?_) (fun _ => ?_)
    · refine pk_bind (pk_stZ (fun _ => rfl) g) (fun s23 g1 => ?_)
      exact ih g1
    · exact pk_some g
theorem wX11_trials_h237_J  {x2 : Int32} {x3 : Int32} {x4 : Int64} {x6 : Int32} {x7 : Int32} {x8 : Int32} {x9 : Int32} {x10 : Int32} {x11 : Int32} {x12 : Int32} {x13 : Int32} {x14 : Int32} {x15 : Int32}   : ∀ (n : Nat) {x16 : Int32} {s : wS}, JB s → PK (wX11_trials_h237 x2 x3 x4 x6 x7 x8 x9 x10 x11 x12 x13 x14 x15 n x16 s) (fun (r : wS) => JB r) := by
  intro n
  induction n with
  | zero =>
    intro x16 s g
    rw [wX11_trials_h237]
    exact pk_none
  | succ n ih =>
    intro x16 s g
    rw [wX11_trials_h237]
    refine pk_bind pk_any (fun t47 _ => ?_)
    refine pk_ite (fun _ => ?_) (fun _ => ?_)
    · refine pk_bind pk_any (fun t50 _ => ?_)
      refine pk_bind pk_any (fun t51 _ => ?_)
      refine pk_bind (pk_stZ (fun _ => rfl) g) (fun s53 g1 => ?_)
      exact ih g1
    · exact pk_some g
theorem wX11_trials_j232_J  {x2 : Int32} {x3 : Int32} {x4 : Int64} {x6 : Int32} {x7 : Int32} {x8 : Int32} {x9 : Int32} {x10 : Int32} {x12 : Int32} {x13 : Int32} {x14 : Int32} {x15 : Int32} {y0 : Int32} {s : wS} {qq : Int32 → Int32 → Int32 → wS → Option (Int32 × Int32 × wS)} (hqq : ∀ (v0 : Int32) (v1 : Int32) (v2 : Int32) (v3 : wS), JB v3 → PK (qq v0 v1 v2 v3) (fun (r : Int32 × Int32 × wS) => JB r.2.2)) (g : JB s) : PK (wX11_trials_j232 qq x2 x3 x4 x6 x7 x8 x9 x10 x12 x13 x14 x15 y0 s) (fun (r : Int32 × Int32 × wS) => JB r.2.2) := by
  unfold wX11_trials_j232
  refine pk_bind (wX11_trials_h237_J _ g) (fun s55 g1 => ?_)
  exact hqq _ _ _ _ g1
theorem wX11_trials_j214_J  {x2 : Int32} {x3 : Int32} {x4 : Int64} {x6 : Int32} {x7 : Int32} {x8 : Int32} {x9 : Int32} {x10 : Int32} {x12 : Int32} {x13 : Int32} {x14 : Int32} {y0 : Int32} {s : wS} {qq : Int32 → Int32 → Int32 → wS → Option (Int32 × Int32 × wS)} (hqq : ∀ (v0 : Int32) (v1 : Int32) (v2 : Int32) (v3 : wS), JB v3 → PK (qq v0 v1 v2 v3) (fun (r : Int32 × Int32 × wS) => JB r.2.2)) (g : JB s) : PK (wX11_trials_j214 qq x2 x3 x4 x6 x7 x8 x9 x10 x12 x13 x14 y0 s) (fun (r : Int32 × Int32 × wS) => JB r.2.2) := by
  unfold wX11_trials_j214
  refine pk_ite (fun _ => ?_) (fun _ => ?_)
  · exact wX11_trials_j232_J hqq g
  · exact wX11_trials_j232_J hqq g
theorem wX11_trials_j187_J  {x2 : Int32} {x3 : Int32} {x4 : Int64} {x6 : Int32} {x7 : Int32} {x8 : Int32} {x9 : Int32} {x10 : Int32} {x11 : Int32} {x12 : Int32} {x14 : Int32} {y0 : Int32} {s : wS} {qq : Int32 → Int32 → Int32 → wS → Option (Int32 × Int32 × wS)} (hqq : ∀ (v0 : Int32) (v1 : Int32) (v2 : Int32) (v3 : wS), JB v3 → PK (qq v0 v1 v2 v3) (fun (r : Int32 × Int32 × wS) => JB r.2.2)) (g : JB s) : PK (wX11_trials_j187 qq x2 x3 x4 x6 x7 x8 x9 x10 x11 x12 x14 y0 s) (fun (r : Int32 × Int32 × wS) => JB r.2.2) := by
  unfold wX11_trials_j187
  refine pk_ite (fun _ => ?_) (fun _ => ?_)
  · exact hqq _ _ _ _ g
  · refine pk_bind pk_any (fun t43 _ => ?_)
    refine pk_ite (fun _ => ?_) (fun _ => ?_)
    · exact wX11_trials_j214_J hqq g
    · exact wX11_trials_j214_J hqq g
theorem wX11_trials_j186_J  {x2 : Int32} {x3 : Int32} {x4 : Int64} {x6 : Int32} {x7 : Int32} {x8 : Int32} {x9 : Int32} {x10 : Int32} {x11 : Int32} {x12 : Int32} {x14 : Int32} {s : wS} {qq : Int32 → Int32 → Int32 → wS → Option (Int32 × Int32 × wS)} (hqq : ∀ (v0 : Int32) (v1 : Int32) (v2 : Int32) (v3 : wS), JB v3 → PK (qq v0 v1 v2 v3) (fun (r : Int32 × Int32 × wS) => JB r.2.2)) (g : JB s) : PK (wX11_trials_j186 qq x2 x3 x4 x6 x7 x8 x9 x10 x11 x12 x14 s) (fun (r : Int32 × Int32 × wS) => JB r.2.2) := by
  unfold wX11_trials_j186
  exact wX11_trials_j187_J hqq g
theorem wX11_trials_h136_J  {x2 : Int32} {x3 : Int32} {x4 : Int64} {x6 : Int32} {x7 : Int32} {x8 : Int32} {x9 : Int32} {x10 : Int32}   : ∀ (n : Nat) {x11 : Int32} {x12 : Int32} {x13 : Int32} {s : wS}, JB s → PK (wX11_trials_h136 x2 x3 x4 x6 x7 x8 x9 x10 n x11 x12 x13 s) (fun (r : Int32 × Int32 × wS) => JB r.2.2) := by
  intro n
  induction n with
  | zero =>
    intro x11 x12 x13 s g
    rw [wX11_trials_h136]
    exact pk_none
  | succ n ih =>
    intro x11 x12 x13 s g
    rw [wX11_trials_h136]
    refine pk_ite (fun _ => ?_) (fun _ => ?_)
    · exact pk_some g
    · refine pk_ite (fun _ => ?_) (fun _ => ?_)
      · refine pk_ite (fun _ => ?_) (fun _ => ?_)
        · refine pk_bind (wX11_asksNext_J g) (fun p1 h2 => ?_)
          obtain ⟨t38, s39⟩ := p1
          have g3 : JB s39 := h2
          dsimp only
          refine pk_ite (fun _ => ?_) (fun _ => ?_)
          · exact wX11_trials_j186_J (fun _ _ _ _ g => ih g) g3
          · refine pk_bind pk_any (fun t60 _ => ?_)
            refine pk_ite (fun _ => ?_) (fun _ => ?_)
            · exact wX11_trials_j187_J (fun _ _ _ _ g => ih g) g3
            · exact wX11_trials_j186_J (fun _ _ _ _ g => ih g) g3
        · exact pk_some g
      · exact pk_some g
theorem wX11_trials_j298_J  {x2 : Int32} {x3 : Int32} {x4 : Int64} {x6 : Int32} {x8 : Int32} {x9 : Int32} {x11 : Int32} {y0 : Int32} {y1 : Int32} {s : wS} {qq : Int64 → Int32 → Int32 → Int32 → Int32 → wS → Option (Int32 × Int32 × Int32 × wS)} (hqq : ∀ (v0 : Int64) (v1 : Int32) (v2 : Int32) (v3 : Int32) (v4 : Int32) (v5 : wS), JB v5 → PK (qq v0 v1 v2 v3 v4 v5) (fun (r : Int32 × Int32 × Int32 × wS) => JB r.2.2.2)) (g : JB s) : PK (wX11_trials_j298 qq x2 x3 x4 x6 x8 x9 x11 y0 y1 s) (fun (r : Int32 × Int32 × Int32 × wS) => JB r.2.2.2) := by
  unfold wX11_trials_j298
  exact hqq _ _ _ _ _ _ g
theorem wX11_trials_j278_J  {x2 : Int32} {x3 : Int32} {x4 : Int64} {x6 : Int32} {x7 : Int32} {x8 : Int32} {x9 : Int32} {x11 : Int32} {x12 : Int32} {s : wS} {qq : Int64 → Int32 → Int32 → Int32 → Int32 → wS → Option (Int32 × Int32 × Int32 × wS)} (hqq : ∀ (v0 : Int64) (v1 : Int32) (v2 : Int32) (v3 : Int32) (v4 : Int32) (v5 : wS), JB v5 → PK (qq v0 v1 v2 v3 v4 v5) (fun (r : Int32 × Int32 × Int32 × wS) => JB r.2.2.2)) (g : JB s) : PK (wX11_trials_j278 qq x2 x3 x4 x6 x7 x8 x9 x11 x12 s) (fun (r : Int32 × Int32 × Int32 × wS) => JB r.2.2.2) := by
  unfold wX11_trials_j278
  refine pk_ite (fun _ => ?_) (fun _ => ?_)
  · exact wX11_trials_j298_J hqq g
  · exact wX11_trials_j298_J hqq g
theorem wX11_trials_h61_J  {x2 : Int32} {x3 : Int32}   : ∀ (n : Nat) {x4 : Int64} {x6 : Int32} {x7 : Int32} {x8 : Int32} {x9 : Int32} {s : wS}, JB s → PK (wX11_trials_h61 x2 x3 n x4 x6 x7 x8 x9 s) (fun (r : Int32 × Int32 × Int32 × wS) => JB r.2.2.2) := by
  intro n
  induction n with
  | zero =>
    intro x4 x6 x7 x8 x9 s g
    rw [wX11_trials_h61]
    exact pk_none
  | succ n ih =>
    intro x4 x6 x7 x8 x9 s g
    rw [wX11_trials_h61]
    refine pk_ite (fun _ => ?_) (fun _ => ?_)
    · refine pk_bind pk_any (fun t15 _ => ?_)
      refine pk_bind pk_any (fun t16 _ => ?_)
      refine pk_bind pk_any (fun t17 _ => ?_)
      refine pk_bind pk_any (fun t19 _ => ?_)
      refine pk_bind (wX11_trials_h101_J _ g) (fun s25 g1 => ?_)
      refine pk_bind pk_any (fun t33 _ => ?_)
      refine pk_bind (wX11_trials_h136_J _ g1) (fun p2 h3 => ?_)
      obtain ⟨t64, t65, s66⟩ := p2
      have g4 : JB s66 := h3
      dsimp only
      exact wX11_trials_j278_J (fun _ _ _ _ _ _ g => ih g) g4
    · exact pk_some g
theorem wX11_trials_J  {x1 : Int32} {x2 : Int32} {x3 : Int32} {s : wS}   (g : JB s) : PK (wX11_trials x1 x2 x3 s) (fun (r : Int32 × wS) => JB r.2) := by
  unfold wX11_trials
  refine pk_bind pk_any (fun t1 _ => ?_)
  refine pk_ite (fun _ => ?_) (fun _ => ?_)
  · exact pk_some g
  · refine pk_bind pk_any (fun t4 _ => ?_)
    refine pk_ite (fun _ => ?_) (fun _ => ?_)
    · exact pk_some g
    · refine pk_bind pk_any (fun t7 _ => ?_)
      refine pk_ite (fun _ => ?_) (fun _ => ?_)
      · exact pk_some g
      · refine pk_bind (wX11_reaches_J g) (fun s11 g1 => ?_)
        refine pk_bind (wX11_trials_h61_J _ g1) (fun p2 h3 => ?_)
        obtain ⟨t75, t76, t77, s78⟩ := p2
        have g4 : JB s78 := h3
        dsimp only
        refine pk_ite (fun _ => ?_) (fun _ => ?_)
        · exact pk_some g4
        · refine pk_ite (fun _ => ?_) (fun _ => ?_)
          · exact pk_some g4
          · exact pk_some g4
theorem wX11_old_J  {x1 : Int32} {x2 : Int32} {x3 : Int32} {x4 : Int32} {s : wS}   (g : JB s) : PK (wX11_old x1 x2 x3 x4 s) (fun (r : Int32 × wS) => JB r.2) := by
  unfold wX11_old
  refine pk_bind pk_any (fun t1 _ => ?_)
  refine pk_ite (fun _ => ?_) (fun _ => ?_)
  · exact pk_some g
  · refine pk_bind pk_any (fun t4 _ => ?_)
    refine pk_ite (fun _ => ?_) (fun _ => ?_)
    · exact pk_some g
    · refine pk_bind pk_any (fun t8 _ => ?_)
      refine pk_ite (fun _ => ?_) (fun _ => ?_)
      · exact pk_some g
      · refine pk_bind pk_any (fun t11 _ => ?_)
        refine pk_ite (fun _ => ?_) (fun _ => ?_)
        · exact pk_some g
        · refine pk_bind (wX11_reaches_J g) (fun s15 g1 => ?_)
          refine pk_bind pk_any (fun t17 _ => ?_)
          refine pk_bind pk_any (fun t18 _ => ?_)
          refine pk_ite (fun _ => ?_) (fun _ => ?_)
          · exact pk_some g1
          · refine pk_bind pk_any (fun p2 h3 => ?_)
            obtain ⟨t39, t40⟩ := p2
            dsimp only
            refine pk_ite (fun _ => ?_) (fun _ => ?_)
            · exact pk_some g1
            · exact pk_some g1
