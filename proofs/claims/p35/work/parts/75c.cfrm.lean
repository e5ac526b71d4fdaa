/-! Narrow frames: a COURT is read; a COURT is another. -/
noncomputable def bY (k _b : Nat) : Bool := Nat.ble 3 k && Nat.ble k 12
noncomputable def bYp (k b : Nat) : Bool := (Nat.ble 28 k && Nat.ble k 31) || (Nat.ble 44 k && Nat.ble k 103 && Nat.beq ((k - 44) % 10) 0 && Nat.beq b 12)
theorem bYp_12 {k : Nat} (hk : wkd k = 3) : bYp k 12 = true := by
  have hl := wlt (k := k) (by omega)
  have : ∀ k < 172, wkd k = 3 → bYp k 12 = true := by decide +kernel
  exact this k hl hk
theorem wX9_skip_Y {s : wS}  : Tot (wX9_skip s) (fun (r : wS) => wA bY s r) := by
  unfold wX9_skip
  refine t_ite (fun c1 => ?_) (fun c1 => ?_)
  · refine t_bind (t_pfI (B := bY) rfl) (fun s2 h2 => ?_)
    exact t_some h2.1
  · exact t_some wA.refl
theorem wX9_fail_j29_Y {s : wS}  : Tot (wX9_fail_j29 s) (fun (r : wS) => wA bY s r) := by
  unfold wX9_fail_j29
  refine t_bind (t_pfI (B := bY) rfl) (fun s5 h1 => ?_)
  exact t_some h1.1
theorem wX9_fail_Y {x1 : Int32} {s : wS}  : Tot (wX9_fail x1 s) (fun (r : wS) => wA bY s r) := by
  unfold wX9_fail
  refine t_ite (fun c1 => ?_) (fun c1 => ?_)
  · refine t_bind (wX10_at_T rfl) (fun t2 h2 => ?_)
    refine t_bind (t_pfI (B := bY) rfl) (fun s4 h3 => ?_)
    exact t_mono (wX9_fail_j29_Y) (fun r h => (h3.1.trans h))
  · exact t_mono (wX9_fail_j29_Y) (fun r h => h)
theorem wX9_takeNumber_j45_Y {x3 : Int32} {s : wS}  : Tot (wX9_takeNumber_j45 x3 s) (fun (r : Int32 × wS) => wA bY s r.2) := by
  unfold wX9_takeNumber_j45
  refine t_bind (wX9_fail_Y) (fun s8 h1 => ?_)
  exact t_some h1
theorem wX9_takeNumber_Y {x1 : Int32} {x2 : Int32} {s : wS}  : Tot (wX9_takeNumber x1 x2 s) (fun (r : Int32 × wS) => wA bY s r.2) := by
  unfold wX9_takeNumber
  refine t_bind (wX10_at_T rfl) (fun t1 h1 => ?_)
  refine t_bind (wX10_at_T rfl) (fun t3 h2 => ?_)
  refine t_ite (fun c3 => ?_) (fun c3 => ?_)
  · refine t_ite (fun c4 => ?_) (fun c4 => ?_)
    · exact t_mono (wX9_takeNumber_j45_Y) (fun r h => h)
    · refine t_ite (fun c5 => ?_) (fun c5 => ?_)
      · exact t_mono (wX9_takeNumber_j45_Y) (fun r h => h)
      · refine t_bind (wX9_skip_Y) (fun s12 h6 => ?_)
        exact t_some h6
  · refine t_bind (wX9_fail_Y) (fun s15 h7 => ?_)
    exact t_some h7
theorem wX1_readClause_j121_Y {y1 : Int32} {y2 : Int32} {y4 : Int32} {y5 : Int32} {s : wS}  : Tot (wX1_readClause_j121 9 y1 y2 y4 y5 s) (fun (r : wS) => wA bY s r) := by
  unfold wX1_readClause_j121
  refine t_bind (wX9_takeNumber_Y) (fun r2 h1 => ?_)
  obtain ⟨t26, s27⟩ := r2
  dsimp only at h1 ⊢
  refine t_bind (wX0_add_T rfl (B := bY) (fun _ => rfl) (fun _ => rfl) (fun _ => rfl)) (fun s30 h3 => ?_)
  have a4 := h1.trans h3
  exact t_some a4
theorem wX1_readClause_j51_Y {x4 : Int32} {y0 : Int32} {s : wS}  : Tot (wX1_readClause_j51 9 x4 y0 s) (fun (r : wS) => wA bY s r) := by
  unfold wX1_readClause_j51
  refine t_ite (fun c1 => ?_) (fun c1 => ?_)
  · refine t_bind (wX9_skip_Y) (fun s12 h2 => ?_)
    refine t_ite (fun c3 => ?_) (fun c3 => ?_)
    · refine t_bind (wX9_takeNumber_Y) (fun r5 h4 => ?_)
      obtain ⟨t15, s16⟩ := r5
      dsimp only at h4 ⊢
      have a6 := h2.trans h4
      refine t_bind (wX0_setHours_T rfl (B := bY) (fun _ => rfl)) (fun s19 h7 => ?_)
      have a8 := a6.trans h7
      refine t_bind (t_pfZ (B := bY) (by decide) rfl) (fun s21 h9 => ?_)
      have a10 := a8.trans h9.1
      exact t_some a10
    · refine t_bind (wX9_takeNumber_Y) (fun r12 h11 => ?_)
      obtain ⟨t22, s23⟩ := r12
      dsimp only at h11 ⊢
      have a13 := h2.trans h11
      refine t_ite (fun c14 => ?_) (fun c14 => ?_)
      · exact t_mono (wX1_readClause_j121_Y) (fun r h => (a13.trans h))
      · exact t_mono (wX1_readClause_j121_Y) (fun r h => (a13.trans h))
  · refine t_bind (wX9_fail_Y) (fun s33 h15 => ?_)
    exact t_some h15
theorem wX1_readClause_Y {s : wS}  : Tot (wX1_readClause 9 s) (fun (r : wS) => wA bY s r) := by
  unfold wX1_readClause
  refine t_bind (wX9_sign_T) (fun t1 h1 => ?_)
  refine t_bind (wX1_kindOf_T) (fun t3 h2 => ?_)
  refine t_ite (fun c3 => ?_) (fun c3 => ?_)
  · refine t_bind (wX9_fail_Y) (fun s7 h4 => ?_)
    exact t_some h4
  · refine t_ite (fun c5 => ?_) (fun c5 => ?_)
    · exact t_mono (wX1_readClause_j51_Y) (fun r h => h)
    · refine t_bind (wX0_manyOf_T rfl) (fun t35 h6 => ?_)
      refine t_ite (fun c7 => ?_) (fun c7 => ?_)
      · exact t_mono (wX1_readClause_j51_Y) (fun r h => h)
      · exact t_mono (wX1_readClause_j51_Y) (fun r h => h)
theorem wX9_take_Y {x1 : Int32} {s : wS} : Tot (wX9_take x1 s) (fun (r : Int32 × wS) => wA bY s r.2 ∧ ((r.1 = 1 ∧ sv s = x1) ∨ r = (0, s))) := by
  unfold wX9_take
  refine t_bind (wX10_at_T rfl) (fun t1 h => ?_)
  refine t_ite (fun c => ?_) (fun c => t_some ⟨wA.refl, Or.inr rfl⟩)
  refine t_bind wX9_skip_Y (fun s5 h5 => t_some ⟨h5, Or.inl ⟨rfl, ?_⟩⟩)
  rw [← c, h]
  rfl
theorem wX1_read_h14_Y    : ∀ (n : Nat) {x3 : Int32} {x4 : Int32} {s : wS}, 2147483648 - x4.toInt < (n : Int) → Tot (wX1_read_h14 9 n x3 x4 s) (fun (r : wS) => wA bY s r) := by
  intro n
  induction n with
  | zero =>
    intro x3 x4 s hm
    exact (t_m0 hm).elim
  | succ n ih =>
    intro x3 x4 s hm
    rw [wX1_read_h14]
    refine t_ite (fun c1 => ?_) (fun c1 => ?_)
    · refine t_ite (fun c2 => ?_) (fun c2 => ?_)
      · exact t_some wA.refl
      · refine t_bind (wX1_readClause_Y) (fun s8 h3 => ?_)
        refine t_bind (wX9_take_Y) (fun r5 h4 => ?_)
        obtain ⟨t10, s11⟩ := r5
        dsimp only at h4 ⊢
        have a6 := h3.trans h4.1
        exact t_mono (ih (t_m1 c1 hm)) (fun r h => (a6.trans h))
    · exact t_some wA.refl
theorem wX1_read_j58_Y {s : wS}  : Tot (wX1_read_j58 s) (fun (r : wS) => wA bY s r) := by
  unfold wX1_read_j58
  refine t_bind (wX9_fail_Y) (fun s24 h1 => ?_)
  exact t_some h1
theorem wX1_read_j44_Y {s : wS}  : Tot (wX1_read_j44 9 s) (fun (r : wS) => wA bY s r) := by
  unfold wX1_read_j44
  refine t_bind (wX9_sign_T) (fun t17 h1 => ?_)
  refine t_ite (fun c2 => ?_) (fun c2 => ?_)
  · refine t_bind (wX0_isTold_T rfl) (fun t20 h3 => ?_)
    refine t_ite (fun c4 => ?_) (fun c4 => ?_)
    · exact t_mono (wX1_read_j58_Y) (fun r h => h)
    · exact t_some wA.refl
  · exact t_mono (wX1_read_j58_Y) (fun r h => h)
theorem wX1_read_Y {s : wS}  : Tot (wX1_read 9 s) (fun (r : wS) => wA bY s r) := by
  unfold wX1_read
  refine t_bind (wX0_clear_T rfl (B := bY) (fun _ => rfl)) (fun s2 h1 => ?_)
  refine t_bind (t_pfZ (B := bY) (by decide) rfl) (fun s4 h2 => ?_)
  have a3 := h1.trans h2.1
  refine t_bind (wX1_read_h14_Y  _   t_mi) (fun s14 h4 => ?_)
  have a5 := a3.trans h4
  exact t_mono (wX1_read_j44_Y) (fun r h => (a5.trans h))
theorem wX5_add_Yp {x1 : Int32} {x2 : Int32} {x3 : Int32} {s : wS}  : Tot (wX5_add x1 x2 x3 s) (fun (r : wS) => wA bYp s r) := by
  unfold wX5_add
  refine t_bind (wX10_isOutside_T) (fun t1 h1 => ?_)
  refine t_ite (fun c2 => ?_) (fun c2 => ?_)
  · refine t_bind (t_stI (B := bYp) (n := 84) (by (try simp only [Int32.lt_iff_toInt_lt, Int32.le_iff_toInt_le, ← Int32.toInt_inj, Int32.reduceToInt] at *) <;> omega) (by (try simp only [Int32.lt_iff_toInt_lt, Int32.le_iff_toInt_le, ← Int32.toInt_inj, Int32.reduceToInt] at *) <;> omega) (fun _ => rfl)) (fun s4 h3 => ?_)
    have f4 : s4.1 28 3 = s.1 28 3 := by rw [h3.2, wupI_n (by omega)]
    refine t_bind (t_stI (B := bYp) (n := 84) (by (try simp only [Int32.lt_iff_toInt_lt, Int32.le_iff_toInt_le, ← Int32.toInt_inj, Int32.reduceToInt] at *) <;> omega) (by (try simp only [Int32.lt_iff_toInt_lt, Int32.le_iff_toInt_le, ← Int32.toInt_inj, Int32.reduceToInt] at *) <;> omega) (fun _ => rfl)) (fun s5 h5 => ?_)
    have a6 := h3.1.trans h5.1
    have f7 : s5.1 28 3 = s4.1 28 3 := by rw [h5.2, wupI_n (by omega)]
    refine t_bind (t_stI (B := bYp) (n := 84) (by (try simp only [Int32.lt_iff_toInt_lt, Int32.le_iff_toInt_le, ← Int32.toInt_inj, Int32.reduceToInt] at *) <;> omega) (by (try simp only [Int32.lt_iff_toInt_lt, Int32.le_iff_toInt_le, ← Int32.toInt_inj, Int32.reduceToInt] at *) <;> omega) (fun _ => rfl)) (fun s6 h8 => ?_)
    have a9 := a6.trans h8.1
    have f10 : s6.1 28 3 = s5.1 28 3 := by rw [h8.2, wupI_n (by omega)]
    refine t_bind (t_pfI (B := bYp) rfl) (fun s7 h11 => ?_)
    have a12 := a9.trans h11.1
    exact t_some a12
  · exact t_some wA.refl
theorem wX5_fill_h28_Yp {k1 : Nat} {x2 : Int32} {x3 : Int32} (hk1 : wkd k1 = 0)  : ∀ (n : Nat) {x4 : Int32} {s : wS}, 2147483648 - x4.toInt < (n : Int) → Tot (wX5_fill_h28 k1 x2 x3 n x4 s) (fun (r : wS) => wA bYp s r) := by
  intro n
  induction n with
  | zero =>
    intro x4 s hm
    exact (t_m0 hm).elim
  | succ n ih =>
    intro x4 s hm
    rw [wX5_fill_h28]
    refine t_bind (wX0_manyOf_T hk1) (fun t6 h1 => ?_)
    refine t_ite (fun c2 => ?_) (fun c2 => ?_)
    · refine t_bind (wX5_add_Yp) (fun s10 h3 => ?_)
      exact t_mono (ih (t_m1 c2 hm)) (fun r h => (h3.trans h))
    · exact t_some wA.refl
theorem wX5_fill_h14_Yp {k1 : Nat} {x2 : Int32} (hk1 : wkd k1 = 0)  : ∀ (n : Nat) {x3 : Int32} {s : wS}, 2147483648 - x3.toInt < (n : Int) → Tot (wX5_fill_h14 k1 x2 n x3 s) (fun (r : wS) => wA bYp s r) := by
  intro n
  induction n with
  | zero =>
    intro x3 s hm
    exact (t_m0 hm).elim
  | succ n ih =>
    intro x3 s hm
    rw [wX5_fill_h14]
    refine t_bind (wX0_manyOf_T hk1) (fun t3 h1 => ?_)
    refine t_ite (fun c2 => ?_) (fun c2 => ?_)
    · refine t_bind (wX5_fill_h28_Yp hk1 _   t_mi) (fun s13 h3 => ?_)
      exact t_mono (ih (t_m1 c2 hm)) (fun r h => (h3.trans h))
    · exact t_some wA.refl
theorem wX5_fill_h7_Yp {k1 : Nat} (hk1 : wkd k1 = 0)  : ∀ (n : Nat) {x2 : Int32} {s : wS}, 2147483648 - x2.toInt < (n : Int) → Tot (wX5_fill_h7 k1 n x2 s) (fun (r : wS) => wA bYp s r) := by
  intro n
  induction n with
  | zero =>
    intro x2 s hm
    exact (t_m0 hm).elim
  | succ n ih =>
    intro x2 s hm
    rw [wX5_fill_h7]
    refine t_ite (fun c1 => ?_) (fun c1 => ?_)
    · refine t_bind (wX5_fill_h14_Yp hk1 _   t_mi) (fun s16 h2 => ?_)
      exact t_mono (ih (t_m1 c1 hm)) (fun r h => (h2.trans h))
    · exact t_some wA.refl
theorem wX5_fill_Yp {k1 : Nat} {s : wS} (hk1 : wkd k1 = 0) : Tot (wX5_fill k1 s) (fun (r : wS) => wA bYp s r) := by
  unfold wX5_fill
  refine t_bind (t_pfI (B := bYp) rfl) (fun s1 h1 => ?_)
  refine t_bind (wX5_fill_h7_Yp hk1 _   t_mi) (fun s20 h2 => ?_)
  have a3 := h1.1.trans h2
  exact t_some a3
theorem wX10_courtIsAnother_h16_Yp    : ∀ (n : Nat) {x1 : Int32} {s : wS}, 0 ≤ x1.toInt → 2147483648 - x1.toInt < (n : Int) → Tot (wX10_courtIsAnother_h16  n x1 s) (fun (r : wS) => wA bYp s r) := by
  intro n
  induction n with
  | zero =>
    intro x1 s hi hm
    exact (t_m0 hm).elim
  | succ n ih =>
    intro x1 s hi hm
    rw [wX10_courtIsAnother_h16]
    refine t_ite (fun c1 => ?_) (fun c1 => ?_)
    · refine t_bind (t_ldR3 (by (try simp only [Int32.lt_iff_toInt_lt, Int32.le_iff_toInt_le, ← Int32.toInt_inj, Int32.reduceToInt] at *) <;> omega) (by (try simp only [Int32.lt_iff_toInt_lt, Int32.le_iff_toInt_le, ← Int32.toInt_inj, Int32.reduceToInt] at *) <;> omega)) (fun k5 h2 => ?_)
      refine t_bind (t_ldR3 (by (try simp only [Int32.lt_iff_toInt_lt, Int32.le_iff_toInt_le, ← Int32.toInt_inj, Int32.reduceToInt] at *) <;> omega) (by (try simp only [Int32.lt_iff_toInt_lt, Int32.le_iff_toInt_le, ← Int32.toInt_inj, Int32.reduceToInt] at *) <;> omega)) (fun k6 h3 => ?_)
      refine t_bind (t_pfZ (B := bYp) (by decide) (bYp_12 h3.1)) (fun s7 h4 => ?_)
      unfold wX10_courtIsAnother_j44
      exact t_mono (ih (t_n1 c1 hi) (t_m1 c1 hm)) (fun r h => (h4.1.trans h))
    · exact t_some wA.refl
theorem wX10_courtIsAnother_Yp {s : wS}  : Tot (wX10_courtIsAnother s) (fun (r : wS) => wA bYp s r) := by
  unfold wX10_courtIsAnother
  refine t_bind (wX5_fill_Yp rfl) (fun s2 h1 => ?_)
  refine t_bind (wX10_courtIsAnother_h16_Yp  _  (by decide) t_mi) (fun s9 h2 => ?_)
  have a3 := h1.trans h2
  exact t_some a3
