/-! The frames of the class's LAW reader. -/
noncomputable def bZ (k2 k b : Nat) : Bool := Nat.beq k 3 || (Nat.beq k 8 || (Nat.ble k2 k && Nat.ble k (k2 + 5) && (Nat.ble 0 b)))
theorem bZ_p {k2 k b : Nat} (h : k2 ≤ k ∧ k ≤ k2 + 5) : bZ k2 k b = true := by
  simp only [bZ, Bool.or_eq_true, Bool.and_eq_true, Nat.beq_eq, Nat.ble_eq]
  omega
theorem bZ_n {k2 k b : Nat} (h3 : k ≠ 3) (h8 : k ≠ 8) (h : ¬ (k2 ≤ k ∧ k ≤ k2 + 5)) : bZ k2 k b = false := by
  cases e : bZ k2 k b
  · rfl
  · exfalso
    simp only [bZ, Bool.or_eq_true, Bool.and_eq_true, Nat.beq_eq, Nat.ble_eq] at e
    omega
theorem wX9_skip_Z {kk : Nat} {s : wS}  : Tot (wX9_skip s) (fun (r : wS) => wA (bZ kk) s r) := by
  unfold wX9_skip
  refine t_ite (fun c1 => ?_) (fun c1 => ?_)
  · refine t_bind (t_pfI (B := (bZ kk)) rfl) (fun s2 h2 => ?_)
    exact t_some h2.1
  · exact t_some wA.refl
theorem wX9_fail_j29_Z {kk : Nat} {s : wS}  : Tot (wX9_fail_j29 s) (fun (r : wS) => wA (bZ kk) s r) := by
  unfold wX9_fail_j29
  refine t_bind (t_pfI (B := (bZ kk)) rfl) (fun s5 h1 => ?_)
  exact t_some h1.1
theorem wX9_fail_Z {kk : Nat} {x1 : Int32} {s : wS}  : Tot (wX9_fail x1 s) (fun (r : wS) => wA (bZ kk) s r) := by
  unfold wX9_fail
  refine t_ite (fun c1 => ?_) (fun c1 => ?_)
  · refine t_bind (wX10_at_T rfl) (fun t2 h2 => ?_)
    refine t_bind (t_pfI (B := (bZ kk)) rfl) (fun s4 h3 => ?_)
    exact t_mono ((wX9_fail_j29_Z (kk := kk))) (fun r h => (h3.1.trans h))
  · exact t_mono ((wX9_fail_j29_Z (kk := kk))) (fun r h => h)
theorem wX9_take_Z {kk : Nat} {x1 : Int32} {s : wS} : Tot (wX9_take x1 s) (fun (r : Int32 × wS) => wA (bZ kk) s r.2 ∧ ((r.1 = 1 ∧ sv s = x1) ∨ r = (0, s))) := by
  unfold wX9_take
  refine t_bind (wX10_at_T rfl) (fun t1 h => ?_)
  refine t_ite (fun c => ?_) (fun c => t_some ⟨wA.refl, Or.inr rfl⟩)
  refine t_bind (wX9_skip_Z (kk := kk)) (fun s5 h5 => t_some ⟨h5, Or.inl ⟨rfl, ?_⟩⟩)
  rw [← c, h]
  rfl
theorem wX3_clear_Z {k0 : Nat} {s : wS} (hk0 : wkd k0 = 3) : Tot (wX3_clear k0 s) (fun (r : wS) => wA (bZ k0) s r) := by
  unfold wX3_clear
  refine t_bind (t_pfI (B := (bZ k0)) (bZ_p (by omega))) (fun s1 h1 => ?_)
  refine t_bind (t_pfI (B := (bZ k0)) (bZ_p (by omega))) (fun s2 h2 => ?_)
  have a3 := h1.1.trans h2.1
  refine t_bind (t_pfZ (B := (bZ k0)) (by decide) (bZ_p (by omega))) (fun s3 h4 => ?_)
  have a5 := a3.trans h4.1
  exact t_some a5
theorem wX3_put_Z {k0 : Nat} {x1 : Int32} {s : wS} (hk0 : wkd k0 = 3) : Tot (wX3_put k0 x1 s) (fun (r : wS) => wA (bZ k0) s r) := by
  unfold wX3_put
  refine t_ite (fun c1 => ?_) (fun c1 => ?_)
  · exact t_some wA.refl
  · refine t_ite (fun c2 => ?_) (fun c2 => ?_)
    · exact t_some wA.refl
    · refine t_ite (fun c3 => ?_) (fun c3 => ?_)
      · refine t_bind (t_stI (B := (bZ k0)) (n := 400) (by (try simp only [Int32.lt_iff_toInt_lt, Int32.le_iff_toInt_le, ← Int32.toInt_inj, Int32.reduceToInt] at *) <;> omega) (by (try simp only [Int32.lt_iff_toInt_lt, Int32.le_iff_toInt_le, ← Int32.toInt_inj, Int32.reduceToInt] at *) <;> omega) (fun b => bZ_p (by omega))) (fun s4 h4 => ?_)
        have f5 : s4.1 k0 1 = s.1 k0 1 := by rw [h4.2, wupI_n (by omega)]
        refine t_bind (t_pfI (B := (bZ k0)) (bZ_p (by omega))) (fun s5 h6 => ?_)
        have a7 := h4.1.trans h6.1
        exact t_some a7
      · exact t_some wA.refl
theorem wX3_addClause_Z {k0 : Nat} {x1 : Int32} {x2 : Int32} {x3 : Int32} {s : wS} (hk0 : wkd k0 = 3) : Tot (wX3_addClause k0 x1 x2 x3 s) (fun (r : wS) => wA (bZ k0) s r) := by
  unfold wX3_addClause
  refine t_bind (wX10_isOutside_T) (fun t1 h1 => ?_)
  refine t_ite (fun c2 => ?_) (fun c2 => ?_)
  · refine t_bind (t_stI (B := (bZ k0)) (n := 12) (by (try simp only [Int32.lt_iff_toInt_lt, Int32.le_iff_toInt_le, ← Int32.toInt_inj, Int32.reduceToInt] at *) <;> omega) (by (try simp only [Int32.lt_iff_toInt_lt, Int32.le_iff_toInt_le, ← Int32.toInt_inj, Int32.reduceToInt] at *) <;> omega) (fun b => bZ_p (by omega))) (fun s4 h3 => ?_)
    have f4 : s4.1 k0 6 = s.1 k0 6 := by rw [h3.2, wupI_n (by omega)]
    refine t_bind (t_stI (B := (bZ k0)) (n := 12) (by (try simp only [Int32.lt_iff_toInt_lt, Int32.le_iff_toInt_le, ← Int32.toInt_inj, Int32.reduceToInt] at *) <;> omega) (by (try simp only [Int32.lt_iff_toInt_lt, Int32.le_iff_toInt_le, ← Int32.toInt_inj, Int32.reduceToInt] at *) <;> omega) (fun b => bZ_p (by omega))) (fun s5 h5 => ?_)
    have a6 := h3.1.trans h5.1
    have f7 : s5.1 k0 6 = s4.1 k0 6 := by rw [h5.2, wupI_n (by omega)]
    refine t_bind (t_stI (B := (bZ k0)) (n := 12) (by (try simp only [Int32.lt_iff_toInt_lt, Int32.le_iff_toInt_le, ← Int32.toInt_inj, Int32.reduceToInt] at *) <;> omega) (by (try simp only [Int32.lt_iff_toInt_lt, Int32.le_iff_toInt_le, ← Int32.toInt_inj, Int32.reduceToInt] at *) <;> omega) (fun b => bZ_p (by omega))) (fun s6 h8 => ?_)
    have a9 := a6.trans h8.1
    have f10 : s6.1 k0 6 = s5.1 k0 6 := by rw [h8.2, wupI_n (by omega)]
    have f11 : s6.1 k0 1 = s5.1 k0 1 := by rw [h8.2, wupI_n (by omega)]
    refine t_bind (t_stI (B := (bZ k0)) (n := 12) (by (try simp only [Int32.lt_iff_toInt_lt, Int32.le_iff_toInt_le, ← Int32.toInt_inj, Int32.reduceToInt] at *) <;> omega) (by (try simp only [Int32.lt_iff_toInt_lt, Int32.le_iff_toInt_le, ← Int32.toInt_inj, Int32.reduceToInt] at *) <;> omega) (fun b => bZ_p (by omega))) (fun s7 h12 => ?_)
    have a13 := a9.trans h12.1
    have f14 : s7.1 k0 6 = s6.1 k0 6 := by rw [h12.2, wupI_n (by omega)]
    refine t_bind (t_pfI (B := (bZ k0)) (bZ_p (by omega))) (fun s8 h15 => ?_)
    have a16 := a13.trans h15.1
    exact t_some a16
  · exact t_some wA.refl
theorem wX4_readValue_j34_Z {kk : Nat} {s : wS}  : Tot (wX4_readValue_j34 s) (fun (r : wS) => wA (bZ kk) s r) := by
  unfold wX4_readValue_j34
  refine t_bind ((wX9_fail_Z (kk := kk))) (fun s7 h1 => ?_)
  exact t_some h1
theorem wX4_readValue_j111_Z {k100 : Nat} {y1 : Int32} {s : wS} (hk100 : wkd k100 = 3) : Tot (wX4_readValue_j111 k100 y1 s) (fun (r : wS) => wA (bZ k100) s r) := by
  unfold wX4_readValue_j111
  refine t_bind (wX3_put_Z hk100) (fun s15 h1 => ?_)
  refine t_bind ((wX9_skip_Z (kk := k100))) (fun s18 h2 => ?_)
  have a3 := h1.trans h2
  exact t_some a3
theorem wX4_readValue_j67_Z {k2 : Nat} {x3 : Int32} {x4 : Int32} {s : wS} (hk2 : wkd k2 = 3) : Tot (wX4_readValue_j67 k2 x3 x4 s) (fun (r : wS) => wA (bZ k2) s r) := by
  unfold wX4_readValue_j67
  refine t_ite (fun c1 => ?_) (fun c1 => ?_)
  · refine t_bind (t_pfI (B := (bZ k2)) rfl) (fun s12 h2 => ?_)
    refine t_ite (fun c3 => ?_) (fun c3 => ?_)
    · exact t_mono (wX4_readValue_j111_Z hk2) (fun r h => (h2.1.trans h))
    · refine t_bind (wX9_number_T) (fun t20 h4 => ?_)
      exact t_mono (wX4_readValue_j111_Z hk2) (fun r h => (h2.1.trans h))
  · refine t_bind ((wX9_fail_Z (kk := k2))) (fun s23 h5 => ?_)
    exact t_some h5
theorem wX4_readValue_j42_Z {k2 : Nat} {x3 : Int32} {x4 : Int32} {s : wS} (hk2 : wkd k2 = 3) : Tot (wX4_readValue_j42 k2 x3 x4 s) (fun (r : wS) => wA (bZ k2) s r) := by
  unfold wX4_readValue_j42
  refine t_ite (fun c1 => ?_) (fun c1 => ?_)
  · exact t_mono (wX4_readValue_j67_Z hk2) (fun r h => h)
  · refine t_bind (wX9_number_T) (fun t25 h2 => ?_)
    refine t_bind (wX10_isOutside_T) (fun t27 h3 => ?_)
    refine t_ite (fun c4 => ?_) (fun c4 => ?_)
    · exact t_mono (wX4_readValue_j67_Z hk2) (fun r h => h)
    · refine t_bind ((wX9_fail_Z (kk := k2))) (fun s31 h5 => ?_)
      exact t_some h5
theorem wX4_readValue_j15_Z {k2 : Nat} {x3 : Int32} {y0 : Int32} {s : wS} (hk2 : wkd k2 = 3) : Tot (wX4_readValue_j15 k2 x3 y0 s) (fun (r : wS) => wA (bZ k2) s r) := by
  unfold wX4_readValue_j15
  refine t_ite (fun c1 => ?_) (fun c1 => ?_)
  · refine t_ite (fun c2 => ?_) (fun c2 => ?_)
    · exact t_mono ((wX4_readValue_j34_Z (kk := k2))) (fun r h => h)
    · refine t_ite (fun c3 => ?_) (fun c3 => ?_)
      · exact t_mono ((wX4_readValue_j34_Z (kk := k2))) (fun r h => h)
      · exact t_mono (wX4_readValue_j42_Z hk2) (fun r h => h)
  · exact t_mono (wX4_readValue_j42_Z hk2) (fun r h => h)
theorem wX4_readValue_Z {k2 : Nat} {s : wS} (hk2 : wkd k2 = 3) : Tot (wX4_readValue k2 s) (fun (r : wS) => wA (bZ k2) s r) := by
  unfold wX4_readValue
  refine t_bind (wX9_sign_T) (fun t1 h1 => ?_)
  refine t_ite (fun c2 => ?_) (fun c2 => ?_)
  · exact t_mono (wX4_readValue_j15_Z hk2) (fun r h => h)
  · exact t_mono (wX4_readValue_j15_Z hk2) (fun r h => h)
theorem wX4_readSum_h11_Z {k2 : Nat} (hk2 : wkd k2 = 3)  : ∀ (n : Nat) {x3 : Int32} {x4 : Int32} {s : wS}, 2147483648 - x4.toInt < (n : Int) → Tot (wX4_readSum_h11 k2 n x3 x4 s) (Sum.elim (fun (r : Int32 × wS) => wA (bZ k2) s r.2) (fun (r : Int32 × wS) => wA (bZ k2) s r.2)) := by
  intro n
  induction n with
  | zero =>
    intro x3 x4 s hm
    exact (t_m0 hm).elim
  | succ n ih =>
    intro x3 x4 s hm
    rw [wX4_readSum_h11]
    refine t_ite (fun c1 => ?_) (fun c1 => ?_)
    · refine t_bind (wX9_sign_T) (fun t5 h2 => ?_)
      refine t_ite (fun c3 => ?_) (fun c3 => ?_)
      · exact t_some wA.refl
      · refine t_ite (fun c4 => ?_) (fun c4 => ?_)
        · exact t_some wA.refl
        · refine t_bind ((wX9_skip_Z (kk := k2))) (fun s10 h5 => ?_)
          refine t_ite (fun c6 => ?_) (fun c6 => ?_)
          · unfold wX4_readSum_j60
            refine t_bind (wX4_readValue_Z hk2) (fun s14 h7 => ?_)
            have a8 := h5.trans h7
            refine t_bind (wX3_put_Z hk2) (fun s17 h9 => ?_)
            have a10 := a8.trans h9
            unfold wX4_readSum_j89
            exact t_mono (ih (t_m1 c1 hm)) (fun r h => match r, h with | .inl r, h => (a10.trans h) | .inr r, h => (a10.trans h))
          · refine t_ite (fun c11 => ?_) (fun c11 => ?_)
            · unfold wX4_readSum_j60
              refine t_bind (wX4_readValue_Z hk2) (fun s14 h12 => ?_)
              have a13 := h5.trans h12
              refine t_bind (wX3_put_Z hk2) (fun s17 h14 => ?_)
              have a15 := a13.trans h14
              unfold wX4_readSum_j89
              exact t_mono (ih (t_m1 c1 hm)) (fun r h => match r, h with | .inl r, h => (a15.trans h) | .inr r, h => (a15.trans h))
            · refine t_bind (wX3_put_Z hk2) (fun s21 h16 => ?_)
              have a17 := h5.trans h16
              refine t_bind (wX4_readValue_Z hk2) (fun s24 h18 => ?_)
              have a19 := a17.trans h18
              unfold wX4_readSum_j89
              exact t_mono (ih (t_m1 c1 hm)) (fun r h => match r, h with | .inl r, h => (a19.trans h) | .inr r, h => (a19.trans h))
    · exact t_some wA.refl
theorem wX4_readSum_j95_Z {k2 : Nat} {x3 : Int32} {s : wS} (hk2 : wkd k2 = 3) : Tot (wX4_readSum_j95 k2 x3 s) (fun (r : wS) => wA (bZ k2) s r) := by
  unfold wX4_readSum_j95
  refine t_bind (wX3_put_Z hk2) (fun s32 h1 => ?_)
  exact t_some h1
theorem wX4_readSum_Z {k2 : Nat} {s : wS} (hk2 : wkd k2 = 3) : Tot (wX4_readSum k2 s) (fun (r : wS) => wA (bZ k2) s r) := by
  unfold wX4_readSum
  refine t_bind (wX4_readValue_Z hk2) (fun s2 h1 => ?_)
  refine t_bind (wX4_readSum_h11_Z hk2 _   t_mi) (fun z26 h2 => ?_)
  rcases z26 with z26 | z26
  · obtain ⟨t27, s28⟩ := z26
    simp only [Sum.elim_inl, Sum.elim_inr] at h2
    dsimp only
    have a3 := h1.trans h2
    exact t_mono (wX4_readSum_j95_Z hk2) (fun r h => (a3.trans h))
  · obtain ⟨t34, s35⟩ := z26
    simp only [Sum.elim_inl, Sum.elim_inr] at h2
    dsimp only
    have a4 := h1.trans h2
    exact t_mono (wX4_readSum_j95_Z hk2) (fun r h => (a4.trans h))
theorem wX4_readTest_h13_Z {q : Nat → Int32 → wS → Option wS} {k2 : Nat} {x3 : Int32} (hq : ∀ s1, Tot (q k2 x3 s1) (fun r => wA (bZ k2) s1 r)) (hk2 : wkd k2 = 3)  : ∀ (n : Nat) {x4 : Int32} {x5 : Int32} {s : wS}, 2147483648 - x5.toInt < (n : Int) → Tot (wX4_readTest_h13 q k2 x3 n x4 x5 s) (fun (r : Int32 × wS) => wA (bZ k2) s r.2) := by
  intro n
  induction n with
  | zero =>
    intro x4 x5 s hm
    exact (t_m0 hm).elim
  | succ n ih =>
    intro x4 x5 s hm
    rw [wX4_readTest_h13]
    refine t_ite (fun c1 => ?_) (fun c1 => ?_)
    · refine t_bind ((wX9_take_Z (kk := k2))) (fun r3 h2 => ?_)
      obtain ⟨t5, s6⟩ := r3
      dsimp only at h2 ⊢
      refine t_ite (fun c4 => ?_) (fun c4 => ?_)
      · refine t_bind ((wX9_take_Z (kk := k2))) (fun r6 h5 => ?_)
        obtain ⟨t9, s10⟩ := r6
        dsimp only at h5 ⊢
        have a7 := h2.1.trans h5.1
        refine t_ite (fun c8 => ?_) (fun c8 => ?_)
        · exact t_some a7
        · refine t_ite (fun c9 => ?_) (fun c9 => ?_)
          · unfold wX4_readTest_j66
            refine t_bind (hq _) (fun s15 h10 => ?_)
            have a11 := a7.trans h10
            unfold wX4_readTest_j76
            exact t_mono (ih (t_m1 c1 hm)) (fun r h => (a11.trans h))
          · refine t_bind (wX3_put_Z hk2) (fun s18 h12 => ?_)
            have a13 := a7.trans h12
            unfold wX4_readTest_j66
            refine t_bind (hq _) (fun s15 h14 => ?_)
            have a15 := a13.trans h14
            unfold wX4_readTest_j76
            exact t_mono (ih (t_m1 c1 hm)) (fun r h => (a15.trans h))
      · refine t_bind (hq _) (fun s21 h16 => ?_)
        have a17 := h2.1.trans h16
        refine t_bind (wX3_put_Z hk2) (fun s24 h18 => ?_)
        have a19 := a17.trans h18
        unfold wX4_readTest_j76
        exact t_mono (ih (t_m1 c1 hm)) (fun r h => (a19.trans h))
    · exact t_some wA.refl
theorem wX4_readTest_j82_Z {q : Nat → Int32 → wS → Option wS} {k2 : Nat} {x4 : Int32} {s : wS} (hk2 : wkd k2 = 3) : Tot (wX4_readTest_j82 q k2 x4 s) (fun (r : wS) => wA (bZ k2) s r) := by
  unfold wX4_readTest_j82
  refine t_ite (fun c1 => ?_) (fun c1 => ?_)
  · exact t_some wA.refl
  · refine t_bind (wX3_put_Z hk2) (fun s33 h2 => ?_)
    exact t_some h2
theorem wX4_readTest_b_Z {q : Nat → Int32 → wS → Option wS} {k2 : Nat} {x3 : Int32} {s : wS} (hq : ∀ s1, Tot (q k2 x3 s1) (fun r => wA (bZ k2) s1 r)) (hk2 : wkd k2 = 3) : Tot (wX4_readTest_b q k2 x3 s) (fun (r : wS) => wA (bZ k2) s r) := by
  unfold wX4_readTest_b
  refine t_bind (hq _) (fun s2 h1 => ?_)
  refine t_bind (wX4_readTest_h13_Z hq hk2 _   t_mi) (fun r3 h2 => ?_)
  obtain ⟨t27, s28⟩ := r3
  dsimp only at h2 ⊢
  have a4 := h1.trans h2
  exact t_mono (wX4_readTest_j82_Z hk2) (fun r h => (a4.trans h))
theorem wX4_readFact_j153_Z {q : Nat → Int32 → wS → Option wS} {k2 : Nat} {x6 : Int32} {s : wS} (hk2 : wkd k2 = 3) : Tot (wX4_readFact_j153 q k2 x6 s) (fun (r : wS) => wA (bZ k2) s r) := by
  unfold wX4_readFact_j153
  refine t_bind (t_pfI (B := (bZ k2)) rfl) (fun s22 h1 => ?_)
  refine t_bind ((wX9_skip_Z (kk := k2))) (fun s24 h2 => ?_)
  have a3 := h1.1.trans h2
  refine t_bind (wX4_readSum_Z hk2) (fun s27 h4 => ?_)
  have a5 := a3.trans h4
  refine t_bind (wX3_put_Z hk2) (fun s30 h6 => ?_)
  have a7 := a5.trans h6
  exact t_some a7
theorem wX4_readFact_j131_Z {q : Nat → Int32 → wS → Option wS} {k2 : Nat} {x6 : Int32} {s : wS} (hk2 : wkd k2 = 3) : Tot (wX4_readFact_j131 q k2 x6 s) (fun (r : wS) => wA (bZ k2) s r) := by
  unfold wX4_readFact_j131
  refine t_bind ((wX9_fail_Z (kk := k2))) (fun s20 h1 => ?_)
  exact t_mono (wX4_readFact_j153_Z hk2) (fun r h => (h1.trans h))
theorem wX4_readFact_j45_Z {q : Nat → Int32 → wS → Option wS} {k2 : Nat} {x3 : Int32} {s : wS} (hk2 : wkd k2 = 3) (hq : (sv s = 22 ∨ sv s = 4) → ∀ s1, Tot (q k2 (x3 + 1) s1) (fun r => wA (bZ k2) s1 r)) : Tot (wX4_readFact_j45 q k2 x3 s) (fun (r : wS) => wA (bZ k2) s r) := by
  unfold wX4_readFact_j45
  refine t_bind (wX9_take_Z (kk := k2)) (fun r h1 => ?_)
  obtain ⟨t5, s6⟩ := r
  obtain ⟨h1, h2⟩ := h1
  dsimp only at h1 h2 ⊢
  refine t_ite (fun c5 => ?_) (fun c5 => ?_)
  · rcases h2 with ⟨h2, -⟩ | h2
    · rw [c5] at h2; exact absurd h2 (by decide)
    obtain ⟨-, rfl⟩ := Prod.mk.inj h2
    refine t_bind (wX9_take_Z (kk := k2)) (fun r h3 => ?_)
    obtain ⟨t9, s10⟩ := r
    obtain ⟨h3, h4⟩ := h3
    dsimp only at h3 h4 ⊢
    refine t_ite (fun c9 => ?_) (fun c9 => ?_)
    · refine t_bind (wX4_readSum_Z hk2) (fun s14 h14 => ?_)
      have a := h3.trans h14
      refine t_bind wX9_sign_T (fun t16 h16 => ?_)
      have z131 : Tot (wX4_readFact_j131 q k2 t16 s14) (fun (r : wS) => wA (bZ k2) s6 r) := t_mono (wX4_readFact_j131_Z hk2) (fun r h => a.trans h)
      refine t_ite (fun _ => z131) (fun _ => t_ite (fun _ => z131) (fun _ => t_ite (fun _ => ?_) (fun _ => ?_)))
      · exact t_mono (wX4_readFact_j153_Z hk2) (fun r h => a.trans h)
      · refine t_bind (wX9_fail_Z (kk := k2)) (fun s35 h35 => ?_)
        exact t_mono (wX4_readFact_j153_Z hk2) (fun r h => (a.trans h35).trans h)
    · have h5 : sv s6 = 4 := by
        rcases h4 with h4 | h4
        · exact h4.2
        · exact absurd (Prod.mk.inj h4).1 c9
      refine t_bind (wX4_readTest_b_Z (hq (Or.inr h5)) hk2) (fun s38 h38 => ?_)
      have a := h3.trans h38
      refine t_bind (wX9_take_Z (kk := k2)) (fun r h6 => ?_)
      obtain ⟨t40, s41⟩ := r
      obtain ⟨h6, -⟩ := h6
      dsimp only at h6 ⊢
      refine t_ite (fun _ => ?_) (fun _ => t_some (a.trans h6))
      exact t_bind (wX9_fail_Z (kk := k2)) (fun s45 h45 => t_some ((a.trans h6).trans h45))
  · have h5 : sv s = 22 := by
      rcases h2 with h4 | h4
      · exact h4.2
      · exact absurd (Prod.mk.inj h4).1 c5
    refine t_bind (hq (Or.inl h5) _) (fun s48 h48 => ?_)
    refine t_bind (wX3_put_Z hk2) (fun s51 h51 => t_some ((h1.trans h48).trans h51))
theorem wX4_readFact_b_Z {q : Nat → Int32 → wS → Option wS} {k2 : Nat} {x3 : Int32} {s : wS} (hk2 : wkd k2 = 3) (hq : x3 < 10 → ∀ s1, Tot (q k2 (x3 + 1) s1) (fun r => wA (bZ k2) s1 r)) : Tot (wX4_readFact_b q k2 x3 s) (fun (r : wS) => wA (bZ k2) s r) := by
  unfold wX4_readFact_b
  have j : Tot (wX4_readFact_j19 q k2 x3 s) (fun (r : wS) => wA (bZ k2) s r) := by
    unfold wX4_readFact_j19 wX4_readFact_j24
    refine t_ite (fun c => absurd c (by decide)) (fun _ => t_ite (fun c => wX4_readFact_j45_Z hk2 (fun _ => hq c)) (fun _ => ?_))
    exact t_bind (wX9_fail_Z (kk := k2)) (fun s55 h => t_some h)
  refine t_bind wX9_sign_T (fun t1 h1 => t_ite (fun _ => j) (fun c1 => t_ite (fun _ => j) (fun c2 => ?_)))
  unfold wX4_readFact_j24
  refine t_ite (fun _ => wX4_readFact_j45_Z hk2 (fun h => ?_)) (fun c => absurd rfl c)
  rw [← h1] at h
  rcases h with h | h
  · exact absurd h c1
  · exact absurd h c2
theorem wX4_readFact_Z : ∀ (n : Nat) {k : Nat} {a : Int32} {s : wS}, wkd k = 3 → 10 - a.toInt < (n : Int) → a.toInt ≤ 10 → Tot (wX4_readFact n k a s) (fun (r : wS) => wA (bZ k) s r) := by
  intro n
  induction n with
  | zero => intro k a s hk h1 h2; exfalso; omega
  | succ n ih =>
    intro k a s hk h1 h2
    rw [wX4_readFact]
    refine wX4_readFact_b_Z hk (fun c s1 => ?_)
    have e := t_inc c
    have h3 := t_lt c
    have e10 : (10 : Int32).toInt = 10 := rfl
    rw [e10] at h3
    exact ih hk (by rw [e]; omega) (by rw [e]; omega)
theorem wX4_readTest_Z {k : Nat} {s : wS} (hk : wkd k = 3) : Tot (wX4_readTest k 0 s) (fun (r : wS) => wA (bZ k) s r) := by
  unfold wX4_readTest
  exact wX4_readTest_b_Z (fun s1 => wX4_readFact_Z 16 hk (by decide) (by decide)) hk
theorem wX4_read_h14_Z {k2 : Nat} (hk2 : wkd k2 = 3)  : ∀ (n : Nat) {x3 : Int32} {x4 : Int32} {s : wS}, 2147483648 - x4.toInt < (n : Int) → Tot (wX4_read_h14 k2 n x3 x4 s) (fun (r : wS) => wA (bZ k2) s r) := by
  intro n
  induction n with
  | zero =>
    intro x3 x4 s hm
    exact (t_m0 hm).elim
  | succ n ih =>
    intro x3 x4 s hm
    rw [wX4_read_h14]
    refine t_ite (fun c1 => ?_) (fun c1 => ?_)
    · refine t_ite (fun c2 => ?_) (fun c2 => ?_)
      · exact t_some wA.refl
      · refine t_bind (wX9_sign_T) (fun t7 h3 => ?_)
        refine t_bind (wX4_kindOf_T) (fun t9 h4 => ?_)
        refine t_ite (fun c5 => ?_) (fun c5 => ?_)
        · refine t_bind ((wX9_fail_Z (kk := k2))) (fun s13 h6 => ?_)
          unfold wX4_read_j63
          refine t_bind ((wX9_skip_Z (kk := k2))) (fun s16 h7 => ?_)
          have a8 := h6.trans h7
          refine t_bind (wX4_readSum_Z hk2) (fun s19 h9 => ?_)
          have a10 := a8.trans h9
          refine t_bind ((wX9_take_Z (kk := k2))) (fun r12 h11 => ?_)
          obtain ⟨t21, s22⟩ := r12
          dsimp only at h11 ⊢
          have a13 := a10.trans h11.1
          refine t_ite (fun c14 => ?_) (fun c14 => ?_)
          · unfold wX4_read_j101
            refine t_bind (wX3_addClause_Z hk2) (fun s26 h15 => ?_)
            have a16 := a13.trans h15
            refine t_bind ((wX9_take_Z (kk := k2))) (fun r18 h17 => ?_)
            obtain ⟨t28, s29⟩ := r18
            dsimp only at h17 ⊢
            have a19 := a16.trans h17.1
            exact t_mono (ih (t_m1 c1 hm)) (fun r h => (a19.trans h))
          · refine t_bind (wX4_readTest_Z hk2) (fun s32 h20 => ?_)
            have a21 := a13.trans h20
            unfold wX4_read_j101
            refine t_bind (wX3_addClause_Z hk2) (fun s26 h22 => ?_)
            have a23 := a21.trans h22
            refine t_bind ((wX9_take_Z (kk := k2))) (fun r25 h24 => ?_)
            obtain ⟨t28, s29⟩ := r25
            dsimp only at h24 ⊢
            have a26 := a23.trans h24.1
            exact t_mono (ih (t_m1 c1 hm)) (fun r h => (a26.trans h))
        · refine t_ite (fun c27 => ?_) (fun c27 => ?_)
          · unfold wX4_read_j63
            refine t_bind ((wX9_skip_Z (kk := k2))) (fun s16 h28 => ?_)
            refine t_bind (wX4_readSum_Z hk2) (fun s19 h29 => ?_)
            have a30 := h28.trans h29
            refine t_bind ((wX9_take_Z (kk := k2))) (fun r32 h31 => ?_)
            obtain ⟨t21, s22⟩ := r32
            dsimp only at h31 ⊢
            have a33 := a30.trans h31.1
            refine t_ite (fun c34 => ?_) (fun c34 => ?_)
            · unfold wX4_read_j101
              refine t_bind (wX3_addClause_Z hk2) (fun s26 h35 => ?_)
              have a36 := a33.trans h35
              refine t_bind ((wX9_take_Z (kk := k2))) (fun r38 h37 => ?_)
              obtain ⟨t28, s29⟩ := r38
              dsimp only at h37 ⊢
              have a39 := a36.trans h37.1
              exact t_mono (ih (t_m1 c1 hm)) (fun r h => (a39.trans h))
            · refine t_bind (wX4_readTest_Z hk2) (fun s32 h40 => ?_)
              have a41 := a33.trans h40
              unfold wX4_read_j101
              refine t_bind (wX3_addClause_Z hk2) (fun s26 h42 => ?_)
              have a43 := a41.trans h42
              refine t_bind ((wX9_take_Z (kk := k2))) (fun r45 h44 => ?_)
              obtain ⟨t28, s29⟩ := r45
              dsimp only at h44 ⊢
              have a46 := a43.trans h44.1
              exact t_mono (ih (t_m1 c1 hm)) (fun r h => (a46.trans h))
          · refine t_bind ((wX9_fail_Z (kk := k2))) (fun s36 h47 => ?_)
            unfold wX4_read_j63
            refine t_bind ((wX9_skip_Z (kk := k2))) (fun s16 h48 => ?_)
            have a49 := h47.trans h48
            refine t_bind (wX4_readSum_Z hk2) (fun s19 h50 => ?_)
            have a51 := a49.trans h50
            refine t_bind ((wX9_take_Z (kk := k2))) (fun r53 h52 => ?_)
            obtain ⟨t21, s22⟩ := r53
            dsimp only at h52 ⊢
            have a54 := a51.trans h52.1
            refine t_ite (fun c55 => ?_) (fun c55 => ?_)
            · unfold wX4_read_j101
              refine t_bind (wX3_addClause_Z hk2) (fun s26 h56 => ?_)
              have a57 := a54.trans h56
              refine t_bind ((wX9_take_Z (kk := k2))) (fun r59 h58 => ?_)
              obtain ⟨t28, s29⟩ := r59
              dsimp only at h58 ⊢
              have a60 := a57.trans h58.1
              exact t_mono (ih (t_m1 c1 hm)) (fun r h => (a60.trans h))
            · refine t_bind (wX4_readTest_Z hk2) (fun s32 h61 => ?_)
              have a62 := a54.trans h61
              unfold wX4_read_j101
              refine t_bind (wX3_addClause_Z hk2) (fun s26 h63 => ?_)
              have a64 := a62.trans h63
              refine t_bind ((wX9_take_Z (kk := k2))) (fun r66 h65 => ?_)
              obtain ⟨t28, s29⟩ := r66
              dsimp only at h65 ⊢
              have a67 := a64.trans h65.1
              exact t_mono (ih (t_m1 c1 hm)) (fun r h => (a67.trans h))
    · exact t_some wA.refl
theorem wX4_read_j123_Z {kk : Nat} {s : wS}  : Tot (wX4_read_j123 s) (fun (r : wS) => wA (bZ kk) s r) := by
  unfold wX4_read_j123
  refine t_bind (wX9_sign_T) (fun t46 h1 => ?_)
  refine t_ite (fun c2 => ?_) (fun c2 => ?_)
  · exact t_some wA.refl
  · refine t_bind ((wX9_fail_Z (kk := kk))) (fun s50 h3 => ?_)
    exact t_some h3
theorem wX4_read_Z {k2 : Nat} {s : wS} (hk2 : wkd k2 = 3) : Tot (wX4_read k2 s) (fun (r : wS) => wA (bZ k2) s r) := by
  unfold wX4_read
  refine t_bind (t_pfI (B := (bZ k2)) rfl) (fun s1 h1 => ?_)
  refine t_bind (wX3_clear_Z hk2) (fun s3 h2 => ?_)
  have a3 := h1.1.trans h2
  refine t_bind (wX4_read_h14_Z hk2 _   t_mi) (fun s39 h4 => ?_)
  have a5 := a3.trans h4
  exact t_mono ((wX4_read_j123_Z (kk := k2))) (fun r h => (a5.trans h))
