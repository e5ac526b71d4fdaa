/-! The reference: FAR of all things. -/
theorem t_c2 {c : Int32} {n : Int} {x : Int32} (hc : c.toInt = n) (hn : 0 ≤ n) (hn2 : n ≤ 300) (hx : 0 ≤ x.toInt) (hx2 : x.toInt ≤ 20) : (c + 2 * x).toInt = n + 2 * x.toInt := by
  have e2 : (2 : Int32).toInt = 2 := rfl
  have h1 : (2 * x).toInt = 2 * x.toInt := by rw [t_mul (by rw [e2]; omega) (by rw [e2]; omega), e2]
  rw [t_add (by rw [h1, hc]; omega) (by rw [h1, hc]; omega), h1, hc]
theorem t_c2a {c d : Int32} {n m : Int} {x : Int32} (hc : c.toInt = n) (hd : d.toInt = m) (hn : 0 ≤ n) (hn2 : n ≤ 300) (hm : 0 ≤ m) (hm2 : m ≤ 300) (hx : 0 ≤ x.toInt) (hx2 : x.toInt ≤ 20) : ((c + 2 * x) + d).toInt = n + 2 * x.toInt + m := by
  have h := t_c2 hc hn hn2 hx hx2
  rw [t_add (by rw [h, hd]; omega) (by rw [h, hd]; omega), h, hd]
theorem wX11_apart_T {x0 x1 : Int32} {s : wS} : Tot (wX11_apart x0 x1 s) (fun _ => True) := by
  unfold wX11_apart
  exact t_ite (fun _ => t_some trivial) (fun _ => t_some trivial)
theorem wX11_words_h3_T {x1 x2 x3 : Int32} : ∀ (n : Nat) {x4 : Int32} {s : wS}, 0 ≤ x4.toInt → 2147483648 - x4.toInt < (n : Int) → Tot (wX11_words_h3 x1 x2 x3 n x4 s) (fun r => wA bP s r) := by
  intro n
  induction n with
  | zero => intro x4 s hi hm; exact (t_m0 hm).elim
  | succ n ih =>
    intro x4 s hi hm
    rw [wX11_words_h3]
    refine t_ite (fun c => ?_) (fun _ => t_some wA.refl)
    have h2 := t_lt c
    rw [show (8 : Int32).toInt = 8 from rfl] at h2
    refine t_bind (t_stL (B := bP) (n := 8) hi (by omega)) (fun s2 h => ?_)
    exact t_mono (ih (t_n1 c hi) (t_m1 c hm)) (fun r hr => h.1.trans hr)
theorem wX11_words_j125_T {x1 x2 x3 : Int32} {s : wS} (h2 : 0 ≤ x2.toInt) (h2b : x2.toInt < 8) (h3 : 0 ≤ x3.toInt) (h3b : x3.toInt < 8) : Tot (wX11_words_j125 x1 x2 x3 s) (fun r => wA bP s r) := by
  unfold wX11_words_j125
  refine t_ite (fun c => ?_) (fun _ => t_some wA.refl)
  have a2 := t_c2 (c := 26) (n := 26) (x := x2) rfl (by omega) (by omega) h2 (by omega)
  have a3 := t_c2 (c := 26) (n := 26) (x := x3) rfl (by omega) (by omega) h3 (by omega)
  have b2 := t_c2a (c := 26) (n := 26) (d := 1) (m := 1) (x := x2) rfl rfl (by omega) (by omega) (by omega) (by omega) h2 (by omega)
  have b3 := t_c2a (c := 26) (n := 26) (d := 1) (m := 1) (x := x3) rfl rfl (by omega) (by omega) (by omega) (by omega) h3 (by omega)
  refine t_bind (t_ldI (n := 262) (by omega) (by omega)) (fun t23 _ => ?_)
  refine t_bind (t_stL (B := bP) (n := 8) (by decide) (by decide)) (fun s24 h24 => ?_)
  refine t_bind (t_ldI (n := 262) (by omega) (by omega)) (fun t25 _ => ?_)
  refine t_bind (t_ldI (n := 262) (by omega) (by omega)) (fun t26 _ => ?_)
  refine t_bind wX11_apart_T (fun t27 _ => ?_)
  refine t_bind (t_stL (B := bP) (n := 8) (by decide) (by decide)) (fun s29 h29 => ?_)
  refine t_bind (t_ldI (n := 262) (by omega) (by omega)) (fun t30 _ => ?_)
  refine t_bind (t_ldI (n := 262) (by omega) (by omega)) (fun t31 _ => ?_)
  unfold wX11_words_j221
  refine t_ite (fun _ => ?_) (fun _ => ?_)
  · exact t_bind (t_stL (B := bP) (n := 8) (by decide) (by decide)) (fun s33 h33 => t_some ((h24.1.trans h29.1).trans h33.1))
  · exact t_bind (t_stL (B := bP) (n := 8) (by decide) (by decide)) (fun s33 h33 => t_some ((h24.1.trans h29.1).trans h33.1))
theorem wX11_words_T {x1 x2 x3 : Int32} {s : wS} (h2 : 0 ≤ x2.toInt) (h2b : x2.toInt < 8) (h3 : 0 ≤ x3.toInt) (h3b : x3.toInt < 8) : Tot (wX11_words x1 x2 x3 s) (fun r => wA bP s r) := by
  unfold wX11_words
  have a2 := t_c2 (c := 10) (n := 10) (x := x2) rfl (by omega) (by omega) h2 (by omega)
  have a3 := t_c2 (c := 10) (n := 10) (x := x3) rfl (by omega) (by omega) h3 (by omega)
  have b2 := t_c2a (c := 10) (n := 10) (d := 1) (m := 1) (x := x2) rfl rfl (by omega) (by omega) (by omega) (by omega) h2 (by omega)
  have b3 := t_c2a (c := 10) (n := 10) (d := 1) (m := 1) (x := x3) rfl rfl (by omega) (by omega) (by omega) (by omega) h3 (by omega)
  refine t_bind (wX11_words_h3_T _ (by decide) t_mi) (fun s4 h4 => ?_)
  refine t_bind (t_stL (B := bP) (n := 8) (by decide) (by decide)) (fun s6 h6 => ?_)
  refine t_bind (t_stL (B := bP) (n := 8) (by decide) (by decide)) (fun s7 h7 => ?_)
  refine t_bind wX11_apart_T (fun t8 _ => ?_)
  refine t_bind (t_stL (B := bP) (n := 8) (by decide) (by decide)) (fun s10 h10 => ?_)
  have a := ((h4.trans h6.1).trans h7.1).trans h10.1
  refine t_ite (fun _ => ?_) (fun _ => t_mono (wX11_words_j125_T h2 h2b h3 h3b) (fun r h => a.trans h))
  refine t_bind (t_ldI (n := 262) (by omega) (by omega)) (fun t12 _ => ?_)
  refine t_bind (t_ldI (n := 262) (by omega) (by omega)) (fun t13 _ => ?_)
  refine t_bind wX11_apart_T (fun t14 _ => ?_)
  refine t_bind (t_stL (B := bP) (n := 8) (by decide) (by decide)) (fun s16 h16 => ?_)
  refine t_bind (t_ldI (n := 262) (by omega) (by omega)) (fun t17 _ => ?_)
  refine t_bind (t_ldI (n := 262) (by omega) (by omega)) (fun t18 _ => ?_)
  refine t_bind wX11_apart_T (fun t19 _ => ?_)
  refine t_bind (t_stL (B := bP) (n := 8) (by decide) (by decide)) (fun s21 h21 => ?_)
  exact t_mono (wX11_words_j125_T h2 h2b h3 h3b) (fun r h => ((a.trans h16.1).trans h21.1).trans h)
theorem t_cl {l c : Int32} (hl : 0 ≤ l.toInt) (hl2 : l.toInt < 6) (hc : 0 ≤ c.toInt) (hc2 : c.toInt < 12) : ((60 * l) + (5 * c)).toInt = 60 * l.toInt + 5 * c.toInt := by
  have e6 : (60 : Int32).toInt = 60 := rfl
  have e5 : (5 : Int32).toInt = 5 := rfl
  have h1 : (60 * l).toInt = 60 * l.toInt := by rw [t_mul (by rw [e6]; omega) (by rw [e6]; omega), e6]
  have h2 : (5 * c).toInt = 5 * c.toInt := by rw [t_mul (by rw [e5]; omega) (by rw [e5]; omega), e5]
  rw [t_add (by rw [h1, h2]; omega) (by rw [h1, h2]; omega), h1, h2]
theorem t_pl {x d : Int32} {m : Int} (hd : d.toInt = m) (hm : 0 ≤ m) (hm2 : m ≤ 300) (hx : 0 ≤ x.toInt) (hx2 : x.toInt ≤ 100000) : (x + d).toInt = x.toInt + m := by
  rw [t_add (by rw [hd]; omega) (by rw [hd]; omega), hd]
theorem wX11_farBy_h11_T {x1 x2 : Int32} {s0 : wS} (hR : RQ s0) (hl : 0 ≤ x1.toInt) (hl2 : x1.toInt < (s0.1 152 2).toInt) : ∀ (n : Nat) {x5 : Int32} {s : wS}, wA bP s0 s → 0 ≤ x5.toInt → 2147483648 - x5.toInt < (n : Int) → Tot (wX11_farBy_h11 x1 x2 n x5 s) (Sum.elim (fun r => wA bP s0 r) (fun r => wA bP s0 r.2 ∧ ∃ c : Nat, (c : Int) < (s0.1 157 x1.toNatClampNeg).toInt ∧ r.1.toInt = 60 * x1.toInt + 5 * c)) := by
  intro n
  induction n with
  | zero => intro x5 s ha hi hm; exact (t_m0 hm).elim
  | succ n ih =>
    intro x5 s ha hi hm
    rw [wX11_farBy_h11]
    have hb := RQ_b hR
    have hL := hR.2.2 x1.toNatClampNeg (by unfold Int32.toNatClampNeg; omega)
    obtain ⟨hL1, hL2⟩ := hL
    obtain ⟨q1, q2, q3, q4, q5⟩ := sameP ha
    refine t_bind (t_ldI (n := 6) hl (by omega)) (fun t4 h4 => ?_)
    rw [q2] at h4
    refine t_ite (fun c => ?_) (fun _ => t_some ha)
    have hc := t_lt c
    rw [h4] at hc
    have e := t_cl (c := x5) hl (by omega) hi (by omega)
    have e3 := t_pl (x := (60 * x1) + (5 * x5)) (d := 3) (m := 3) rfl (by omega) (by omega) (by omega) (by omega)
    have e4 := t_pl (x := (60 * x1) + (5 * x5)) (d := 4) (m := 4) rfl (by omega) (by omega) (by omega) (by omega)
    have go : ∀ s1, wA bP s0 s1 → Tot (wX11_farBy_j111 (wX11_farBy_h11 x1 x2 n) x1 x2 x5 s1) (Sum.elim (fun r => wA bP s0 r) (fun r => wA bP s0 r.2 ∧ ∃ c : Nat, (c : Int) < (s0.1 157 x1.toNatClampNeg).toInt ∧ r.1.toInt = 60 * x1.toInt + 5 * c)) := fun s1 h1 => by
      unfold wX11_farBy_j111
      exact ih h1 (t_n1 c hi) (t_m1 c hm)
    have fin : ∀ s1, wA bP s0 s1 → Sum.elim (fun (r : wS) => wA bP s0 r) (fun (r : Int32 × wS) => wA bP s0 r.2 ∧ ∃ c : Nat, (c : Int) < (s0.1 157 x1.toNatClampNeg).toInt ∧ r.1.toInt = 60 * x1.toInt + 5 * c) (.inr ((60 * x1) + (5 * x5), s1)) := fun s1 h1 => ⟨h1, x5.toNatClampNeg, by unfold Int32.toNatClampNeg at *; omega, by
      show ((60 * x1) + (5 * x5)).toInt = _
      unfold Int32.toNatClampNeg
      omega⟩
    refine t_bind (t_ldI (n := 360) (by omega) (by omega)) (fun t6 _ => t_ite (fun _ => ?_) (fun _ => go _ ha))
    refine t_bind (t_ldI (n := 360) (by omega) (by omega)) (fun t8 h8 => t_ite (fun _ => t_some (fin s ha)) (fun c8 => ?_))
    refine t_bind (t_ldI (n := 360) (by omega) (by omega)) (fun t10 h10 => ?_)
    refine t_bind (t_ldI (n := 360) (by omega) (by omega)) (fun t11 h11 => ?_)
    have n3 : (((60 * x1) + (5 * x5)) + 3).toNatClampNeg = 60 * x1.toNatClampNeg + 5 * x5.toNatClampNeg + 3 := by
      unfold Int32.toNatClampNeg
      omega
    have n4 : (((60 * x1) + (5 * x5)) + 4).toNatClampNeg = 60 * x1.toNatClampNeg + 5 * x5.toNatClampNeg + 4 := by
      unfold Int32.toNatClampNeg
      omega
    rw [n3, q3] at h8 h10
    rw [n4, q3] at h11
    have hw := (hL2 x5.toNatClampNeg (by unfold Int32.toNatClampNeg at *; omega)).2
    have hneg := t_ge c8
    rw [t_i0, h8] at hneg
    rcases hw with hw | hw
    · omega
    · rw [← h10, ← h11] at hw
      refine t_bind (wX11_reckons_T hl (by omega) (by rw [q4]; exact hw)) (fun r h12 => ?_)
      obtain ⟨t12, s13⟩ := r
      dsimp only at h12 ⊢
      exact t_ite (fun _ => go _ (ha.trans h12)) (fun _ => t_some (fin s13 (ha.trans h12)))
theorem wX11_farBy_T {x1 x2 x3 x4 : Int32} {s : wS} (hR : RQ s) (hl : 0 ≤ x1.toInt) (hl2 : x1.toInt < (s.1 152 2).toInt) (h3 : 0 ≤ x3.toInt) (h3b : x3.toInt < 8) (h4 : 0 ≤ x4.toInt) (h4b : x4.toInt < 8) : Tot (wX11_farBy x1 x2 x3 x4 s) (fun r => wA bP s r.2) := by
  unfold wX11_farBy
  refine t_bind (wX11_words_T h3 h3b h4 h4b) (fun s2 h2 => ?_)
  refine t_bind (wX11_farBy_h11_T hR hl hl2 _ h2 (by decide) t_mi) (fun z16 hz => ?_)
  rcases z16 with s17 | ⟨t25, s26⟩
  · exact t_some hz
  · obtain ⟨ha, c, hc, e⟩ := hz
    dsimp only at ha e ⊢
    unfold wX11_farBy_j87
    have hb := RQ_b hR
    obtain ⟨hL1, hL2⟩ := hR.2.2 x1.toNatClampNeg (by unfold Int32.toNatClampNeg; omega)
    obtain ⟨q1, q2, q3, q4, q5⟩ := sameP ha
    have hw := (hL2 c hc).1
    have e1 := t_pl (x := t25) (d := 1) (m := 1) rfl (by omega) (by omega) (by omega) (by omega)
    have e2 := t_pl (x := t25) (d := 2) (m := 2) rfl (by omega) (by omega) (by omega) (by omega)
    refine t_bind (t_ldI (n := 360) (by omega) (by omega)) (fun t31 h31 => ?_)
    refine t_bind (t_ldI (n := 360) (by omega) (by omega)) (fun t32 h32 => ?_)
    have n1 : (t25 + 1).toNatClampNeg = 60 * x1.toNatClampNeg + 5 * c + 1 := by
      unfold Int32.toNatClampNeg
      omega
    have n2 : (t25 + 2).toNatClampNeg = 60 * x1.toNatClampNeg + 5 * c + 2 := by
      unfold Int32.toNatClampNeg
      omega
    rw [n1, q3] at h31
    rw [n2, q3] at h32
    rw [← h31, ← h32] at hw
    refine t_bind (wX11_reckons_T hl (by omega) (by rw [q4]; exact hw)) (fun r h12 => ?_)
    obtain ⟨t33, s34⟩ := r
    exact t_some (ha.trans h12)
theorem wX11_reaches_h22_T {x1 x2 x3 : Int32} {s0 : wS} (hR : RQ s0) (hl : 0 ≤ x1.toInt) (hl2 : x1.toInt < (s0.1 152 2).toInt) (hk : 0 ≤ x2.toInt) (hk2 : x2.toInt ≤ 2) (h3 : 0 ≤ x3.toInt) (h3b : x3.toInt < 8) : ∀ (n : Nat) {x4 : Int32} {s : wS}, wA bP s0 s → 0 ≤ x4.toInt → 2147483648 - x4.toInt < (n : Int) → Tot (wX11_reaches_h22 x1 x2 x3 n x4 s) (fun r => wA bP s0 r) := by
  intro n
  induction n with
  | zero => intro x4 s ha hi hm; exact (t_m0 hm).elim
  | succ n ih =>
    intro x4 s ha hi hm
    rw [wX11_reaches_h22]
    have hR1 := RQ_P ha hR
    have q := sameP ha
    refine t_bind (t_ldI (n := 262) hk (by omega)) (fun t4 h4 => t_ite (fun c => ?_) (fun _ => t_some ha))
    have hb := (RQ_k hR1 hk hk2).2
    have hc := t_lt c
    rw [h4] at hc
    refine t_bind (wX11_farBy_T hR1 hl (by rw [q.2.2.2.2]; exact hl2) h3 h3b hi (by omega)) (fun r h6 => ?_)
    obtain ⟨t6, s7⟩ := r
    dsimp only at h6 ⊢
    have e := t_ix64 hk hk2 h3 h3b hi (by omega)
    refine t_bind (t_stL (B := bP) (n := 192) (by rw [e]; omega) (by rw [e]; omega)) (fun s9 h9 => ?_)
    exact ih ((ha.trans h6).trans h9.1) (t_n1 c hi) (t_m1 c hm)
theorem wX11_reaches_h9_T {x1 x2 : Int32} {s0 : wS} (hR : RQ s0) (hl : 0 ≤ x1.toInt) (hl2 : x1.toInt < (s0.1 152 2).toInt) (hk : 0 ≤ x2.toInt) (hk2 : x2.toInt ≤ 2) : ∀ (n : Nat) {x3 : Int32} {s : wS}, wA bP s0 s → 0 ≤ x3.toInt → 2147483648 - x3.toInt < (n : Int) → Tot (wX11_reaches_h9 x1 x2 n x3 s) (fun r => wA bP s0 r) := by
  intro n
  induction n with
  | zero => intro x3 s ha hi hm; exact (t_m0 hm).elim
  | succ n ih =>
    intro x3 s ha hi hm
    rw [wX11_reaches_h9]
    have hR1 := RQ_P ha hR
    refine t_bind (t_ldI (n := 262) hk (by omega)) (fun t4 h4 => t_ite (fun c => ?_) (fun _ => t_some ha))
    have hb := (RQ_k hR1 hk hk2).2
    have hc := t_lt c
    rw [h4] at hc
    refine t_bind (wX11_reaches_h22_T hR hl hl2 hk hk2 hi (by omega) _ ha (by decide) t_mi) (fun s11 h11 => ?_)
    exact ih h11 (t_n1 c hi) (t_m1 c hm)
theorem wX11_reaches_h2_T {x1 : Int32} {s0 : wS} (hR : RQ s0) (hl : 0 ≤ x1.toInt) (hl2 : x1.toInt < (s0.1 152 2).toInt) : ∀ (n : Nat) {x2 : Int32} {s : wS}, wA bP s0 s → 0 ≤ x2.toInt → 2147483648 - x2.toInt < (n : Int) → Tot (wX11_reaches_h2 x1 n x2 s) (fun r => wA bP s0 r) := by
  intro n
  induction n with
  | zero => intro x2 s ha hi hm; exact (t_m0 hm).elim
  | succ n ih =>
    intro x2 s ha hi hm
    rw [wX11_reaches_h2]
    refine t_ite (fun c => ?_) (fun _ => t_some ha)
    have hc := t_lt c
    rw [show (3 : Int32).toInt = 3 from rfl] at hc
    refine t_bind (wX11_reaches_h9_T hR hl hl2 hi (by omega) _ ha (by decide) t_mi) (fun s11 h11 => ?_)
    exact ih h11 (t_n1 c hi) (t_m1 c hm)
theorem wX11_reaches_T {x1 : Int32} {s : wS} (hR : RQ s) (hl : 0 ≤ x1.toInt) (hl2 : x1.toInt < (s.1 152 2).toInt) : Tot (wX11_reaches x1 s) (fun r => wA bP s r) := by
  unfold wX11_reaches
  exact t_bind (wX11_reaches_h2_T hR hl hl2 _ wA.refl (by decide) t_mi) (fun s18 h => t_some h)
