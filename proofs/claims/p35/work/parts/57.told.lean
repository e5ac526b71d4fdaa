/-! The reference: its calls that change what it was told. -/
noncomputable def IM (s : wS) : Prop := ∀ k : Nat, k < 4 → ¬ s.1 171 k = 0 → qC (fun i => s.1 170 (262 * k + i))
noncomputable def RI (s : wS) : Prop := RQ s ∧ (0 ≤ (s.1 152 1).toInt ∧ (s.1 152 1).toInt ≤ 400) ∧ IM s
noncomputable def bX (k _b : Nat) : Bool := Nat.ble 152 k
/-- x and its images are left alone -/
noncomputable def XR (s s' : wS) : Prop := s'.1 163 6 = s.1 163 6 ∧ s'.1 170 = s.1 170 ∧ s'.1 171 = s.1 171
theorem IM_eq {s s' : wS} (h : s'.1 170 = s.1 170) (h1 : s'.1 171 = s.1 171) (g : IM s) : IM s' := by
  unfold IM at *
  rw [h, h1]
  exact g
noncomputable def bN (t k b : Nat) : Bool := bL t k b || (Nat.beq k 152 && (Nat.beq b 1 || Nat.beq b 15))
theorem bL_le_bN {t : Nat} : ∀ k b, bL t k b = true → bN t k b = true := fun k b h => by
  unfold bN
  rw [h]
  rfl
theorem bN_le_bX {t : Nat} : ∀ k b, bN t k b = true → bX k b = true := by
  intro k b h
  simp only [bN, bL, bE, bF, bX, Bool.or_eq_true, Bool.and_eq_true, Nat.ble_eq, Nat.beq_eq] at *
  omega
theorem nb_false {a b : Nat} (h : b < a) : Nat.ble a b = false := by
  cases e : Nat.ble a b
  · rfl
  · have := Nat.le_of_ble_eq_true e
    omega
theorem nq_false {a b : Nat} (h : a ≠ b) : Nat.beq a b = false := by
  cases e : Nat.beq a b
  · rfl
  · exact absurd (Nat.eq_of_beq_eq_true e) h
theorem bN_154 {t i : Nat} (h : i < 400 * t) : bN t 154 i = false := by
  unfold bN bL bE
  rw [nb_false h]
  rfl
theorem bN_156 {t i : Nat} (h : i < 60 * t) : bN t 156 i = false := by
  unfold bN bL
  rw [bE_k (by omega) (by omega) rfl, nb_false h]
  rfl
theorem bN_157 {t i : Nat} (h : i ≠ t) : bN t 157 i = false := by
  unfold bN bL
  rw [bE_k (by omega) (by omega) rfl, nq_false h]
  rfl
theorem bN_o {t k b : Nat} (h1 : k ≠ 154) (h2 : k ≠ 155) (h3 : bF k b = false) (h4 : Nat.beq k 156 = false) (h5 : Nat.beq k 157 = false) (h6 : (Nat.ble 158 k && Nat.ble k 160) = false) (h7 : (Nat.beq k 152 && ((Nat.ble 7 b && Nat.ble b 9) || Nat.beq b 17 || Nat.beq b 18 || Nat.beq b 20)) = false) (h8 : (Nat.beq k 152 && (Nat.beq b 1 || Nat.beq b 15)) = false) : bN t k b = false := by
  unfold bN bL
  rw [bE_k h1 h2 h3, h4, h5, h6, h7, h8]
  rfl
theorem bN_163 {t b : Nat} : bN t 163 b = false := bN_o (by omega) (by omega) rfl rfl rfl rfl rfl rfl
theorem bN_170 {t b : Nat} : bN t 170 b = false := bN_o (by omega) (by omega) rfl rfl rfl rfl rfl rfl
theorem bN_171 {t b : Nat} : bN t 171 b = false := bN_o (by omega) (by omega) rfl rfl rfl rfl rfl rfl
theorem bN_2 {t : Nat} : bN t 152 2 = false := bN_o (by omega) (by omega) rfl rfl rfl rfl rfl rfl
theorem bN_XR {t : Nat} {s s' : wS} (h : wA (bN t) s s') : XR s s' := ⟨h 163 6 bN_163, funext fun b => h 170 b bN_170, funext fun b => h 171 b bN_171⟩
theorem qWF_keep {C C' : Nat → Int32} {b e : Int} (h : ∀ j, j < 400 → C' j = C j) (g : qWF C b e) : qWF C' b e := by
  obtain ⟨g1, g2, g3, g4⟩ := g
  refine ⟨g1, g2, g3, ?_⟩
  rw [hrun_congr (C := C) (fun j _ h2 => h j (by omega))]
  exact g4
theorem qLW_keep {t l : Nat} {s s' : wS} (h : wA (bN t) s s') (hl : l < t) (g : qLW s l) : qLW s' l := by
  have e7 : s'.1 157 l = s.1 157 l := h 157 l (bN_157 (by omega))
  have e4 : ∀ j, j < 400 → s'.1 154 (400 * l + j) = s.1 154 (400 * l + j) := fun j hj => h 154 _ (bN_154 (by omega))
  unfold qLW at *
  rw [e7]
  refine ⟨g.1, fun c hc => ?_⟩
  have g1 := g.1
  have e6 : ∀ j, j < 5 → s'.1 156 (60 * l + 5 * c + j) = s.1 156 (60 * l + 5 * c + j) := fun j hj => h 156 _ (bN_156 (by omega))
  rw [e6 1 (by omega), e6 2 (by omega), e6 3 (by omega), e6 4 (by omega)]
  obtain ⟨k1, k2⟩ := g.2 c hc
  exact ⟨qWF_keep e4 k1, k2.imp id (fun q => qWF_keep e4 q)⟩
theorem KL_qLW {t : Nat} {s s' : wS} (g : KL t s) (h0 : 0 ≤ (s.1 157 t).toInt) (h : (s.1 157 t).toInt ≤ 12) (h4 : s'.1 154 = s.1 154) (h6 : s'.1 156 = s.1 156) (h7 : s'.1 157 = s.1 157) : qLW s' t := by
  unfold qLW
  rw [h4, h6, h7]
  exact ⟨⟨h0, h⟩, fun c hc => ⟨(g c hc).1.1, (g c hc).2.imp id (fun q => q.1)⟩⟩
theorem JL_P {t : Nat} {s : wS} (g : JL t s) (h : (s.1 152 12).toInt < (s.1 152 1).toInt) : JL t (wupI s 152 12 ((s.1 152 12) + 1)) := by
  have q := g.1.tp
  have e := t_p1 (x := s.1 152 12) q.2.1 (by have := q.1; omega)
  exact JL_on ⟨wA_I rfl, by rw [wup_same]; omega, by rw [wup_same]; omega⟩ g
theorem JC_P {s : wS} (g : JC s) (h : (s.1 152 12).toInt < (s.1 152 1).toInt) : JC (wupI s 152 12 ((s.1 152 12) + 1)) := by
  have q := g.1.1
  have e := t_p1 (x := s.1 152 12) q.2.1 (by have := q.1; omega)
  exact JC_on ⟨wA_I rfl, by rw [wup_same]; omega, by rw [wup_same]; omega⟩ g
theorem wX11_law_T {s : wS} (g : RI s) : Tot (wX11_law s) (fun r => RI r.2 ∧ wA bX s r.2 ∧ XR s r.2) := by
  unfold wX11_law
  refine t_ite (fun _ => t_some ⟨g, wA.refl, rfl, rfl, rfl⟩) (fun c => ?_)
  obtain ⟨⟨gC, gL, gW⟩, gT, gI⟩ := g
  have hc := t_nq c
  rw [show (6 : Int32).toInt = 6 from rfl] at hc
  obtain ⟨t, ht⟩ : ∃ t : Nat, (t : Int) = (s.1 152 2).toInt := ⟨(s.1 152 2).toInt.toNat, by omega⟩
  have hX : (s.1 152 2).toNatClampNeg = t := by unfold Int32.toNatClampNeg; omega
  refine t_bind (t_pfI (B := bN t) (by unfold bN; rw [show (Nat.beq 152 152 && (Nat.beq 15 1 || Nat.beq 15 15)) = true from rfl, Bool.or_true])) (fun s2 h2 => ?_)
  have x2 : s2.1 152 15 = s.1 152 2 := by rw [h2.2, wup_same]
  refine t_bind (t_st1 (B := bN t) (n := 6) (by rw [x2]; omega) (by rw [x2]; omega) (by rw [x2, hX]; exact bL_le_bN _ _ bL_157)) (fun s3 h3 => ?_)
  rw [x2, hX] at h3
  have x3 : s3.1 152 15 = s.1 152 2 := by rw [h3.2, wupI_n (by omega), x2]
  have T3 : s3.1 152 1 = s.1 152 1 := by rw [h3.2, wupI_n (by omega), h2.2, wup_nb (by omega)]
  have c3 : s3.1 157 t = 0 := by rw [h3.2, wup_same]
  have hB : ∀ k b, bF k b = true → bN t k b = true := fun k b h => bL_le_bN k b (bF_le_bL k b h)
  refine t_bind (readsAll_T (J := JL t) (B := bN t) hB (by unfold bN; rw [show (Nat.beq 152 152 && (Nat.beq 1 1 || Nat.beq 1 15)) = true from rfl, Bool.or_true]) ?_ (fun u h => h.1.tp) (fun u v h o => JL_on o h) (fun u h q => JL_P h q) (fun u h => ⟨by have := h.2.2.1; omega, by have := h.2.2.2; omega⟩) (fun u h => t_mono (clauseHere_L (by omega) h) (fun r hr => ⟨hr.1.mono bL_le_bN, hr.2⟩)) (s := s3) (by rw [x3]; omega) (by rw [x3]; omega) ?_ ?_) (fun r hr => ?_)
  · refine bL_le_bN _ _ ?_
    unfold bL
    rw [bE_k (by omega) (by omega) rfl]
    rfl
  · rw [x3, hX]
    refine bL_le_bN _ _ (bE_le_bL _ _ ?_)
    unfold bE
    rw [show Nat.beq 155 155 = true from rfl, Nat.beq_refl, Bool.true_and, Bool.or_true, Bool.true_or]
  · rw [x3, hX]
    refine ⟨?_, ?_, ?_, ?_⟩
    · refine ⟨?_, ?_, ?_, ?_, Int.le_refl 0, ?_, ?_⟩
      · rw [wup_nb (by omega), wup_nb (by omega), wup_nb (by omega), wup_nb (by omega), wupI_n (by omega), T3]
        exact gT
      · rw [wup_nb (by omega), wup_nb (by omega), wup_same, wup_nb (by omega), wup_nb (by omega), wup_nb (by omega), wup_nb (by omega), wupI_n (by omega), T3]
        exact ⟨by decide, gT.1⟩
      · rw [wup_nb (by omega), wup_nb (by omega), wup_nb (by omega), wup_nb (by omega), wupI_n (by omega), x3]
        omega
      · rw [wupI_n (by omega), wupI_n (by omega), wupI_n (by omega), wupI_n (by omega), wup_same]
        decide
      · rw [wupI_n (by omega), wupI_n (by omega), wupI_n (by omega), wupI_n (by omega), wup_same]
        show (0 : Int32).toInt + 0 ≤ _
        rw [wup_nb (by omega), wup_nb (by omega), wup_same]
        decide
      · rw [wup_same]
        decide
    · intro j hj
      rw [wupI_n (by omega), wupI_n (by omega), wupI_n (by omega), wupI_n (by omega), wupI_n (by omega), c3, t_i0] at hj
      omega
    · rw [wupI_n (by omega), wupI_n (by omega), wupI_n (by omega), wupI_n (by omega), wupI_n (by omega), c3, wup_nb (by omega), wup_nb (by omega), wup_nb (by omega), wup_same]
      decide
    · rw [wup_nb (by omega), wup_nb (by omega), wup_nb (by omega), wup_same]
      decide
  · obtain ⟨t4, s5⟩ := r
    obtain ⟨a5, T5, h5⟩ := hr
    dsimp only at a5 T5 h5 ⊢
    have A : wA (bN t) s s5 := (h2.1.trans h3.1).trans a5
    have X5 := bN_XR A
    have e163 : s5.1 163 = s.1 163 := funext fun b => A 163 b bN_163
    have e2 : s5.1 152 2 = s.1 152 2 := A 152 2 bN_2
    have kept : ∀ l : Nat, (l : Int) < (s.1 152 2).toInt → qLW s5 l := fun l hl => qLW_keep A (by omega) (gW l hl)
    refine t_ite (fun _ => t_some ⟨⟨⟨?_, ?_, ?_⟩, ?_, ?_⟩, A.mono bN_le_bX, X5⟩) (fun c4 => ?_)
    · show qC (s5.1 163); rw [e163]; exact gC
    · show 0 ≤ (s5.1 152 2).toInt ∧ _; rw [e2]; exact gL
    · intro l hl
      have hl' : (l : Int) < (s5.1 152 2).toInt := hl
      rw [e2] at hl'
      exact kept l hl'
    · show 0 ≤ (s5.1 152 1).toInt ∧ (s5.1 152 1).toInt ≤ 400; rw [T5]; decide
    · exact IM_eq X5.2.1 X5.2.2 gI
    · obtain ⟨-, u, ju, e5, -⟩ := h5.resolve_left c4
      have e := t_p1 (x := s.1 152 2) gL.1 (by omega)
      refine t_bind (t_pfI (B := bX) rfl) (fun s8 h8 => t_some ?_)
      have f163 : s8.1 163 = s.1 163 := by rw [h8.2, wupI_n (by omega), e163]
      have f2 : (s8.1 152 2).toInt = (s.1 152 2).toInt + 1 := by rw [h8.2, wup_same, e2]; exact e
      have f1 : s8.1 152 1 = 0 := by rw [h8.2, wup_nb (by omega), T5]
      have f170 : s8.1 170 = s.1 170 := by rw [h8.2, wupI_n (by omega), X5.2.1]
      have f171 : s8.1 171 = s.1 171 := by rw [h8.2, wupI_n (by omega), X5.2.2]
      have f154 : s8.1 154 = s5.1 154 := by rw [h8.2, wupI_n (by omega)]
      have f156 : s8.1 156 = s5.1 156 := by rw [h8.2, wupI_n (by omega)]
      have f157 : s8.1 157 = s5.1 157 := by rw [h8.2, wupI_n (by omega)]
      refine ⟨⟨⟨?_, ?_, ?_⟩, ?_, ?_⟩, (A.mono bN_le_bX).trans h8.1, ?_, f170, f171⟩
      · show qC (s8.1 163); rw [f163]; exact gC
      · show 0 ≤ (s8.1 152 2).toInt ∧ (s8.1 152 2).toInt ≤ 6; omega
      · intro l hl
        have hl' : (l : Int) < (s8.1 152 2).toInt := hl
        rw [f2] at hl'
        by_cases hlt : l = t
        · subst hlt
          have j3 := ju.2.2.1
          have j4 := ju.2.2.2
          exact KL_qLW (s := u) (s' := s8) ju.2.1 j3.1 (by omega) (by rw [f154, e5, wupI_n (by omega)]) (by rw [f156, e5, wupI_n (by omega)]) (by rw [f157, e5, wupI_n (by omega)])
        · have k := kept l (by omega)
          show qLW s8 l
          unfold qLW at *
          rw [f154, f156, f157]
          exact k
      · show 0 ≤ (s8.1 152 1).toInt ∧ (s8.1 152 1).toInt ≤ 400; rw [f1]; decide
      · exact IM_eq f170 f171 gI
      · show s8.1 163 6 = _; rw [f163]
/-- only what stands of roads and of men in the court was written -/
noncomputable def bW (k b : Nat) : Bool := Nat.beq k 163 && Nat.ble 10 b
theorem bW_n {s r : wS} (h : wA bW s r) {k : Nat} (hk : k ≠ 163) : r.1 k = s.1 k := funext fun b => h k b (by
  unfold bW
  rw [nq_false hk]
  rfl)
theorem bW_l {s r : wS} (h : wA bW s r) {b : Nat} (hb : b < 10) : r.1 163 b = s.1 163 b := h 163 b (by
  unfold bW
  rw [nb_false hb]
  rfl)
theorem bW_t {b : Nat} (h : 10 ≤ b) : bW 163 b = true := by
  unfold bW
  rw [show Nat.beq 163 163 = true from rfl, Nat.ble_eq_true_of_le h]
  rfl
theorem t_10 {x d : Int32} {m : Nat} (hd : d.toInt = m) (hm : 10 ≤ m) (hm2 : m ≤ 26) (h : 0 ≤ x.toInt) (h2 : x.toInt < 16) : (d + x).toInt = m + x.toInt ∧ 10 ≤ (d + x).toNatClampNeg := by
  have e : (d + x).toInt = m + x.toInt := by rw [t_add (by rw [hd]; omega) (by rw [hd]; omega), hd]
  refine ⟨e, ?_⟩
  unfold Int32.toNatClampNeg
  rw [e]
  omega
theorem wX11_court_h100_T : ∀ (n : Nat) {x1 : Int32} {s : wS}, 0 ≤ (s.1 152 8).toInt → (s.1 152 8).toInt ≤ 8 → 0 ≤ x1.toInt → x1.toInt ≤ 16 → 16 - x1.toInt < (n : Int) → Tot (wX11_court_h100 n x1 s) (fun r => wA bW s r) := by
  intro n
  induction n with
  | zero => intro x1 s _ _ _ _ hm; exfalso; omega
  | succ n ih =>
    intro x1 s h0 h8 hx hx2 hm
    rw [wX11_court_h100]
    refine t_ite (fun c => ?_) (fun _ => t_some wA.refl)
    have hc := t_lt c
    rw [t_2p h0 (by omega)] at hc
    refine t_bind (t_ldI (n := 16) hx (by omega)) (fun t17 _ => ?_)
    obtain ⟨e, e'⟩ := t_10 (x := x1) (d := 10) (m := 10) rfl (by omega) (by omega) hx (by omega)
    refine t_bind (t_st1 (B := bW) (n := 262) (by omega) (by omega) (bW_t e')) (fun s18 h18 => ?_)
    have e1 := t_p1 (x := x1) hx (by omega)
    have k : s18.1 152 = s.1 152 := by rw [h18.2, wupI_n (by omega)]
    exact t_mono (ih (x1 := x1 + 1) (s := s18) (by rw [k]; exact h0) (by rw [k]; exact h8) (by omega) (by omega) (by omega)) (fun r hr => h18.1.trans hr)
theorem wX11_court_h133_T : ∀ (n : Nat) {x1 : Int32} {s : wS}, 0 ≤ (s.1 152 9).toInt → (s.1 152 9).toInt ≤ 8 → 0 ≤ x1.toInt → x1.toInt ≤ 16 → 16 - x1.toInt < (n : Int) → Tot (wX11_court_h133 n x1 s) (fun r => wA bW s r) := by
  intro n
  induction n with
  | zero => intro x1 s _ _ _ _ hm; exfalso; omega
  | succ n ih =>
    intro x1 s h0 h8 hx hx2 hm
    rw [wX11_court_h133]
    refine t_ite (fun c => ?_) (fun _ => t_some wA.refl)
    have hc := t_lt c
    rw [t_2p h0 (by omega)] at hc
    refine t_bind (t_ldI (n := 16) hx (by omega)) (fun t17 _ => ?_)
    obtain ⟨e, e'⟩ := t_10 (x := x1) (d := 26) (m := 26) rfl (by omega) (by omega) hx (by omega)
    refine t_bind (t_st1 (B := bW) (n := 262) (by omega) (by omega) (bW_t e')) (fun s18 h18 => ?_)
    have e1 := t_p1 (x := x1) hx (by omega)
    have k : s18.1 152 = s.1 152 := by rw [h18.2, wupI_n (by omega)]
    exact t_mono (ih (x1 := x1 + 1) (s := s18) (by rw [k]; exact h0) (by rw [k]; exact h8) (by omega) (by omega) (by omega)) (fun r hr => h18.1.trans hr)
theorem t_wf16 {x : Int32} (h : 0 ≤ x.toInt) : 16 - x.toInt < ((wFuel : Nat) : Int) := by
  have e : ((wFuel : Nat) : Int) = 1099511627776 := rfl
  omega
/-- a new court -/
theorem court_j56 {s0 s : wS} {y : Int32} (a : wA bX s0 s) (x : XR s0 s) (g : RI s) (hy : 0 ≤ y.toInt) (hy2 : y.toInt ≤ 8) (h8 : 0 < (s.1 152 8).toInt) (h8' : (s.1 152 8).toInt ≤ 8) (h9 : 0 < (s.1 152 9).toInt) (h9' : (s.1 152 9).toInt ≤ 8) : Tot (wX11_court_j56 0 y s) (fun r => RI r.2 ∧ wA bX s0 r.2 ∧ XR s0 r.2) := by
  obtain ⟨⟨gC, gL, gW⟩, gT, gI⟩ := g
  unfold wX11_court_j56
  refine t_bind (t_st1 (B := bX) (n := 262) (by decide) (by decide) rfl) (fun s10 h10 => ?_)
  refine t_bind (t_st1 (B := bX) (n := 262) (by decide) (by decide) rfl) (fun s11 h11 => ?_)
  refine t_bind (t_st1 (B := bX) (n := 262) (by decide) (by decide) rfl) (fun s12 h12 => ?_)
  refine t_bind (t_st1 (B := bX) (n := 262) (by decide) (by decide) rfl) (fun s13 h13 => ?_)
  refine t_bind (t_st1 (B := bX) (n := 262) (by decide) (by decide) rfl) (fun s14 h14 => ?_)
  refine t_bind (t_st1 (B := bX) (n := 262) (by decide) (by decide) rfl) (fun s15 h15 => ?_)
  rw [show (0 : Int32).toNatClampNeg = 0 from rfl] at h10
  rw [show (1 : Int32).toNatClampNeg = 1 from rfl] at h11
  rw [show (2 : Int32).toNatClampNeg = 2 from rfl] at h12
  rw [show (3 : Int32).toNatClampNeg = 3 from rfl] at h13
  rw [show (4 : Int32).toNatClampNeg = 4 from rfl] at h14
  rw [show (5 : Int32).toNatClampNeg = 5 from rfl] at h15
  have A15 : wA bX s0 s15 := (((((a.trans h10.1).trans h11.1).trans h12.1).trans h13.1).trans h14.1).trans h15.1
  have o15 : ∀ k, k ≠ 163 → s15.1 k = s.1 k := fun k hk => by
    rw [h15.2, wupI_n hk, h14.2, wupI_n hk, h13.2, wupI_n hk, h12.2, wupI_n hk, h11.2, wupI_n hk, h10.2, wupI_n hk]
  have r10 : s10.1 152 = s.1 152 := by rw [h10.2, wupI_n (by omega)]
  have r11 : s11.1 152 = s.1 152 := by rw [h11.2, wupI_n (by omega), r10]
  have v0 : s15.1 163 0 = y := by rw [h15.2, wup_nb (by omega), h14.2, wup_nb (by omega), h13.2, wup_nb (by omega), h12.2, wup_nb (by omega), h11.2, wup_nb (by omega), h10.2, wup_same]
  have v1 : s15.1 163 1 = s.1 152 8 := by rw [h15.2, wup_nb (by omega), h14.2, wup_nb (by omega), h13.2, wup_nb (by omega), h12.2, wup_nb (by omega), h11.2, wup_same, r10]
  have v2 : s15.1 163 2 = s.1 152 9 := by rw [h15.2, wup_nb (by omega), h14.2, wup_nb (by omega), h13.2, wup_nb (by omega), h12.2, wup_same, r11]
  have v3 : s15.1 163 3 = 0 := by rw [h15.2, wup_nb (by omega), h14.2, wup_nb (by omega), h13.2, wup_same]
  have v5 : s15.1 163 5 = 0 := by rw [h15.2, wup_same]
  have v6 : s15.1 163 6 = s.1 163 6 := by rw [h15.2, wup_nb (by omega), h14.2, wup_nb (by omega), h13.2, wup_nb (by omega), h12.2, wup_nb (by omega), h11.2, wup_nb (by omega), h10.2, wup_nb (by omega)]
  have o152 := o15 152 (by omega)
  refine t_bind (wX11_court_h100_T _ (s := s15) (by rw [o152]; omega) (by rw [o152]; exact h8') (by decide) (by decide) (t_wf16 (by decide))) (fun s20 a20 => ?_)
  have p152 : s20.1 152 = s.1 152 := by rw [bW_n a20 (by omega), o152]
  refine t_bind (wX11_court_h133_T _ (s := s20) (by rw [p152]; omega) (by rw [p152]; exact h9') (by decide) (by decide) (t_wf16 (by decide))) (fun s26 a26 => ?_)
  refine t_bind wX11_worlds_T (fun t28 _ => t_some ?_)
  have aw := a20.trans a26
  have o26 : ∀ k, k ≠ 163 → s26.1 k = s.1 k := fun k hk => by rw [bW_n aw hk, o15 k hk]
  have w0 : s26.1 163 0 = y := by rw [bW_l aw (by omega), v0]
  have w1 : s26.1 163 1 = s.1 152 8 := by rw [bW_l aw (by omega), v1]
  have w2 : s26.1 163 2 = s.1 152 9 := by rw [bW_l aw (by omega), v2]
  have w3 : s26.1 163 3 = 0 := by rw [bW_l aw (by omega), v3]
  have w5 : s26.1 163 5 = 0 := by rw [bW_l aw (by omega), v5]
  have w6 : s26.1 163 6 = s.1 163 6 := by rw [bW_l aw (by omega), v6]
  have bWX : ∀ k b, bW k b = true → bX k b = true := by
    intro k b h
    simp only [bW, bX, Bool.and_eq_true, Nat.ble_eq, Nat.beq_eq] at *
    omega
  refine ⟨⟨⟨?_, ?_⟩, ?_, ?_⟩, A15.trans (aw.mono bWX), ?_, ?_, ?_⟩
  · show qC (s26.1 163)
    unfold qC
    rw [w0, w1, w2, w3, w5, w6]
    refine ⟨⟨hy, hy2⟩, ⟨by omega, h8'⟩, ⟨by omega, h9'⟩, fun _ => ⟨h8, h9⟩, ⟨by decide, by decide⟩, ⟨by decide, by decide⟩, fun a ha => ?_, fun a ha => ?_, gC.2.2.2.2.2.2.2.2⟩
    · rw [t_i0] at ha; omega
    · rw [t_i0] at ha; omega
  · show qL s26
    unfold qL qLW at *
    rw [o26 152 (by omega), o26 154 (by omega), o26 156 (by omega), o26 157 (by omega)]
    exact ⟨gL, gW⟩
  · show 0 ≤ (s26.1 152 1).toInt ∧ _
    rw [o26 152 (by omega)]
    exact gT
  · exact IM_eq (o26 170 (by omega)) (o26 171 (by omega)) gI
  · show s26.1 163 6 = _
    rw [w6, x.1]
  · show s26.1 170 = _
    rw [o26 170 (by omega), x.2.1]
  · show s26.1 171 = _
    rw [o26 171 (by omega), x.2.2]
theorem wX11_court_T {s : wS} (g : RI s) : Tot (wX11_court s) (fun r => RI r.2 ∧ wA bX s r.2 ∧ XR s r.2) := by
  unfold wX11_court
  obtain ⟨⟨gC, gL, gW⟩, gT, gI⟩ := g
  refine t_bind (t_pfI (B := bN 6) rfl) (fun s1 h1 => ?_)
  refine t_bind (t_pfI (B := bN 6) rfl) (fun s2 h2 => ?_)
  refine t_bind (t_pfI (B := bN 6) rfl) (fun s3 h3 => ?_)
  refine t_bind (t_pfI (B := bN 6) rfl) (fun s4 h4 => ?_)
  have x4 : s4.1 152 15 = 6 := by rw [h4.2, wup_nb (by omega), h3.2, wup_nb (by omega), h2.2, wup_nb (by omega), h1.2, wup_same]
  have T4 : s4.1 152 1 = s.1 152 1 := by rw [h4.2, wup_nb (by omega), h3.2, wup_nb (by omega), h2.2, wup_nb (by omega), h1.2, wup_nb (by omega)]
  have c7 : s4.1 152 7 = 0 := by rw [h4.2, wup_nb (by omega), h3.2, wup_nb (by omega), h2.2, wup_same]
  have c8 : s4.1 152 8 = 0 := by rw [h4.2, wup_nb (by omega), h3.2, wup_same]
  have c9 : s4.1 152 9 = 0 := by rw [h4.2, wup_same]
  have A4 := ((h1.1.trans h2.1).trans h3.1).trans h4.1
  have hB : ∀ k b, bF k b = true → bN 6 k b = true := fun k b h => bL_le_bN k b (bF_le_bL k b h)
  refine t_bind (readsAll_T (J := JC) (B := bN 6) hB rfl rfl (fun u h => h.1.1) (fun u v h o => JC_on o h) (fun u h q => JC_P h q) (fun u h => h.2.2) (fun u h => t_mono (clauseHere_C h) (fun r hr => ⟨hr.1.mono bL_le_bN, hr.2⟩)) (s := s4) (by rw [x4]; decide) (by rw [x4]; decide) (by rw [x4]; rfl) ?_) (fun r hr => ?_)
  · rw [x4]
    refine ⟨⟨⟨?_, ?_⟩, ?_, ?_, ?_⟩, ?_, ?_⟩
    · rw [wup_nb (by omega), wup_nb (by omega), wup_nb (by omega), wup_nb (by omega), wupI_n (by omega), T4]
      exact gT
    · rw [wup_nb (by omega), wup_nb (by omega), wup_same, wup_nb (by omega), wup_nb (by omega), wup_nb (by omega), wup_nb (by omega), wupI_n (by omega), T4]
      exact ⟨by decide, gT.1⟩
    · rw [wup_nb (by omega), wup_nb (by omega), wup_nb (by omega), wup_nb (by omega), wupI_n (by omega), c7]
      decide
    · rw [wup_nb (by omega), wup_nb (by omega), wup_nb (by omega), wup_nb (by omega), wupI_n (by omega), c8]
      decide
    · rw [wup_nb (by omega), wup_nb (by omega), wup_nb (by omega), wup_nb (by omega), wupI_n (by omega), c9]
      decide
    · rw [wup_nb (by omega), wup_nb (by omega), wup_nb (by omega), wup_nb (by omega), wupI_n (by omega), x4]
      decide
    · rw [wup_nb (by omega), wup_nb (by omega), wup_nb (by omega), wup_same]
      decide
  · obtain ⟨t4, s5⟩ := r
    obtain ⟨a5, T5, h5⟩ := hr
    dsimp only at a5 T5 h5 ⊢
    have A : wA (bN 6) s s5 := A4.trans a5
    have X5 := bN_XR A
    have e163 : s5.1 163 = s.1 163 := funext fun b => A 163 b bN_163
    have e2 : s5.1 152 2 = s.1 152 2 := A 152 2 bN_2
    have R5 : RI s5 := by
      refine ⟨⟨?_, ?_, ?_⟩, ?_, ?_⟩
      · rw [e163]; exact gC
      · rw [e2]; exact gL
      · intro l hl
        rw [e2] at hl
        exact qLW_keep A (by omega) (gW l hl)
      · rw [T5]; decide
      · exact IM_eq X5.2.1 X5.2.2 gI
    refine t_ite (fun _ => t_some ⟨R5, A.mono bN_le_bX, X5⟩) (fun c4 => ?_)
    obtain ⟨-, u, ju, e5, hu⟩ := h5.resolve_left c4
    obtain ⟨⟨-, u7, u8, u9⟩, u15, -⟩ := ju
    have z := hu (Int32.toInt_inj.1 u15)
    have z8 := t_nq z.1
    have z9 := t_nq z.2
    rw [t_i0] at z8 z9
    have k7 : s5.1 152 7 = u.1 152 7 := by rw [e5, wup_nb (by omega)]
    have k8 : s5.1 152 8 = u.1 152 8 := by rw [e5, wup_nb (by omega)]
    have k9 : s5.1 152 9 = u.1 152 9 := by rw [e5, wup_nb (by omega)]
    have fin : ∀ y : Int32, 0 ≤ y.toInt → y.toInt ≤ 8 → Tot (wX11_court_j56 0 y s5) (fun r => RI r.2 ∧ wA bX s r.2 ∧ XR s r.2) := fun y h0 h1 => court_j56 (A.mono bN_le_bX) X5 R5 h0 h1 (by rw [k8]; omega) (by rw [k8]; exact u8.2) (by rw [k9]; omega) (by rw [k9]; exact u9.2)
    exact t_ite (fun _ => fin 1 (by decide) (by decide)) (fun _ => fin _ (by rw [k7]; exact u7.1) (by rw [k7]; exact u7.2))
