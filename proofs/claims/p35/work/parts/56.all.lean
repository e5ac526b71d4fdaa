/-! The reference reads: LAWS and COURTS whole. -/
/-- what a line, once read, leaves -/
noncomputable def CP (J : wS → Prop) (B : Nat → Nat → Bool) (s : wS) (r : Int32 × wS) : Prop := wA B s r.2 ∧ ((r.1 = 0 ∧ FW r.2) ∨ (r.1 = 1 ∧ (J r.2 ∧ (r.2.1 152 18).toInt = (s.1 152 18).toInt + 1)))
/-- between the lines of a LAW -/
noncomputable def JL (t : Nat) (s : wS) : Prop := PL t s ∧ KL t s ∧ (0 ≤ (s.1 157 t).toInt ∧ (s.1 157 t).toInt ≤ (s.1 152 18).toInt) ∧ (s.1 152 18).toInt ≤ 12
/-- between the lines of a COURT -/
noncomputable def JC (s : wS) : Prop := CC s ∧ (s.1 152 15).toInt = 6 ∧ 0 ≤ (s.1 152 18).toInt ∧ (s.1 152 18).toInt ≤ 24
theorem JL_on {t : Nat} {s s' : wS} (h : ON s s') (g : JL t s) : JL t s' := by
  obtain ⟨g1, g2, g3, g4⟩ := g
  have a : wA (bT t) s s' := (h.1.mono b12_le_bF).mono bF_le_bT
  unfold JL
  rw [bT_157 a, h.1 152 18 rfl]
  exact ⟨h.pi g1, KL_T (Pr_F (h.1.mono b12_le_bF)) a g2, g3, g4⟩
theorem JC_on {s s' : wS} (h : ON s s') (g : JC s) : JC s' := by
  obtain ⟨g1, g2, g3, g4⟩ := g
  have h1 := CC_of h.of g1
  unfold JC
  rw [h.1 152 15 rfl, h.1 152 18 rfl]
  exact ⟨h1, g2, g3, g4⟩
theorem JL_18 {t : Nat} {s : wS} {v : Int32} (g : JL t s) (h : (s.1 157 t).toInt ≤ v.toInt) (h2 : v.toInt ≤ 12) : JL t (wupI s 152 18 v) := by
  obtain ⟨g1, g2, g3, g4⟩ := g
  refine ⟨?_, ?_, ?_, ?_⟩
  · unfold PL PJ at *
    rw [wup_nb (by omega), wup_nb (by omega), wup_nb (by omega), wup_nb (by omega), wup_nb (by omega), wupI_n (by omega)]
    exact g1
  · unfold KL Cd at *
    rw [wupI_n (by omega), wupI_n (by omega), wupI_n (by omega), wupI_n (by omega)]
    exact g2
  · rw [wup_same, wupI_n (by omega)]
    exact ⟨g3.1, h⟩
  · rw [wup_same]
    exact h2
theorem clauseHere_law {t : Nat} (ht : t ≤ 5) {x1 : Int32} {s : wS} (g : JL t s) (hx : 0 ≤ x1.toInt) (hx2 : x1.toInt ≤ 1000) : Tot (wX11_clauseHere_j97 x1 0 (s.1 152 18) 12 s) (CP (JL t) (bL t) s) := by
  unfold wX11_clauseHere_j97
  refine t_ite (fun _ => fails_rt (B := bL t) (Q := fun u => JL t u ∧ (u.1 152 18).toInt = (s.1 152 18).toInt + 1) (x1 := 4) wA.refl (fun k b h => bC_le_bL k b (b13_le_bC k b h)) (by decide) (by decide) hx hx2) (fun c => ?_)
  have hc := t_nq c
  rw [show (12 : Int32).toInt = 12 from rfl] at hc
  have g3 := g.2.2.1
  have g4 := g.2.2.2
  have e := t_p1 (x := s.1 152 18) (by omega) (by omega)
  refine t_bind (t_pfI (B := bL t) (by
    unfold bL
    rw [bE_k (by omega) (by omega) rfl]
    rfl)) (fun s29 h29 => ?_)
  have g29 : JL t s29 := by
    rw [h29.2]
    exact JL_18 g (by omega) (by omega)
  have e29 : (s29.1 152 18).toInt = (s.1 152 18).toInt + 1 := by rw [h29.2, wup_same]; exact e
  have c29 : s29.1 157 t = s.1 157 t := by rw [h29.2, wupI_n (by omega)]
  refine t_ite (fun _ => ?_) (fun c => absurd rfl c)
  have fin : ∀ (u : wS) (y : Int32), ON s29 u → Tot (wX11_clauseHere_j157 y u) (CP (JL t) (bL t) s) := by
    intro u y o
    have au : wA (bL t) s u := h29.1.trans (o.1.mono (fun k b h => bF_le_bL k b (b12_le_bF k b h)))
    have gu := JL_on o g29
    have cu : u.1 157 t = s.1 157 t := by rw [o.1 157 t rfl, c29]
    have eu : u.1 152 18 = s29.1 152 18 := o.1 152 18 rfl
    unfold wX11_clauseHere_j157
    refine t_rt (Q := fun u => JL t u ∧ (u.1 152 18).toInt = (s.1 152 18).toInt + 1) au (t_mono (wX11_clauseOf_T gu.1 ht (by rw [cu]; exact g3.1) (by rw [cu]; omega) gu.2.1) (fun r hr => ⟨hr.1, hr.2.imp id (fun q => ⟨q.1, ⟨q.2.1, q.2.2.1, ⟨?_, ?_⟩, ?_⟩, ?_⟩)⟩))
    · have := q.2.2.2.1; rw [cu] at this; omega
    · have := q.2.2.2.1; rw [cu] at this; rw [q.2.2.2.2, eu]; omega
    · rw [q.2.2.2.2, eu]; omega
    · rw [q.2.2.2.2, eu, e29]
  refine t_bind (wX11_isWord_T g29.1.tp) (fun r h1 => ?_)
  obtain ⟨t31, s32⟩ := r
  obtain ⟨o1, -, -⟩ := h1
  dsimp only at o1 ⊢
  refine t_ite (fun _ => ?_) (fun _ => fin _ _ o1)
  refine t_bind (wX11_isWord_T (JL_on o1 g29).1.tp) (fun r h5 => ?_)
  obtain ⟨t35, s36⟩ := r
  obtain ⟨o2, -, -⟩ := h5
  dsimp only at o2 ⊢
  exact t_ite (fun _ => fin _ _ (o1.trans o2)) (fun _ => fin _ _ (o1.trans o2))
theorem clauseHere_court {x1 x2 : Int32} (h2 : ¬ x2 = 0) {s : wS} (g : JC s) (hx : 0 ≤ x1.toInt) (hx2 : x1.toInt ≤ 1000) : Tot (wX11_clauseHere_j97 x1 x2 (s.1 152 18) 24 s) (CP JC (bL 6) s) := by
  unfold wX11_clauseHere_j97
  refine t_ite (fun _ => fails_rt (B := bL 6) (Q := fun u => JC u ∧ (u.1 152 18).toInt = (s.1 152 18).toInt + 1) (x1 := 4) wA.refl (fun k b h => bC_le_bL k b (b13_le_bC k b h)) (by decide) (by decide) hx hx2) (fun c => ?_)
  have hc := t_nq c
  rw [show (24 : Int32).toInt = 24 from rfl] at hc
  obtain ⟨g1, g2, g3, g4⟩ := g
  have e := t_p1 (x := s.1 152 18) (by omega) (by omega)
  refine t_bind (t_pfI (B := bL 6) rfl) (fun s29 h29 => ?_)
  have g29 : CC s29 := by
    refine CC_eq ?_ ?_ ?_ ?_ ?_ g1 <;> rw [h29.2, wup_nb (by omega)]
  have e29 : (s29.1 152 18).toInt = (s.1 152 18).toInt + 1 := by rw [h29.2, wup_same]; exact e
  have x29 : s29.1 152 15 = s.1 152 15 := by rw [h29.2, wup_nb (by omega)]
  refine t_ite (fun c => absurd c h2) (fun _ => ?_)
  refine t_rt (Q := fun u => JC u ∧ (u.1 152 18).toInt = (s.1 152 18).toInt + 1) h29.1 (t_mono (wX11_courtLineHere_T g29 hx hx2) (fun r hr => ⟨hr.1.mono bC_le_bL, hr.2.imp id (fun q => ⟨q.1, ⟨q.2, ?_, ?_, ?_⟩, ?_⟩)⟩))
  · rw [hr.1 152 15 rfl, x29]; exact g2
  · rw [hr.1 152 18 rfl]; omega
  · rw [hr.1 152 18 rfl]; omega
  · rw [hr.1 152 18 rfl, e29]
/-- a line, whatever text -/
theorem clauseHere_T {J : wS → Prop} {B : Nat → Nat → Bool} (hB : ∀ k b, bF k b = true → B k b = true) (hJ : ∀ s, J s → TP s) (hO : ∀ s s', J s → ON s s' → J s') (hc : ∀ (s : wS) (x1 x2 : Int32), J s → 0 ≤ x1.toInt → x1.toInt ≤ 1000 → ((x2 = 1 ∧ s.1 152 15 = 6) ∨ (x2 = 0 ∧ ¬ s.1 152 15 = 6)) → Tot (wX11_clauseHere_j70 x1 x2 1 s) (CP J B s)) {s : wS} (g : J s) : Tot (wX11_clauseHere s) (CP J B s) := by
  have base : ∀ (x1 x2 : Int32) (u : wS), ON s u → 0 ≤ x1.toInt → x1.toInt ≤ 1000 → ((x2 = 1 ∧ u.1 152 15 = 6) ∨ (x2 = 0 ∧ ¬ u.1 152 15 = 6)) → Tot (wX11_clauseHere_j65 x1 x2 u) (CP J B s) := by
    intro x1 x2 u o h1 h2 h3
    unfold wX11_clauseHere_j65
    refine t_mono (hc u x1 x2 (hO s u g o) h1 h2 h3) (fun r hr => ⟨(o.1.mono (fun k b h => hB k b (b12_le_bF k b h))).trans hr.1, hr.2.imp id (fun q => ⟨q.1, q.2.1, by rw [q.2.2, o.1 152 18 rfl]⟩)⟩)
  have bad : ∀ (x1 x2 : Int32) (u : wS), ON s u → 0 ≤ x1.toInt → x1.toInt ≤ 1000 → Tot (wX11_clauseHere_j70 x1 x2 0 u) (CP J B s) := by
    intro x1 x2 u o h1 h2
    unfold wX11_clauseHere_j70
    exact t_ite (fun _ => fails_rt (Q := fun u => J u ∧ (u.1 152 18).toInt = (s.1 152 18).toInt + 1) (x1 := 0) (o.1.mono (fun k b h => hB k b (b12_le_bF k b h))) (fun k b h => hB k b (b13_le_bF k b h)) (by decide) (by decide) h1 h2) (fun c => absurd rfl c)
  have h59 : ∀ (x1 x2 : Int32) (y : Int64) (u : wS), ON s u → 0 ≤ x1.toInt → x1.toInt ≤ 1000 → ((x2 = 1 ∧ u.1 152 15 = 6) ∨ (x2 = 0 ∧ ¬ u.1 152 15 = 6)) → Tot (wX11_clauseHere_j59 x1 x2 y u) (CP J B s) := by
    intro x1 x2 y u o h1 h2 h3
    unfold wX11_clauseHere_j59
    refine t_bind (wX11_isWord_T (hJ _ (hO s u g o))) (fun r h14 => ?_)
    obtain ⟨t14, s15⟩ := r
    obtain ⟨o2, -, -⟩ := h14
    dsimp only at o2 ⊢
    exact t_ite (fun _ => bad _ _ _ (o.trans o2) h1 h2) (fun _ => base _ _ _ (o.trans o2) h1 h2 (by rw [o2.1 152 15 rfl]; exact h3))
  have h24 : ∀ (x1 x2 : Int32) (u : wS), ON s u → 0 ≤ x1.toInt → x1.toInt ≤ 1000 → ((x2 = 1 ∧ u.1 152 15 = 6) ∨ (x2 = 0 ∧ ¬ u.1 152 15 = 6)) → Tot (wX11_clauseHere_j24 x1 x2 u) (CP J B s) := by
    intro x1 x2 u o h1 h2 h3
    unfold wX11_clauseHere_j24
    refine t_bind (wX11_isWord_T (hJ _ (hO s u g o))) (fun r h5 => ?_)
    obtain ⟨t5, s6⟩ := r
    obtain ⟨o2, -, -⟩ := h5
    dsimp only at o2 ⊢
    refine t_ite (fun _ => ?_) (fun _ => base _ _ _ (o.trans o2) h1 h2 (by rw [o2.1 152 15 rfl]; exact h3))
    have oo := o.trans o2
    refine t_bind (wX11_isWord_T (hJ _ (hO s s6 g oo))) (fun r h9 => ?_)
    obtain ⟨t9, s10⟩ := r
    obtain ⟨o3, -, -⟩ := h9
    dsimp only at o3 ⊢
    have h3' : (x2 = 1 ∧ s10.1 152 15 = 6) ∨ (x2 = 0 ∧ ¬ s10.1 152 15 = 6) := by rw [o3.1 152 15 rfl, o2.1 152 15 rfl]; exact h3
    exact t_ite (fun _ => t_ite (fun _ => h59 _ _ _ _ (oo.trans o3) h1 h2 h3') (fun _ => h59 _ _ _ _ (oo.trans o3) h1 h2 h3')) (fun _ => base _ _ _ (oo.trans o3) h1 h2 h3')
  unfold wX11_clauseHere
  refine t_bind (wX11_see_T (hJ s g)) (fun r h => ?_)
  obtain ⟨t1, s2⟩ := r
  have o := h.1
  dsimp only at o ⊢
  have q := o.tp (hJ s g)
  have b1 : 0 ≤ (s2.1 152 12).toInt := q.2.1
  have b2 : (s2.1 152 12).toInt ≤ 1000 := by have := q.1; have := q.2; omega
  exact t_ite (fun c => h24 _ _ _ o b1 b2 (Or.inl ⟨rfl, c⟩)) (fun c => h24 _ _ _ o b1 b2 (Or.inr ⟨rfl, c⟩))
theorem clauseHere_L {t : Nat} (ht : t ≤ 5) {s : wS} (g : JL t s) : Tot (wX11_clauseHere s) (CP (JL t) (bL t) s) := by
  refine clauseHere_T (J := JL t) (B := bL t) (fun k b h => bF_le_bL k b h) (fun u h => h.1.tp) (fun u v h o => JL_on o h) (fun u x1 x2 h h1 h2 h3 => ?_) g
  have q := h.1.2.2.1
  have n6 : ¬ u.1 152 15 = 6 := by
    intro e
    rw [e, show (6 : Int32).toInt = 6 from rfl] at q
    omega
  obtain ⟨rfl, -⟩ := h3.resolve_left (fun p => n6 p.2)
  unfold wX11_clauseHere_j70
  exact t_ite (fun c => absurd c (by decide)) (fun _ => t_ite (fun _ => clauseHere_law ht h h1 h2) (fun c => absurd rfl c))
theorem clauseHere_C {s : wS} (g : JC s) : Tot (wX11_clauseHere s) (CP JC (bL 6) s) := by
  refine clauseHere_T (J := JC) (B := bL 6) (fun k b h => bF_le_bL k b h) (fun u h => h.1.1) (fun u v h o => JC_on o h) (fun u x1 x2 h h1 h2 h3 => ?_) g
  have q := h.2.1
  have n6 : u.1 152 15 = 6 := Int32.toInt_inj.1 q
  obtain ⟨rfl, -⟩ := h3.resolve_right (fun p => p.2 n6)
  unfold wX11_clauseHere_j70
  exact t_ite (fun c => absurd c (by decide)) (fun _ => t_ite (fun c => absurd c (by decide)) (fun _ => clauseHere_court (by decide) h h1 h2))
/-- the lines of a text -/
theorem readsAll_h35_T {J : wS → Prop} {B : Nat → Nat → Bool} (hB : ∀ k b, bF k b = true → B k b = true) (hJ : ∀ s, J s → TP s) (hO : ∀ s s', J s → ON s s' → J s') (hP : ∀ s, J s → (s.1 152 12).toInt < (s.1 152 1).toInt → J (wupI s 152 12 ((s.1 152 12) + 1))) (hL : ∀ s, J s → (s.1 152 18).toInt ≤ 24) (hc : ∀ s, J s → Tot (wX11_clauseHere s) (CP J B s)) : ∀ (n : Nat) {x1 : Int32} {s : wS}, ((x1 = 0 ∧ FW s) ∨ (x1 = 1 ∧ J s)) → (x1 = 1 → 24 - (s.1 152 18).toInt + 1 < (n : Int)) → 0 < n → Tot (wX11_readsAll_h35 n x1 s) (fun r => wA B s r.2 ∧ ((r.1 = 0 ∧ FW r.2) ∨ (r.1 = 1 ∧ J r.2))) := by
  intro n
  induction n with
  | zero => intro x1 s _ _ h; exact absurd h (by omega)
  | succ n ih =>
    intro x1 s g hm _
    rw [wX11_readsAll_h35]
    refine t_ite (fun _ => t_some ⟨wA.refl, g⟩) (fun c => ?_)
    obtain ⟨e1, g1⟩ := g.resolve_left (fun q => c q.1)
    have hm1 := hm e1
    have hl := hL s g1
    refine t_bind (wX11_see_T (hJ s g1)) (fun r h => ?_)
    obtain ⟨t10, s11⟩ := r
    obtain ⟨o, hlt, -, -⟩ := h
    dsimp only at o hlt ⊢
    have g11 := hO s s11 g1 o
    have a11 : wA B s s11 := o.1.mono (fun k b h => hB k b (b12_le_bF k b h))
    refine t_ite (fun c59 => ?_) (fun _ => t_some ⟨a11, Or.inr ⟨e1, g11⟩⟩)
    have hlt' := hlt (by rw [c59]; decide)
    refine t_bind (t_pfI (B := B) (hB 152 12 rfl)) (fun s14 h14 => ?_)
    have g14 : J s14 := by rw [h14.2]; exact hP s11 g11 hlt'
    have e14 : s14.1 152 18 = s.1 152 18 := by rw [h14.2, wup_nb (by omega), o.1 152 18 rfl]
    refine t_bind (hc s14 g14) (fun r hr => ?_)
    obtain ⟨t15, s16⟩ := r
    obtain ⟨a16, h16⟩ := hr
    dsimp only at a16 h16 ⊢
    have aa := (a11.trans h14.1).trans a16
    refine t_mono (ih (x1 := t15) (s := s16) (h16.imp id (fun q => ⟨q.1, q.2.1⟩)) (fun q1 => ?_) (by omega)) (fun r hr => ⟨aa.trans hr.1, hr.2⟩)
    rcases h16 with q | q
    · rw [q.1] at q1; exact absurd q1 (by decide)
    · rw [q.2.2, e14]; omega
/-- what a text, once read, leaves -/
noncomputable def RA (J : wS → Prop) (B : Nat → Nat → Bool) (s : wS) (r : Int32 × wS) : Prop := wA B s r.2 ∧ r.2.1 152 1 = 0 ∧ (r.1 = 0 ∨ (r.1 = 1 ∧ ∃ u, J u ∧ r.2 = wupI u 152 1 0 ∧ ((u.1 152 15) = 6 → ¬ u.1 152 8 = 0 ∧ ¬ u.1 152 9 = 0)))
theorem readsAll_T {J : wS → Prop} {B : Nat → Nat → Bool} (hB : ∀ k b, bF k b = true → B k b = true) (hB1 : B 152 1 = true) (hB18 : B 152 18 = true) (hJ : ∀ s, J s → TP s) (hO : ∀ s s', J s → ON s s' → J s') (hP : ∀ s, J s → (s.1 152 12).toInt < (s.1 152 1).toInt → J (wupI s 152 12 ((s.1 152 12) + 1))) (hL : ∀ s, J s → 0 ≤ (s.1 152 18).toInt ∧ (s.1 152 18).toInt ≤ 24) (hc : ∀ s, J s → Tot (wX11_clauseHere s) (CP J B s)) {s : wS} (ht0 : 0 ≤ (s.1 152 15).toInt) (ht : (s.1 152 15).toInt ≤ 6) (hB5 : B 155 (s.1 152 15).toNatClampNeg = true) (g : J (wupI (wupI (wupI (wupI (wupI s 155 (s.1 152 15).toNatClampNeg 0) 152 18 0) 152 12 0) 152 13 0) 152 16 0)) : Tot (wX11_readsAll s) (RA J B s) := by
  unfold wX11_readsAll
  refine t_bind (t_st1 (B := B) (n := 7) ht0 (by omega) hB5) (fun s1 h1 => ?_)
  refine t_bind (t_pfI (B := B) hB18) (fun s2 h2 => ?_)
  refine t_bind (t_pfI (B := B) (hB 152 12 rfl)) (fun s3 h3 => ?_)
  refine t_bind (t_pfI (B := B) (hB 152 13 rfl)) (fun s4 h4 => ?_)
  refine t_bind (t_pfI (B := B) (hB 152 16 rfl)) (fun s5 h5 => ?_)
  have g5 : J s5 := by rw [h5.2, h4.2, h3.2, h2.2, h1.2]; exact g
  have a5 := (((h1.1.trans h2.1).trans h3.1).trans h4.1).trans h5.1
  refine t_bind (hc s5 g5) (fun r hr => ?_)
  obtain ⟨t6, s7⟩ := r
  obtain ⟨a7, h7⟩ := hr
  dsimp only at a7 h7 ⊢
  refine t_bind (readsAll_h35_T (J := J) (B := B) hB hJ hO hP (fun u hu => (hL u hu).2) hc wFuel (x1 := t6) (s := s7) (h7.imp id (fun q => ⟨q.1, q.2.1⟩)) (fun q1 => ?_) (by decide +kernel)) (fun r hr => ?_)
  · have e : ((wFuel : Nat) : Int) = 1099511627776 := rfl
    rcases h7 with q | q
    · rw [q.1] at q1; exact absurd q1 (by decide)
    · have := (hL _ q.2.1).1
      omega
  obtain ⟨t19, s20⟩ := r
  obtain ⟨a20, h20⟩ := hr
  dsimp only at a20 h20 ⊢
  have A := (a5.trans a7).trans a20
  have bad : ∀ u, wA B s u → FW u → Tot (wX11_readsAll_j125 u) (RA J B s) := by
    intro u au fu
    unfold wX11_readsAll_j125
    refine t_bind (t_pfI (B := B) hB1) (fun s23 h23 => t_ite (fun c => ?_) (fun _ => t_some ⟨au.trans h23.1, by show s23.1 152 1 = 0; rw [h23.2, wup_same], Or.inl rfl⟩))
    rw [h23.2, wup_nb (by omega)] at c
    exact absurd c fu
  have good : ∀ u, wA B s u → J u → ((u.1 152 15) = 6 → ¬ u.1 152 8 = 0 ∧ ¬ u.1 152 9 = 0) → Tot (wX11_readsAll_j125 u) (RA J B s) := by
    intro u au ju hu
    unfold wX11_readsAll_j125
    refine t_bind (t_pfI (B := B) hB1) (fun s23 h23 => t_ite (fun c => t_some ⟨au.trans h23.1, by show s23.1 152 1 = 0; rw [h23.2, wup_same], Or.inr ⟨rfl, u, ju, h23.2, hu⟩⟩) (fun _ => t_some ⟨au.trans h23.1, by show s23.1 152 1 = 0; rw [h23.2, wup_same], Or.inl rfl⟩))
  have bad88 : ∀ u, wA B s u → FW u → Tot (wX11_readsAll_j88 0 u) (RA J B s) := by
    intro u au fu
    unfold wX11_readsAll_j88
    exact t_ite (fun _ => bad u au fu) (fun c => absurd rfl c)
  unfold wX11_readsAll_j66
  refine t_ite (fun c => ?_) (fun c => ?_)
  · subst c
    rcases h20 with q | q
    · exact bad88 _ A q.2
    · exact absurd q.1 (by decide)
  · obtain ⟨e1, g20⟩ := h20.resolve_left (fun q => c q.1)
    refine t_bind (wX11_see_T (hJ _ g20)) (fun r h => ?_)
    obtain ⟨t31, s32⟩ := r
    have o := h.1
    dsimp only at o ⊢
    have g32 := hO _ _ g20 o
    have A32 : wA B s s32 := A.trans (o.1.mono (fun k b h => hB k b (b12_le_bF k b h)))
    have q32 := hJ _ g32
    have n0 : 0 ≤ (s32.1 152 12).toInt := q32.2.1
    have n1 : (s32.1 152 12).toInt ≤ 1000 := by have := q32.1; have := q32.2; omega
    have f115 : Tot (wX11_readsAll_j115 s32) (RA J B s) := by
      unfold wX11_readsAll_j115
      refine t_bind wX11_fails_T (fun r hf => ?_)
      obtain ⟨t27, s28⟩ := r
      dsimp only at hf ⊢
      exact bad _ (A32.trans (hf.1.mono (fun k b h => hB k b (b13_le_bF k b h)))) (hf.2.2 (by decide) (by decide) n0 n1)
    refine t_ite (fun _ => ?_) (fun _ => ?_)
    · unfold wX11_readsAll_j88
      refine t_ite (fun c0 => absurd c0 c) (fun _ => t_ite (fun c6 => t_ite (fun _ => f115) (fun c8 => t_ite (fun _ => f115) (fun c9 => good _ A32 g32 (fun _ => ⟨c8, c9⟩)))) (fun c6 => good _ A32 g32 (fun q => absurd q c6)))
    · refine t_bind wX11_fails_T (fun r hf => ?_)
      obtain ⟨t35, s36⟩ := r
      dsimp only at hf ⊢
      obtain ⟨f1, rfl, f3⟩ := hf
      exact bad88 _ (A32.trans (f1.mono (fun k b h => hB k b (b13_le_bF k b h)))) (f3 (by decide) (by decide) n0 n1)
