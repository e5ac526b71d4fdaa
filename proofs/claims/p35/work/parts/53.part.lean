/-! The reference reads: FACTS among brackets, TESTS. -/
theorem LT.sb {s : wS} (h : LT s) : SB s := fun _ e => by
  have := h.2.1
  rw [e] at this
  exact absurd this (by decide)
/-- on the way to a FACT's SUM -/
noncomputable def FA (t : Nat) (s0 s : wS) : Prop := wA (bT t) s0 s ∧ PI t s ∧ OS s ∧ ((s0.1 152 20).toInt ≤ (s.1 152 20).toInt ∧ ∀ i : Nat, (i : Int) < (s0.1 152 20).toInt → s.1 160 i = s0.1 160 i) ∧ nb (s.1 160) (s.1 152 20).toNatClampNeg = nb (s0.1 160) (s0.1 152 20).toNatClampNeg ∧ Pr t s0 s ∧ (∀ b h, CS t b h s0 → CS t b h s) ∧ (s0.1 152 12).toInt ≤ (s.1 152 12).toInt
theorem FA.refl {t : Nat} {s : wS} (g : PI t s) (h : OS s) : FA t s s := ⟨wA.refl, g, h, ⟨Int.le_refl _, fun _ _ => rfl⟩, rfl, ⟨Int.le_refl _, fun _ _ => rfl⟩, fun _ _ h => h, Int.le_refl _⟩
theorem FA.on {t : Nat} {s0 s u : wS} (h : FA t s0 s) (o : ON s u) : FA t s0 u := by
  obtain ⟨h1, h2, h3, h4, h5, h6, h7, h8⟩ := h
  have a : wA bF s u := o.1.mono b12_le_bF
  have e160 : u.1 160 = s.1 160 := (sF_of a).2.2.2.2.2.2
  have e20 : u.1 152 20 = s.1 152 20 := (sF_of a).2.2.1
  refine ⟨h1.trans (a.mono bF_le_bT), o.pi h2, ?_, ?_, ?_, h6.trans (Pr_F a), fun b h hc => CS_F a (by rw [o.1 152 16 rfl]; omega) (h7 b h hc), by have := o.2.1; omega⟩
  · unfold OS; rw [e160, e20]; exact h3
  · rw [e160, e20]; exact h4
  · rw [e160, e20]; exact h5
/-- a bracket or a not, and a sign passed behind it -/
theorem FA.opd {t : Nat} {x : Int32} {s0 s u w : wS} (h : FA t s0 s) (hu : wA bO s u) (h20 : (u.1 152 20).toInt = (s.1 152 20).toInt + 1) (h160 : u.1 160 = upd (s.1 160) (s.1 152 20).toNatClampNeg x) (hx : x = 11 ∨ x = 91) (hw : wA b12 u w) (hN : (s.1 152 12).toInt + 1 ≤ (w.1 152 12).toInt) (hT : (w.1 152 12).toInt ≤ (s.1 152 1).toInt) : FA t s0 w := by
  obtain ⟨h1, h2, h3, h4, h5, h6, h7, h8⟩ := h
  have au : wA (bT t) s u := hu.mono bO_le_bT
  have aw : wA bF u w := hw.mono b12_le_bF
  have e160 : w.1 160 = upd (s.1 160) (s.1 152 20).toNatClampNeg x := by rw [(sF_of aw).2.2.2.2.2.2, h160]
  have e20 : (w.1 152 20).toInt = (s.1 152 20).toInt + 1 := by rw [(sF_of aw).2.2.1, h20]
  have e155 : w.1 155 = s.1 155 := by rw [(sF_of aw).2.2.2.1]; exact funext fun j => hu 155 j rfl
  have e154 : w.1 154 = s.1 154 := by rw [(sF_of aw).2.2.2.2.2.1]; exact funext fun j => hu 154 j rfl
  have e1 : w.1 152 1 = s.1 152 1 := by rw [(sF_of aw).1]; exact hu 152 1 rfl
  have e15 : w.1 152 15 = s.1 152 15 := by rw [(sF_of aw).2.1]; exact hu 152 15 rfl
  have e16 : w.1 152 16 = s.1 152 16 := by rw [hw 152 16 rfl]; exact hu 152 16 rfl
  have g5 := h2.2.2.2.2.1
  have en : (w.1 152 20).toNatClampNeg = (s.1 152 20).toNatClampNeg + 1 := by unfold Int32.toNatClampNeg; omega
  refine ⟨(h1.trans au).trans (aw.mono bF_le_bT), ?_, ?_, ⟨by omega, fun i hi => ?_⟩, ?_, h6.trans ?_, fun b h hc => ?_, by omega⟩
  · obtain ⟨p1, p2, p3, p4, p5, p6, p7⟩ := h2
    (first | unfold PI PJ | unfold PJ)
    rw [e1, e15, e155, e16]
    exact ⟨p1, ⟨by omega, hT⟩, p3, p4, by omega, by omega, p7⟩
  · intro i hi
    rw [e160]
    unfold upd
    by_cases e : i = (s.1 152 20).toNatClampNeg
    · rw [if_pos e]
      rcases hx with q | q
      · exact Or.inl q
      · exact Or.inr (Or.inr (Or.inr q))
    · rw [if_neg e]
      refine h3 i ?_
      rw [e20] at hi
      unfold Int32.toNatClampNeg at e
      omega
  · rw [e160]
    unfold upd
    rw [if_neg (by unfold Int32.toNatClampNeg; omega)]
    exact h4.2 i hi
  · rw [en, e160, nb, ← h5]
    rw [nb_congr (f := s.1 160) (fun i hi => by unfold upd; rw [if_neg (by omega)])]
    have : ¬ (upd (s.1 160) (s.1 152 20).toNatClampNeg x (s.1 152 20).toNatClampNeg = 12 ∨ upd (s.1 160) (s.1 152 20).toNatClampNeg x (s.1 152 20).toNatClampNeg = 13) := by
      unfold upd
      rw [if_pos rfl]
      rcases hx with q | q <;> rw [q] <;> decide
    rw [if_neg this, Nat.add_zero]
  · unfold Pr Cd
    rw [e155, e154]
    exact ⟨Int.le_refl _, fun _ _ => rfl⟩
  · have := h7 b h hc
    unfold CS Cd at *
    rw [e155, e154, e16]
    exact this
theorem wX11_fact_h2_T {t : Nat} {s0 : wS} (ht : t ≤ 5) : ∀ (n : Nat) {x1 : Int32} {s : wS}, FA t s0 s → (x1 = 0 ∨ x1 = 1) → (s.1 152 1).toInt - (s.1 152 12).toInt + x1.toInt < (n : Int) → Tot (wX11_fact_h2 n x1 s) (Sum.elim (fun r => FA t s0 r) (Sum.elim (fun r => wA (bT t) s0 r ∧ FW r) (fun r => wA (bT t) s0 r ∧ FW r))) := by
  intro n
  induction n with
  | zero =>
    intro x1 s h hx hm
    exfalso
    have := h.2.1.2.1
    rcases hx with rfl | rfl
    · rw [show (0 : Int32).toInt = 0 from rfl] at hm; omega
    · rw [show (1 : Int32).toInt = 1 from rfl] at hm; omega
  | succ n ih =>
    intro x1 s h hx hm
    rw [wX11_fact_h2]
    refine t_ite (fun _ => t_some h) (fun c0 => ?_)
    obtain rfl : x1 = 1 := hx.resolve_left c0
    have i1 : (1 : Int32).toInt = 1 := rfl
    rw [i1] at hm
    refine t_bind (wX11_see_T h.2.1.tp) (fun r h2 => ?_)
    obtain ⟨t2, s3⟩ := r
    obtain ⟨o3, l3, b3, -⟩ := h2
    dsimp only at o3 l3 b3 ⊢
    have f3 := h.on o3
    refine t_bind (wX11_isWord_T f3.2.1.tp) (fun r h5 => ?_)
    obtain ⟨t5, s6⟩ := r
    obtain ⟨o6, l6, e6⟩ := h5
    dsimp only at o6 l6 e6 ⊢
    obtain rfl := e6 b3
    have f6 := f3
    have g6 := f6.2.1
    have p1 := g6.1
    have p2 := g6.2.1
    have p4 := g6.2.2.2.1
    have p5 := g6.2.2.2.2.1
    have p6 := g6.2.2.2.2.2.1
    have q1 : (s6.1 152 1).toInt = (s.1 152 1).toInt := by rw [o3.1 152 1 rfl]
    have q2 := o3.2.1
    refine t_ite (fun _ => ?_) (fun c5 => ?_)
    · refine t_ite (fun c91 => ?_) (fun _ => ?_)
      · have hlt := l3 (by rw [c91]; decide)
        refine t_bind (wX11_opens_T p2.1 (by omega) p5 (by omega)) (fun r h10 => ?_)
        obtain ⟨t10, s11⟩ := r
        dsimp only at h10 ⊢
        refine t_ite (fun c => t_some ?_) (fun c => ?_)
        · rcases h10 with q | q
          · exact ⟨f6.1.trans (q.2.1.mono bF_le_bT), q.2.2⟩
          · rw [q.1] at c; exact absurd c (by decide)
        · rcases h10 with q | q
          · exact absurd q.1 c
          · obtain ⟨-, au, u20, u160⟩ := q
            have u12 : s11.1 152 12 = s6.1 152 12 := au 152 12 rfl
            refine t_bind (t_pfI (B := b12) rfl) (fun s14 h14 => ?_)
            have e14 : (s14.1 152 12).toInt = (s6.1 152 12).toInt + 1 := by rw [h14.2, wup_same, u12]; exact t_p1 p2.1 (by omega)
            unfold wX11_fact_j72
            have u1 : (s14.1 152 1).toInt = (s6.1 152 1).toInt := by rw [h14.1 152 1 rfl, au 152 1 rfl]
            exact ih (f6.opd au u20 u160 (Or.inr rfl) h14.1 (by omega) (by omega)) (Or.inr rfl) (by rw [i1]; omega)
      · unfold wX11_fact_j72
        exact ih f6 (Or.inl rfl) (by rw [show (0 : Int32).toInt = 0 from rfl]; omega)
    · have hL := (l6.resolve_left c5).2
      have hlt := hL.1
      refine t_bind (wX11_opens_T p2.1 (by omega) p5 (by omega)) (fun r h10 => ?_)
      obtain ⟨t15, s16⟩ := r
      dsimp only at h10 ⊢
      refine t_ite (fun c => t_some ?_) (fun c => ?_)
      · rcases h10 with q | q
        · exact ⟨f6.1.trans (q.2.1.mono bF_le_bT), q.2.2⟩
        · rw [q.1] at c; exact absurd c (by decide)
      · rcases h10 with q | q
        · exact absurd q.1 c
        · obtain ⟨-, au, u20, u160⟩ := q
          have u12 : s16.1 152 12 = s6.1 152 12 := au 152 12 rfl
          have u1 : s16.1 152 1 = s6.1 152 1 := au 152 1 rfl
          have u153 : s16.1 153 = s6.1 153 := funext fun j => au 153 j rfl
          have tp : TP s16 := by unfold TP; rw [u12, u1]; exact ⟨p1, p2⟩
          have hL2 : LT s16 := by unfold LT LTx at *; rw [u12, u1, u153]; exact hL
          refine t_bind (wX11_passWord_T tp) (fun s20 h20 => ?_)
          have k1 := h20.2 hL2
          have k2 := h20.1.2.2
          rw [u12] at k1
          rw [u1] at k2
          unfold wX11_fact_j72
          have u1' : (s20.1 152 1).toInt = (s6.1 152 1).toInt := by rw [h20.1.1 152 1 rfl, u1]
          exact ih (f6.opd au u20 u160 (Or.inl rfl) h20.1.1 (by omega) (by omega)) (Or.inr rfl) (by rw [i1]; omega)
/-- a FACT was read -/
noncomputable def FC (t : Nat) (s0 s : wS) : Prop := PI t s ∧ OS s ∧ ((s0.1 152 20).toInt ≤ (s.1 152 20).toInt ∧ ∀ i : Nat, (i : Int) < (s0.1 152 20).toInt → s.1 160 i = s0.1 160 i) ∧ nb (s.1 160) (s.1 152 20).toNatClampNeg = nb (s0.1 160) (s0.1 152 20).toNatClampNeg ∧ Pr t s0 s ∧ (∀ b h, CS t b h s0 → CS t b (h + 1) s) ∧ (s0.1 152 12).toInt + 1 ≤ (s.1 152 12).toInt
theorem bE_160 {t : Nat} {s s' : wS} (h : wA (bE t) s s') : s'.1 160 = s.1 160 := funext fun j => h 160 j (bE_k (by omega) (by omega) rfl)
theorem wX11_fact_T {t : Nat} {s : wS} (g : PI t s) (hO : OS s) (ht : t ≤ 5) : Tot (wX11_fact s) (fun r => wA (bT t) s r.2 ∧ ((r.1 = 0 ∧ FW r.2) ∨ (r.1 = 1 ∧ FC t s r.2))) := by
  unfold wX11_fact
  refine t_bind (wX11_fact_h2_T ht _ (FA.refl g hO) (Or.inr rfl) (by have e : ((wFuel : Nat) : Int) = 1099511627776 := rfl; rw [show (1 : Int32).toInt = 1 from rfl]; have := g.1; have := g.2.1; omega)) (fun z hz => ?_)
  rcases z with s23 | s30 | s33
  · refine t_bind (wX11_compare_T hz.2.1 ht) (fun r h => ?_)
    obtain ⟨t26, s27⟩ := r
    obtain ⟨a, h⟩ := h
    dsimp only at a h ⊢
    obtain ⟨h1, h2, h3, h4, h5, h6, h7, h8⟩ := hz
    refine t_bind (t_rtZ (by rcases h with q | q; exact Or.inl q.1; exact Or.inr q.1)) (fun t29 h29 => t_some ⟨h1.trans (a.mono bE_le_bT), ?_⟩)
    rcases h with q | q
    · exact Or.inl ⟨by show t29 = 0; rw [h29, q.1], q.2⟩
    · obtain ⟨q0, v1, v2, v3, v4, v5⟩ := q
      have e160 := bE_160 a
      have e20 := bE_20 a
      refine Or.inr ⟨by show t29 = 1; rw [h29, q0], v1, ?_, ?_, ?_, h6.trans v2, fun b h hc => v3 b h (h7 b h hc), by show _ ≤ (s27.1 152 12).toInt; omega⟩
      · unfold OS; dsimp only; rw [e160, e20]; exact h3
      · dsimp only; rw [e160, e20]; exact h4
      · dsimp only; rw [e160, e20]; exact h5
  · exact t_some ⟨hz.1, Or.inl ⟨rfl, hz.2⟩⟩
  · exact t_some ⟨hz.1, Or.inl ⟨rfl, hz.2⟩⟩
theorem wX11_isInside_h2_T {s : wS} (h0 : 0 ≤ (s.1 152 20).toInt) (h4 : (s.1 152 20).toInt ≤ 400) : ∀ (n : Nat) {x1 : Int32}, 0 ≤ x1.toInt → (∀ i : Nat, (i : Int) < x1.toInt → ¬ s.1 160 i = 91) → 2147483648 - x1.toInt < (n : Int) → Tot (wX11_isInside_h2 s n x1) (Sum.elim (fun _ => ∀ i : Nat, (i : Int) < (s.1 152 20).toInt → ¬ s.1 160 i = 91) (fun _ => ∃ i : Nat, (i : Int) < (s.1 152 20).toInt ∧ s.1 160 i = 91)) := by
  intro n
  induction n with
  | zero => intro x1 _ _ hm; exact (t_m0 hm).elim
  | succ n ih =>
    intro x1 hi hp hm
    rw [wX11_isInside_h2]
    refine t_ite (fun c => ?_) (fun c => t_some ?_)
    · have hc := t_lt c
      refine t_bind (t_ldI (n := 400) hi (by omega)) (fun t2 h2 => t_ite (fun c2 => t_some ⟨x1.toNatClampNeg, by unfold Int32.toNatClampNeg; omega, by rw [← h2]; exact c2⟩) (fun c2 => ?_))
      have e := t_inc c
      refine ih (t_n1 c hi) (fun i hl => ?_) (t_m1 c hm)
      rw [e] at hl
      by_cases q : (i : Int) = x1.toInt
      · have : i = x1.toNatClampNeg := by unfold Int32.toNatClampNeg; omega
        rw [this, ← h2]
        exact c2
      · exact hp i (by omega)
    · have hc := t_ge c
      exact fun i hl => hp i (by omega)
theorem wX11_isInside_T {s : wS} (h0 : 0 ≤ (s.1 152 20).toInt) (h4 : (s.1 152 20).toInt ≤ 400) : Tot (wX11_isInside s) (fun t => (t = 0 ∧ ∀ i : Nat, (i : Int) < (s.1 152 20).toInt → ¬ s.1 160 i = 91) ∨ (t = 1 ∧ ∃ i : Nat, (i : Int) < (s.1 152 20).toInt ∧ s.1 160 i = 91)) := by
  unfold wX11_isInside
  refine t_bind (wX11_isInside_h2_T h0 h4 _ (by decide) (fun i hi => by rw [t_i0] at hi; omega) t_mi) (fun z hz => ?_)
  rcases z with z | z
  · exact t_some (Or.inl ⟨rfl, hz⟩)
  · exact t_some (Or.inr ⟨rfl, hz⟩)
/-- an operand stands -/
noncomputable def CL (t b : Nat) (s0 s : wS) : Prop := wA (bT t) s0 s ∧ PI t s ∧ OS s ∧ CS t b (nb (s.1 160) (s.1 152 20).toNatClampNeg + 1) s ∧ Pr t s0 s ∧ (s0.1 152 12).toInt ≤ (s.1 152 12).toInt
theorem CL.settle {t b : Nat} {x : Int32} {s0 s r : wS} (h : CL t b s0 s) (g : SE t x b s r) : CL t b s0 r := by
  obtain ⟨h1, h2, h3, h4, h5, h6⟩ := h
  obtain ⟨r1, r2, r3, r4, r5, r6, r7, r8⟩ := g
  refine ⟨h1.trans r1, r2, fun i hi => ?_, ?_, h5.trans r5, by rw [r6.1]; exact h6⟩
  · rw [r3.2]; exact h3 i (by have := r3.1.1; omega)
  · rw [r3.2]; exact r4
theorem CL.on {t b : Nat} {s0 s u : wS} (h : CL t b s0 s) (o : ON s u) : CL t b s0 u := by
  obtain ⟨h1, h2, h3, h4, h5, h6⟩ := h
  have a : wA bF s u := o.1.mono b12_le_bF
  have e160 : u.1 160 = s.1 160 := (sF_of a).2.2.2.2.2.2
  have e20 : u.1 152 20 = s.1 152 20 := (sF_of a).2.2.1
  refine ⟨h1.trans (a.mono bF_le_bT), o.pi h2, ?_, ?_, h5.trans (Pr_F a), by have := o.2.1; omega⟩
  · unfold OS; rw [e160, e20]; exact h3
  · rw [e160, e20]; exact CS_F a (by rw [o.1 152 16 rfl]; omega) h4
theorem stv_91 {x : Int32} (h : opn x) (h2 : stv x < 1) : x = 91 := by
  rcases h with rfl | rfl | rfl | rfl
  · exact absurd h2 (by decide)
  · exact absurd h2 (by decide)
  · exact absurd h2 (by decide)
  · rfl
theorem wX11_closes_h5_T {t b : Nat} {s0 : wS} (ht : t ≤ 5) : ∀ (n : Nat) {s : wS}, CL t b s0 s → (s.1 152 1).toInt - (s.1 152 12).toInt < (n : Int) → Tot (wX11_closes_h5 n s) (fun r => CL t b s0 r) := by
  intro n
  induction n with
  | zero => intro s h hm; exfalso; have := h.2.1.2.1; omega
  | succ n ih =>
    intro s h hm
    rw [wX11_closes_h5]
    refine t_bind (wX11_see_T h.2.1.tp) (fun r h4 => ?_)
    obtain ⟨t4, s5⟩ := r
    obtain ⟨o5, l5, -⟩ := h4
    dsimp only at o5 l5 ⊢
    have c5 := h.on o5
    refine t_ite (fun c93 => ?_) (fun _ => t_some c5)
    have hlt := l5 (by rw [c93]; decide)
    have g5 := c5.2.1
    have p1 := g5.1
    have p2 := g5.2.1
    have p4 := g5.2.2.2.1
    have p5 := g5.2.2.2.2.1
    have p6 := g5.2.2.2.2.2.1
    refine t_bind (wX11_isInside_T p5 (by omega)) (fun t8 h8 => t_ite (fun _ => t_some c5) (fun c8 => ?_))
    obtain ⟨i, hi, hi91⟩ : ∃ i : Nat, (i : Int) < (s5.1 152 20).toInt ∧ s5.1 160 i = 91 := by
      rcases h8 with q | q
      · exact absurd q.1 c8
      · exact q.2
    refine t_bind (wX11_settles_T (b := b) ht (by decide) g5 c5.2.2.1 c5.2.2.2.1) (fun s12 h12 => ?_)
    have c12 := c5.settle h12
    obtain ⟨r1, r2, r3, r4, r5, r6, r7, r8⟩ := h12
    have hi12 := r8 i hi (by rw [hi91]; decide)
    have htop : s5.1 160 ((s12.1 152 20).toInt - 1).toNat = 91 := by
      rcases r7 with q | q
      · omega
      · exact stv_91 (c5.2.2.1 _ (by have := r3.1.1; omega)) q
    have e20 : (s12.1 152 20 - 1).toInt = (s12.1 152 20).toInt - 1 := t_m11 (by omega) (by have := r3.1.1; omega)
    refine t_bind (t_pfI (B := bO) rfl) (fun s14 h14 => ?_)
    refine t_bind (t_pfI (B := bO) rfl) (fun s15 h15 => ?_)
    refine t_bind (t_pfI (B := b12) rfl) (fun s16 h16 => ?_)
    have a15 : wA bO s12 s15 := h14.1.trans h15.1
    have k20 : (s16.1 152 20).toInt = (s12.1 152 20).toInt - 1 := by
      rw [h16.1 152 20 rfl, h15.2, wup_nb (by decide), h14.2, wup_same, e20]
    have k12 : (s16.1 152 12).toInt = (s12.1 152 12).toInt + 1 := by
      rw [h16.2, wup_same, h15.2, wup_nb (by decide), h14.2, wup_nb (by decide)]
      exact t_p1 (by rw [r6.1]; omega) (by rw [r6.1]; omega)
    have k160 : s16.1 160 = s12.1 160 := by
      rw [h16.2, wupI_n (by omega), h15.2, wupI_n (by omega), h14.2, wupI_n (by omega)]
    have k155 : s16.1 155 = s12.1 155 := by
      rw [h16.2, wupI_n (by omega), h15.2, wupI_n (by omega), h14.2, wupI_n (by omega)]
    have k154 : s16.1 154 = s12.1 154 := by
      rw [h16.2, wupI_n (by omega), h15.2, wupI_n (by omega), h14.2, wupI_n (by omega)]
    have kf : ∀ j, j ≠ 12 → j ≠ 17 → j ≠ 20 → s16.1 152 j = s12.1 152 j := fun j j1 j2 j3 => by
      rw [h16.2, wup_nb j1, h15.2, wup_nb j2, h14.2, wup_nb j3]
    have n16 : (s12.1 152 20).toNatClampNeg = (s16.1 152 20).toNatClampNeg + 1 := by unfold Int32.toNatClampNeg; omega
    have f1 : s12.1 152 1 = s5.1 152 1 := r1 152 1 (by
      unfold bT
      rw [bE_k (by omega) (by omega) rfl]
      rfl)
    have c16 : CL t b s0 s16 := by
      obtain ⟨q1, q2, q3, q4, q5, q6⟩ := c12
      refine ⟨(q1.trans (a15.mono bO_le_bT)).trans ((h16.1.mono b12_le_bF).mono bF_le_bT), ?_, ?_, ?_, q5.trans ?_, by omega⟩
      · obtain ⟨z1, z2, z3, z4, z5, z6, z7⟩ := q2
        (first | unfold PI PJ | unfold PJ)
        rw [kf 1 (by omega) (by omega) (by omega), kf 15 (by omega) (by omega) (by omega), kf 16 (by omega) (by omega) (by omega), k155]
        exact ⟨z1, ⟨by omega, by rw [f1]; rw [r6.1] at k12; omega⟩, z3, z4, by omega, by omega, z7⟩
      · intro j hj
        rw [k160]
        exact q3 j (by omega)
      · rw [n16, nb] at q4
        rw [k160]
        have : ¬ (s12.1 160 (s16.1 152 20).toNatClampNeg = 12 ∨ s12.1 160 (s16.1 152 20).toNatClampNeg = 13) := by
          have e : (s16.1 152 20).toNatClampNeg = ((s12.1 152 20).toInt - 1).toNat := by unfold Int32.toNatClampNeg; omega
          rw [e, r3.2, htop]
          decide
        rw [if_neg this, Nat.add_zero] at q4
        unfold CS Cd at *
        rw [k155, k154, kf 16 (by omega) (by omega) (by omega)]
        exact q4
      · unfold Pr Cd
        rw [k155, k154]
        exact ⟨Int.le_refl _, fun _ _ => rfl⟩
    refine t_bind (wX11_settles_T (b := b) ht (by decide) c16.2.1 c16.2.2.1 c16.2.2.2.1) (fun s18 h18 => ?_)
    refine ih (c16.settle h18) ?_
    have z1 : (s18.1 152 12).toInt = (s16.1 152 12).toInt := by rw [h18.2.2.2.2.2.1.1]
    have z2 : (s18.1 152 1).toInt = (s.1 152 1).toInt := by
      rw [h18.1 152 1 (by unfold bT; rw [bE_k (by omega) (by omega) rfl]; rfl), kf 1 (by omega) (by omega) (by omega), f1, o5.1 152 1 rfl]
    have z3 := o5.2.1
    rw [r6.1] at k12
    omega
theorem wX11_closes_T {t b : Nat} {s0 s : wS} (ht : t ≤ 5) (h : CL t b s0 s) : Tot (wX11_closes s) (fun r => CL t b s0 r) := by
  unfold wX11_closes
  refine t_bind (wX11_settles_T (b := b) ht (by decide) h.2.1 h.2.2.1 h.2.2.2.1) (fun s2 h2 => ?_)
  have c2 := h.settle h2
  exact t_bind (wX11_closes_h5_T ht _ c2 (t_wf c2.2.1.tp)) (fun s21 h21 => t_some h21)
/-- an operand is due -/
noncomputable def TD (t b : Nat) (s0 s : wS) : Prop := wA (bT t) s0 s ∧ PI t s ∧ OS s ∧ CS t b (nb (s.1 160) (s.1 152 20).toNatClampNeg) s ∧ Pr t s0 s ∧ (s0.1 152 12).toInt ≤ (s.1 152 12).toInt
theorem CL.pre {t b : Nat} {s0 s r : wS} (a : wA (bT t) s0 s) (p : Pr t s0 s) (hN : (s0.1 152 12).toInt ≤ (s.1 152 12).toInt) (h : CL t b s r) : CL t b s0 r := ⟨a.trans h.1, h.2.1, h.2.2.1, h.2.2.2.1, p.trans h.2.2.2.2.1, by have := h.2.2.2.2.2; omega⟩
theorem bT_1 {t : Nat} {s s' : wS} (h : wA (bT t) s s') : s'.1 152 1 = s.1 152 1 := h 152 1 (by unfold bT; rw [bE_k (by omega) (by omega) rfl]; rfl)
theorem wX11_tested_h12_T {t b : Nat} {s0 : wS} (ht : t ≤ 5) : ∀ (n : Nat) {x1 : Int32} {s : wS}, ((x1 = 0 ∧ CL t b s0 s) ∨ (x1 = 1 ∧ TD t b s0 s)) → (s.1 152 1).toInt - (s.1 152 12).toInt + x1.toInt < (n : Int) → Tot (wX11_tested_h12 n x1 s) (Sum.elim (fun r => CL t b s0 r) (fun r => wA (bT t) s0 r ∧ FW r)) := by
  intro n
  induction n with
  | zero =>
    intro x1 s h hm
    exfalso
    rcases h with ⟨rfl, h⟩ | ⟨rfl, h⟩
    · have := h.2.1.2.1
      rw [show (0 : Int32).toInt = 0 from rfl] at hm; omega
    · have := h.2.1.2.1
      rw [show (1 : Int32).toInt = 1 from rfl] at hm; omega
  | succ n ih =>
    intro x1 s h hm
    rw [wX11_tested_h12]
    refine t_ite (fun c => t_some ?_) (fun c => ?_)
    · rcases h with h | h
      · exact h.2
      · rw [h.1] at c; exact absurd c (by decide)
    · obtain ⟨hx1, hT⟩ := h.resolve_left (fun q => c q.1)
      clear h
      subst hx1
      have i1 : (1 : Int32).toInt = 1 := rfl
      rw [i1] at hm
      obtain ⟨h1, h2, h3, h4, h5, h6⟩ := hT
      refine t_bind (wX11_fact_T h2 h3 ht) (fun r hf => ?_)
      obtain ⟨t4, s5⟩ := r
      obtain ⟨a5, hf⟩ := hf
      dsimp only at a5 hf ⊢
      refine t_ite (fun c => t_some ⟨h1.trans a5, fw_of hf c⟩) (fun c4 => ?_)
      obtain ⟨f1, f2, f3, f4, f5, f6, f7⟩ := ok_of hf c4
      have cl5 : CL t b s5 s5 := ⟨wA.refl, f1, f2, by rw [f4]; exact f6 b _ h4, ⟨Int.le_refl _, fun _ _ => rfl⟩, Int.le_refl _⟩
      refine t_bind (wX11_closes_T ht cl5) (fun s9 h9 => ?_)
      have n9 := h9.2.2.2.2.2
      have c9 : CL t b s0 s9 := h9.pre (h1.trans a5) (h5.trans f5) (by omega)
      have T9 : s9.1 152 1 = s.1 152 1 := by rw [bT_1 h9.1, bT_1 a5]
      have j76 : ∀ (u : wS) (y : Int32), CL t b s0 u → LT u → (s.1 152 12).toInt + 1 ≤ (u.1 152 12).toInt → u.1 152 1 = s.1 152 1 → (y = 12 ∨ y = 13) → Tot (wX11_tested_j76 (wX11_tested_h12 n) 1 y u) (Sum.elim (fun r => CL t b s0 r) (fun r => wA (bT t) s0 r ∧ FW r)) := by
        intro u y cu lu hNu hTu hy
        unfold wX11_tested_j76
        refine t_bind (wX11_passWord_T cu.2.1.tp) (fun s25 h25 => ?_)
        have k1 := h25.2 lu
        have c25 := cu.on h25.1
        have a25 : wA bF u s25 := h25.1.1.mono b12_le_bF
        have L25 : (s25.1 155 t).toInt = (u.1 155 t).toInt := by rw [(sF_of a25).2.2.2.1]
        have O25 : (s25.1 152 20).toInt = (u.1 152 20).toInt := by rw [(sF_of a25).2.2.1]
        have g6 := cu.2.1.2.2.2.2.2.1
        refine t_bind wX11_strength_T (fun t27 h27 => ?_)
        have hx : 1 ≤ t27.toInt := by rcases hy with q | q <;> rw [h27, q] <;> decide
        refine t_bind (wX11_settles_T (b := b) ht hx c25.2.1 c25.2.2.1 c25.2.2.2.1) (fun s30 h30 => ?_)
        have c30 := c25.settle h30
        obtain ⟨r1, r2, r3, r4, r5, r6, r7, r8⟩ := h30
        have z1 := r2.1
        have z2 := r2.2.1
        have z4 := r2.2.2.2.1
        have z5 := r2.2.2.2.2.1
        have e12 : (s30.1 152 12).toInt = (s25.1 152 12).toInt := by rw [r6.1]
        refine t_bind (t_stI (B := bO) (n := 400) z5 (by omega) (fun _ => rfl)) (fun s32 h32 => ?_)
        refine t_bind (t_pfI (B := bO) rfl) (fun s33 h33 => ?_)
        have f20 : s32.1 152 20 = s30.1 152 20 := by rw [h32.2, wupI_n (by omega)]
        have k20 : (s33.1 152 20).toInt = (s30.1 152 20).toInt + 1 := by
          rw [h33.2, wup_same, f20]
          exact t_p1 z5 (by omega)
        have k160 : s33.1 160 = upd (s30.1 160) (s30.1 152 20).toNatClampNeg y := by
          rw [h33.2, wupI_n (by omega), h32.2, wupI_k]
        have k155 : s33.1 155 = s30.1 155 := by rw [h33.2, wupI_n (by omega), h32.2, wupI_n (by omega)]
        have k154 : s33.1 154 = s30.1 154 := by rw [h33.2, wupI_n (by omega), h32.2, wupI_n (by omega)]
        have kf : ∀ j, j ≠ 20 → s33.1 152 j = s30.1 152 j := fun j j1 => by rw [h33.2, wup_nb j1, h32.2, wupI_n (by omega)]
        have n33 : (s33.1 152 20).toNatClampNeg = (s30.1 152 20).toNatClampNeg + 1 := by unfold Int32.toNatClampNeg; omega
        have T30 : s30.1 152 1 = s25.1 152 1 := bT_1 r1
        obtain ⟨d1, d2, d3, d4, d5, d6⟩ := c30
        refine ih (Or.inr ⟨rfl, (d1.trans (h32.1.mono bO_le_bT)).trans (h33.1.mono bO_le_bT), ?_, ?_, ?_, d5.trans ?_, by rw [kf 12 (by omega)]; exact d6⟩) ?_
        · obtain ⟨p1, p2, p3, p4, p5, p6, p7⟩ := d2
          (first | unfold PI PJ | unfold PJ)
          rw [kf 1 (by omega), kf 12 (by omega), kf 15 (by omega), kf 16 (by omega), k155]
          exact ⟨p1, p2, p3, p4, by omega, by omega, p7⟩
        · intro i hi
          rw [k160]
          unfold upd
          by_cases e : i = (s30.1 152 20).toNatClampNeg
          · rw [if_pos e]
            rcases hy with q | q
            · exact Or.inr (Or.inl q)
            · exact Or.inr (Or.inr (Or.inl q))
          · rw [if_neg e]
            refine d3 i ?_
            unfold Int32.toNatClampNeg at e
            omega
        · rw [n33, k160, nb, nb_congr (f := s30.1 160) (fun i hi => by unfold upd; rw [if_neg (by omega)])]
          have : upd (s30.1 160) (s30.1 152 20).toNatClampNeg y (s30.1 152 20).toNatClampNeg = 12 ∨ upd (s30.1 160) (s30.1 152 20).toNatClampNeg y (s30.1 152 20).toNatClampNeg = 13 := by
            unfold upd
            rw [if_pos rfl]
            exact hy
          rw [if_pos this]
          unfold CS Cd at *
          rw [k155, k154, kf 16 (by omega)]
          exact d4
        · unfold Pr Cd
          rw [k155, k154]
          exact ⟨Int.le_refl _, fun _ _ => rfl⟩
        · rw [kf 1 (by omega), kf 12 (by omega), i1, T30, h25.1.1 152 1 rfl, hTu]
          omega
      have j49 : ∀ (u : wS), CL t b s0 u → LT u → (s.1 152 12).toInt + 1 ≤ (u.1 152 12).toInt → u.1 152 1 = s.1 152 1 → Tot (wX11_tested_j49 (wX11_tested_h12 n) u) (Sum.elim (fun r => CL t b s0 r) (fun r => wA (bT t) s0 r ∧ FW r)) := by
        intro u cu lu hNu hTu
        unfold wX11_tested_j49 wX11_tested_j54
        refine t_ite (fun c => absurd c (by decide)) (fun _ => ?_)
        refine t_bind (wX11_isWord_T cu.2.1.tp) (fun r h20 => ?_)
        obtain ⟨t20, s21⟩ := r
        obtain ⟨-, -, e20⟩ := h20
        dsimp only at e20 ⊢
        obtain rfl := e20 lu.sb
        exact t_ite (fun _ => j76 _ 13 cu lu hNu hTu (Or.inr rfl)) (fun _ => j76 _ 12 cu lu hNu hTu (Or.inl rfl))
      refine t_bind (wX11_isWord_T c9.2.1.tp) (fun r h11 => ?_)
      obtain ⟨t11, s12⟩ := r
      obtain ⟨o12, l12, -⟩ := h11
      dsimp only at o12 l12 ⊢
      have q12 := o12.2.1
      refine t_ite (fun _ => ?_) (fun c11 => j49 s12 (c9.on o12) (l12.resolve_left c11).2 (by omega) (by rw [o12.1 152 1 rfl, T9]))
      refine t_bind (wX11_isWord_T (c9.on o12).2.1.tp) (fun r h15 => ?_)
      obtain ⟨t15, s16⟩ := r
      obtain ⟨o16, l16, -⟩ := h15
      dsimp only at o16 l16 ⊢
      have oo := o12.trans o16
      have q16 := oo.2.1
      refine t_ite (fun _ => ?_) (fun c15 => j49 s16 (c9.on oo) (l16.resolve_left c15).2 (by omega) (by rw [oo.1 152 1 rfl, T9]))
      unfold wX11_tested_j54
      refine t_ite (fun _ => ?_) (fun c => absurd rfl c)
      exact ih (Or.inl ⟨rfl, c9.on oo⟩) (by rw [t_i0, oo.1 152 1 rfl, T9]; omega)
theorem PL_of {t : Nat} {s : wS} (g : PI t s) : PL t s := by
  obtain ⟨p1, p2, p3, p4, p5, p6, p7⟩ := g
  refine ⟨p1, p2, p3, p4, Int.le_refl 0, ?_, p7⟩
  show (s.1 155 t).toInt + 0 ≤ _
  omega
theorem wX11_tested_T {t b : Nat} {s : wS} (g : PL t s) (ht : t ≤ 5) (hb : (b : Int) = (s.1 155 t).toInt) : Tot (wX11_tested s) (fun r => wA (bT t) s r.2 ∧ ((r.1 = 0 ∧ FW r.2) ∨ (r.1 = 1 ∧ PI t r.2 ∧ Pr t s r.2 ∧ CS t b 1 r.2 ∧ (s.1 152 12).toInt ≤ (r.2.1 152 12).toInt))) := by
  unfold wX11_tested
  refine t_bind (t_pfI (B := bO) rfl) (fun s1 h1 => ?_)
  refine t_bind (t_pfI (B := bO) rfl) (fun s2 h2 => ?_)
  have k20 : (s2.1 152 20).toInt = 0 := by rw [h2.2, wup_nb (by decide), h1.2, wup_same]; rfl
  have k155 : s2.1 155 = s.1 155 := by rw [h2.2, wupI_n (by omega), h1.2, wupI_n (by omega)]
  have k154 : s2.1 154 = s.1 154 := by rw [h2.2, wupI_n (by omega), h1.2, wupI_n (by omega)]
  have kf : ∀ j, j ≠ 17 → j ≠ 20 → s2.1 152 j = s.1 152 j := fun j j1 j2 => by rw [h2.2, wup_nb j1, h1.2, wup_nb j2]
  have a2 : wA (bT t) s s2 := (h1.1.trans h2.1).mono bO_le_bT
  have g2 : PI t s2 := by
    obtain ⟨p1, p2, p3, p4, p5, p6, p7⟩ := g
    (first | unfold PI PJ | unfold PJ)
    rw [kf 1 (by omega) (by omega), kf 12 (by omega) (by omega), kf 15 (by omega) (by omega), kf 16 (by omega) (by omega), k155]
    exact ⟨p1, p2, p3, p4, by omega, by omega, p7⟩
  have pr2 : Pr t s s2 := by
    unfold Pr Cd
    rw [k155, k154]
    exact ⟨Int.le_refl _, fun _ _ => rfl⟩
  have c2 : CS t b (nb (s2.1 160) (s2.1 152 20).toNatClampNeg) s2 := by
    have e : (s2.1 152 20).toNatClampNeg = 0 := by unfold Int32.toNatClampNeg; omega
    rw [e]
    have e2 : ((s2.1 155 t).toInt - b).toNat = 0 := by rw [k155]; omega
    refine ⟨by rw [k155]; omega, ?_, g2.2.2.2.2.2.2.1⟩
    rw [e2]
    rfl
  refine t_bind (wX11_tested_h12_T (b := b) (s0 := s2) ht _ (Or.inr ⟨rfl, wA.refl, g2, fun i hi => by omega, c2, ⟨Int.le_refl _, fun _ _ => rfl⟩, Int.le_refl _⟩) (by have e : ((wFuel : Nat) : Int) = 1099511627776 := rfl; rw [show (1 : Int32).toInt = 1 from rfl]; have := g2.1; have := g2.2.1; omega)) (fun z hz => ?_)
  rcases z with s35 | s51
  · obtain ⟨h1', h2', h3', h4', h5', h6'⟩ := hz
    have p5 := h2'.2.2.2.2.1
    have p6 := h2'.2.2.2.2.2.1
    have p1 := h2'.1
    have p2 := h2'.2.1
    have p4 := h2'.2.2.2.1
    refine t_bind (wX11_isInside_T p5 (by omega)) (fun t38 h38 => t_ite (fun c => ?_) (fun _ => ?_))
    · have hno : ∀ i : Nat, (i : Int) < (s35.1 152 20).toInt → ¬ s35.1 160 i = 91 := by
        rcases h38 with q | q
        · exact q.2
        · rw [q.1] at c; exact absurd c (by decide)
      refine t_bind (wX11_settles_T (b := b) ht (by decide) h2' h3' h4') (fun s42 h42 => t_some ?_)
      obtain ⟨r1, r2, r3, r4, r5, r6, r7, r8⟩ := h42
      have hz0 : (s42.1 152 20).toInt = 0 := by
        have r25 := r2.2.2.2.2.1
        by_cases hp : (s42.1 152 20).toInt = 0
        · exact hp
        · exfalso
          have q := r7.resolve_left hp
          exact hno _ (by have := r3.1.1; omega) (stv_91 (h3' _ (by have := r3.1.1; omega)) q)
      have e0 : (s42.1 152 20).toNatClampNeg = 0 := by unfold Int32.toNatClampNeg; omega
      rw [e0] at r4
      exact ⟨(a2.trans h1').trans r1, Or.inr ⟨rfl, r2, (pr2.trans h5').trans r5, r4, by show _ ≤ (s42.1 152 12).toInt; rw [r6.1]; rw [kf 12 (by omega) (by omega)] at h6'; exact h6'⟩⟩
    · refine t_bind (wX11_see_T h2'.tp) (fun r h44 => ?_)
      obtain ⟨t44, s45⟩ := r
      have o := h44.1
      dsimp only at o ⊢
      refine t_bind wX11_fails_T (fun r hf => ?_)
      obtain ⟨t47, s48⟩ := r
      dsimp only at hf ⊢
      have q45 := o.tp h2'.tp
      exact t_bind (t_rtZ (Or.inl hf.2.1)) (fun t50 h50 => t_some ⟨(a2.trans h1').trans (((o.1.mono b12_le_bF).trans (fails_F hf.1)).mono bF_le_bT), Or.inl ⟨by show t50 = 0; rw [h50, hf.2.1], hf.2.2 (by decide) (by decide) q45.2.1 (by have := q45.1; have := q45.2; omega)⟩⟩)
  · exact t_some ⟨a2.trans hz.1, Or.inl ⟨rfl, hz.2⟩⟩
