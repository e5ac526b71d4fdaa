/-! The reference reads: SUMS, FACTS, their code. -/
theorem hrun_snoc {C : Nat → Int32} : ∀ {n i h h1 h2 : Nat}, hrun C n i h = some h1 → hstep (C (i + n)) h1 = some h2 → hrun C (n + 1) i h = some h2 := by
  intro n
  induction n with
  | zero =>
    intro i h h1 h2 hr hs
    obtain rfl := Option.some.inj hr
    show (match hstep (C i) h with
      | none => none
      | some h1 => hrun C 0 (i + 1) h1) = some h2
    rw [Nat.add_zero] at hs
    rw [hs]
    rfl
  | succ n ih =>
    intro i h h1 h2 hr hs
    unfold hrun at hr ⊢
    cases e : hstep (C i) h with
    | none => rw [e] at hr; cases hr
    | some h3 =>
      rw [e] at hr
      exact ih hr (by rw [show i + 1 + n = i + (n + 1) by omega]; exact hs)
theorem hrun_congr {C C' : Nat → Int32} : ∀ {n i h : Nat}, (∀ j, i ≤ j → j < i + n → C' j = C j) → hrun C' n i h = hrun C n i h := by
  intro n
  induction n with
  | zero => intro i h _; rfl
  | succ n ih =>
    intro i h hc
    unfold hrun
    rw [hc i (by omega) (by omega)]
    cases hstep (C i) h with
    | none => rfl
    | some h1 => exact ih (fun j h2 h3 => hc j (by omega) (by omega))
noncomputable def Cd (t : Nat) (s : wS) (i : Nat) : Int32 := s.1 154 (400 * t + i)
noncomputable def CS (t b h : Nat) (s : wS) : Prop := (b : Int) ≤ (s.1 155 t).toInt ∧ hrun (Cd t s) ((s.1 155 t).toInt - b).toNat b 0 = some h ∧ (h : Int) ≤ (s.1 152 16).toInt
noncomputable def Pr (t : Nat) (s s' : wS) : Prop := (s.1 155 t).toInt ≤ (s'.1 155 t).toInt ∧ ∀ i : Nat, (i : Int) < (s.1 155 t).toInt → Cd t s' i = Cd t s i
theorem Pr.trans {t : Nat} {s u v : wS} (h : Pr t s u) (g : Pr t u v) : Pr t s v := ⟨by have := h.1; have := g.1; omega, fun i hi => (g.2 i (by have := h.1; omega)).trans (h.2 i hi)⟩
noncomputable def GJ (oz : Int32 → Int) (t : Nat) (s s' : wS) : Prop := PJ oz t s' ∧ Pr t s s' ∧ (∀ b h, CS t b h s → CS t b (h + 1) s') ∧ (s.1 152 12).toInt + 1 ≤ (s'.1 152 12).toInt ∧ (s.1 152 12).toInt - (s.1 155 t).toInt ≤ (s'.1 152 12).toInt - (s'.1 155 t).toInt
noncomputable abbrev GE (t : Nat) (s s' : wS) : Prop := GJ Int32.toInt t s s'
theorem Pr_F {t : Nat} {s s' : wS} (h : wA bF s s') : Pr t s s' := by
  obtain ⟨-, -, -, q4, -, q6, -⟩ := sF_of h
  unfold Pr Cd
  rw [q4, q6]
  exact ⟨Int.le_refl _, fun _ _ => rfl⟩
theorem CS_F {t b x : Nat} {s s' : wS} (h : wA bF s s') (hM : (s.1 152 16).toInt ≤ (s'.1 152 16).toInt) (g : CS t b x s) : CS t b x s' := by
  obtain ⟨-, -, -, q4, -, q6, -⟩ := sF_of h
  unfold CS Cd at *
  rw [q4, q6]
  exact ⟨g.1, g.2.1, by have := g.2.2; omega⟩
/-- what a sign that was put does -/
noncomputable def PT (t : Nat) (v : Int32) (s s' : wS) : Prop := wA (bE t) s s' ∧ (s'.1 155 t).toInt = (s.1 155 t).toInt + 1 ∧ (∀ i : Nat, Cd t s' i = if (i : Int) = (s.1 155 t).toInt then v else Cd t s i) ∧ s'.1 152 = s.1 152 ∧ s'.1 160 = s.1 160
theorem wX11_puts_T {oz : Int32 → Int} {t : Nat} {x1 x2 : Int32} {s : wS} (g : PJ oz t s) (ht : t ≤ 5) (hs : (s.1 155 t).toInt + oz (s.1 152 20) + 1 ≤ (s.1 152 12).toInt) : Tot (wX11_puts x1 x2 s) (fun r => PT t (x1 + 16 * x2) s r) := by
  unfold wX11_puts
  obtain ⟨g1, g2, g3, g4, g5, g6, g7⟩ := g
  have hX : (s.1 152 15).toNatClampNeg = t := by unfold Int32.toNatClampNeg; omega
  refine t_bind (t_ldI (n := 7) (by omega) (by omega)) (fun t1 h1 => ?_)
  rw [hX] at h1
  have e := t_sg (l := s.1 152 15) (i := t1) (by omega) (by omega) (by rw [h1]; omega) (by rw [h1]; omega)
  have en : ((400 * s.1 152 15) + t1).toNatClampNeg = 400 * t + t1.toNatClampNeg := by
    unfold Int32.toNatClampNeg
    rw [e, h1]
    omega
  refine t_bind (t_st1 (B := bE t) (n := 2400) (by rw [e, h1]; omega) (by rw [e, h1]; omega) (by
    rw [en]
    have l1 : Nat.ble (400 * t) (400 * t + t1.toNatClampNeg) = true := Nat.ble_eq_true_of_le (by omega)
    have l2 : Nat.blt (400 * t + t1.toNatClampNeg) (400 * t + 400) = true := Nat.ble_eq_true_of_le (by unfold Int32.toNatClampNeg; rw [h1]; omega)
    unfold bE
    rw [l1, l2]
    rfl)) (fun s2 h2 => ?_)
  have f15 : s2.1 152 15 = s.1 152 15 := by rw [h2.2, wupI_n (by omega)]
  refine t_bind (t_ldI (n := 7) (by rw [f15]; omega) (by rw [f15]; omega)) (fun t3 h3 => ?_)
  rw [f15, hX, h2.2, wupI_n (by omega)] at h3
  refine t_bind (t_st1 (B := bE t) (n := 7) (by rw [f15]; omega) (by rw [f15]; omega) (by
    rw [f15, hX]
    have l1 : Nat.beq t t = true := Nat.beq_refl t
    unfold bE
    rw [l1]
    rfl)) (fun s4 h4 => t_some ?_)
  have ev : (t3 + 1).toInt = (s.1 155 t).toInt + 1 := by rw [h3]; exact t_p1 g4 (by omega)
  refine ⟨h2.1.trans h4.1, ?_, fun i => ?_, ?_, ?_⟩
  · rw [h4.2, f15, hX, wup_same, ev]
  · unfold Cd
    rw [h4.2, wupI_n (by omega), h2.2, wupI_k, en]
    unfold upd
    by_cases hi : (i : Int) = (s.1 155 t).toInt
    · rw [if_pos hi, if_pos (by unfold Int32.toNatClampNeg; rw [h1]; omega)]
    · rw [if_neg hi, if_neg (by unfold Int32.toNatClampNeg; rw [h1]; omega)]
  · rw [h4.2, wupI_n (by omega), h2.2, wupI_n (by omega)]
  · rw [h4.2, wupI_n (by omega), h2.2, wupI_n (by omega)]
theorem bE_k {t k b : Nat} (h1 : k ≠ 154) (h2 : k ≠ 155) (h3 : bF k b = false) : bE t k b = false := by
  have e1 : Nat.beq k 154 = false := by cases e : Nat.beq k 154 with | false => rfl | true => exact absurd (Nat.eq_of_beq_eq_true e) h1
  have e2 : Nat.beq k 155 = false := by cases e : Nat.beq k 155 with | false => rfl | true => exact absurd (Nat.eq_of_beq_eq_true e) h2
  unfold bE
  rw [e1, e2, h3]
  rfl
theorem PT.pi {oz : Int32 → Int} {t : Nat} {v : Int32} {s s' : wS} (h : PT t v s s') (g : PJ oz t s) (hs : (s.1 155 t).toInt + oz (s.1 152 20) + 1 ≤ (s.1 152 12).toInt) : PJ oz t s' := by
  obtain ⟨h1, h2, h3, h4, h5⟩ := h
  obtain ⟨g1, g2, g3, g4, g5, g6, g7⟩ := g
  unfold PJ
  rw [h4]
  exact ⟨g1, g2, g3, by omega, g5, by omega, g7⟩
theorem PT.pr {t : Nat} {v : Int32} {s s' : wS} (h : PT t v s s') : Pr t s s' := ⟨by have := h.2.1; omega, fun i hi => by rw [h.2.2.1, if_neg (by omega)]⟩
theorem PT.cs {t b x y : Nat} {v : Int32} {s s' : wS} (h : PT t v s s') (g : CS t b x s) (hs : hstep v x = some y) (hy : (y : Int) ≤ (s.1 152 16).toInt) : CS t b y s' := by
  obtain ⟨h1, h2, h3, h4, h5⟩ := h
  obtain ⟨g1, g2, g3⟩ := g
  refine ⟨by omega, ?_, by rw [h4]; exact hy⟩
  have e : ((s'.1 155 t).toInt - b).toNat = ((s.1 155 t).toInt - b).toNat + 1 := by omega
  rw [e]
  refine hrun_snoc (h1 := x) ?_ ?_
  · rw [hrun_congr (C := Cd t s) (fun j hj1 hj2 => by rw [h3, if_neg (by omega)])]
    exact g2
  · rw [h3, if_pos (by omega)]
    exact hs
theorem hs_and15 (v : Int32) : (16 * v) &&& 15 = 0 := by
  apply Int32.toBitVec_inj.1
  rw [Int32.toBitVec_and, Int32.toBitVec_mul]
  apply BitVec.eq_of_toNat_eq
  rw [BitVec.toNat_and, BitVec.toNat_mul]
  have e1 : ((16 : Int32).toBitVec).toNat = 16 := rfl
  have e2 : ((15 : Int32).toBitVec).toNat = 2 ^ 4 - 1 := rfl
  have e3 : ((0 : Int32).toBitVec).toNat = 0 := rfl
  rw [e1, e2, e3, Nat.and_two_pow_sub_one_eq_mod]
  omega
theorem hs_num {v : Int32} {h : Nat} (hh : h < 60) : hstep (0 + 16 * v) h = some (h + 1) := by
  have e : (0 + 16 * v) &&& 15 = 0 := by rw [Int32.zero_add]; exact hs_and15 v
  unfold hstep
  rw [if_pos e, if_pos hh]
theorem hs_word {v : Int32} {h : Nat} (hh : h < 60) (h0 : 0 ≤ v.toInt) (h7 : v.toInt ≤ 7) : hstep (1 + 16 * v) h = some (h + 1) := by
  have k : v = 0 ∨ v = 1 ∨ v = 2 ∨ v = 3 ∨ v = 4 ∨ v = 5 ∨ v = 6 ∨ v = 7 := by
    have e : ∀ c : Int32, v.toInt = c.toInt → v = c := fun c h => Int32.toInt_inj.1 h
    rcases (by omega : v.toInt = 0 ∨ v.toInt = 1 ∨ v.toInt = 2 ∨ v.toInt = 3 ∨ v.toInt = 4 ∨ v.toInt = 5 ∨ v.toInt = 6 ∨ v.toInt = 7) with q | q | q | q | q | q | q | q
    · exact Or.inl (e 0 q)
    · exact Or.inr (Or.inl (e 1 q))
    · exact Or.inr (Or.inr (Or.inl (e 2 q)))
    · exact Or.inr (Or.inr (Or.inr (Or.inl (e 3 q))))
    · exact Or.inr (Or.inr (Or.inr (Or.inr (Or.inl (e 4 q)))))
    · exact Or.inr (Or.inr (Or.inr (Or.inr (Or.inr (Or.inl (e 5 q))))))
    · exact Or.inr (Or.inr (Or.inr (Or.inr (Or.inr (Or.inr (Or.inl (e 6 q)))))))
    · exact Or.inr (Or.inr (Or.inr (Or.inr (Or.inr (Or.inr (Or.inr (e 7 q)))))))
  have z : ∀ w : Int32, ¬ ((1 + 16 * w) &&& 15 = 0) → (1 + 16 * w) &&& 15 = 1 → (0 ≤ ((1 + 16 * w) >>> ((4 : Int32) &&& 31)).toInt ∧ ((1 + 16 * w) >>> ((4 : Int32) &&& 31)).toInt < 8) → hstep (1 + 16 * w) h = some (h + 1) := by
    intro w a1 a2 a3
    unfold hstep
    rw [if_neg a1, if_pos a2, if_pos ⟨hh, a3⟩]
  rcases k with rfl | rfl | rfl | rfl | rfl | rfl | rfl | rfl <;> exact z _ (by decide) (by decide) (by decide)
/-- a sign that joins two -/
noncomputable def opc (v : Int32) : Prop := ¬ (v &&& 15 = 0) ∧ ¬ (v &&& 15 = 1) ∧ ¬ (v &&& 15 = 11)
theorem hs_op {v : Int32} {h : Nat} (ho : opc v) (hh : 2 ≤ h) : hstep v h = some (h - 1) := by
  unfold hstep
  rw [if_neg ho.1, if_neg ho.2.1, if_neg ho.2.2, if_pos hh]
theorem hs_not {h : Nat} (hh : 1 ≤ h) : hstep (11 + 16 * 0) h = some h := by
  unfold hstep
  rw [if_neg (by decide), if_neg (by decide), if_pos (by decide), if_pos hh]
theorem wX11_makes_T {x1 : Int32} {s : wS} (h0 : 0 ≤ (s.1 152 16).toInt) (h6 : (s.1 152 16).toInt ≤ 60) (hx : 0 ≤ x1.toInt) (hx2 : x1.toInt ≤ 1000) : Tot (wX11_makes x1 s) (fun r => wA bF s r.2 ∧ r.2.1 152 12 = s.1 152 12 ∧ ((r.1 = 0 ∧ FW r.2) ∨ (r.1 = 1 ∧ (r.2.1 152 16).toInt = (s.1 152 16).toInt + 1 ∧ (s.1 152 16).toInt < 60))) := by
  unfold wX11_makes
  refine t_ite (fun _ => ?_) (fun c => ?_)
  · refine t_bind wX11_fails_T (fun r h => ?_)
    obtain ⟨t2, s3⟩ := r
    dsimp only at h ⊢
    exact t_bind (t_rtZ (Or.inl h.2.1)) (fun t5 h5 => t_some ⟨fails_F h.1, h.1 152 12 rfl, Or.inl ⟨by show t5 = 0; rw [h5, h.2.1], h.2.2 (by decide) (by decide) hx hx2⟩⟩)
  · have hc := t_nq c
    rw [show (60 : Int32).toInt = 60 from rfl] at hc
    refine t_bind (t_pfI (B := bF) rfl) (fun s6 h => t_some ⟨h.1, ?_, Or.inr ⟨rfl, ?_, by omega⟩⟩)
    · show s6.1 152 12 = _
      rw [h.2]; exact wup_nb (by decide)
    · show (s6.1 152 16).toInt = _
      rw [h.2, wup_same]
      exact t_p1 h0 (by omega)
theorem bF_le {t : Nat} {s s' : wS} (h : wA bF s s') : wA (bE t) s s' := h.mono bF_le_bE
/-- a VALUE at its end -/
theorem value_end {oz : Int32 → Int} {t : Nat} {v : Int32} {s u w r : wS} (ht : t ≤ 5) (g : PJ oz t s) (h1 : wA bF s u) (hM : u.1 152 16 = s.1 152 16) (hu : PJ oz t u) (hw : wA bF u w) (hw12 : (u.1 152 12).toInt ≤ (w.1 152 12).toInt ∧ PJ oz t w) (hm : (w.1 152 16).toInt = (u.1 152 16).toInt + 1 ∧ (u.1 152 16).toInt < 60) (hN : (s.1 152 12).toInt + 1 ≤ (w.1 152 12).toInt) (hp : PT t v w r) (hs : ∀ h, h < 60 → hstep v h = some (h + 1)) : GJ oz t s r := by
  have a := h1.trans hw
  obtain ⟨-, -, q3, q4, -⟩ := sF_of a
  have hL : (w.1 155 t).toInt = (s.1 155 t).toInt := by rw [q4]
  have hO : oz (w.1 152 20) = oz (s.1 152 20) := by rw [q3]
  have g6 := g.2.2.2.2.2.1
  have e12 : (r.1 152 12).toInt = (w.1 152 12).toInt := by rw [hp.2.2.2.1]
  refine ⟨hp.pi hw12.2 (by omega), (Pr_F a).trans hp.pr, fun b h hc => ?_, by omega, by have := hp.2.1; omega⟩
  have hc2 := CS_F a (by rw [hm.1, hM]; omega) hc
  have h60 : h < 60 := by have := hc.2.2; rw [hM] at hm; omega
  refine hp.cs hc2 (hs h h60) ?_
  have := hc.2.2
  rw [hM] at hm
  omega
theorem wX11_value_T {oz : Int32 → Int} {t : Nat} {s : wS} (g : PJ oz t s) (ht : t ≤ 5) : Tot (wX11_value s) (fun r => wA (bE t) s r.2 ∧ ((r.1 = 0 ∧ FW r.2) ∨ (r.1 = 1 ∧ GJ oz t s r.2))) := by
  unfold wX11_value
  refine t_bind (wX11_see_T g.tp) (fun r h => ?_)
  obtain ⟨t1, s2⟩ := r
  have o := h.1
  dsimp only at o ⊢
  have g2 := o.pi g
  have gm := g2.2.2.2.2.2.2
  have a2 : wA bF s s2 := o.1.mono b12_le_bF
  have m2 : s2.1 152 16 = s.1 152 16 := o.1 152 16 rfl
  refine t_bind (wX11_isDigit_T g2.tp g2.2.1.1) (fun t4 h4 => t_ite (fun _ => ?_) (fun _ => ?_))
  · refine t_bind (wX11_wordHere_T g2.tp) (fun r h7 => ?_)
    obtain ⟨t7, s8⟩ := r
    obtain ⟨o7, h7⟩ := h7
    dsimp only at o7 h7 ⊢
    have o8 := o.trans o7
    have g8 := o8.pi g
    have a8 : wA bF s s8 := o8.1.mono b12_le_bF
    have m8 : s8.1 152 16 = s.1 152 16 := o8.1 152 16 rfl
    refine t_ite (fun _ => ?_) (fun c => ?_)
    · refine t_bind wX11_fails_T (fun r hf => ?_)
      obtain ⟨t11, s12⟩ := r
      dsimp only at hf ⊢
      exact t_bind (t_rtZ (Or.inl hf.2.1)) (fun t14 h14 => t_some ⟨bF_le (a8.trans (fails_F hf.1)), Or.inl ⟨by show t14 = 0; rw [h14, hf.2.1], hf.2.2 (by decide) (by decide) g2.2.1.1 (by have := g2.1; have := g2.2.1; omega)⟩⟩)
    · have hc := t_ge c
      rw [t_i0] at hc
      have h7' : t7.toInt ≤ 7 ∧ LT s8 := by
        rcases h7 with q | q
        · omega
        · exact q.2
      have gm8 := g8.2.2.2.2.2.2
      refine t_bind (wX11_makes_T gm8.1 gm8.2 g2.2.1.1 (by have := g2.1; have := g2.2.1; omega)) (fun r hm => ?_)
      obtain ⟨t15, s16⟩ := r
      obtain ⟨am, m12, hm⟩ := hm
      dsimp only at am m12 hm ⊢
      refine t_ite (fun c => t_some ⟨bF_le (a8.trans am), Or.inl ⟨rfl, fw_of hm c⟩⟩) (fun c15 => ?_)
      have hm1 := ok_of hm c15
      have g16 : PJ oz t s16 := PI_F am g8 (by rw [m12]; omega) (by rw [m12]; exact g8.2.1.2) (by omega)
      have l16 : LT s16 := by
        obtain ⟨q1, q2⟩ := h7'.2
        refine ⟨by rw [m12, am 152 1 rfl]; exact q1, ?_⟩
        unfold LTx at *
        rw [m12, (sF_of am).2.2.2.2.1]
        exact q2
      refine t_bind (wX11_passWord_T g16.tp) (fun s20 h20 => ?_)
      have n20 := h20.2 l16
      have g20 := h20.1.pi g16
      have a20 : wA bF s8 s20 := am.trans (h20.1.1.mono b12_le_bF)
      have L20 : (s20.1 155 t).toInt = (s.1 155 t).toInt := by rw [(sF_of (a8.trans a20)).2.2.2.1]
      have O20 : oz (s20.1 152 20) = oz (s.1 152 20) := by rw [(sF_of (a8.trans a20)).2.2.1]
      have g6 := g.2.2.2.2.2.1
      have hN : (s.1 152 12).toInt + 1 ≤ (s20.1 152 12).toInt := by have := o8.2.1; rw [m12] at n20; omega
      refine t_bind (wX11_puts_T g20 ht (by omega)) (fun s23 h23 => t_some ⟨(bF_le (a8.trans a20)).trans h23.1, Or.inr ⟨rfl, ?_⟩⟩)
      have M20 : s20.1 152 16 = s16.1 152 16 := h20.1.1 152 16 rfl
      exact value_end ht g a8 m8 g8 a20 ⟨by rw [m12] at n20; omega, g20⟩ (by rw [M20]; exact hm1) hN h23 (fun h hh => hs_word hh hc h7'.1)
  · refine t_bind (wX11_numberHere_T g2.tp) (fun r h25 => ?_)
    obtain ⟨t25, s26⟩ := r
    obtain ⟨o26, h25⟩ := h25
    dsimp only at o26 h25 ⊢
    have oo := o.of.trans o26
    have g26 := oo.pi g
    have a26 : wA bF s s26 := oo.1.mono OF_le_bF
    refine t_ite (fun c => t_some ⟨bF_le a26, Or.inl ⟨rfl, fw_of h25 c⟩⟩) (fun c25 => ?_)
    have h25' := ok_of h25 c25
    have gm8 := g26.2.2.2.2.2.2
    refine t_bind (wX11_makes_T gm8.1 gm8.2 g2.2.1.1 (by have := g2.1; have := g2.2.1; omega)) (fun r hm => ?_)
    obtain ⟨t29, s30⟩ := r
    obtain ⟨am, m12, hm⟩ := hm
    dsimp only at am m12 hm ⊢
    refine t_ite (fun c => t_some ⟨bF_le (a26.trans am), Or.inl ⟨rfl, fw_of hm c⟩⟩) (fun c15 => ?_)
    have hm1 := ok_of hm c15
    have g16 : PJ oz t s30 := PI_F am g26 (by rw [m12]; omega) (by rw [m12]; exact g26.2.1.2) (by omega)
    have L20 : (s30.1 155 t).toInt = (s.1 155 t).toInt := by rw [(sF_of (a26.trans am)).2.2.2.1]
    have O20 : oz (s30.1 152 20) = oz (s.1 152 20) := by rw [(sF_of (a26.trans am)).2.2.1]
    have g6 := g.2.2.2.2.2.1
    have hN : (s.1 152 12).toInt + 1 ≤ (s30.1 152 12).toInt := by have := o.2.1; rw [m12]; omega
    refine t_bind (wX11_puts_T g16 ht (by omega)) (fun s34 h34 => t_some ⟨(bF_le (a26.trans am)).trans h34.1, Or.inr ⟨rfl, ?_⟩⟩)
    exact value_end ht g a26 (oo.1 152 16 rfl) g26 am ⟨by rw [m12]; omega, g16⟩ hm1 hN h34 (fun h hh => hs_num hh)
/-- on to the next: a sign was passed -/
theorem GE_step {oz : Int32 → Int} {t : Nat} {v : Int32} {s0 s u w r : wS} (g0 : GJ oz t s0 s) (o : ON s u) (hw : wA b12 u w) (hw12 : (w.1 152 12).toInt = (u.1 152 12).toInt + 1) (gv : GJ oz t w r) {z : wS} (hp : PT t v r z) (ho : opc v) (hr2 : oz (r.1 152 20) = oz (s.1 152 20)) : GJ oz t s0 z := by
  obtain ⟨p1, p2, p3, p4, p5⟩ := g0
  obtain ⟨v1, v2, v3, v4, v5⟩ := gv
  have a : wA bF s w := (o.1.mono b12_le_bF).trans (hw.mono b12_le_bF)
  have hL : (w.1 155 t).toInt = (s.1 155 t).toInt := by rw [(sF_of a).2.2.2.1]
  have e12 : (z.1 152 12).toInt = (r.1 152 12).toInt := by rw [hp.2.2.2.1]
  have o2 := o.2.1
  have g6 := p1.2.2.2.2.2.1
  refine ⟨hp.pi v1 (by omega), ((p2.trans (Pr_F a)).trans v2).trans hp.pr, fun b h hc => ?_, by omega, by have := hp.2.1; omega⟩
  have hc1 := p3 b h hc
  have hM : (w.1 152 16).toInt = (s.1 152 16).toInt := by rw [hw 152 16 rfl, o.1 152 16 rfl]
  have hc2 := CS_F a (by omega) hc1
  have hc3 := v3 b (h + 1) hc2
  exact hp.cs hc3 (hs_op ho (by omega)) (by have := hc3.2.2; omega)
theorem bE_20 {t : Nat} {s s' : wS} (h : wA (bE t) s s') : s'.1 152 20 = s.1 152 20 := h 152 20 (bE_k (by omega) (by omega) rfl)
theorem bE_1 {t : Nat} {s s' : wS} (h : wA (bE t) s s') : s'.1 152 1 = s.1 152 1 := h 152 1 (bE_k (by omega) (by omega) rfl)
theorem wX11_term_h9_T {oz : Int32 → Int} {t : Nat} {s0 : wS} (ht : t ≤ 5) : ∀ (n : Nat) {s : wS}, wA (bE t) s0 s → GJ oz t s0 s → (s.1 152 1).toInt - (s.1 152 12).toInt < (n : Int) → Tot (wX11_term_h9 n s) (Sum.elim (fun r => wA (bE t) s0 r ∧ GJ oz t s0 r) (fun r => wA (bE t) s0 r ∧ FW r)) := by
  intro n
  induction n with
  | zero => intro s ha g hm; exfalso; have := g.1.2.1; omega
  | succ n ih =>
    intro s ha g hm
    rw [wX11_term_h9]
    have j : ∀ (u : wS) (y : Int32), ON s u → (u.1 152 12).toInt < (u.1 152 1).toInt → opc (y + 16 * 0) → Tot (wX11_term_j46 (wX11_term_h9 n) y u) (Sum.elim (fun r => wA (bE t) s0 r ∧ GJ oz t s0 r) (fun r => wA (bE t) s0 r ∧ FW r)) := by
      intro u y o hu ho
      unfold wX11_term_j46
      have gu := o.pi g.1
      refine t_bind (t_pfI (B := b12) rfl) (fun w hw => ?_)
      have e : (w.1 152 12).toInt = (u.1 152 12).toInt + 1 := by rw [hw.2, wup_same]; exact t_p1 gu.2.1.1 (by have := gu.1; omega)
      have gw : PJ oz t w := PI_12 hw.1 gu (by omega) (by omega)
      have aw : wA (bE t) s0 w := ha.trans (bF_le ((o.1.mono b12_le_bF).trans (hw.1.mono b12_le_bF)))
      refine t_bind (wX11_value_T gw ht) (fun r h12 => ?_)
      obtain ⟨t12, s13⟩ := r
      obtain ⟨a13, h12⟩ := h12
      dsimp only at a13 h12 ⊢
      refine t_ite (fun c => t_some ⟨aw.trans a13, fw_of h12 c⟩) (fun c => ?_)
      have gv := ok_of h12 c
      have k1 := gv.2.2.2.2
      have k2 : (w.1 155 t).toInt = (u.1 155 t).toInt := by rw [(sF_of (hw.1.mono b12_le_bF)).2.2.2.1]
      have k3 : oz (s13.1 152 20) = oz (u.1 152 20) := by rw [bE_20 a13, hw.1 152 20 rfl]
      have k4 := gu.2.2.2.2.2.1
      refine t_bind (wX11_puts_T gv.1 ht (by omega)) (fun s17 h17 => ?_)
      refine ih ((aw.trans a13).trans h17.1) (GE_step g o hw.1 e gv h17 ho ?_) ?_
      · rw [k3, o.1 152 20 rfl]
      · have q1 : (s17.1 152 12).toInt = (s13.1 152 12).toInt := by rw [h17.2.2.2.1]
        have q2 : (s17.1 152 1).toInt = (s.1 152 1).toInt := by rw [h17.2.2.2.1, bE_1 a13, hw.1 152 1 rfl, o.1 152 1 rfl]
        have q3 := gv.2.2.2.1
        have q4 := o.2.1
        omega
    have j27 : ∀ (u : wS), ON s u → (u.1 152 12).toInt < (u.1 152 1).toInt → Tot (wX11_term_j27 (wX11_term_h9 n) u) (Sum.elim (fun r => wA (bE t) s0 r ∧ GJ oz t s0 r) (fun r => wA (bE t) s0 r ∧ FW r)) := by
      intro u o hu
      unfold wX11_term_j27
      have gu := o.pi g.1
      refine t_bind (t_ldI (n := 400) gu.2.1.1 (by have := gu.1; omega)) (fun t9 _ => ?_)
      exact t_ite (fun _ => j u 4 o hu (by unfold opc; decide)) (fun _ => j u 5 o hu (by unfold opc; decide))
    refine t_bind (wX11_see_T g.1.tp) (fun r h5 => ?_)
    obtain ⟨t5, s6⟩ := r
    obtain ⟨o5, l5, -⟩ := h5
    dsimp only at o5 l5 ⊢
    refine t_ite (fun c => j27 s6 o5 (l5 (by rw [c]; decide))) (fun _ => ?_)
    refine t_bind (wX11_see_T (o5.tp g.1.tp)) (fun r h19 => ?_)
    obtain ⟨t19, s20⟩ := r
    obtain ⟨o19, l19, -⟩ := h19
    dsimp only at o19 l19 ⊢
    have oo := o5.trans o19
    refine t_ite (fun c => j27 s20 oo (l19 (by rw [c]; decide))) (fun _ => t_some ?_)
    have a : wA bF s s20 := oo.1.mono b12_le_bF
    obtain ⟨p1, p2, p3, p4, p5⟩ := g
    have hL : (s20.1 155 t).toInt = (s.1 155 t).toInt := by rw [(sF_of a).2.2.2.1]
    have o2 := oo.2.1
    exact ⟨ha.trans (bF_le a), oo.pi p1, p2.trans (Pr_F a), fun b h hc => CS_F a (by rw [oo.1 152 16 rfl]; omega) (p3 b h hc), by omega, by omega⟩
theorem wX11_term_T {oz : Int32 → Int} {t : Nat} {s : wS} (g : PJ oz t s) (ht : t ≤ 5) : Tot (wX11_term s) (fun r => wA (bE t) s r.2 ∧ ((r.1 = 0 ∧ FW r.2) ∨ (r.1 = 1 ∧ GJ oz t s r.2))) := by
  unfold wX11_term
  refine t_bind (wX11_value_T g ht) (fun r h1 => ?_)
  obtain ⟨t1, s2⟩ := r
  obtain ⟨a, h1⟩ := h1
  dsimp only at a h1 ⊢
  refine t_ite (fun c => t_some ⟨a, Or.inl ⟨rfl, fw_of h1 c⟩⟩) (fun c => ?_)
  have gv := ok_of h1 c
  refine t_bind (wX11_term_h9_T ht _ a gv (t_wf gv.1.tp)) (fun z hz => ?_)
  rcases z with z | z
  · exact t_some ⟨hz.1, Or.inr ⟨rfl, hz.2⟩⟩
  · exact t_some ⟨hz.1, Or.inl ⟨rfl, hz.2⟩⟩
theorem wX11_sum_h9_T {oz : Int32 → Int} {t : Nat} {s0 : wS} (ht : t ≤ 5) : ∀ (n : Nat) {s : wS}, wA (bE t) s0 s → GJ oz t s0 s → (s.1 152 1).toInt - (s.1 152 12).toInt < (n : Int) → Tot (wX11_sum_h9 n s) (Sum.elim (fun r => wA (bE t) s0 r ∧ GJ oz t s0 r) (fun r => wA (bE t) s0 r ∧ FW r)) := by
  intro n
  induction n with
  | zero => intro s ha g hm; exfalso; have := g.1.2.1; omega
  | succ n ih =>
    intro s ha g hm
    rw [wX11_sum_h9]
    have j : ∀ (u : wS) (y : Int32), ON s u → (u.1 152 12).toInt < (u.1 152 1).toInt → opc (y + 16 * 0) → Tot (wX11_sum_j46 (wX11_sum_h9 n) y u) (Sum.elim (fun r => wA (bE t) s0 r ∧ GJ oz t s0 r) (fun r => wA (bE t) s0 r ∧ FW r)) := by
      intro u y o hu ho
      unfold wX11_sum_j46
      have gu := o.pi g.1
      refine t_bind (t_pfI (B := b12) rfl) (fun w hw => ?_)
      have e : (w.1 152 12).toInt = (u.1 152 12).toInt + 1 := by rw [hw.2, wup_same]; exact t_p1 gu.2.1.1 (by have := gu.1; omega)
      have gw : PJ oz t w := PI_12 hw.1 gu (by omega) (by omega)
      have aw : wA (bE t) s0 w := ha.trans (bF_le ((o.1.mono b12_le_bF).trans (hw.1.mono b12_le_bF)))
      refine t_bind (wX11_term_T gw ht) (fun r h12 => ?_)
      obtain ⟨t12, s13⟩ := r
      obtain ⟨a13, h12⟩ := h12
      dsimp only at a13 h12 ⊢
      refine t_ite (fun c => t_some ⟨aw.trans a13, fw_of h12 c⟩) (fun c => ?_)
      have gv := ok_of h12 c
      have k1 := gv.2.2.2.2
      have k2 : (w.1 155 t).toInt = (u.1 155 t).toInt := by rw [(sF_of (hw.1.mono b12_le_bF)).2.2.2.1]
      have k3 : oz (s13.1 152 20) = oz (u.1 152 20) := by rw [bE_20 a13, hw.1 152 20 rfl]
      have k4 := gu.2.2.2.2.2.1
      refine t_bind (wX11_puts_T gv.1 ht (by omega)) (fun s17 h17 => ?_)
      refine ih ((aw.trans a13).trans h17.1) (GE_step g o hw.1 e gv h17 ho ?_) ?_
      · rw [k3, o.1 152 20 rfl]
      · have q1 : (s17.1 152 12).toInt = (s13.1 152 12).toInt := by rw [h17.2.2.2.1]
        have q2 : (s17.1 152 1).toInt = (s.1 152 1).toInt := by rw [h17.2.2.2.1, bE_1 a13, hw.1 152 1 rfl, o.1 152 1 rfl]
        have q3 := gv.2.2.2.1
        have q4 := o.2.1
        omega
    have j27 : ∀ (u : wS), ON s u → (u.1 152 12).toInt < (u.1 152 1).toInt → Tot (wX11_sum_j27 (wX11_sum_h9 n) u) (Sum.elim (fun r => wA (bE t) s0 r ∧ GJ oz t s0 r) (fun r => wA (bE t) s0 r ∧ FW r)) := by
      intro u o hu
      unfold wX11_sum_j27
      have gu := o.pi g.1
      refine t_bind (t_ldI (n := 400) gu.2.1.1 (by have := gu.1; omega)) (fun t9 _ => ?_)
      exact t_ite (fun _ => j u 2 o hu (by unfold opc; decide)) (fun _ => j u 3 o hu (by unfold opc; decide))
    refine t_bind (wX11_see_T g.1.tp) (fun r h5 => ?_)
    obtain ⟨t5, s6⟩ := r
    obtain ⟨o5, l5, -⟩ := h5
    dsimp only at o5 l5 ⊢
    refine t_ite (fun c => j27 s6 o5 (l5 (by rw [c]; decide))) (fun _ => ?_)
    refine t_bind (wX11_see_T (o5.tp g.1.tp)) (fun r h19 => ?_)
    obtain ⟨t19, s20⟩ := r
    obtain ⟨o19, l19, -⟩ := h19
    dsimp only at o19 l19 ⊢
    have oo := o5.trans o19
    refine t_ite (fun c => j27 s20 oo (l19 (by rw [c]; decide))) (fun _ => t_some ?_)
    have a : wA bF s s20 := oo.1.mono b12_le_bF
    obtain ⟨p1, p2, p3, p4, p5⟩ := g
    have hL : (s20.1 155 t).toInt = (s.1 155 t).toInt := by rw [(sF_of a).2.2.2.1]
    have o2 := oo.2.1
    exact ⟨ha.trans (bF_le a), oo.pi p1, p2.trans (Pr_F a), fun b h hc => CS_F a (by rw [oo.1 152 16 rfl]; omega) (p3 b h hc), by omega, by omega⟩
theorem wX11_sum_T {oz : Int32 → Int} {t : Nat} {s : wS} (g : PJ oz t s) (ht : t ≤ 5) : Tot (wX11_sum s) (fun r => wA (bE t) s r.2 ∧ ((r.1 = 0 ∧ FW r.2) ∨ (r.1 = 1 ∧ GJ oz t s r.2))) := by
  unfold wX11_sum
  refine t_bind (wX11_term_T g ht) (fun r h1 => ?_)
  obtain ⟨t1, s2⟩ := r
  obtain ⟨a, h1⟩ := h1
  dsimp only at a h1 ⊢
  refine t_ite (fun c => t_some ⟨a, Or.inl ⟨rfl, fw_of h1 c⟩⟩) (fun c => ?_)
  have gv := ok_of h1 c
  refine t_bind (wX11_sum_h9_T ht _ a gv (t_wf gv.1.tp)) (fun z hz => ?_)
  rcases z with z | z
  · exact t_some ⟨hz.1, Or.inr ⟨rfl, hz.2⟩⟩
  · exact t_some ⟨hz.1, Or.inl ⟨rfl, hz.2⟩⟩
