/-! What is told: what it leaves. -/
theorem pk_mono {α : Type} {x : Option α} {P Q : α → Prop} (h : PK x P) (g : ∀ a, P a → Q a) : PK x Q := fun a e => g a (h a e)
/-- all but the COURT, its PAIRS, how many LAWS, and their tables -/
noncomputable def bKt (k b : Nat) : Bool := !((Nat.beq k 0 && Nat.beq b 6) || ((Nat.ble 16 k && Nat.ble k 18) || ((Nat.ble 28 k && Nat.ble k 31) || (Nat.ble 44 k && Nat.ble k 103))))
theorem bK_hc {k b : Nat} (h1 : 16 ≤ k) (h2 : k ≤ 18) : bKt k b = false := by
  have : (Nat.ble 16 k && Nat.ble k 18) = true := by
    simp only [Bool.and_eq_true, Nat.ble_eq]
    omega
  unfold bKt
  rw [this, Bool.true_or, Bool.or_true, Bool.not_true]
theorem bK_tab {k b : Nat} (h1 : 44 ≤ k) (h2 : k ≤ 103) : bKt k b = false := by
  have : (Nat.ble 44 k && Nat.ble k 103) = true := by
    simp only [Bool.and_eq_true, Nat.ble_eq]
    omega
  unfold bKt
  rw [this, Bool.or_true, Bool.or_true, Bool.or_true, Bool.not_true]
theorem bK_pr {k b : Nat} (h1 : 28 ≤ k) (h2 : k ≤ 31) : bKt k b = false := by
  have : (Nat.ble 28 k && Nat.ble k 31) = true := by
    simp only [Bool.and_eq_true, Nat.ble_eq]
    omega
  unfold bKt
  rw [this, Bool.true_or, Bool.or_true, Bool.or_true, Bool.not_true]
theorem bK_im0 {k b : Nat} (h : 104 ≤ k ∧ k ≤ 140) : bKt k b = true := by
  unfold bKt
  rw [nq_false (show k ≠ 0 by omega), nb_false (show k > 18 by omega), nb_false (show k > 31 by omega), nb_false (show k > 103 by omega), Bool.and_false, Bool.and_false, Bool.and_false, Bool.false_and]
  rfl
theorem bK_im {k j b : Nat} (h : 104 ≤ k ∧ k ≤ 140) (hj : j ≤ 11) : bKt (k + j) b = true := by
  unfold bKt
  rw [nq_false (show k + j ≠ 0 by omega), nb_false (show k + j > 18 by omega), nb_false (show k + j > 31 by omega), nb_false (show k + j > 103 by omega), Bool.and_false, Bool.and_false, Bool.and_false, Bool.false_and]
  rfl
noncomputable def KT (s0 s : wS) : Prop := wA bKt s0 s ∧ s.2 = s0.2
theorem KT.refl {s : wS} : KT s s := ⟨wA.refl, rfl⟩
theorem KT.trans {s t u : wS} (a : KT s t) (b : KT t u) : KT s u := ⟨a.1.trans b.1, b.2.trans a.2⟩
theorem KT_I {s0 s : wS} {k b : Nat} {v : Int32} (h : bKt k b = true) (g : KT s0 s) : KT s0 (wupI s k b v) := ⟨g.1.trans (wA_I h), g.2⟩
section KTP
variable {s0 s : wS} {k n k1 n1 b : Nat} {i v sp dp m : Int32}
theorem kt_stI (h : ∀ b, bKt k b = true) (g : KT s0 s) : PK (wstI s k n i v) (KT s0) := by
  unfold wstI
  exact pk_ite (fun _ => pk_none) (fun _ => pk_some (KT_I (h _) g))
theorem kt_stZ (h : ∀ b, bKt k b = true) (g : KT s0 s) : PK (wstZ s k n i v) (KT s0) := by
  unfold wstZ
  exact pk_ite (fun _ => pk_none) (fun _ => pk_some (KT_I (h _) g))
theorem kt_stB (h : ∀ b, bKt k b = true) (g : KT s0 s) : PK (wstB s k n i v) (KT s0) := by
  unfold wstB
  exact pk_ite (fun _ => pk_none) (fun _ => pk_some (KT_I (h _) g))
theorem kt_pfI (h : bKt k b = true) (g : KT s0 s) : PK (wpfI s k b v) (KT s0) := pk_some (KT_I h g)
theorem kt_pfZ (h : bKt k b = true) (g : KT s0 s) : PK (wpfZ s k b v) (KT s0) := by
  unfold wpfZ
  exact pk_ite (fun _ => pk_some (KT_I h g)) (fun _ => pk_none)
theorem kt_cpI (h : ∀ b, bKt k1 b = true) (g : KT s0 s) : PK (wcpI s k n k1 n1 sp dp m) (KT s0) := by
  unfold wcpI
  refine pk_ite (fun _ => pk_some ⟨g.1.trans (fun j b hb => ?_), g.2⟩) (fun _ => pk_none)
  dsimp only
  rw [if_neg]
  intro q
  subst q
  rw [h b] at hb
  cases hb
theorem pk_ldR26 : PK (wldR 26 n i) (fun k => 104 ≤ k ∧ k ≤ 140) := by
  unfold wldR
  refine pk_ite (fun _ => pk_none) (fun _ => ?_)
  intro a e
  have w : wrA 26 i.toNatClampNeg = bif Nat.blt i.toNatClampNeg 4 then some (105 + 12 * i.toNatClampNeg) else none := rfl
  cases hb : Nat.blt i.toNatClampNeg 4 with
  | false =>
    rw [w, hb] at e
    cases e
  | true =>
    rw [w, hb] at e
    have h4 := Nat.le_of_ble_eq_true hb
    have e' : some (105 + 12 * i.toNatClampNeg - 1) = some a := e
    have := Option.some.inj e'
    omega
theorem pk_ldR13 : PK (wldR 13 n i) (fun k => k = 44 + 10 * i.toNatClampNeg) := by
  unfold wldR
  refine pk_ite (fun _ => pk_none) (fun _ => ?_)
  intro a e
  have w : wrA 13 i.toNatClampNeg = bif Nat.blt i.toNatClampNeg 6 then some (45 + 10 * i.toNatClampNeg) else none := rfl
  cases hb : Nat.blt i.toNatClampNeg 6 with
  | false =>
    rw [w, hb] at e
    cases e
  | true =>
    rw [w, hb] at e
    have e' : some (45 + 10 * i.toNatClampNeg - 1) = some a := e
    have := Option.some.inj e'
    omega
/-- the longs are left as they were -/
noncomputable def KLo (s0 s : wS) : Prop := s.2 = s0.2
theorem KLo.refl : KLo s s := rfl
theorem kl_stI (g : KLo s0 s) : PK (wstI s k n i v) (KLo s0) := by
  unfold wstI
  exact pk_ite (fun _ => pk_none) (fun _ => pk_some g)
theorem kl_stZ (g : KLo s0 s) : PK (wstZ s k n i v) (KLo s0) := by
  unfold wstZ
  exact pk_ite (fun _ => pk_none) (fun _ => pk_some g)
theorem kl_stB (g : KLo s0 s) : PK (wstB s k n i v) (KLo s0) := by
  unfold wstB
  exact pk_ite (fun _ => pk_none) (fun _ => pk_some g)
theorem kl_pfI (g : KLo s0 s) : PK (wpfI s k b v) (KLo s0) := pk_some g
theorem kl_pfZ (g : KLo s0 s) : PK (wpfZ s k b v) (KLo s0) := by
  unfold wpfZ
  exact pk_ite (fun _ => pk_some g) (fun _ => pk_none)
theorem kl_cpI (g : KLo s0 s) : PK (wcpI s k n k1 n1 sp dp m) (KLo s0) := by
  unfold wcpI
  exact pk_ite (fun _ => pk_some g) (fun _ => pk_none)
end KTP
theorem ofN_inj {a b : Nat} (ha : a ≤ 1000) (hb : b ≤ 1000) (h : Int32.ofNat a = Int32.ofNat b) : a = b := by
  have := congrArg Int32.toInt h
  rw [t_on (by omega), t_on (by omega)] at this
  omega
/-- a LAW's code says which it is -/
theorem CLc.uniq {k : Nat} {x x' : lC} {s : wS} (h : CLc k x s) (h' : CLc k x' s) : x.2.2 = x'.2.2 := by
  obtain ⟨⟨c1, c2, c3⟩, ⟨⟨l1, l2⟩, l3⟩, -⟩ := h
  obtain ⟨⟨d1, d2, d3⟩, ⟨⟨m1, m2⟩, m3⟩, -⟩ := h'
  have n1 : x.2.2.1.length = x'.2.2.1.length := ofN_inj (by omega) (by omega) (c1.symm.trans d1)
  have n2 : x.2.2.2.length = x'.2.2.2.length := ofN_inj (by omega) (by omega) (l1.symm.trans m1)
  refine Prod.ext (List.ext_getElem n1 (fun i h1 h2 => ?_)) (List.ext_getElem n2 (fun i h1 h2 => ?_))
  · exact (c3 i _ (List.getElem?_eq_getElem h1)).1.symm.trans (d3 i _ (List.getElem?_eq_getElem h2)).1
  · obtain ⟨a1, a2, a3, a4, a5, ⟨a6, a7, a8⟩, -⟩ := l3 i _ (List.getElem?_eq_getElem h1)
    obtain ⟨b1, b2, b3, b4, b5, ⟨b6, b7, b8⟩, -⟩ := m3 i _ (List.getElem?_eq_getElem h2)
    have e1 := a1.symm.trans b1
    have e2 := ofN_inj (by omega) (by omega) (a2.symm.trans b2)
    have e3 := ofN_inj (by omega) (by omega) (a3.symm.trans b3)
    have e4 := ofN_inj (by omega) (by omega) (a4.symm.trans b4)
    have e5 := Bool.eq_iff_iff.2 (a5.trans ((by rw [e3, e4] : _ ↔ _).trans b5.symm))
    exact Prod.ext e1 (Prod.ext e2 (Prod.ext e3 (Prod.ext e4 e5)))
theorem FVx_x {x x' : lC} (e : x.2.2 = x'.2.2) : FVx x' = FVx x := by
  funext f kd a b
  unfold FVx cdL
  rw [e]
theorem TBL.x {l : Nat} {x x' : lC} {s : wS} (t : TBL l x s) (e : x.2.2 = x'.2.2) : TBL l x' s := by
  intro j hj
  unfold TBk
  rw [FVx_x e]
  exact t j hj
theorem WD_cg2 {f f' : Nat → Int32} {kd : Int32} {a b : Nat} (h1 : kd = 1 → (f' (10 + 2 * a) = f (10 + 2 * a) ∧ f' (10 + 2 * a + 1) = f (10 + 2 * a + 1)) ∧ (f' (10 + 2 * b) = f (10 + 2 * b) ∧ f' (10 + 2 * b + 1) = f (10 + 2 * b + 1))) (h2 : kd = 2 → (f' (26 + 2 * a) = f (26 + 2 * a) ∧ f' (26 + 2 * a + 1) = f (26 + 2 * a + 1)) ∧ (f' (26 + 2 * b) = f (26 + 2 * b) ∧ f' (26 + 2 * b + 1) = f (26 + 2 * b + 1))) : WD f' kd a b = WD f kd a b := by
  funext j
  unfold WD
  by_cases k1 : kd = 1
  · obtain ⟨⟨e1, e2⟩, e3, e4⟩ := h1 k1
    have n2 : ¬ kd = 2 := by rw [k1]; decide
    simp only [if_neg n2, if_pos k1, e1, e2, e3, e4]
  · by_cases k2 : kd = 2
    · obtain ⟨⟨e1, e2⟩, e3, e4⟩ := h2 k2
      simp only [if_neg k1, if_pos k2, e1, e2, e3, e4]
    · simp only [if_neg k1, if_neg k2]
section TOLD
variable {s s2 : wS}
/-- the COURT is the same -/
theorem court_same (g : JA s) (g2 : JA s2) (hc : ∀ k, 16 ≤ k → k ≤ 18 → s2.1 k = s.1 k) : (∀ j, j < 3 → s2.1 163 j = s.1 163 j) ∧ (∀ i : Nat, (i : Int) < (s.1 163 1).toInt → s2.1 163 (10 + 2 * i) = s.1 163 (10 + 2 * i) ∧ s2.1 163 (10 + 2 * i + 1) = s.1 163 (10 + 2 * i + 1)) ∧ (∀ i : Nat, (i : Int) < (s.1 163 2).toInt → s2.1 163 (26 + 2 * i) = s.1 163 (26 + 2 * i) ∧ s2.1 163 (26 + 2 * i + 1) = s.1 163 (26 + 2 * i + 1)) := by
  obtain ⟨⟨a0, a1, a2⟩, ar, am⟩ := g.h.1
  obtain ⟨⟨b0, b1, b2⟩, br, bm⟩ := g2.h.1
  have e16 := hc 16 (by decide) (by decide)
  have e17 := hc 17 (by decide) (by decide)
  have e18 := hc 18 (by decide) (by decide)
  have f0 : s2.1 163 0 = s.1 163 0 := by rw [← a0, ← b0]; exact congrFun e16 0
  have f1 : s2.1 163 1 = s.1 163 1 := by rw [← a1, ← b1]; exact congrFun e16 1
  have f2 : s2.1 163 2 = s.1 163 2 := by rw [← a2, ← b2]; exact congrFun e16 2
  refine ⟨fun j hj => ?_, fun i hi => ?_, fun i hi => ?_⟩
  · obtain rfl | rfl | rfl : j = 0 ∨ j = 1 ∨ j = 2 := by omega
    · exact f0
    · exact f1
    · exact f2
  · obtain ⟨p1, p2⟩ := ar i hi
    obtain ⟨q1, q2⟩ := br i (by rw [f1]; exact hi)
    exact ⟨by rw [← p1, ← q1]; exact congrFun e17 _, by rw [← p2, ← q2]; exact congrFun e18 _⟩
  · obtain ⟨p1, p2⟩ := am i hi
    obtain ⟨q1, q2⟩ := bm i (by rw [f2]; exact hi)
    exact ⟨by rw [← p1, ← q1]; exact congrFun e17 _, by rw [← p2, ← q2]; exact congrFun e18 _⟩
theorem TBL_told {l : Nat} {x : lC} (t : TBL l x s) (g : JA s) (g2 : JA s2) (hc : ∀ k, 16 ≤ k → k ≤ 18 → s2.1 k = s.1 k) (h8 : s2.2 (44 + 10 * l + 8) = s.2 (44 + 10 * l + 8)) (h9 : s2.1 (44 + 10 * l + 9) = s.1 (44 + 10 * l + 9)) : TBL l x s2 := by
  obtain ⟨c0, c1, c2⟩ := court_same g g2 hc
  intro j hj M hM hM8 p q hp hq
  have ej : (Int32.ofNat j).toNatClampNeg = j := t_nc (by omega)
  rw [ej, c0 j hj] at hM
  obtain ⟨t1, t2⟩ := t j hj M (by rw [ej]; exact hM) hM8 p q hp hq
  have eM : (Int32.ofNat M).toInt = M := t_on (by omega)
  have c : ∀ a b, a < M → b < M → FVx x (s.1 163) (Int32.ofNat j) a b = FVx x (s2.1 163) (Int32.ofNat j) a b := fun a b ha hb => by
    unfold FVx
    rw [WD_cg2 (f' := s2.1 163) (f := s.1 163) (fun k1 => ?_) (fun k2 => ?_)]
    · have hj1 : j = 1 := ofN_inj (by omega) (by omega) k1
      rw [hj1] at hM
      exact ⟨c1 a (by rw [hM, eM]; omega), c1 b (by rw [hM, eM]; omega)⟩
    · have hj2 : j = 2 := ofN_inj (by omega) (by omega) k2
      rw [hj2] at hM
      exact ⟨c2 a (by rw [hM, eM]; omega), c2 b (by rw [hM, eM]; omega)⟩
  refine ⟨?_, ?_⟩
  · rw [h8, t1, c p q hp hq]
  · rw [h9, t2]
    exact nb2_congr (fun d hd => ⟨c p d hp hd, c q d hq hd⟩)
theorem TBS_told (g : JB s) (g2 : JA s2) (h : ∀ l : Nat, (l : Int) < (s2.1 152 2).toInt → s2.1 (44 + 10 * l) 12 = 0 ∨ ((l : Int) < (s.1 152 2).toInt ∧ (∀ k, 16 ≤ k → k ≤ 18 → s2.1 k = s.1 k) ∧ (∀ k, 44 + 10 * l ≤ k → k ≤ 44 + 10 * l + 9 → s2.1 k = s.1 k) ∧ s2.2 (44 + 10 * l + 8) = s.2 (44 + 10 * l + 8))) : TBS s2 := by
  intro l hl
  rcases h l hl with z | ⟨hl0, hc, hi, hL⟩
  · exact Or.inl z
  · rcases g.2 l hl0 with z | ⟨x, lk, tb⟩
    · left
      rw [hi _ (by omega) (by omega)]
      exact z
    · right
      obtain ⟨x', lk'⟩ := g2.lk hl
      have cl : CLc (44 + 10 * l) x s2 := lk.1.go (by rw [hi _ (by omega) (by omega)]) (by rw [hi _ (by omega) (by omega)]) (fun j h1 h2 => hi _ (by omega) (by omega))
      exact ⟨x', lk', TBL_told (tb.x (cl.uniq lk'.1)) g.1 g2 hc hL (hi _ (by omega) (by omega))⟩
theorem JB.n (g : JB s) : (s.1 152 2).toInt ≤ 6 := g.1.1.1.2.1.2
theorem told_B {s1 : wS} (g : JB s) (k1 : KT s s1) (k2 : KT s1 s2) (g2 : JA s2) : JB s2 := by
  have k := k1.trans k2
  refine ⟨g2, TBS_told g g2 (fun l hl => Or.inr ⟨?_, fun k' h1 h2 => funext fun b => k.1 k' b (bK_hc h1 h2), fun k' h1 h2 => funext fun b => k.1 k' b (bK_tab (by omega) ?_), by rw [k.2]⟩)⟩
  · rw [← g2.2.1, k.1 0 6 rfl, g.1.2.1] at hl
    exact hl
  · have := g2.1.1.2.1.2
    omega
end TOLD
