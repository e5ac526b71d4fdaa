section
/-! The reference: what holds between its calls. -/
/-- what a query of the reference may write, its PAIRS left alone -/
noncomputable def bP (k b : Nat) : Bool := (Nat.ble 165 k && Nat.ble k 167) || (Nat.beq k 152 && (Nat.beq b 22 || (Nat.ble 27 b && Nat.ble b 29) || (Nat.ble 34 b && Nat.ble b 35)))
theorem bP_le_bQ : ∀ k b, bP k b = true → bQ k b = true := by
  intro k b h
  simp only [bQ, bP, bQa, Bool.or_eq_true, Bool.and_eq_true, Nat.ble_eq, Nat.beq_eq] at *
  omega
noncomputable def hstep (c : Int32) (h : Nat) : Option Nat :=
  if c &&& 15 = 0 then (if h < 60 then some (h + 1) else none)
  else if c &&& 15 = 1 then (if h < 60 ∧ 0 ≤ (c >>> (4 &&& 31)).toInt ∧ (c >>> (4 &&& 31)).toInt < 8 then some (h + 1) else none)
  else if c &&& 15 = 11 then (if 1 ≤ h then some h else none)
  else (if 2 ≤ h then some (h - 1) else none)
/-- the height of the stack along a code; none where it would fail -/
noncomputable def hrun (C : Nat → Int32) : Nat → Nat → Nat → Option Nat
  | 0, _, h => some h
  | n + 1, i, h => match hstep (C i) h with
    | none => none
    | some h1 => hrun C n (i + 1) h1
noncomputable def qWF (C : Nat → Int32) (b e : Int) : Prop := 0 ≤ b ∧ b ≤ e ∧ e ≤ 400 ∧ hrun C (e - b).toNat b.toNat 0 = some 1
noncomputable def qA (f : Nat → Int32) (a : Nat) : Prop := (0 ≤ (f (43 + 5 * a)).toInt ∧ (f (43 + 5 * a)).toInt ≤ 2) ∧ (0 ≤ (f (44 + 5 * a)).toInt ∧ (f (44 + 5 * a)).toInt < (f (f (43 + 5 * a)).toNatClampNeg).toInt) ∧ (0 ≤ (f (45 + 5 * a)).toInt ∧ (f (45 + 5 * a)).toInt < (f (f (43 + 5 * a)).toNatClampNeg).toInt)
noncomputable def qC (f : Nat → Int32) : Prop :=
  (0 ≤ (f 0).toInt ∧ (f 0).toInt ≤ 8) ∧ (0 ≤ (f 1).toInt ∧ (f 1).toInt ≤ 8) ∧ (0 ≤ (f 2).toInt ∧ (f 2).toInt ≤ 8) ∧ (0 < (f 0).toInt → 0 < (f 1).toInt ∧ 0 < (f 2).toInt) ∧ (0 ≤ (f 3).toInt ∧ (f 3).toInt ≤ 40) ∧ (0 ≤ (f 5).toInt ∧ (f 5).toInt ≤ 10) ∧
  (∀ a : Nat, (a : Int) < (f 3).toInt → qA f a) ∧ (∀ v : Nat, (v : Int) < (f 5).toInt → 0 ≤ (f (243 + 2 * v)).toInt ∧ (f (243 + 2 * v)).toInt ≤ (f 3).toInt) ∧ 0 ≤ (f 6).toInt
noncomputable def qLW (s : wS) (l : Nat) : Prop := (0 ≤ (s.1 157 l).toInt ∧ (s.1 157 l).toInt ≤ 12) ∧ ∀ c : Nat, (c : Int) < (s.1 157 l).toInt → qWF (fun i => s.1 154 (400 * l + i)) (s.1 156 (60 * l + 5 * c + 1)).toInt (s.1 156 (60 * l + 5 * c + 2)).toInt ∧ ((s.1 156 (60 * l + 5 * c + 3)).toInt < 0 ∨ qWF (fun i => s.1 154 (400 * l + i)) (s.1 156 (60 * l + 5 * c + 3)).toInt (s.1 156 (60 * l + 5 * c + 4)).toInt)
noncomputable def qL (s : wS) : Prop := (0 ≤ (s.1 152 2).toInt ∧ (s.1 152 2).toInt ≤ 6) ∧ ∀ l : Nat, (l : Int) < (s.1 152 2).toInt → qLW s l
noncomputable def RQ (s : wS) : Prop := qC (s.1 163) ∧ qL s
noncomputable def sameQ (s s' : wS) : Prop := s'.1 163 = s.1 163 ∧ s'.1 157 = s.1 157 ∧ s'.1 156 = s.1 156 ∧ s'.1 154 = s.1 154 ∧ s'.1 152 2 = s.1 152 2
theorem sameQ_of {s s' : wS} (h : wA bQ s s') : sameQ s s' := ⟨funext fun b => h 163 b rfl, funext fun b => h 157 b rfl, funext fun b => h 156 b rfl, funext fun b => h 154 b rfl, h 152 2 rfl⟩
theorem RQ_same {s s' : wS} (h : sameQ s s') (g : RQ s) : RQ s' := by
  obtain ⟨h1, h2, h3, h4, h5⟩ := h
  unfold RQ qL qLW at *
  rw [h1, h2, h3, h4, h5]
  exact g
theorem RQ_A {s s' : wS} (h : wA bQ s s') (g : RQ s) : RQ s' := RQ_same (sameQ_of h) g
noncomputable def wW (s : wS) : Int32 := ((s.1 163 0) * (s.1 163 1)) * (s.1 163 2)
theorem wW_b {s : wS} (hR : RQ s) : (0 ≤ (wW s).toInt ∧ (wW s).toInt ≤ 512) ∧ (wW s).toInt = (s.1 163 0).toInt * (s.1 163 1).toInt * (s.1 163 2).toInt := by
  obtain ⟨⟨⟨a1, a2⟩, ⟨b1, b2⟩, ⟨c1, c2⟩, -⟩, -⟩ := hR
  have m1 := Int.mul_nonneg a1 b1
  have m2 : (s.1 163 0).toInt * (s.1 163 1).toInt ≤ 8 * 8 := Int.mul_le_mul a2 b2 b1 (by decide)
  have m3 := Int.mul_nonneg m1 c1
  have m4 : (s.1 163 0).toInt * (s.1 163 1).toInt * (s.1 163 2).toInt ≤ (8 * 8) * 8 := Int.mul_le_mul m2 c2 c1 (by decide)
  have e1 : (s.1 163 0 * s.1 163 1).toInt = (s.1 163 0).toInt * (s.1 163 1).toInt := t_mul (by omega) (by omega)
  have e2 : (wW s).toInt = (s.1 163 0).toInt * (s.1 163 1).toInt * (s.1 163 2).toInt := by
    unfold wW
    rw [t_mul (by rw [e1]; omega) (by rw [e1]; omega), e1]
  exact ⟨⟨by omega, by omega⟩, e2⟩
/-- the bounds that everything needs -/
theorem RQ_b {s : wS} (hR : RQ s) : (0 ≤ (s.1 163 0).toInt ∧ (s.1 163 0).toInt ≤ 8) ∧ (0 ≤ (s.1 163 1).toInt ∧ (s.1 163 1).toInt ≤ 8) ∧ (0 ≤ (s.1 163 2).toInt ∧ (s.1 163 2).toInt ≤ 8) ∧ (0 ≤ (s.1 163 3).toInt ∧ (s.1 163 3).toInt ≤ 40) ∧ (0 ≤ (s.1 163 5).toInt ∧ (s.1 163 5).toInt ≤ 10) ∧ (0 ≤ (s.1 152 2).toInt ∧ (s.1 152 2).toInt ≤ 6) ∧ (0 ≤ (wW s).toInt ∧ (wW s).toInt ≤ 512) ∧ (0 < (wW s).toInt ∨ (s.1 163 0).toInt ≤ 0) := by
  have hW := wW_b hR
  refine ⟨hR.1.1, hR.1.2.1, hR.1.2.2.1, hR.1.2.2.2.2.1, hR.1.2.2.2.2.2.1, hR.2.1, hW.1, ?_⟩
  by_cases h : 0 < (s.1 163 0).toInt
  · left
    obtain ⟨h1, h2⟩ := hR.1.2.2.2.1 h
    rw [hW.2]
    exact Int.mul_pos (Int.mul_pos h h1) h2
  · right; omega
theorem sameP {s s' : wS} (h : wA bP s s') : sameQ s s' := sameQ_of (h.mono bP_le_bQ)
theorem RQ_P {s s' : wS} (h : wA bP s s') (g : RQ s) : RQ s' := RQ_same (sameP h) g
theorem wW_same {s s' : wS} (h : s'.1 163 = s.1 163) : wW s' = wW s := by unfold wW; rw [h]
theorem t_div {x y : Int32} (hx : 0 ≤ x.toInt) (hy : 0 < y.toInt) : (x / y).toInt = x.toInt / y.toInt := by
  rw [Int32.toInt_div_of_ne_right x y (fun e => by rw [e] at hy; exact absurd hy (by decide))]
  exact Int.tdiv_eq_ediv_of_nonneg hx
theorem t_rem {x y : Int32} (hx : 0 ≤ x.toInt) (hy : 0 < y.toInt) : (x - x / y * y).toInt = x.toInt % y.toInt := by
  have hd := t_div hx hy
  have h1 : 0 ≤ x.toInt / y.toInt := Int.ediv_nonneg hx (by omega)
  have h2 : x.toInt / y.toInt * y.toInt ≤ x.toInt := Int.ediv_mul_le _ (by omega)
  have h3 : 0 ≤ x.toInt / y.toInt * y.toInt := Int.mul_nonneg h1 (by omega)
  have hl := Int32.toInt_lt x
  have e1 : (x / y * y).toInt = x.toInt / y.toInt * y.toInt := by
    rw [t_mul (by rw [hd]; omega) (by rw [hd]; omega), hd]
  rw [t_sub (by rw [e1]; omega) (by rw [e1]; omega), e1, Int.emod_def, Int.mul_comm y.toInt]
theorem wX11_in_T {x0 x2 x4 : Int64} {s : wS} : Tot (wX11_in x0 x2 x4 s) (fun t => (t = 1 ∧ x2.toInt ≤ x0.toInt ∧ x0.toInt ≤ x4.toInt) ∨ (t = 0 ∧ ¬ (x2.toInt ≤ x0.toInt ∧ x0.toInt ≤ x4.toInt))) := by
  unfold wX11_in
  refine t_ite (fun c => t_some (Or.inr ⟨rfl, ?_⟩)) (fun c => t_ite (fun c1 => t_some (Or.inr ⟨rfl, ?_⟩)) (fun c1 => t_some (Or.inl ⟨rfl, ?_, ?_⟩)))
  · rw [Int64.lt_iff_toInt_lt] at c; omega
  · rw [Int64.lt_iff_toInt_lt] at c1; omega
  · rw [Int64.lt_iff_toInt_lt] at c; omega
  · rw [Int64.lt_iff_toInt_lt] at c1; omega
theorem wX11_worlds_T {s : wS} : Tot (wX11_worlds s) (fun t => t = wW s) := ⟨_, rfl, rfl⟩
theorem wX11_thingOf_T {x1 x2 : Int32} {s : wS} (hR : RQ s) (hw : 0 ≤ x1.toInt) (hw2 : x1.toInt < (wW s).toInt) (hk : 0 ≤ x2.toInt) (hk2 : x2.toInt ≤ 2) : Tot (wX11_thingOf x1 x2 s) (fun t => 0 ≤ t.toInt ∧ t.toInt < (s.1 163 x2.toNatClampNeg).toInt) := by
  have hW := (wW_b hR).2
  obtain ⟨⟨⟨a1, a2⟩, ⟨b1, b2⟩, ⟨c1, c2⟩, hp, -⟩, -⟩ := hR
  have p0 : 0 < (s.1 163 0).toInt := by
    rcases Int.lt_or_eq_of_le a1 with h | h
    · exact h
    · rw [← h, Int.zero_mul, Int.zero_mul] at hW; omega
  obtain ⟨p1, p2⟩ := hp p0
  rw [hW] at hw2
  have d1 := t_div hw p2
  have n1 : 0 ≤ x1.toInt / (s.1 163 2).toInt := Int.ediv_nonneg hw (by omega)
  unfold wX11_thingOf
  refine t_ite (fun c => ?_) (fun c => t_ite (fun c' => ?_) (fun c' => ?_))
  · refine t_bind (t_rmI (by omega)) (fun t3 h3 => t_some ?_)
    subst c
    rw [h3, t_rem hw p2]
    exact ⟨Int.emod_nonneg _ (by omega), Int.emod_lt_of_pos _ p2⟩
  · refine t_bind (t_dvI (by omega)) (fun t6 h6 => ?_)
    refine t_bind (t_rmI (by omega)) (fun t8 h8 => t_some ?_)
    subst c'
    rw [h8, h6, t_rem (by rw [d1]; exact n1) p1]
    exact ⟨Int.emod_nonneg _ (by omega), Int.emod_lt_of_pos _ p1⟩
  · refine t_bind (t_dvI (by omega)) (fun t10 h10 => ?_)
    refine t_bind (t_dvI (by omega)) (fun t12 h12 => t_some ?_)
    have e0 : x2.toInt = 0 := by
      have h1 := t_nq c
      have h2 := t_nq c'
      rw [show (2 : Int32).toInt = 2 from rfl] at h1
      rw [show (1 : Int32).toInt = 1 from rfl] at h2
      omega
    have e1 : x2.toNatClampNeg = 0 := by unfold Int32.toNatClampNeg; rw [e0]; rfl
    rw [e1, h12, h10, t_div (by rw [d1]; exact n1) p1, d1]
    exact ⟨Int.ediv_nonneg n1 (by omega), Int.ediv_lt_of_lt_mul p1 (Int.ediv_lt_of_lt_mul p2 hw2)⟩
theorem t_ix64 {a b c : Int32} (ha : 0 ≤ a.toInt) (ha2 : a.toInt ≤ 2) (hb : 0 ≤ b.toInt) (hb2 : b.toInt < 8) (hc : 0 ≤ c.toInt) (hc2 : c.toInt < 8) : (((64 * a) + (8 * b)) + c).toInt = 64 * a.toInt + 8 * b.toInt + c.toInt := by
  have e64 : (64 : Int32).toInt = 64 := rfl
  have e8 : (8 : Int32).toInt = 8 := rfl
  have h1 : (64 * a).toInt = 64 * a.toInt := by rw [t_mul (by rw [e64]; omega) (by rw [e64]; omega), e64]
  have h2 : (8 * b).toInt = 8 * b.toInt := by rw [t_mul (by rw [e8]; omega) (by rw [e8]; omega), e8]
  have h3 : (64 * a + 8 * b).toInt = 64 * a.toInt + 8 * b.toInt := by rw [t_add (by rw [h1, h2]; omega) (by rw [h1, h2]; omega), h1, h2]
  rw [t_add (by rw [h3]; omega) (by rw [h3]; omega), h3]
theorem RQ_k {s : wS} (hR : RQ s) {k : Int32} (h0 : 0 ≤ k.toInt) (h2 : k.toInt ≤ 2) : 0 ≤ (s.1 163 k.toNatClampNeg).toInt ∧ (s.1 163 k.toNatClampNeg).toInt ≤ 8 := by
  have h : k.toNatClampNeg = 0 ∨ k.toNatClampNeg = 1 ∨ k.toNatClampNeg = 2 := by unfold Int32.toNatClampNeg; omega
  obtain ⟨⟨a, b, c, -⟩, -⟩ := hR
  rcases h with h | h | h <;> rw [h]
  · exact a
  · exact b
  · exact c
theorem wX11_isNearer_T {x1 x2 x3 x4 : Int32} {s : wS} (hR : RQ s) (hk : 0 ≤ x1.toInt) (hk2 : x1.toInt ≤ 2) (h2 : 0 ≤ x2.toInt) (h2b : x2.toInt < 8) (h3 : 0 ≤ x3.toInt) (h3b : x3.toInt < 8) (hw : 0 ≤ x4.toInt) (hw2 : x4.toInt < (wW s).toInt) : Tot (wX11_isNearer x1 x2 x3 x4 s) (fun t => t = 0 ∨ t = 1) := by
  unfold wX11_isNearer
  refine t_bind (wX11_thingOf_T hR hw hw2 hk hk2) (fun t1 h1 => ?_)
  have hb := (RQ_k hR hk hk2).2
  have e2 := t_ix64 hk hk2 h2 h2b h1.1 (by omega)
  have e3 := t_ix64 hk hk2 h3 h3b h1.1 (by omega)
  refine t_bind (t_ldL (n := 192) (by rw [e2]; omega) (by rw [e2]; omega)) (fun t3 _ => ?_)
  refine t_bind (t_ldL (n := 192) (by rw [e3]; omega) (by rw [e3]; omega)) (fun t4 _ => ?_)
  exact t_ite (fun _ => t_some (Or.inl rfl)) (fun _ => t_some (Or.inr rfl))
theorem t_ans {a w : Int32} (ha : 0 ≤ a.toInt) (ha2 : a.toInt < 40) (hw : 0 ≤ w.toInt) (hw2 : w.toInt ≤ 4) : (((42 + (5 * a)) + w) : Int32).toInt = 42 + 5 * a.toInt + w.toInt := by
  have e42 : (42 : Int32).toInt = 42 := rfl
  have e5 : (5 : Int32).toInt = 5 := rfl
  have h1 : (5 * a).toInt = 5 * a.toInt := by rw [t_mul (by rw [e5]; omega) (by rw [e5]; omega), e5]
  have h3 : (42 + 5 * a).toInt = 42 + 5 * a.toInt := by rw [t_add (by rw [h1, e42]; omega) (by rw [h1, e42]; omega), h1, e42]
  rw [t_add (by rw [h3]; omega) (by rw [h3]; omega), h3]
theorem wX11_answerOf_T {x1 x2 : Int32} {s : wS} (ha : 0 ≤ x1.toInt) (ha2 : x1.toInt < 40) (hw : 0 ≤ x2.toInt) (hw2 : x2.toInt ≤ 4) : Tot (wX11_answerOf x1 x2 s) (fun v => v = s.1 163 (42 + 5 * x1.toNatClampNeg + x2.toNatClampNeg)) := by
  unfold wX11_answerOf
  have e := t_ans ha ha2 hw hw2
  refine t_bind (t_ldI (n := 262) (by rw [e]; omega) (by rw [e]; omega)) (fun t1 h => t_some ?_)
  have q : (((42 + (5 * x1)) + x2) : Int32).toNatClampNeg = 42 + 5 * x1.toNatClampNeg + x2.toNatClampNeg := by
    unfold Int32.toNatClampNeg
    rw [e]
    omega
  rw [h, q]
theorem wX11_isTrue_T {x1 x2 : Int32} {s : wS} (hR : RQ s) (ha : 0 ≤ x1.toInt) (ha2 : x1.toInt < (s.1 163 3).toInt) (hw : 0 ≤ x2.toInt) (hw2 : x2.toInt < (wW s).toInt) : Tot (wX11_isTrue x1 x2 s) (fun t => t = 0 ∨ t = 1) := by
  unfold wX11_isTrue
  have hb := RQ_b hR
  have hA := hR.1.2.2.2.2.2.2.1 x1.toNatClampNeg (by unfold Int32.toNatClampNeg; omega)
  refine t_bind (wX11_answerOf_T ha (by omega) (by decide) (by decide)) (fun t1 h1 => ?_)
  refine t_bind (wX11_answerOf_T ha (by omega) (by decide) (by decide)) (fun t3 h3 => ?_)
  refine t_bind (wX11_answerOf_T ha (by omega) (by decide) (by decide)) (fun t5 h5 => ?_)
  have q1 : (42 + 5 * x1.toNatClampNeg + (1 : Int32).toNatClampNeg) = 43 + 5 * x1.toNatClampNeg := by rw [show (1 : Int32).toNatClampNeg = 1 from rfl]; omega
  have q2 : (42 + 5 * x1.toNatClampNeg + (2 : Int32).toNatClampNeg) = 44 + 5 * x1.toNatClampNeg := by rw [show (2 : Int32).toNatClampNeg = 2 from rfl]; omega
  have q3 : (42 + 5 * x1.toNatClampNeg + (3 : Int32).toNatClampNeg) = 45 + 5 * x1.toNatClampNeg := by rw [show (3 : Int32).toNatClampNeg = 3 from rfl]; omega
  rw [q1] at h1
  rw [q2] at h3
  rw [q3] at h5
  obtain ⟨⟨k0, k2⟩, ⟨o0, o1⟩, ⟨p0, p1⟩⟩ := hA
  rw [← h1] at k0 k2 o1 p1
  rw [← h3] at o0 o1
  rw [← h5] at p0 p1
  have hk := (RQ_k hR k0 k2).2
  refine t_bind (wX11_isNearer_T hR k0 k2 o0 (by omega) p0 (by omega) hw hw2) (fun t7 h7 => ?_)
  exact t_mono (t_rtZ h7) (fun r h => by rw [h]; exact h7)
theorem wX11_push_T {x1 : Int64} {s : wS} (h : 0 ≤ (s.1 152 22).toInt) (h2 : (s.1 152 22).toInt < 64) : Tot (wX11_push x1 s) (fun r => wA bP s r ∧ (r.1 152 22).toInt = (s.1 152 22).toInt + 1) := by
  unfold wX11_push
  refine t_bind (t_stL (B := bP) (n := 64) h (by omega)) (fun s1 h1 => ?_)
  refine t_bind (t_pfI (B := bP) rfl) (fun s2 h3 => t_some ⟨h1.1.trans h3.1, ?_⟩)
  have e1 : (1 : Int32).toInt = 1 := rfl
  have f : s1.1 152 22 = s.1 152 22 := by rw [h1.2]; rfl
  rw [h3.2, wup_same, f, t_add (by rw [e1]; omega) (by rw [e1]; omega), e1]
theorem wX11_pop_T {s : wS} (h : 1 ≤ (s.1 152 22).toInt) (h2 : (s.1 152 22).toInt ≤ 64) : Tot (wX11_pop s) (fun r => wA bP s r.2 ∧ (r.2.1 152 22).toInt = (s.1 152 22).toInt - 1) := by
  unfold wX11_pop
  refine t_bind (t_pfI (B := bP) rfl) (fun s1 h3 => ?_)
  have e1 : (1 : Int32).toInt = 1 := rfl
  have f : (s1.1 152 22).toInt = (s.1 152 22).toInt - 1 := by rw [h3.2, wup_same, t_sub (by rw [e1]; omega) (by rw [e1]; omega), e1]
  refine t_bind (t_ldL (n := 64) (by omega) (by omega)) (fun t2 _ => t_some ⟨h3.1, f⟩)
theorem wX11_one_T {x0 : Int32} {x1 x3 : Int64} {s : wS} : Tot (wX11_one x0 x1 x3 s) (fun _ => True) := by
  unfold wX11_one wX11_one_j150
  refine t_ite (fun _ => t_some trivial) (fun _ => t_ite (fun _ => t_some trivial) (fun _ => t_ite (fun _ => t_some trivial) (fun _ => t_ite (fun _ => t_ite (fun _ => t_some trivial) (fun c => t_bind (t_dvL c) (fun _ _ => t_some trivial))) (fun _ => ?_))))
  refine t_ite (fun _ => t_ite (fun _ => t_some trivial) (fun _ => t_some trivial)) (fun _ => ?_)
  refine t_ite (fun _ => t_ite (fun _ => t_some trivial) (fun _ => t_some trivial)) (fun _ => ?_)
  refine t_ite (fun _ => t_ite (fun _ => t_some trivial) (fun _ => t_some trivial)) (fun _ => ?_)
  refine t_ite (fun _ => t_ite (fun _ => t_some trivial) (fun _ => t_some trivial)) (fun _ => ?_)
  refine t_ite (fun _ => t_ite (fun _ => t_some trivial) (fun _ => t_some trivial)) (fun _ => ?_)
  exact t_ite (fun _ => t_some trivial) (fun _ => t_some trivial)
theorem t_sg {l i : Int32} (hl : 0 ≤ l.toInt) (hl2 : l.toInt < 7) (hi : 0 ≤ i.toInt) (hi2 : i.toInt ≤ 400) : ((400 * l) + i).toInt = 400 * l.toInt + i.toInt := by
  have e4 : (400 : Int32).toInt = 400 := rfl
  have h1 : (400 * l).toInt = 400 * l.toInt := by rw [t_mul (by rw [e4]; omega) (by rw [e4]; omega), e4]
  rw [t_add (by rw [h1]; omega) (by rw [h1]; omega), h1]
theorem wX11_reckons_h8_T {x1 x3 : Int32} (hl : 0 ≤ x1.toInt) (hl2 : x1.toInt < 6) (he : x3.toInt ≤ 400) : ∀ (n : Nat) {x4 : Int32} {s : wS} {h : Nat}, 0 ≤ x4.toInt → x4.toInt ≤ x3.toInt → (s.1 152 22).toInt = h → h ≤ 60 → hrun (fun i => s.1 154 (400 * x1.toNatClampNeg + i)) (x3.toInt - x4.toInt).toNat x4.toNatClampNeg h = some 1 → 2147483648 - x4.toInt < (n : Int) → Tot (wX11_reckons_h8 x1 x3 n x4 s) (fun r => wA bP s r ∧ (r.1 152 22).toInt = 1) := by
  intro n
  induction n with
  | zero => intro x4 s h _ _ _ _ _ hm; exact (t_m0 hm).elim
  | succ n ih =>
    intro x4 s h h0 h1 ht hh hr hm
    rw [wX11_reckons_h8]
    refine t_ite (fun c => ?_) (fun c => t_some ⟨wA.refl, ?_⟩)
    · have hc := t_lt c
      have hi := t_inc c
      have e := t_sg hl (by omega) h0 (by omega)
      have en : ((400 * x1) + x4).toNatClampNeg = 400 * x1.toNatClampNeg + x4.toNatClampNeg := by
        unfold Int32.toNatClampNeg
        rw [e]
        omega
      refine t_bind (t_ldI (n := 2400) (by rw [e]; omega) (by rw [e]; omega)) (fun t3 h3 => ?_)
      refine t_bind (t_ldI (n := 2400) (by rw [e]; omega) (by rw [e]; omega)) (fun t4 h4 => ?_)
      rw [en] at h3 h4
      have e5 : (x3.toInt - x4.toInt).toNat = (x3.toInt - (x4 + 1).toInt).toNat + 1 := by rw [hi]; omega
      have e6 : x4.toNatClampNeg + 1 = (x4 + 1).toNatClampNeg := by
        unfold Int32.toNatClampNeg
        rw [hi]
        omega
      rw [e5] at hr
      unfold hrun at hr
      rw [e6] at hr
      have go : ∀ (s' : wS) (h' : Nat), wA bP s s' → (s'.1 152 22).toInt = h' → h' ≤ 60 → hrun (fun i => s.1 154 (400 * x1.toNatClampNeg + i)) (x3.toInt - (x4 + 1).toInt).toNat (x4 + 1).toNatClampNeg h' = some 1 → Tot (wX11_reckons_h8 x1 x3 n (x4 + 1) s') (fun r => wA bP s r ∧ (r.1 152 22).toInt = 1) := by
        intro s' h' a1 a2 a3 a4
        have a5 : s'.1 154 = s.1 154 := (sameP a1).2.2.2.1
        exact t_mono (ih (by rw [hi]; omega) (by rw [hi]; omega) a2 a3 (by rw [a5]; exact a4) (t_m1 c hm)) (fun r hr => ⟨a1.trans hr.1, hr.2⟩)
      split at hr
      · cases hr
      · next h1' hs =>
        rw [← h3] at hs
        unfold hstep at hs
        refine t_ite (fun c0 => ?_) (fun c0 => t_ite (fun c1 => ?_) (fun c1 => t_ite (fun c2 => ?_) (fun c2 => ?_)))
        · rw [if_pos c0] at hs
          split at hs
          · obtain rfl := Option.some.inj hs
            refine t_bind (wX11_push_T (by omega) (by omega)) (fun s7 h7 => ?_)
            unfold wX11_reckons_j129
            exact go _ _ h7.1 (by rw [h7.2, ht]; rfl) (by omega) hr
          · cases hs
        · rw [if_neg c0, if_pos c1] at hs
          split at hs
          · next hq =>
            obtain rfl := Option.some.inj hs
            have e34 : t4 = t3 := by rw [h3, h4]
            refine t_bind (t_ldL (n := 8) (by rw [e34]; exact hq.2.1) (by rw [e34]; exact hq.2.2)) (fun t10 _ => ?_)
            refine t_bind (wX11_push_T (by omega) (by omega)) (fun s7 h7 => ?_)
            unfold wX11_reckons_j129
            exact go _ _ h7.1 (by rw [h7.2, ht]; rfl) (by omega) hr
          · cases hs
        · rw [if_neg c0, if_neg c1, if_pos c2] at hs
          split at hs
          · next hq =>
            obtain rfl := Option.some.inj hs
            refine t_bind (wX11_pop_T (by omega) (by omega)) (fun r h7 => ?_)
            obtain ⟨t15, s16⟩ := r
            dsimp only at h7 ⊢
            refine t_bind (wX11_push_T (by omega) (by omega)) (fun s19 h8 => ?_)
            unfold wX11_reckons_j129
            exact go _ _ (h7.1.trans h8.1) (by rw [h8.2, h7.2, ht]; omega) (by omega) hr
          · cases hs
        · rw [if_neg c0, if_neg c1, if_neg c2] at hs
          split at hs
          · next hq =>
            obtain rfl := Option.some.inj hs
            refine t_bind (wX11_pop_T (by omega) (by omega)) (fun r h7 => ?_)
            obtain ⟨t21, s22⟩ := r
            dsimp only at h7 ⊢
            refine t_bind (wX11_pop_T (by omega) (by omega)) (fun r h8 => ?_)
            obtain ⟨t24, s25⟩ := r
            dsimp only at h8 ⊢
            refine t_bind wX11_one_T (fun t27 _ => ?_)
            refine t_bind (wX11_push_T (by omega) (by omega)) (fun s30 h9 => ?_)
            unfold wX11_reckons_j129
            exact go _ _ ((h7.1.trans h8.1).trans h9.1) (by rw [h9.2, h8.2, h7.2, ht]; omega) (by omega) hr
          · cases hs
    · have hc := t_ge c
      have e5 : (x3.toInt - x4.toInt).toNat = 0 := by omega
      rw [e5] at hr
      obtain rfl := Option.some.inj hr
      rw [ht]
      rfl
theorem wX11_reckons_T {x1 x2 x3 : Int32} {s : wS} (hl : 0 ≤ x1.toInt) (hl2 : x1.toInt < 6) (hw : qWF (fun i => s.1 154 (400 * x1.toNatClampNeg + i)) x2.toInt x3.toInt) : Tot (wX11_reckons x1 x2 x3 s) (fun r => wA bP s r.2) := by
  unfold wX11_reckons
  obtain ⟨w1, w2, w3, w4⟩ := hw
  refine t_bind (t_pfI (B := bP) rfl) (fun s1 h1 => ?_)
  have f : (s1.1 152 22).toInt = (0 : Nat) := by rw [h1.2, wup_same]; rfl
  have a5 : s1.1 154 = s.1 154 := (sameP h1.1).2.2.2.1
  refine t_bind (wX11_reckons_h8_T hl hl2 w3 _ w1 w2 f (by omega) (by rw [a5]; exact w4) t_mi) (fun s33 h33 => ?_)
  refine t_bind (wX11_pop_T (by omega) (by omega)) (fun r h8 => ?_)
  obtain ⟨t44, s45⟩ := r
  exact t_some ((h1.1.trans h33.1).trans h8.1)
end
section
/-! The reference: its tests, FAR. -/
theorem wX11_isCourt_T {s : wS} : Tot (wX11_isCourt s) (fun t => (t = 1 ∧ 0 < (s.1 163 0).toInt) ∨ t = 0) := by
  unfold wX11_isCourt
  exact t_ite (fun c => t_some (Or.inl ⟨rfl, t_lt c⟩)) (fun c => t_some (Or.inr rfl))
theorem wX11_isLaw_T {x1 : Int32} {s : wS} : Tot (wX11_isLaw x1 s) (fun t => (t = 1 ∧ 0 ≤ x1.toInt ∧ x1.toInt < (s.1 152 2).toInt) ∨ t = 0) := by
  unfold wX11_isLaw
  exact t_ite (fun c => t_some (Or.inr rfl)) (fun c => t_ite (fun c1 => t_some (Or.inl ⟨rfl, t_ge c, t_lt c1⟩)) (fun c1 => t_some (Or.inr rfl)))
theorem wX11_isKind_T {x1 : Int32} {s : wS} : Tot (wX11_isKind x1 s) (fun t => (t = 1 ∧ 0 ≤ x1.toInt ∧ x1.toInt ≤ 2) ∨ t = 0) := by
  unfold wX11_isKind
  refine t_bind wX11_isCourt_T (fun t1 _ => t_ite (fun _ => t_some (Or.inr rfl)) (fun _ => ?_))
  refine t_bind wX11_in_T (fun t4 h4 => t_ite (fun _ => t_some (Or.inr rfl)) (fun c => t_some (Or.inl ⟨rfl, ?_⟩)))
  rcases h4 with h | h
  · rw [Int32.toInt_toInt64] at h
    exact ⟨h.2.1, h.2.2⟩
  · exact absurd h.1 c
theorem wX11_isThing_T {x1 x2 : Int32} {s : wS} (hR : RQ s) : Tot (wX11_isThing x1 x2 s) (fun t => (t = 1 ∧ (0 ≤ x1.toInt ∧ x1.toInt ≤ 2) ∧ 0 ≤ x2.toInt ∧ x2.toInt < 8 ∧ x2.toInt < (s.1 163 x1.toNatClampNeg).toInt) ∨ t = 0) := by
  unfold wX11_isThing
  refine t_bind wX11_isKind_T (fun t1 h1 => t_ite (fun _ => t_some (Or.inr rfl)) (fun c => ?_))
  have hk : 0 ≤ x1.toInt ∧ x1.toInt ≤ 2 := by
    rcases h1 with h | h
    · exact h.2
    · exact absurd h c
  refine t_ite (fun _ => t_some (Or.inr rfl)) (fun c2 => ?_)
  refine t_bind (t_ldI (n := 262) hk.1 (by omega)) (fun t5 h5 => t_ite (fun c5 => t_some (Or.inl ⟨rfl, hk, t_ge c2, ?_, ?_⟩)) (fun _ => t_some (Or.inr rfl)))
  · have := (RQ_k hR hk.1 hk.2).2
    have h6 := t_lt c5
    rw [h5] at h6
    omega
  · have h6 := t_lt c5
    rw [h5] at h6
    exact h6
theorem wX11_isWorld_T {x1 : Int32} {s : wS} : Tot (wX11_isWorld x1 s) (fun t => (t = 1 ∧ 0 ≤ x1.toInt ∧ x1.toInt < (wW s).toInt) ∨ t = 0) := by
  unfold wX11_isWorld
  refine t_ite (fun _ => t_some (Or.inr rfl)) (fun c2 => ?_)
  refine t_bind wX11_worlds_T (fun t2 h2 => t_ite (fun c5 => t_some (Or.inl ⟨rfl, t_ge c2, ?_⟩)) (fun _ => t_some (Or.inr rfl)))
  rw [h2] at c5
  exact t_lt c5
theorem wX11_isWitness_T {x0 : Int32} {s : wS} : Tot (wX11_isWitness x0 s) (fun t => (t = 1 ∧ 0 ≤ x0.toInt ∧ x0.toInt < 6) ∨ t = 0) := by
  unfold wX11_isWitness
  exact t_ite (fun c => t_some (Or.inr rfl)) (fun c => t_ite (fun c1 => t_some (Or.inl ⟨rfl, t_ge c, t_lt c1⟩)) (fun c1 => t_some (Or.inr rfl)))
theorem wX11_isAnswer_T {x1 : Int32} {s : wS} : Tot (wX11_isAnswer x1 s) (fun t => (t = 1 ∧ 0 ≤ x1.toInt ∧ x1.toInt < (s.1 163 3).toInt) ∨ t = 0) := by
  unfold wX11_isAnswer
  exact t_ite (fun c => t_some (Or.inr rfl)) (fun c => t_ite (fun c1 => t_some (Or.inl ⟨rfl, t_ge c, t_lt c1⟩)) (fun c1 => t_some (Or.inr rfl)))
theorem wX11_canAsk_T {x1 : Int32} {s : wS} : Tot (wX11_canAsk x1 s) (fun t => (t = 1 ∧ 0 < (s.1 163 0).toInt ∧ 0 ≤ x1.toInt ∧ x1.toInt < (s.1 152 2).toInt) ∨ t = 0) := by
  unfold wX11_canAsk
  refine t_bind wX11_isCourt_T (fun t1 h1 => t_ite (fun _ => t_some (Or.inr rfl)) (fun c1 => ?_))
  refine t_bind wX11_isLaw_T (fun t4 h4 => t_ite (fun _ => t_some (Or.inr rfl)) (fun c4 => t_some (Or.inl ⟨rfl, ?_, ?_⟩)))
  · rcases h1 with h | h
    · exact h.2
    · exact absurd h c1
  · rcases h4 with h | h
    · exact h.2
    · exact absurd h c4
theorem wX11_isMany_T {x0 : Int32} {s : wS} : Tot (wX11_isMany x0 s) (fun _ => True) := by
  unfold wX11_isMany
  refine t_bind wX11_in_T (fun t1 h1 => t_mono (t_rtZ ?_) (fun _ _ => trivial))
  rcases h1 with h | h
  · exact Or.inr h.1
  · exact Or.inl h.1
/-- a set of 64 bits has an end: after j steps its j lowest bits are gone -/
theorem t_low {j : Nat} {x : BitVec 64} (hj : j < 64) (h : ∀ i, i < j → x.getLsbD i = false) : ∀ i, i < j + 1 → (x &&& (x - 1#64)).getLsbD i = false := by
  intro i hi
  rw [BitVec.getLsbD_and]
  by_cases e : i < j
  · rw [h i e, Bool.false_and]
  · obtain rfl : i = j := by omega
    cases hx : x.getLsbD i with
    | false => rfl
    | true =>
      rw [Bool.true_and]
      have hm : x.toNat % 2 ^ i = 0 := by
        apply Nat.eq_of_testBit_eq
        intro k
        rw [Nat.testBit_mod_two_pow, Nat.zero_testBit]
        by_cases hk : k < i
        · have := h k hk
          rw [BitVec.getLsbD] at this
          rw [this, Bool.and_false]
        · simp [hk]
      have hb : x.toNat.testBit i = true := hx
      have hge : 2 ^ i ≤ x.toNat := Nat.ge_two_pow_of_testBit hb
      have hx64 := x.isLt
      have hpos : 0 < 2 ^ i := Nat.two_pow_pos i
      have e1 : (x - 1#64).toNat = x.toNat - 1 := by
        rw [BitVec.toNat_sub]
        have : (1#64).toNat = 1 := rfl
        rw [this]
        omega
      show (x - 1#64).toNat.testBit i = false
      rw [e1]
      obtain ⟨q, hq⟩ := Nat.dvd_of_mod_eq_zero hm
      rw [hq] at hb hge ⊢
      rw [Nat.testBit_two_pow_mul] at hb
      simp at hb
      have hq1 : q % 2 = 1 := by
        simpa [Nat.testBit_zero] using hb
      obtain ⟨w, hw⟩ : ∃ w, q = 2 * w + 1 := ⟨q / 2, by omega⟩
      have e2 : 2 ^ i * q - 1 = 2 ^ (i + 1) * w + (2 ^ i - 1) := by
        rw [hw, Nat.mul_add, Nat.mul_one, ← Nat.mul_assoc, Nat.pow_succ]
        omega
      rw [e2]
      have hlt : 2 ^ i - 1 < 2 ^ (i + 1) := by rw [Nat.pow_succ]; omega
      rw [Nat.testBit_two_pow_mul_add w hlt i, if_pos (by omega)]
      exact Nat.testBit_lt_two_pow (by omega)
theorem wX11_bits_h4_T {s : wS} : ∀ (n j : Nat) {x2 : Int32} {x3 : Int64}, j ≤ 64 → (∀ i, i < j → x3.toBitVec.getLsbD i = false) → 64 < n + j → Tot (wX11_bits_h4 s n x2 x3) (fun _ => True) := by
  intro n
  induction n with
  | zero => intro j x2 x3 hj h hm; exfalso; omega
  | succ n ih =>
    intro j x2 x3 hj h hm
    rw [wX11_bits_h4]
    refine t_ite (fun _ => t_some trivial) (fun c => ?_)
    have hj2 : j < 64 := by
      rcases Nat.lt_or_ge j 64 with q | q
      · exact q
      · exfalso
        apply c
        apply Int64.toBitVec_inj.1
        apply BitVec.eq_of_getLsbD_eq
        intro i hi
        rw [h i (by omega)]
        exact (BitVec.getLsbD_zero).symm
    refine ih (j + 1) (by omega) ?_ (by omega)
    have e : (x3 &&& (x3 - 1)).toBitVec = x3.toBitVec &&& (x3.toBitVec - 1#64) := by
      rw [Int64.toBitVec_and, Int64.toBitVec_sub]
      rfl
    rw [e]
    exact t_low hj2 h
theorem wX11_bits_T {x0 : Int64} {s : wS} : Tot (wX11_bits x0 s) (fun _ => True) := by
  unfold wX11_bits
  refine t_bind (wX11_bits_h4_T _ 0 (by omega) (fun i hi => by omega) (by decide +kernel)) (fun _ _ => t_some trivial)
end
section
/-! The reference: FAR of all things. -/
theorem t_c2 {c : Int32} {n : Int} {x : Int32} (hc : c.toInt = n) (hn : 0 ≤ n) (hn2 : n ≤ 300) (hx : 0 ≤ x.toInt) (hx2 : x.toInt ≤ 20) : (c + 2 * x).toInt = n + 2 * x.toInt := by
  have e2 : (2 : Int32).toInt = 2 := rfl
  have h1 : (2 * x).toInt = 2 * x.toInt := by rw [t_mul (by rw [e2]; omega) (by rw [e2]; omega), e2]
  rw [t_add (by rw [h1, hc]; omega) (by rw [h1, hc]; omega), h1, hc]
theorem t_c2a {c d : Int32} {n m : Int} {x : Int32} (hc : c.toInt = n) (hd : d.toInt = m) (hn : 0 ≤ n) (hn2 : n ≤ 300) (hm : 0 ≤ m) (hm2 : m ≤ 300) (hx : 0 ≤ x.toInt) (hx2 : x.toInt ≤ 20) : ((c + 2 * x) + d).toInt = n + 2 * x.toInt + m := by
  have h := t_c2 hc hn hn2 hx hx2
  rw [t_add (by rw [h, hd]; omega) (by rw [h, hd]; omega), h, hd]
theorem wX11_apart_T {x0 x1 : Int32} {s : wS} : Tot (wX11_apart x0 x1 s) (fun _ => True) := by
  unfold wX11_apart
  exact t_ite (fun _ => t_some trivial) (fun _ => t_some trivial)
theorem wX11_words_h3_T {x1 x2 x3 : Int32} : ∀ (n : Nat) {x4 : Int32} {s : wS}, 0 ≤ x4.toInt → 2147483648 - x4.toInt < (n : Int) → Tot (wX11_words_h3 x1 x2 x3 n x4 s) (fun r => wA bP s r) := by
  intro n
  induction n with
  | zero => intro x4 s hi hm; exact (t_m0 hm).elim
  | succ n ih =>
    intro x4 s hi hm
    rw [wX11_words_h3]
    refine t_ite (fun c => ?_) (fun _ => t_some wA.refl)
    have h2 := t_lt c
    rw [show (8 : Int32).toInt = 8 from rfl] at h2
    refine t_bind (t_stL (B := bP) (n := 8) hi (by omega)) (fun s2 h => ?_)
    exact t_mono (ih (t_n1 c hi) (t_m1 c hm)) (fun r hr => h.1.trans hr)
theorem wX11_words_j125_T {x1 x2 x3 : Int32} {s : wS} (h2 : 0 ≤ x2.toInt) (h2b : x2.toInt < 8) (h3 : 0 ≤ x3.toInt) (h3b : x3.toInt < 8) : Tot (wX11_words_j125 x1 x2 x3 s) (fun r => wA bP s r) := by
  unfold wX11_words_j125
  refine t_ite (fun c => ?_) (fun _ => t_some wA.refl)
  have a2 := t_c2 (c := 26) (n := 26) (x := x2) rfl (by omega) (by omega) h2 (by omega)
  have a3 := t_c2 (c := 26) (n := 26) (x := x3) rfl (by omega) (by omega) h3 (by omega)
  have b2 := t_c2a (c := 26) (n := 26) (d := 1) (m := 1) (x := x2) rfl rfl (by omega) (by omega) (by omega) (by omega) h2 (by omega)
  have b3 := t_c2a (c := 26) (n := 26) (d := 1) (m := 1) (x := x3) rfl rfl (by omega) (by omega) (by omega) (by omega) h3 (by omega)
  refine t_bind (t_ldI (n := 262) (by omega) (by omega)) (fun t23 _ => ?_)
  refine t_bind (t_stL (B := bP) (n := 8) (by decide) (by decide)) (fun s24 h24 => ?_)
  refine t_bind (t_ldI (n := 262) (by omega) (by omega)) (fun t25 _ => ?_)
  refine t_bind (t_ldI (n := 262) (by omega) (by omega)) (fun t26 _ => ?_)
  refine t_bind wX11_apart_T (fun t27 _ => ?_)
  refine t_bind (t_stL (B := bP) (n := 8) (by decide) (by decide)) (fun s29 h29 => ?_)
  refine t_bind (t_ldI (n := 262) (by omega) (by omega)) (fun t30 _ => ?_)
  refine t_bind (t_ldI (n := 262) (by omega) (by omega)) (fun t31 _ => ?_)
  unfold wX11_words_j221
  refine t_ite (fun _ => ?_) (fun _ => ?_)
  · exact t_bind (t_stL (B := bP) (n := 8) (by decide) (by decide)) (fun s33 h33 => t_some ((h24.1.trans h29.1).trans h33.1))
  · exact t_bind (t_stL (B := bP) (n := 8) (by decide) (by decide)) (fun s33 h33 => t_some ((h24.1.trans h29.1).trans h33.1))
theorem wX11_words_T {x1 x2 x3 : Int32} {s : wS} (h2 : 0 ≤ x2.toInt) (h2b : x2.toInt < 8) (h3 : 0 ≤ x3.toInt) (h3b : x3.toInt < 8) : Tot (wX11_words x1 x2 x3 s) (fun r => wA bP s r) := by
  unfold wX11_words
  have a2 := t_c2 (c := 10) (n := 10) (x := x2) rfl (by omega) (by omega) h2 (by omega)
  have a3 := t_c2 (c := 10) (n := 10) (x := x3) rfl (by omega) (by omega) h3 (by omega)
  have b2 := t_c2a (c := 10) (n := 10) (d := 1) (m := 1) (x := x2) rfl rfl (by omega) (by omega) (by omega) (by omega) h2 (by omega)
  have b3 := t_c2a (c := 10) (n := 10) (d := 1) (m := 1) (x := x3) rfl rfl (by omega) (by omega) (by omega) (by omega) h3 (by omega)
  refine t_bind (wX11_words_h3_T _ (by decide) t_mi) (fun s4 h4 => ?_)
  refine t_bind (t_stL (B := bP) (n := 8) (by decide) (by decide)) (fun s6 h6 => ?_)
  refine t_bind (t_stL (B := bP) (n := 8) (by decide) (by decide)) (fun s7 h7 => ?_)
  refine t_bind wX11_apart_T (fun t8 _ => ?_)
  refine t_bind (t_stL (B := bP) (n := 8) (by decide) (by decide)) (fun s10 h10 => ?_)
  have a := ((h4.trans h6.1).trans h7.1).trans h10.1
  refine t_ite (fun _ => ?_) (fun _ => t_mono (wX11_words_j125_T h2 h2b h3 h3b) (fun r h => a.trans h))
  refine t_bind (t_ldI (n := 262) (by omega) (by omega)) (fun t12 _ => ?_)
  refine t_bind (t_ldI (n := 262) (by omega) (by omega)) (fun t13 _ => ?_)
  refine t_bind wX11_apart_T (fun t14 _ => ?_)
  refine t_bind (t_stL (B := bP) (n := 8) (by decide) (by decide)) (fun s16 h16 => ?_)
  refine t_bind (t_ldI (n := 262) (by omega) (by omega)) (fun t17 _ => ?_)
  refine t_bind (t_ldI (n := 262) (by omega) (by omega)) (fun t18 _ => ?_)
  refine t_bind wX11_apart_T (fun t19 _ => ?_)
  refine t_bind (t_stL (B := bP) (n := 8) (by decide) (by decide)) (fun s21 h21 => ?_)
  exact t_mono (wX11_words_j125_T h2 h2b h3 h3b) (fun r h => ((a.trans h16.1).trans h21.1).trans h)
theorem t_cl {l c : Int32} (hl : 0 ≤ l.toInt) (hl2 : l.toInt < 6) (hc : 0 ≤ c.toInt) (hc2 : c.toInt < 12) : ((60 * l) + (5 * c)).toInt = 60 * l.toInt + 5 * c.toInt := by
  have e6 : (60 : Int32).toInt = 60 := rfl
  have e5 : (5 : Int32).toInt = 5 := rfl
  have h1 : (60 * l).toInt = 60 * l.toInt := by rw [t_mul (by rw [e6]; omega) (by rw [e6]; omega), e6]
  have h2 : (5 * c).toInt = 5 * c.toInt := by rw [t_mul (by rw [e5]; omega) (by rw [e5]; omega), e5]
  rw [t_add (by rw [h1, h2]; omega) (by rw [h1, h2]; omega), h1, h2]
theorem t_pl {x d : Int32} {m : Int} (hd : d.toInt = m) (hm : 0 ≤ m) (hm2 : m ≤ 300) (hx : 0 ≤ x.toInt) (hx2 : x.toInt ≤ 100000) : (x + d).toInt = x.toInt + m := by
  rw [t_add (by rw [hd]; omega) (by rw [hd]; omega), hd]
theorem wX11_farBy_h11_T {x1 x2 : Int32} {s0 : wS} (hR : RQ s0) (hl : 0 ≤ x1.toInt) (hl2 : x1.toInt < (s0.1 152 2).toInt) : ∀ (n : Nat) {x5 : Int32} {s : wS}, wA bP s0 s → 0 ≤ x5.toInt → 2147483648 - x5.toInt < (n : Int) → Tot (wX11_farBy_h11 x1 x2 n x5 s) (Sum.elim (fun r => wA bP s0 r) (fun r => wA bP s0 r.2 ∧ ∃ c : Nat, (c : Int) < (s0.1 157 x1.toNatClampNeg).toInt ∧ r.1.toInt = 60 * x1.toInt + 5 * c)) := by
  intro n
  induction n with
  | zero => intro x5 s ha hi hm; exact (t_m0 hm).elim
  | succ n ih =>
    intro x5 s ha hi hm
    rw [wX11_farBy_h11]
    have hb := RQ_b hR
    have hL := hR.2.2 x1.toNatClampNeg (by unfold Int32.toNatClampNeg; omega)
    obtain ⟨hL1, hL2⟩ := hL
    obtain ⟨q1, q2, q3, q4, q5⟩ := sameP ha
    refine t_bind (t_ldI (n := 6) hl (by omega)) (fun t4 h4 => ?_)
    rw [q2] at h4
    refine t_ite (fun c => ?_) (fun _ => t_some ha)
    have hc := t_lt c
    rw [h4] at hc
    have e := t_cl (c := x5) hl (by omega) hi (by omega)
    have e3 := t_pl (x := (60 * x1) + (5 * x5)) (d := 3) (m := 3) rfl (by omega) (by omega) (by omega) (by omega)
    have e4 := t_pl (x := (60 * x1) + (5 * x5)) (d := 4) (m := 4) rfl (by omega) (by omega) (by omega) (by omega)
    have go : ∀ s1, wA bP s0 s1 → Tot (wX11_farBy_j111 (wX11_farBy_h11 x1 x2 n) x1 x2 x5 s1) (Sum.elim (fun r => wA bP s0 r) (fun r => wA bP s0 r.2 ∧ ∃ c : Nat, (c : Int) < (s0.1 157 x1.toNatClampNeg).toInt ∧ r.1.toInt = 60 * x1.toInt + 5 * c)) := fun s1 h1 => by
      unfold wX11_farBy_j111
      exact ih h1 (t_n1 c hi) (t_m1 c hm)
    have fin : ∀ s1, wA bP s0 s1 → Sum.elim (fun (r : wS) => wA bP s0 r) (fun (r : Int32 × wS) => wA bP s0 r.2 ∧ ∃ c : Nat, (c : Int) < (s0.1 157 x1.toNatClampNeg).toInt ∧ r.1.toInt = 60 * x1.toInt + 5 * c) (.inr ((60 * x1) + (5 * x5), s1)) := fun s1 h1 => ⟨h1, x5.toNatClampNeg, by unfold Int32.toNatClampNeg at *; omega, by
      show ((60 * x1) + (5 * x5)).toInt = _
      unfold Int32.toNatClampNeg
      omega⟩
    refine t_bind (t_ldI (n := 360) (by omega) (by omega)) (fun t6 _ => t_ite (fun _ => ?_) (fun _ => go _ ha))
    refine t_bind (t_ldI (n := 360) (by omega) (by omega)) (fun t8 h8 => t_ite (fun _ => t_some (fin s ha)) (fun c8 => ?_))
    refine t_bind (t_ldI (n := 360) (by omega) (by omega)) (fun t10 h10 => ?_)
    refine t_bind (t_ldI (n := 360) (by omega) (by omega)) (fun t11 h11 => ?_)
    have n3 : (((60 * x1) + (5 * x5)) + 3).toNatClampNeg = 60 * x1.toNatClampNeg + 5 * x5.toNatClampNeg + 3 := by
      unfold Int32.toNatClampNeg
      omega
    have n4 : (((60 * x1) + (5 * x5)) + 4).toNatClampNeg = 60 * x1.toNatClampNeg + 5 * x5.toNatClampNeg + 4 := by
      unfold Int32.toNatClampNeg
      omega
    rw [n3, q3] at h8 h10
    rw [n4, q3] at h11
    have hw := (hL2 x5.toNatClampNeg (by unfold Int32.toNatClampNeg at *; omega)).2
    have hneg := t_ge c8
    rw [t_i0, h8] at hneg
    rcases hw with hw | hw
    · omega
    · rw [← h10, ← h11] at hw
      refine t_bind (wX11_reckons_T hl (by omega) (by rw [q4]; exact hw)) (fun r h12 => ?_)
      obtain ⟨t12, s13⟩ := r
      dsimp only at h12 ⊢
      exact t_ite (fun _ => go _ (ha.trans h12)) (fun _ => t_some (fin s13 (ha.trans h12)))
theorem wX11_farBy_T {x1 x2 x3 x4 : Int32} {s : wS} (hR : RQ s) (hl : 0 ≤ x1.toInt) (hl2 : x1.toInt < (s.1 152 2).toInt) (h3 : 0 ≤ x3.toInt) (h3b : x3.toInt < 8) (h4 : 0 ≤ x4.toInt) (h4b : x4.toInt < 8) : Tot (wX11_farBy x1 x2 x3 x4 s) (fun r => wA bP s r.2) := by
  unfold wX11_farBy
  refine t_bind (wX11_words_T h3 h3b h4 h4b) (fun s2 h2 => ?_)
  refine t_bind (wX11_farBy_h11_T hR hl hl2 _ h2 (by decide) t_mi) (fun z16 hz => ?_)
  rcases z16 with s17 | ⟨t25, s26⟩
  · exact t_some hz
  · obtain ⟨ha, c, hc, e⟩ := hz
    dsimp only at ha e ⊢
    unfold wX11_farBy_j87
    have hb := RQ_b hR
    obtain ⟨hL1, hL2⟩ := hR.2.2 x1.toNatClampNeg (by unfold Int32.toNatClampNeg; omega)
    obtain ⟨q1, q2, q3, q4, q5⟩ := sameP ha
    have hw := (hL2 c hc).1
    have e1 := t_pl (x := t25) (d := 1) (m := 1) rfl (by omega) (by omega) (by omega) (by omega)
    have e2 := t_pl (x := t25) (d := 2) (m := 2) rfl (by omega) (by omega) (by omega) (by omega)
    refine t_bind (t_ldI (n := 360) (by omega) (by omega)) (fun t31 h31 => ?_)
    refine t_bind (t_ldI (n := 360) (by omega) (by omega)) (fun t32 h32 => ?_)
    have n1 : (t25 + 1).toNatClampNeg = 60 * x1.toNatClampNeg + 5 * c + 1 := by
      unfold Int32.toNatClampNeg
      omega
    have n2 : (t25 + 2).toNatClampNeg = 60 * x1.toNatClampNeg + 5 * c + 2 := by
      unfold Int32.toNatClampNeg
      omega
    rw [n1, q3] at h31
    rw [n2, q3] at h32
    rw [← h31, ← h32] at hw
    refine t_bind (wX11_reckons_T hl (by omega) (by rw [q4]; exact hw)) (fun r h12 => ?_)
    obtain ⟨t33, s34⟩ := r
    exact t_some (ha.trans h12)
theorem wX11_reaches_h22_T {x1 x2 x3 : Int32} {s0 : wS} (hR : RQ s0) (hl : 0 ≤ x1.toInt) (hl2 : x1.toInt < (s0.1 152 2).toInt) (hk : 0 ≤ x2.toInt) (hk2 : x2.toInt ≤ 2) (h3 : 0 ≤ x3.toInt) (h3b : x3.toInt < 8) : ∀ (n : Nat) {x4 : Int32} {s : wS}, wA bP s0 s → 0 ≤ x4.toInt → 2147483648 - x4.toInt < (n : Int) → Tot (wX11_reaches_h22 x1 x2 x3 n x4 s) (fun r => wA bP s0 r) := by
  intro n
  induction n with
  | zero => intro x4 s ha hi hm; exact (t_m0 hm).elim
  | succ n ih =>
    intro x4 s ha hi hm
    rw [wX11_reaches_h22]
    have hR1 := RQ_P ha hR
    have q := sameP ha
    refine t_bind (t_ldI (n := 262) hk (by omega)) (fun t4 h4 => t_ite (fun c => ?_) (fun _ => t_some ha))
    have hb := (RQ_k hR1 hk hk2).2
    have hc := t_lt c
    rw [h4] at hc
    refine t_bind (wX11_farBy_T hR1 hl (by rw [q.2.2.2.2]; exact hl2) h3 h3b hi (by omega)) (fun r h6 => ?_)
    obtain ⟨t6, s7⟩ := r
    dsimp only at h6 ⊢
    have e := t_ix64 hk hk2 h3 h3b hi (by omega)
    refine t_bind (t_stL (B := bP) (n := 192) (by rw [e]; omega) (by rw [e]; omega)) (fun s9 h9 => ?_)
    exact ih ((ha.trans h6).trans h9.1) (t_n1 c hi) (t_m1 c hm)
theorem wX11_reaches_h9_T {x1 x2 : Int32} {s0 : wS} (hR : RQ s0) (hl : 0 ≤ x1.toInt) (hl2 : x1.toInt < (s0.1 152 2).toInt) (hk : 0 ≤ x2.toInt) (hk2 : x2.toInt ≤ 2) : ∀ (n : Nat) {x3 : Int32} {s : wS}, wA bP s0 s → 0 ≤ x3.toInt → 2147483648 - x3.toInt < (n : Int) → Tot (wX11_reaches_h9 x1 x2 n x3 s) (fun r => wA bP s0 r) := by
  intro n
  induction n with
  | zero => intro x3 s ha hi hm; exact (t_m0 hm).elim
  | succ n ih =>
    intro x3 s ha hi hm
    rw [wX11_reaches_h9]
    have hR1 := RQ_P ha hR
    refine t_bind (t_ldI (n := 262) hk (by omega)) (fun t4 h4 => t_ite (fun c => ?_) (fun _ => t_some ha))
    have hb := (RQ_k hR1 hk hk2).2
    have hc := t_lt c
    rw [h4] at hc
    refine t_bind (wX11_reaches_h22_T hR hl hl2 hk hk2 hi (by omega) _ ha (by decide) t_mi) (fun s11 h11 => ?_)
    exact ih h11 (t_n1 c hi) (t_m1 c hm)
theorem wX11_reaches_h2_T {x1 : Int32} {s0 : wS} (hR : RQ s0) (hl : 0 ≤ x1.toInt) (hl2 : x1.toInt < (s0.1 152 2).toInt) : ∀ (n : Nat) {x2 : Int32} {s : wS}, wA bP s0 s → 0 ≤ x2.toInt → 2147483648 - x2.toInt < (n : Int) → Tot (wX11_reaches_h2 x1 n x2 s) (fun r => wA bP s0 r) := by
  intro n
  induction n with
  | zero => intro x2 s ha hi hm; exact (t_m0 hm).elim
  | succ n ih =>
    intro x2 s ha hi hm
    rw [wX11_reaches_h2]
    refine t_ite (fun c => ?_) (fun _ => t_some ha)
    have hc := t_lt c
    rw [show (3 : Int32).toInt = 3 from rfl] at hc
    refine t_bind (wX11_reaches_h9_T hR hl hl2 hi (by omega) _ ha (by decide) t_mi) (fun s11 h11 => ?_)
    exact ih h11 (t_n1 c hi) (t_m1 c hm)
theorem wX11_reaches_T {x1 : Int32} {s : wS} (hR : RQ s) (hl : 0 ≤ x1.toInt) (hl2 : x1.toInt < (s.1 152 2).toInt) : Tot (wX11_reaches x1 s) (fun r => wA bP s r) := by
  unfold wX11_reaches
  exact t_bind (wX11_reaches_h2_T hR hl hl2 _ wA.refl (by decide) t_mi) (fun s18 h => t_some h)
end
section
/-! The reference: PAIRS, KEPT. -/
noncomputable def PV (s : wS) : Prop := (0 ≤ (s.1 152 33).toInt ∧ (s.1 152 33).toInt ≤ 84) ∧ ∀ p : Nat, (p : Int) < (s.1 152 33).toInt → (0 ≤ (s.1 168 (3 * p)).toInt ∧ (s.1 168 (3 * p)).toInt ≤ 2) ∧ (0 ≤ (s.1 168 (3 * p + 1)).toInt ∧ (s.1 168 (3 * p + 1)).toInt < 8) ∧ (0 ≤ (s.1 168 (3 * p + 2)).toInt ∧ (s.1 168 (3 * p + 2)).toInt < 8)
theorem PV_P {s s' : wS} (h : wA bP s s') (g : PV s) : PV s' := by
  have h1 : s'.1 168 = s.1 168 := funext fun b => h 168 b rfl
  have h2 : s'.1 152 33 = s.1 152 33 := h 152 33 rfl
  unfold PV at *
  rw [h1, h2]
  exact g
theorem t_3p {x : Int32} (h : 0 ≤ x.toInt) (h2 : x.toInt ≤ 84) : (3 * x).toInt = 3 * x.toInt := by
  have e : (3 : Int32).toInt = 3 := rfl
  rw [t_mul (by rw [e]; omega) (by rw [e]; omega), e]
theorem wX11_leaves_T {x1 x2 x3 : Int32} {s : wS} (hR : RQ s) (hP : PV s) (hp : 0 ≤ x1.toInt) (hp2 : x1.toInt < (s.1 152 33).toInt) (hb : 0 ≤ x2.toInt) (hb2 : x2.toInt ≤ 1) (hw : 0 ≤ x3.toInt) (hw2 : x3.toInt < (wW s).toInt) : Tot (wX11_leaves x1 x2 x3 s) (fun t => t = 0 ∨ t = 1) := by
  unfold wX11_leaves
  obtain ⟨⟨p0, p1⟩, hq⟩ := hP
  obtain ⟨⟨k0, k2⟩, ⟨a0, a8⟩, ⟨b0, b8⟩⟩ := hq x1.toNatClampNeg (by unfold Int32.toNatClampNeg; omega)
  have e3 := t_3p hp (by omega)
  have e1 := t_pl (x := 3 * x1) (d := 1) (m := 1) rfl (by omega) (by omega) (by omega) (by omega)
  have e2 := t_pl (x := 3 * x1) (d := 2) (m := 2) rfl (by omega) (by omega) (by omega) (by omega)
  have f1 : (((3 * x1) + 1) + x2).toInt = 3 * x1.toInt + 1 + x2.toInt := by rw [t_add (by omega) (by omega), e1, e3]
  have f2 : (((3 * x1) + 2) - x2).toInt = 3 * x1.toInt + 2 - x2.toInt := by rw [t_sub (by omega) (by omega), e2, e3]
  refine t_bind (t_ldI (n := 252) (by omega) (by omega)) (fun t1 h1 => ?_)
  refine t_bind (t_ldI (n := 252) (by omega) (by omega)) (fun t2 h2 => ?_)
  refine t_bind (t_ldI (n := 252) (by omega) (by omega)) (fun t3 h3 => ?_)
  have n1 : (3 * x1).toNatClampNeg = 3 * x1.toNatClampNeg := by unfold Int32.toNatClampNeg; omega
  rw [n1] at h1
  rw [← h1] at k0 k2
  have hd : (0 ≤ t2.toInt ∧ t2.toInt < 8) ∧ (0 ≤ t3.toInt ∧ t3.toInt < 8) := by
    rcases (by omega : x2.toInt = 0 ∨ x2.toInt = 1) with e | e
    · have n2 : (((3 * x1) + 1) + x2).toNatClampNeg = 3 * x1.toNatClampNeg + 1 := by unfold Int32.toNatClampNeg; omega
      have n3 : (((3 * x1) + 2) - x2).toNatClampNeg = 3 * x1.toNatClampNeg + 2 := by unfold Int32.toNatClampNeg; omega
      rw [n2] at h2
      rw [n3] at h3
      rw [h2, h3]
      exact ⟨⟨a0, a8⟩, ⟨b0, b8⟩⟩
    · have n2 : (((3 * x1) + 1) + x2).toNatClampNeg = 3 * x1.toNatClampNeg + 2 := by unfold Int32.toNatClampNeg; omega
      have n3 : (((3 * x1) + 2) - x2).toNatClampNeg = 3 * x1.toNatClampNeg + 1 := by unfold Int32.toNatClampNeg; omega
      rw [n2] at h2
      rw [n3] at h3
      rw [h2, h3]
      exact ⟨⟨b0, b8⟩, ⟨a0, a8⟩⟩
  refine t_bind (wX11_isNearer_T hR k0 k2 hd.1.1 hd.1.2 hd.2.1 hd.2.2 hw hw2) (fun t4 h4 => ?_)
  exact t_mono (t_rtZ h4) (fun r h => by rw [h]; exact h4)
/-- PAIRS of the kinds before, and of the first things of a kind -/
noncomputable def tri (a : Int) : Int := if a ≤ 0 then 0 else if a = 1 then 7 else if a = 2 then 13 else if a = 3 then 18 else if a = 4 then 22 else if a = 5 then 25 else if a = 6 then 27 else 28
theorem wX11_gathers_h28_T {x1 x2 : Int32} {s0 : wS} (hR : RQ s0) (hk : 0 ≤ x1.toInt) (hk2 : x1.toInt ≤ 2) (h2 : 0 ≤ x2.toInt) (h2b : x2.toInt < 8) : ∀ (n : Nat) {x3 : Int32} {s : wS}, wA bQ s0 s → PV s → (s.1 152 33).toInt ≤ 28 * x1.toInt + tri x2.toInt + (x3.toInt - x2.toInt - 1) → x2.toInt < x3.toInt → x3.toInt ≤ 8 → 2147483648 - x3.toInt < (n : Int) → Tot (wX11_gathers_h28 x1 x2 n x3 s) (fun r => wA bQ s0 r ∧ PV r ∧ (r.1 152 33).toInt ≤ 28 * x1.toInt + tri (x2.toInt + 1)) := by
  intro n
  induction n with
  | zero => intro x3 s _ _ _ _ _ hm; exact (t_m0 hm).elim
  | succ n ih =>
    intro x3 s ha hP hc hi hi8 hm
    rw [wX11_gathers_h28]
    have hR1 := RQ_A ha hR
    have hkb := (RQ_k hR1 hk hk2).2
    have htri : tri x2.toInt + (7 - x2.toInt) = tri (x2.toInt + 1) ∧ 0 ≤ tri x2.toInt ∧ tri (x2.toInt + 1) ≤ 28 := by
      rcases (by omega : x2.toInt = 0 ∨ x2.toInt = 1 ∨ x2.toInt = 2 ∨ x2.toInt = 3 ∨ x2.toInt = 4 ∨ x2.toInt = 5 ∨ x2.toInt = 6 ∨ x2.toInt = 7) with e | e | e | e | e | e | e | e <;> rw [e] <;> decide
    refine t_bind (t_ldI (n := 262) hk (by omega)) (fun t5 h5 => t_ite (fun c => ?_) (fun c => t_some ⟨ha, hP, by omega⟩))
    have hc5 := t_lt c
    rw [h5] at hc5
    obtain ⟨⟨p0, p1⟩, hq⟩ := hP
    have e3 := t_3p p0 p1
    have e1 := t_pl (x := 3 * s.1 152 33) (d := 1) (m := 1) rfl (by omega) (by omega) (by omega) (by omega)
    have e2 := t_pl (x := 3 * s.1 152 33) (d := 2) (m := 2) rfl (by omega) (by omega) (by omega) (by omega)
    refine t_bind (t_stI (B := bQ) (n := 252) (by omega) (by omega) (fun _ => rfl)) (fun s7 h7 => ?_)
    have f7 : s7.1 152 33 = s.1 152 33 := by rw [h7.2, wupI_n (by omega)]
    refine t_bind (t_stI (B := bQ) (n := 252) (by rw [f7]; omega) (by rw [f7]; omega) (fun _ => rfl)) (fun s8 h8 => ?_)
    have f8 : s8.1 152 33 = s.1 152 33 := by rw [h8.2, wupI_n (by omega), f7]
    refine t_bind (t_stI (B := bQ) (n := 252) (by rw [f8]; omega) (by rw [f8]; omega) (fun _ => rfl)) (fun s9 h9 => ?_)
    have f9 : s9.1 152 33 = s.1 152 33 := by rw [h9.2, wupI_n (by omega), f8]
    refine t_bind (t_pfI (B := bQ) rfl) (fun s10 h10 => ?_)
    have f10 : (s10.1 152 33).toInt = (s.1 152 33).toInt + 1 := by
      rw [h10.2, wup_same, f9]
      exact t_pl rfl (by omega) (by omega) (by omega) (by omega)
    have n0 : (3 * s.1 152 33).toNatClampNeg = 3 * (s.1 152 33).toNatClampNeg := by unfold Int32.toNatClampNeg; omega
    have n1 : (3 * s.1 152 33 + 1).toNatClampNeg = 3 * (s.1 152 33).toNatClampNeg + 1 := by unfold Int32.toNatClampNeg; omega
    have n2 : (3 * s.1 152 33 + 2).toNatClampNeg = 3 * (s.1 152 33).toNatClampNeg + 2 := by unfold Int32.toNatClampNeg; omega
    have g : ∀ j, s10.1 168 j = if j = 3 * (s.1 152 33).toNatClampNeg + 2 then x3 else if j = 3 * (s.1 152 33).toNatClampNeg + 1 then x2 else if j = 3 * (s.1 152 33).toNatClampNeg then x1 else s.1 168 j := by
      intro j
      rw [h10.2, wupI_n (by omega), h9.2, wupI_k, f8, n2, h8.2, wupI_k, f7, n1, h7.2, wupI_k, n0]
      rfl
    have hP2 : PV s10 := by
      refine ⟨⟨by omega, by omega⟩, fun p hp => ?_⟩
      rw [f10] at hp
      rw [g, g, g]
      by_cases ep : (p : Int) = (s.1 152 33).toInt
      · have ep2 : p = (s.1 152 33).toNatClampNeg := by unfold Int32.toNatClampNeg; omega
        rw [if_neg (by omega), if_neg (by omega), if_pos (by omega), if_neg (by omega), if_pos (by omega), if_pos (by omega)]
        exact ⟨⟨hk, hk2⟩, ⟨h2, h2b⟩, ⟨by omega, by omega⟩⟩
      · have ep2 : p < (s.1 152 33).toNatClampNeg := by unfold Int32.toNatClampNeg; omega
        rw [if_neg (by omega), if_neg (by omega), if_neg (by omega), if_neg (by omega), if_neg (by omega), if_neg (by omega), if_neg (by omega), if_neg (by omega), if_neg (by omega)]
        exact hq p (by omega)
    have hx := t_inc c
    exact ih ((((ha.trans h7.1).trans h8.1).trans h9.1).trans h10.1) hP2 (by omega) (by omega) (by omega) (t_m1 c hm)
theorem wX11_gathers_h14_T {x1 : Int32} {s0 : wS} (hR : RQ s0) (hk : 0 ≤ x1.toInt) (hk2 : x1.toInt ≤ 2) : ∀ (n : Nat) {x2 : Int32} {s : wS}, wA bQ s0 s → PV s → (s.1 152 33).toInt ≤ 28 * x1.toInt + tri x2.toInt → 0 ≤ x2.toInt → x2.toInt ≤ 8 → 2147483648 - x2.toInt < (n : Int) → Tot (wX11_gathers_h14 x1 n x2 s) (fun r => wA bQ s0 r ∧ PV r ∧ (r.1 152 33).toInt ≤ 28 * (x1.toInt + 1)) := by
  intro n
  induction n with
  | zero => intro x2 s _ _ _ _ _ hm; exact (t_m0 hm).elim
  | succ n ih =>
    intro x2 s ha hP hc hi hi8 hm
    rw [wX11_gathers_h14]
    have hR1 := RQ_A ha hR
    have hkb := (RQ_k hR1 hk hk2).2
    have htri : tri x2.toInt ≤ 28 := by
      rcases (by omega : x2.toInt = 0 ∨ x2.toInt = 1 ∨ x2.toInt = 2 ∨ x2.toInt = 3 ∨ x2.toInt = 4 ∨ x2.toInt = 5 ∨ x2.toInt = 6 ∨ x2.toInt = 7 ∨ x2.toInt = 8) with e | e | e | e | e | e | e | e | e <;> rw [e] <;> decide
    refine t_bind (t_ldI (n := 262) hk (by omega)) (fun t5 h5 => t_ite (fun c => ?_) (fun c => t_some ⟨ha, hP, by omega⟩))
    have hc5 := t_lt c
    rw [h5] at hc5
    have hx := t_inc c
    refine t_bind (wX11_gathers_h28_T hR hk hk2 hi (by omega) _ ha hP (by omega) (by omega) (by omega) t_mi) (fun s12 h12 => ?_)
    exact ih h12.1 h12.2.1 (by rw [hx]; exact h12.2.2) (by omega) (by omega) (t_m1 c hm)
theorem wX11_gathers_h7_T {s0 : wS} (hR : RQ s0) : ∀ (n : Nat) {x1 : Int32} {s : wS}, wA bQ s0 s → PV s → (s.1 152 33).toInt ≤ 28 * x1.toInt → 0 ≤ x1.toInt → 2147483648 - x1.toInt < (n : Int) → Tot (wX11_gathers_h7 n x1 s) (fun r => wA bQ s0 r ∧ PV r) := by
  intro n
  induction n with
  | zero => intro x1 s _ _ _ _ hm; exact (t_m0 hm).elim
  | succ n ih =>
    intro x1 s ha hP hc hi hm
    rw [wX11_gathers_h7]
    refine t_ite (fun c => ?_) (fun c => t_some ⟨ha, hP⟩)
    have hc5 := t_lt c
    rw [show (3 : Int32).toInt = 3 from rfl] at hc5
    have hx := t_inc c
    refine t_bind (wX11_gathers_h14_T hR hi (by omega) _ ha hP (by rw [show tri (0 : Int32).toInt = 0 from rfl]; omega) (by decide) (by decide) t_mi) (fun s12 h12 => ?_)
    exact ih h12.1 h12.2.1 (by rw [hx]; exact h12.2.2) (by omega) (t_m1 c hm)
theorem wX11_gathers_T {s : wS} (hR : RQ s) : Tot (wX11_gathers s) (fun r => wA bQ s r ∧ PV r) := by
  unfold wX11_gathers
  refine t_bind (t_pfI (B := bQ) rfl) (fun s1 h1 => ?_)
  have f : (s1.1 152 33).toInt = 0 := by rw [h1.2, wup_same]; rfl
  refine t_bind (wX11_gathers_h7_T hR _ h1.1 ⟨⟨by omega, by omega⟩, fun p hp => by omega⟩ (by rw [f]; decide) (by decide) t_mi) (fun s19 h => t_some h)
end
section
/-! The reference: its queries answer. -/
theorem t_neg1 : (-1 : Int32).toInt = -1 := rfl
theorem t_2p {x : Int32} (h : 0 ≤ x.toInt) (h2 : x.toInt ≤ 84) : (2 * x).toInt = 2 * x.toInt := by
  have e : (2 : Int32).toInt = 2 := rfl
  rw [t_mul (by rw [e]; omega) (by rw [e]; omega), e]
theorem wX11_answersBy_h4_T {x1 : Int32} {s : wS} (hR : RQ s)  : ∀ (n : Nat) {x2 : Int32} {x3 : Int32}, 0 ≤ x3.toInt → 2147483648 - x3.toInt < (n : Int) → Tot (wX11_answersBy_h4 x1 s n x2 x3) (fun (_ : Int32) => True) := by
  intro n
  induction n with
  | zero =>
    intro x2 x3 hi hm
    exact (t_m0 hm).elim
  | succ n ih =>
    intro x2 x3 hi hm
    rw [wX11_answersBy_h4]
    have hb := RQ_b hR
    refine t_ite (fun c1 => ?_) (fun c1 => ?_)
    · refine t_bind (wX11_answerOf_T (by first | decide | ((try simp only [Int32.lt_iff_toInt_lt, Int32.le_iff_toInt_le, ← Int32.toInt_inj, Int32.toInt_toInt64, t_neg1, Int32.reduceToInt, Int64.reduceToInt, Int32.reduceToNatClampNeg, true_or, or_true, true_and, and_true] at *) <;> omega) | ((try simp only [Int32.lt_iff_toInt_lt, Int32.le_iff_toInt_le, ← Int32.toInt_inj, Int32.toInt_toInt64, t_neg1, Int32.reduceToInt, Int64.reduceToInt, Int32.reduceToNatClampNeg, true_or, or_true, true_and, and_true] at *) <;> (simp (disch := ((try simp (disch := ((try simp (disch := ((try simp only [Int32.reduceToInt]) <;> omega)) only [t_add, t_sub, t_mul, Int32.reduceToInt]) <;> omega)) only [t_add, t_sub, t_mul, Int32.reduceToInt]) <;> omega)) only [t_add, t_sub, t_mul, Int32.reduceToInt]) <;> omega)) (by first | decide | ((try simp only [Int32.lt_iff_toInt_lt, Int32.le_iff_toInt_le, ← Int32.toInt_inj, Int32.toInt_toInt64, t_neg1, Int32.reduceToInt, Int64.reduceToInt, Int32.reduceToNatClampNeg, true_or, or_true, true_and, and_true] at *) <;> omega) | ((try simp only [Int32.lt_iff_toInt_lt, Int32.le_iff_toInt_le, ← Int32.toInt_inj, Int32.toInt_toInt64, t_neg1, Int32.reduceToInt, Int64.reduceToInt, Int32.reduceToNatClampNeg, true_or, or_true, true_and, and_true] at *) <;> (simp (disch := ((try simp (disch := ((try simp (disch := ((try simp only [Int32.reduceToInt]) <;> omega)) only [t_add, t_sub, t_mul, Int32.reduceToInt]) <;> omega)) only [t_add, t_sub, t_mul, Int32.reduceToInt]) <;> omega)) only [t_add, t_sub, t_mul, Int32.reduceToInt]) <;> omega)) (by first | decide | ((try simp only [Int32.lt_iff_toInt_lt, Int32.le_iff_toInt_le, ← Int32.toInt_inj, Int32.toInt_toInt64, t_neg1, Int32.reduceToInt, Int64.reduceToInt, Int32.reduceToNatClampNeg, true_or, or_true, true_and, and_true] at *) <;> omega) | ((try simp only [Int32.lt_iff_toInt_lt, Int32.le_iff_toInt_le, ← Int32.toInt_inj, Int32.toInt_toInt64, t_neg1, Int32.reduceToInt, Int64.reduceToInt, Int32.reduceToNatClampNeg, true_or, or_true, true_and, and_true] at *) <;> (simp (disch := ((try simp (disch := ((try simp (disch := ((try simp only [Int32.reduceToInt]) <;> omega)) only [t_add, t_sub, t_mul, Int32.reduceToInt]) <;> omega)) only [t_add, t_sub, t_mul, Int32.reduceToInt]) <;> omega)) only [t_add, t_sub, t_mul, Int32.reduceToInt]) <;> omega)) (by first | decide | ((try simp only [Int32.lt_iff_toInt_lt, Int32.le_iff_toInt_le, ← Int32.toInt_inj, Int32.toInt_toInt64, t_neg1, Int32.reduceToInt, Int64.reduceToInt, Int32.reduceToNatClampNeg, true_or, or_true, true_and, and_true] at *) <;> omega) | ((try simp only [Int32.lt_iff_toInt_lt, Int32.le_iff_toInt_le, ← Int32.toInt_inj, Int32.toInt_toInt64, t_neg1, Int32.reduceToInt, Int64.reduceToInt, Int32.reduceToNatClampNeg, true_or, or_true, true_and, and_true] at *) <;> (simp (disch := ((try simp (disch := ((try simp (disch := ((try simp only [Int32.reduceToInt]) <;> omega)) only [t_add, t_sub, t_mul, Int32.reduceToInt]) <;> omega)) only [t_add, t_sub, t_mul, Int32.reduceToInt]) <;> omega)) only [t_add, t_sub, t_mul, Int32.reduceToInt]) <;> omega))) (fun t3 h2 => ?_)
      refine t_ite (fun c3 => ?_) (fun c3 => ?_)
      · unfold wX11_answersBy_j30
        exact ih (t_n1 c1 hi) (t_m1 c1 hm)
      · unfold wX11_answersBy_j30
        exact ih (t_n1 c1 hi) (t_m1 c1 hm)
    · exact t_some trivial
theorem wX11_answersBy_T {x1 : Int32} {s : wS} (hR : RQ s)  : Tot (wX11_answersBy x1 s) (fun (_ : Int32) => True) := by
  unfold wX11_answersBy
  have hb := RQ_b hR
  refine t_bind (wX11_answersBy_h4_T hR _ (by decide) t_mi) (fun t7 h1 => ?_)
  exact t_some trivial
theorem wX11_isLookedAt_j29_T {s : wS}  : Tot (wX11_isLookedAt_j29 s) (fun (_ : Int32) => True) := by
  unfold wX11_isLookedAt_j29
  exact t_some trivial
theorem wX11_isLookedAt_T {x1 : Int32} {s : wS} (hR : RQ s) (ha : 0 ≤ x1.toInt) (ha2 : x1.toInt < 40) : Tot (wX11_isLookedAt x1 s) (fun (_ : Int32) => True) := by
  unfold wX11_isLookedAt
  have hb := RQ_b hR
  refine t_bind (wX11_answerOf_T (by first | decide | ((try simp only [Int32.lt_iff_toInt_lt, Int32.le_iff_toInt_le, ← Int32.toInt_inj, Int32.toInt_toInt64, t_neg1, Int32.reduceToInt, Int64.reduceToInt, Int32.reduceToNatClampNeg, true_or, or_true, true_and, and_true] at *) <;> omega) | ((try simp only [Int32.lt_iff_toInt_lt, Int32.le_iff_toInt_le, ← Int32.toInt_inj, Int32.toInt_toInt64, t_neg1, Int32.reduceToInt, Int64.reduceToInt, Int32.reduceToNatClampNeg, true_or, or_true, true_and, and_true] at *) <;> (simp (disch := ((try simp (disch := ((try simp (disch := ((try simp only [Int32.reduceToInt]) <;> omega)) only [t_add, t_sub, t_mul, Int32.reduceToInt]) <;> omega)) only [t_add, t_sub, t_mul, Int32.reduceToInt]) <;> omega)) only [t_add, t_sub, t_mul, Int32.reduceToInt]) <;> omega)) (by first | decide | ((try simp only [Int32.lt_iff_toInt_lt, Int32.le_iff_toInt_le, ← Int32.toInt_inj, Int32.toInt_toInt64, t_neg1, Int32.reduceToInt, Int64.reduceToInt, Int32.reduceToNatClampNeg, true_or, or_true, true_and, and_true] at *) <;> omega) | ((try simp only [Int32.lt_iff_toInt_lt, Int32.le_iff_toInt_le, ← Int32.toInt_inj, Int32.toInt_toInt64, t_neg1, Int32.reduceToInt, Int64.reduceToInt, Int32.reduceToNatClampNeg, true_or, or_true, true_and, and_true] at *) <;> (simp (disch := ((try simp (disch := ((try simp (disch := ((try simp only [Int32.reduceToInt]) <;> omega)) only [t_add, t_sub, t_mul, Int32.reduceToInt]) <;> omega)) only [t_add, t_sub, t_mul, Int32.reduceToInt]) <;> omega)) only [t_add, t_sub, t_mul, Int32.reduceToInt]) <;> omega)) (by first | decide | ((try simp only [Int32.lt_iff_toInt_lt, Int32.le_iff_toInt_le, ← Int32.toInt_inj, Int32.toInt_toInt64, t_neg1, Int32.reduceToInt, Int64.reduceToInt, Int32.reduceToNatClampNeg, true_or, or_true, true_and, and_true] at *) <;> omega) | ((try simp only [Int32.lt_iff_toInt_lt, Int32.le_iff_toInt_le, ← Int32.toInt_inj, Int32.toInt_toInt64, t_neg1, Int32.reduceToInt, Int64.reduceToInt, Int32.reduceToNatClampNeg, true_or, or_true, true_and, and_true] at *) <;> (simp (disch := ((try simp (disch := ((try simp (disch := ((try simp only [Int32.reduceToInt]) <;> omega)) only [t_add, t_sub, t_mul, Int32.reduceToInt]) <;> omega)) only [t_add, t_sub, t_mul, Int32.reduceToInt]) <;> omega)) only [t_add, t_sub, t_mul, Int32.reduceToInt]) <;> omega)) (by first | decide | ((try simp only [Int32.lt_iff_toInt_lt, Int32.le_iff_toInt_le, ← Int32.toInt_inj, Int32.toInt_toInt64, t_neg1, Int32.reduceToInt, Int64.reduceToInt, Int32.reduceToNatClampNeg, true_or, or_true, true_and, and_true] at *) <;> omega) | ((try simp only [Int32.lt_iff_toInt_lt, Int32.le_iff_toInt_le, ← Int32.toInt_inj, Int32.toInt_toInt64, t_neg1, Int32.reduceToInt, Int64.reduceToInt, Int32.reduceToNatClampNeg, true_or, or_true, true_and, and_true] at *) <;> (simp (disch := ((try simp (disch := ((try simp (disch := ((try simp only [Int32.reduceToInt]) <;> omega)) only [t_add, t_sub, t_mul, Int32.reduceToInt]) <;> omega)) only [t_add, t_sub, t_mul, Int32.reduceToInt]) <;> omega)) only [t_add, t_sub, t_mul, Int32.reduceToInt]) <;> omega))) (fun t1 h1 => ?_)
  refine t_ite (fun c2 => ?_) (fun c2 => ?_)
  · refine t_ite (fun c3 => ?_) (fun c3 => ?_)
    · exact t_mono (wX11_isLookedAt_j29_T) (fun _ _ => trivial)
    · refine t_ite (fun c4 => ?_) (fun c4 => ?_)
      · exact t_mono (wX11_isLookedAt_j29_T) (fun _ _ => trivial)
      · exact t_some trivial
  · exact t_some trivial
theorem wX11_wrongIn_h5_T {x1 : Int32} {x2 : Int32} {s : wS} (hR : RQ s) (hw : 0 ≤ x1.toInt) (hw2 : x1.toInt < (wW s).toInt) : ∀ (n : Nat) {x3 : Int32} {x4 : Int32}, 0 ≤ x4.toInt → 2147483648 - x4.toInt < (n : Int) → Tot (wX11_wrongIn_h5 x1 x2 s n x3 x4) (fun (_ : Int32) => True) := by
  intro n
  induction n with
  | zero =>
    intro x3 x4 hi hm
    exact (t_m0 hm).elim
  | succ n ih =>
    intro x3 x4 hi hm
    rw [wX11_wrongIn_h5]
    have hb := RQ_b hR
    refine t_ite (fun c1 => ?_) (fun c1 => ?_)
    · refine t_ite (fun c2 => ?_) (fun c2 => ?_)
      · unfold wX11_wrongIn_j46
        unfold wX11_wrongIn_j47
        exact ih (t_n1 c1 hi) (t_m1 c1 hm)
      · refine t_bind (wX11_isLookedAt_T hR (by first | decide | ((try simp only [Int32.lt_iff_toInt_lt, Int32.le_iff_toInt_le, ← Int32.toInt_inj, Int32.toInt_toInt64, t_neg1, Int32.reduceToInt, Int64.reduceToInt, Int32.reduceToNatClampNeg, true_or, or_true, true_and, and_true] at *) <;> omega) | ((try simp only [Int32.lt_iff_toInt_lt, Int32.le_iff_toInt_le, ← Int32.toInt_inj, Int32.toInt_toInt64, t_neg1, Int32.reduceToInt, Int64.reduceToInt, Int32.reduceToNatClampNeg, true_or, or_true, true_and, and_true] at *) <;> (simp (disch := ((try simp (disch := ((try simp (disch := ((try simp only [Int32.reduceToInt]) <;> omega)) only [t_add, t_sub, t_mul, Int32.reduceToInt]) <;> omega)) only [t_add, t_sub, t_mul, Int32.reduceToInt]) <;> omega)) only [t_add, t_sub, t_mul, Int32.reduceToInt]) <;> omega)) (by first | decide | ((try simp only [Int32.lt_iff_toInt_lt, Int32.le_iff_toInt_le, ← Int32.toInt_inj, Int32.toInt_toInt64, t_neg1, Int32.reduceToInt, Int64.reduceToInt, Int32.reduceToNatClampNeg, true_or, or_true, true_and, and_true] at *) <;> omega) | ((try simp only [Int32.lt_iff_toInt_lt, Int32.le_iff_toInt_le, ← Int32.toInt_inj, Int32.toInt_toInt64, t_neg1, Int32.reduceToInt, Int64.reduceToInt, Int32.reduceToNatClampNeg, true_or, or_true, true_and, and_true] at *) <;> (simp (disch := ((try simp (disch := ((try simp (disch := ((try simp only [Int32.reduceToInt]) <;> omega)) only [t_add, t_sub, t_mul, Int32.reduceToInt]) <;> omega)) only [t_add, t_sub, t_mul, Int32.reduceToInt]) <;> omega)) only [t_add, t_sub, t_mul, Int32.reduceToInt]) <;> omega))) (fun t4 h3 => ?_)
        refine t_ite (fun c4 => ?_) (fun c4 => ?_)
        · unfold wX11_wrongIn_j46
          unfold wX11_wrongIn_j47
          exact ih (t_n1 c1 hi) (t_m1 c1 hm)
        · refine t_bind (wX11_isTrue_T hR (by first | decide | ((try simp only [Int32.lt_iff_toInt_lt, Int32.le_iff_toInt_le, ← Int32.toInt_inj, Int32.toInt_toInt64, t_neg1, Int32.reduceToInt, Int64.reduceToInt, Int32.reduceToNatClampNeg, true_or, or_true, true_and, and_true] at *) <;> omega) | ((try simp only [Int32.lt_iff_toInt_lt, Int32.le_iff_toInt_le, ← Int32.toInt_inj, Int32.toInt_toInt64, t_neg1, Int32.reduceToInt, Int64.reduceToInt, Int32.reduceToNatClampNeg, true_or, or_true, true_and, and_true] at *) <;> (simp (disch := ((try simp (disch := ((try simp (disch := ((try simp only [Int32.reduceToInt]) <;> omega)) only [t_add, t_sub, t_mul, Int32.reduceToInt]) <;> omega)) only [t_add, t_sub, t_mul, Int32.reduceToInt]) <;> omega)) only [t_add, t_sub, t_mul, Int32.reduceToInt]) <;> omega)) (by first | decide | ((try simp only [Int32.lt_iff_toInt_lt, Int32.le_iff_toInt_le, ← Int32.toInt_inj, Int32.toInt_toInt64, t_neg1, Int32.reduceToInt, Int64.reduceToInt, Int32.reduceToNatClampNeg, true_or, or_true, true_and, and_true] at *) <;> omega) | ((try simp only [Int32.lt_iff_toInt_lt, Int32.le_iff_toInt_le, ← Int32.toInt_inj, Int32.toInt_toInt64, t_neg1, Int32.reduceToInt, Int64.reduceToInt, Int32.reduceToNatClampNeg, true_or, or_true, true_and, and_true] at *) <;> (simp (disch := ((try simp (disch := ((try simp (disch := ((try simp only [Int32.reduceToInt]) <;> omega)) only [t_add, t_sub, t_mul, Int32.reduceToInt]) <;> omega)) only [t_add, t_sub, t_mul, Int32.reduceToInt]) <;> omega)) only [t_add, t_sub, t_mul, Int32.reduceToInt]) <;> omega)) (by first | decide | ((try simp only [Int32.lt_iff_toInt_lt, Int32.le_iff_toInt_le, ← Int32.toInt_inj, Int32.toInt_toInt64, t_neg1, Int32.reduceToInt, Int64.reduceToInt, Int32.reduceToNatClampNeg, true_or, or_true, true_and, and_true] at *) <;> omega) | ((try simp only [Int32.lt_iff_toInt_lt, Int32.le_iff_toInt_le, ← Int32.toInt_inj, Int32.toInt_toInt64, t_neg1, Int32.reduceToInt, Int64.reduceToInt, Int32.reduceToNatClampNeg, true_or, or_true, true_and, and_true] at *) <;> (simp (disch := ((try simp (disch := ((try simp (disch := ((try simp only [Int32.reduceToInt]) <;> omega)) only [t_add, t_sub, t_mul, Int32.reduceToInt]) <;> omega)) only [t_add, t_sub, t_mul, Int32.reduceToInt]) <;> omega)) only [t_add, t_sub, t_mul, Int32.reduceToInt]) <;> omega)) (by first | decide | ((try simp only [Int32.lt_iff_toInt_lt, Int32.le_iff_toInt_le, ← Int32.toInt_inj, Int32.toInt_toInt64, t_neg1, Int32.reduceToInt, Int64.reduceToInt, Int32.reduceToNatClampNeg, true_or, or_true, true_and, and_true] at *) <;> omega) | ((try simp only [Int32.lt_iff_toInt_lt, Int32.le_iff_toInt_le, ← Int32.toInt_inj, Int32.toInt_toInt64, t_neg1, Int32.reduceToInt, Int64.reduceToInt, Int32.reduceToNatClampNeg, true_or, or_true, true_and, and_true] at *) <;> (simp (disch := ((try simp (disch := ((try simp (disch := ((try simp only [Int32.reduceToInt]) <;> omega)) only [t_add, t_sub, t_mul, Int32.reduceToInt]) <;> omega)) only [t_add, t_sub, t_mul, Int32.reduceToInt]) <;> omega)) only [t_add, t_sub, t_mul, Int32.reduceToInt]) <;> omega))) (fun t7 h5 => ?_)
          refine t_ite (fun c6 => ?_) (fun c6 => ?_)
          · unfold wX11_wrongIn_j47
            exact ih (t_n1 c1 hi) (t_m1 c1 hm)
          · unfold wX11_wrongIn_j46
            unfold wX11_wrongIn_j47
            exact ih (t_n1 c1 hi) (t_m1 c1 hm)
    · exact t_some trivial
theorem wX11_wrongIn_T {x1 : Int32} {x2 : Int32} {s : wS} (hR : RQ s) (hw : 0 ≤ x1.toInt) (hw2 : x1.toInt < (wW s).toInt) : Tot (wX11_wrongIn x1 x2 s) (fun (_ : Int32) => True) := by
  unfold wX11_wrongIn
  have hb := RQ_b hR
  refine t_bind (wX11_wrongIn_h5_T hR (by first | decide | ((try simp only [Int32.lt_iff_toInt_lt, Int32.le_iff_toInt_le, ← Int32.toInt_inj, Int32.toInt_toInt64, t_neg1, Int32.reduceToInt, Int64.reduceToInt, Int32.reduceToNatClampNeg, true_or, or_true, true_and, and_true] at *) <;> omega) | ((try simp only [Int32.lt_iff_toInt_lt, Int32.le_iff_toInt_le, ← Int32.toInt_inj, Int32.toInt_toInt64, t_neg1, Int32.reduceToInt, Int64.reduceToInt, Int32.reduceToNatClampNeg, true_or, or_true, true_and, and_true] at *) <;> (simp (disch := ((try simp (disch := ((try simp (disch := ((try simp only [Int32.reduceToInt]) <;> omega)) only [t_add, t_sub, t_mul, Int32.reduceToInt]) <;> omega)) only [t_add, t_sub, t_mul, Int32.reduceToInt]) <;> omega)) only [t_add, t_sub, t_mul, Int32.reduceToInt]) <;> omega)) (by first | decide | ((try simp only [Int32.lt_iff_toInt_lt, Int32.le_iff_toInt_le, ← Int32.toInt_inj, Int32.toInt_toInt64, t_neg1, Int32.reduceToInt, Int64.reduceToInt, Int32.reduceToNatClampNeg, true_or, or_true, true_and, and_true] at *) <;> omega) | ((try simp only [Int32.lt_iff_toInt_lt, Int32.le_iff_toInt_le, ← Int32.toInt_inj, Int32.toInt_toInt64, t_neg1, Int32.reduceToInt, Int64.reduceToInt, Int32.reduceToNatClampNeg, true_or, or_true, true_and, and_true] at *) <;> (simp (disch := ((try simp (disch := ((try simp (disch := ((try simp only [Int32.reduceToInt]) <;> omega)) only [t_add, t_sub, t_mul, Int32.reduceToInt]) <;> omega)) only [t_add, t_sub, t_mul, Int32.reduceToInt]) <;> omega)) only [t_add, t_sub, t_mul, Int32.reduceToInt]) <;> omega)) _ (by decide) t_mi) (fun t11 h1 => ?_)
  exact t_some trivial
theorem wX11_keeps_h11_T {x2 : Int32} {x3 : Int32} {s0 : wS} (hR : RQ s0)  : ∀ (n : Nat) {x4 : Int32} {x5 : Int32} {s : wS}, wA bP s0 s → 0 ≤ x5.toInt → 0 ≤ x4.toInt → x4.toInt ≤ x5.toInt → x5.toInt ≤ 512 → 2147483648 - x5.toInt < (n : Int) → Tot (wX11_keeps_h11 x2 x3 n x4 x5 s) (fun (r : Int32 × wS) => wA bP s0 r.2 ∧ 0 ≤ r.1.toInt ∧ r.1.toInt ≤ 512) := by
  intro n
  induction n with
  | zero =>
    intro x4 x5 s ha hi hn hn2 hx5 hm
    exact (t_m0 hm).elim
  | succ n ih =>
    intro x4 x5 s ha hi hn hn2 hx5 hm
    rw [wX11_keeps_h11]
    have hb := RQ_b hR
    have q1 := sameP ha
    have w1 := wW_same q1.1
    have R1 := RQ_P ha hR
    have p1 := ha 152 33 rfl
    refine t_bind (wX11_worlds_T) (fun t4 h2 => ?_)
    refine t_ite (fun c3 => ?_) (fun c3 => ?_)
    · refine t_bind (wX11_wrongIn_T R1 (by first | decide | ((try simp only [q1.1, q1.2.2.2.2, w1, p1, Int32.lt_iff_toInt_lt, Int32.le_iff_toInt_le, ← Int32.toInt_inj, Int32.toInt_toInt64, t_neg1, Int32.reduceToInt, Int64.reduceToInt, Int32.reduceToNatClampNeg, true_or, or_true, true_and, and_true] at *) <;> omega) | ((try simp only [q1.1, q1.2.2.2.2, w1, p1, Int32.lt_iff_toInt_lt, Int32.le_iff_toInt_le, ← Int32.toInt_inj, Int32.toInt_toInt64, t_neg1, Int32.reduceToInt, Int64.reduceToInt, Int32.reduceToNatClampNeg, true_or, or_true, true_and, and_true] at *) <;> (simp (disch := ((try simp (disch := ((try simp (disch := ((try simp only [Int32.reduceToInt]) <;> omega)) only [t_add, t_sub, t_mul, Int32.reduceToInt]) <;> omega)) only [t_add, t_sub, t_mul, Int32.reduceToInt]) <;> omega)) only [t_add, t_sub, t_mul, Int32.reduceToInt]) <;> omega)) (by first | decide | ((try simp only [q1.1, q1.2.2.2.2, w1, p1, Int32.lt_iff_toInt_lt, Int32.le_iff_toInt_le, ← Int32.toInt_inj, Int32.toInt_toInt64, t_neg1, Int32.reduceToInt, Int64.reduceToInt, Int32.reduceToNatClampNeg, true_or, or_true, true_and, and_true] at *) <;> omega) | ((try simp only [q1.1, q1.2.2.2.2, w1, p1, Int32.lt_iff_toInt_lt, Int32.le_iff_toInt_le, ← Int32.toInt_inj, Int32.toInt_toInt64, t_neg1, Int32.reduceToInt, Int64.reduceToInt, Int32.reduceToNatClampNeg, true_or, or_true, true_and, and_true] at *) <;> (simp (disch := ((try simp (disch := ((try simp (disch := ((try simp only [Int32.reduceToInt]) <;> omega)) only [t_add, t_sub, t_mul, Int32.reduceToInt]) <;> omega)) only [t_add, t_sub, t_mul, Int32.reduceToInt]) <;> omega)) only [t_add, t_sub, t_mul, Int32.reduceToInt]) <;> omega))) (fun t7 h4 => ?_)
      refine t_ite (fun c5 => ?_) (fun c5 => ?_)
      · unfold wX11_keeps_j42
        refine t_bind (t_stZ (B := bP) (n := 512) (by first | decide | ((try simp only [q1.1, q1.2.2.2.2, w1, p1, Int32.lt_iff_toInt_lt, Int32.le_iff_toInt_le, ← Int32.toInt_inj, Int32.toInt_toInt64, t_neg1, Int32.reduceToInt, Int64.reduceToInt, Int32.reduceToNatClampNeg, true_or, or_true, true_and, and_true] at *) <;> omega) | ((try simp only [q1.1, q1.2.2.2.2, w1, p1, Int32.lt_iff_toInt_lt, Int32.le_iff_toInt_le, ← Int32.toInt_inj, Int32.toInt_toInt64, t_neg1, Int32.reduceToInt, Int64.reduceToInt, Int32.reduceToNatClampNeg, true_or, or_true, true_and, and_true] at *) <;> (simp (disch := ((try simp (disch := ((try simp (disch := ((try simp only [Int32.reduceToInt]) <;> omega)) only [t_add, t_sub, t_mul, Int32.reduceToInt]) <;> omega)) only [t_add, t_sub, t_mul, Int32.reduceToInt]) <;> omega)) only [t_add, t_sub, t_mul, Int32.reduceToInt]) <;> omega)) (by first | decide | ((try simp only [q1.1, q1.2.2.2.2, w1, p1, Int32.lt_iff_toInt_lt, Int32.le_iff_toInt_le, ← Int32.toInt_inj, Int32.toInt_toInt64, t_neg1, Int32.reduceToInt, Int64.reduceToInt, Int32.reduceToNatClampNeg, true_or, or_true, true_and, and_true] at *) <;> omega) | ((try simp only [q1.1, q1.2.2.2.2, w1, p1, Int32.lt_iff_toInt_lt, Int32.le_iff_toInt_le, ← Int32.toInt_inj, Int32.toInt_toInt64, t_neg1, Int32.reduceToInt, Int64.reduceToInt, Int32.reduceToNatClampNeg, true_or, or_true, true_and, and_true] at *) <;> (simp (disch := ((try simp (disch := ((try simp (disch := ((try simp only [Int32.reduceToInt]) <;> omega)) only [t_add, t_sub, t_mul, Int32.reduceToInt]) <;> omega)) only [t_add, t_sub, t_mul, Int32.reduceToInt]) <;> omega)) only [t_add, t_sub, t_mul, Int32.reduceToInt]) <;> omega)) (fun _ => rfl)) (fun s10 h6 => ?_)
        have a7 : wA bP s0 s10 := ha.trans h6.1
        have q8 := sameP a7
        have w8 := wW_same q8.1
        have R8 := RQ_P a7 hR
        have p8 := a7 152 33 rfl
        refine t_bind (t_ldI (n := 512) (by first | decide | ((try simp only [q1.1, q1.2.2.2.2, w1, p1, q8.1, q8.2.2.2.2, w8, p8, Int32.lt_iff_toInt_lt, Int32.le_iff_toInt_le, ← Int32.toInt_inj, Int32.toInt_toInt64, t_neg1, Int32.reduceToInt, Int64.reduceToInt, Int32.reduceToNatClampNeg, true_or, or_true, true_and, and_true] at *) <;> omega) | ((try simp only [q1.1, q1.2.2.2.2, w1, p1, q8.1, q8.2.2.2.2, w8, p8, Int32.lt_iff_toInt_lt, Int32.le_iff_toInt_le, ← Int32.toInt_inj, Int32.toInt_toInt64, t_neg1, Int32.reduceToInt, Int64.reduceToInt, Int32.reduceToNatClampNeg, true_or, or_true, true_and, and_true] at *) <;> (simp (disch := ((try simp (disch := ((try simp (disch := ((try simp only [Int32.reduceToInt]) <;> omega)) only [t_add, t_sub, t_mul, Int32.reduceToInt]) <;> omega)) only [t_add, t_sub, t_mul, Int32.reduceToInt]) <;> omega)) only [t_add, t_sub, t_mul, Int32.reduceToInt]) <;> omega)) (by first | decide | ((try simp only [q1.1, q1.2.2.2.2, w1, p1, q8.1, q8.2.2.2.2, w8, p8, Int32.lt_iff_toInt_lt, Int32.le_iff_toInt_le, ← Int32.toInt_inj, Int32.toInt_toInt64, t_neg1, Int32.reduceToInt, Int64.reduceToInt, Int32.reduceToNatClampNeg, true_or, or_true, true_and, and_true] at *) <;> omega) | ((try simp only [q1.1, q1.2.2.2.2, w1, p1, q8.1, q8.2.2.2.2, w8, p8, Int32.lt_iff_toInt_lt, Int32.le_iff_toInt_le, ← Int32.toInt_inj, Int32.toInt_toInt64, t_neg1, Int32.reduceToInt, Int64.reduceToInt, Int32.reduceToNatClampNeg, true_or, or_true, true_and, and_true] at *) <;> (simp (disch := ((try simp (disch := ((try simp (disch := ((try simp only [Int32.reduceToInt]) <;> omega)) only [t_add, t_sub, t_mul, Int32.reduceToInt]) <;> omega)) only [t_add, t_sub, t_mul, Int32.reduceToInt]) <;> omega)) only [t_add, t_sub, t_mul, Int32.reduceToInt]) <;> omega))) (fun t11 h9 => ?_)
        refine t_ite (fun c10 => ?_) (fun c10 => ?_)
        · unfold wX11_keeps_j60
          exact ih a7 (t_n1 c3 hi) (by first | decide | ((try simp only [q1.1, q1.2.2.2.2, w1, p1, q8.1, q8.2.2.2.2, w8, p8, Int32.lt_iff_toInt_lt, Int32.le_iff_toInt_le, ← Int32.toInt_inj, Int32.toInt_toInt64, t_neg1, Int32.reduceToInt, Int64.reduceToInt, Int32.reduceToNatClampNeg, true_or, or_true, true_and, and_true] at *) <;> omega) | ((try simp only [q1.1, q1.2.2.2.2, w1, p1, q8.1, q8.2.2.2.2, w8, p8, Int32.lt_iff_toInt_lt, Int32.le_iff_toInt_le, ← Int32.toInt_inj, Int32.toInt_toInt64, t_neg1, Int32.reduceToInt, Int64.reduceToInt, Int32.reduceToNatClampNeg, true_or, or_true, true_and, and_true] at *) <;> (simp (disch := ((try simp (disch := ((try simp (disch := ((try simp only [Int32.reduceToInt]) <;> omega)) only [t_add, t_sub, t_mul, Int32.reduceToInt]) <;> omega)) only [t_add, t_sub, t_mul, Int32.reduceToInt]) <;> omega)) only [t_add, t_sub, t_mul, Int32.reduceToInt]) <;> omega)) (by first | decide | ((try simp only [q1.1, q1.2.2.2.2, w1, p1, q8.1, q8.2.2.2.2, w8, p8, Int32.lt_iff_toInt_lt, Int32.le_iff_toInt_le, ← Int32.toInt_inj, Int32.toInt_toInt64, t_neg1, Int32.reduceToInt, Int64.reduceToInt, Int32.reduceToNatClampNeg, true_or, or_true, true_and, and_true] at *) <;> omega) | ((try simp only [q1.1, q1.2.2.2.2, w1, p1, q8.1, q8.2.2.2.2, w8, p8, Int32.lt_iff_toInt_lt, Int32.le_iff_toInt_le, ← Int32.toInt_inj, Int32.toInt_toInt64, t_neg1, Int32.reduceToInt, Int64.reduceToInt, Int32.reduceToNatClampNeg, true_or, or_true, true_and, and_true] at *) <;> (simp (disch := ((try simp (disch := ((try simp (disch := ((try simp only [Int32.reduceToInt]) <;> omega)) only [t_add, t_sub, t_mul, Int32.reduceToInt]) <;> omega)) only [t_add, t_sub, t_mul, Int32.reduceToInt]) <;> omega)) only [t_add, t_sub, t_mul, Int32.reduceToInt]) <;> omega)) (by first | decide | ((try simp only [q1.1, q1.2.2.2.2, w1, p1, q8.1, q8.2.2.2.2, w8, p8, Int32.lt_iff_toInt_lt, Int32.le_iff_toInt_le, ← Int32.toInt_inj, Int32.toInt_toInt64, t_neg1, Int32.reduceToInt, Int64.reduceToInt, Int32.reduceToNatClampNeg, true_or, or_true, true_and, and_true] at *) <;> omega) | ((try simp only [q1.1, q1.2.2.2.2, w1, p1, q8.1, q8.2.2.2.2, w8, p8, Int32.lt_iff_toInt_lt, Int32.le_iff_toInt_le, ← Int32.toInt_inj, Int32.toInt_toInt64, t_neg1, Int32.reduceToInt, Int64.reduceToInt, Int32.reduceToNatClampNeg, true_or, or_true, true_and, and_true] at *) <;> (simp (disch := ((try simp (disch := ((try simp (disch := ((try simp only [Int32.reduceToInt]) <;> omega)) only [t_add, t_sub, t_mul, Int32.reduceToInt]) <;> omega)) only [t_add, t_sub, t_mul, Int32.reduceToInt]) <;> omega)) only [t_add, t_sub, t_mul, Int32.reduceToInt]) <;> omega)) (t_m1 c3 hm)
        · unfold wX11_keeps_j60
          exact ih a7 (t_n1 c3 hi) (by first | decide | ((try simp only [q1.1, q1.2.2.2.2, w1, p1, q8.1, q8.2.2.2.2, w8, p8, Int32.lt_iff_toInt_lt, Int32.le_iff_toInt_le, ← Int32.toInt_inj, Int32.toInt_toInt64, t_neg1, Int32.reduceToInt, Int64.reduceToInt, Int32.reduceToNatClampNeg, true_or, or_true, true_and, and_true] at *) <;> omega) | ((try simp only [q1.1, q1.2.2.2.2, w1, p1, q8.1, q8.2.2.2.2, w8, p8, Int32.lt_iff_toInt_lt, Int32.le_iff_toInt_le, ← Int32.toInt_inj, Int32.toInt_toInt64, t_neg1, Int32.reduceToInt, Int64.reduceToInt, Int32.reduceToNatClampNeg, true_or, or_true, true_and, and_true] at *) <;> (simp (disch := ((try simp (disch := ((try simp (disch := ((try simp only [Int32.reduceToInt]) <;> omega)) only [t_add, t_sub, t_mul, Int32.reduceToInt]) <;> omega)) only [t_add, t_sub, t_mul, Int32.reduceToInt]) <;> omega)) only [t_add, t_sub, t_mul, Int32.reduceToInt]) <;> omega)) (by first | decide | ((try simp only [q1.1, q1.2.2.2.2, w1, p1, q8.1, q8.2.2.2.2, w8, p8, Int32.lt_iff_toInt_lt, Int32.le_iff_toInt_le, ← Int32.toInt_inj, Int32.toInt_toInt64, t_neg1, Int32.reduceToInt, Int64.reduceToInt, Int32.reduceToNatClampNeg, true_or, or_true, true_and, and_true] at *) <;> omega) | ((try simp only [q1.1, q1.2.2.2.2, w1, p1, q8.1, q8.2.2.2.2, w8, p8, Int32.lt_iff_toInt_lt, Int32.le_iff_toInt_le, ← Int32.toInt_inj, Int32.toInt_toInt64, t_neg1, Int32.reduceToInt, Int64.reduceToInt, Int32.reduceToNatClampNeg, true_or, or_true, true_and, and_true] at *) <;> (simp (disch := ((try simp (disch := ((try simp (disch := ((try simp only [Int32.reduceToInt]) <;> omega)) only [t_add, t_sub, t_mul, Int32.reduceToInt]) <;> omega)) only [t_add, t_sub, t_mul, Int32.reduceToInt]) <;> omega)) only [t_add, t_sub, t_mul, Int32.reduceToInt]) <;> omega)) (by first | decide | ((try simp only [q1.1, q1.2.2.2.2, w1, p1, q8.1, q8.2.2.2.2, w8, p8, Int32.lt_iff_toInt_lt, Int32.le_iff_toInt_le, ← Int32.toInt_inj, Int32.toInt_toInt64, t_neg1, Int32.reduceToInt, Int64.reduceToInt, Int32.reduceToNatClampNeg, true_or, or_true, true_and, and_true] at *) <;> omega) | ((try simp only [q1.1, q1.2.2.2.2, w1, p1, q8.1, q8.2.2.2.2, w8, p8, Int32.lt_iff_toInt_lt, Int32.le_iff_toInt_le, ← Int32.toInt_inj, Int32.toInt_toInt64, t_neg1, Int32.reduceToInt, Int64.reduceToInt, Int32.reduceToNatClampNeg, true_or, or_true, true_and, and_true] at *) <;> (simp (disch := ((try simp (disch := ((try simp (disch := ((try simp only [Int32.reduceToInt]) <;> omega)) only [t_add, t_sub, t_mul, Int32.reduceToInt]) <;> omega)) only [t_add, t_sub, t_mul, Int32.reduceToInt]) <;> omega)) only [t_add, t_sub, t_mul, Int32.reduceToInt]) <;> omega)) (t_m1 c3 hm)
      · unfold wX11_keeps_j42
        refine t_bind (t_stZ (B := bP) (n := 512) (by first | decide | ((try simp only [q1.1, q1.2.2.2.2, w1, p1, Int32.lt_iff_toInt_lt, Int32.le_iff_toInt_le, ← Int32.toInt_inj, Int32.toInt_toInt64, t_neg1, Int32.reduceToInt, Int64.reduceToInt, Int32.reduceToNatClampNeg, true_or, or_true, true_and, and_true] at *) <;> omega) | ((try simp only [q1.1, q1.2.2.2.2, w1, p1, Int32.lt_iff_toInt_lt, Int32.le_iff_toInt_le, ← Int32.toInt_inj, Int32.toInt_toInt64, t_neg1, Int32.reduceToInt, Int64.reduceToInt, Int32.reduceToNatClampNeg, true_or, or_true, true_and, and_true] at *) <;> (simp (disch := ((try simp (disch := ((try simp (disch := ((try simp only [Int32.reduceToInt]) <;> omega)) only [t_add, t_sub, t_mul, Int32.reduceToInt]) <;> omega)) only [t_add, t_sub, t_mul, Int32.reduceToInt]) <;> omega)) only [t_add, t_sub, t_mul, Int32.reduceToInt]) <;> omega)) (by first | decide | ((try simp only [q1.1, q1.2.2.2.2, w1, p1, Int32.lt_iff_toInt_lt, Int32.le_iff_toInt_le, ← Int32.toInt_inj, Int32.toInt_toInt64, t_neg1, Int32.reduceToInt, Int64.reduceToInt, Int32.reduceToNatClampNeg, true_or, or_true, true_and, and_true] at *) <;> omega) | ((try simp only [q1.1, q1.2.2.2.2, w1, p1, Int32.lt_iff_toInt_lt, Int32.le_iff_toInt_le, ← Int32.toInt_inj, Int32.toInt_toInt64, t_neg1, Int32.reduceToInt, Int64.reduceToInt, Int32.reduceToNatClampNeg, true_or, or_true, true_and, and_true] at *) <;> (simp (disch := ((try simp (disch := ((try simp (disch := ((try simp only [Int32.reduceToInt]) <;> omega)) only [t_add, t_sub, t_mul, Int32.reduceToInt]) <;> omega)) only [t_add, t_sub, t_mul, Int32.reduceToInt]) <;> omega)) only [t_add, t_sub, t_mul, Int32.reduceToInt]) <;> omega)) (fun _ => rfl)) (fun s10 h11 => ?_)
        have a12 : wA bP s0 s10 := ha.trans h11.1
        have q13 := sameP a12
        have w13 := wW_same q13.1
        have R13 := RQ_P a12 hR
        have p13 := a12 152 33 rfl
        refine t_bind (t_ldI (n := 512) (by first | decide | ((try simp only [q1.1, q1.2.2.2.2, w1, p1, q13.1, q13.2.2.2.2, w13, p13, Int32.lt_iff_toInt_lt, Int32.le_iff_toInt_le, ← Int32.toInt_inj, Int32.toInt_toInt64, t_neg1, Int32.reduceToInt, Int64.reduceToInt, Int32.reduceToNatClampNeg, true_or, or_true, true_and, and_true] at *) <;> omega) | ((try simp only [q1.1, q1.2.2.2.2, w1, p1, q13.1, q13.2.2.2.2, w13, p13, Int32.lt_iff_toInt_lt, Int32.le_iff_toInt_le, ← Int32.toInt_inj, Int32.toInt_toInt64, t_neg1, Int32.reduceToInt, Int64.reduceToInt, Int32.reduceToNatClampNeg, true_or, or_true, true_and, and_true] at *) <;> (simp (disch := ((try simp (disch := ((try simp (disch := ((try simp only [Int32.reduceToInt]) <;> omega)) only [t_add, t_sub, t_mul, Int32.reduceToInt]) <;> omega)) only [t_add, t_sub, t_mul, Int32.reduceToInt]) <;> omega)) only [t_add, t_sub, t_mul, Int32.reduceToInt]) <;> omega)) (by first | decide | ((try simp only [q1.1, q1.2.2.2.2, w1, p1, q13.1, q13.2.2.2.2, w13, p13, Int32.lt_iff_toInt_lt, Int32.le_iff_toInt_le, ← Int32.toInt_inj, Int32.toInt_toInt64, t_neg1, Int32.reduceToInt, Int64.reduceToInt, Int32.reduceToNatClampNeg, true_or, or_true, true_and, and_true] at *) <;> omega) | ((try simp only [q1.1, q1.2.2.2.2, w1, p1, q13.1, q13.2.2.2.2, w13, p13, Int32.lt_iff_toInt_lt, Int32.le_iff_toInt_le, ← Int32.toInt_inj, Int32.toInt_toInt64, t_neg1, Int32.reduceToInt, Int64.reduceToInt, Int32.reduceToNatClampNeg, true_or, or_true, true_and, and_true] at *) <;> (simp (disch := ((try simp (disch := ((try simp (disch := ((try simp only [Int32.reduceToInt]) <;> omega)) only [t_add, t_sub, t_mul, Int32.reduceToInt]) <;> omega)) only [t_add, t_sub, t_mul, Int32.reduceToInt]) <;> omega)) only [t_add, t_sub, t_mul, Int32.reduceToInt]) <;> omega))) (fun t11 h14 => ?_)
        refine t_ite (fun c15 => ?_) (fun c15 => ?_)
        · unfold wX11_keeps_j60
          exact ih a12 (t_n1 c3 hi) (by first | decide | ((try simp only [q1.1, q1.2.2.2.2, w1, p1, q13.1, q13.2.2.2.2, w13, p13, Int32.lt_iff_toInt_lt, Int32.le_iff_toInt_le, ← Int32.toInt_inj, Int32.toInt_toInt64, t_neg1, Int32.reduceToInt, Int64.reduceToInt, Int32.reduceToNatClampNeg, true_or, or_true, true_and, and_true] at *) <;> omega) | ((try simp only [q1.1, q1.2.2.2.2, w1, p1, q13.1, q13.2.2.2.2, w13, p13, Int32.lt_iff_toInt_lt, Int32.le_iff_toInt_le, ← Int32.toInt_inj, Int32.toInt_toInt64, t_neg1, Int32.reduceToInt, Int64.reduceToInt, Int32.reduceToNatClampNeg, true_or, or_true, true_and, and_true] at *) <;> (simp (disch := ((try simp (disch := ((try simp (disch := ((try simp only [Int32.reduceToInt]) <;> omega)) only [t_add, t_sub, t_mul, Int32.reduceToInt]) <;> omega)) only [t_add, t_sub, t_mul, Int32.reduceToInt]) <;> omega)) only [t_add, t_sub, t_mul, Int32.reduceToInt]) <;> omega)) (by first | decide | ((try simp only [q1.1, q1.2.2.2.2, w1, p1, q13.1, q13.2.2.2.2, w13, p13, Int32.lt_iff_toInt_lt, Int32.le_iff_toInt_le, ← Int32.toInt_inj, Int32.toInt_toInt64, t_neg1, Int32.reduceToInt, Int64.reduceToInt, Int32.reduceToNatClampNeg, true_or, or_true, true_and, and_true] at *) <;> omega) | ((try simp only [q1.1, q1.2.2.2.2, w1, p1, q13.1, q13.2.2.2.2, w13, p13, Int32.lt_iff_toInt_lt, Int32.le_iff_toInt_le, ← Int32.toInt_inj, Int32.toInt_toInt64, t_neg1, Int32.reduceToInt, Int64.reduceToInt, Int32.reduceToNatClampNeg, true_or, or_true, true_and, and_true] at *) <;> (simp (disch := ((try simp (disch := ((try simp (disch := ((try simp only [Int32.reduceToInt]) <;> omega)) only [t_add, t_sub, t_mul, Int32.reduceToInt]) <;> omega)) only [t_add, t_sub, t_mul, Int32.reduceToInt]) <;> omega)) only [t_add, t_sub, t_mul, Int32.reduceToInt]) <;> omega)) (by first | decide | ((try simp only [q1.1, q1.2.2.2.2, w1, p1, q13.1, q13.2.2.2.2, w13, p13, Int32.lt_iff_toInt_lt, Int32.le_iff_toInt_le, ← Int32.toInt_inj, Int32.toInt_toInt64, t_neg1, Int32.reduceToInt, Int64.reduceToInt, Int32.reduceToNatClampNeg, true_or, or_true, true_and, and_true] at *) <;> omega) | ((try simp only [q1.1, q1.2.2.2.2, w1, p1, q13.1, q13.2.2.2.2, w13, p13, Int32.lt_iff_toInt_lt, Int32.le_iff_toInt_le, ← Int32.toInt_inj, Int32.toInt_toInt64, t_neg1, Int32.reduceToInt, Int64.reduceToInt, Int32.reduceToNatClampNeg, true_or, or_true, true_and, and_true] at *) <;> (simp (disch := ((try simp (disch := ((try simp (disch := ((try simp only [Int32.reduceToInt]) <;> omega)) only [t_add, t_sub, t_mul, Int32.reduceToInt]) <;> omega)) only [t_add, t_sub, t_mul, Int32.reduceToInt]) <;> omega)) only [t_add, t_sub, t_mul, Int32.reduceToInt]) <;> omega)) (t_m1 c3 hm)
        · unfold wX11_keeps_j60
          exact ih a12 (t_n1 c3 hi) (by first | decide | ((try simp only [q1.1, q1.2.2.2.2, w1, p1, q13.1, q13.2.2.2.2, w13, p13, Int32.lt_iff_toInt_lt, Int32.le_iff_toInt_le, ← Int32.toInt_inj, Int32.toInt_toInt64, t_neg1, Int32.reduceToInt, Int64.reduceToInt, Int32.reduceToNatClampNeg, true_or, or_true, true_and, and_true] at *) <;> omega) | ((try simp only [q1.1, q1.2.2.2.2, w1, p1, q13.1, q13.2.2.2.2, w13, p13, Int32.lt_iff_toInt_lt, Int32.le_iff_toInt_le, ← Int32.toInt_inj, Int32.toInt_toInt64, t_neg1, Int32.reduceToInt, Int64.reduceToInt, Int32.reduceToNatClampNeg, true_or, or_true, true_and, and_true] at *) <;> (simp (disch := ((try simp (disch := ((try simp (disch := ((try simp only [Int32.reduceToInt]) <;> omega)) only [t_add, t_sub, t_mul, Int32.reduceToInt]) <;> omega)) only [t_add, t_sub, t_mul, Int32.reduceToInt]) <;> omega)) only [t_add, t_sub, t_mul, Int32.reduceToInt]) <;> omega)) (by first | decide | ((try simp only [q1.1, q1.2.2.2.2, w1, p1, q13.1, q13.2.2.2.2, w13, p13, Int32.lt_iff_toInt_lt, Int32.le_iff_toInt_le, ← Int32.toInt_inj, Int32.toInt_toInt64, t_neg1, Int32.reduceToInt, Int64.reduceToInt, Int32.reduceToNatClampNeg, true_or, or_true, true_and, and_true] at *) <;> omega) | ((try simp only [q1.1, q1.2.2.2.2, w1, p1, q13.1, q13.2.2.2.2, w13, p13, Int32.lt_iff_toInt_lt, Int32.le_iff_toInt_le, ← Int32.toInt_inj, Int32.toInt_toInt64, t_neg1, Int32.reduceToInt, Int64.reduceToInt, Int32.reduceToNatClampNeg, true_or, or_true, true_and, and_true] at *) <;> (simp (disch := ((try simp (disch := ((try simp (disch := ((try simp only [Int32.reduceToInt]) <;> omega)) only [t_add, t_sub, t_mul, Int32.reduceToInt]) <;> omega)) only [t_add, t_sub, t_mul, Int32.reduceToInt]) <;> omega)) only [t_add, t_sub, t_mul, Int32.reduceToInt]) <;> omega)) (by first | decide | ((try simp only [q1.1, q1.2.2.2.2, w1, p1, q13.1, q13.2.2.2.2, w13, p13, Int32.lt_iff_toInt_lt, Int32.le_iff_toInt_le, ← Int32.toInt_inj, Int32.toInt_toInt64, t_neg1, Int32.reduceToInt, Int64.reduceToInt, Int32.reduceToNatClampNeg, true_or, or_true, true_and, and_true] at *) <;> omega) | ((try simp only [q1.1, q1.2.2.2.2, w1, p1, q13.1, q13.2.2.2.2, w13, p13, Int32.lt_iff_toInt_lt, Int32.le_iff_toInt_le, ← Int32.toInt_inj, Int32.toInt_toInt64, t_neg1, Int32.reduceToInt, Int64.reduceToInt, Int32.reduceToNatClampNeg, true_or, or_true, true_and, and_true] at *) <;> (simp (disch := ((try simp (disch := ((try simp (disch := ((try simp only [Int32.reduceToInt]) <;> omega)) only [t_add, t_sub, t_mul, Int32.reduceToInt]) <;> omega)) only [t_add, t_sub, t_mul, Int32.reduceToInt]) <;> omega)) only [t_add, t_sub, t_mul, Int32.reduceToInt]) <;> omega)) (t_m1 c3 hm)
    · exact t_some ⟨ha, (by first | decide | ((try simp only [q1.1, q1.2.2.2.2, w1, p1, Int32.lt_iff_toInt_lt, Int32.le_iff_toInt_le, ← Int32.toInt_inj, Int32.toInt_toInt64, t_neg1, Int32.reduceToInt, Int64.reduceToInt, Int32.reduceToNatClampNeg, true_or, or_true, true_and, and_true] at *) <;> omega) | ((try simp only [q1.1, q1.2.2.2.2, w1, p1, Int32.lt_iff_toInt_lt, Int32.le_iff_toInt_le, ← Int32.toInt_inj, Int32.toInt_toInt64, t_neg1, Int32.reduceToInt, Int64.reduceToInt, Int32.reduceToNatClampNeg, true_or, or_true, true_and, and_true] at *) <;> (simp (disch := ((try simp (disch := ((try simp (disch := ((try simp only [Int32.reduceToInt]) <;> omega)) only [t_add, t_sub, t_mul, Int32.reduceToInt]) <;> omega)) only [t_add, t_sub, t_mul, Int32.reduceToInt]) <;> omega)) only [t_add, t_sub, t_mul, Int32.reduceToInt]) <;> omega)), (by first | decide | ((try simp only [q1.1, q1.2.2.2.2, w1, p1, Int32.lt_iff_toInt_lt, Int32.le_iff_toInt_le, ← Int32.toInt_inj, Int32.toInt_toInt64, t_neg1, Int32.reduceToInt, Int64.reduceToInt, Int32.reduceToNatClampNeg, true_or, or_true, true_and, and_true] at *) <;> omega) | ((try simp only [q1.1, q1.2.2.2.2, w1, p1, Int32.lt_iff_toInt_lt, Int32.le_iff_toInt_le, ← Int32.toInt_inj, Int32.toInt_toInt64, t_neg1, Int32.reduceToInt, Int64.reduceToInt, Int32.reduceToNatClampNeg, true_or, or_true, true_and, and_true] at *) <;> (simp (disch := ((try simp (disch := ((try simp (disch := ((try simp only [Int32.reduceToInt]) <;> omega)) only [t_add, t_sub, t_mul, Int32.reduceToInt]) <;> omega)) only [t_add, t_sub, t_mul, Int32.reduceToInt]) <;> omega)) only [t_add, t_sub, t_mul, Int32.reduceToInt]) <;> omega))⟩
theorem wX11_keeps_T {x1 : Int32} {x2 : Int32} {x3 : Int32} {s : wS} (hR : RQ s) (hl : 0 ≤ x1.toInt) (hl2 : x1.toInt < (s.1 152 2).toInt) : Tot (wX11_keeps x1 x2 x3 s) (fun (r : Int32 × wS) => wA bP s r.2 ∧ 0 ≤ r.1.toInt ∧ r.1.toInt ≤ 512) := by
  unfold wX11_keeps
  have hb := RQ_b hR
  refine t_bind (wX11_reaches_T hR (by first | decide | ((try simp only [Int32.lt_iff_toInt_lt, Int32.le_iff_toInt_le, ← Int32.toInt_inj, Int32.toInt_toInt64, t_neg1, Int32.reduceToInt, Int64.reduceToInt, Int32.reduceToNatClampNeg, true_or, or_true, true_and, and_true] at *) <;> omega) | ((try simp only [Int32.lt_iff_toInt_lt, Int32.le_iff_toInt_le, ← Int32.toInt_inj, Int32.toInt_toInt64, t_neg1, Int32.reduceToInt, Int64.reduceToInt, Int32.reduceToNatClampNeg, true_or, or_true, true_and, and_true] at *) <;> (simp (disch := ((try simp (disch := ((try simp (disch := ((try simp only [Int32.reduceToInt]) <;> omega)) only [t_add, t_sub, t_mul, Int32.reduceToInt]) <;> omega)) only [t_add, t_sub, t_mul, Int32.reduceToInt]) <;> omega)) only [t_add, t_sub, t_mul, Int32.reduceToInt]) <;> omega)) (by first | decide | ((try simp only [Int32.lt_iff_toInt_lt, Int32.le_iff_toInt_le, ← Int32.toInt_inj, Int32.toInt_toInt64, t_neg1, Int32.reduceToInt, Int64.reduceToInt, Int32.reduceToNatClampNeg, true_or, or_true, true_and, and_true] at *) <;> omega) | ((try simp only [Int32.lt_iff_toInt_lt, Int32.le_iff_toInt_le, ← Int32.toInt_inj, Int32.toInt_toInt64, t_neg1, Int32.reduceToInt, Int64.reduceToInt, Int32.reduceToNatClampNeg, true_or, or_true, true_and, and_true] at *) <;> (simp (disch := ((try simp (disch := ((try simp (disch := ((try simp only [Int32.reduceToInt]) <;> omega)) only [t_add, t_sub, t_mul, Int32.reduceToInt]) <;> omega)) only [t_add, t_sub, t_mul, Int32.reduceToInt]) <;> omega)) only [t_add, t_sub, t_mul, Int32.reduceToInt]) <;> omega))) (fun s2 h1 => ?_)
  have a2 : wA bP s s2 := h1
  have q3 := sameP a2
  have w3 := wW_same q3.1
  have R3 := RQ_P a2 hR
  have p3 := a2 152 33 rfl
  refine t_bind (wX11_keeps_h11_T R3 _ wA.refl (by decide) (by decide) (by first | decide | ((try simp only [q3.1, q3.2.2.2.2, w3, p3, Int32.lt_iff_toInt_lt, Int32.le_iff_toInt_le, ← Int32.toInt_inj, Int32.toInt_toInt64, t_neg1, Int32.reduceToInt, Int64.reduceToInt, Int32.reduceToNatClampNeg, true_or, or_true, true_and, and_true] at *) <;> omega) | ((try simp only [q3.1, q3.2.2.2.2, w3, p3, Int32.lt_iff_toInt_lt, Int32.le_iff_toInt_le, ← Int32.toInt_inj, Int32.toInt_toInt64, t_neg1, Int32.reduceToInt, Int64.reduceToInt, Int32.reduceToNatClampNeg, true_or, or_true, true_and, and_true] at *) <;> (simp (disch := ((try simp (disch := ((try simp (disch := ((try simp only [Int32.reduceToInt]) <;> omega)) only [t_add, t_sub, t_mul, Int32.reduceToInt]) <;> omega)) only [t_add, t_sub, t_mul, Int32.reduceToInt]) <;> omega)) only [t_add, t_sub, t_mul, Int32.reduceToInt]) <;> omega)) (by first | decide | ((try simp only [q3.1, q3.2.2.2.2, w3, p3, Int32.lt_iff_toInt_lt, Int32.le_iff_toInt_le, ← Int32.toInt_inj, Int32.toInt_toInt64, t_neg1, Int32.reduceToInt, Int64.reduceToInt, Int32.reduceToNatClampNeg, true_or, or_true, true_and, and_true] at *) <;> omega) | ((try simp only [q3.1, q3.2.2.2.2, w3, p3, Int32.lt_iff_toInt_lt, Int32.le_iff_toInt_le, ← Int32.toInt_inj, Int32.toInt_toInt64, t_neg1, Int32.reduceToInt, Int64.reduceToInt, Int32.reduceToNatClampNeg, true_or, or_true, true_and, and_true] at *) <;> (simp (disch := ((try simp (disch := ((try simp (disch := ((try simp only [Int32.reduceToInt]) <;> omega)) only [t_add, t_sub, t_mul, Int32.reduceToInt]) <;> omega)) only [t_add, t_sub, t_mul, Int32.reduceToInt]) <;> omega)) only [t_add, t_sub, t_mul, Int32.reduceToInt]) <;> omega)) t_mi) (fun r5 h4 => ?_)
  obtain ⟨t14, s15⟩ := r5
  dsimp only at h4 ⊢
  have a6 : wA bP s s15 := a2.trans h4.1
  have q7 := sameP a6
  have w7 := wW_same q7.1
  have R7 := RQ_P a6 hR
  have p7 := a6 152 33 rfl
  exact t_some ⟨a6, (by first | decide | ((try simp only [q3.1, q3.2.2.2.2, w3, p3, q7.1, q7.2.2.2.2, w7, p7, Int32.lt_iff_toInt_lt, Int32.le_iff_toInt_le, ← Int32.toInt_inj, Int32.toInt_toInt64, t_neg1, Int32.reduceToInt, Int64.reduceToInt, Int32.reduceToNatClampNeg, true_or, or_true, true_and, and_true] at *) <;> omega) | ((try simp only [q3.1, q3.2.2.2.2, w3, p3, q7.1, q7.2.2.2.2, w7, p7, Int32.lt_iff_toInt_lt, Int32.le_iff_toInt_le, ← Int32.toInt_inj, Int32.toInt_toInt64, t_neg1, Int32.reduceToInt, Int64.reduceToInt, Int32.reduceToNatClampNeg, true_or, or_true, true_and, and_true] at *) <;> (simp (disch := ((try simp (disch := ((try simp (disch := ((try simp only [Int32.reduceToInt]) <;> omega)) only [t_add, t_sub, t_mul, Int32.reduceToInt]) <;> omega)) only [t_add, t_sub, t_mul, Int32.reduceToInt]) <;> omega)) only [t_add, t_sub, t_mul, Int32.reduceToInt]) <;> omega)), (by first | decide | ((try simp only [q3.1, q3.2.2.2.2, w3, p3, q7.1, q7.2.2.2.2, w7, p7, Int32.lt_iff_toInt_lt, Int32.le_iff_toInt_le, ← Int32.toInt_inj, Int32.toInt_toInt64, t_neg1, Int32.reduceToInt, Int64.reduceToInt, Int32.reduceToNatClampNeg, true_or, or_true, true_and, and_true] at *) <;> omega) | ((try simp only [q3.1, q3.2.2.2.2, w3, p3, q7.1, q7.2.2.2.2, w7, p7, Int32.lt_iff_toInt_lt, Int32.le_iff_toInt_le, ← Int32.toInt_inj, Int32.toInt_toInt64, t_neg1, Int32.reduceToInt, Int64.reduceToInt, Int32.reduceToNatClampNeg, true_or, or_true, true_and, and_true] at *) <;> (simp (disch := ((try simp (disch := ((try simp (disch := ((try simp only [Int32.reduceToInt]) <;> omega)) only [t_add, t_sub, t_mul, Int32.reduceToInt]) <;> omega)) only [t_add, t_sub, t_mul, Int32.reduceToInt]) <;> omega)) only [t_add, t_sub, t_mul, Int32.reduceToInt]) <;> omega))⟩
theorem wX11_holds_T {x1 : Int32} {x2 : Int32} {x3 : Int32} {s : wS} (hR : RQ s)  : Tot (wX11_holds x1 x2 x3 s) (fun (r : Int32 × wS) => wA bP s r.2) := by
  unfold wX11_holds
  have hb := RQ_b hR
  refine t_bind (wX11_canAsk_T) (fun t1 h1 => ?_)
  refine t_ite (fun c2 => ?_) (fun c2 => ?_)
  · exact t_some wA.refl
  · refine t_bind (wX11_isAnswer_T) (fun t4 h3 => ?_)
    refine t_ite (fun c4 => ?_) (fun c4 => ?_)
    · exact t_some wA.refl
    · refine t_bind (wX11_isWorld_T) (fun t7 h5 => ?_)
      refine t_ite (fun c6 => ?_) (fun c6 => ?_)
      · exact t_some wA.refl
      · refine t_bind (wX11_reaches_T hR (by first | decide | ((try simp only [Int32.lt_iff_toInt_lt, Int32.le_iff_toInt_le, ← Int32.toInt_inj, Int32.toInt_toInt64, t_neg1, Int32.reduceToInt, Int64.reduceToInt, Int32.reduceToNatClampNeg, true_or, or_true, true_and, and_true] at *) <;> omega) | ((try simp only [Int32.lt_iff_toInt_lt, Int32.le_iff_toInt_le, ← Int32.toInt_inj, Int32.toInt_toInt64, t_neg1, Int32.reduceToInt, Int64.reduceToInt, Int32.reduceToNatClampNeg, true_or, or_true, true_and, and_true] at *) <;> (simp (disch := ((try simp (disch := ((try simp (disch := ((try simp only [Int32.reduceToInt]) <;> omega)) only [t_add, t_sub, t_mul, Int32.reduceToInt]) <;> omega)) only [t_add, t_sub, t_mul, Int32.reduceToInt]) <;> omega)) only [t_add, t_sub, t_mul, Int32.reduceToInt]) <;> omega)) (by first | decide | ((try simp only [Int32.lt_iff_toInt_lt, Int32.le_iff_toInt_le, ← Int32.toInt_inj, Int32.toInt_toInt64, t_neg1, Int32.reduceToInt, Int64.reduceToInt, Int32.reduceToNatClampNeg, true_or, or_true, true_and, and_true] at *) <;> omega) | ((try simp only [Int32.lt_iff_toInt_lt, Int32.le_iff_toInt_le, ← Int32.toInt_inj, Int32.toInt_toInt64, t_neg1, Int32.reduceToInt, Int64.reduceToInt, Int32.reduceToNatClampNeg, true_or, or_true, true_and, and_true] at *) <;> (simp (disch := ((try simp (disch := ((try simp (disch := ((try simp only [Int32.reduceToInt]) <;> omega)) only [t_add, t_sub, t_mul, Int32.reduceToInt]) <;> omega)) only [t_add, t_sub, t_mul, Int32.reduceToInt]) <;> omega)) only [t_add, t_sub, t_mul, Int32.reduceToInt]) <;> omega))) (fun s11 h7 => ?_)
        have a8 : wA bP s s11 := h7
        have q9 := sameP a8
        have w9 := wW_same q9.1
        have R9 := RQ_P a8 hR
        have p9 := a8 152 33 rfl
        refine t_bind (wX11_isTrue_T R9 (by first | decide | ((try simp only [q9.1, q9.2.2.2.2, w9, p9, Int32.lt_iff_toInt_lt, Int32.le_iff_toInt_le, ← Int32.toInt_inj, Int32.toInt_toInt64, t_neg1, Int32.reduceToInt, Int64.reduceToInt, Int32.reduceToNatClampNeg, true_or, or_true, true_and, and_true] at *) <;> omega) | ((try simp only [q9.1, q9.2.2.2.2, w9, p9, Int32.lt_iff_toInt_lt, Int32.le_iff_toInt_le, ← Int32.toInt_inj, Int32.toInt_toInt64, t_neg1, Int32.reduceToInt, Int64.reduceToInt, Int32.reduceToNatClampNeg, true_or, or_true, true_and, and_true] at *) <;> (simp (disch := ((try simp (disch := ((try simp (disch := ((try simp only [Int32.reduceToInt]) <;> omega)) only [t_add, t_sub, t_mul, Int32.reduceToInt]) <;> omega)) only [t_add, t_sub, t_mul, Int32.reduceToInt]) <;> omega)) only [t_add, t_sub, t_mul, Int32.reduceToInt]) <;> omega)) (by first | decide | ((try simp only [q9.1, q9.2.2.2.2, w9, p9, Int32.lt_iff_toInt_lt, Int32.le_iff_toInt_le, ← Int32.toInt_inj, Int32.toInt_toInt64, t_neg1, Int32.reduceToInt, Int64.reduceToInt, Int32.reduceToNatClampNeg, true_or, or_true, true_and, and_true] at *) <;> omega) | ((try simp only [q9.1, q9.2.2.2.2, w9, p9, Int32.lt_iff_toInt_lt, Int32.le_iff_toInt_le, ← Int32.toInt_inj, Int32.toInt_toInt64, t_neg1, Int32.reduceToInt, Int64.reduceToInt, Int32.reduceToNatClampNeg, true_or, or_true, true_and, and_true] at *) <;> (simp (disch := ((try simp (disch := ((try simp (disch := ((try simp only [Int32.reduceToInt]) <;> omega)) only [t_add, t_sub, t_mul, Int32.reduceToInt]) <;> omega)) only [t_add, t_sub, t_mul, Int32.reduceToInt]) <;> omega)) only [t_add, t_sub, t_mul, Int32.reduceToInt]) <;> omega)) (by first | decide | ((try simp only [q9.1, q9.2.2.2.2, w9, p9, Int32.lt_iff_toInt_lt, Int32.le_iff_toInt_le, ← Int32.toInt_inj, Int32.toInt_toInt64, t_neg1, Int32.reduceToInt, Int64.reduceToInt, Int32.reduceToNatClampNeg, true_or, or_true, true_and, and_true] at *) <;> omega) | ((try simp only [q9.1, q9.2.2.2.2, w9, p9, Int32.lt_iff_toInt_lt, Int32.le_iff_toInt_le, ← Int32.toInt_inj, Int32.toInt_toInt64, t_neg1, Int32.reduceToInt, Int64.reduceToInt, Int32.reduceToNatClampNeg, true_or, or_true, true_and, and_true] at *) <;> (simp (disch := ((try simp (disch := ((try simp (disch := ((try simp only [Int32.reduceToInt]) <;> omega)) only [t_add, t_sub, t_mul, Int32.reduceToInt]) <;> omega)) only [t_add, t_sub, t_mul, Int32.reduceToInt]) <;> omega)) only [t_add, t_sub, t_mul, Int32.reduceToInt]) <;> omega)) (by first | decide | ((try simp only [q9.1, q9.2.2.2.2, w9, p9, Int32.lt_iff_toInt_lt, Int32.le_iff_toInt_le, ← Int32.toInt_inj, Int32.toInt_toInt64, t_neg1, Int32.reduceToInt, Int64.reduceToInt, Int32.reduceToNatClampNeg, true_or, or_true, true_and, and_true] at *) <;> omega) | ((try simp only [q9.1, q9.2.2.2.2, w9, p9, Int32.lt_iff_toInt_lt, Int32.le_iff_toInt_le, ← Int32.toInt_inj, Int32.toInt_toInt64, t_neg1, Int32.reduceToInt, Int64.reduceToInt, Int32.reduceToNatClampNeg, true_or, or_true, true_and, and_true] at *) <;> (simp (disch := ((try simp (disch := ((try simp (disch := ((try simp only [Int32.reduceToInt]) <;> omega)) only [t_add, t_sub, t_mul, Int32.reduceToInt]) <;> omega)) only [t_add, t_sub, t_mul, Int32.reduceToInt]) <;> omega)) only [t_add, t_sub, t_mul, Int32.reduceToInt]) <;> omega))) (fun t13 h10 => ?_)
        refine t_ite (fun c11 => ?_) (fun c11 => ?_)
        · exact t_some a8
        · exact t_some a8
theorem wX11_wrong_T {x1 : Int32} {x2 : Int32} {s : wS} (hR : RQ s)  : Tot (wX11_wrong x1 x2 s) (fun (r : Int32 × wS) => wA bP s r.2) := by
  unfold wX11_wrong
  have hb := RQ_b hR
  refine t_bind (wX11_canAsk_T) (fun t1 h1 => ?_)
  refine t_ite (fun c2 => ?_) (fun c2 => ?_)
  · exact t_some wA.refl
  · refine t_bind (wX11_isWorld_T) (fun t4 h3 => ?_)
    refine t_ite (fun c4 => ?_) (fun c4 => ?_)
    · exact t_some wA.refl
    · refine t_bind (wX11_reaches_T hR (by first | decide | ((try simp only [Int32.lt_iff_toInt_lt, Int32.le_iff_toInt_le, ← Int32.toInt_inj, Int32.toInt_toInt64, t_neg1, Int32.reduceToInt, Int64.reduceToInt, Int32.reduceToNatClampNeg, true_or, or_true, true_and, and_true] at *) <;> omega) | ((try simp only [Int32.lt_iff_toInt_lt, Int32.le_iff_toInt_le, ← Int32.toInt_inj, Int32.toInt_toInt64, t_neg1, Int32.reduceToInt, Int64.reduceToInt, Int32.reduceToNatClampNeg, true_or, or_true, true_and, and_true] at *) <;> (simp (disch := ((try simp (disch := ((try simp (disch := ((try simp only [Int32.reduceToInt]) <;> omega)) only [t_add, t_sub, t_mul, Int32.reduceToInt]) <;> omega)) only [t_add, t_sub, t_mul, Int32.reduceToInt]) <;> omega)) only [t_add, t_sub, t_mul, Int32.reduceToInt]) <;> omega)) (by first | decide | ((try simp only [Int32.lt_iff_toInt_lt, Int32.le_iff_toInt_le, ← Int32.toInt_inj, Int32.toInt_toInt64, t_neg1, Int32.reduceToInt, Int64.reduceToInt, Int32.reduceToNatClampNeg, true_or, or_true, true_and, and_true] at *) <;> omega) | ((try simp only [Int32.lt_iff_toInt_lt, Int32.le_iff_toInt_le, ← Int32.toInt_inj, Int32.toInt_toInt64, t_neg1, Int32.reduceToInt, Int64.reduceToInt, Int32.reduceToNatClampNeg, true_or, or_true, true_and, and_true] at *) <;> (simp (disch := ((try simp (disch := ((try simp (disch := ((try simp only [Int32.reduceToInt]) <;> omega)) only [t_add, t_sub, t_mul, Int32.reduceToInt]) <;> omega)) only [t_add, t_sub, t_mul, Int32.reduceToInt]) <;> omega)) only [t_add, t_sub, t_mul, Int32.reduceToInt]) <;> omega))) (fun s8 h5 => ?_)
      have a6 : wA bP s s8 := h5
      have q7 := sameP a6
      have w7 := wW_same q7.1
      have R7 := RQ_P a6 hR
      have p7 := a6 152 33 rfl
      refine t_bind (wX11_wrongIn_T R7 (by first | decide | ((try simp only [q7.1, q7.2.2.2.2, w7, p7, Int32.lt_iff_toInt_lt, Int32.le_iff_toInt_le, ← Int32.toInt_inj, Int32.toInt_toInt64, t_neg1, Int32.reduceToInt, Int64.reduceToInt, Int32.reduceToNatClampNeg, true_or, or_true, true_and, and_true] at *) <;> omega) | ((try simp only [q7.1, q7.2.2.2.2, w7, p7, Int32.lt_iff_toInt_lt, Int32.le_iff_toInt_le, ← Int32.toInt_inj, Int32.toInt_toInt64, t_neg1, Int32.reduceToInt, Int64.reduceToInt, Int32.reduceToNatClampNeg, true_or, or_true, true_and, and_true] at *) <;> (simp (disch := ((try simp (disch := ((try simp (disch := ((try simp only [Int32.reduceToInt]) <;> omega)) only [t_add, t_sub, t_mul, Int32.reduceToInt]) <;> omega)) only [t_add, t_sub, t_mul, Int32.reduceToInt]) <;> omega)) only [t_add, t_sub, t_mul, Int32.reduceToInt]) <;> omega)) (by first | decide | ((try simp only [q7.1, q7.2.2.2.2, w7, p7, Int32.lt_iff_toInt_lt, Int32.le_iff_toInt_le, ← Int32.toInt_inj, Int32.toInt_toInt64, t_neg1, Int32.reduceToInt, Int64.reduceToInt, Int32.reduceToNatClampNeg, true_or, or_true, true_and, and_true] at *) <;> omega) | ((try simp only [q7.1, q7.2.2.2.2, w7, p7, Int32.lt_iff_toInt_lt, Int32.le_iff_toInt_le, ← Int32.toInt_inj, Int32.toInt_toInt64, t_neg1, Int32.reduceToInt, Int64.reduceToInt, Int32.reduceToNatClampNeg, true_or, or_true, true_and, and_true] at *) <;> (simp (disch := ((try simp (disch := ((try simp (disch := ((try simp only [Int32.reduceToInt]) <;> omega)) only [t_add, t_sub, t_mul, Int32.reduceToInt]) <;> omega)) only [t_add, t_sub, t_mul, Int32.reduceToInt]) <;> omega)) only [t_add, t_sub, t_mul, Int32.reduceToInt]) <;> omega))) (fun t10 h8 => ?_)
      exact t_some a6
theorem wX11_kept_T {x1 : Int32} {x2 : Int32} {s : wS} (hR : RQ s)  : Tot (wX11_kept x1 x2 s) (fun (r : Int32 × wS) => wA bP s r.2) := by
  unfold wX11_kept
  have hb := RQ_b hR
  refine t_bind (wX11_canAsk_T) (fun t1 h1 => ?_)
  refine t_ite (fun c2 => ?_) (fun c2 => ?_)
  · exact t_some wA.refl
  · refine t_bind (wX11_isMany_T) (fun t4 h3 => ?_)
    refine t_ite (fun c4 => ?_) (fun c4 => ?_)
    · exact t_some wA.refl
    · refine t_bind (wX11_keeps_T hR (by first | decide | ((try simp only [Int32.lt_iff_toInt_lt, Int32.le_iff_toInt_le, ← Int32.toInt_inj, Int32.toInt_toInt64, t_neg1, Int32.reduceToInt, Int64.reduceToInt, Int32.reduceToNatClampNeg, true_or, or_true, true_and, and_true] at *) <;> omega) | ((try simp only [Int32.lt_iff_toInt_lt, Int32.le_iff_toInt_le, ← Int32.toInt_inj, Int32.toInt_toInt64, t_neg1, Int32.reduceToInt, Int64.reduceToInt, Int32.reduceToNatClampNeg, true_or, or_true, true_and, and_true] at *) <;> (simp (disch := ((try simp (disch := ((try simp (disch := ((try simp only [Int32.reduceToInt]) <;> omega)) only [t_add, t_sub, t_mul, Int32.reduceToInt]) <;> omega)) only [t_add, t_sub, t_mul, Int32.reduceToInt]) <;> omega)) only [t_add, t_sub, t_mul, Int32.reduceToInt]) <;> omega)) (by first | decide | ((try simp only [Int32.lt_iff_toInt_lt, Int32.le_iff_toInt_le, ← Int32.toInt_inj, Int32.toInt_toInt64, t_neg1, Int32.reduceToInt, Int64.reduceToInt, Int32.reduceToNatClampNeg, true_or, or_true, true_and, and_true] at *) <;> omega) | ((try simp only [Int32.lt_iff_toInt_lt, Int32.le_iff_toInt_le, ← Int32.toInt_inj, Int32.toInt_toInt64, t_neg1, Int32.reduceToInt, Int64.reduceToInt, Int32.reduceToNatClampNeg, true_or, or_true, true_and, and_true] at *) <;> (simp (disch := ((try simp (disch := ((try simp (disch := ((try simp only [Int32.reduceToInt]) <;> omega)) only [t_add, t_sub, t_mul, Int32.reduceToInt]) <;> omega)) only [t_add, t_sub, t_mul, Int32.reduceToInt]) <;> omega)) only [t_add, t_sub, t_mul, Int32.reduceToInt]) <;> omega))) (fun r6 h5 => ?_)
      obtain ⟨t7, s8⟩ := r6
      dsimp only at h5 ⊢
      have a7 : wA bP s s8 := h5.1
      have q8 := sameP a7
      have w8 := wW_same q8.1
      have R8 := RQ_P a7 hR
      have p8 := a7 152 33 rfl
      exact t_some a7
theorem wX11_world_h35_T {x3 : Int32} {s : wS} (hR : RQ s)  : ∀ (n : Nat) {x4 : Int32} {x5 : Int32}, 0 ≤ x5.toInt → 2147483648 - x5.toInt < (n : Int) → Tot (wX11_world_h35 x3 s n x4 x5) (fun (_ : (Unit) ⊕ (Int32)) => True) := by
  intro n
  induction n with
  | zero =>
    intro x4 x5 hi hm
    exact (t_m0 hm).elim
  | succ n ih =>
    intro x4 x5 hi hm
    rw [wX11_world_h35]
    have hb := RQ_b hR
    refine t_bind (wX11_worlds_T) (fun t11 h1 => ?_)
    refine t_ite (fun c2 => ?_) (fun c2 => ?_)
    · refine t_bind (t_ldI (n := 512) (by first | decide | ((try simp only [Int32.lt_iff_toInt_lt, Int32.le_iff_toInt_le, ← Int32.toInt_inj, Int32.toInt_toInt64, t_neg1, Int32.reduceToInt, Int64.reduceToInt, Int32.reduceToNatClampNeg, true_or, or_true, true_and, and_true] at *) <;> omega) | ((try simp only [Int32.lt_iff_toInt_lt, Int32.le_iff_toInt_le, ← Int32.toInt_inj, Int32.toInt_toInt64, t_neg1, Int32.reduceToInt, Int64.reduceToInt, Int32.reduceToNatClampNeg, true_or, or_true, true_and, and_true] at *) <;> (simp (disch := ((try simp (disch := ((try simp (disch := ((try simp only [Int32.reduceToInt]) <;> omega)) only [t_add, t_sub, t_mul, Int32.reduceToInt]) <;> omega)) only [t_add, t_sub, t_mul, Int32.reduceToInt]) <;> omega)) only [t_add, t_sub, t_mul, Int32.reduceToInt]) <;> omega)) (by first | decide | ((try simp only [Int32.lt_iff_toInt_lt, Int32.le_iff_toInt_le, ← Int32.toInt_inj, Int32.toInt_toInt64, t_neg1, Int32.reduceToInt, Int64.reduceToInt, Int32.reduceToNatClampNeg, true_or, or_true, true_and, and_true] at *) <;> omega) | ((try simp only [Int32.lt_iff_toInt_lt, Int32.le_iff_toInt_le, ← Int32.toInt_inj, Int32.toInt_toInt64, t_neg1, Int32.reduceToInt, Int64.reduceToInt, Int32.reduceToNatClampNeg, true_or, or_true, true_and, and_true] at *) <;> (simp (disch := ((try simp (disch := ((try simp (disch := ((try simp only [Int32.reduceToInt]) <;> omega)) only [t_add, t_sub, t_mul, Int32.reduceToInt]) <;> omega)) only [t_add, t_sub, t_mul, Int32.reduceToInt]) <;> omega)) only [t_add, t_sub, t_mul, Int32.reduceToInt]) <;> omega))) (fun t14 h3 => ?_)
      refine t_ite (fun c4 => ?_) (fun c4 => ?_)
      · unfold wX11_world_j69
        exact ih (t_n1 c2 hi) (t_m1 c2 hm)
      · refine t_ite (fun c5 => ?_) (fun c5 => ?_)
        · exact t_some trivial
        · unfold wX11_world_j69
          exact ih (t_n1 c2 hi) (t_m1 c2 hm)
    · exact t_some trivial
theorem wX11_world_T {x1 : Int32} {x2 : Int32} {x3 : Int32} {s : wS} (hR : RQ s)  : Tot (wX11_world x1 x2 x3 s) (fun (r : Int32 × wS) => wA bP s r.2) := by
  unfold wX11_world
  have hb := RQ_b hR
  refine t_bind (wX11_canAsk_T) (fun t1 h1 => ?_)
  refine t_ite (fun c2 => ?_) (fun c2 => ?_)
  · exact t_some wA.refl
  · refine t_bind (wX11_isMany_T) (fun t4 h3 => ?_)
    refine t_ite (fun c4 => ?_) (fun c4 => ?_)
    · exact t_some wA.refl
    · refine t_ite (fun c5 => ?_) (fun c5 => ?_)
      · exact t_some wA.refl
      · refine t_bind (wX11_keeps_T hR (by first | decide | ((try simp only [Int32.lt_iff_toInt_lt, Int32.le_iff_toInt_le, ← Int32.toInt_inj, Int32.toInt_toInt64, t_neg1, Int32.reduceToInt, Int64.reduceToInt, Int32.reduceToNatClampNeg, true_or, or_true, true_and, and_true] at *) <;> omega) | ((try simp only [Int32.lt_iff_toInt_lt, Int32.le_iff_toInt_le, ← Int32.toInt_inj, Int32.toInt_toInt64, t_neg1, Int32.reduceToInt, Int64.reduceToInt, Int32.reduceToNatClampNeg, true_or, or_true, true_and, and_true] at *) <;> (simp (disch := ((try simp (disch := ((try simp (disch := ((try simp only [Int32.reduceToInt]) <;> omega)) only [t_add, t_sub, t_mul, Int32.reduceToInt]) <;> omega)) only [t_add, t_sub, t_mul, Int32.reduceToInt]) <;> omega)) only [t_add, t_sub, t_mul, Int32.reduceToInt]) <;> omega)) (by first | decide | ((try simp only [Int32.lt_iff_toInt_lt, Int32.le_iff_toInt_le, ← Int32.toInt_inj, Int32.toInt_toInt64, t_neg1, Int32.reduceToInt, Int64.reduceToInt, Int32.reduceToNatClampNeg, true_or, or_true, true_and, and_true] at *) <;> omega) | ((try simp only [Int32.lt_iff_toInt_lt, Int32.le_iff_toInt_le, ← Int32.toInt_inj, Int32.toInt_toInt64, t_neg1, Int32.reduceToInt, Int64.reduceToInt, Int32.reduceToNatClampNeg, true_or, or_true, true_and, and_true] at *) <;> (simp (disch := ((try simp (disch := ((try simp (disch := ((try simp only [Int32.reduceToInt]) <;> omega)) only [t_add, t_sub, t_mul, Int32.reduceToInt]) <;> omega)) only [t_add, t_sub, t_mul, Int32.reduceToInt]) <;> omega)) only [t_add, t_sub, t_mul, Int32.reduceToInt]) <;> omega))) (fun r7 h6 => ?_)
        obtain ⟨t8, s9⟩ := r7
        dsimp only at h6 ⊢
        have a8 : wA bP s s9 := h6.1
        have q9 := sameP a8
        have w9 := wW_same q9.1
        have R9 := RQ_P a8 hR
        have p9 := a8 152 33 rfl
        refine t_bind (wX11_world_h35_T R9 _ (by decide) t_mi) (fun z17 h10 => ?_)
        rcases z17 with z17 | z17
        · dsimp only
          exact t_some a8
        · obtain t23 := z17
          dsimp only
          exact t_some a8
theorem wX11_keptWith_h5_T {x1 : Int32} {x2 : Int32} {s : wS} (hR : RQ s) (hk : 0 ≤ x1.toInt) (hk2 : x1.toInt ≤ 2) : ∀ (n : Nat) {x3 : Int32} {x4 : Int32}, 0 ≤ x4.toInt → 2147483648 - x4.toInt < (n : Int) → Tot (wX11_keptWith_h5 x1 x2 s n x3 x4) (fun (_ : Int32) => True) := by
  intro n
  induction n with
  | zero =>
    intro x3 x4 hi hm
    exact (t_m0 hm).elim
  | succ n ih =>
    intro x3 x4 hi hm
    rw [wX11_keptWith_h5]
    have hb := RQ_b hR
    refine t_bind (wX11_worlds_T) (fun t1 h1 => ?_)
    refine t_ite (fun c2 => ?_) (fun c2 => ?_)
    · refine t_bind (t_ldI (n := 512) (by first | decide | ((try simp only [Int32.lt_iff_toInt_lt, Int32.le_iff_toInt_le, ← Int32.toInt_inj, Int32.toInt_toInt64, t_neg1, Int32.reduceToInt, Int64.reduceToInt, Int32.reduceToNatClampNeg, true_or, or_true, true_and, and_true] at *) <;> omega) | ((try simp only [Int32.lt_iff_toInt_lt, Int32.le_iff_toInt_le, ← Int32.toInt_inj, Int32.toInt_toInt64, t_neg1, Int32.reduceToInt, Int64.reduceToInt, Int32.reduceToNatClampNeg, true_or, or_true, true_and, and_true] at *) <;> (simp (disch := ((try simp (disch := ((try simp (disch := ((try simp only [Int32.reduceToInt]) <;> omega)) only [t_add, t_sub, t_mul, Int32.reduceToInt]) <;> omega)) only [t_add, t_sub, t_mul, Int32.reduceToInt]) <;> omega)) only [t_add, t_sub, t_mul, Int32.reduceToInt]) <;> omega)) (by first | decide | ((try simp only [Int32.lt_iff_toInt_lt, Int32.le_iff_toInt_le, ← Int32.toInt_inj, Int32.toInt_toInt64, t_neg1, Int32.reduceToInt, Int64.reduceToInt, Int32.reduceToNatClampNeg, true_or, or_true, true_and, and_true] at *) <;> omega) | ((try simp only [Int32.lt_iff_toInt_lt, Int32.le_iff_toInt_le, ← Int32.toInt_inj, Int32.toInt_toInt64, t_neg1, Int32.reduceToInt, Int64.reduceToInt, Int32.reduceToNatClampNeg, true_or, or_true, true_and, and_true] at *) <;> (simp (disch := ((try simp (disch := ((try simp (disch := ((try simp only [Int32.reduceToInt]) <;> omega)) only [t_add, t_sub, t_mul, Int32.reduceToInt]) <;> omega)) only [t_add, t_sub, t_mul, Int32.reduceToInt]) <;> omega)) only [t_add, t_sub, t_mul, Int32.reduceToInt]) <;> omega))) (fun t4 h3 => ?_)
      refine t_ite (fun c4 => ?_) (fun c4 => ?_)
      · unfold wX11_keptWith_j40
        unfold wX11_keptWith_j41
        exact ih (t_n1 c2 hi) (t_m1 c2 hm)
      · refine t_bind (wX11_thingOf_T hR (by first | decide | ((try simp only [Int32.lt_iff_toInt_lt, Int32.le_iff_toInt_le, ← Int32.toInt_inj, Int32.toInt_toInt64, t_neg1, Int32.reduceToInt, Int64.reduceToInt, Int32.reduceToNatClampNeg, true_or, or_true, true_and, and_true] at *) <;> omega) | ((try simp only [Int32.lt_iff_toInt_lt, Int32.le_iff_toInt_le, ← Int32.toInt_inj, Int32.toInt_toInt64, t_neg1, Int32.reduceToInt, Int64.reduceToInt, Int32.reduceToNatClampNeg, true_or, or_true, true_and, and_true] at *) <;> (simp (disch := ((try simp (disch := ((try simp (disch := ((try simp only [Int32.reduceToInt]) <;> omega)) only [t_add, t_sub, t_mul, Int32.reduceToInt]) <;> omega)) only [t_add, t_sub, t_mul, Int32.reduceToInt]) <;> omega)) only [t_add, t_sub, t_mul, Int32.reduceToInt]) <;> omega)) (by first | decide | ((try simp only [Int32.lt_iff_toInt_lt, Int32.le_iff_toInt_le, ← Int32.toInt_inj, Int32.toInt_toInt64, t_neg1, Int32.reduceToInt, Int64.reduceToInt, Int32.reduceToNatClampNeg, true_or, or_true, true_and, and_true] at *) <;> omega) | ((try simp only [Int32.lt_iff_toInt_lt, Int32.le_iff_toInt_le, ← Int32.toInt_inj, Int32.toInt_toInt64, t_neg1, Int32.reduceToInt, Int64.reduceToInt, Int32.reduceToNatClampNeg, true_or, or_true, true_and, and_true] at *) <;> (simp (disch := ((try simp (disch := ((try simp (disch := ((try simp only [Int32.reduceToInt]) <;> omega)) only [t_add, t_sub, t_mul, Int32.reduceToInt]) <;> omega)) only [t_add, t_sub, t_mul, Int32.reduceToInt]) <;> omega)) only [t_add, t_sub, t_mul, Int32.reduceToInt]) <;> omega)) (by first | decide | ((try simp only [Int32.lt_iff_toInt_lt, Int32.le_iff_toInt_le, ← Int32.toInt_inj, Int32.toInt_toInt64, t_neg1, Int32.reduceToInt, Int64.reduceToInt, Int32.reduceToNatClampNeg, true_or, or_true, true_and, and_true] at *) <;> omega) | ((try simp only [Int32.lt_iff_toInt_lt, Int32.le_iff_toInt_le, ← Int32.toInt_inj, Int32.toInt_toInt64, t_neg1, Int32.reduceToInt, Int64.reduceToInt, Int32.reduceToNatClampNeg, true_or, or_true, true_and, and_true] at *) <;> (simp (disch := ((try simp (disch := ((try simp (disch := ((try simp only [Int32.reduceToInt]) <;> omega)) only [t_add, t_sub, t_mul, Int32.reduceToInt]) <;> omega)) only [t_add, t_sub, t_mul, Int32.reduceToInt]) <;> omega)) only [t_add, t_sub, t_mul, Int32.reduceToInt]) <;> omega)) (by first | decide | ((try simp only [Int32.lt_iff_toInt_lt, Int32.le_iff_toInt_le, ← Int32.toInt_inj, Int32.toInt_toInt64, t_neg1, Int32.reduceToInt, Int64.reduceToInt, Int32.reduceToNatClampNeg, true_or, or_true, true_and, and_true] at *) <;> omega) | ((try simp only [Int32.lt_iff_toInt_lt, Int32.le_iff_toInt_le, ← Int32.toInt_inj, Int32.toInt_toInt64, t_neg1, Int32.reduceToInt, Int64.reduceToInt, Int32.reduceToNatClampNeg, true_or, or_true, true_and, and_true] at *) <;> (simp (disch := ((try simp (disch := ((try simp (disch := ((try simp only [Int32.reduceToInt]) <;> omega)) only [t_add, t_sub, t_mul, Int32.reduceToInt]) <;> omega)) only [t_add, t_sub, t_mul, Int32.reduceToInt]) <;> omega)) only [t_add, t_sub, t_mul, Int32.reduceToInt]) <;> omega))) (fun t6 h5 => ?_)
        refine t_ite (fun c6 => ?_) (fun c6 => ?_)
        · unfold wX11_keptWith_j41
          exact ih (t_n1 c2 hi) (t_m1 c2 hm)
        · unfold wX11_keptWith_j40
          unfold wX11_keptWith_j41
          exact ih (t_n1 c2 hi) (t_m1 c2 hm)
    · exact t_some trivial
theorem wX11_keptWith_T {x1 : Int32} {x2 : Int32} {s : wS} (hR : RQ s) (hk : 0 ≤ x1.toInt) (hk2 : x1.toInt ≤ 2) : Tot (wX11_keptWith x1 x2 s) (fun (_ : Int32) => True) := by
  unfold wX11_keptWith
  have hb := RQ_b hR
  refine t_bind (wX11_keptWith_h5_T hR (by first | decide | ((try simp only [Int32.lt_iff_toInt_lt, Int32.le_iff_toInt_le, ← Int32.toInt_inj, Int32.toInt_toInt64, t_neg1, Int32.reduceToInt, Int64.reduceToInt, Int32.reduceToNatClampNeg, true_or, or_true, true_and, and_true] at *) <;> omega) | ((try simp only [Int32.lt_iff_toInt_lt, Int32.le_iff_toInt_le, ← Int32.toInt_inj, Int32.toInt_toInt64, t_neg1, Int32.reduceToInt, Int64.reduceToInt, Int32.reduceToNatClampNeg, true_or, or_true, true_and, and_true] at *) <;> (simp (disch := ((try simp (disch := ((try simp (disch := ((try simp only [Int32.reduceToInt]) <;> omega)) only [t_add, t_sub, t_mul, Int32.reduceToInt]) <;> omega)) only [t_add, t_sub, t_mul, Int32.reduceToInt]) <;> omega)) only [t_add, t_sub, t_mul, Int32.reduceToInt]) <;> omega)) (by first | decide | ((try simp only [Int32.lt_iff_toInt_lt, Int32.le_iff_toInt_le, ← Int32.toInt_inj, Int32.toInt_toInt64, t_neg1, Int32.reduceToInt, Int64.reduceToInt, Int32.reduceToNatClampNeg, true_or, or_true, true_and, and_true] at *) <;> omega) | ((try simp only [Int32.lt_iff_toInt_lt, Int32.le_iff_toInt_le, ← Int32.toInt_inj, Int32.toInt_toInt64, t_neg1, Int32.reduceToInt, Int64.reduceToInt, Int32.reduceToNatClampNeg, true_or, or_true, true_and, and_true] at *) <;> (simp (disch := ((try simp (disch := ((try simp (disch := ((try simp only [Int32.reduceToInt]) <;> omega)) only [t_add, t_sub, t_mul, Int32.reduceToInt]) <;> omega)) only [t_add, t_sub, t_mul, Int32.reduceToInt]) <;> omega)) only [t_add, t_sub, t_mul, Int32.reduceToInt]) <;> omega)) _ (by decide) t_mi) (fun t10 h1 => ?_)
  exact t_some trivial
theorem wX11_may_T {x1 : Int32} {x2 : Int32} {x3 : Int32} {x4 : Int32} {s : wS} (hR : RQ s)  : Tot (wX11_may x1 x2 x3 x4 s) (fun (r : Int32 × wS) => wA bP s r.2) := by
  unfold wX11_may
  have hb := RQ_b hR
  refine t_bind (wX11_canAsk_T) (fun t1 h1 => ?_)
  refine t_ite (fun c2 => ?_) (fun c2 => ?_)
  · exact t_some wA.refl
  · refine t_bind (wX11_isMany_T) (fun t4 h3 => ?_)
    refine t_ite (fun c4 => ?_) (fun c4 => ?_)
    · exact t_some wA.refl
    · refine t_bind (wX11_isThing_T hR) (fun t7 h5 => ?_)
      refine t_ite (fun c6 => ?_) (fun c6 => ?_)
      · exact t_some wA.refl
      · refine t_bind (wX11_keeps_T hR (by first | decide | ((try simp only [Int32.lt_iff_toInt_lt, Int32.le_iff_toInt_le, ← Int32.toInt_inj, Int32.toInt_toInt64, t_neg1, Int32.reduceToInt, Int64.reduceToInt, Int32.reduceToNatClampNeg, true_or, or_true, true_and, and_true] at *) <;> omega) | ((try simp only [Int32.lt_iff_toInt_lt, Int32.le_iff_toInt_le, ← Int32.toInt_inj, Int32.toInt_toInt64, t_neg1, Int32.reduceToInt, Int64.reduceToInt, Int32.reduceToNatClampNeg, true_or, or_true, true_and, and_true] at *) <;> (simp (disch := ((try simp (disch := ((try simp (disch := ((try simp only [Int32.reduceToInt]) <;> omega)) only [t_add, t_sub, t_mul, Int32.reduceToInt]) <;> omega)) only [t_add, t_sub, t_mul, Int32.reduceToInt]) <;> omega)) only [t_add, t_sub, t_mul, Int32.reduceToInt]) <;> omega)) (by first | decide | ((try simp only [Int32.lt_iff_toInt_lt, Int32.le_iff_toInt_le, ← Int32.toInt_inj, Int32.toInt_toInt64, t_neg1, Int32.reduceToInt, Int64.reduceToInt, Int32.reduceToNatClampNeg, true_or, or_true, true_and, and_true] at *) <;> omega) | ((try simp only [Int32.lt_iff_toInt_lt, Int32.le_iff_toInt_le, ← Int32.toInt_inj, Int32.toInt_toInt64, t_neg1, Int32.reduceToInt, Int64.reduceToInt, Int32.reduceToNatClampNeg, true_or, or_true, true_and, and_true] at *) <;> (simp (disch := ((try simp (disch := ((try simp (disch := ((try simp only [Int32.reduceToInt]) <;> omega)) only [t_add, t_sub, t_mul, Int32.reduceToInt]) <;> omega)) only [t_add, t_sub, t_mul, Int32.reduceToInt]) <;> omega)) only [t_add, t_sub, t_mul, Int32.reduceToInt]) <;> omega))) (fun r8 h7 => ?_)
        obtain ⟨t10, s11⟩ := r8
        dsimp only at h7 ⊢
        have a9 : wA bP s s11 := h7.1
        have q10 := sameP a9
        have w10 := wW_same q10.1
        have R10 := RQ_P a9 hR
        have p10 := a9 152 33 rfl
        refine t_bind (wX11_keptWith_T R10 (by first | decide | ((try simp only [q10.1, q10.2.2.2.2, w10, p10, Int32.lt_iff_toInt_lt, Int32.le_iff_toInt_le, ← Int32.toInt_inj, Int32.toInt_toInt64, t_neg1, Int32.reduceToInt, Int64.reduceToInt, Int32.reduceToNatClampNeg, true_or, or_true, true_and, and_true] at *) <;> omega) | ((try simp only [q10.1, q10.2.2.2.2, w10, p10, Int32.lt_iff_toInt_lt, Int32.le_iff_toInt_le, ← Int32.toInt_inj, Int32.toInt_toInt64, t_neg1, Int32.reduceToInt, Int64.reduceToInt, Int32.reduceToNatClampNeg, true_or, or_true, true_and, and_true] at *) <;> (simp (disch := ((try simp (disch := ((try simp (disch := ((try simp only [Int32.reduceToInt]) <;> omega)) only [t_add, t_sub, t_mul, Int32.reduceToInt]) <;> omega)) only [t_add, t_sub, t_mul, Int32.reduceToInt]) <;> omega)) only [t_add, t_sub, t_mul, Int32.reduceToInt]) <;> omega)) (by first | decide | ((try simp only [q10.1, q10.2.2.2.2, w10, p10, Int32.lt_iff_toInt_lt, Int32.le_iff_toInt_le, ← Int32.toInt_inj, Int32.toInt_toInt64, t_neg1, Int32.reduceToInt, Int64.reduceToInt, Int32.reduceToNatClampNeg, true_or, or_true, true_and, and_true] at *) <;> omega) | ((try simp only [q10.1, q10.2.2.2.2, w10, p10, Int32.lt_iff_toInt_lt, Int32.le_iff_toInt_le, ← Int32.toInt_inj, Int32.toInt_toInt64, t_neg1, Int32.reduceToInt, Int64.reduceToInt, Int32.reduceToNatClampNeg, true_or, or_true, true_and, and_true] at *) <;> (simp (disch := ((try simp (disch := ((try simp (disch := ((try simp only [Int32.reduceToInt]) <;> omega)) only [t_add, t_sub, t_mul, Int32.reduceToInt]) <;> omega)) only [t_add, t_sub, t_mul, Int32.reduceToInt]) <;> omega)) only [t_add, t_sub, t_mul, Int32.reduceToInt]) <;> omega))) (fun t13 h11 => ?_)
        exact t_some a9
theorem wX11_cleared_h30_T {s : wS} (hR : RQ s)  : ∀ (n : Nat) {x3 : Int32} {x4 : Int32}, 0 ≤ x4.toInt → 2147483648 - x4.toInt < (n : Int) → Tot (wX11_cleared_h30 s n x3 x4) (fun (_ : Int32) => True) := by
  intro n
  induction n with
  | zero =>
    intro x3 x4 hi hm
    exact (t_m0 hm).elim
  | succ n ih =>
    intro x3 x4 hi hm
    rw [wX11_cleared_h30]
    have hb := RQ_b hR
    refine t_ite (fun c1 => ?_) (fun c1 => ?_)
    · refine t_bind (wX11_keptWith_T hR (by first | decide | ((try simp only [Int32.lt_iff_toInt_lt, Int32.le_iff_toInt_le, ← Int32.toInt_inj, Int32.toInt_toInt64, t_neg1, Int32.reduceToInt, Int64.reduceToInt, Int32.reduceToNatClampNeg, true_or, or_true, true_and, and_true] at *) <;> omega) | ((try simp only [Int32.lt_iff_toInt_lt, Int32.le_iff_toInt_le, ← Int32.toInt_inj, Int32.toInt_toInt64, t_neg1, Int32.reduceToInt, Int64.reduceToInt, Int32.reduceToNatClampNeg, true_or, or_true, true_and, and_true] at *) <;> (simp (disch := ((try simp (disch := ((try simp (disch := ((try simp only [Int32.reduceToInt]) <;> omega)) only [t_add, t_sub, t_mul, Int32.reduceToInt]) <;> omega)) only [t_add, t_sub, t_mul, Int32.reduceToInt]) <;> omega)) only [t_add, t_sub, t_mul, Int32.reduceToInt]) <;> omega)) (by first | decide | ((try simp only [Int32.lt_iff_toInt_lt, Int32.le_iff_toInt_le, ← Int32.toInt_inj, Int32.toInt_toInt64, t_neg1, Int32.reduceToInt, Int64.reduceToInt, Int32.reduceToNatClampNeg, true_or, or_true, true_and, and_true] at *) <;> omega) | ((try simp only [Int32.lt_iff_toInt_lt, Int32.le_iff_toInt_le, ← Int32.toInt_inj, Int32.toInt_toInt64, t_neg1, Int32.reduceToInt, Int64.reduceToInt, Int32.reduceToNatClampNeg, true_or, or_true, true_and, and_true] at *) <;> (simp (disch := ((try simp (disch := ((try simp (disch := ((try simp only [Int32.reduceToInt]) <;> omega)) only [t_add, t_sub, t_mul, Int32.reduceToInt]) <;> omega)) only [t_add, t_sub, t_mul, Int32.reduceToInt]) <;> omega)) only [t_add, t_sub, t_mul, Int32.reduceToInt]) <;> omega))) (fun t12 h2 => ?_)
      refine t_ite (fun c3 => ?_) (fun c3 => ?_)
      · unfold wX11_cleared_j60
        exact ih (t_n1 c1 hi) (t_m1 c1 hm)
      · unfold wX11_cleared_j60
        exact ih (t_n1 c1 hi) (t_m1 c1 hm)
    · exact t_some trivial
theorem wX11_cleared_T {x1 : Int32} {x2 : Int32} {s : wS} (hR : RQ s)  : Tot (wX11_cleared x1 x2 s) (fun (r : Int32 × wS) => wA bP s r.2) := by
  unfold wX11_cleared
  have hb := RQ_b hR
  refine t_bind (wX11_canAsk_T) (fun t1 h1 => ?_)
  refine t_ite (fun c2 => ?_) (fun c2 => ?_)
  · exact t_some wA.refl
  · refine t_bind (wX11_isMany_T) (fun t4 h3 => ?_)
    refine t_ite (fun c4 => ?_) (fun c4 => ?_)
    · exact t_some wA.refl
    · refine t_bind (wX11_keeps_T hR (by first | decide | ((try simp only [Int32.lt_iff_toInt_lt, Int32.le_iff_toInt_le, ← Int32.toInt_inj, Int32.toInt_toInt64, t_neg1, Int32.reduceToInt, Int64.reduceToInt, Int32.reduceToNatClampNeg, true_or, or_true, true_and, and_true] at *) <;> omega) | ((try simp only [Int32.lt_iff_toInt_lt, Int32.le_iff_toInt_le, ← Int32.toInt_inj, Int32.toInt_toInt64, t_neg1, Int32.reduceToInt, Int64.reduceToInt, Int32.reduceToNatClampNeg, true_or, or_true, true_and, and_true] at *) <;> (simp (disch := ((try simp (disch := ((try simp (disch := ((try simp only [Int32.reduceToInt]) <;> omega)) only [t_add, t_sub, t_mul, Int32.reduceToInt]) <;> omega)) only [t_add, t_sub, t_mul, Int32.reduceToInt]) <;> omega)) only [t_add, t_sub, t_mul, Int32.reduceToInt]) <;> omega)) (by first | decide | ((try simp only [Int32.lt_iff_toInt_lt, Int32.le_iff_toInt_le, ← Int32.toInt_inj, Int32.toInt_toInt64, t_neg1, Int32.reduceToInt, Int64.reduceToInt, Int32.reduceToNatClampNeg, true_or, or_true, true_and, and_true] at *) <;> omega) | ((try simp only [Int32.lt_iff_toInt_lt, Int32.le_iff_toInt_le, ← Int32.toInt_inj, Int32.toInt_toInt64, t_neg1, Int32.reduceToInt, Int64.reduceToInt, Int32.reduceToNatClampNeg, true_or, or_true, true_and, and_true] at *) <;> (simp (disch := ((try simp (disch := ((try simp (disch := ((try simp only [Int32.reduceToInt]) <;> omega)) only [t_add, t_sub, t_mul, Int32.reduceToInt]) <;> omega)) only [t_add, t_sub, t_mul, Int32.reduceToInt]) <;> omega)) only [t_add, t_sub, t_mul, Int32.reduceToInt]) <;> omega))) (fun r6 h5 => ?_)
      obtain ⟨t7, s8⟩ := r6
      dsimp only at h5 ⊢
      have a7 : wA bP s s8 := h5.1
      have q8 := sameP a7
      have w8 := wW_same q8.1
      have R8 := RQ_P a7 hR
      have p8 := a7 152 33 rfl
      refine t_bind (wX11_cleared_h30_T R8 _ (by decide) t_mi) (fun t16 h9 => ?_)
      exact t_some a7
theorem wX11_finds_h22_T  {s0 : wS} (hR : RQ s0)  : ∀ (n : Nat) {x2 : Int32} {s : wS}, wA bP s0 s → 0 ≤ x2.toInt → ((s.1 152 27).toInt = -1 ∧ x2.toInt = 0) ∨ (0 ≤ (s.1 152 27).toInt ∧ (s.1 152 27).toInt < (wW s0).toInt) → 2147483648 - x2.toInt < (n : Int) → Tot (wX11_finds_h22  n x2 s) (fun (r : wS) => wA bP s0 r ∧ (0 < (wW s0).toInt → 0 ≤ (r.1 152 27).toInt ∧ (r.1 152 27).toInt < (wW s0).toInt)) := by
  intro n
  induction n with
  | zero =>
    intro x2 s ha hi hx hm
    exact (t_m0 hm).elim
  | succ n ih =>
    intro x2 s ha hi hx hm
    rw [wX11_finds_h22]
    have hb := RQ_b hR
    have q1 := sameP ha
    have w1 := wW_same q1.1
    have R1 := RQ_P ha hR
    have p1 := ha 152 33 rfl
    refine t_bind (wX11_worlds_T) (fun t7 h2 => ?_)
    refine t_ite (fun c3 => ?_) (fun c3 => ?_)
    · refine t_bind (wX11_wrongIn_T R1 (by first | decide | ((try simp only [q1.1, q1.2.2.2.2, w1, p1, Int32.lt_iff_toInt_lt, Int32.le_iff_toInt_le, ← Int32.toInt_inj, Int32.toInt_toInt64, t_neg1, Int32.reduceToInt, Int64.reduceToInt, Int32.reduceToNatClampNeg, true_or, or_true, true_and, and_true] at *) <;> omega) | ((try simp only [q1.1, q1.2.2.2.2, w1, p1, Int32.lt_iff_toInt_lt, Int32.le_iff_toInt_le, ← Int32.toInt_inj, Int32.toInt_toInt64, t_neg1, Int32.reduceToInt, Int64.reduceToInt, Int32.reduceToNatClampNeg, true_or, or_true, true_and, and_true] at *) <;> (simp (disch := ((try simp (disch := ((try simp (disch := ((try simp only [Int32.reduceToInt]) <;> omega)) only [t_add, t_sub, t_mul, Int32.reduceToInt]) <;> omega)) only [t_add, t_sub, t_mul, Int32.reduceToInt]) <;> omega)) only [t_add, t_sub, t_mul, Int32.reduceToInt]) <;> omega)) (by first | decide | ((try simp only [q1.1, q1.2.2.2.2, w1, p1, Int32.lt_iff_toInt_lt, Int32.le_iff_toInt_le, ← Int32.toInt_inj, Int32.toInt_toInt64, t_neg1, Int32.reduceToInt, Int64.reduceToInt, Int32.reduceToNatClampNeg, true_or, or_true, true_and, and_true] at *) <;> omega) | ((try simp only [q1.1, q1.2.2.2.2, w1, p1, Int32.lt_iff_toInt_lt, Int32.le_iff_toInt_le, ← Int32.toInt_inj, Int32.toInt_toInt64, t_neg1, Int32.reduceToInt, Int64.reduceToInt, Int32.reduceToNatClampNeg, true_or, or_true, true_and, and_true] at *) <;> (simp (disch := ((try simp (disch := ((try simp (disch := ((try simp only [Int32.reduceToInt]) <;> omega)) only [t_add, t_sub, t_mul, Int32.reduceToInt]) <;> omega)) only [t_add, t_sub, t_mul, Int32.reduceToInt]) <;> omega)) only [t_add, t_sub, t_mul, Int32.reduceToInt]) <;> omega))) (fun t10 h4 => ?_)
      refine t_ite (fun c5 => ?_) (fun c5 => ?_)
      · unfold wX11_finds_j52
        refine t_bind (t_pfI (B := bP) rfl) (fun s13 h6 => ?_)
        have f7 : s13.1 152 27 = x2 := by rw [h6.2]; exact wup_same
        have a8 : wA bP s0 s13 := ha.trans h6.1
        have q9 := sameP a8
        have w9 := wW_same q9.1
        have R9 := RQ_P a8 hR
        have p9 := a8 152 33 rfl
        refine t_bind (t_pfI (B := bP) rfl) (fun s14 h10 => ?_)
        have f11 : s14.1 152 27 = s13.1 152 27 := by rw [h10.2]; exact wup_nb (by decide)
        have a12 : wA bP s0 s14 := a8.trans h10.1
        have q13 := sameP a12
        have w13 := wW_same q13.1
        have R13 := RQ_P a12 hR
        have p13 := a12 152 33 rfl
        refine t_bind (t_pfI (B := bP) rfl) (fun s15 h14 => ?_)
        have f15 : s15.1 152 27 = s14.1 152 27 := by rw [h14.2]; exact wup_nb (by decide)
        have a16 : wA bP s0 s15 := a12.trans h14.1
        have q17 := sameP a16
        have w17 := wW_same q17.1
        have R17 := RQ_P a16 hR
        have p17 := a16 152 33 rfl
        unfold wX11_finds_j67
        refine t_ite (fun c18 => ?_) (fun c18 => ?_)
        · unfold wX11_finds_j85
          refine t_bind (t_pfI (B := bP) rfl) (fun s17 h19 => ?_)
          have f20 : s17.1 152 27 = s15.1 152 27 := by rw [h19.2]; exact wup_nb (by decide)
          have a21 : wA bP s0 s17 := a16.trans h19.1
          have q22 := sameP a21
          have w22 := wW_same q22.1
          have R22 := RQ_P a21 hR
          have p22 := a21 152 33 rfl
          exact ih a21 (t_n1 c3 hi) (by first | decide | ((try simp only [q1.1, q1.2.2.2.2, w1, p1, q9.1, q9.2.2.2.2, w9, p9, q13.1, q13.2.2.2.2, w13, p13, q17.1, q17.2.2.2.2, w17, p17, q22.1, q22.2.2.2.2, w22, p22, Int32.lt_iff_toInt_lt, Int32.le_iff_toInt_le, ← Int32.toInt_inj, Int32.toInt_toInt64, t_neg1, Int32.reduceToInt, Int64.reduceToInt, Int32.reduceToNatClampNeg, true_or, or_true, true_and, and_true] at *) <;> omega) | ((try simp only [q1.1, q1.2.2.2.2, w1, p1, q9.1, q9.2.2.2.2, w9, p9, q13.1, q13.2.2.2.2, w13, p13, q17.1, q17.2.2.2.2, w17, p17, q22.1, q22.2.2.2.2, w22, p22, Int32.lt_iff_toInt_lt, Int32.le_iff_toInt_le, ← Int32.toInt_inj, Int32.toInt_toInt64, t_neg1, Int32.reduceToInt, Int64.reduceToInt, Int32.reduceToNatClampNeg, true_or, or_true, true_and, and_true] at *) <;> (simp (disch := ((try simp (disch := ((try simp (disch := ((try simp only [Int32.reduceToInt]) <;> omega)) only [t_add, t_sub, t_mul, Int32.reduceToInt]) <;> omega)) only [t_add, t_sub, t_mul, Int32.reduceToInt]) <;> omega)) only [t_add, t_sub, t_mul, Int32.reduceToInt]) <;> omega)) (t_m1 c3 hm)
        · unfold wX11_finds_j85
          refine t_bind (t_pfI (B := bP) rfl) (fun s17 h23 => ?_)
          have f24 : s17.1 152 27 = s15.1 152 27 := by rw [h23.2]; exact wup_nb (by decide)
          have a25 : wA bP s0 s17 := a16.trans h23.1
          have q26 := sameP a25
          have w26 := wW_same q26.1
          have R26 := RQ_P a25 hR
          have p26 := a25 152 33 rfl
          exact ih a25 (t_n1 c3 hi) (by first | decide | ((try simp only [q1.1, q1.2.2.2.2, w1, p1, q9.1, q9.2.2.2.2, w9, p9, q13.1, q13.2.2.2.2, w13, p13, q17.1, q17.2.2.2.2, w17, p17, q26.1, q26.2.2.2.2, w26, p26, Int32.lt_iff_toInt_lt, Int32.le_iff_toInt_le, ← Int32.toInt_inj, Int32.toInt_toInt64, t_neg1, Int32.reduceToInt, Int64.reduceToInt, Int32.reduceToNatClampNeg, true_or, or_true, true_and, and_true] at *) <;> omega) | ((try simp only [q1.1, q1.2.2.2.2, w1, p1, q9.1, q9.2.2.2.2, w9, p9, q13.1, q13.2.2.2.2, w13, p13, q17.1, q17.2.2.2.2, w17, p17, q26.1, q26.2.2.2.2, w26, p26, Int32.lt_iff_toInt_lt, Int32.le_iff_toInt_le, ← Int32.toInt_inj, Int32.toInt_toInt64, t_neg1, Int32.reduceToInt, Int64.reduceToInt, Int32.reduceToNatClampNeg, true_or, or_true, true_and, and_true] at *) <;> (simp (disch := ((try simp (disch := ((try simp (disch := ((try simp only [Int32.reduceToInt]) <;> omega)) only [t_add, t_sub, t_mul, Int32.reduceToInt]) <;> omega)) only [t_add, t_sub, t_mul, Int32.reduceToInt]) <;> omega)) only [t_add, t_sub, t_mul, Int32.reduceToInt]) <;> omega)) (t_m1 c3 hm)
      · refine t_ite (fun c27 => ?_) (fun c27 => ?_)
        · unfold wX11_finds_j52
          refine t_bind (t_pfI (B := bP) rfl) (fun s13 h28 => ?_)
          have f29 : s13.1 152 27 = x2 := by rw [h28.2]; exact wup_same
          have a30 : wA bP s0 s13 := ha.trans h28.1
          have q31 := sameP a30
          have w31 := wW_same q31.1
          have R31 := RQ_P a30 hR
          have p31 := a30 152 33 rfl
          refine t_bind (t_pfI (B := bP) rfl) (fun s14 h32 => ?_)
          have f33 : s14.1 152 27 = s13.1 152 27 := by rw [h32.2]; exact wup_nb (by decide)
          have a34 : wA bP s0 s14 := a30.trans h32.1
          have q35 := sameP a34
          have w35 := wW_same q35.1
          have R35 := RQ_P a34 hR
          have p35 := a34 152 33 rfl
          refine t_bind (t_pfI (B := bP) rfl) (fun s15 h36 => ?_)
          have f37 : s15.1 152 27 = s14.1 152 27 := by rw [h36.2]; exact wup_nb (by decide)
          have a38 : wA bP s0 s15 := a34.trans h36.1
          have q39 := sameP a38
          have w39 := wW_same q39.1
          have R39 := RQ_P a38 hR
          have p39 := a38 152 33 rfl
          unfold wX11_finds_j67
          refine t_ite (fun c40 => ?_) (fun c40 => ?_)
          · unfold wX11_finds_j85
            refine t_bind (t_pfI (B := bP) rfl) (fun s17 h41 => ?_)
            have f42 : s17.1 152 27 = s15.1 152 27 := by rw [h41.2]; exact wup_nb (by decide)
            have a43 : wA bP s0 s17 := a38.trans h41.1
            have q44 := sameP a43
            have w44 := wW_same q44.1
            have R44 := RQ_P a43 hR
            have p44 := a43 152 33 rfl
            exact ih a43 (t_n1 c3 hi) (by first | decide | ((try simp only [q1.1, q1.2.2.2.2, w1, p1, q31.1, q31.2.2.2.2, w31, p31, q35.1, q35.2.2.2.2, w35, p35, q39.1, q39.2.2.2.2, w39, p39, q44.1, q44.2.2.2.2, w44, p44, Int32.lt_iff_toInt_lt, Int32.le_iff_toInt_le, ← Int32.toInt_inj, Int32.toInt_toInt64, t_neg1, Int32.reduceToInt, Int64.reduceToInt, Int32.reduceToNatClampNeg, true_or, or_true, true_and, and_true] at *) <;> omega) | ((try simp only [q1.1, q1.2.2.2.2, w1, p1, q31.1, q31.2.2.2.2, w31, p31, q35.1, q35.2.2.2.2, w35, p35, q39.1, q39.2.2.2.2, w39, p39, q44.1, q44.2.2.2.2, w44, p44, Int32.lt_iff_toInt_lt, Int32.le_iff_toInt_le, ← Int32.toInt_inj, Int32.toInt_toInt64, t_neg1, Int32.reduceToInt, Int64.reduceToInt, Int32.reduceToNatClampNeg, true_or, or_true, true_and, and_true] at *) <;> (simp (disch := ((try simp (disch := ((try simp (disch := ((try simp only [Int32.reduceToInt]) <;> omega)) only [t_add, t_sub, t_mul, Int32.reduceToInt]) <;> omega)) only [t_add, t_sub, t_mul, Int32.reduceToInt]) <;> omega)) only [t_add, t_sub, t_mul, Int32.reduceToInt]) <;> omega)) (t_m1 c3 hm)
          · unfold wX11_finds_j85
            refine t_bind (t_pfI (B := bP) rfl) (fun s17 h45 => ?_)
            have f46 : s17.1 152 27 = s15.1 152 27 := by rw [h45.2]; exact wup_nb (by decide)
            have a47 : wA bP s0 s17 := a38.trans h45.1
            have q48 := sameP a47
            have w48 := wW_same q48.1
            have R48 := RQ_P a47 hR
            have p48 := a47 152 33 rfl
            exact ih a47 (t_n1 c3 hi) (by first | decide | ((try simp only [q1.1, q1.2.2.2.2, w1, p1, q31.1, q31.2.2.2.2, w31, p31, q35.1, q35.2.2.2.2, w35, p35, q39.1, q39.2.2.2.2, w39, p39, q48.1, q48.2.2.2.2, w48, p48, Int32.lt_iff_toInt_lt, Int32.le_iff_toInt_le, ← Int32.toInt_inj, Int32.toInt_toInt64, t_neg1, Int32.reduceToInt, Int64.reduceToInt, Int32.reduceToNatClampNeg, true_or, or_true, true_and, and_true] at *) <;> omega) | ((try simp only [q1.1, q1.2.2.2.2, w1, p1, q31.1, q31.2.2.2.2, w31, p31, q35.1, q35.2.2.2.2, w35, p35, q39.1, q39.2.2.2.2, w39, p39, q48.1, q48.2.2.2.2, w48, p48, Int32.lt_iff_toInt_lt, Int32.le_iff_toInt_le, ← Int32.toInt_inj, Int32.toInt_toInt64, t_neg1, Int32.reduceToInt, Int64.reduceToInt, Int32.reduceToNatClampNeg, true_or, or_true, true_and, and_true] at *) <;> (simp (disch := ((try simp (disch := ((try simp (disch := ((try simp only [Int32.reduceToInt]) <;> omega)) only [t_add, t_sub, t_mul, Int32.reduceToInt]) <;> omega)) only [t_add, t_sub, t_mul, Int32.reduceToInt]) <;> omega)) only [t_add, t_sub, t_mul, Int32.reduceToInt]) <;> omega)) (t_m1 c3 hm)
        · unfold wX11_finds_j67
          refine t_ite (fun c49 => ?_) (fun c49 => ?_)
          · unfold wX11_finds_j85
            refine t_bind (t_pfI (B := bP) rfl) (fun s17 h50 => ?_)
            have f51 : s17.1 152 27 = s.1 152 27 := by rw [h50.2]; exact wup_nb (by decide)
            have a52 : wA bP s0 s17 := ha.trans h50.1
            have q53 := sameP a52
            have w53 := wW_same q53.1
            have R53 := RQ_P a52 hR
            have p53 := a52 152 33 rfl
            exact ih a52 (t_n1 c3 hi) (by first | decide | ((try simp only [q1.1, q1.2.2.2.2, w1, p1, q53.1, q53.2.2.2.2, w53, p53, Int32.lt_iff_toInt_lt, Int32.le_iff_toInt_le, ← Int32.toInt_inj, Int32.toInt_toInt64, t_neg1, Int32.reduceToInt, Int64.reduceToInt, Int32.reduceToNatClampNeg, true_or, or_true, true_and, and_true] at *) <;> omega) | ((try simp only [q1.1, q1.2.2.2.2, w1, p1, q53.1, q53.2.2.2.2, w53, p53, Int32.lt_iff_toInt_lt, Int32.le_iff_toInt_le, ← Int32.toInt_inj, Int32.toInt_toInt64, t_neg1, Int32.reduceToInt, Int64.reduceToInt, Int32.reduceToNatClampNeg, true_or, or_true, true_and, and_true] at *) <;> (simp (disch := ((try simp (disch := ((try simp (disch := ((try simp only [Int32.reduceToInt]) <;> omega)) only [t_add, t_sub, t_mul, Int32.reduceToInt]) <;> omega)) only [t_add, t_sub, t_mul, Int32.reduceToInt]) <;> omega)) only [t_add, t_sub, t_mul, Int32.reduceToInt]) <;> omega)) (t_m1 c3 hm)
          · unfold wX11_finds_j85
            refine t_bind (t_pfI (B := bP) rfl) (fun s17 h54 => ?_)
            have f55 : s17.1 152 27 = s.1 152 27 := by rw [h54.2]; exact wup_nb (by decide)
            have a56 : wA bP s0 s17 := ha.trans h54.1
            have q57 := sameP a56
            have w57 := wW_same q57.1
            have R57 := RQ_P a56 hR
            have p57 := a56 152 33 rfl
            exact ih a56 (t_n1 c3 hi) (by first | decide | ((try simp only [q1.1, q1.2.2.2.2, w1, p1, q57.1, q57.2.2.2.2, w57, p57, Int32.lt_iff_toInt_lt, Int32.le_iff_toInt_le, ← Int32.toInt_inj, Int32.toInt_toInt64, t_neg1, Int32.reduceToInt, Int64.reduceToInt, Int32.reduceToNatClampNeg, true_or, or_true, true_and, and_true] at *) <;> omega) | ((try simp only [q1.1, q1.2.2.2.2, w1, p1, q57.1, q57.2.2.2.2, w57, p57, Int32.lt_iff_toInt_lt, Int32.le_iff_toInt_le, ← Int32.toInt_inj, Int32.toInt_toInt64, t_neg1, Int32.reduceToInt, Int64.reduceToInt, Int32.reduceToNatClampNeg, true_or, or_true, true_and, and_true] at *) <;> (simp (disch := ((try simp (disch := ((try simp (disch := ((try simp only [Int32.reduceToInt]) <;> omega)) only [t_add, t_sub, t_mul, Int32.reduceToInt]) <;> omega)) only [t_add, t_sub, t_mul, Int32.reduceToInt]) <;> omega)) only [t_add, t_sub, t_mul, Int32.reduceToInt]) <;> omega)) (t_m1 c3 hm)
    · exact t_some ⟨ha, (by first | decide | ((try simp only [q1.1, q1.2.2.2.2, w1, p1, Int32.lt_iff_toInt_lt, Int32.le_iff_toInt_le, ← Int32.toInt_inj, Int32.toInt_toInt64, t_neg1, Int32.reduceToInt, Int64.reduceToInt, Int32.reduceToNatClampNeg, true_or, or_true, true_and, and_true] at *) <;> omega) | ((try simp only [q1.1, q1.2.2.2.2, w1, p1, Int32.lt_iff_toInt_lt, Int32.le_iff_toInt_le, ← Int32.toInt_inj, Int32.toInt_toInt64, t_neg1, Int32.reduceToInt, Int64.reduceToInt, Int32.reduceToNatClampNeg, true_or, or_true, true_and, and_true] at *) <;> (simp (disch := ((try simp (disch := ((try simp (disch := ((try simp only [Int32.reduceToInt]) <;> omega)) only [t_add, t_sub, t_mul, Int32.reduceToInt]) <;> omega)) only [t_add, t_sub, t_mul, Int32.reduceToInt]) <;> omega)) only [t_add, t_sub, t_mul, Int32.reduceToInt]) <;> omega))⟩
theorem wX11_finds_T {x1 : Int32} {s : wS} (hR : RQ s) (hl : 0 ≤ x1.toInt) (hl2 : x1.toInt < (s.1 152 2).toInt) : Tot (wX11_finds x1 s) (fun (r : wS) => wA bP s r ∧ (0 < (wW s).toInt → 0 ≤ (r.1 152 27).toInt ∧ (r.1 152 27).toInt < (wW s).toInt)) := by
  unfold wX11_finds
  have hb := RQ_b hR
  refine t_bind (wX11_reaches_T hR (by first | decide | ((try simp only [Int32.lt_iff_toInt_lt, Int32.le_iff_toInt_le, ← Int32.toInt_inj, Int32.toInt_toInt64, t_neg1, Int32.reduceToInt, Int64.reduceToInt, Int32.reduceToNatClampNeg, true_or, or_true, true_and, and_true] at *) <;> omega) | ((try simp only [Int32.lt_iff_toInt_lt, Int32.le_iff_toInt_le, ← Int32.toInt_inj, Int32.toInt_toInt64, t_neg1, Int32.reduceToInt, Int64.reduceToInt, Int32.reduceToNatClampNeg, true_or, or_true, true_and, and_true] at *) <;> (simp (disch := ((try simp (disch := ((try simp (disch := ((try simp only [Int32.reduceToInt]) <;> omega)) only [t_add, t_sub, t_mul, Int32.reduceToInt]) <;> omega)) only [t_add, t_sub, t_mul, Int32.reduceToInt]) <;> omega)) only [t_add, t_sub, t_mul, Int32.reduceToInt]) <;> omega)) (by first | decide | ((try simp only [Int32.lt_iff_toInt_lt, Int32.le_iff_toInt_le, ← Int32.toInt_inj, Int32.toInt_toInt64, t_neg1, Int32.reduceToInt, Int64.reduceToInt, Int32.reduceToNatClampNeg, true_or, or_true, true_and, and_true] at *) <;> omega) | ((try simp only [Int32.lt_iff_toInt_lt, Int32.le_iff_toInt_le, ← Int32.toInt_inj, Int32.toInt_toInt64, t_neg1, Int32.reduceToInt, Int64.reduceToInt, Int32.reduceToNatClampNeg, true_or, or_true, true_and, and_true] at *) <;> (simp (disch := ((try simp (disch := ((try simp (disch := ((try simp only [Int32.reduceToInt]) <;> omega)) only [t_add, t_sub, t_mul, Int32.reduceToInt]) <;> omega)) only [t_add, t_sub, t_mul, Int32.reduceToInt]) <;> omega)) only [t_add, t_sub, t_mul, Int32.reduceToInt]) <;> omega))) (fun s2 h1 => ?_)
  have a2 : wA bP s s2 := h1
  have q3 := sameP a2
  have w3 := wW_same q3.1
  have R3 := RQ_P a2 hR
  have p3 := a2 152 33 rfl
  refine t_bind (t_pfI (B := bP) rfl) (fun s4 h4 => ?_)
  have f5 : s4.1 152 27 = (-1) := by rw [h4.2]; exact wup_same
  have a6 : wA bP s s4 := a2.trans h4.1
  have q7 := sameP a6
  have w7 := wW_same q7.1
  have R7 := RQ_P a6 hR
  have p7 := a6 152 33 rfl
  refine t_bind (t_pfI (B := bP) rfl) (fun s5 h8 => ?_)
  have f9 : s5.1 152 27 = s4.1 152 27 := by rw [h8.2]; exact wup_nb (by decide)
  have a10 : wA bP s s5 := a6.trans h8.1
  have q11 := sameP a10
  have w11 := wW_same q11.1
  have R11 := RQ_P a10 hR
  have p11 := a10 152 33 rfl
  refine t_bind (t_pfI (B := bP) rfl) (fun s6 h12 => ?_)
  have f13 : s6.1 152 27 = s5.1 152 27 := by rw [h12.2]; exact wup_nb (by decide)
  have a14 : wA bP s s6 := a10.trans h12.1
  have q15 := sameP a14
  have w15 := wW_same q15.1
  have R15 := RQ_P a14 hR
  have p15 := a14 152 33 rfl
  refine t_bind (wX11_finds_h22_T R15 _ wA.refl (by decide) (by first | decide | ((try simp only [q3.1, q3.2.2.2.2, w3, p3, q7.1, q7.2.2.2.2, w7, p7, q11.1, q11.2.2.2.2, w11, p11, q15.1, q15.2.2.2.2, w15, p15, Int32.lt_iff_toInt_lt, Int32.le_iff_toInt_le, ← Int32.toInt_inj, Int32.toInt_toInt64, t_neg1, Int32.reduceToInt, Int64.reduceToInt, Int32.reduceToNatClampNeg, true_or, or_true, true_and, and_true] at *) <;> omega) | ((try simp only [q3.1, q3.2.2.2.2, w3, p3, q7.1, q7.2.2.2.2, w7, p7, q11.1, q11.2.2.2.2, w11, p11, q15.1, q15.2.2.2.2, w15, p15, Int32.lt_iff_toInt_lt, Int32.le_iff_toInt_le, ← Int32.toInt_inj, Int32.toInt_toInt64, t_neg1, Int32.reduceToInt, Int64.reduceToInt, Int32.reduceToNatClampNeg, true_or, or_true, true_and, and_true] at *) <;> (simp (disch := ((try simp (disch := ((try simp (disch := ((try simp only [Int32.reduceToInt]) <;> omega)) only [t_add, t_sub, t_mul, Int32.reduceToInt]) <;> omega)) only [t_add, t_sub, t_mul, Int32.reduceToInt]) <;> omega)) only [t_add, t_sub, t_mul, Int32.reduceToInt]) <;> omega)) t_mi) (fun s20 h16 => ?_)
  have a17 : wA bP s s20 := a14.trans h16.1
  have q18 := sameP a17
  have w18 := wW_same q18.1
  have R18 := RQ_P a17 hR
  have p18 := a17 152 33 rfl
  exact t_some ⟨a17, (by first | decide | ((try simp only [q3.1, q3.2.2.2.2, w3, p3, q7.1, q7.2.2.2.2, w7, p7, q11.1, q11.2.2.2.2, w11, p11, q15.1, q15.2.2.2.2, w15, p15, q18.1, q18.2.2.2.2, w18, p18, Int32.lt_iff_toInt_lt, Int32.le_iff_toInt_le, ← Int32.toInt_inj, Int32.toInt_toInt64, t_neg1, Int32.reduceToInt, Int64.reduceToInt, Int32.reduceToNatClampNeg, true_or, or_true, true_and, and_true] at *) <;> omega) | ((try simp only [q3.1, q3.2.2.2.2, w3, p3, q7.1, q7.2.2.2.2, w7, p7, q11.1, q11.2.2.2.2, w11, p11, q15.1, q15.2.2.2.2, w15, p15, q18.1, q18.2.2.2.2, w18, p18, Int32.lt_iff_toInt_lt, Int32.le_iff_toInt_le, ← Int32.toInt_inj, Int32.toInt_toInt64, t_neg1, Int32.reduceToInt, Int64.reduceToInt, Int32.reduceToNatClampNeg, true_or, or_true, true_and, and_true] at *) <;> (simp (disch := ((try simp (disch := ((try simp (disch := ((try simp only [Int32.reduceToInt]) <;> omega)) only [t_add, t_sub, t_mul, Int32.reduceToInt]) <;> omega)) only [t_add, t_sub, t_mul, Int32.reduceToInt]) <;> omega)) only [t_add, t_sub, t_mul, Int32.reduceToInt]) <;> omega))⟩
theorem wX11_fewest_T {x1 : Int32} {x2 : Int32} {s : wS} (hR : RQ s)  : Tot (wX11_fewest x1 x2 s) (fun (r : Int32 × wS) => wA bP s r.2) := by
  unfold wX11_fewest
  have hb := RQ_b hR
  refine t_bind (wX11_canAsk_T) (fun t1 h1 => ?_)
  refine t_ite (fun c2 => ?_) (fun c2 => ?_)
  · exact t_some wA.refl
  · refine t_bind (wX11_in_T) (fun t4 h3 => ?_)
    refine t_ite (fun c4 => ?_) (fun c4 => ?_)
    · exact t_some wA.refl
    · refine t_bind (wX11_finds_T hR (by first | decide | ((try simp only [Int32.lt_iff_toInt_lt, Int32.le_iff_toInt_le, ← Int32.toInt_inj, Int32.toInt_toInt64, t_neg1, Int32.reduceToInt, Int64.reduceToInt, Int32.reduceToNatClampNeg, true_or, or_true, true_and, and_true] at *) <;> omega) | ((try simp only [Int32.lt_iff_toInt_lt, Int32.le_iff_toInt_le, ← Int32.toInt_inj, Int32.toInt_toInt64, t_neg1, Int32.reduceToInt, Int64.reduceToInt, Int32.reduceToNatClampNeg, true_or, or_true, true_and, and_true] at *) <;> (simp (disch := ((try simp (disch := ((try simp (disch := ((try simp only [Int32.reduceToInt]) <;> omega)) only [t_add, t_sub, t_mul, Int32.reduceToInt]) <;> omega)) only [t_add, t_sub, t_mul, Int32.reduceToInt]) <;> omega)) only [t_add, t_sub, t_mul, Int32.reduceToInt]) <;> omega)) (by first | decide | ((try simp only [Int32.lt_iff_toInt_lt, Int32.le_iff_toInt_le, ← Int32.toInt_inj, Int32.toInt_toInt64, t_neg1, Int32.reduceToInt, Int64.reduceToInt, Int32.reduceToNatClampNeg, true_or, or_true, true_and, and_true] at *) <;> omega) | ((try simp only [Int32.lt_iff_toInt_lt, Int32.le_iff_toInt_le, ← Int32.toInt_inj, Int32.toInt_toInt64, t_neg1, Int32.reduceToInt, Int64.reduceToInt, Int32.reduceToNatClampNeg, true_or, or_true, true_and, and_true] at *) <;> (simp (disch := ((try simp (disch := ((try simp (disch := ((try simp only [Int32.reduceToInt]) <;> omega)) only [t_add, t_sub, t_mul, Int32.reduceToInt]) <;> omega)) only [t_add, t_sub, t_mul, Int32.reduceToInt]) <;> omega)) only [t_add, t_sub, t_mul, Int32.reduceToInt]) <;> omega))) (fun s8 h5 => ?_)
      have a6 : wA bP s s8 := h5.1
      have q7 := sameP a6
      have w7 := wW_same q7.1
      have R7 := RQ_P a6 hR
      have p7 := a6 152 33 rfl
      refine t_ite (fun c8 => ?_) (fun c8 => ?_)
      · exact t_some a6
      · refine t_ite (fun c9 => ?_) (fun c9 => ?_)
        · exact t_some a6
        · exact t_some a6
theorem wX11_falseOnes_h22_T {s : wS} (hR : RQ s) (hq : 0 ≤ (s.1 152 27).toInt) (hq2 : (s.1 152 27).toInt < (wW s).toInt) : ∀ (n : Nat) {x2 : Int64} {x4 : Int32}, 0 ≤ x4.toInt → 2147483648 - x4.toInt < (n : Int) → Tot (wX11_falseOnes_h22 s n x2 x4) (fun (_ : Int64) => True) := by
  intro n
  induction n with
  | zero =>
    intro x2 x4 hi hm
    exact (t_m0 hm).elim
  | succ n ih =>
    intro x2 x4 hi hm
    rw [wX11_falseOnes_h22]
    have hb := RQ_b hR
    refine t_ite (fun c1 => ?_) (fun c1 => ?_)
    · refine t_bind (wX11_isLookedAt_T hR (by first | decide | ((try simp only [Int32.lt_iff_toInt_lt, Int32.le_iff_toInt_le, ← Int32.toInt_inj, Int32.toInt_toInt64, t_neg1, Int32.reduceToInt, Int64.reduceToInt, Int32.reduceToNatClampNeg, true_or, or_true, true_and, and_true] at *) <;> omega) | ((try simp only [Int32.lt_iff_toInt_lt, Int32.le_iff_toInt_le, ← Int32.toInt_inj, Int32.toInt_toInt64, t_neg1, Int32.reduceToInt, Int64.reduceToInt, Int32.reduceToNatClampNeg, true_or, or_true, true_and, and_true] at *) <;> (simp (disch := ((try simp (disch := ((try simp (disch := ((try simp only [Int32.reduceToInt]) <;> omega)) only [t_add, t_sub, t_mul, Int32.reduceToInt]) <;> omega)) only [t_add, t_sub, t_mul, Int32.reduceToInt]) <;> omega)) only [t_add, t_sub, t_mul, Int32.reduceToInt]) <;> omega)) (by first | decide | ((try simp only [Int32.lt_iff_toInt_lt, Int32.le_iff_toInt_le, ← Int32.toInt_inj, Int32.toInt_toInt64, t_neg1, Int32.reduceToInt, Int64.reduceToInt, Int32.reduceToNatClampNeg, true_or, or_true, true_and, and_true] at *) <;> omega) | ((try simp only [Int32.lt_iff_toInt_lt, Int32.le_iff_toInt_le, ← Int32.toInt_inj, Int32.toInt_toInt64, t_neg1, Int32.reduceToInt, Int64.reduceToInt, Int32.reduceToNatClampNeg, true_or, or_true, true_and, and_true] at *) <;> (simp (disch := ((try simp (disch := ((try simp (disch := ((try simp only [Int32.reduceToInt]) <;> omega)) only [t_add, t_sub, t_mul, Int32.reduceToInt]) <;> omega)) only [t_add, t_sub, t_mul, Int32.reduceToInt]) <;> omega)) only [t_add, t_sub, t_mul, Int32.reduceToInt]) <;> omega))) (fun t9 h2 => ?_)
      refine t_ite (fun c3 => ?_) (fun c3 => ?_)
      · unfold wX11_falseOnes_j63
        unfold wX11_falseOnes_j64
        exact ih (t_n1 c1 hi) (t_m1 c1 hm)
      · refine t_bind (wX11_isTrue_T hR (by first | decide | ((try simp only [Int32.lt_iff_toInt_lt, Int32.le_iff_toInt_le, ← Int32.toInt_inj, Int32.toInt_toInt64, t_neg1, Int32.reduceToInt, Int64.reduceToInt, Int32.reduceToNatClampNeg, true_or, or_true, true_and, and_true] at *) <;> omega) | ((try simp only [Int32.lt_iff_toInt_lt, Int32.le_iff_toInt_le, ← Int32.toInt_inj, Int32.toInt_toInt64, t_neg1, Int32.reduceToInt, Int64.reduceToInt, Int32.reduceToNatClampNeg, true_or, or_true, true_and, and_true] at *) <;> (simp (disch := ((try simp (disch := ((try simp (disch := ((try simp only [Int32.reduceToInt]) <;> omega)) only [t_add, t_sub, t_mul, Int32.reduceToInt]) <;> omega)) only [t_add, t_sub, t_mul, Int32.reduceToInt]) <;> omega)) only [t_add, t_sub, t_mul, Int32.reduceToInt]) <;> omega)) (by first | decide | ((try simp only [Int32.lt_iff_toInt_lt, Int32.le_iff_toInt_le, ← Int32.toInt_inj, Int32.toInt_toInt64, t_neg1, Int32.reduceToInt, Int64.reduceToInt, Int32.reduceToNatClampNeg, true_or, or_true, true_and, and_true] at *) <;> omega) | ((try simp only [Int32.lt_iff_toInt_lt, Int32.le_iff_toInt_le, ← Int32.toInt_inj, Int32.toInt_toInt64, t_neg1, Int32.reduceToInt, Int64.reduceToInt, Int32.reduceToNatClampNeg, true_or, or_true, true_and, and_true] at *) <;> (simp (disch := ((try simp (disch := ((try simp (disch := ((try simp only [Int32.reduceToInt]) <;> omega)) only [t_add, t_sub, t_mul, Int32.reduceToInt]) <;> omega)) only [t_add, t_sub, t_mul, Int32.reduceToInt]) <;> omega)) only [t_add, t_sub, t_mul, Int32.reduceToInt]) <;> omega)) (by first | decide | ((try simp only [Int32.lt_iff_toInt_lt, Int32.le_iff_toInt_le, ← Int32.toInt_inj, Int32.toInt_toInt64, t_neg1, Int32.reduceToInt, Int64.reduceToInt, Int32.reduceToNatClampNeg, true_or, or_true, true_and, and_true] at *) <;> omega) | ((try simp only [Int32.lt_iff_toInt_lt, Int32.le_iff_toInt_le, ← Int32.toInt_inj, Int32.toInt_toInt64, t_neg1, Int32.reduceToInt, Int64.reduceToInt, Int32.reduceToNatClampNeg, true_or, or_true, true_and, and_true] at *) <;> (simp (disch := ((try simp (disch := ((try simp (disch := ((try simp only [Int32.reduceToInt]) <;> omega)) only [t_add, t_sub, t_mul, Int32.reduceToInt]) <;> omega)) only [t_add, t_sub, t_mul, Int32.reduceToInt]) <;> omega)) only [t_add, t_sub, t_mul, Int32.reduceToInt]) <;> omega)) (by first | decide | ((try simp only [Int32.lt_iff_toInt_lt, Int32.le_iff_toInt_le, ← Int32.toInt_inj, Int32.toInt_toInt64, t_neg1, Int32.reduceToInt, Int64.reduceToInt, Int32.reduceToNatClampNeg, true_or, or_true, true_and, and_true] at *) <;> omega) | ((try simp only [Int32.lt_iff_toInt_lt, Int32.le_iff_toInt_le, ← Int32.toInt_inj, Int32.toInt_toInt64, t_neg1, Int32.reduceToInt, Int64.reduceToInt, Int32.reduceToNatClampNeg, true_or, or_true, true_and, and_true] at *) <;> (simp (disch := ((try simp (disch := ((try simp (disch := ((try simp only [Int32.reduceToInt]) <;> omega)) only [t_add, t_sub, t_mul, Int32.reduceToInt]) <;> omega)) only [t_add, t_sub, t_mul, Int32.reduceToInt]) <;> omega)) only [t_add, t_sub, t_mul, Int32.reduceToInt]) <;> omega))) (fun t12 h4 => ?_)
        refine t_ite (fun c5 => ?_) (fun c5 => ?_)
        · unfold wX11_falseOnes_j64
          exact ih (t_n1 c1 hi) (t_m1 c1 hm)
        · unfold wX11_falseOnes_j63
          unfold wX11_falseOnes_j64
          exact ih (t_n1 c1 hi) (t_m1 c1 hm)
    · exact t_some trivial
theorem wX11_falseOnes_T {x1 : Int32} {s : wS} (hR : RQ s)  : Tot (wX11_falseOnes x1 s) (fun (r : Int64 × wS) => wA bP s r.2) := by
  unfold wX11_falseOnes
  have hb := RQ_b hR
  refine t_bind (wX11_canAsk_T) (fun t1 h1 => ?_)
  refine t_ite (fun c2 => ?_) (fun c2 => ?_)
  · exact t_some wA.refl
  · refine t_bind (wX11_finds_T hR (by first | decide | ((try simp only [Int32.lt_iff_toInt_lt, Int32.le_iff_toInt_le, ← Int32.toInt_inj, Int32.toInt_toInt64, t_neg1, Int32.reduceToInt, Int64.reduceToInt, Int32.reduceToNatClampNeg, true_or, or_true, true_and, and_true] at *) <;> omega) | ((try simp only [Int32.lt_iff_toInt_lt, Int32.le_iff_toInt_le, ← Int32.toInt_inj, Int32.toInt_toInt64, t_neg1, Int32.reduceToInt, Int64.reduceToInt, Int32.reduceToNatClampNeg, true_or, or_true, true_and, and_true] at *) <;> (simp (disch := ((try simp (disch := ((try simp (disch := ((try simp only [Int32.reduceToInt]) <;> omega)) only [t_add, t_sub, t_mul, Int32.reduceToInt]) <;> omega)) only [t_add, t_sub, t_mul, Int32.reduceToInt]) <;> omega)) only [t_add, t_sub, t_mul, Int32.reduceToInt]) <;> omega)) (by first | decide | ((try simp only [Int32.lt_iff_toInt_lt, Int32.le_iff_toInt_le, ← Int32.toInt_inj, Int32.toInt_toInt64, t_neg1, Int32.reduceToInt, Int64.reduceToInt, Int32.reduceToNatClampNeg, true_or, or_true, true_and, and_true] at *) <;> omega) | ((try simp only [Int32.lt_iff_toInt_lt, Int32.le_iff_toInt_le, ← Int32.toInt_inj, Int32.toInt_toInt64, t_neg1, Int32.reduceToInt, Int64.reduceToInt, Int32.reduceToNatClampNeg, true_or, or_true, true_and, and_true] at *) <;> (simp (disch := ((try simp (disch := ((try simp (disch := ((try simp only [Int32.reduceToInt]) <;> omega)) only [t_add, t_sub, t_mul, Int32.reduceToInt]) <;> omega)) only [t_add, t_sub, t_mul, Int32.reduceToInt]) <;> omega)) only [t_add, t_sub, t_mul, Int32.reduceToInt]) <;> omega))) (fun s5 h3 => ?_)
    have a4 : wA bP s s5 := h3.1
    have q5 := sameP a4
    have w5 := wW_same q5.1
    have R5 := RQ_P a4 hR
    have p5 := a4 152 33 rfl
    refine t_bind (wX11_falseOnes_h22_T R5 (by first | decide | ((try simp only [q5.1, q5.2.2.2.2, w5, p5, Int32.lt_iff_toInt_lt, Int32.le_iff_toInt_le, ← Int32.toInt_inj, Int32.toInt_toInt64, t_neg1, Int32.reduceToInt, Int64.reduceToInt, Int32.reduceToNatClampNeg, true_or, or_true, true_and, and_true] at *) <;> omega) | ((try simp only [q5.1, q5.2.2.2.2, w5, p5, Int32.lt_iff_toInt_lt, Int32.le_iff_toInt_le, ← Int32.toInt_inj, Int32.toInt_toInt64, t_neg1, Int32.reduceToInt, Int64.reduceToInt, Int32.reduceToNatClampNeg, true_or, or_true, true_and, and_true] at *) <;> (simp (disch := ((try simp (disch := ((try simp (disch := ((try simp only [Int32.reduceToInt]) <;> omega)) only [t_add, t_sub, t_mul, Int32.reduceToInt]) <;> omega)) only [t_add, t_sub, t_mul, Int32.reduceToInt]) <;> omega)) only [t_add, t_sub, t_mul, Int32.reduceToInt]) <;> omega)) (by first | decide | ((try simp only [q5.1, q5.2.2.2.2, w5, p5, Int32.lt_iff_toInt_lt, Int32.le_iff_toInt_le, ← Int32.toInt_inj, Int32.toInt_toInt64, t_neg1, Int32.reduceToInt, Int64.reduceToInt, Int32.reduceToNatClampNeg, true_or, or_true, true_and, and_true] at *) <;> omega) | ((try simp only [q5.1, q5.2.2.2.2, w5, p5, Int32.lt_iff_toInt_lt, Int32.le_iff_toInt_le, ← Int32.toInt_inj, Int32.toInt_toInt64, t_neg1, Int32.reduceToInt, Int64.reduceToInt, Int32.reduceToNatClampNeg, true_or, or_true, true_and, and_true] at *) <;> (simp (disch := ((try simp (disch := ((try simp (disch := ((try simp only [Int32.reduceToInt]) <;> omega)) only [t_add, t_sub, t_mul, Int32.reduceToInt]) <;> omega)) only [t_add, t_sub, t_mul, Int32.reduceToInt]) <;> omega)) only [t_add, t_sub, t_mul, Int32.reduceToInt]) <;> omega)) _ (by decide) t_mi) (fun t16 h6 => ?_)
    exact t_some a4
theorem wX11_liars_h33_T {x2 : Int32} {x3 : Int32} {s : wS} (hR : RQ s) (hw : 0 ≤ x3.toInt) (hw2 : x3.toInt < (wW s).toInt) : ∀ (n : Nat) {x4 : Int32} {x5 : Int32}, 0 ≤ x5.toInt → 2147483648 - x5.toInt < (n : Int) → Tot (wX11_liars_h33 x2 x3 s n x4 x5) (fun (_ : Int32) => True) := by
  intro n
  induction n with
  | zero =>
    intro x4 x5 hi hm
    exact (t_m0 hm).elim
  | succ n ih =>
    intro x4 x5 hi hm
    rw [wX11_liars_h33]
    have hb := RQ_b hR
    refine t_ite (fun c1 => ?_) (fun c1 => ?_)
    · refine t_bind (wX11_isLookedAt_T hR (by first | decide | ((try simp only [Int32.lt_iff_toInt_lt, Int32.le_iff_toInt_le, ← Int32.toInt_inj, Int32.toInt_toInt64, t_neg1, Int32.reduceToInt, Int64.reduceToInt, Int32.reduceToNatClampNeg, true_or, or_true, true_and, and_true] at *) <;> omega) | ((try simp only [Int32.lt_iff_toInt_lt, Int32.le_iff_toInt_le, ← Int32.toInt_inj, Int32.toInt_toInt64, t_neg1, Int32.reduceToInt, Int64.reduceToInt, Int32.reduceToNatClampNeg, true_or, or_true, true_and, and_true] at *) <;> (simp (disch := ((try simp (disch := ((try simp (disch := ((try simp only [Int32.reduceToInt]) <;> omega)) only [t_add, t_sub, t_mul, Int32.reduceToInt]) <;> omega)) only [t_add, t_sub, t_mul, Int32.reduceToInt]) <;> omega)) only [t_add, t_sub, t_mul, Int32.reduceToInt]) <;> omega)) (by first | decide | ((try simp only [Int32.lt_iff_toInt_lt, Int32.le_iff_toInt_le, ← Int32.toInt_inj, Int32.toInt_toInt64, t_neg1, Int32.reduceToInt, Int64.reduceToInt, Int32.reduceToNatClampNeg, true_or, or_true, true_and, and_true] at *) <;> omega) | ((try simp only [Int32.lt_iff_toInt_lt, Int32.le_iff_toInt_le, ← Int32.toInt_inj, Int32.toInt_toInt64, t_neg1, Int32.reduceToInt, Int64.reduceToInt, Int32.reduceToNatClampNeg, true_or, or_true, true_and, and_true] at *) <;> (simp (disch := ((try simp (disch := ((try simp (disch := ((try simp only [Int32.reduceToInt]) <;> omega)) only [t_add, t_sub, t_mul, Int32.reduceToInt]) <;> omega)) only [t_add, t_sub, t_mul, Int32.reduceToInt]) <;> omega)) only [t_add, t_sub, t_mul, Int32.reduceToInt]) <;> omega))) (fun t12 h2 => ?_)
      refine t_ite (fun c3 => ?_) (fun c3 => ?_)
      · unfold wX11_liars_j77
        unfold wX11_liars_j78
        exact ih (t_n1 c1 hi) (t_m1 c1 hm)
      · refine t_bind (wX11_isTrue_T hR (by first | decide | ((try simp only [Int32.lt_iff_toInt_lt, Int32.le_iff_toInt_le, ← Int32.toInt_inj, Int32.toInt_toInt64, t_neg1, Int32.reduceToInt, Int64.reduceToInt, Int32.reduceToNatClampNeg, true_or, or_true, true_and, and_true] at *) <;> omega) | ((try simp only [Int32.lt_iff_toInt_lt, Int32.le_iff_toInt_le, ← Int32.toInt_inj, Int32.toInt_toInt64, t_neg1, Int32.reduceToInt, Int64.reduceToInt, Int32.reduceToNatClampNeg, true_or, or_true, true_and, and_true] at *) <;> (simp (disch := ((try simp (disch := ((try simp (disch := ((try simp only [Int32.reduceToInt]) <;> omega)) only [t_add, t_sub, t_mul, Int32.reduceToInt]) <;> omega)) only [t_add, t_sub, t_mul, Int32.reduceToInt]) <;> omega)) only [t_add, t_sub, t_mul, Int32.reduceToInt]) <;> omega)) (by first | decide | ((try simp only [Int32.lt_iff_toInt_lt, Int32.le_iff_toInt_le, ← Int32.toInt_inj, Int32.toInt_toInt64, t_neg1, Int32.reduceToInt, Int64.reduceToInt, Int32.reduceToNatClampNeg, true_or, or_true, true_and, and_true] at *) <;> omega) | ((try simp only [Int32.lt_iff_toInt_lt, Int32.le_iff_toInt_le, ← Int32.toInt_inj, Int32.toInt_toInt64, t_neg1, Int32.reduceToInt, Int64.reduceToInt, Int32.reduceToNatClampNeg, true_or, or_true, true_and, and_true] at *) <;> (simp (disch := ((try simp (disch := ((try simp (disch := ((try simp only [Int32.reduceToInt]) <;> omega)) only [t_add, t_sub, t_mul, Int32.reduceToInt]) <;> omega)) only [t_add, t_sub, t_mul, Int32.reduceToInt]) <;> omega)) only [t_add, t_sub, t_mul, Int32.reduceToInt]) <;> omega)) (by first | decide | ((try simp only [Int32.lt_iff_toInt_lt, Int32.le_iff_toInt_le, ← Int32.toInt_inj, Int32.toInt_toInt64, t_neg1, Int32.reduceToInt, Int64.reduceToInt, Int32.reduceToNatClampNeg, true_or, or_true, true_and, and_true] at *) <;> omega) | ((try simp only [Int32.lt_iff_toInt_lt, Int32.le_iff_toInt_le, ← Int32.toInt_inj, Int32.toInt_toInt64, t_neg1, Int32.reduceToInt, Int64.reduceToInt, Int32.reduceToNatClampNeg, true_or, or_true, true_and, and_true] at *) <;> (simp (disch := ((try simp (disch := ((try simp (disch := ((try simp only [Int32.reduceToInt]) <;> omega)) only [t_add, t_sub, t_mul, Int32.reduceToInt]) <;> omega)) only [t_add, t_sub, t_mul, Int32.reduceToInt]) <;> omega)) only [t_add, t_sub, t_mul, Int32.reduceToInt]) <;> omega)) (by first | decide | ((try simp only [Int32.lt_iff_toInt_lt, Int32.le_iff_toInt_le, ← Int32.toInt_inj, Int32.toInt_toInt64, t_neg1, Int32.reduceToInt, Int64.reduceToInt, Int32.reduceToNatClampNeg, true_or, or_true, true_and, and_true] at *) <;> omega) | ((try simp only [Int32.lt_iff_toInt_lt, Int32.le_iff_toInt_le, ← Int32.toInt_inj, Int32.toInt_toInt64, t_neg1, Int32.reduceToInt, Int64.reduceToInt, Int32.reduceToNatClampNeg, true_or, or_true, true_and, and_true] at *) <;> (simp (disch := ((try simp (disch := ((try simp (disch := ((try simp only [Int32.reduceToInt]) <;> omega)) only [t_add, t_sub, t_mul, Int32.reduceToInt]) <;> omega)) only [t_add, t_sub, t_mul, Int32.reduceToInt]) <;> omega)) only [t_add, t_sub, t_mul, Int32.reduceToInt]) <;> omega))) (fun t15 h4 => ?_)
        refine t_ite (fun c5 => ?_) (fun c5 => ?_)
        · refine t_bind (wX11_answerOf_T (by first | decide | ((try simp only [Int32.lt_iff_toInt_lt, Int32.le_iff_toInt_le, ← Int32.toInt_inj, Int32.toInt_toInt64, t_neg1, Int32.reduceToInt, Int64.reduceToInt, Int32.reduceToNatClampNeg, true_or, or_true, true_and, and_true] at *) <;> omega) | ((try simp only [Int32.lt_iff_toInt_lt, Int32.le_iff_toInt_le, ← Int32.toInt_inj, Int32.toInt_toInt64, t_neg1, Int32.reduceToInt, Int64.reduceToInt, Int32.reduceToNatClampNeg, true_or, or_true, true_and, and_true] at *) <;> (simp (disch := ((try simp (disch := ((try simp (disch := ((try simp only [Int32.reduceToInt]) <;> omega)) only [t_add, t_sub, t_mul, Int32.reduceToInt]) <;> omega)) only [t_add, t_sub, t_mul, Int32.reduceToInt]) <;> omega)) only [t_add, t_sub, t_mul, Int32.reduceToInt]) <;> omega)) (by first | decide | ((try simp only [Int32.lt_iff_toInt_lt, Int32.le_iff_toInt_le, ← Int32.toInt_inj, Int32.toInt_toInt64, t_neg1, Int32.reduceToInt, Int64.reduceToInt, Int32.reduceToNatClampNeg, true_or, or_true, true_and, and_true] at *) <;> omega) | ((try simp only [Int32.lt_iff_toInt_lt, Int32.le_iff_toInt_le, ← Int32.toInt_inj, Int32.toInt_toInt64, t_neg1, Int32.reduceToInt, Int64.reduceToInt, Int32.reduceToNatClampNeg, true_or, or_true, true_and, and_true] at *) <;> (simp (disch := ((try simp (disch := ((try simp (disch := ((try simp only [Int32.reduceToInt]) <;> omega)) only [t_add, t_sub, t_mul, Int32.reduceToInt]) <;> omega)) only [t_add, t_sub, t_mul, Int32.reduceToInt]) <;> omega)) only [t_add, t_sub, t_mul, Int32.reduceToInt]) <;> omega)) (by first | decide | ((try simp only [Int32.lt_iff_toInt_lt, Int32.le_iff_toInt_le, ← Int32.toInt_inj, Int32.toInt_toInt64, t_neg1, Int32.reduceToInt, Int64.reduceToInt, Int32.reduceToNatClampNeg, true_or, or_true, true_and, and_true] at *) <;> omega) | ((try simp only [Int32.lt_iff_toInt_lt, Int32.le_iff_toInt_le, ← Int32.toInt_inj, Int32.toInt_toInt64, t_neg1, Int32.reduceToInt, Int64.reduceToInt, Int32.reduceToNatClampNeg, true_or, or_true, true_and, and_true] at *) <;> (simp (disch := ((try simp (disch := ((try simp (disch := ((try simp only [Int32.reduceToInt]) <;> omega)) only [t_add, t_sub, t_mul, Int32.reduceToInt]) <;> omega)) only [t_add, t_sub, t_mul, Int32.reduceToInt]) <;> omega)) only [t_add, t_sub, t_mul, Int32.reduceToInt]) <;> omega)) (by first | decide | ((try simp only [Int32.lt_iff_toInt_lt, Int32.le_iff_toInt_le, ← Int32.toInt_inj, Int32.toInt_toInt64, t_neg1, Int32.reduceToInt, Int64.reduceToInt, Int32.reduceToNatClampNeg, true_or, or_true, true_and, and_true] at *) <;> omega) | ((try simp only [Int32.lt_iff_toInt_lt, Int32.le_iff_toInt_le, ← Int32.toInt_inj, Int32.toInt_toInt64, t_neg1, Int32.reduceToInt, Int64.reduceToInt, Int32.reduceToNatClampNeg, true_or, or_true, true_and, and_true] at *) <;> (simp (disch := ((try simp (disch := ((try simp (disch := ((try simp only [Int32.reduceToInt]) <;> omega)) only [t_add, t_sub, t_mul, Int32.reduceToInt]) <;> omega)) only [t_add, t_sub, t_mul, Int32.reduceToInt]) <;> omega)) only [t_add, t_sub, t_mul, Int32.reduceToInt]) <;> omega))) (fun t18 h6 => ?_)
          unfold wX11_liars_j78
          exact ih (t_n1 c1 hi) (t_m1 c1 hm)
        · unfold wX11_liars_j77
          unfold wX11_liars_j78
          exact ih (t_n1 c1 hi) (t_m1 c1 hm)
    · exact t_some trivial
theorem wX11_liars_h19_T {s : wS} (hR : RQ s)  : ∀ (n : Nat) {x2 : Int32} {x3 : Int32}, 0 ≤ x3.toInt → 2147483648 - x3.toInt < (n : Int) → Tot (wX11_liars_h19 s n x2 x3) (fun (_ : Int32) => True) := by
  intro n
  induction n with
  | zero =>
    intro x2 x3 hi hm
    exact (t_m0 hm).elim
  | succ n ih =>
    intro x2 x3 hi hm
    rw [wX11_liars_h19]
    have hb := RQ_b hR
    refine t_bind (wX11_worlds_T) (fun t7 h1 => ?_)
    refine t_ite (fun c2 => ?_) (fun c2 => ?_)
    · refine t_bind (wX11_liars_h33_T hR (by first | decide | ((try simp only [Int32.lt_iff_toInt_lt, Int32.le_iff_toInt_le, ← Int32.toInt_inj, Int32.toInt_toInt64, t_neg1, Int32.reduceToInt, Int64.reduceToInt, Int32.reduceToNatClampNeg, true_or, or_true, true_and, and_true] at *) <;> omega) | ((try simp only [Int32.lt_iff_toInt_lt, Int32.le_iff_toInt_le, ← Int32.toInt_inj, Int32.toInt_toInt64, t_neg1, Int32.reduceToInt, Int64.reduceToInt, Int32.reduceToNatClampNeg, true_or, or_true, true_and, and_true] at *) <;> (simp (disch := ((try simp (disch := ((try simp (disch := ((try simp only [Int32.reduceToInt]) <;> omega)) only [t_add, t_sub, t_mul, Int32.reduceToInt]) <;> omega)) only [t_add, t_sub, t_mul, Int32.reduceToInt]) <;> omega)) only [t_add, t_sub, t_mul, Int32.reduceToInt]) <;> omega)) (by first | decide | ((try simp only [Int32.lt_iff_toInt_lt, Int32.le_iff_toInt_le, ← Int32.toInt_inj, Int32.toInt_toInt64, t_neg1, Int32.reduceToInt, Int64.reduceToInt, Int32.reduceToNatClampNeg, true_or, or_true, true_and, and_true] at *) <;> omega) | ((try simp only [Int32.lt_iff_toInt_lt, Int32.le_iff_toInt_le, ← Int32.toInt_inj, Int32.toInt_toInt64, t_neg1, Int32.reduceToInt, Int64.reduceToInt, Int32.reduceToNatClampNeg, true_or, or_true, true_and, and_true] at *) <;> (simp (disch := ((try simp (disch := ((try simp (disch := ((try simp only [Int32.reduceToInt]) <;> omega)) only [t_add, t_sub, t_mul, Int32.reduceToInt]) <;> omega)) only [t_add, t_sub, t_mul, Int32.reduceToInt]) <;> omega)) only [t_add, t_sub, t_mul, Int32.reduceToInt]) <;> omega)) _ (by decide) t_mi) (fun t21 h3 => ?_)
      refine t_ite (fun c4 => ?_) (fun c4 => ?_)
      · unfold wX11_liars_j125
        unfold wX11_liars_j128
        exact ih (t_n1 c2 hi) (t_m1 c2 hm)
      · refine t_bind (wX11_bits_T) (fun t25 h5 => ?_)
        refine t_bind (wX11_bits_T) (fun t27 h6 => ?_)
        refine t_ite (fun c7 => ?_) (fun c7 => ?_)
        · unfold wX11_liars_j125
          unfold wX11_liars_j128
          exact ih (t_n1 c2 hi) (t_m1 c2 hm)
        · refine t_bind (wX11_bits_T) (fun t30 h8 => ?_)
          refine t_bind (wX11_bits_T) (fun t32 h9 => ?_)
          refine t_ite (fun c10 => ?_) (fun c10 => ?_)
          · refine t_ite (fun c11 => ?_) (fun c11 => ?_)
            · unfold wX11_liars_j125
              unfold wX11_liars_j128
              exact ih (t_n1 c2 hi) (t_m1 c2 hm)
            · unfold wX11_liars_j128
              exact ih (t_n1 c2 hi) (t_m1 c2 hm)
          · unfold wX11_liars_j128
            exact ih (t_n1 c2 hi) (t_m1 c2 hm)
    · exact t_some trivial
theorem wX11_liars_T {x1 : Int32} {s : wS} (hR : RQ s)  : Tot (wX11_liars x1 s) (fun (r : Int32 × wS) => wA bP s r.2) := by
  unfold wX11_liars
  have hb := RQ_b hR
  refine t_bind (wX11_canAsk_T) (fun t1 h1 => ?_)
  refine t_ite (fun c2 => ?_) (fun c2 => ?_)
  · exact t_some wA.refl
  · refine t_bind (wX11_reaches_T hR (by first | decide | ((try simp only [Int32.lt_iff_toInt_lt, Int32.le_iff_toInt_le, ← Int32.toInt_inj, Int32.toInt_toInt64, t_neg1, Int32.reduceToInt, Int64.reduceToInt, Int32.reduceToNatClampNeg, true_or, or_true, true_and, and_true] at *) <;> omega) | ((try simp only [Int32.lt_iff_toInt_lt, Int32.le_iff_toInt_le, ← Int32.toInt_inj, Int32.toInt_toInt64, t_neg1, Int32.reduceToInt, Int64.reduceToInt, Int32.reduceToNatClampNeg, true_or, or_true, true_and, and_true] at *) <;> (simp (disch := ((try simp (disch := ((try simp (disch := ((try simp only [Int32.reduceToInt]) <;> omega)) only [t_add, t_sub, t_mul, Int32.reduceToInt]) <;> omega)) only [t_add, t_sub, t_mul, Int32.reduceToInt]) <;> omega)) only [t_add, t_sub, t_mul, Int32.reduceToInt]) <;> omega)) (by first | decide | ((try simp only [Int32.lt_iff_toInt_lt, Int32.le_iff_toInt_le, ← Int32.toInt_inj, Int32.toInt_toInt64, t_neg1, Int32.reduceToInt, Int64.reduceToInt, Int32.reduceToNatClampNeg, true_or, or_true, true_and, and_true] at *) <;> omega) | ((try simp only [Int32.lt_iff_toInt_lt, Int32.le_iff_toInt_le, ← Int32.toInt_inj, Int32.toInt_toInt64, t_neg1, Int32.reduceToInt, Int64.reduceToInt, Int32.reduceToNatClampNeg, true_or, or_true, true_and, and_true] at *) <;> (simp (disch := ((try simp (disch := ((try simp (disch := ((try simp only [Int32.reduceToInt]) <;> omega)) only [t_add, t_sub, t_mul, Int32.reduceToInt]) <;> omega)) only [t_add, t_sub, t_mul, Int32.reduceToInt]) <;> omega)) only [t_add, t_sub, t_mul, Int32.reduceToInt]) <;> omega))) (fun s5 h3 => ?_)
    have a4 : wA bP s s5 := h3
    have q5 := sameP a4
    have w5 := wW_same q5.1
    have R5 := RQ_P a4 hR
    have p5 := a4 152 33 rfl
    refine t_bind (wX11_liars_h19_T R5 _ (by decide) t_mi) (fun t37 h6 => ?_)
    exact t_some a4
theorem wX11_areTrueTogether_h2_T {x1 : Int32} {x2 : Int32} {s : wS} (hR : RQ s) (ha : 0 ≤ x1.toInt) (ha2 : x1.toInt < (s.1 163 3).toInt) (hb : 0 ≤ x2.toInt) (hb2 : x2.toInt < (s.1 163 3).toInt) : ∀ (n : Nat) {x3 : Int32}, 0 ≤ x3.toInt → 2147483648 - x3.toInt < (n : Int) → Tot (wX11_areTrueTogether_h2 x1 x2 s n x3) (fun (_ : (Unit) ⊕ (Unit)) => True) := by
  intro n
  induction n with
  | zero =>
    intro x3 hi hm
    exact (t_m0 hm).elim
  | succ n ih =>
    intro x3 hi hm
    rw [wX11_areTrueTogether_h2]
    have hb := RQ_b hR
    refine t_bind (wX11_worlds_T) (fun t1 h1 => ?_)
    refine t_ite (fun c2 => ?_) (fun c2 => ?_)
    · refine t_bind (wX11_isTrue_T hR (by first | decide | ((try simp only [Int32.lt_iff_toInt_lt, Int32.le_iff_toInt_le, ← Int32.toInt_inj, Int32.toInt_toInt64, t_neg1, Int32.reduceToInt, Int64.reduceToInt, Int32.reduceToNatClampNeg, true_or, or_true, true_and, and_true] at *) <;> omega) | ((try simp only [Int32.lt_iff_toInt_lt, Int32.le_iff_toInt_le, ← Int32.toInt_inj, Int32.toInt_toInt64, t_neg1, Int32.reduceToInt, Int64.reduceToInt, Int32.reduceToNatClampNeg, true_or, or_true, true_and, and_true] at *) <;> (simp (disch := ((try simp (disch := ((try simp (disch := ((try simp only [Int32.reduceToInt]) <;> omega)) only [t_add, t_sub, t_mul, Int32.reduceToInt]) <;> omega)) only [t_add, t_sub, t_mul, Int32.reduceToInt]) <;> omega)) only [t_add, t_sub, t_mul, Int32.reduceToInt]) <;> omega)) (by first | decide | ((try simp only [Int32.lt_iff_toInt_lt, Int32.le_iff_toInt_le, ← Int32.toInt_inj, Int32.toInt_toInt64, t_neg1, Int32.reduceToInt, Int64.reduceToInt, Int32.reduceToNatClampNeg, true_or, or_true, true_and, and_true] at *) <;> omega) | ((try simp only [Int32.lt_iff_toInt_lt, Int32.le_iff_toInt_le, ← Int32.toInt_inj, Int32.toInt_toInt64, t_neg1, Int32.reduceToInt, Int64.reduceToInt, Int32.reduceToNatClampNeg, true_or, or_true, true_and, and_true] at *) <;> (simp (disch := ((try simp (disch := ((try simp (disch := ((try simp only [Int32.reduceToInt]) <;> omega)) only [t_add, t_sub, t_mul, Int32.reduceToInt]) <;> omega)) only [t_add, t_sub, t_mul, Int32.reduceToInt]) <;> omega)) only [t_add, t_sub, t_mul, Int32.reduceToInt]) <;> omega)) (by first | decide | ((try simp only [Int32.lt_iff_toInt_lt, Int32.le_iff_toInt_le, ← Int32.toInt_inj, Int32.toInt_toInt64, t_neg1, Int32.reduceToInt, Int64.reduceToInt, Int32.reduceToNatClampNeg, true_or, or_true, true_and, and_true] at *) <;> omega) | ((try simp only [Int32.lt_iff_toInt_lt, Int32.le_iff_toInt_le, ← Int32.toInt_inj, Int32.toInt_toInt64, t_neg1, Int32.reduceToInt, Int64.reduceToInt, Int32.reduceToNatClampNeg, true_or, or_true, true_and, and_true] at *) <;> (simp (disch := ((try simp (disch := ((try simp (disch := ((try simp only [Int32.reduceToInt]) <;> omega)) only [t_add, t_sub, t_mul, Int32.reduceToInt]) <;> omega)) only [t_add, t_sub, t_mul, Int32.reduceToInt]) <;> omega)) only [t_add, t_sub, t_mul, Int32.reduceToInt]) <;> omega)) (by first | decide | ((try simp only [Int32.lt_iff_toInt_lt, Int32.le_iff_toInt_le, ← Int32.toInt_inj, Int32.toInt_toInt64, t_neg1, Int32.reduceToInt, Int64.reduceToInt, Int32.reduceToNatClampNeg, true_or, or_true, true_and, and_true] at *) <;> omega) | ((try simp only [Int32.lt_iff_toInt_lt, Int32.le_iff_toInt_le, ← Int32.toInt_inj, Int32.toInt_toInt64, t_neg1, Int32.reduceToInt, Int64.reduceToInt, Int32.reduceToNatClampNeg, true_or, or_true, true_and, and_true] at *) <;> (simp (disch := ((try simp (disch := ((try simp (disch := ((try simp only [Int32.reduceToInt]) <;> omega)) only [t_add, t_sub, t_mul, Int32.reduceToInt]) <;> omega)) only [t_add, t_sub, t_mul, Int32.reduceToInt]) <;> omega)) only [t_add, t_sub, t_mul, Int32.reduceToInt]) <;> omega))) (fun t4 h3 => ?_)
      refine t_ite (fun c4 => ?_) (fun c4 => ?_)
      · unfold wX11_areTrueTogether_j30
        exact ih (t_n1 c2 hi) (t_m1 c2 hm)
      · refine t_bind (wX11_isTrue_T hR (by first | decide | ((try simp only [Int32.lt_iff_toInt_lt, Int32.le_iff_toInt_le, ← Int32.toInt_inj, Int32.toInt_toInt64, t_neg1, Int32.reduceToInt, Int64.reduceToInt, Int32.reduceToNatClampNeg, true_or, or_true, true_and, and_true] at *) <;> omega) | ((try simp only [Int32.lt_iff_toInt_lt, Int32.le_iff_toInt_le, ← Int32.toInt_inj, Int32.toInt_toInt64, t_neg1, Int32.reduceToInt, Int64.reduceToInt, Int32.reduceToNatClampNeg, true_or, or_true, true_and, and_true] at *) <;> (simp (disch := ((try simp (disch := ((try simp (disch := ((try simp only [Int32.reduceToInt]) <;> omega)) only [t_add, t_sub, t_mul, Int32.reduceToInt]) <;> omega)) only [t_add, t_sub, t_mul, Int32.reduceToInt]) <;> omega)) only [t_add, t_sub, t_mul, Int32.reduceToInt]) <;> omega)) (by first | decide | ((try simp only [Int32.lt_iff_toInt_lt, Int32.le_iff_toInt_le, ← Int32.toInt_inj, Int32.toInt_toInt64, t_neg1, Int32.reduceToInt, Int64.reduceToInt, Int32.reduceToNatClampNeg, true_or, or_true, true_and, and_true] at *) <;> omega) | ((try simp only [Int32.lt_iff_toInt_lt, Int32.le_iff_toInt_le, ← Int32.toInt_inj, Int32.toInt_toInt64, t_neg1, Int32.reduceToInt, Int64.reduceToInt, Int32.reduceToNatClampNeg, true_or, or_true, true_and, and_true] at *) <;> (simp (disch := ((try simp (disch := ((try simp (disch := ((try simp only [Int32.reduceToInt]) <;> omega)) only [t_add, t_sub, t_mul, Int32.reduceToInt]) <;> omega)) only [t_add, t_sub, t_mul, Int32.reduceToInt]) <;> omega)) only [t_add, t_sub, t_mul, Int32.reduceToInt]) <;> omega)) (by first | decide | ((try simp only [Int32.lt_iff_toInt_lt, Int32.le_iff_toInt_le, ← Int32.toInt_inj, Int32.toInt_toInt64, t_neg1, Int32.reduceToInt, Int64.reduceToInt, Int32.reduceToNatClampNeg, true_or, or_true, true_and, and_true] at *) <;> omega) | ((try simp only [Int32.lt_iff_toInt_lt, Int32.le_iff_toInt_le, ← Int32.toInt_inj, Int32.toInt_toInt64, t_neg1, Int32.reduceToInt, Int64.reduceToInt, Int32.reduceToNatClampNeg, true_or, or_true, true_and, and_true] at *) <;> (simp (disch := ((try simp (disch := ((try simp (disch := ((try simp only [Int32.reduceToInt]) <;> omega)) only [t_add, t_sub, t_mul, Int32.reduceToInt]) <;> omega)) only [t_add, t_sub, t_mul, Int32.reduceToInt]) <;> omega)) only [t_add, t_sub, t_mul, Int32.reduceToInt]) <;> omega)) (by first | decide | ((try simp only [Int32.lt_iff_toInt_lt, Int32.le_iff_toInt_le, ← Int32.toInt_inj, Int32.toInt_toInt64, t_neg1, Int32.reduceToInt, Int64.reduceToInt, Int32.reduceToNatClampNeg, true_or, or_true, true_and, and_true] at *) <;> omega) | ((try simp only [Int32.lt_iff_toInt_lt, Int32.le_iff_toInt_le, ← Int32.toInt_inj, Int32.toInt_toInt64, t_neg1, Int32.reduceToInt, Int64.reduceToInt, Int32.reduceToNatClampNeg, true_or, or_true, true_and, and_true] at *) <;> (simp (disch := ((try simp (disch := ((try simp (disch := ((try simp only [Int32.reduceToInt]) <;> omega)) only [t_add, t_sub, t_mul, Int32.reduceToInt]) <;> omega)) only [t_add, t_sub, t_mul, Int32.reduceToInt]) <;> omega)) only [t_add, t_sub, t_mul, Int32.reduceToInt]) <;> omega))) (fun t7 h5 => ?_)
        refine t_ite (fun c6 => ?_) (fun c6 => ?_)
        · unfold wX11_areTrueTogether_j30
          exact ih (t_n1 c2 hi) (t_m1 c2 hm)
        · exact t_some trivial
    · exact t_some trivial
theorem wX11_areTrueTogether_T {x1 : Int32} {x2 : Int32} {s : wS} (hR : RQ s) (ha : 0 ≤ x1.toInt) (ha2 : x1.toInt < (s.1 163 3).toInt) (hb : 0 ≤ x2.toInt) (hb2 : x2.toInt < (s.1 163 3).toInt) : Tot (wX11_areTrueTogether x1 x2 s) (fun (_ : Int32) => True) := by
  unfold wX11_areTrueTogether
  have hb := RQ_b hR
  refine t_bind (wX11_areTrueTogether_h2_T hR (by first | decide | ((try simp only [Int32.lt_iff_toInt_lt, Int32.le_iff_toInt_le, ← Int32.toInt_inj, Int32.toInt_toInt64, t_neg1, Int32.reduceToInt, Int64.reduceToInt, Int32.reduceToNatClampNeg, true_or, or_true, true_and, and_true] at *) <;> omega) | ((try simp only [Int32.lt_iff_toInt_lt, Int32.le_iff_toInt_le, ← Int32.toInt_inj, Int32.toInt_toInt64, t_neg1, Int32.reduceToInt, Int64.reduceToInt, Int32.reduceToNatClampNeg, true_or, or_true, true_and, and_true] at *) <;> (simp (disch := ((try simp (disch := ((try simp (disch := ((try simp only [Int32.reduceToInt]) <;> omega)) only [t_add, t_sub, t_mul, Int32.reduceToInt]) <;> omega)) only [t_add, t_sub, t_mul, Int32.reduceToInt]) <;> omega)) only [t_add, t_sub, t_mul, Int32.reduceToInt]) <;> omega)) (by first | decide | ((try simp only [Int32.lt_iff_toInt_lt, Int32.le_iff_toInt_le, ← Int32.toInt_inj, Int32.toInt_toInt64, t_neg1, Int32.reduceToInt, Int64.reduceToInt, Int32.reduceToNatClampNeg, true_or, or_true, true_and, and_true] at *) <;> omega) | ((try simp only [Int32.lt_iff_toInt_lt, Int32.le_iff_toInt_le, ← Int32.toInt_inj, Int32.toInt_toInt64, t_neg1, Int32.reduceToInt, Int64.reduceToInt, Int32.reduceToNatClampNeg, true_or, or_true, true_and, and_true] at *) <;> (simp (disch := ((try simp (disch := ((try simp (disch := ((try simp only [Int32.reduceToInt]) <;> omega)) only [t_add, t_sub, t_mul, Int32.reduceToInt]) <;> omega)) only [t_add, t_sub, t_mul, Int32.reduceToInt]) <;> omega)) only [t_add, t_sub, t_mul, Int32.reduceToInt]) <;> omega)) (by first | decide | ((try simp only [Int32.lt_iff_toInt_lt, Int32.le_iff_toInt_le, ← Int32.toInt_inj, Int32.toInt_toInt64, t_neg1, Int32.reduceToInt, Int64.reduceToInt, Int32.reduceToNatClampNeg, true_or, or_true, true_and, and_true] at *) <;> omega) | ((try simp only [Int32.lt_iff_toInt_lt, Int32.le_iff_toInt_le, ← Int32.toInt_inj, Int32.toInt_toInt64, t_neg1, Int32.reduceToInt, Int64.reduceToInt, Int32.reduceToNatClampNeg, true_or, or_true, true_and, and_true] at *) <;> (simp (disch := ((try simp (disch := ((try simp (disch := ((try simp only [Int32.reduceToInt]) <;> omega)) only [t_add, t_sub, t_mul, Int32.reduceToInt]) <;> omega)) only [t_add, t_sub, t_mul, Int32.reduceToInt]) <;> omega)) only [t_add, t_sub, t_mul, Int32.reduceToInt]) <;> omega)) (by first | decide | ((try simp only [Int32.lt_iff_toInt_lt, Int32.le_iff_toInt_le, ← Int32.toInt_inj, Int32.toInt_toInt64, t_neg1, Int32.reduceToInt, Int64.reduceToInt, Int32.reduceToNatClampNeg, true_or, or_true, true_and, and_true] at *) <;> omega) | ((try simp only [Int32.lt_iff_toInt_lt, Int32.le_iff_toInt_le, ← Int32.toInt_inj, Int32.toInt_toInt64, t_neg1, Int32.reduceToInt, Int64.reduceToInt, Int32.reduceToNatClampNeg, true_or, or_true, true_and, and_true] at *) <;> (simp (disch := ((try simp (disch := ((try simp (disch := ((try simp only [Int32.reduceToInt]) <;> omega)) only [t_add, t_sub, t_mul, Int32.reduceToInt]) <;> omega)) only [t_add, t_sub, t_mul, Int32.reduceToInt]) <;> omega)) only [t_add, t_sub, t_mul, Int32.reduceToInt]) <;> omega)) _ (by decide) t_mi) (fun z10 h1 => ?_)
  rcases z10 with z10 | z10
  · dsimp only
    exact t_some trivial
  · dsimp only
    exact t_some trivial
theorem wX11_quarrel_h31_T {x2 : Int32} {s : wS} (hR : RQ s) (ha : 0 ≤ x2.toInt) (ha2 : x2.toInt < (s.1 163 3).toInt) : ∀ (n : Nat) {x3 : Int32}, 0 ≤ x3.toInt → 2147483648 - x3.toInt < (n : Int) → Tot (wX11_quarrel_h31 x2 s n x3) (fun (_ : (Unit) ⊕ (Int32)) => True) := by
  intro n
  induction n with
  | zero =>
    intro x3 hi hm
    exact (t_m0 hm).elim
  | succ n ih =>
    intro x3 hi hm
    rw [wX11_quarrel_h31]
    have hb := RQ_b hR
    refine t_ite (fun c1 => ?_) (fun c1 => ?_)
    · refine t_bind (wX11_isLookedAt_T hR (by first | decide | ((try simp only [Int32.lt_iff_toInt_lt, Int32.le_iff_toInt_le, ← Int32.toInt_inj, Int32.toInt_toInt64, t_neg1, Int32.reduceToInt, Int64.reduceToInt, Int32.reduceToNatClampNeg, true_or, or_true, true_and, and_true] at *) <;> omega) | ((try simp only [Int32.lt_iff_toInt_lt, Int32.le_iff_toInt_le, ← Int32.toInt_inj, Int32.toInt_toInt64, t_neg1, Int32.reduceToInt, Int64.reduceToInt, Int32.reduceToNatClampNeg, true_or, or_true, true_and, and_true] at *) <;> (simp (disch := ((try simp (disch := ((try simp (disch := ((try simp only [Int32.reduceToInt]) <;> omega)) only [t_add, t_sub, t_mul, Int32.reduceToInt]) <;> omega)) only [t_add, t_sub, t_mul, Int32.reduceToInt]) <;> omega)) only [t_add, t_sub, t_mul, Int32.reduceToInt]) <;> omega)) (by first | decide | ((try simp only [Int32.lt_iff_toInt_lt, Int32.le_iff_toInt_le, ← Int32.toInt_inj, Int32.toInt_toInt64, t_neg1, Int32.reduceToInt, Int64.reduceToInt, Int32.reduceToNatClampNeg, true_or, or_true, true_and, and_true] at *) <;> omega) | ((try simp only [Int32.lt_iff_toInt_lt, Int32.le_iff_toInt_le, ← Int32.toInt_inj, Int32.toInt_toInt64, t_neg1, Int32.reduceToInt, Int64.reduceToInt, Int32.reduceToNatClampNeg, true_or, or_true, true_and, and_true] at *) <;> (simp (disch := ((try simp (disch := ((try simp (disch := ((try simp only [Int32.reduceToInt]) <;> omega)) only [t_add, t_sub, t_mul, Int32.reduceToInt]) <;> omega)) only [t_add, t_sub, t_mul, Int32.reduceToInt]) <;> omega)) only [t_add, t_sub, t_mul, Int32.reduceToInt]) <;> omega))) (fun t11 h2 => ?_)
      refine t_ite (fun c3 => ?_) (fun c3 => ?_)
      · unfold wX11_quarrel_j73
        exact ih (t_n1 c1 hi) (t_m1 c1 hm)
      · refine t_bind (wX11_isLookedAt_T hR (by first | decide | ((try simp only [Int32.lt_iff_toInt_lt, Int32.le_iff_toInt_le, ← Int32.toInt_inj, Int32.toInt_toInt64, t_neg1, Int32.reduceToInt, Int64.reduceToInt, Int32.reduceToNatClampNeg, true_or, or_true, true_and, and_true] at *) <;> omega) | ((try simp only [Int32.lt_iff_toInt_lt, Int32.le_iff_toInt_le, ← Int32.toInt_inj, Int32.toInt_toInt64, t_neg1, Int32.reduceToInt, Int64.reduceToInt, Int32.reduceToNatClampNeg, true_or, or_true, true_and, and_true] at *) <;> (simp (disch := ((try simp (disch := ((try simp (disch := ((try simp only [Int32.reduceToInt]) <;> omega)) only [t_add, t_sub, t_mul, Int32.reduceToInt]) <;> omega)) only [t_add, t_sub, t_mul, Int32.reduceToInt]) <;> omega)) only [t_add, t_sub, t_mul, Int32.reduceToInt]) <;> omega)) (by first | decide | ((try simp only [Int32.lt_iff_toInt_lt, Int32.le_iff_toInt_le, ← Int32.toInt_inj, Int32.toInt_toInt64, t_neg1, Int32.reduceToInt, Int64.reduceToInt, Int32.reduceToNatClampNeg, true_or, or_true, true_and, and_true] at *) <;> omega) | ((try simp only [Int32.lt_iff_toInt_lt, Int32.le_iff_toInt_le, ← Int32.toInt_inj, Int32.toInt_toInt64, t_neg1, Int32.reduceToInt, Int64.reduceToInt, Int32.reduceToNatClampNeg, true_or, or_true, true_and, and_true] at *) <;> (simp (disch := ((try simp (disch := ((try simp (disch := ((try simp only [Int32.reduceToInt]) <;> omega)) only [t_add, t_sub, t_mul, Int32.reduceToInt]) <;> omega)) only [t_add, t_sub, t_mul, Int32.reduceToInt]) <;> omega)) only [t_add, t_sub, t_mul, Int32.reduceToInt]) <;> omega))) (fun t14 h4 => ?_)
        refine t_ite (fun c5 => ?_) (fun c5 => ?_)
        · unfold wX11_quarrel_j73
          exact ih (t_n1 c1 hi) (t_m1 c1 hm)
        · refine t_bind (wX11_areTrueTogether_T hR (by first | decide | ((try simp only [Int32.lt_iff_toInt_lt, Int32.le_iff_toInt_le, ← Int32.toInt_inj, Int32.toInt_toInt64, t_neg1, Int32.reduceToInt, Int64.reduceToInt, Int32.reduceToNatClampNeg, true_or, or_true, true_and, and_true] at *) <;> omega) | ((try simp only [Int32.lt_iff_toInt_lt, Int32.le_iff_toInt_le, ← Int32.toInt_inj, Int32.toInt_toInt64, t_neg1, Int32.reduceToInt, Int64.reduceToInt, Int32.reduceToNatClampNeg, true_or, or_true, true_and, and_true] at *) <;> (simp (disch := ((try simp (disch := ((try simp (disch := ((try simp only [Int32.reduceToInt]) <;> omega)) only [t_add, t_sub, t_mul, Int32.reduceToInt]) <;> omega)) only [t_add, t_sub, t_mul, Int32.reduceToInt]) <;> omega)) only [t_add, t_sub, t_mul, Int32.reduceToInt]) <;> omega)) (by first | decide | ((try simp only [Int32.lt_iff_toInt_lt, Int32.le_iff_toInt_le, ← Int32.toInt_inj, Int32.toInt_toInt64, t_neg1, Int32.reduceToInt, Int64.reduceToInt, Int32.reduceToNatClampNeg, true_or, or_true, true_and, and_true] at *) <;> omega) | ((try simp only [Int32.lt_iff_toInt_lt, Int32.le_iff_toInt_le, ← Int32.toInt_inj, Int32.toInt_toInt64, t_neg1, Int32.reduceToInt, Int64.reduceToInt, Int32.reduceToNatClampNeg, true_or, or_true, true_and, and_true] at *) <;> (simp (disch := ((try simp (disch := ((try simp (disch := ((try simp only [Int32.reduceToInt]) <;> omega)) only [t_add, t_sub, t_mul, Int32.reduceToInt]) <;> omega)) only [t_add, t_sub, t_mul, Int32.reduceToInt]) <;> omega)) only [t_add, t_sub, t_mul, Int32.reduceToInt]) <;> omega)) (by first | decide | ((try simp only [Int32.lt_iff_toInt_lt, Int32.le_iff_toInt_le, ← Int32.toInt_inj, Int32.toInt_toInt64, t_neg1, Int32.reduceToInt, Int64.reduceToInt, Int32.reduceToNatClampNeg, true_or, or_true, true_and, and_true] at *) <;> omega) | ((try simp only [Int32.lt_iff_toInt_lt, Int32.le_iff_toInt_le, ← Int32.toInt_inj, Int32.toInt_toInt64, t_neg1, Int32.reduceToInt, Int64.reduceToInt, Int32.reduceToNatClampNeg, true_or, or_true, true_and, and_true] at *) <;> (simp (disch := ((try simp (disch := ((try simp (disch := ((try simp only [Int32.reduceToInt]) <;> omega)) only [t_add, t_sub, t_mul, Int32.reduceToInt]) <;> omega)) only [t_add, t_sub, t_mul, Int32.reduceToInt]) <;> omega)) only [t_add, t_sub, t_mul, Int32.reduceToInt]) <;> omega)) (by first | decide | ((try simp only [Int32.lt_iff_toInt_lt, Int32.le_iff_toInt_le, ← Int32.toInt_inj, Int32.toInt_toInt64, t_neg1, Int32.reduceToInt, Int64.reduceToInt, Int32.reduceToNatClampNeg, true_or, or_true, true_and, and_true] at *) <;> omega) | ((try simp only [Int32.lt_iff_toInt_lt, Int32.le_iff_toInt_le, ← Int32.toInt_inj, Int32.toInt_toInt64, t_neg1, Int32.reduceToInt, Int64.reduceToInt, Int32.reduceToNatClampNeg, true_or, or_true, true_and, and_true] at *) <;> (simp (disch := ((try simp (disch := ((try simp (disch := ((try simp only [Int32.reduceToInt]) <;> omega)) only [t_add, t_sub, t_mul, Int32.reduceToInt]) <;> omega)) only [t_add, t_sub, t_mul, Int32.reduceToInt]) <;> omega)) only [t_add, t_sub, t_mul, Int32.reduceToInt]) <;> omega))) (fun t17 h6 => ?_)
          refine t_ite (fun c7 => ?_) (fun c7 => ?_)
          · exact t_some trivial
          · unfold wX11_quarrel_j73
            exact ih (t_n1 c1 hi) (t_m1 c1 hm)
    · exact t_some trivial
theorem wX11_quarrel_h17_T {s : wS} (hR : RQ s)  : ∀ (n : Nat) {x2 : Int32}, 0 ≤ x2.toInt → 2147483648 - x2.toInt < (n : Int) → Tot (wX11_quarrel_h17 s n x2) (fun (_ : (Unit) ⊕ (Int32 × Int32)) => True) := by
  intro n
  induction n with
  | zero =>
    intro x2 hi hm
    exact (t_m0 hm).elim
  | succ n ih =>
    intro x2 hi hm
    rw [wX11_quarrel_h17]
    have hb := RQ_b hR
    refine t_ite (fun c1 => ?_) (fun c1 => ?_)
    · refine t_bind (wX11_quarrel_h31_T hR (by first | decide | ((try simp only [Int32.lt_iff_toInt_lt, Int32.le_iff_toInt_le, ← Int32.toInt_inj, Int32.toInt_toInt64, t_neg1, Int32.reduceToInt, Int64.reduceToInt, Int32.reduceToNatClampNeg, true_or, or_true, true_and, and_true] at *) <;> omega) | ((try simp only [Int32.lt_iff_toInt_lt, Int32.le_iff_toInt_le, ← Int32.toInt_inj, Int32.toInt_toInt64, t_neg1, Int32.reduceToInt, Int64.reduceToInt, Int32.reduceToNatClampNeg, true_or, or_true, true_and, and_true] at *) <;> (simp (disch := ((try simp (disch := ((try simp (disch := ((try simp only [Int32.reduceToInt]) <;> omega)) only [t_add, t_sub, t_mul, Int32.reduceToInt]) <;> omega)) only [t_add, t_sub, t_mul, Int32.reduceToInt]) <;> omega)) only [t_add, t_sub, t_mul, Int32.reduceToInt]) <;> omega)) (by first | decide | ((try simp only [Int32.lt_iff_toInt_lt, Int32.le_iff_toInt_le, ← Int32.toInt_inj, Int32.toInt_toInt64, t_neg1, Int32.reduceToInt, Int64.reduceToInt, Int32.reduceToNatClampNeg, true_or, or_true, true_and, and_true] at *) <;> omega) | ((try simp only [Int32.lt_iff_toInt_lt, Int32.le_iff_toInt_le, ← Int32.toInt_inj, Int32.toInt_toInt64, t_neg1, Int32.reduceToInt, Int64.reduceToInt, Int32.reduceToNatClampNeg, true_or, or_true, true_and, and_true] at *) <;> (simp (disch := ((try simp (disch := ((try simp (disch := ((try simp only [Int32.reduceToInt]) <;> omega)) only [t_add, t_sub, t_mul, Int32.reduceToInt]) <;> omega)) only [t_add, t_sub, t_mul, Int32.reduceToInt]) <;> omega)) only [t_add, t_sub, t_mul, Int32.reduceToInt]) <;> omega)) _ (by first | decide | ((try simp only [Int32.lt_iff_toInt_lt, Int32.le_iff_toInt_le, ← Int32.toInt_inj, Int32.toInt_toInt64, t_neg1, Int32.reduceToInt, Int64.reduceToInt, Int32.reduceToNatClampNeg, true_or, or_true, true_and, and_true] at *) <;> omega) | ((try simp only [Int32.lt_iff_toInt_lt, Int32.le_iff_toInt_le, ← Int32.toInt_inj, Int32.toInt_toInt64, t_neg1, Int32.reduceToInt, Int64.reduceToInt, Int32.reduceToNatClampNeg, true_or, or_true, true_and, and_true] at *) <;> (simp (disch := ((try simp (disch := ((try simp (disch := ((try simp only [Int32.reduceToInt]) <;> omega)) only [t_add, t_sub, t_mul, Int32.reduceToInt]) <;> omega)) only [t_add, t_sub, t_mul, Int32.reduceToInt]) <;> omega)) only [t_add, t_sub, t_mul, Int32.reduceToInt]) <;> omega)) t_mi) (fun z20 h2 => ?_)
      rcases z20 with z20 | z20
      · dsimp only
        exact ih (t_n1 c1 hi) (t_m1 c1 hm)
      · obtain t23 := z20
        dsimp only
        exact t_some trivial
    · exact t_some trivial
theorem wX11_quarrel_T {x1 : Int32} {s : wS} (hR : RQ s)  : Tot (wX11_quarrel x1 s) (fun (r : Int32 × wS) => wA bP s r.2) := by
  unfold wX11_quarrel
  have hb := RQ_b hR
  refine t_bind (wX11_canAsk_T) (fun t1 h1 => ?_)
  refine t_ite (fun c2 => ?_) (fun c2 => ?_)
  · exact t_some wA.refl
  · refine t_bind (wX11_reaches_T hR (by first | decide | ((try simp only [Int32.lt_iff_toInt_lt, Int32.le_iff_toInt_le, ← Int32.toInt_inj, Int32.toInt_toInt64, t_neg1, Int32.reduceToInt, Int64.reduceToInt, Int32.reduceToNatClampNeg, true_or, or_true, true_and, and_true] at *) <;> omega) | ((try simp only [Int32.lt_iff_toInt_lt, Int32.le_iff_toInt_le, ← Int32.toInt_inj, Int32.toInt_toInt64, t_neg1, Int32.reduceToInt, Int64.reduceToInt, Int32.reduceToNatClampNeg, true_or, or_true, true_and, and_true] at *) <;> (simp (disch := ((try simp (disch := ((try simp (disch := ((try simp only [Int32.reduceToInt]) <;> omega)) only [t_add, t_sub, t_mul, Int32.reduceToInt]) <;> omega)) only [t_add, t_sub, t_mul, Int32.reduceToInt]) <;> omega)) only [t_add, t_sub, t_mul, Int32.reduceToInt]) <;> omega)) (by first | decide | ((try simp only [Int32.lt_iff_toInt_lt, Int32.le_iff_toInt_le, ← Int32.toInt_inj, Int32.toInt_toInt64, t_neg1, Int32.reduceToInt, Int64.reduceToInt, Int32.reduceToNatClampNeg, true_or, or_true, true_and, and_true] at *) <;> omega) | ((try simp only [Int32.lt_iff_toInt_lt, Int32.le_iff_toInt_le, ← Int32.toInt_inj, Int32.toInt_toInt64, t_neg1, Int32.reduceToInt, Int64.reduceToInt, Int32.reduceToNatClampNeg, true_or, or_true, true_and, and_true] at *) <;> (simp (disch := ((try simp (disch := ((try simp (disch := ((try simp only [Int32.reduceToInt]) <;> omega)) only [t_add, t_sub, t_mul, Int32.reduceToInt]) <;> omega)) only [t_add, t_sub, t_mul, Int32.reduceToInt]) <;> omega)) only [t_add, t_sub, t_mul, Int32.reduceToInt]) <;> omega))) (fun s5 h3 => ?_)
    have a4 : wA bP s s5 := h3
    have q5 := sameP a4
    have w5 := wW_same q5.1
    have R5 := RQ_P a4 hR
    have p5 := a4 152 33 rfl
    refine t_bind (wX11_quarrel_h17_T R5 _ (by decide) t_mi) (fun z25 h6 => ?_)
    rcases z25 with z25 | z25
    · dsimp only
      exact t_some a4
    · obtain ⟨t29, t30⟩ := z25
      dsimp only
      exact t_some a4
theorem wX11_twelve_h4_T {x1 : Int32} {s0 : wS} (hR : RQ s0)  : ∀ (n : Nat) {x2 : Int32} {s : wS}, wA bP s0 s → 0 ≤ x2.toInt → 2147483648 - x2.toInt < (n : Int) → Tot (wX11_twelve_h4 x1 n x2 s) (fun (r : wS) => wA bP s0 r) := by
  intro n
  induction n with
  | zero =>
    intro x2 s ha hi hm
    exact (t_m0 hm).elim
  | succ n ih =>
    intro x2 s ha hi hm
    rw [wX11_twelve_h4]
    have hb := RQ_b hR
    have q1 := sameP ha
    have w1 := wW_same q1.1
    have R1 := RQ_P ha hR
    have p1 := ha 152 33 rfl
    refine t_bind (wX11_worlds_T) (fun t1 h2 => ?_)
    refine t_ite (fun c3 => ?_) (fun c3 => ?_)
    · refine t_bind (t_stI (B := bP) (n := 512) (by first | decide | ((try simp only [q1.1, q1.2.2.2.2, w1, p1, Int32.lt_iff_toInt_lt, Int32.le_iff_toInt_le, ← Int32.toInt_inj, Int32.toInt_toInt64, t_neg1, Int32.reduceToInt, Int64.reduceToInt, Int32.reduceToNatClampNeg, true_or, or_true, true_and, and_true] at *) <;> omega) | ((try simp only [q1.1, q1.2.2.2.2, w1, p1, Int32.lt_iff_toInt_lt, Int32.le_iff_toInt_le, ← Int32.toInt_inj, Int32.toInt_toInt64, t_neg1, Int32.reduceToInt, Int64.reduceToInt, Int32.reduceToNatClampNeg, true_or, or_true, true_and, and_true] at *) <;> (simp (disch := ((try simp (disch := ((try simp (disch := ((try simp only [Int32.reduceToInt]) <;> omega)) only [t_add, t_sub, t_mul, Int32.reduceToInt]) <;> omega)) only [t_add, t_sub, t_mul, Int32.reduceToInt]) <;> omega)) only [t_add, t_sub, t_mul, Int32.reduceToInt]) <;> omega)) (by first | decide | ((try simp only [q1.1, q1.2.2.2.2, w1, p1, Int32.lt_iff_toInt_lt, Int32.le_iff_toInt_le, ← Int32.toInt_inj, Int32.toInt_toInt64, t_neg1, Int32.reduceToInt, Int64.reduceToInt, Int32.reduceToNatClampNeg, true_or, or_true, true_and, and_true] at *) <;> omega) | ((try simp only [q1.1, q1.2.2.2.2, w1, p1, Int32.lt_iff_toInt_lt, Int32.le_iff_toInt_le, ← Int32.toInt_inj, Int32.toInt_toInt64, t_neg1, Int32.reduceToInt, Int64.reduceToInt, Int32.reduceToNatClampNeg, true_or, or_true, true_and, and_true] at *) <;> (simp (disch := ((try simp (disch := ((try simp (disch := ((try simp only [Int32.reduceToInt]) <;> omega)) only [t_add, t_sub, t_mul, Int32.reduceToInt]) <;> omega)) only [t_add, t_sub, t_mul, Int32.reduceToInt]) <;> omega)) only [t_add, t_sub, t_mul, Int32.reduceToInt]) <;> omega)) (fun _ => rfl)) (fun s4 h4 => ?_)
      have a5 : wA bP s0 s4 := ha.trans h4.1
      have q6 := sameP a5
      have w6 := wW_same q6.1
      have R6 := RQ_P a5 hR
      have p6 := a5 152 33 rfl
      exact ih a5 (t_n1 c3 hi) (t_m1 c3 hm)
    · exact t_some ha
theorem wX11_twelve_h56_T {x1 : Int32} {x2 : Int32} {s0 : wS} (hR : RQ s0) (ha : 0 ≤ x2.toInt) (ha2 : x2.toInt < (s0.1 163 3).toInt) : ∀ (n : Nat) {x3 : Int32} {s : wS}, wA bP s0 s → 0 ≤ x3.toInt → 2147483648 - x3.toInt < (n : Int) → Tot (wX11_twelve_h56 x1 x2 n x3 s) (fun (r : wS) => wA bP s0 r) := by
  intro n
  induction n with
  | zero =>
    intro x3 s ha hi hm
    exact (t_m0 hm).elim
  | succ n ih =>
    intro x3 s ha hi hm
    rw [wX11_twelve_h56]
    have hb := RQ_b hR
    have q1 := sameP ha
    have w1 := wW_same q1.1
    have R1 := RQ_P ha hR
    have p1 := ha 152 33 rfl
    refine t_bind (wX11_worlds_T) (fun t15 h2 => ?_)
    refine t_ite (fun c3 => ?_) (fun c3 => ?_)
    · refine t_bind (t_ldI (n := 512) (by first | decide | ((try simp only [q1.1, q1.2.2.2.2, w1, p1, Int32.lt_iff_toInt_lt, Int32.le_iff_toInt_le, ← Int32.toInt_inj, Int32.toInt_toInt64, t_neg1, Int32.reduceToInt, Int64.reduceToInt, Int32.reduceToNatClampNeg, true_or, or_true, true_and, and_true] at *) <;> omega) | ((try simp only [q1.1, q1.2.2.2.2, w1, p1, Int32.lt_iff_toInt_lt, Int32.le_iff_toInt_le, ← Int32.toInt_inj, Int32.toInt_toInt64, t_neg1, Int32.reduceToInt, Int64.reduceToInt, Int32.reduceToNatClampNeg, true_or, or_true, true_and, and_true] at *) <;> (simp (disch := ((try simp (disch := ((try simp (disch := ((try simp only [Int32.reduceToInt]) <;> omega)) only [t_add, t_sub, t_mul, Int32.reduceToInt]) <;> omega)) only [t_add, t_sub, t_mul, Int32.reduceToInt]) <;> omega)) only [t_add, t_sub, t_mul, Int32.reduceToInt]) <;> omega)) (by first | decide | ((try simp only [q1.1, q1.2.2.2.2, w1, p1, Int32.lt_iff_toInt_lt, Int32.le_iff_toInt_le, ← Int32.toInt_inj, Int32.toInt_toInt64, t_neg1, Int32.reduceToInt, Int64.reduceToInt, Int32.reduceToNatClampNeg, true_or, or_true, true_and, and_true] at *) <;> omega) | ((try simp only [q1.1, q1.2.2.2.2, w1, p1, Int32.lt_iff_toInt_lt, Int32.le_iff_toInt_le, ← Int32.toInt_inj, Int32.toInt_toInt64, t_neg1, Int32.reduceToInt, Int64.reduceToInt, Int32.reduceToNatClampNeg, true_or, or_true, true_and, and_true] at *) <;> (simp (disch := ((try simp (disch := ((try simp (disch := ((try simp only [Int32.reduceToInt]) <;> omega)) only [t_add, t_sub, t_mul, Int32.reduceToInt]) <;> omega)) only [t_add, t_sub, t_mul, Int32.reduceToInt]) <;> omega)) only [t_add, t_sub, t_mul, Int32.reduceToInt]) <;> omega))) (fun t18 h4 => ?_)
      refine t_bind (wX11_isTrue_T R1 (by first | decide | ((try simp only [q1.1, q1.2.2.2.2, w1, p1, Int32.lt_iff_toInt_lt, Int32.le_iff_toInt_le, ← Int32.toInt_inj, Int32.toInt_toInt64, t_neg1, Int32.reduceToInt, Int64.reduceToInt, Int32.reduceToNatClampNeg, true_or, or_true, true_and, and_true] at *) <;> omega) | ((try simp only [q1.1, q1.2.2.2.2, w1, p1, Int32.lt_iff_toInt_lt, Int32.le_iff_toInt_le, ← Int32.toInt_inj, Int32.toInt_toInt64, t_neg1, Int32.reduceToInt, Int64.reduceToInt, Int32.reduceToNatClampNeg, true_or, or_true, true_and, and_true] at *) <;> (simp (disch := ((try simp (disch := ((try simp (disch := ((try simp only [Int32.reduceToInt]) <;> omega)) only [t_add, t_sub, t_mul, Int32.reduceToInt]) <;> omega)) only [t_add, t_sub, t_mul, Int32.reduceToInt]) <;> omega)) only [t_add, t_sub, t_mul, Int32.reduceToInt]) <;> omega)) (by first | decide | ((try simp only [q1.1, q1.2.2.2.2, w1, p1, Int32.lt_iff_toInt_lt, Int32.le_iff_toInt_le, ← Int32.toInt_inj, Int32.toInt_toInt64, t_neg1, Int32.reduceToInt, Int64.reduceToInt, Int32.reduceToNatClampNeg, true_or, or_true, true_and, and_true] at *) <;> omega) | ((try simp only [q1.1, q1.2.2.2.2, w1, p1, Int32.lt_iff_toInt_lt, Int32.le_iff_toInt_le, ← Int32.toInt_inj, Int32.toInt_toInt64, t_neg1, Int32.reduceToInt, Int64.reduceToInt, Int32.reduceToNatClampNeg, true_or, or_true, true_and, and_true] at *) <;> (simp (disch := ((try simp (disch := ((try simp (disch := ((try simp only [Int32.reduceToInt]) <;> omega)) only [t_add, t_sub, t_mul, Int32.reduceToInt]) <;> omega)) only [t_add, t_sub, t_mul, Int32.reduceToInt]) <;> omega)) only [t_add, t_sub, t_mul, Int32.reduceToInt]) <;> omega)) (by first | decide | ((try simp only [q1.1, q1.2.2.2.2, w1, p1, Int32.lt_iff_toInt_lt, Int32.le_iff_toInt_le, ← Int32.toInt_inj, Int32.toInt_toInt64, t_neg1, Int32.reduceToInt, Int64.reduceToInt, Int32.reduceToNatClampNeg, true_or, or_true, true_and, and_true] at *) <;> omega) | ((try simp only [q1.1, q1.2.2.2.2, w1, p1, Int32.lt_iff_toInt_lt, Int32.le_iff_toInt_le, ← Int32.toInt_inj, Int32.toInt_toInt64, t_neg1, Int32.reduceToInt, Int64.reduceToInt, Int32.reduceToNatClampNeg, true_or, or_true, true_and, and_true] at *) <;> (simp (disch := ((try simp (disch := ((try simp (disch := ((try simp only [Int32.reduceToInt]) <;> omega)) only [t_add, t_sub, t_mul, Int32.reduceToInt]) <;> omega)) only [t_add, t_sub, t_mul, Int32.reduceToInt]) <;> omega)) only [t_add, t_sub, t_mul, Int32.reduceToInt]) <;> omega)) (by first | decide | ((try simp only [q1.1, q1.2.2.2.2, w1, p1, Int32.lt_iff_toInt_lt, Int32.le_iff_toInt_le, ← Int32.toInt_inj, Int32.toInt_toInt64, t_neg1, Int32.reduceToInt, Int64.reduceToInt, Int32.reduceToNatClampNeg, true_or, or_true, true_and, and_true] at *) <;> omega) | ((try simp only [q1.1, q1.2.2.2.2, w1, p1, Int32.lt_iff_toInt_lt, Int32.le_iff_toInt_le, ← Int32.toInt_inj, Int32.toInt_toInt64, t_neg1, Int32.reduceToInt, Int64.reduceToInt, Int32.reduceToNatClampNeg, true_or, or_true, true_and, and_true] at *) <;> (simp (disch := ((try simp (disch := ((try simp (disch := ((try simp only [Int32.reduceToInt]) <;> omega)) only [t_add, t_sub, t_mul, Int32.reduceToInt]) <;> omega)) only [t_add, t_sub, t_mul, Int32.reduceToInt]) <;> omega)) only [t_add, t_sub, t_mul, Int32.reduceToInt]) <;> omega))) (fun t19 h5 => ?_)
      refine t_ite (fun c6 => ?_) (fun c6 => ?_)
      · unfold wX11_twelve_j87
        refine t_bind (t_stI (B := bP) (n := 512) (by first | decide | ((try simp only [q1.1, q1.2.2.2.2, w1, p1, Int32.lt_iff_toInt_lt, Int32.le_iff_toInt_le, ← Int32.toInt_inj, Int32.toInt_toInt64, t_neg1, Int32.reduceToInt, Int64.reduceToInt, Int32.reduceToNatClampNeg, true_or, or_true, true_and, and_true] at *) <;> omega) | ((try simp only [q1.1, q1.2.2.2.2, w1, p1, Int32.lt_iff_toInt_lt, Int32.le_iff_toInt_le, ← Int32.toInt_inj, Int32.toInt_toInt64, t_neg1, Int32.reduceToInt, Int64.reduceToInt, Int32.reduceToNatClampNeg, true_or, or_true, true_and, and_true] at *) <;> (simp (disch := ((try simp (disch := ((try simp (disch := ((try simp only [Int32.reduceToInt]) <;> omega)) only [t_add, t_sub, t_mul, Int32.reduceToInt]) <;> omega)) only [t_add, t_sub, t_mul, Int32.reduceToInt]) <;> omega)) only [t_add, t_sub, t_mul, Int32.reduceToInt]) <;> omega)) (by first | decide | ((try simp only [q1.1, q1.2.2.2.2, w1, p1, Int32.lt_iff_toInt_lt, Int32.le_iff_toInt_le, ← Int32.toInt_inj, Int32.toInt_toInt64, t_neg1, Int32.reduceToInt, Int64.reduceToInt, Int32.reduceToNatClampNeg, true_or, or_true, true_and, and_true] at *) <;> omega) | ((try simp only [q1.1, q1.2.2.2.2, w1, p1, Int32.lt_iff_toInt_lt, Int32.le_iff_toInt_le, ← Int32.toInt_inj, Int32.toInt_toInt64, t_neg1, Int32.reduceToInt, Int64.reduceToInt, Int32.reduceToNatClampNeg, true_or, or_true, true_and, and_true] at *) <;> (simp (disch := ((try simp (disch := ((try simp (disch := ((try simp only [Int32.reduceToInt]) <;> omega)) only [t_add, t_sub, t_mul, Int32.reduceToInt]) <;> omega)) only [t_add, t_sub, t_mul, Int32.reduceToInt]) <;> omega)) only [t_add, t_sub, t_mul, Int32.reduceToInt]) <;> omega)) (fun _ => rfl)) (fun s22 h7 => ?_)
        have a8 : wA bP s0 s22 := ha.trans h7.1
        have q9 := sameP a8
        have w9 := wW_same q9.1
        have R9 := RQ_P a8 hR
        have p9 := a8 152 33 rfl
        exact ih a8 (t_n1 c3 hi) (t_m1 c3 hm)
      · unfold wX11_twelve_j87
        refine t_bind (t_stI (B := bP) (n := 512) (by first | decide | ((try simp only [q1.1, q1.2.2.2.2, w1, p1, Int32.lt_iff_toInt_lt, Int32.le_iff_toInt_le, ← Int32.toInt_inj, Int32.toInt_toInt64, t_neg1, Int32.reduceToInt, Int64.reduceToInt, Int32.reduceToNatClampNeg, true_or, or_true, true_and, and_true] at *) <;> omega) | ((try simp only [q1.1, q1.2.2.2.2, w1, p1, Int32.lt_iff_toInt_lt, Int32.le_iff_toInt_le, ← Int32.toInt_inj, Int32.toInt_toInt64, t_neg1, Int32.reduceToInt, Int64.reduceToInt, Int32.reduceToNatClampNeg, true_or, or_true, true_and, and_true] at *) <;> (simp (disch := ((try simp (disch := ((try simp (disch := ((try simp only [Int32.reduceToInt]) <;> omega)) only [t_add, t_sub, t_mul, Int32.reduceToInt]) <;> omega)) only [t_add, t_sub, t_mul, Int32.reduceToInt]) <;> omega)) only [t_add, t_sub, t_mul, Int32.reduceToInt]) <;> omega)) (by first | decide | ((try simp only [q1.1, q1.2.2.2.2, w1, p1, Int32.lt_iff_toInt_lt, Int32.le_iff_toInt_le, ← Int32.toInt_inj, Int32.toInt_toInt64, t_neg1, Int32.reduceToInt, Int64.reduceToInt, Int32.reduceToNatClampNeg, true_or, or_true, true_and, and_true] at *) <;> omega) | ((try simp only [q1.1, q1.2.2.2.2, w1, p1, Int32.lt_iff_toInt_lt, Int32.le_iff_toInt_le, ← Int32.toInt_inj, Int32.toInt_toInt64, t_neg1, Int32.reduceToInt, Int64.reduceToInt, Int32.reduceToNatClampNeg, true_or, or_true, true_and, and_true] at *) <;> (simp (disch := ((try simp (disch := ((try simp (disch := ((try simp only [Int32.reduceToInt]) <;> omega)) only [t_add, t_sub, t_mul, Int32.reduceToInt]) <;> omega)) only [t_add, t_sub, t_mul, Int32.reduceToInt]) <;> omega)) only [t_add, t_sub, t_mul, Int32.reduceToInt]) <;> omega)) (fun _ => rfl)) (fun s22 h10 => ?_)
        have a11 : wA bP s0 s22 := ha.trans h10.1
        have q12 := sameP a11
        have w12 := wW_same q12.1
        have R12 := RQ_P a11 hR
        have p12 := a11 152 33 rfl
        exact ih a11 (t_n1 c3 hi) (t_m1 c3 hm)
    · exact t_some ha
theorem wX11_twelve_h27_T  {s0 : wS} (hR : RQ s0)  : ∀ (n : Nat) {x1 : Int32} {x2 : Int32} {s : wS}, wA bP s0 s → 0 ≤ x2.toInt → 2147483648 - x2.toInt < (n : Int) → Tot (wX11_twelve_h27  n x1 x2 s) (fun (r : Int32 × wS) => wA bP s0 r.2) := by
  intro n
  induction n with
  | zero =>
    intro x1 x2 s ha hi hm
    exact (t_m0 hm).elim
  | succ n ih =>
    intro x1 x2 s ha hi hm
    rw [wX11_twelve_h27]
    have hb := RQ_b hR
    have q1 := sameP ha
    have w1 := wW_same q1.1
    have R1 := RQ_P ha hR
    have p1 := ha 152 33 rfl
    refine t_ite (fun c2 => ?_) (fun c2 => ?_)
    · refine t_ite (fun c3 => ?_) (fun c3 => ?_)
      · refine t_bind (wX11_isLookedAt_T R1 (by first | decide | ((try simp only [q1.1, q1.2.2.2.2, w1, p1, Int32.lt_iff_toInt_lt, Int32.le_iff_toInt_le, ← Int32.toInt_inj, Int32.toInt_toInt64, t_neg1, Int32.reduceToInt, Int64.reduceToInt, Int32.reduceToNatClampNeg, true_or, or_true, true_and, and_true] at *) <;> omega) | ((try simp only [q1.1, q1.2.2.2.2, w1, p1, Int32.lt_iff_toInt_lt, Int32.le_iff_toInt_le, ← Int32.toInt_inj, Int32.toInt_toInt64, t_neg1, Int32.reduceToInt, Int64.reduceToInt, Int32.reduceToNatClampNeg, true_or, or_true, true_and, and_true] at *) <;> (simp (disch := ((try simp (disch := ((try simp (disch := ((try simp only [Int32.reduceToInt]) <;> omega)) only [t_add, t_sub, t_mul, Int32.reduceToInt]) <;> omega)) only [t_add, t_sub, t_mul, Int32.reduceToInt]) <;> omega)) only [t_add, t_sub, t_mul, Int32.reduceToInt]) <;> omega)) (by first | decide | ((try simp only [q1.1, q1.2.2.2.2, w1, p1, Int32.lt_iff_toInt_lt, Int32.le_iff_toInt_le, ← Int32.toInt_inj, Int32.toInt_toInt64, t_neg1, Int32.reduceToInt, Int64.reduceToInt, Int32.reduceToNatClampNeg, true_or, or_true, true_and, and_true] at *) <;> omega) | ((try simp only [q1.1, q1.2.2.2.2, w1, p1, Int32.lt_iff_toInt_lt, Int32.le_iff_toInt_le, ← Int32.toInt_inj, Int32.toInt_toInt64, t_neg1, Int32.reduceToInt, Int64.reduceToInt, Int32.reduceToNatClampNeg, true_or, or_true, true_and, and_true] at *) <;> (simp (disch := ((try simp (disch := ((try simp (disch := ((try simp only [Int32.reduceToInt]) <;> omega)) only [t_add, t_sub, t_mul, Int32.reduceToInt]) <;> omega)) only [t_add, t_sub, t_mul, Int32.reduceToInt]) <;> omega)) only [t_add, t_sub, t_mul, Int32.reduceToInt]) <;> omega))) (fun t12 h4 => ?_)
        refine t_ite (fun c5 => ?_) (fun c5 => ?_)
        · unfold wX11_twelve_j98
          exact ih ha (t_n1 c2 hi) (t_m1 c2 hm)
        · refine t_bind (wX11_twelve_h56_T R1 (by first | decide | ((try simp only [q1.1, q1.2.2.2.2, w1, p1, Int32.lt_iff_toInt_lt, Int32.le_iff_toInt_le, ← Int32.toInt_inj, Int32.toInt_toInt64, t_neg1, Int32.reduceToInt, Int64.reduceToInt, Int32.reduceToNatClampNeg, true_or, or_true, true_and, and_true] at *) <;> omega) | ((try simp only [q1.1, q1.2.2.2.2, w1, p1, Int32.lt_iff_toInt_lt, Int32.le_iff_toInt_le, ← Int32.toInt_inj, Int32.toInt_toInt64, t_neg1, Int32.reduceToInt, Int64.reduceToInt, Int32.reduceToNatClampNeg, true_or, or_true, true_and, and_true] at *) <;> (simp (disch := ((try simp (disch := ((try simp (disch := ((try simp only [Int32.reduceToInt]) <;> omega)) only [t_add, t_sub, t_mul, Int32.reduceToInt]) <;> omega)) only [t_add, t_sub, t_mul, Int32.reduceToInt]) <;> omega)) only [t_add, t_sub, t_mul, Int32.reduceToInt]) <;> omega)) (by first | decide | ((try simp only [q1.1, q1.2.2.2.2, w1, p1, Int32.lt_iff_toInt_lt, Int32.le_iff_toInt_le, ← Int32.toInt_inj, Int32.toInt_toInt64, t_neg1, Int32.reduceToInt, Int64.reduceToInt, Int32.reduceToNatClampNeg, true_or, or_true, true_and, and_true] at *) <;> omega) | ((try simp only [q1.1, q1.2.2.2.2, w1, p1, Int32.lt_iff_toInt_lt, Int32.le_iff_toInt_le, ← Int32.toInt_inj, Int32.toInt_toInt64, t_neg1, Int32.reduceToInt, Int64.reduceToInt, Int32.reduceToNatClampNeg, true_or, or_true, true_and, and_true] at *) <;> (simp (disch := ((try simp (disch := ((try simp (disch := ((try simp only [Int32.reduceToInt]) <;> omega)) only [t_add, t_sub, t_mul, Int32.reduceToInt]) <;> omega)) only [t_add, t_sub, t_mul, Int32.reduceToInt]) <;> omega)) only [t_add, t_sub, t_mul, Int32.reduceToInt]) <;> omega)) _ wA.refl (by decide) t_mi) (fun s24 h6 => ?_)
          have a7 : wA bP s0 s24 := ha.trans h6
          have q8 := sameP a7
          have w8 := wW_same q8.1
          have R8 := RQ_P a7 hR
          have p8 := a7 152 33 rfl
          unfold wX11_twelve_j98
          exact ih a7 (t_n1 c2 hi) (t_m1 c2 hm)
      · exact t_some ha
    · exact t_some ha
theorem wX11_twelve_T {s : wS} (hR : RQ s)  : Tot (wX11_twelve s) (fun (r : Int32 × wS) => wA bP s r.2) := by
  unfold wX11_twelve
  have hb := RQ_b hR
  refine t_bind (wX11_twelve_h4_T hR _ wA.refl (by decide) t_mi) (fun s6 h1 => ?_)
  have a2 : wA bP s s6 := h1
  have q3 := sameP a2
  have w3 := wW_same q3.1
  have R3 := RQ_P a2 hR
  have p3 := a2 152 33 rfl
  refine t_bind (wX11_twelve_h27_T R3 _ wA.refl (by decide) t_mi) (fun r5 h4 => ?_)
  obtain ⟨t27, s28⟩ := r5
  dsimp only at h4 ⊢
  have a6 : wA bP s s28 := a2.trans h4
  have q7 := sameP a6
  have w7 := wW_same q7.1
  have R7 := RQ_P a6 hR
  have p7 := a6 152 33 rfl
  exact t_some a6
theorem wX11_proves_h5_T {x1 : Int32} {x2 : Int32} {s : wS} (hR : RQ s)  : ∀ (n : Nat) {x3 : Int32} {x4 : Int32}, 0 ≤ x4.toInt → x3 = 0 ∨ x3 = 1 → 2147483648 - x4.toInt < (n : Int) → Tot (wX11_proves_h5 x1 x2 s n x3 x4) (Sum.elim (fun (t : Int32) => t = 0 ∨ t = 1) (fun (_ : Unit) => True)) := by
  intro n
  induction n with
  | zero =>
    intro x3 x4 hi hz hm
    exact (t_m0 hm).elim
  | succ n ih =>
    intro x3 x4 hi hz hm
    rw [wX11_proves_h5]
    have hb := RQ_b hR
    refine t_bind (wX11_worlds_T) (fun t1 h1 => ?_)
    refine t_ite (fun c2 => ?_) (fun c2 => ?_)
    · refine t_bind (t_ldI (n := 512) (by first | decide | ((try simp only [Int32.lt_iff_toInt_lt, Int32.le_iff_toInt_le, ← Int32.toInt_inj, Int32.toInt_toInt64, t_neg1, Int32.reduceToInt, Int64.reduceToInt, Int32.reduceToNatClampNeg, true_or, or_true, true_and, and_true] at *) <;> omega) | ((try simp only [Int32.lt_iff_toInt_lt, Int32.le_iff_toInt_le, ← Int32.toInt_inj, Int32.toInt_toInt64, t_neg1, Int32.reduceToInt, Int64.reduceToInt, Int32.reduceToNatClampNeg, true_or, or_true, true_and, and_true] at *) <;> (simp (disch := ((try simp (disch := ((try simp (disch := ((try simp only [Int32.reduceToInt]) <;> omega)) only [t_add, t_sub, t_mul, Int32.reduceToInt]) <;> omega)) only [t_add, t_sub, t_mul, Int32.reduceToInt]) <;> omega)) only [t_add, t_sub, t_mul, Int32.reduceToInt]) <;> omega)) (by first | decide | ((try simp only [Int32.lt_iff_toInt_lt, Int32.le_iff_toInt_le, ← Int32.toInt_inj, Int32.toInt_toInt64, t_neg1, Int32.reduceToInt, Int64.reduceToInt, Int32.reduceToNatClampNeg, true_or, or_true, true_and, and_true] at *) <;> omega) | ((try simp only [Int32.lt_iff_toInt_lt, Int32.le_iff_toInt_le, ← Int32.toInt_inj, Int32.toInt_toInt64, t_neg1, Int32.reduceToInt, Int64.reduceToInt, Int32.reduceToNatClampNeg, true_or, or_true, true_and, and_true] at *) <;> (simp (disch := ((try simp (disch := ((try simp (disch := ((try simp only [Int32.reduceToInt]) <;> omega)) only [t_add, t_sub, t_mul, Int32.reduceToInt]) <;> omega)) only [t_add, t_sub, t_mul, Int32.reduceToInt]) <;> omega)) only [t_add, t_sub, t_mul, Int32.reduceToInt]) <;> omega))) (fun t4 h3 => ?_)
      refine t_ite (fun c4 => ?_) (fun c4 => ?_)
      · refine t_bind (wX11_thingOf_T hR (by first | decide | ((try simp only [Int32.lt_iff_toInt_lt, Int32.le_iff_toInt_le, ← Int32.toInt_inj, Int32.toInt_toInt64, t_neg1, Int32.reduceToInt, Int64.reduceToInt, Int32.reduceToNatClampNeg, true_or, or_true, true_and, and_true] at *) <;> omega) | ((try simp only [Int32.lt_iff_toInt_lt, Int32.le_iff_toInt_le, ← Int32.toInt_inj, Int32.toInt_toInt64, t_neg1, Int32.reduceToInt, Int64.reduceToInt, Int32.reduceToNatClampNeg, true_or, or_true, true_and, and_true] at *) <;> (simp (disch := ((try simp (disch := ((try simp (disch := ((try simp only [Int32.reduceToInt]) <;> omega)) only [t_add, t_sub, t_mul, Int32.reduceToInt]) <;> omega)) only [t_add, t_sub, t_mul, Int32.reduceToInt]) <;> omega)) only [t_add, t_sub, t_mul, Int32.reduceToInt]) <;> omega)) (by first | decide | ((try simp only [Int32.lt_iff_toInt_lt, Int32.le_iff_toInt_le, ← Int32.toInt_inj, Int32.toInt_toInt64, t_neg1, Int32.reduceToInt, Int64.reduceToInt, Int32.reduceToNatClampNeg, true_or, or_true, true_and, and_true] at *) <;> omega) | ((try simp only [Int32.lt_iff_toInt_lt, Int32.le_iff_toInt_le, ← Int32.toInt_inj, Int32.toInt_toInt64, t_neg1, Int32.reduceToInt, Int64.reduceToInt, Int32.reduceToNatClampNeg, true_or, or_true, true_and, and_true] at *) <;> (simp (disch := ((try simp (disch := ((try simp (disch := ((try simp only [Int32.reduceToInt]) <;> omega)) only [t_add, t_sub, t_mul, Int32.reduceToInt]) <;> omega)) only [t_add, t_sub, t_mul, Int32.reduceToInt]) <;> omega)) only [t_add, t_sub, t_mul, Int32.reduceToInt]) <;> omega)) (by first | decide | ((try simp only [Int32.lt_iff_toInt_lt, Int32.le_iff_toInt_le, ← Int32.toInt_inj, Int32.toInt_toInt64, t_neg1, Int32.reduceToInt, Int64.reduceToInt, Int32.reduceToNatClampNeg, true_or, or_true, true_and, and_true] at *) <;> omega) | ((try simp only [Int32.lt_iff_toInt_lt, Int32.le_iff_toInt_le, ← Int32.toInt_inj, Int32.toInt_toInt64, t_neg1, Int32.reduceToInt, Int64.reduceToInt, Int32.reduceToNatClampNeg, true_or, or_true, true_and, and_true] at *) <;> (simp (disch := ((try simp (disch := ((try simp (disch := ((try simp only [Int32.reduceToInt]) <;> omega)) only [t_add, t_sub, t_mul, Int32.reduceToInt]) <;> omega)) only [t_add, t_sub, t_mul, Int32.reduceToInt]) <;> omega)) only [t_add, t_sub, t_mul, Int32.reduceToInt]) <;> omega)) (by first | decide | ((try simp only [Int32.lt_iff_toInt_lt, Int32.le_iff_toInt_le, ← Int32.toInt_inj, Int32.toInt_toInt64, t_neg1, Int32.reduceToInt, Int64.reduceToInt, Int32.reduceToNatClampNeg, true_or, or_true, true_and, and_true] at *) <;> omega) | ((try simp only [Int32.lt_iff_toInt_lt, Int32.le_iff_toInt_le, ← Int32.toInt_inj, Int32.toInt_toInt64, t_neg1, Int32.reduceToInt, Int64.reduceToInt, Int32.reduceToNatClampNeg, true_or, or_true, true_and, and_true] at *) <;> (simp (disch := ((try simp (disch := ((try simp (disch := ((try simp only [Int32.reduceToInt]) <;> omega)) only [t_add, t_sub, t_mul, Int32.reduceToInt]) <;> omega)) only [t_add, t_sub, t_mul, Int32.reduceToInt]) <;> omega)) only [t_add, t_sub, t_mul, Int32.reduceToInt]) <;> omega))) (fun t6 h5 => ?_)
        refine t_ite (fun c6 => ?_) (fun c6 => ?_)
        · unfold wX11_proves_j45
          exact ih (t_n1 c2 hi) (by first | decide | ((try simp only [Int32.lt_iff_toInt_lt, Int32.le_iff_toInt_le, ← Int32.toInt_inj, Int32.toInt_toInt64, t_neg1, Int32.reduceToInt, Int64.reduceToInt, Int32.reduceToNatClampNeg, true_or, or_true, true_and, and_true] at *) <;> omega) | ((try simp only [Int32.lt_iff_toInt_lt, Int32.le_iff_toInt_le, ← Int32.toInt_inj, Int32.toInt_toInt64, t_neg1, Int32.reduceToInt, Int64.reduceToInt, Int32.reduceToNatClampNeg, true_or, or_true, true_and, and_true] at *) <;> (simp (disch := ((try simp (disch := ((try simp (disch := ((try simp only [Int32.reduceToInt]) <;> omega)) only [t_add, t_sub, t_mul, Int32.reduceToInt]) <;> omega)) only [t_add, t_sub, t_mul, Int32.reduceToInt]) <;> omega)) only [t_add, t_sub, t_mul, Int32.reduceToInt]) <;> omega)) (t_m1 c2 hm)
        · exact t_some trivial
      · unfold wX11_proves_j45
        exact ih (t_n1 c2 hi) (by first | decide | ((try simp only [Int32.lt_iff_toInt_lt, Int32.le_iff_toInt_le, ← Int32.toInt_inj, Int32.toInt_toInt64, t_neg1, Int32.reduceToInt, Int64.reduceToInt, Int32.reduceToNatClampNeg, true_or, or_true, true_and, and_true] at *) <;> omega) | ((try simp only [Int32.lt_iff_toInt_lt, Int32.le_iff_toInt_le, ← Int32.toInt_inj, Int32.toInt_toInt64, t_neg1, Int32.reduceToInt, Int64.reduceToInt, Int32.reduceToNatClampNeg, true_or, or_true, true_and, and_true] at *) <;> (simp (disch := ((try simp (disch := ((try simp (disch := ((try simp only [Int32.reduceToInt]) <;> omega)) only [t_add, t_sub, t_mul, Int32.reduceToInt]) <;> omega)) only [t_add, t_sub, t_mul, Int32.reduceToInt]) <;> omega)) only [t_add, t_sub, t_mul, Int32.reduceToInt]) <;> omega)) (t_m1 c2 hm)
    · exact t_some hz
theorem wX11_proves_T {x1 : Int32} {x2 : Int32} {s : wS} (hR : RQ s)  : Tot (wX11_proves x1 x2 s) (fun (_ : Int32) => True) := by
  unfold wX11_proves
  have hb := RQ_b hR
  refine t_bind (wX11_proves_h5_T hR _ (by decide) (by first | decide | ((try simp only [Int32.lt_iff_toInt_lt, Int32.le_iff_toInt_le, ← Int32.toInt_inj, Int32.toInt_toInt64, t_neg1, Int32.reduceToInt, Int64.reduceToInt, Int32.reduceToNatClampNeg, true_or, or_true, true_and, and_true] at *) <;> omega) | ((try simp only [Int32.lt_iff_toInt_lt, Int32.le_iff_toInt_le, ← Int32.toInt_inj, Int32.toInt_toInt64, t_neg1, Int32.reduceToInt, Int64.reduceToInt, Int32.reduceToNatClampNeg, true_or, or_true, true_and, and_true] at *) <;> (simp (disch := ((try simp (disch := ((try simp (disch := ((try simp only [Int32.reduceToInt]) <;> omega)) only [t_add, t_sub, t_mul, Int32.reduceToInt]) <;> omega)) only [t_add, t_sub, t_mul, Int32.reduceToInt]) <;> omega)) only [t_add, t_sub, t_mul, Int32.reduceToInt]) <;> omega)) t_mi) (fun z9 h1 => ?_)
  rcases z9 with z9 | z9
  · obtain t10 := z9
    simp only [Sum.elim_inl, Sum.elim_inr] at h1
    dsimp only
    exact t_mono (t_rtZ (by first | decide | ((try simp only [Int32.lt_iff_toInt_lt, Int32.le_iff_toInt_le, ← Int32.toInt_inj, Int32.toInt_toInt64, t_neg1, Int32.reduceToInt, Int64.reduceToInt, Int32.reduceToNatClampNeg, true_or, or_true, true_and, and_true] at *) <;> omega) | ((try simp only [Int32.lt_iff_toInt_lt, Int32.le_iff_toInt_le, ← Int32.toInt_inj, Int32.toInt_toInt64, t_neg1, Int32.reduceToInt, Int64.reduceToInt, Int32.reduceToNatClampNeg, true_or, or_true, true_and, and_true] at *) <;> (simp (disch := ((try simp (disch := ((try simp (disch := ((try simp only [Int32.reduceToInt]) <;> omega)) only [t_add, t_sub, t_mul, Int32.reduceToInt]) <;> omega)) only [t_add, t_sub, t_mul, Int32.reduceToInt]) <;> omega)) only [t_add, t_sub, t_mul, Int32.reduceToInt]) <;> omega))) (fun _ _ => trivial)
  · simp only [Sum.elim_inl, Sum.elim_inr] at h1
    dsimp only
    exact t_some trivial
theorem wX11_proof_h36_T {x2 : Int32} {x3 : Int32} {s : wS} (hR : RQ s)  : ∀ (n : Nat) {x4 : Int32} {x5 : Int32}, 0 ≤ x5.toInt → 2147483648 - x5.toInt < (n : Int) → Tot (wX11_proof_h36 x2 x3 s n x4 x5) (fun (_ : Int32) => True) := by
  intro n
  induction n with
  | zero =>
    intro x4 x5 hi hm
    exact (t_m0 hm).elim
  | succ n ih =>
    intro x4 x5 hi hm
    rw [wX11_proof_h36]
    have hb := RQ_b hR
    refine t_ite (fun c1 => ?_) (fun c1 => ?_)
    · refine t_ite (fun c2 => ?_) (fun c2 => ?_)
      · unfold wX11_proof_j64
        refine t_bind (wX11_proves_T hR) (fun t15 h3 => ?_)
        refine t_ite (fun c4 => ?_) (fun c4 => ?_)
        · unfold wX11_proof_j78
          exact ih (t_n1 c1 hi) (t_m1 c1 hm)
        · unfold wX11_proof_j78
          exact ih (t_n1 c1 hi) (t_m1 c1 hm)
      · refine t_bind (wX11_bits_T) (fun t18 h5 => ?_)
        refine t_bind (wX11_bits_T) (fun t20 h6 => ?_)
        refine t_ite (fun c7 => ?_) (fun c7 => ?_)
        · unfold wX11_proof_j64
          refine t_bind (wX11_proves_T hR) (fun t15 h8 => ?_)
          refine t_ite (fun c9 => ?_) (fun c9 => ?_)
          · unfold wX11_proof_j78
            exact ih (t_n1 c1 hi) (t_m1 c1 hm)
          · unfold wX11_proof_j78
            exact ih (t_n1 c1 hi) (t_m1 c1 hm)
        · unfold wX11_proof_j78
          exact ih (t_n1 c1 hi) (t_m1 c1 hm)
    · exact t_some trivial
theorem wX11_proof_T {x1 : Int32} {x2 : Int32} {s : wS} (hR : RQ s)  : Tot (wX11_proof x1 x2 s) (fun (r : Int32 × wS) => wA bP s r.2) := by
  unfold wX11_proof
  have hb := RQ_b hR
  refine t_bind (wX11_canAsk_T) (fun t1 h1 => ?_)
  refine t_ite (fun c2 => ?_) (fun c2 => ?_)
  · exact t_some wA.refl
  · refine t_bind (wX11_isThing_T hR) (fun t4 h3 => ?_)
    refine t_ite (fun c4 => ?_) (fun c4 => ?_)
    · exact t_some wA.refl
    · refine t_bind (wX11_reaches_T hR (by first | decide | ((try simp only [Int32.lt_iff_toInt_lt, Int32.le_iff_toInt_le, ← Int32.toInt_inj, Int32.toInt_toInt64, t_neg1, Int32.reduceToInt, Int64.reduceToInt, Int32.reduceToNatClampNeg, true_or, or_true, true_and, and_true] at *) <;> omega) | ((try simp only [Int32.lt_iff_toInt_lt, Int32.le_iff_toInt_le, ← Int32.toInt_inj, Int32.toInt_toInt64, t_neg1, Int32.reduceToInt, Int64.reduceToInt, Int32.reduceToNatClampNeg, true_or, or_true, true_and, and_true] at *) <;> (simp (disch := ((try simp (disch := ((try simp (disch := ((try simp only [Int32.reduceToInt]) <;> omega)) only [t_add, t_sub, t_mul, Int32.reduceToInt]) <;> omega)) only [t_add, t_sub, t_mul, Int32.reduceToInt]) <;> omega)) only [t_add, t_sub, t_mul, Int32.reduceToInt]) <;> omega)) (by first | decide | ((try simp only [Int32.lt_iff_toInt_lt, Int32.le_iff_toInt_le, ← Int32.toInt_inj, Int32.toInt_toInt64, t_neg1, Int32.reduceToInt, Int64.reduceToInt, Int32.reduceToNatClampNeg, true_or, or_true, true_and, and_true] at *) <;> omega) | ((try simp only [Int32.lt_iff_toInt_lt, Int32.le_iff_toInt_le, ← Int32.toInt_inj, Int32.toInt_toInt64, t_neg1, Int32.reduceToInt, Int64.reduceToInt, Int32.reduceToNatClampNeg, true_or, or_true, true_and, and_true] at *) <;> (simp (disch := ((try simp (disch := ((try simp (disch := ((try simp only [Int32.reduceToInt]) <;> omega)) only [t_add, t_sub, t_mul, Int32.reduceToInt]) <;> omega)) only [t_add, t_sub, t_mul, Int32.reduceToInt]) <;> omega)) only [t_add, t_sub, t_mul, Int32.reduceToInt]) <;> omega))) (fun s8 h5 => ?_)
      have a6 : wA bP s s8 := h5
      have q7 := sameP a6
      have w7 := wW_same q7.1
      have R7 := RQ_P a6 hR
      have p7 := a6 152 33 rfl
      refine t_bind (wX11_twelve_T R7) (fun r9 h8 => ?_)
      obtain ⟨t10, s11⟩ := r9
      dsimp only at h8 ⊢
      have a10 : wA bP s s11 := a6.trans h8
      have q11 := sameP a10
      have w11 := wW_same q11.1
      have R11 := RQ_P a10 hR
      have p11 := a10 152 33 rfl
      refine t_bind (wX11_proof_h36_T R11 _ (by decide) t_mi) (fun t24 h12 => ?_)
      exact t_some a10
theorem wX11_byLaws_h47_T {x1 : Int32} {x2 : Int32} {x3 : Int32} {s0 : wS} (hR : RQ s0)  : ∀ (n : Nat) {x4 : Int32} {s : wS}, wA bP s0 s → 0 ≤ x4.toInt → 2147483648 - x4.toInt < (n : Int) → Tot (wX11_byLaws_h47 x1 x2 x3 n x4 s) (fun (r : wS) => wA bP s0 r) := by
  intro n
  induction n with
  | zero =>
    intro x4 s ha hi hm
    exact (t_m0 hm).elim
  | succ n ih =>
    intro x4 s ha hi hm
    rw [wX11_byLaws_h47]
    have hb := RQ_b hR
    have q1 := sameP ha
    have w1 := wW_same q1.1
    have R1 := RQ_P ha hR
    have p1 := ha 152 33 rfl
    refine t_bind (wX11_worlds_T) (fun t13 h2 => ?_)
    refine t_ite (fun c3 => ?_) (fun c3 => ?_)
    · refine t_bind (t_stI (B := bP) (n := 512) (by first | decide | ((try simp only [q1.1, q1.2.2.2.2, w1, p1, Int32.lt_iff_toInt_lt, Int32.le_iff_toInt_le, ← Int32.toInt_inj, Int32.toInt_toInt64, t_neg1, Int32.reduceToInt, Int64.reduceToInt, Int32.reduceToNatClampNeg, true_or, or_true, true_and, and_true] at *) <;> omega) | ((try simp only [q1.1, q1.2.2.2.2, w1, p1, Int32.lt_iff_toInt_lt, Int32.le_iff_toInt_le, ← Int32.toInt_inj, Int32.toInt_toInt64, t_neg1, Int32.reduceToInt, Int64.reduceToInt, Int32.reduceToNatClampNeg, true_or, or_true, true_and, and_true] at *) <;> (simp (disch := ((try simp (disch := ((try simp (disch := ((try simp only [Int32.reduceToInt]) <;> omega)) only [t_add, t_sub, t_mul, Int32.reduceToInt]) <;> omega)) only [t_add, t_sub, t_mul, Int32.reduceToInt]) <;> omega)) only [t_add, t_sub, t_mul, Int32.reduceToInt]) <;> omega)) (by first | decide | ((try simp only [q1.1, q1.2.2.2.2, w1, p1, Int32.lt_iff_toInt_lt, Int32.le_iff_toInt_le, ← Int32.toInt_inj, Int32.toInt_toInt64, t_neg1, Int32.reduceToInt, Int64.reduceToInt, Int32.reduceToNatClampNeg, true_or, or_true, true_and, and_true] at *) <;> omega) | ((try simp only [q1.1, q1.2.2.2.2, w1, p1, Int32.lt_iff_toInt_lt, Int32.le_iff_toInt_le, ← Int32.toInt_inj, Int32.toInt_toInt64, t_neg1, Int32.reduceToInt, Int64.reduceToInt, Int32.reduceToNatClampNeg, true_or, or_true, true_and, and_true] at *) <;> (simp (disch := ((try simp (disch := ((try simp (disch := ((try simp only [Int32.reduceToInt]) <;> omega)) only [t_add, t_sub, t_mul, Int32.reduceToInt]) <;> omega)) only [t_add, t_sub, t_mul, Int32.reduceToInt]) <;> omega)) only [t_add, t_sub, t_mul, Int32.reduceToInt]) <;> omega)) (fun _ => rfl)) (fun s16 h4 => ?_)
      have a5 : wA bP s0 s16 := ha.trans h4.1
      have q6 := sameP a5
      have w6 := wW_same q6.1
      have R6 := RQ_P a5 hR
      have p6 := a5 152 33 rfl
      exact ih a5 (t_n1 c3 hi) (t_m1 c3 hm)
    · exact t_some ha
theorem wX11_byLaws_h106_T {x1 : Int32} {x2 : Int32} {x3 : Int32} {x4 : Int32} {s0 : wS} (hR : RQ s0)  : ∀ (n : Nat) {x5 : Int32} {s : wS}, wA bP s0 s → 0 ≤ x5.toInt → 2147483648 - x5.toInt < (n : Int) → Tot (wX11_byLaws_h106 x1 x2 x3 x4 n x5 s) (fun (r : wS) => wA bP s0 r) := by
  intro n
  induction n with
  | zero =>
    intro x5 s ha hi hm
    exact (t_m0 hm).elim
  | succ n ih =>
    intro x5 s ha hi hm
    rw [wX11_byLaws_h106]
    have hb := RQ_b hR
    have q1 := sameP ha
    have w1 := wW_same q1.1
    have R1 := RQ_P ha hR
    have p1 := ha 152 33 rfl
    refine t_bind (wX11_worlds_T) (fun t26 h2 => ?_)
    refine t_ite (fun c3 => ?_) (fun c3 => ?_)
    · refine t_bind (t_ldI (n := 512) (by first | decide | ((try simp only [q1.1, q1.2.2.2.2, w1, p1, Int32.lt_iff_toInt_lt, Int32.le_iff_toInt_le, ← Int32.toInt_inj, Int32.toInt_toInt64, t_neg1, Int32.reduceToInt, Int64.reduceToInt, Int32.reduceToNatClampNeg, true_or, or_true, true_and, and_true] at *) <;> omega) | ((try simp only [q1.1, q1.2.2.2.2, w1, p1, Int32.lt_iff_toInt_lt, Int32.le_iff_toInt_le, ← Int32.toInt_inj, Int32.toInt_toInt64, t_neg1, Int32.reduceToInt, Int64.reduceToInt, Int32.reduceToNatClampNeg, true_or, or_true, true_and, and_true] at *) <;> (simp (disch := ((try simp (disch := ((try simp (disch := ((try simp only [Int32.reduceToInt]) <;> omega)) only [t_add, t_sub, t_mul, Int32.reduceToInt]) <;> omega)) only [t_add, t_sub, t_mul, Int32.reduceToInt]) <;> omega)) only [t_add, t_sub, t_mul, Int32.reduceToInt]) <;> omega)) (by first | decide | ((try simp only [q1.1, q1.2.2.2.2, w1, p1, Int32.lt_iff_toInt_lt, Int32.le_iff_toInt_le, ← Int32.toInt_inj, Int32.toInt_toInt64, t_neg1, Int32.reduceToInt, Int64.reduceToInt, Int32.reduceToNatClampNeg, true_or, or_true, true_and, and_true] at *) <;> omega) | ((try simp only [q1.1, q1.2.2.2.2, w1, p1, Int32.lt_iff_toInt_lt, Int32.le_iff_toInt_le, ← Int32.toInt_inj, Int32.toInt_toInt64, t_neg1, Int32.reduceToInt, Int64.reduceToInt, Int32.reduceToNatClampNeg, true_or, or_true, true_and, and_true] at *) <;> (simp (disch := ((try simp (disch := ((try simp (disch := ((try simp only [Int32.reduceToInt]) <;> omega)) only [t_add, t_sub, t_mul, Int32.reduceToInt]) <;> omega)) only [t_add, t_sub, t_mul, Int32.reduceToInt]) <;> omega)) only [t_add, t_sub, t_mul, Int32.reduceToInt]) <;> omega))) (fun t29 h4 => ?_)
      refine t_bind (t_ldI (n := 512) (by first | decide | ((try simp only [q1.1, q1.2.2.2.2, w1, p1, Int32.lt_iff_toInt_lt, Int32.le_iff_toInt_le, ← Int32.toInt_inj, Int32.toInt_toInt64, t_neg1, Int32.reduceToInt, Int64.reduceToInt, Int32.reduceToNatClampNeg, true_or, or_true, true_and, and_true] at *) <;> omega) | ((try simp only [q1.1, q1.2.2.2.2, w1, p1, Int32.lt_iff_toInt_lt, Int32.le_iff_toInt_le, ← Int32.toInt_inj, Int32.toInt_toInt64, t_neg1, Int32.reduceToInt, Int64.reduceToInt, Int32.reduceToNatClampNeg, true_or, or_true, true_and, and_true] at *) <;> (simp (disch := ((try simp (disch := ((try simp (disch := ((try simp only [Int32.reduceToInt]) <;> omega)) only [t_add, t_sub, t_mul, Int32.reduceToInt]) <;> omega)) only [t_add, t_sub, t_mul, Int32.reduceToInt]) <;> omega)) only [t_add, t_sub, t_mul, Int32.reduceToInt]) <;> omega)) (by first | decide | ((try simp only [q1.1, q1.2.2.2.2, w1, p1, Int32.lt_iff_toInt_lt, Int32.le_iff_toInt_le, ← Int32.toInt_inj, Int32.toInt_toInt64, t_neg1, Int32.reduceToInt, Int64.reduceToInt, Int32.reduceToNatClampNeg, true_or, or_true, true_and, and_true] at *) <;> omega) | ((try simp only [q1.1, q1.2.2.2.2, w1, p1, Int32.lt_iff_toInt_lt, Int32.le_iff_toInt_le, ← Int32.toInt_inj, Int32.toInt_toInt64, t_neg1, Int32.reduceToInt, Int64.reduceToInt, Int32.reduceToNatClampNeg, true_or, or_true, true_and, and_true] at *) <;> (simp (disch := ((try simp (disch := ((try simp (disch := ((try simp only [Int32.reduceToInt]) <;> omega)) only [t_add, t_sub, t_mul, Int32.reduceToInt]) <;> omega)) only [t_add, t_sub, t_mul, Int32.reduceToInt]) <;> omega)) only [t_add, t_sub, t_mul, Int32.reduceToInt]) <;> omega))) (fun t30 h5 => ?_)
      refine t_ite (fun c6 => ?_) (fun c6 => ?_)
      · unfold wX11_byLaws_j138
        refine t_bind (t_stI (B := bP) (n := 512) (by first | decide | ((try simp only [q1.1, q1.2.2.2.2, w1, p1, Int32.lt_iff_toInt_lt, Int32.le_iff_toInt_le, ← Int32.toInt_inj, Int32.toInt_toInt64, t_neg1, Int32.reduceToInt, Int64.reduceToInt, Int32.reduceToNatClampNeg, true_or, or_true, true_and, and_true] at *) <;> omega) | ((try simp only [q1.1, q1.2.2.2.2, w1, p1, Int32.lt_iff_toInt_lt, Int32.le_iff_toInt_le, ← Int32.toInt_inj, Int32.toInt_toInt64, t_neg1, Int32.reduceToInt, Int64.reduceToInt, Int32.reduceToNatClampNeg, true_or, or_true, true_and, and_true] at *) <;> (simp (disch := ((try simp (disch := ((try simp (disch := ((try simp only [Int32.reduceToInt]) <;> omega)) only [t_add, t_sub, t_mul, Int32.reduceToInt]) <;> omega)) only [t_add, t_sub, t_mul, Int32.reduceToInt]) <;> omega)) only [t_add, t_sub, t_mul, Int32.reduceToInt]) <;> omega)) (by first | decide | ((try simp only [q1.1, q1.2.2.2.2, w1, p1, Int32.lt_iff_toInt_lt, Int32.le_iff_toInt_le, ← Int32.toInt_inj, Int32.toInt_toInt64, t_neg1, Int32.reduceToInt, Int64.reduceToInt, Int32.reduceToNatClampNeg, true_or, or_true, true_and, and_true] at *) <;> omega) | ((try simp only [q1.1, q1.2.2.2.2, w1, p1, Int32.lt_iff_toInt_lt, Int32.le_iff_toInt_le, ← Int32.toInt_inj, Int32.toInt_toInt64, t_neg1, Int32.reduceToInt, Int64.reduceToInt, Int32.reduceToNatClampNeg, true_or, or_true, true_and, and_true] at *) <;> (simp (disch := ((try simp (disch := ((try simp (disch := ((try simp only [Int32.reduceToInt]) <;> omega)) only [t_add, t_sub, t_mul, Int32.reduceToInt]) <;> omega)) only [t_add, t_sub, t_mul, Int32.reduceToInt]) <;> omega)) only [t_add, t_sub, t_mul, Int32.reduceToInt]) <;> omega)) (fun _ => rfl)) (fun s32 h7 => ?_)
        have a8 : wA bP s0 s32 := ha.trans h7.1
        have q9 := sameP a8
        have w9 := wW_same q9.1
        have R9 := RQ_P a8 hR
        have p9 := a8 152 33 rfl
        exact ih a8 (t_n1 c3 hi) (t_m1 c3 hm)
      · unfold wX11_byLaws_j138
        refine t_bind (t_stI (B := bP) (n := 512) (by first | decide | ((try simp only [q1.1, q1.2.2.2.2, w1, p1, Int32.lt_iff_toInt_lt, Int32.le_iff_toInt_le, ← Int32.toInt_inj, Int32.toInt_toInt64, t_neg1, Int32.reduceToInt, Int64.reduceToInt, Int32.reduceToNatClampNeg, true_or, or_true, true_and, and_true] at *) <;> omega) | ((try simp only [q1.1, q1.2.2.2.2, w1, p1, Int32.lt_iff_toInt_lt, Int32.le_iff_toInt_le, ← Int32.toInt_inj, Int32.toInt_toInt64, t_neg1, Int32.reduceToInt, Int64.reduceToInt, Int32.reduceToNatClampNeg, true_or, or_true, true_and, and_true] at *) <;> (simp (disch := ((try simp (disch := ((try simp (disch := ((try simp only [Int32.reduceToInt]) <;> omega)) only [t_add, t_sub, t_mul, Int32.reduceToInt]) <;> omega)) only [t_add, t_sub, t_mul, Int32.reduceToInt]) <;> omega)) only [t_add, t_sub, t_mul, Int32.reduceToInt]) <;> omega)) (by first | decide | ((try simp only [q1.1, q1.2.2.2.2, w1, p1, Int32.lt_iff_toInt_lt, Int32.le_iff_toInt_le, ← Int32.toInt_inj, Int32.toInt_toInt64, t_neg1, Int32.reduceToInt, Int64.reduceToInt, Int32.reduceToNatClampNeg, true_or, or_true, true_and, and_true] at *) <;> omega) | ((try simp only [q1.1, q1.2.2.2.2, w1, p1, Int32.lt_iff_toInt_lt, Int32.le_iff_toInt_le, ← Int32.toInt_inj, Int32.toInt_toInt64, t_neg1, Int32.reduceToInt, Int64.reduceToInt, Int32.reduceToNatClampNeg, true_or, or_true, true_and, and_true] at *) <;> (simp (disch := ((try simp (disch := ((try simp (disch := ((try simp only [Int32.reduceToInt]) <;> omega)) only [t_add, t_sub, t_mul, Int32.reduceToInt]) <;> omega)) only [t_add, t_sub, t_mul, Int32.reduceToInt]) <;> omega)) only [t_add, t_sub, t_mul, Int32.reduceToInt]) <;> omega)) (fun _ => rfl)) (fun s32 h10 => ?_)
        have a11 : wA bP s0 s32 := ha.trans h10.1
        have q12 := sameP a11
        have w12 := wW_same q12.1
        have R12 := RQ_P a11 hR
        have p12 := a11 152 33 rfl
        exact ih a11 (t_n1 c3 hi) (t_m1 c3 hm)
    · exact t_some ha
theorem wX11_byLaws_h73_T {x1 : Int32} {x2 : Int32} {x3 : Int32} {s0 : wS} (hR : RQ s0)  : ∀ (n : Nat) {x4 : Int32} {s : wS}, wA bP s0 s → 0 ≤ x4.toInt → 2147483648 - x4.toInt < (n : Int) → Tot (wX11_byLaws_h73 x1 x2 x3 n x4 s) (fun (r : wS) => wA bP s0 r) := by
  intro n
  induction n with
  | zero =>
    intro x4 s ha hi hm
    exact (t_m0 hm).elim
  | succ n ih =>
    intro x4 s ha hi hm
    rw [wX11_byLaws_h73]
    have hb := RQ_b hR
    have q1 := sameP ha
    have w1 := wW_same q1.1
    have R1 := RQ_P ha hR
    have p1 := ha 152 33 rfl
    refine t_ite (fun c2 => ?_) (fun c2 => ?_)
    · refine t_ite (fun c3 => ?_) (fun c3 => ?_)
      · unfold wX11_byLaws_j146
        exact ih ha (t_n1 c2 hi) (t_m1 c2 hm)
      · refine t_bind (wX11_keeps_T R1 (by first | decide | ((try simp only [q1.1, q1.2.2.2.2, w1, p1, Int32.lt_iff_toInt_lt, Int32.le_iff_toInt_le, ← Int32.toInt_inj, Int32.toInt_toInt64, t_neg1, Int32.reduceToInt, Int64.reduceToInt, Int32.reduceToNatClampNeg, true_or, or_true, true_and, and_true] at *) <;> omega) | ((try simp only [q1.1, q1.2.2.2.2, w1, p1, Int32.lt_iff_toInt_lt, Int32.le_iff_toInt_le, ← Int32.toInt_inj, Int32.toInt_toInt64, t_neg1, Int32.reduceToInt, Int64.reduceToInt, Int32.reduceToNatClampNeg, true_or, or_true, true_and, and_true] at *) <;> (simp (disch := ((try simp (disch := ((try simp (disch := ((try simp only [Int32.reduceToInt]) <;> omega)) only [t_add, t_sub, t_mul, Int32.reduceToInt]) <;> omega)) only [t_add, t_sub, t_mul, Int32.reduceToInt]) <;> omega)) only [t_add, t_sub, t_mul, Int32.reduceToInt]) <;> omega)) (by first | decide | ((try simp only [q1.1, q1.2.2.2.2, w1, p1, Int32.lt_iff_toInt_lt, Int32.le_iff_toInt_le, ← Int32.toInt_inj, Int32.toInt_toInt64, t_neg1, Int32.reduceToInt, Int64.reduceToInt, Int32.reduceToNatClampNeg, true_or, or_true, true_and, and_true] at *) <;> omega) | ((try simp only [q1.1, q1.2.2.2.2, w1, p1, Int32.lt_iff_toInt_lt, Int32.le_iff_toInt_le, ← Int32.toInt_inj, Int32.toInt_toInt64, t_neg1, Int32.reduceToInt, Int64.reduceToInt, Int32.reduceToNatClampNeg, true_or, or_true, true_and, and_true] at *) <;> (simp (disch := ((try simp (disch := ((try simp (disch := ((try simp only [Int32.reduceToInt]) <;> omega)) only [t_add, t_sub, t_mul, Int32.reduceToInt]) <;> omega)) only [t_add, t_sub, t_mul, Int32.reduceToInt]) <;> omega)) only [t_add, t_sub, t_mul, Int32.reduceToInt]) <;> omega))) (fun r5 h4 => ?_)
        obtain ⟨t23, s24⟩ := r5
        dsimp only at h4 ⊢
        have a6 : wA bP s0 s24 := ha.trans h4.1
        have q7 := sameP a6
        have w7 := wW_same q7.1
        have R7 := RQ_P a6 hR
        have p7 := a6 152 33 rfl
        refine t_bind (wX11_byLaws_h106_T R7 _ wA.refl (by decide) t_mi) (fun s34 h8 => ?_)
        have a9 : wA bP s0 s34 := a6.trans h8
        have q10 := sameP a9
        have w10 := wW_same q10.1
        have R10 := RQ_P a9 hR
        have p10 := a9 152 33 rfl
        unfold wX11_byLaws_j146
        exact ih a9 (t_n1 c2 hi) (t_m1 c2 hm)
    · exact t_some ha
theorem wX11_byLaws_h158_T {x1 : Int32} {x3 : Int32} {s : wS} (hR : RQ s)  : ∀ (n : Nat) {x4 : Int32} {x5 : Int32}, 0 ≤ x5.toInt → 2147483648 - x5.toInt < (n : Int) → Tot (wX11_byLaws_h158 x1 x3 s n x4 x5) (fun (_ : Int32) => True) := by
  intro n
  induction n with
  | zero =>
    intro x4 x5 hi hm
    exact (t_m0 hm).elim
  | succ n ih =>
    intro x4 x5 hi hm
    rw [wX11_byLaws_h158]
    have hb := RQ_b hR
    refine t_bind (wX11_worlds_T) (fun t41 h1 => ?_)
    refine t_ite (fun c2 => ?_) (fun c2 => ?_)
    · refine t_bind (t_ldI (n := 512) (by first | decide | ((try simp only [Int32.lt_iff_toInt_lt, Int32.le_iff_toInt_le, ← Int32.toInt_inj, Int32.toInt_toInt64, t_neg1, Int32.reduceToInt, Int64.reduceToInt, Int32.reduceToNatClampNeg, true_or, or_true, true_and, and_true] at *) <;> omega) | ((try simp only [Int32.lt_iff_toInt_lt, Int32.le_iff_toInt_le, ← Int32.toInt_inj, Int32.toInt_toInt64, t_neg1, Int32.reduceToInt, Int64.reduceToInt, Int32.reduceToNatClampNeg, true_or, or_true, true_and, and_true] at *) <;> (simp (disch := ((try simp (disch := ((try simp (disch := ((try simp only [Int32.reduceToInt]) <;> omega)) only [t_add, t_sub, t_mul, Int32.reduceToInt]) <;> omega)) only [t_add, t_sub, t_mul, Int32.reduceToInt]) <;> omega)) only [t_add, t_sub, t_mul, Int32.reduceToInt]) <;> omega)) (by first | decide | ((try simp only [Int32.lt_iff_toInt_lt, Int32.le_iff_toInt_le, ← Int32.toInt_inj, Int32.toInt_toInt64, t_neg1, Int32.reduceToInt, Int64.reduceToInt, Int32.reduceToNatClampNeg, true_or, or_true, true_and, and_true] at *) <;> omega) | ((try simp only [Int32.lt_iff_toInt_lt, Int32.le_iff_toInt_le, ← Int32.toInt_inj, Int32.toInt_toInt64, t_neg1, Int32.reduceToInt, Int64.reduceToInt, Int32.reduceToNatClampNeg, true_or, or_true, true_and, and_true] at *) <;> (simp (disch := ((try simp (disch := ((try simp (disch := ((try simp only [Int32.reduceToInt]) <;> omega)) only [t_add, t_sub, t_mul, Int32.reduceToInt]) <;> omega)) only [t_add, t_sub, t_mul, Int32.reduceToInt]) <;> omega)) only [t_add, t_sub, t_mul, Int32.reduceToInt]) <;> omega))) (fun t44 h3 => ?_)
      refine t_ite (fun c4 => ?_) (fun c4 => ?_)
      · refine t_bind (wX11_bits_T) (fun t46 h5 => ?_)
        unfold wX11_byLaws_j189
        refine t_ite (fun c6 => ?_) (fun c6 => ?_)
        · unfold wX11_byLaws_j197
          exact ih (t_n1 c2 hi) (t_m1 c2 hm)
        · unfold wX11_byLaws_j197
          exact ih (t_n1 c2 hi) (t_m1 c2 hm)
      · unfold wX11_byLaws_j189
        refine t_ite (fun c7 => ?_) (fun c7 => ?_)
        · unfold wX11_byLaws_j197
          exact ih (t_n1 c2 hi) (t_m1 c2 hm)
        · unfold wX11_byLaws_j197
          exact ih (t_n1 c2 hi) (t_m1 c2 hm)
    · exact t_some trivial
theorem wX11_byLaws_T {x1 : Int32} {x2 : Int32} {x3 : Int32} {s : wS} (hR : RQ s)  : Tot (wX11_byLaws x1 x2 x3 s) (fun (r : Int32 × wS) => wA bP s r.2) := by
  unfold wX11_byLaws
  have hb := RQ_b hR
  refine t_bind (wX11_isCourt_T) (fun t1 h1 => ?_)
  refine t_ite (fun c2 => ?_) (fun c2 => ?_)
  · exact t_some wA.refl
  · refine t_bind (wX11_in_T) (fun t4 h3 => ?_)
    refine t_ite (fun c4 => ?_) (fun c4 => ?_)
    · exact t_some wA.refl
    · refine t_bind (wX11_isMany_T) (fun t7 h5 => ?_)
      refine t_ite (fun c6 => ?_) (fun c6 => ?_)
      · exact t_some wA.refl
      · refine t_bind (wX11_in_T) (fun t10 h7 => ?_)
        refine t_ite (fun c8 => ?_) (fun c8 => ?_)
        · exact t_some wA.refl
        · refine t_bind (wX11_byLaws_h47_T hR _ wA.refl (by decide) t_mi) (fun s18 h9 => ?_)
          have a10 : wA bP s s18 := h9
          have q11 := sameP a10
          have w11 := wW_same q11.1
          have R11 := RQ_P a10 hR
          have p11 := a10 152 33 rfl
          refine t_bind (wX11_byLaws_h73_T R11 _ wA.refl (by decide) t_mi) (fun s37 h12 => ?_)
          have a13 : wA bP s s37 := a10.trans h12
          have q14 := sameP a13
          have w14 := wW_same q14.1
          have R14 := RQ_P a13 hR
          have p14 := a13 152 33 rfl
          refine t_bind (wX11_byLaws_h158_T R14 _ (by decide) t_mi) (fun t50 h15 => ?_)
          exact t_some a13
theorem wX11_looks_h39_T {x3 : Int32} {s : wS} (hR : RQ s) (ha : 0 ≤ x3.toInt) (ha2 : x3.toInt < (s.1 163 3).toInt) : ∀ (n : Nat) {x4 : Int32} {x5 : Int32}, 0 ≤ x5.toInt → 2147483648 - x5.toInt < (n : Int) → Tot (wX11_looks_h39 x3 s n x4 x5) (fun (_ : Int32) => True) := by
  intro n
  induction n with
  | zero =>
    intro x4 x5 hi hm
    exact (t_m0 hm).elim
  | succ n ih =>
    intro x4 x5 hi hm
    rw [wX11_looks_h39]
    have hb := RQ_b hR
    refine t_bind (wX11_worlds_T) (fun t13 h1 => ?_)
    refine t_ite (fun c2 => ?_) (fun c2 => ?_)
    · refine t_bind (t_ldI (n := 512) (by first | decide | ((try simp only [Int32.lt_iff_toInt_lt, Int32.le_iff_toInt_le, ← Int32.toInt_inj, Int32.toInt_toInt64, t_neg1, Int32.reduceToInt, Int64.reduceToInt, Int32.reduceToNatClampNeg, true_or, or_true, true_and, and_true] at *) <;> omega) | ((try simp only [Int32.lt_iff_toInt_lt, Int32.le_iff_toInt_le, ← Int32.toInt_inj, Int32.toInt_toInt64, t_neg1, Int32.reduceToInt, Int64.reduceToInt, Int32.reduceToNatClampNeg, true_or, or_true, true_and, and_true] at *) <;> (simp (disch := ((try simp (disch := ((try simp (disch := ((try simp only [Int32.reduceToInt]) <;> omega)) only [t_add, t_sub, t_mul, Int32.reduceToInt]) <;> omega)) only [t_add, t_sub, t_mul, Int32.reduceToInt]) <;> omega)) only [t_add, t_sub, t_mul, Int32.reduceToInt]) <;> omega)) (by first | decide | ((try simp only [Int32.lt_iff_toInt_lt, Int32.le_iff_toInt_le, ← Int32.toInt_inj, Int32.toInt_toInt64, t_neg1, Int32.reduceToInt, Int64.reduceToInt, Int32.reduceToNatClampNeg, true_or, or_true, true_and, and_true] at *) <;> omega) | ((try simp only [Int32.lt_iff_toInt_lt, Int32.le_iff_toInt_le, ← Int32.toInt_inj, Int32.toInt_toInt64, t_neg1, Int32.reduceToInt, Int64.reduceToInt, Int32.reduceToNatClampNeg, true_or, or_true, true_and, and_true] at *) <;> (simp (disch := ((try simp (disch := ((try simp (disch := ((try simp only [Int32.reduceToInt]) <;> omega)) only [t_add, t_sub, t_mul, Int32.reduceToInt]) <;> omega)) only [t_add, t_sub, t_mul, Int32.reduceToInt]) <;> omega)) only [t_add, t_sub, t_mul, Int32.reduceToInt]) <;> omega))) (fun t16 h3 => ?_)
      refine t_ite (fun c4 => ?_) (fun c4 => ?_)
      · unfold wX11_looks_j74
        unfold wX11_looks_j75
        exact ih (t_n1 c2 hi) (t_m1 c2 hm)
      · refine t_bind (wX11_isTrue_T hR (by first | decide | ((try simp only [Int32.lt_iff_toInt_lt, Int32.le_iff_toInt_le, ← Int32.toInt_inj, Int32.toInt_toInt64, t_neg1, Int32.reduceToInt, Int64.reduceToInt, Int32.reduceToNatClampNeg, true_or, or_true, true_and, and_true] at *) <;> omega) | ((try simp only [Int32.lt_iff_toInt_lt, Int32.le_iff_toInt_le, ← Int32.toInt_inj, Int32.toInt_toInt64, t_neg1, Int32.reduceToInt, Int64.reduceToInt, Int32.reduceToNatClampNeg, true_or, or_true, true_and, and_true] at *) <;> (simp (disch := ((try simp (disch := ((try simp (disch := ((try simp only [Int32.reduceToInt]) <;> omega)) only [t_add, t_sub, t_mul, Int32.reduceToInt]) <;> omega)) only [t_add, t_sub, t_mul, Int32.reduceToInt]) <;> omega)) only [t_add, t_sub, t_mul, Int32.reduceToInt]) <;> omega)) (by first | decide | ((try simp only [Int32.lt_iff_toInt_lt, Int32.le_iff_toInt_le, ← Int32.toInt_inj, Int32.toInt_toInt64, t_neg1, Int32.reduceToInt, Int64.reduceToInt, Int32.reduceToNatClampNeg, true_or, or_true, true_and, and_true] at *) <;> omega) | ((try simp only [Int32.lt_iff_toInt_lt, Int32.le_iff_toInt_le, ← Int32.toInt_inj, Int32.toInt_toInt64, t_neg1, Int32.reduceToInt, Int64.reduceToInt, Int32.reduceToNatClampNeg, true_or, or_true, true_and, and_true] at *) <;> (simp (disch := ((try simp (disch := ((try simp (disch := ((try simp only [Int32.reduceToInt]) <;> omega)) only [t_add, t_sub, t_mul, Int32.reduceToInt]) <;> omega)) only [t_add, t_sub, t_mul, Int32.reduceToInt]) <;> omega)) only [t_add, t_sub, t_mul, Int32.reduceToInt]) <;> omega)) (by first | decide | ((try simp only [Int32.lt_iff_toInt_lt, Int32.le_iff_toInt_le, ← Int32.toInt_inj, Int32.toInt_toInt64, t_neg1, Int32.reduceToInt, Int64.reduceToInt, Int32.reduceToNatClampNeg, true_or, or_true, true_and, and_true] at *) <;> omega) | ((try simp only [Int32.lt_iff_toInt_lt, Int32.le_iff_toInt_le, ← Int32.toInt_inj, Int32.toInt_toInt64, t_neg1, Int32.reduceToInt, Int64.reduceToInt, Int32.reduceToNatClampNeg, true_or, or_true, true_and, and_true] at *) <;> (simp (disch := ((try simp (disch := ((try simp (disch := ((try simp only [Int32.reduceToInt]) <;> omega)) only [t_add, t_sub, t_mul, Int32.reduceToInt]) <;> omega)) only [t_add, t_sub, t_mul, Int32.reduceToInt]) <;> omega)) only [t_add, t_sub, t_mul, Int32.reduceToInt]) <;> omega)) (by first | decide | ((try simp only [Int32.lt_iff_toInt_lt, Int32.le_iff_toInt_le, ← Int32.toInt_inj, Int32.toInt_toInt64, t_neg1, Int32.reduceToInt, Int64.reduceToInt, Int32.reduceToNatClampNeg, true_or, or_true, true_and, and_true] at *) <;> omega) | ((try simp only [Int32.lt_iff_toInt_lt, Int32.le_iff_toInt_le, ← Int32.toInt_inj, Int32.toInt_toInt64, t_neg1, Int32.reduceToInt, Int64.reduceToInt, Int32.reduceToNatClampNeg, true_or, or_true, true_and, and_true] at *) <;> (simp (disch := ((try simp (disch := ((try simp (disch := ((try simp only [Int32.reduceToInt]) <;> omega)) only [t_add, t_sub, t_mul, Int32.reduceToInt]) <;> omega)) only [t_add, t_sub, t_mul, Int32.reduceToInt]) <;> omega)) only [t_add, t_sub, t_mul, Int32.reduceToInt]) <;> omega))) (fun t18 h5 => ?_)
        refine t_ite (fun c6 => ?_) (fun c6 => ?_)
        · unfold wX11_looks_j75
          exact ih (t_n1 c2 hi) (t_m1 c2 hm)
        · unfold wX11_looks_j74
          unfold wX11_looks_j75
          exact ih (t_n1 c2 hi) (t_m1 c2 hm)
    · exact t_some trivial
theorem wX11_looks_T {x1 : Int32} {x2 : Int32} {x3 : Int32} {s : wS} (hR : RQ s)  : Tot (wX11_looks x1 x2 x3 s) (fun (r : Int32 × wS) => wA bP s r.2) := by
  unfold wX11_looks
  have hb := RQ_b hR
  refine t_bind (wX11_canAsk_T) (fun t1 h1 => ?_)
  refine t_ite (fun c2 => ?_) (fun c2 => ?_)
  · exact t_some wA.refl
  · refine t_bind (wX11_isMany_T) (fun t4 h3 => ?_)
    refine t_ite (fun c4 => ?_) (fun c4 => ?_)
    · exact t_some wA.refl
    · refine t_bind (wX11_isAnswer_T) (fun t7 h5 => ?_)
      refine t_ite (fun c6 => ?_) (fun c6 => ?_)
      · exact t_some wA.refl
      · refine t_bind (wX11_keeps_T hR (by first | decide | ((try simp only [Int32.lt_iff_toInt_lt, Int32.le_iff_toInt_le, ← Int32.toInt_inj, Int32.toInt_toInt64, t_neg1, Int32.reduceToInt, Int64.reduceToInt, Int32.reduceToNatClampNeg, true_or, or_true, true_and, and_true] at *) <;> omega) | ((try simp only [Int32.lt_iff_toInt_lt, Int32.le_iff_toInt_le, ← Int32.toInt_inj, Int32.toInt_toInt64, t_neg1, Int32.reduceToInt, Int64.reduceToInt, Int32.reduceToNatClampNeg, true_or, or_true, true_and, and_true] at *) <;> (simp (disch := ((try simp (disch := ((try simp (disch := ((try simp only [Int32.reduceToInt]) <;> omega)) only [t_add, t_sub, t_mul, Int32.reduceToInt]) <;> omega)) only [t_add, t_sub, t_mul, Int32.reduceToInt]) <;> omega)) only [t_add, t_sub, t_mul, Int32.reduceToInt]) <;> omega)) (by first | decide | ((try simp only [Int32.lt_iff_toInt_lt, Int32.le_iff_toInt_le, ← Int32.toInt_inj, Int32.toInt_toInt64, t_neg1, Int32.reduceToInt, Int64.reduceToInt, Int32.reduceToNatClampNeg, true_or, or_true, true_and, and_true] at *) <;> omega) | ((try simp only [Int32.lt_iff_toInt_lt, Int32.le_iff_toInt_le, ← Int32.toInt_inj, Int32.toInt_toInt64, t_neg1, Int32.reduceToInt, Int64.reduceToInt, Int32.reduceToNatClampNeg, true_or, or_true, true_and, and_true] at *) <;> (simp (disch := ((try simp (disch := ((try simp (disch := ((try simp only [Int32.reduceToInt]) <;> omega)) only [t_add, t_sub, t_mul, Int32.reduceToInt]) <;> omega)) only [t_add, t_sub, t_mul, Int32.reduceToInt]) <;> omega)) only [t_add, t_sub, t_mul, Int32.reduceToInt]) <;> omega))) (fun r8 h7 => ?_)
        obtain ⟨t10, s11⟩ := r8
        dsimp only at h7 ⊢
        have a9 : wA bP s s11 := h7.1
        have q10 := sameP a9
        have w10 := wW_same q10.1
        have R10 := RQ_P a9 hR
        have p10 := a9 152 33 rfl
        refine t_bind (wX11_looks_h39_T R10 (by first | decide | ((try simp only [q10.1, q10.2.2.2.2, w10, p10, Int32.lt_iff_toInt_lt, Int32.le_iff_toInt_le, ← Int32.toInt_inj, Int32.toInt_toInt64, t_neg1, Int32.reduceToInt, Int64.reduceToInt, Int32.reduceToNatClampNeg, true_or, or_true, true_and, and_true] at *) <;> omega) | ((try simp only [q10.1, q10.2.2.2.2, w10, p10, Int32.lt_iff_toInt_lt, Int32.le_iff_toInt_le, ← Int32.toInt_inj, Int32.toInt_toInt64, t_neg1, Int32.reduceToInt, Int64.reduceToInt, Int32.reduceToNatClampNeg, true_or, or_true, true_and, and_true] at *) <;> (simp (disch := ((try simp (disch := ((try simp (disch := ((try simp only [Int32.reduceToInt]) <;> omega)) only [t_add, t_sub, t_mul, Int32.reduceToInt]) <;> omega)) only [t_add, t_sub, t_mul, Int32.reduceToInt]) <;> omega)) only [t_add, t_sub, t_mul, Int32.reduceToInt]) <;> omega)) (by first | decide | ((try simp only [q10.1, q10.2.2.2.2, w10, p10, Int32.lt_iff_toInt_lt, Int32.le_iff_toInt_le, ← Int32.toInt_inj, Int32.toInt_toInt64, t_neg1, Int32.reduceToInt, Int64.reduceToInt, Int32.reduceToNatClampNeg, true_or, or_true, true_and, and_true] at *) <;> omega) | ((try simp only [q10.1, q10.2.2.2.2, w10, p10, Int32.lt_iff_toInt_lt, Int32.le_iff_toInt_le, ← Int32.toInt_inj, Int32.toInt_toInt64, t_neg1, Int32.reduceToInt, Int64.reduceToInt, Int32.reduceToNatClampNeg, true_or, or_true, true_and, and_true] at *) <;> (simp (disch := ((try simp (disch := ((try simp (disch := ((try simp only [Int32.reduceToInt]) <;> omega)) only [t_add, t_sub, t_mul, Int32.reduceToInt]) <;> omega)) only [t_add, t_sub, t_mul, Int32.reduceToInt]) <;> omega)) only [t_add, t_sub, t_mul, Int32.reduceToInt]) <;> omega)) _ (by decide) t_mi) (fun t22 h11 => ?_)
        exact t_some a9
theorem wX11_sure_h37_T {x3 : Int32} {x4 : Int32} {s : wS} (hR : RQ s) (hk : 0 ≤ x3.toInt) (hk2 : x3.toInt ≤ 2) : ∀ (n : Nat) {x5 : Int32}, 0 ≤ x5.toInt → 2147483648 - x5.toInt < (n : Int) → Tot (wX11_sure_h37 x3 x4 s n x5) (fun (_ : (Unit) ⊕ (Int32)) => True) := by
  intro n
  induction n with
  | zero =>
    intro x5 hi hm
    exact (t_m0 hm).elim
  | succ n ih =>
    intro x5 hi hm
    rw [wX11_sure_h37]
    have hb := RQ_b hR
    have hkb := RQ_k hR hk hk2
    refine t_bind (t_ldI (n := 262) (by first | decide | ((try simp only [Int32.lt_iff_toInt_lt, Int32.le_iff_toInt_le, ← Int32.toInt_inj, Int32.toInt_toInt64, t_neg1, Int32.reduceToInt, Int64.reduceToInt, Int32.reduceToNatClampNeg, true_or, or_true, true_and, and_true] at *) <;> omega) | ((try simp only [Int32.lt_iff_toInt_lt, Int32.le_iff_toInt_le, ← Int32.toInt_inj, Int32.toInt_toInt64, t_neg1, Int32.reduceToInt, Int64.reduceToInt, Int32.reduceToNatClampNeg, true_or, or_true, true_and, and_true] at *) <;> (simp (disch := ((try simp (disch := ((try simp (disch := ((try simp only [Int32.reduceToInt]) <;> omega)) only [t_add, t_sub, t_mul, Int32.reduceToInt]) <;> omega)) only [t_add, t_sub, t_mul, Int32.reduceToInt]) <;> omega)) only [t_add, t_sub, t_mul, Int32.reduceToInt]) <;> omega)) (by first | decide | ((try simp only [Int32.lt_iff_toInt_lt, Int32.le_iff_toInt_le, ← Int32.toInt_inj, Int32.toInt_toInt64, t_neg1, Int32.reduceToInt, Int64.reduceToInt, Int32.reduceToNatClampNeg, true_or, or_true, true_and, and_true] at *) <;> omega) | ((try simp only [Int32.lt_iff_toInt_lt, Int32.le_iff_toInt_le, ← Int32.toInt_inj, Int32.toInt_toInt64, t_neg1, Int32.reduceToInt, Int64.reduceToInt, Int32.reduceToNatClampNeg, true_or, or_true, true_and, and_true] at *) <;> (simp (disch := ((try simp (disch := ((try simp (disch := ((try simp only [Int32.reduceToInt]) <;> omega)) only [t_add, t_sub, t_mul, Int32.reduceToInt]) <;> omega)) only [t_add, t_sub, t_mul, Int32.reduceToInt]) <;> omega)) only [t_add, t_sub, t_mul, Int32.reduceToInt]) <;> omega))) (fun t13 h1 => ?_)
    refine t_ite (fun c2 => ?_) (fun c2 => ?_)
    · refine t_ite (fun c3 => ?_) (fun c3 => ?_)
      · refine t_bind (wX11_keptWith_T hR (by first | decide | ((try simp only [Int32.lt_iff_toInt_lt, Int32.le_iff_toInt_le, ← Int32.toInt_inj, Int32.toInt_toInt64, t_neg1, Int32.reduceToInt, Int64.reduceToInt, Int32.reduceToNatClampNeg, true_or, or_true, true_and, and_true] at *) <;> omega) | ((try simp only [Int32.lt_iff_toInt_lt, Int32.le_iff_toInt_le, ← Int32.toInt_inj, Int32.toInt_toInt64, t_neg1, Int32.reduceToInt, Int64.reduceToInt, Int32.reduceToNatClampNeg, true_or, or_true, true_and, and_true] at *) <;> (simp (disch := ((try simp (disch := ((try simp (disch := ((try simp only [Int32.reduceToInt]) <;> omega)) only [t_add, t_sub, t_mul, Int32.reduceToInt]) <;> omega)) only [t_add, t_sub, t_mul, Int32.reduceToInt]) <;> omega)) only [t_add, t_sub, t_mul, Int32.reduceToInt]) <;> omega)) (by first | decide | ((try simp only [Int32.lt_iff_toInt_lt, Int32.le_iff_toInt_le, ← Int32.toInt_inj, Int32.toInt_toInt64, t_neg1, Int32.reduceToInt, Int64.reduceToInt, Int32.reduceToNatClampNeg, true_or, or_true, true_and, and_true] at *) <;> omega) | ((try simp only [Int32.lt_iff_toInt_lt, Int32.le_iff_toInt_le, ← Int32.toInt_inj, Int32.toInt_toInt64, t_neg1, Int32.reduceToInt, Int64.reduceToInt, Int32.reduceToNatClampNeg, true_or, or_true, true_and, and_true] at *) <;> (simp (disch := ((try simp (disch := ((try simp (disch := ((try simp only [Int32.reduceToInt]) <;> omega)) only [t_add, t_sub, t_mul, Int32.reduceToInt]) <;> omega)) only [t_add, t_sub, t_mul, Int32.reduceToInt]) <;> omega)) only [t_add, t_sub, t_mul, Int32.reduceToInt]) <;> omega))) (fun t16 h4 => ?_)
        refine t_ite (fun c5 => ?_) (fun c5 => ?_)
        · exact t_some trivial
        · exact ih (t_n1 c2 hi) (t_m1 c2 hm)
      · exact t_some trivial
    · exact t_some trivial
theorem wX11_sure_T {x1 : Int32} {x2 : Int32} {x3 : Int32} {s : wS} (hR : RQ s)  : Tot (wX11_sure x1 x2 x3 s) (fun (r : Int32 × wS) => wA bP s r.2) := by
  unfold wX11_sure
  have hb := RQ_b hR
  refine t_bind (wX11_canAsk_T) (fun t1 h1 => ?_)
  refine t_ite (fun c2 => ?_) (fun c2 => ?_)
  · exact t_some wA.refl
  · refine t_bind (wX11_isMany_T) (fun t4 h3 => ?_)
    refine t_ite (fun c4 => ?_) (fun c4 => ?_)
    · exact t_some wA.refl
    · refine t_bind (wX11_isKind_T) (fun t7 h5 => ?_)
      refine t_ite (fun c6 => ?_) (fun c6 => ?_)
      · exact t_some wA.refl
      · refine t_bind (wX11_keeps_T hR (by first | decide | ((try simp only [Int32.lt_iff_toInt_lt, Int32.le_iff_toInt_le, ← Int32.toInt_inj, Int32.toInt_toInt64, t_neg1, Int32.reduceToInt, Int64.reduceToInt, Int32.reduceToNatClampNeg, true_or, or_true, true_and, and_true] at *) <;> omega) | ((try simp only [Int32.lt_iff_toInt_lt, Int32.le_iff_toInt_le, ← Int32.toInt_inj, Int32.toInt_toInt64, t_neg1, Int32.reduceToInt, Int64.reduceToInt, Int32.reduceToNatClampNeg, true_or, or_true, true_and, and_true] at *) <;> (simp (disch := ((try simp (disch := ((try simp (disch := ((try simp only [Int32.reduceToInt]) <;> omega)) only [t_add, t_sub, t_mul, Int32.reduceToInt]) <;> omega)) only [t_add, t_sub, t_mul, Int32.reduceToInt]) <;> omega)) only [t_add, t_sub, t_mul, Int32.reduceToInt]) <;> omega)) (by first | decide | ((try simp only [Int32.lt_iff_toInt_lt, Int32.le_iff_toInt_le, ← Int32.toInt_inj, Int32.toInt_toInt64, t_neg1, Int32.reduceToInt, Int64.reduceToInt, Int32.reduceToNatClampNeg, true_or, or_true, true_and, and_true] at *) <;> omega) | ((try simp only [Int32.lt_iff_toInt_lt, Int32.le_iff_toInt_le, ← Int32.toInt_inj, Int32.toInt_toInt64, t_neg1, Int32.reduceToInt, Int64.reduceToInt, Int32.reduceToNatClampNeg, true_or, or_true, true_and, and_true] at *) <;> (simp (disch := ((try simp (disch := ((try simp (disch := ((try simp only [Int32.reduceToInt]) <;> omega)) only [t_add, t_sub, t_mul, Int32.reduceToInt]) <;> omega)) only [t_add, t_sub, t_mul, Int32.reduceToInt]) <;> omega)) only [t_add, t_sub, t_mul, Int32.reduceToInt]) <;> omega))) (fun r8 h7 => ?_)
        obtain ⟨t10, s11⟩ := r8
        dsimp only at h7 ⊢
        have a9 : wA bP s s11 := h7.1
        have q10 := sameP a9
        have w10 := wW_same q10.1
        have R10 := RQ_P a9 hR
        have p10 := a9 152 33 rfl
        refine t_bind (wX11_sure_h37_T R10 (by first | decide | ((try simp only [q10.1, q10.2.2.2.2, w10, p10, Int32.lt_iff_toInt_lt, Int32.le_iff_toInt_le, ← Int32.toInt_inj, Int32.toInt_toInt64, t_neg1, Int32.reduceToInt, Int64.reduceToInt, Int32.reduceToNatClampNeg, true_or, or_true, true_and, and_true] at *) <;> omega) | ((try simp only [q10.1, q10.2.2.2.2, w10, p10, Int32.lt_iff_toInt_lt, Int32.le_iff_toInt_le, ← Int32.toInt_inj, Int32.toInt_toInt64, t_neg1, Int32.reduceToInt, Int64.reduceToInt, Int32.reduceToNatClampNeg, true_or, or_true, true_and, and_true] at *) <;> (simp (disch := ((try simp (disch := ((try simp (disch := ((try simp only [Int32.reduceToInt]) <;> omega)) only [t_add, t_sub, t_mul, Int32.reduceToInt]) <;> omega)) only [t_add, t_sub, t_mul, Int32.reduceToInt]) <;> omega)) only [t_add, t_sub, t_mul, Int32.reduceToInt]) <;> omega)) (by first | decide | ((try simp only [q10.1, q10.2.2.2.2, w10, p10, Int32.lt_iff_toInt_lt, Int32.le_iff_toInt_le, ← Int32.toInt_inj, Int32.toInt_toInt64, t_neg1, Int32.reduceToInt, Int64.reduceToInt, Int32.reduceToNatClampNeg, true_or, or_true, true_and, and_true] at *) <;> omega) | ((try simp only [q10.1, q10.2.2.2.2, w10, p10, Int32.lt_iff_toInt_lt, Int32.le_iff_toInt_le, ← Int32.toInt_inj, Int32.toInt_toInt64, t_neg1, Int32.reduceToInt, Int64.reduceToInt, Int32.reduceToNatClampNeg, true_or, or_true, true_and, and_true] at *) <;> (simp (disch := ((try simp (disch := ((try simp (disch := ((try simp only [Int32.reduceToInt]) <;> omega)) only [t_add, t_sub, t_mul, Int32.reduceToInt]) <;> omega)) only [t_add, t_sub, t_mul, Int32.reduceToInt]) <;> omega)) only [t_add, t_sub, t_mul, Int32.reduceToInt]) <;> omega)) _ (by decide) t_mi) (fun z19 h11 => ?_)
        rcases z19 with z19 | z19
        · dsimp only
          exact t_some a9
        · obtain t25 := z19
          dsimp only
          exact t_some a9
theorem wX11_alone_h42_T {x2 : Int32} {x3 : Int32} {x4 : Int32} {s : wS} (hR : RQ s) (hw : 0 ≤ x4.toInt) (hw2 : x4.toInt < (wW s).toInt) : ∀ (n : Nat) {x5 : Int32} {x6 : Int32}, 0 ≤ x6.toInt → 2147483648 - x6.toInt < (n : Int) → Tot (wX11_alone_h42 x2 x3 x4 s n x5 x6) (fun (_ : Int32) => True) := by
  intro n
  induction n with
  | zero =>
    intro x5 x6 hi hm
    exact (t_m0 hm).elim
  | succ n ih =>
    intro x5 x6 hi hm
    rw [wX11_alone_h42]
    have hb := RQ_b hR
    refine t_ite (fun c1 => ?_) (fun c1 => ?_)
    · refine t_ite (fun c2 => ?_) (fun c2 => ?_)
      · exact t_some trivial
      · refine t_bind (wX11_answerOf_T (by first | decide | ((try simp only [Int32.lt_iff_toInt_lt, Int32.le_iff_toInt_le, ← Int32.toInt_inj, Int32.toInt_toInt64, t_neg1, Int32.reduceToInt, Int64.reduceToInt, Int32.reduceToNatClampNeg, true_or, or_true, true_and, and_true] at *) <;> omega) | ((try simp only [Int32.lt_iff_toInt_lt, Int32.le_iff_toInt_le, ← Int32.toInt_inj, Int32.toInt_toInt64, t_neg1, Int32.reduceToInt, Int64.reduceToInt, Int32.reduceToNatClampNeg, true_or, or_true, true_and, and_true] at *) <;> (simp (disch := ((try simp (disch := ((try simp (disch := ((try simp only [Int32.reduceToInt]) <;> omega)) only [t_add, t_sub, t_mul, Int32.reduceToInt]) <;> omega)) only [t_add, t_sub, t_mul, Int32.reduceToInt]) <;> omega)) only [t_add, t_sub, t_mul, Int32.reduceToInt]) <;> omega)) (by first | decide | ((try simp only [Int32.lt_iff_toInt_lt, Int32.le_iff_toInt_le, ← Int32.toInt_inj, Int32.toInt_toInt64, t_neg1, Int32.reduceToInt, Int64.reduceToInt, Int32.reduceToNatClampNeg, true_or, or_true, true_and, and_true] at *) <;> omega) | ((try simp only [Int32.lt_iff_toInt_lt, Int32.le_iff_toInt_le, ← Int32.toInt_inj, Int32.toInt_toInt64, t_neg1, Int32.reduceToInt, Int64.reduceToInt, Int32.reduceToNatClampNeg, true_or, or_true, true_and, and_true] at *) <;> (simp (disch := ((try simp (disch := ((try simp (disch := ((try simp only [Int32.reduceToInt]) <;> omega)) only [t_add, t_sub, t_mul, Int32.reduceToInt]) <;> omega)) only [t_add, t_sub, t_mul, Int32.reduceToInt]) <;> omega)) only [t_add, t_sub, t_mul, Int32.reduceToInt]) <;> omega)) (by first | decide | ((try simp only [Int32.lt_iff_toInt_lt, Int32.le_iff_toInt_le, ← Int32.toInt_inj, Int32.toInt_toInt64, t_neg1, Int32.reduceToInt, Int64.reduceToInt, Int32.reduceToNatClampNeg, true_or, or_true, true_and, and_true] at *) <;> omega) | ((try simp only [Int32.lt_iff_toInt_lt, Int32.le_iff_toInt_le, ← Int32.toInt_inj, Int32.toInt_toInt64, t_neg1, Int32.reduceToInt, Int64.reduceToInt, Int32.reduceToNatClampNeg, true_or, or_true, true_and, and_true] at *) <;> (simp (disch := ((try simp (disch := ((try simp (disch := ((try simp only [Int32.reduceToInt]) <;> omega)) only [t_add, t_sub, t_mul, Int32.reduceToInt]) <;> omega)) only [t_add, t_sub, t_mul, Int32.reduceToInt]) <;> omega)) only [t_add, t_sub, t_mul, Int32.reduceToInt]) <;> omega)) (by first | decide | ((try simp only [Int32.lt_iff_toInt_lt, Int32.le_iff_toInt_le, ← Int32.toInt_inj, Int32.toInt_toInt64, t_neg1, Int32.reduceToInt, Int64.reduceToInt, Int32.reduceToNatClampNeg, true_or, or_true, true_and, and_true] at *) <;> omega) | ((try simp only [Int32.lt_iff_toInt_lt, Int32.le_iff_toInt_le, ← Int32.toInt_inj, Int32.toInt_toInt64, t_neg1, Int32.reduceToInt, Int64.reduceToInt, Int32.reduceToNatClampNeg, true_or, or_true, true_and, and_true] at *) <;> (simp (disch := ((try simp (disch := ((try simp (disch := ((try simp only [Int32.reduceToInt]) <;> omega)) only [t_add, t_sub, t_mul, Int32.reduceToInt]) <;> omega)) only [t_add, t_sub, t_mul, Int32.reduceToInt]) <;> omega)) only [t_add, t_sub, t_mul, Int32.reduceToInt]) <;> omega))) (fun t16 h3 => ?_)
        refine t_ite (fun c4 => ?_) (fun c4 => ?_)
        · refine t_bind (wX11_isLookedAt_T hR (by first | decide | ((try simp only [Int32.lt_iff_toInt_lt, Int32.le_iff_toInt_le, ← Int32.toInt_inj, Int32.toInt_toInt64, t_neg1, Int32.reduceToInt, Int64.reduceToInt, Int32.reduceToNatClampNeg, true_or, or_true, true_and, and_true] at *) <;> omega) | ((try simp only [Int32.lt_iff_toInt_lt, Int32.le_iff_toInt_le, ← Int32.toInt_inj, Int32.toInt_toInt64, t_neg1, Int32.reduceToInt, Int64.reduceToInt, Int32.reduceToNatClampNeg, true_or, or_true, true_and, and_true] at *) <;> (simp (disch := ((try simp (disch := ((try simp (disch := ((try simp only [Int32.reduceToInt]) <;> omega)) only [t_add, t_sub, t_mul, Int32.reduceToInt]) <;> omega)) only [t_add, t_sub, t_mul, Int32.reduceToInt]) <;> omega)) only [t_add, t_sub, t_mul, Int32.reduceToInt]) <;> omega)) (by first | decide | ((try simp only [Int32.lt_iff_toInt_lt, Int32.le_iff_toInt_le, ← Int32.toInt_inj, Int32.toInt_toInt64, t_neg1, Int32.reduceToInt, Int64.reduceToInt, Int32.reduceToNatClampNeg, true_or, or_true, true_and, and_true] at *) <;> omega) | ((try simp only [Int32.lt_iff_toInt_lt, Int32.le_iff_toInt_le, ← Int32.toInt_inj, Int32.toInt_toInt64, t_neg1, Int32.reduceToInt, Int64.reduceToInt, Int32.reduceToNatClampNeg, true_or, or_true, true_and, and_true] at *) <;> (simp (disch := ((try simp (disch := ((try simp (disch := ((try simp only [Int32.reduceToInt]) <;> omega)) only [t_add, t_sub, t_mul, Int32.reduceToInt]) <;> omega)) only [t_add, t_sub, t_mul, Int32.reduceToInt]) <;> omega)) only [t_add, t_sub, t_mul, Int32.reduceToInt]) <;> omega))) (fun t19 h5 => ?_)
          refine t_ite (fun c6 => ?_) (fun c6 => ?_)
          · unfold wX11_alone_j89
            unfold wX11_alone_j94
            exact ih (t_n1 c1 hi) (t_m1 c1 hm)
          · refine t_bind (wX11_isTrue_T hR (by first | decide | ((try simp only [Int32.lt_iff_toInt_lt, Int32.le_iff_toInt_le, ← Int32.toInt_inj, Int32.toInt_toInt64, t_neg1, Int32.reduceToInt, Int64.reduceToInt, Int32.reduceToNatClampNeg, true_or, or_true, true_and, and_true] at *) <;> omega) | ((try simp only [Int32.lt_iff_toInt_lt, Int32.le_iff_toInt_le, ← Int32.toInt_inj, Int32.toInt_toInt64, t_neg1, Int32.reduceToInt, Int64.reduceToInt, Int32.reduceToNatClampNeg, true_or, or_true, true_and, and_true] at *) <;> (simp (disch := ((try simp (disch := ((try simp (disch := ((try simp only [Int32.reduceToInt]) <;> omega)) only [t_add, t_sub, t_mul, Int32.reduceToInt]) <;> omega)) only [t_add, t_sub, t_mul, Int32.reduceToInt]) <;> omega)) only [t_add, t_sub, t_mul, Int32.reduceToInt]) <;> omega)) (by first | decide | ((try simp only [Int32.lt_iff_toInt_lt, Int32.le_iff_toInt_le, ← Int32.toInt_inj, Int32.toInt_toInt64, t_neg1, Int32.reduceToInt, Int64.reduceToInt, Int32.reduceToNatClampNeg, true_or, or_true, true_and, and_true] at *) <;> omega) | ((try simp only [Int32.lt_iff_toInt_lt, Int32.le_iff_toInt_le, ← Int32.toInt_inj, Int32.toInt_toInt64, t_neg1, Int32.reduceToInt, Int64.reduceToInt, Int32.reduceToNatClampNeg, true_or, or_true, true_and, and_true] at *) <;> (simp (disch := ((try simp (disch := ((try simp (disch := ((try simp only [Int32.reduceToInt]) <;> omega)) only [t_add, t_sub, t_mul, Int32.reduceToInt]) <;> omega)) only [t_add, t_sub, t_mul, Int32.reduceToInt]) <;> omega)) only [t_add, t_sub, t_mul, Int32.reduceToInt]) <;> omega)) (by first | decide | ((try simp only [Int32.lt_iff_toInt_lt, Int32.le_iff_toInt_le, ← Int32.toInt_inj, Int32.toInt_toInt64, t_neg1, Int32.reduceToInt, Int64.reduceToInt, Int32.reduceToNatClampNeg, true_or, or_true, true_and, and_true] at *) <;> omega) | ((try simp only [Int32.lt_iff_toInt_lt, Int32.le_iff_toInt_le, ← Int32.toInt_inj, Int32.toInt_toInt64, t_neg1, Int32.reduceToInt, Int64.reduceToInt, Int32.reduceToNatClampNeg, true_or, or_true, true_and, and_true] at *) <;> (simp (disch := ((try simp (disch := ((try simp (disch := ((try simp only [Int32.reduceToInt]) <;> omega)) only [t_add, t_sub, t_mul, Int32.reduceToInt]) <;> omega)) only [t_add, t_sub, t_mul, Int32.reduceToInt]) <;> omega)) only [t_add, t_sub, t_mul, Int32.reduceToInt]) <;> omega)) (by first | decide | ((try simp only [Int32.lt_iff_toInt_lt, Int32.le_iff_toInt_le, ← Int32.toInt_inj, Int32.toInt_toInt64, t_neg1, Int32.reduceToInt, Int64.reduceToInt, Int32.reduceToNatClampNeg, true_or, or_true, true_and, and_true] at *) <;> omega) | ((try simp only [Int32.lt_iff_toInt_lt, Int32.le_iff_toInt_le, ← Int32.toInt_inj, Int32.toInt_toInt64, t_neg1, Int32.reduceToInt, Int64.reduceToInt, Int32.reduceToNatClampNeg, true_or, or_true, true_and, and_true] at *) <;> (simp (disch := ((try simp (disch := ((try simp (disch := ((try simp only [Int32.reduceToInt]) <;> omega)) only [t_add, t_sub, t_mul, Int32.reduceToInt]) <;> omega)) only [t_add, t_sub, t_mul, Int32.reduceToInt]) <;> omega)) only [t_add, t_sub, t_mul, Int32.reduceToInt]) <;> omega))) (fun t22 h7 => ?_)
            refine t_ite (fun c8 => ?_) (fun c8 => ?_)
            · unfold wX11_alone_j94
              exact ih (t_n1 c1 hi) (t_m1 c1 hm)
            · unfold wX11_alone_j89
              unfold wX11_alone_j94
              exact ih (t_n1 c1 hi) (t_m1 c1 hm)
        · unfold wX11_alone_j89
          unfold wX11_alone_j94
          exact ih (t_n1 c1 hi) (t_m1 c1 hm)
    · exact t_some trivial
theorem wX11_alone_h27_T {x2 : Int32} {s : wS} (hR : RQ s)  : ∀ (n : Nat) {x3 : Int32} {x4 : Int32}, 0 ≤ x4.toInt → 2147483648 - x4.toInt < (n : Int) → Tot (wX11_alone_h27 x2 s n x3 x4) (fun (_ : Int32) => True) := by
  intro n
  induction n with
  | zero =>
    intro x3 x4 hi hm
    exact (t_m0 hm).elim
  | succ n ih =>
    intro x3 x4 hi hm
    rw [wX11_alone_h27]
    have hb := RQ_b hR
    refine t_bind (wX11_worlds_T) (fun t10 h1 => ?_)
    refine t_ite (fun c2 => ?_) (fun c2 => ?_)
    · refine t_bind (wX11_alone_h42_T hR (by first | decide | ((try simp only [Int32.lt_iff_toInt_lt, Int32.le_iff_toInt_le, ← Int32.toInt_inj, Int32.toInt_toInt64, t_neg1, Int32.reduceToInt, Int64.reduceToInt, Int32.reduceToNatClampNeg, true_or, or_true, true_and, and_true] at *) <;> omega) | ((try simp only [Int32.lt_iff_toInt_lt, Int32.le_iff_toInt_le, ← Int32.toInt_inj, Int32.toInt_toInt64, t_neg1, Int32.reduceToInt, Int64.reduceToInt, Int32.reduceToNatClampNeg, true_or, or_true, true_and, and_true] at *) <;> (simp (disch := ((try simp (disch := ((try simp (disch := ((try simp only [Int32.reduceToInt]) <;> omega)) only [t_add, t_sub, t_mul, Int32.reduceToInt]) <;> omega)) only [t_add, t_sub, t_mul, Int32.reduceToInt]) <;> omega)) only [t_add, t_sub, t_mul, Int32.reduceToInt]) <;> omega)) (by first | decide | ((try simp only [Int32.lt_iff_toInt_lt, Int32.le_iff_toInt_le, ← Int32.toInt_inj, Int32.toInt_toInt64, t_neg1, Int32.reduceToInt, Int64.reduceToInt, Int32.reduceToNatClampNeg, true_or, or_true, true_and, and_true] at *) <;> omega) | ((try simp only [Int32.lt_iff_toInt_lt, Int32.le_iff_toInt_le, ← Int32.toInt_inj, Int32.toInt_toInt64, t_neg1, Int32.reduceToInt, Int64.reduceToInt, Int32.reduceToNatClampNeg, true_or, or_true, true_and, and_true] at *) <;> (simp (disch := ((try simp (disch := ((try simp (disch := ((try simp only [Int32.reduceToInt]) <;> omega)) only [t_add, t_sub, t_mul, Int32.reduceToInt]) <;> omega)) only [t_add, t_sub, t_mul, Int32.reduceToInt]) <;> omega)) only [t_add, t_sub, t_mul, Int32.reduceToInt]) <;> omega)) _ (by decide) t_mi) (fun t26 h3 => ?_)
      unfold wX11_alone_j102
      refine t_ite (fun c4 => ?_) (fun c4 => ?_)
      · unfold wX11_alone_j113
        exact ih (t_n1 c2 hi) (t_m1 c2 hm)
      · unfold wX11_alone_j113
        exact ih (t_n1 c2 hi) (t_m1 c2 hm)
    · exact t_some trivial
theorem wX11_alone_T {x1 : Int32} {x2 : Int32} {s : wS} (hR : RQ s)  : Tot (wX11_alone x1 x2 s) (fun (r : Int32 × wS) => wA bP s r.2) := by
  unfold wX11_alone
  have hb := RQ_b hR
  refine t_bind (wX11_canAsk_T) (fun t1 h1 => ?_)
  refine t_ite (fun c2 => ?_) (fun c2 => ?_)
  · exact t_some wA.refl
  · refine t_bind (wX11_isWitness_T) (fun t4 h3 => ?_)
    refine t_ite (fun c4 => ?_) (fun c4 => ?_)
    · exact t_some wA.refl
    · refine t_bind (wX11_reaches_T hR (by first | decide | ((try simp only [Int32.lt_iff_toInt_lt, Int32.le_iff_toInt_le, ← Int32.toInt_inj, Int32.toInt_toInt64, t_neg1, Int32.reduceToInt, Int64.reduceToInt, Int32.reduceToNatClampNeg, true_or, or_true, true_and, and_true] at *) <;> omega) | ((try simp only [Int32.lt_iff_toInt_lt, Int32.le_iff_toInt_le, ← Int32.toInt_inj, Int32.toInt_toInt64, t_neg1, Int32.reduceToInt, Int64.reduceToInt, Int32.reduceToNatClampNeg, true_or, or_true, true_and, and_true] at *) <;> (simp (disch := ((try simp (disch := ((try simp (disch := ((try simp only [Int32.reduceToInt]) <;> omega)) only [t_add, t_sub, t_mul, Int32.reduceToInt]) <;> omega)) only [t_add, t_sub, t_mul, Int32.reduceToInt]) <;> omega)) only [t_add, t_sub, t_mul, Int32.reduceToInt]) <;> omega)) (by first | decide | ((try simp only [Int32.lt_iff_toInt_lt, Int32.le_iff_toInt_le, ← Int32.toInt_inj, Int32.toInt_toInt64, t_neg1, Int32.reduceToInt, Int64.reduceToInt, Int32.reduceToNatClampNeg, true_or, or_true, true_and, and_true] at *) <;> omega) | ((try simp only [Int32.lt_iff_toInt_lt, Int32.le_iff_toInt_le, ← Int32.toInt_inj, Int32.toInt_toInt64, t_neg1, Int32.reduceToInt, Int64.reduceToInt, Int32.reduceToNatClampNeg, true_or, or_true, true_and, and_true] at *) <;> (simp (disch := ((try simp (disch := ((try simp (disch := ((try simp only [Int32.reduceToInt]) <;> omega)) only [t_add, t_sub, t_mul, Int32.reduceToInt]) <;> omega)) only [t_add, t_sub, t_mul, Int32.reduceToInt]) <;> omega)) only [t_add, t_sub, t_mul, Int32.reduceToInt]) <;> omega))) (fun s8 h5 => ?_)
      have a6 : wA bP s s8 := h5
      have q7 := sameP a6
      have w7 := wW_same q7.1
      have R7 := RQ_P a6 hR
      have p7 := a6 152 33 rfl
      refine t_bind (wX11_alone_h27_T R7 _ (by decide) t_mi) (fun t31 h8 => ?_)
      exact t_some a6
theorem wX11_mean_h42_T {x3 : Int32} {x4 : Int32} {s : wS} (hR : RQ s) (hy : 0 ≤ x3.toInt) (hy2 : x3.toInt ≤ 1) : ∀ (n : Nat) {x5 : Int32} {x6 : Int32}, 0 ≤ x6.toInt → 2147483648 - x6.toInt < (n : Int) → Tot (wX11_mean_h42 x3 x4 s n x5 x6) (fun (_ : Int32) => True) := by
  intro n
  induction n with
  | zero =>
    intro x5 x6 hi hm
    exact (t_m0 hm).elim
  | succ n ih =>
    intro x5 x6 hi hm
    rw [wX11_mean_h42]
    have hb := RQ_b hR
    refine t_bind (wX11_worlds_T) (fun t13 h1 => ?_)
    refine t_ite (fun c2 => ?_) (fun c2 => ?_)
    · refine t_bind (t_ldI (n := 512) (by first | decide | ((try simp only [Int32.lt_iff_toInt_lt, Int32.le_iff_toInt_le, ← Int32.toInt_inj, Int32.toInt_toInt64, t_neg1, Int32.reduceToInt, Int64.reduceToInt, Int32.reduceToNatClampNeg, true_or, or_true, true_and, and_true] at *) <;> omega) | ((try simp only [Int32.lt_iff_toInt_lt, Int32.le_iff_toInt_le, ← Int32.toInt_inj, Int32.toInt_toInt64, t_neg1, Int32.reduceToInt, Int64.reduceToInt, Int32.reduceToNatClampNeg, true_or, or_true, true_and, and_true] at *) <;> (simp (disch := ((try simp (disch := ((try simp (disch := ((try simp only [Int32.reduceToInt]) <;> omega)) only [t_add, t_sub, t_mul, Int32.reduceToInt]) <;> omega)) only [t_add, t_sub, t_mul, Int32.reduceToInt]) <;> omega)) only [t_add, t_sub, t_mul, Int32.reduceToInt]) <;> omega)) (by first | decide | ((try simp only [Int32.lt_iff_toInt_lt, Int32.le_iff_toInt_le, ← Int32.toInt_inj, Int32.toInt_toInt64, t_neg1, Int32.reduceToInt, Int64.reduceToInt, Int32.reduceToNatClampNeg, true_or, or_true, true_and, and_true] at *) <;> omega) | ((try simp only [Int32.lt_iff_toInt_lt, Int32.le_iff_toInt_le, ← Int32.toInt_inj, Int32.toInt_toInt64, t_neg1, Int32.reduceToInt, Int64.reduceToInt, Int32.reduceToNatClampNeg, true_or, or_true, true_and, and_true] at *) <;> (simp (disch := ((try simp (disch := ((try simp (disch := ((try simp only [Int32.reduceToInt]) <;> omega)) only [t_add, t_sub, t_mul, Int32.reduceToInt]) <;> omega)) only [t_add, t_sub, t_mul, Int32.reduceToInt]) <;> omega)) only [t_add, t_sub, t_mul, Int32.reduceToInt]) <;> omega))) (fun t16 h3 => ?_)
      refine t_ite (fun c4 => ?_) (fun c4 => ?_)
      · unfold wX11_mean_j86
        exact ih (t_n1 c2 hi) (t_m1 c2 hm)
      · refine t_bind (wX11_thingOf_T hR (by first | decide | ((try simp only [Int32.lt_iff_toInt_lt, Int32.le_iff_toInt_le, ← Int32.toInt_inj, Int32.toInt_toInt64, t_neg1, Int32.reduceToInt, Int64.reduceToInt, Int32.reduceToNatClampNeg, true_or, or_true, true_and, and_true] at *) <;> omega) | ((try simp only [Int32.lt_iff_toInt_lt, Int32.le_iff_toInt_le, ← Int32.toInt_inj, Int32.toInt_toInt64, t_neg1, Int32.reduceToInt, Int64.reduceToInt, Int32.reduceToNatClampNeg, true_or, or_true, true_and, and_true] at *) <;> (simp (disch := ((try simp (disch := ((try simp (disch := ((try simp only [Int32.reduceToInt]) <;> omega)) only [t_add, t_sub, t_mul, Int32.reduceToInt]) <;> omega)) only [t_add, t_sub, t_mul, Int32.reduceToInt]) <;> omega)) only [t_add, t_sub, t_mul, Int32.reduceToInt]) <;> omega)) (by first | decide | ((try simp only [Int32.lt_iff_toInt_lt, Int32.le_iff_toInt_le, ← Int32.toInt_inj, Int32.toInt_toInt64, t_neg1, Int32.reduceToInt, Int64.reduceToInt, Int32.reduceToNatClampNeg, true_or, or_true, true_and, and_true] at *) <;> omega) | ((try simp only [Int32.lt_iff_toInt_lt, Int32.le_iff_toInt_le, ← Int32.toInt_inj, Int32.toInt_toInt64, t_neg1, Int32.reduceToInt, Int64.reduceToInt, Int32.reduceToNatClampNeg, true_or, or_true, true_and, and_true] at *) <;> (simp (disch := ((try simp (disch := ((try simp (disch := ((try simp only [Int32.reduceToInt]) <;> omega)) only [t_add, t_sub, t_mul, Int32.reduceToInt]) <;> omega)) only [t_add, t_sub, t_mul, Int32.reduceToInt]) <;> omega)) only [t_add, t_sub, t_mul, Int32.reduceToInt]) <;> omega)) (by first | decide | ((try simp only [Int32.lt_iff_toInt_lt, Int32.le_iff_toInt_le, ← Int32.toInt_inj, Int32.toInt_toInt64, t_neg1, Int32.reduceToInt, Int64.reduceToInt, Int32.reduceToNatClampNeg, true_or, or_true, true_and, and_true] at *) <;> omega) | ((try simp only [Int32.lt_iff_toInt_lt, Int32.le_iff_toInt_le, ← Int32.toInt_inj, Int32.toInt_toInt64, t_neg1, Int32.reduceToInt, Int64.reduceToInt, Int32.reduceToNatClampNeg, true_or, or_true, true_and, and_true] at *) <;> (simp (disch := ((try simp (disch := ((try simp (disch := ((try simp only [Int32.reduceToInt]) <;> omega)) only [t_add, t_sub, t_mul, Int32.reduceToInt]) <;> omega)) only [t_add, t_sub, t_mul, Int32.reduceToInt]) <;> omega)) only [t_add, t_sub, t_mul, Int32.reduceToInt]) <;> omega)) (by first | decide | ((try simp only [Int32.lt_iff_toInt_lt, Int32.le_iff_toInt_le, ← Int32.toInt_inj, Int32.toInt_toInt64, t_neg1, Int32.reduceToInt, Int64.reduceToInt, Int32.reduceToNatClampNeg, true_or, or_true, true_and, and_true] at *) <;> omega) | ((try simp only [Int32.lt_iff_toInt_lt, Int32.le_iff_toInt_le, ← Int32.toInt_inj, Int32.toInt_toInt64, t_neg1, Int32.reduceToInt, Int64.reduceToInt, Int32.reduceToNatClampNeg, true_or, or_true, true_and, and_true] at *) <;> (simp (disch := ((try simp (disch := ((try simp (disch := ((try simp only [Int32.reduceToInt]) <;> omega)) only [t_add, t_sub, t_mul, Int32.reduceToInt]) <;> omega)) only [t_add, t_sub, t_mul, Int32.reduceToInt]) <;> omega)) only [t_add, t_sub, t_mul, Int32.reduceToInt]) <;> omega))) (fun t18 h5 => ?_)
        refine t_bind (t_ldI (n := 262) (by first | decide | ((try simp only [Int32.lt_iff_toInt_lt, Int32.le_iff_toInt_le, ← Int32.toInt_inj, Int32.toInt_toInt64, t_neg1, Int32.reduceToInt, Int64.reduceToInt, Int32.reduceToNatClampNeg, true_or, or_true, true_and, and_true] at *) <;> omega) | ((try simp only [Int32.lt_iff_toInt_lt, Int32.le_iff_toInt_le, ← Int32.toInt_inj, Int32.toInt_toInt64, t_neg1, Int32.reduceToInt, Int64.reduceToInt, Int32.reduceToNatClampNeg, true_or, or_true, true_and, and_true] at *) <;> (simp (disch := ((try simp (disch := ((try simp (disch := ((try simp only [Int32.reduceToInt]) <;> omega)) only [t_add, t_sub, t_mul, Int32.reduceToInt]) <;> omega)) only [t_add, t_sub, t_mul, Int32.reduceToInt]) <;> omega)) only [t_add, t_sub, t_mul, Int32.reduceToInt]) <;> omega)) (by first | decide | ((try simp only [Int32.lt_iff_toInt_lt, Int32.le_iff_toInt_le, ← Int32.toInt_inj, Int32.toInt_toInt64, t_neg1, Int32.reduceToInt, Int64.reduceToInt, Int32.reduceToNatClampNeg, true_or, or_true, true_and, and_true] at *) <;> omega) | ((try simp only [Int32.lt_iff_toInt_lt, Int32.le_iff_toInt_le, ← Int32.toInt_inj, Int32.toInt_toInt64, t_neg1, Int32.reduceToInt, Int64.reduceToInt, Int32.reduceToNatClampNeg, true_or, or_true, true_and, and_true] at *) <;> (simp (disch := ((try simp (disch := ((try simp (disch := ((try simp only [Int32.reduceToInt]) <;> omega)) only [t_add, t_sub, t_mul, Int32.reduceToInt]) <;> omega)) only [t_add, t_sub, t_mul, Int32.reduceToInt]) <;> omega)) only [t_add, t_sub, t_mul, Int32.reduceToInt]) <;> omega))) (fun t20 h6 => ?_)
        unfold wX11_mean_j86
        exact ih (t_n1 c2 hi) (t_m1 c2 hm)
    · exact t_some trivial
theorem wX11_mean_T {x1 : Int32} {x2 : Int32} {x3 : Int32} {s : wS} (hR : RQ s)  : Tot (wX11_mean x1 x2 x3 s) (fun (r : Int32 × wS) => wA bP s r.2) := by
  unfold wX11_mean
  have hb := RQ_b hR
  refine t_bind (wX11_canAsk_T) (fun t1 h1 => ?_)
  refine t_ite (fun c2 => ?_) (fun c2 => ?_)
  · exact t_some wA.refl
  · refine t_bind (wX11_isMany_T) (fun t4 h3 => ?_)
    refine t_ite (fun c4 => ?_) (fun c4 => ?_)
    · exact t_some wA.refl
    · refine t_bind (wX11_in_T) (fun t7 h5 => ?_)
      refine t_ite (fun c6 => ?_) (fun c6 => ?_)
      · exact t_some wA.refl
      · refine t_bind (wX11_keeps_T hR (by first | decide | ((try simp only [Int32.lt_iff_toInt_lt, Int32.le_iff_toInt_le, ← Int32.toInt_inj, Int32.toInt_toInt64, t_neg1, Int32.reduceToInt, Int64.reduceToInt, Int32.reduceToNatClampNeg, true_or, or_true, true_and, and_true] at *) <;> omega) | ((try simp only [Int32.lt_iff_toInt_lt, Int32.le_iff_toInt_le, ← Int32.toInt_inj, Int32.toInt_toInt64, t_neg1, Int32.reduceToInt, Int64.reduceToInt, Int32.reduceToNatClampNeg, true_or, or_true, true_and, and_true] at *) <;> (simp (disch := ((try simp (disch := ((try simp (disch := ((try simp only [Int32.reduceToInt]) <;> omega)) only [t_add, t_sub, t_mul, Int32.reduceToInt]) <;> omega)) only [t_add, t_sub, t_mul, Int32.reduceToInt]) <;> omega)) only [t_add, t_sub, t_mul, Int32.reduceToInt]) <;> omega)) (by first | decide | ((try simp only [Int32.lt_iff_toInt_lt, Int32.le_iff_toInt_le, ← Int32.toInt_inj, Int32.toInt_toInt64, t_neg1, Int32.reduceToInt, Int64.reduceToInt, Int32.reduceToNatClampNeg, true_or, or_true, true_and, and_true] at *) <;> omega) | ((try simp only [Int32.lt_iff_toInt_lt, Int32.le_iff_toInt_le, ← Int32.toInt_inj, Int32.toInt_toInt64, t_neg1, Int32.reduceToInt, Int64.reduceToInt, Int32.reduceToNatClampNeg, true_or, or_true, true_and, and_true] at *) <;> (simp (disch := ((try simp (disch := ((try simp (disch := ((try simp only [Int32.reduceToInt]) <;> omega)) only [t_add, t_sub, t_mul, Int32.reduceToInt]) <;> omega)) only [t_add, t_sub, t_mul, Int32.reduceToInt]) <;> omega)) only [t_add, t_sub, t_mul, Int32.reduceToInt]) <;> omega))) (fun r8 h7 => ?_)
        obtain ⟨t10, s11⟩ := r8
        dsimp only at h7 ⊢
        have a9 : wA bP s s11 := h7.1
        have q10 := sameP a9
        have w10 := wW_same q10.1
        have R10 := RQ_P a9 hR
        have p10 := a9 152 33 rfl
        refine t_bind (wX11_mean_h42_T R10 (by first | decide | ((try simp only [q10.1, q10.2.2.2.2, w10, p10, Int32.lt_iff_toInt_lt, Int32.le_iff_toInt_le, ← Int32.toInt_inj, Int32.toInt_toInt64, t_neg1, Int32.reduceToInt, Int64.reduceToInt, Int32.reduceToNatClampNeg, true_or, or_true, true_and, and_true] at *) <;> omega) | ((try simp only [q10.1, q10.2.2.2.2, w10, p10, Int32.lt_iff_toInt_lt, Int32.le_iff_toInt_le, ← Int32.toInt_inj, Int32.toInt_toInt64, t_neg1, Int32.reduceToInt, Int64.reduceToInt, Int32.reduceToNatClampNeg, true_or, or_true, true_and, and_true] at *) <;> (simp (disch := ((try simp (disch := ((try simp (disch := ((try simp only [Int32.reduceToInt]) <;> omega)) only [t_add, t_sub, t_mul, Int32.reduceToInt]) <;> omega)) only [t_add, t_sub, t_mul, Int32.reduceToInt]) <;> omega)) only [t_add, t_sub, t_mul, Int32.reduceToInt]) <;> omega)) (by first | decide | ((try simp only [q10.1, q10.2.2.2.2, w10, p10, Int32.lt_iff_toInt_lt, Int32.le_iff_toInt_le, ← Int32.toInt_inj, Int32.toInt_toInt64, t_neg1, Int32.reduceToInt, Int64.reduceToInt, Int32.reduceToNatClampNeg, true_or, or_true, true_and, and_true] at *) <;> omega) | ((try simp only [q10.1, q10.2.2.2.2, w10, p10, Int32.lt_iff_toInt_lt, Int32.le_iff_toInt_le, ← Int32.toInt_inj, Int32.toInt_toInt64, t_neg1, Int32.reduceToInt, Int64.reduceToInt, Int32.reduceToNatClampNeg, true_or, or_true, true_and, and_true] at *) <;> (simp (disch := ((try simp (disch := ((try simp (disch := ((try simp only [Int32.reduceToInt]) <;> omega)) only [t_add, t_sub, t_mul, Int32.reduceToInt]) <;> omega)) only [t_add, t_sub, t_mul, Int32.reduceToInt]) <;> omega)) only [t_add, t_sub, t_mul, Int32.reduceToInt]) <;> omega)) _ (by decide) t_mi) (fun t22 h11 => ?_)
        refine t_ite (fun c12 => ?_) (fun c12 => ?_)
        · exact t_some a9
        · refine t_bind (t_dvI (by first | decide | ((try simp only [q10.1, q10.2.2.2.2, w10, p10, Int32.lt_iff_toInt_lt, Int32.le_iff_toInt_le, ← Int32.toInt_inj, Int32.toInt_toInt64, t_neg1, Int32.reduceToInt, Int64.reduceToInt, Int32.reduceToNatClampNeg, true_or, or_true, true_and, and_true] at *) <;> omega) | ((try simp only [q10.1, q10.2.2.2.2, w10, p10, Int32.lt_iff_toInt_lt, Int32.le_iff_toInt_le, ← Int32.toInt_inj, Int32.toInt_toInt64, t_neg1, Int32.reduceToInt, Int64.reduceToInt, Int32.reduceToNatClampNeg, true_or, or_true, true_and, and_true] at *) <;> (simp (disch := ((try simp (disch := ((try simp (disch := ((try simp only [Int32.reduceToInt]) <;> omega)) only [t_add, t_sub, t_mul, Int32.reduceToInt]) <;> omega)) only [t_add, t_sub, t_mul, Int32.reduceToInt]) <;> omega)) only [t_add, t_sub, t_mul, Int32.reduceToInt]) <;> omega))) (fun t28 h13 => ?_)
          exact t_some a9
theorem wX11_asks_h12_T {x1 : Int32} {s0 : wS} (hR : RQ s0) (hP : PV s0) (hp : 0 ≤ x1.toInt) (hp2 : x1.toInt < (s0.1 152 33).toInt) : ∀ (n : Nat) {x2 : Int32} {s : wS}, wA bP s0 s → 0 ≤ x2.toInt → 2147483648 - x2.toInt < (n : Int) → Tot (wX11_asks_h12 x1 n x2 s) (fun (r : wS) => wA bP s0 r) := by
  intro n
  induction n with
  | zero =>
    intro x2 s ha hi hm
    exact (t_m0 hm).elim
  | succ n ih =>
    intro x2 s ha hi hm
    rw [wX11_asks_h12]
    have hb := RQ_b hR
    have hpb := hP.1
    have q1 := sameP ha
    have w1 := wW_same q1.1
    have R1 := RQ_P ha hR
    have p1 := ha 152 33 rfl
    refine t_bind (wX11_worlds_T) (fun t3 h2 => ?_)
    refine t_ite (fun c3 => ?_) (fun c3 => ?_)
    · refine t_bind (t_ldI (n := 512) (by first | decide | ((try simp only [q1.1, q1.2.2.2.2, w1, p1, Int32.lt_iff_toInt_lt, Int32.le_iff_toInt_le, ← Int32.toInt_inj, Int32.toInt_toInt64, t_neg1, Int32.reduceToInt, Int64.reduceToInt, Int32.reduceToNatClampNeg, true_or, or_true, true_and, and_true] at *) <;> omega) | ((try simp only [q1.1, q1.2.2.2.2, w1, p1, Int32.lt_iff_toInt_lt, Int32.le_iff_toInt_le, ← Int32.toInt_inj, Int32.toInt_toInt64, t_neg1, Int32.reduceToInt, Int64.reduceToInt, Int32.reduceToNatClampNeg, true_or, or_true, true_and, and_true] at *) <;> (simp (disch := ((try simp (disch := ((try simp (disch := ((try simp only [Int32.reduceToInt]) <;> omega)) only [t_add, t_sub, t_mul, Int32.reduceToInt]) <;> omega)) only [t_add, t_sub, t_mul, Int32.reduceToInt]) <;> omega)) only [t_add, t_sub, t_mul, Int32.reduceToInt]) <;> omega)) (by first | decide | ((try simp only [q1.1, q1.2.2.2.2, w1, p1, Int32.lt_iff_toInt_lt, Int32.le_iff_toInt_le, ← Int32.toInt_inj, Int32.toInt_toInt64, t_neg1, Int32.reduceToInt, Int64.reduceToInt, Int32.reduceToNatClampNeg, true_or, or_true, true_and, and_true] at *) <;> omega) | ((try simp only [q1.1, q1.2.2.2.2, w1, p1, Int32.lt_iff_toInt_lt, Int32.le_iff_toInt_le, ← Int32.toInt_inj, Int32.toInt_toInt64, t_neg1, Int32.reduceToInt, Int64.reduceToInt, Int32.reduceToNatClampNeg, true_or, or_true, true_and, and_true] at *) <;> (simp (disch := ((try simp (disch := ((try simp (disch := ((try simp only [Int32.reduceToInt]) <;> omega)) only [t_add, t_sub, t_mul, Int32.reduceToInt]) <;> omega)) only [t_add, t_sub, t_mul, Int32.reduceToInt]) <;> omega)) only [t_add, t_sub, t_mul, Int32.reduceToInt]) <;> omega))) (fun t6 h4 => ?_)
      refine t_ite (fun c5 => ?_) (fun c5 => ?_)
      · unfold wX11_asks_j80
        exact ih ha (t_n1 c3 hi) (t_m1 c3 hm)
      · refine t_bind (wX11_leaves_T R1 (PV_P ha hP) (by first | decide | ((try simp only [q1.1, q1.2.2.2.2, w1, p1, Int32.lt_iff_toInt_lt, Int32.le_iff_toInt_le, ← Int32.toInt_inj, Int32.toInt_toInt64, t_neg1, Int32.reduceToInt, Int64.reduceToInt, Int32.reduceToNatClampNeg, true_or, or_true, true_and, and_true] at *) <;> omega) | ((try simp only [q1.1, q1.2.2.2.2, w1, p1, Int32.lt_iff_toInt_lt, Int32.le_iff_toInt_le, ← Int32.toInt_inj, Int32.toInt_toInt64, t_neg1, Int32.reduceToInt, Int64.reduceToInt, Int32.reduceToNatClampNeg, true_or, or_true, true_and, and_true] at *) <;> (simp (disch := ((try simp (disch := ((try simp (disch := ((try simp only [Int32.reduceToInt]) <;> omega)) only [t_add, t_sub, t_mul, Int32.reduceToInt]) <;> omega)) only [t_add, t_sub, t_mul, Int32.reduceToInt]) <;> omega)) only [t_add, t_sub, t_mul, Int32.reduceToInt]) <;> omega)) (by first | decide | ((try simp only [q1.1, q1.2.2.2.2, w1, p1, Int32.lt_iff_toInt_lt, Int32.le_iff_toInt_le, ← Int32.toInt_inj, Int32.toInt_toInt64, t_neg1, Int32.reduceToInt, Int64.reduceToInt, Int32.reduceToNatClampNeg, true_or, or_true, true_and, and_true] at *) <;> omega) | ((try simp only [q1.1, q1.2.2.2.2, w1, p1, Int32.lt_iff_toInt_lt, Int32.le_iff_toInt_le, ← Int32.toInt_inj, Int32.toInt_toInt64, t_neg1, Int32.reduceToInt, Int64.reduceToInt, Int32.reduceToNatClampNeg, true_or, or_true, true_and, and_true] at *) <;> (simp (disch := ((try simp (disch := ((try simp (disch := ((try simp only [Int32.reduceToInt]) <;> omega)) only [t_add, t_sub, t_mul, Int32.reduceToInt]) <;> omega)) only [t_add, t_sub, t_mul, Int32.reduceToInt]) <;> omega)) only [t_add, t_sub, t_mul, Int32.reduceToInt]) <;> omega)) (by first | decide | ((try simp only [q1.1, q1.2.2.2.2, w1, p1, Int32.lt_iff_toInt_lt, Int32.le_iff_toInt_le, ← Int32.toInt_inj, Int32.toInt_toInt64, t_neg1, Int32.reduceToInt, Int64.reduceToInt, Int32.reduceToNatClampNeg, true_or, or_true, true_and, and_true] at *) <;> omega) | ((try simp only [q1.1, q1.2.2.2.2, w1, p1, Int32.lt_iff_toInt_lt, Int32.le_iff_toInt_le, ← Int32.toInt_inj, Int32.toInt_toInt64, t_neg1, Int32.reduceToInt, Int64.reduceToInt, Int32.reduceToNatClampNeg, true_or, or_true, true_and, and_true] at *) <;> (simp (disch := ((try simp (disch := ((try simp (disch := ((try simp only [Int32.reduceToInt]) <;> omega)) only [t_add, t_sub, t_mul, Int32.reduceToInt]) <;> omega)) only [t_add, t_sub, t_mul, Int32.reduceToInt]) <;> omega)) only [t_add, t_sub, t_mul, Int32.reduceToInt]) <;> omega)) (by first | decide | ((try simp only [q1.1, q1.2.2.2.2, w1, p1, Int32.lt_iff_toInt_lt, Int32.le_iff_toInt_le, ← Int32.toInt_inj, Int32.toInt_toInt64, t_neg1, Int32.reduceToInt, Int64.reduceToInt, Int32.reduceToNatClampNeg, true_or, or_true, true_and, and_true] at *) <;> omega) | ((try simp only [q1.1, q1.2.2.2.2, w1, p1, Int32.lt_iff_toInt_lt, Int32.le_iff_toInt_le, ← Int32.toInt_inj, Int32.toInt_toInt64, t_neg1, Int32.reduceToInt, Int64.reduceToInt, Int32.reduceToNatClampNeg, true_or, or_true, true_and, and_true] at *) <;> (simp (disch := ((try simp (disch := ((try simp (disch := ((try simp only [Int32.reduceToInt]) <;> omega)) only [t_add, t_sub, t_mul, Int32.reduceToInt]) <;> omega)) only [t_add, t_sub, t_mul, Int32.reduceToInt]) <;> omega)) only [t_add, t_sub, t_mul, Int32.reduceToInt]) <;> omega)) (by first | decide | ((try simp only [q1.1, q1.2.2.2.2, w1, p1, Int32.lt_iff_toInt_lt, Int32.le_iff_toInt_le, ← Int32.toInt_inj, Int32.toInt_toInt64, t_neg1, Int32.reduceToInt, Int64.reduceToInt, Int32.reduceToNatClampNeg, true_or, or_true, true_and, and_true] at *) <;> omega) | ((try simp only [q1.1, q1.2.2.2.2, w1, p1, Int32.lt_iff_toInt_lt, Int32.le_iff_toInt_le, ← Int32.toInt_inj, Int32.toInt_toInt64, t_neg1, Int32.reduceToInt, Int64.reduceToInt, Int32.reduceToNatClampNeg, true_or, or_true, true_and, and_true] at *) <;> (simp (disch := ((try simp (disch := ((try simp (disch := ((try simp only [Int32.reduceToInt]) <;> omega)) only [t_add, t_sub, t_mul, Int32.reduceToInt]) <;> omega)) only [t_add, t_sub, t_mul, Int32.reduceToInt]) <;> omega)) only [t_add, t_sub, t_mul, Int32.reduceToInt]) <;> omega)) (by first | decide | ((try simp only [q1.1, q1.2.2.2.2, w1, p1, Int32.lt_iff_toInt_lt, Int32.le_iff_toInt_le, ← Int32.toInt_inj, Int32.toInt_toInt64, t_neg1, Int32.reduceToInt, Int64.reduceToInt, Int32.reduceToNatClampNeg, true_or, or_true, true_and, and_true] at *) <;> omega) | ((try simp only [q1.1, q1.2.2.2.2, w1, p1, Int32.lt_iff_toInt_lt, Int32.le_iff_toInt_le, ← Int32.toInt_inj, Int32.toInt_toInt64, t_neg1, Int32.reduceToInt, Int64.reduceToInt, Int32.reduceToNatClampNeg, true_or, or_true, true_and, and_true] at *) <;> (simp (disch := ((try simp (disch := ((try simp (disch := ((try simp only [Int32.reduceToInt]) <;> omega)) only [t_add, t_sub, t_mul, Int32.reduceToInt]) <;> omega)) only [t_add, t_sub, t_mul, Int32.reduceToInt]) <;> omega)) only [t_add, t_sub, t_mul, Int32.reduceToInt]) <;> omega))) (fun t8 h6 => ?_)
        refine t_ite (fun c7 => ?_) (fun c7 => ?_)
        · unfold wX11_asks_j52
          refine t_bind (t_pfI (B := bP) rfl) (fun s11 h8 => ?_)
          have f9 : s11.1 152 35 = s.1 152 35 := by rw [h8.2]; exact wup_nb (by decide)
          have a10 : wA bP s0 s11 := ha.trans h8.1
          have q11 := sameP a10
          have w11 := wW_same q11.1
          have R11 := RQ_P a10 hR
          have p11 := a10 152 33 rfl
          refine t_bind (wX11_leaves_T R11 (PV_P h8.1 (PV_P ha hP)) (by first | decide | ((try simp only [q1.1, q1.2.2.2.2, w1, p1, q11.1, q11.2.2.2.2, w11, p11, Int32.lt_iff_toInt_lt, Int32.le_iff_toInt_le, ← Int32.toInt_inj, Int32.toInt_toInt64, t_neg1, Int32.reduceToInt, Int64.reduceToInt, Int32.reduceToNatClampNeg, true_or, or_true, true_and, and_true] at *) <;> omega) | ((try simp only [q1.1, q1.2.2.2.2, w1, p1, q11.1, q11.2.2.2.2, w11, p11, Int32.lt_iff_toInt_lt, Int32.le_iff_toInt_le, ← Int32.toInt_inj, Int32.toInt_toInt64, t_neg1, Int32.reduceToInt, Int64.reduceToInt, Int32.reduceToNatClampNeg, true_or, or_true, true_and, and_true] at *) <;> (simp (disch := ((try simp (disch := ((try simp (disch := ((try simp only [Int32.reduceToInt]) <;> omega)) only [t_add, t_sub, t_mul, Int32.reduceToInt]) <;> omega)) only [t_add, t_sub, t_mul, Int32.reduceToInt]) <;> omega)) only [t_add, t_sub, t_mul, Int32.reduceToInt]) <;> omega)) (by first | decide | ((try simp only [q1.1, q1.2.2.2.2, w1, p1, q11.1, q11.2.2.2.2, w11, p11, Int32.lt_iff_toInt_lt, Int32.le_iff_toInt_le, ← Int32.toInt_inj, Int32.toInt_toInt64, t_neg1, Int32.reduceToInt, Int64.reduceToInt, Int32.reduceToNatClampNeg, true_or, or_true, true_and, and_true] at *) <;> omega) | ((try simp only [q1.1, q1.2.2.2.2, w1, p1, q11.1, q11.2.2.2.2, w11, p11, Int32.lt_iff_toInt_lt, Int32.le_iff_toInt_le, ← Int32.toInt_inj, Int32.toInt_toInt64, t_neg1, Int32.reduceToInt, Int64.reduceToInt, Int32.reduceToNatClampNeg, true_or, or_true, true_and, and_true] at *) <;> (simp (disch := ((try simp (disch := ((try simp (disch := ((try simp only [Int32.reduceToInt]) <;> omega)) only [t_add, t_sub, t_mul, Int32.reduceToInt]) <;> omega)) only [t_add, t_sub, t_mul, Int32.reduceToInt]) <;> omega)) only [t_add, t_sub, t_mul, Int32.reduceToInt]) <;> omega)) (by first | decide | ((try simp only [q1.1, q1.2.2.2.2, w1, p1, q11.1, q11.2.2.2.2, w11, p11, Int32.lt_iff_toInt_lt, Int32.le_iff_toInt_le, ← Int32.toInt_inj, Int32.toInt_toInt64, t_neg1, Int32.reduceToInt, Int64.reduceToInt, Int32.reduceToNatClampNeg, true_or, or_true, true_and, and_true] at *) <;> omega) | ((try simp only [q1.1, q1.2.2.2.2, w1, p1, q11.1, q11.2.2.2.2, w11, p11, Int32.lt_iff_toInt_lt, Int32.le_iff_toInt_le, ← Int32.toInt_inj, Int32.toInt_toInt64, t_neg1, Int32.reduceToInt, Int64.reduceToInt, Int32.reduceToNatClampNeg, true_or, or_true, true_and, and_true] at *) <;> (simp (disch := ((try simp (disch := ((try simp (disch := ((try simp only [Int32.reduceToInt]) <;> omega)) only [t_add, t_sub, t_mul, Int32.reduceToInt]) <;> omega)) only [t_add, t_sub, t_mul, Int32.reduceToInt]) <;> omega)) only [t_add, t_sub, t_mul, Int32.reduceToInt]) <;> omega)) (by first | decide | ((try simp only [q1.1, q1.2.2.2.2, w1, p1, q11.1, q11.2.2.2.2, w11, p11, Int32.lt_iff_toInt_lt, Int32.le_iff_toInt_le, ← Int32.toInt_inj, Int32.toInt_toInt64, t_neg1, Int32.reduceToInt, Int64.reduceToInt, Int32.reduceToNatClampNeg, true_or, or_true, true_and, and_true] at *) <;> omega) | ((try simp only [q1.1, q1.2.2.2.2, w1, p1, q11.1, q11.2.2.2.2, w11, p11, Int32.lt_iff_toInt_lt, Int32.le_iff_toInt_le, ← Int32.toInt_inj, Int32.toInt_toInt64, t_neg1, Int32.reduceToInt, Int64.reduceToInt, Int32.reduceToNatClampNeg, true_or, or_true, true_and, and_true] at *) <;> (simp (disch := ((try simp (disch := ((try simp (disch := ((try simp only [Int32.reduceToInt]) <;> omega)) only [t_add, t_sub, t_mul, Int32.reduceToInt]) <;> omega)) only [t_add, t_sub, t_mul, Int32.reduceToInt]) <;> omega)) only [t_add, t_sub, t_mul, Int32.reduceToInt]) <;> omega)) (by first | decide | ((try simp only [q1.1, q1.2.2.2.2, w1, p1, q11.1, q11.2.2.2.2, w11, p11, Int32.lt_iff_toInt_lt, Int32.le_iff_toInt_le, ← Int32.toInt_inj, Int32.toInt_toInt64, t_neg1, Int32.reduceToInt, Int64.reduceToInt, Int32.reduceToNatClampNeg, true_or, or_true, true_and, and_true] at *) <;> omega) | ((try simp only [q1.1, q1.2.2.2.2, w1, p1, q11.1, q11.2.2.2.2, w11, p11, Int32.lt_iff_toInt_lt, Int32.le_iff_toInt_le, ← Int32.toInt_inj, Int32.toInt_toInt64, t_neg1, Int32.reduceToInt, Int64.reduceToInt, Int32.reduceToNatClampNeg, true_or, or_true, true_and, and_true] at *) <;> (simp (disch := ((try simp (disch := ((try simp (disch := ((try simp only [Int32.reduceToInt]) <;> omega)) only [t_add, t_sub, t_mul, Int32.reduceToInt]) <;> omega)) only [t_add, t_sub, t_mul, Int32.reduceToInt]) <;> omega)) only [t_add, t_sub, t_mul, Int32.reduceToInt]) <;> omega)) (by first | decide | ((try simp only [q1.1, q1.2.2.2.2, w1, p1, q11.1, q11.2.2.2.2, w11, p11, Int32.lt_iff_toInt_lt, Int32.le_iff_toInt_le, ← Int32.toInt_inj, Int32.toInt_toInt64, t_neg1, Int32.reduceToInt, Int64.reduceToInt, Int32.reduceToNatClampNeg, true_or, or_true, true_and, and_true] at *) <;> omega) | ((try simp only [q1.1, q1.2.2.2.2, w1, p1, q11.1, q11.2.2.2.2, w11, p11, Int32.lt_iff_toInt_lt, Int32.le_iff_toInt_le, ← Int32.toInt_inj, Int32.toInt_toInt64, t_neg1, Int32.reduceToInt, Int64.reduceToInt, Int32.reduceToNatClampNeg, true_or, or_true, true_and, and_true] at *) <;> (simp (disch := ((try simp (disch := ((try simp (disch := ((try simp only [Int32.reduceToInt]) <;> omega)) only [t_add, t_sub, t_mul, Int32.reduceToInt]) <;> omega)) only [t_add, t_sub, t_mul, Int32.reduceToInt]) <;> omega)) only [t_add, t_sub, t_mul, Int32.reduceToInt]) <;> omega))) (fun t12 h12 => ?_)
          refine t_ite (fun c13 => ?_) (fun c13 => ?_)
          · unfold wX11_asks_j76
            refine t_bind (t_pfI (B := bP) rfl) (fun s15 h14 => ?_)
            have a15 : wA bP s0 s15 := a10.trans h14.1
            have q16 := sameP a15
            have w16 := wW_same q16.1
            have R16 := RQ_P a15 hR
            have p16 := a15 152 33 rfl
            unfold wX11_asks_j80
            exact ih a15 (t_n1 c3 hi) (t_m1 c3 hm)
          · unfold wX11_asks_j76
            refine t_bind (t_pfI (B := bP) rfl) (fun s15 h17 => ?_)
            have a18 : wA bP s0 s15 := a10.trans h17.1
            have q19 := sameP a18
            have w19 := wW_same q19.1
            have R19 := RQ_P a18 hR
            have p19 := a18 152 33 rfl
            unfold wX11_asks_j80
            exact ih a18 (t_n1 c3 hi) (t_m1 c3 hm)
        · unfold wX11_asks_j52
          refine t_bind (t_pfI (B := bP) rfl) (fun s11 h20 => ?_)
          have f21 : s11.1 152 35 = s.1 152 35 := by rw [h20.2]; exact wup_nb (by decide)
          have a22 : wA bP s0 s11 := ha.trans h20.1
          have q23 := sameP a22
          have w23 := wW_same q23.1
          have R23 := RQ_P a22 hR
          have p23 := a22 152 33 rfl
          refine t_bind (wX11_leaves_T R23 (PV_P h20.1 (PV_P ha hP)) (by first | decide | ((try simp only [q1.1, q1.2.2.2.2, w1, p1, q23.1, q23.2.2.2.2, w23, p23, Int32.lt_iff_toInt_lt, Int32.le_iff_toInt_le, ← Int32.toInt_inj, Int32.toInt_toInt64, t_neg1, Int32.reduceToInt, Int64.reduceToInt, Int32.reduceToNatClampNeg, true_or, or_true, true_and, and_true] at *) <;> omega) | ((try simp only [q1.1, q1.2.2.2.2, w1, p1, q23.1, q23.2.2.2.2, w23, p23, Int32.lt_iff_toInt_lt, Int32.le_iff_toInt_le, ← Int32.toInt_inj, Int32.toInt_toInt64, t_neg1, Int32.reduceToInt, Int64.reduceToInt, Int32.reduceToNatClampNeg, true_or, or_true, true_and, and_true] at *) <;> (simp (disch := ((try simp (disch := ((try simp (disch := ((try simp only [Int32.reduceToInt]) <;> omega)) only [t_add, t_sub, t_mul, Int32.reduceToInt]) <;> omega)) only [t_add, t_sub, t_mul, Int32.reduceToInt]) <;> omega)) only [t_add, t_sub, t_mul, Int32.reduceToInt]) <;> omega)) (by first | decide | ((try simp only [q1.1, q1.2.2.2.2, w1, p1, q23.1, q23.2.2.2.2, w23, p23, Int32.lt_iff_toInt_lt, Int32.le_iff_toInt_le, ← Int32.toInt_inj, Int32.toInt_toInt64, t_neg1, Int32.reduceToInt, Int64.reduceToInt, Int32.reduceToNatClampNeg, true_or, or_true, true_and, and_true] at *) <;> omega) | ((try simp only [q1.1, q1.2.2.2.2, w1, p1, q23.1, q23.2.2.2.2, w23, p23, Int32.lt_iff_toInt_lt, Int32.le_iff_toInt_le, ← Int32.toInt_inj, Int32.toInt_toInt64, t_neg1, Int32.reduceToInt, Int64.reduceToInt, Int32.reduceToNatClampNeg, true_or, or_true, true_and, and_true] at *) <;> (simp (disch := ((try simp (disch := ((try simp (disch := ((try simp only [Int32.reduceToInt]) <;> omega)) only [t_add, t_sub, t_mul, Int32.reduceToInt]) <;> omega)) only [t_add, t_sub, t_mul, Int32.reduceToInt]) <;> omega)) only [t_add, t_sub, t_mul, Int32.reduceToInt]) <;> omega)) (by first | decide | ((try simp only [q1.1, q1.2.2.2.2, w1, p1, q23.1, q23.2.2.2.2, w23, p23, Int32.lt_iff_toInt_lt, Int32.le_iff_toInt_le, ← Int32.toInt_inj, Int32.toInt_toInt64, t_neg1, Int32.reduceToInt, Int64.reduceToInt, Int32.reduceToNatClampNeg, true_or, or_true, true_and, and_true] at *) <;> omega) | ((try simp only [q1.1, q1.2.2.2.2, w1, p1, q23.1, q23.2.2.2.2, w23, p23, Int32.lt_iff_toInt_lt, Int32.le_iff_toInt_le, ← Int32.toInt_inj, Int32.toInt_toInt64, t_neg1, Int32.reduceToInt, Int64.reduceToInt, Int32.reduceToNatClampNeg, true_or, or_true, true_and, and_true] at *) <;> (simp (disch := ((try simp (disch := ((try simp (disch := ((try simp only [Int32.reduceToInt]) <;> omega)) only [t_add, t_sub, t_mul, Int32.reduceToInt]) <;> omega)) only [t_add, t_sub, t_mul, Int32.reduceToInt]) <;> omega)) only [t_add, t_sub, t_mul, Int32.reduceToInt]) <;> omega)) (by first | decide | ((try simp only [q1.1, q1.2.2.2.2, w1, p1, q23.1, q23.2.2.2.2, w23, p23, Int32.lt_iff_toInt_lt, Int32.le_iff_toInt_le, ← Int32.toInt_inj, Int32.toInt_toInt64, t_neg1, Int32.reduceToInt, Int64.reduceToInt, Int32.reduceToNatClampNeg, true_or, or_true, true_and, and_true] at *) <;> omega) | ((try simp only [q1.1, q1.2.2.2.2, w1, p1, q23.1, q23.2.2.2.2, w23, p23, Int32.lt_iff_toInt_lt, Int32.le_iff_toInt_le, ← Int32.toInt_inj, Int32.toInt_toInt64, t_neg1, Int32.reduceToInt, Int64.reduceToInt, Int32.reduceToNatClampNeg, true_or, or_true, true_and, and_true] at *) <;> (simp (disch := ((try simp (disch := ((try simp (disch := ((try simp only [Int32.reduceToInt]) <;> omega)) only [t_add, t_sub, t_mul, Int32.reduceToInt]) <;> omega)) only [t_add, t_sub, t_mul, Int32.reduceToInt]) <;> omega)) only [t_add, t_sub, t_mul, Int32.reduceToInt]) <;> omega)) (by first | decide | ((try simp only [q1.1, q1.2.2.2.2, w1, p1, q23.1, q23.2.2.2.2, w23, p23, Int32.lt_iff_toInt_lt, Int32.le_iff_toInt_le, ← Int32.toInt_inj, Int32.toInt_toInt64, t_neg1, Int32.reduceToInt, Int64.reduceToInt, Int32.reduceToNatClampNeg, true_or, or_true, true_and, and_true] at *) <;> omega) | ((try simp only [q1.1, q1.2.2.2.2, w1, p1, q23.1, q23.2.2.2.2, w23, p23, Int32.lt_iff_toInt_lt, Int32.le_iff_toInt_le, ← Int32.toInt_inj, Int32.toInt_toInt64, t_neg1, Int32.reduceToInt, Int64.reduceToInt, Int32.reduceToNatClampNeg, true_or, or_true, true_and, and_true] at *) <;> (simp (disch := ((try simp (disch := ((try simp (disch := ((try simp only [Int32.reduceToInt]) <;> omega)) only [t_add, t_sub, t_mul, Int32.reduceToInt]) <;> omega)) only [t_add, t_sub, t_mul, Int32.reduceToInt]) <;> omega)) only [t_add, t_sub, t_mul, Int32.reduceToInt]) <;> omega)) (by first | decide | ((try simp only [q1.1, q1.2.2.2.2, w1, p1, q23.1, q23.2.2.2.2, w23, p23, Int32.lt_iff_toInt_lt, Int32.le_iff_toInt_le, ← Int32.toInt_inj, Int32.toInt_toInt64, t_neg1, Int32.reduceToInt, Int64.reduceToInt, Int32.reduceToNatClampNeg, true_or, or_true, true_and, and_true] at *) <;> omega) | ((try simp only [q1.1, q1.2.2.2.2, w1, p1, q23.1, q23.2.2.2.2, w23, p23, Int32.lt_iff_toInt_lt, Int32.le_iff_toInt_le, ← Int32.toInt_inj, Int32.toInt_toInt64, t_neg1, Int32.reduceToInt, Int64.reduceToInt, Int32.reduceToNatClampNeg, true_or, or_true, true_and, and_true] at *) <;> (simp (disch := ((try simp (disch := ((try simp (disch := ((try simp only [Int32.reduceToInt]) <;> omega)) only [t_add, t_sub, t_mul, Int32.reduceToInt]) <;> omega)) only [t_add, t_sub, t_mul, Int32.reduceToInt]) <;> omega)) only [t_add, t_sub, t_mul, Int32.reduceToInt]) <;> omega))) (fun t12 h24 => ?_)
          refine t_ite (fun c25 => ?_) (fun c25 => ?_)
          · unfold wX11_asks_j76
            refine t_bind (t_pfI (B := bP) rfl) (fun s15 h26 => ?_)
            have a27 : wA bP s0 s15 := a22.trans h26.1
            have q28 := sameP a27
            have w28 := wW_same q28.1
            have R28 := RQ_P a27 hR
            have p28 := a27 152 33 rfl
            unfold wX11_asks_j80
            exact ih a27 (t_n1 c3 hi) (t_m1 c3 hm)
          · unfold wX11_asks_j76
            refine t_bind (t_pfI (B := bP) rfl) (fun s15 h29 => ?_)
            have a30 : wA bP s0 s15 := a22.trans h29.1
            have q31 := sameP a30
            have w31 := wW_same q31.1
            have R31 := RQ_P a30 hR
            have p31 := a30 152 33 rfl
            unfold wX11_asks_j80
            exact ih a30 (t_n1 c3 hi) (t_m1 c3 hm)
    · exact t_some ha
theorem wX11_asks_T {x1 : Int32} {s : wS} (hR : RQ s) (hP : PV s) (hp : 0 ≤ x1.toInt) (hp2 : x1.toInt < (s.1 152 33).toInt) : Tot (wX11_asks x1 s) (fun (r : wS) => wA bP s r) := by
  unfold wX11_asks
  have hb := RQ_b hR
  have hpb := hP.1
  refine t_bind (t_pfI (B := bP) rfl) (fun s1 h1 => ?_)
  have a2 : wA bP s s1 := h1.1
  have q3 := sameP a2
  have w3 := wW_same q3.1
  have R3 := RQ_P a2 hR
  have p3 := a2 152 33 rfl
  refine t_bind (t_pfI (B := bP) rfl) (fun s2 h4 => ?_)
  have a5 : wA bP s s2 := a2.trans h4.1
  have q6 := sameP a5
  have w6 := wW_same q6.1
  have R6 := RQ_P a5 hR
  have p6 := a5 152 33 rfl
  refine t_bind (wX11_asks_h12_T R6 (PV_P h4.1 (PV_P h1.1 hP)) (by first | decide | ((try simp only [q3.1, q3.2.2.2.2, w3, p3, q6.1, q6.2.2.2.2, w6, p6, Int32.lt_iff_toInt_lt, Int32.le_iff_toInt_le, ← Int32.toInt_inj, Int32.toInt_toInt64, t_neg1, Int32.reduceToInt, Int64.reduceToInt, Int32.reduceToNatClampNeg, true_or, or_true, true_and, and_true] at *) <;> omega) | ((try simp only [q3.1, q3.2.2.2.2, w3, p3, q6.1, q6.2.2.2.2, w6, p6, Int32.lt_iff_toInt_lt, Int32.le_iff_toInt_le, ← Int32.toInt_inj, Int32.toInt_toInt64, t_neg1, Int32.reduceToInt, Int64.reduceToInt, Int32.reduceToNatClampNeg, true_or, or_true, true_and, and_true] at *) <;> (simp (disch := ((try simp (disch := ((try simp (disch := ((try simp only [Int32.reduceToInt]) <;> omega)) only [t_add, t_sub, t_mul, Int32.reduceToInt]) <;> omega)) only [t_add, t_sub, t_mul, Int32.reduceToInt]) <;> omega)) only [t_add, t_sub, t_mul, Int32.reduceToInt]) <;> omega)) (by first | decide | ((try simp only [q3.1, q3.2.2.2.2, w3, p3, q6.1, q6.2.2.2.2, w6, p6, Int32.lt_iff_toInt_lt, Int32.le_iff_toInt_le, ← Int32.toInt_inj, Int32.toInt_toInt64, t_neg1, Int32.reduceToInt, Int64.reduceToInt, Int32.reduceToNatClampNeg, true_or, or_true, true_and, and_true] at *) <;> omega) | ((try simp only [q3.1, q3.2.2.2.2, w3, p3, q6.1, q6.2.2.2.2, w6, p6, Int32.lt_iff_toInt_lt, Int32.le_iff_toInt_le, ← Int32.toInt_inj, Int32.toInt_toInt64, t_neg1, Int32.reduceToInt, Int64.reduceToInt, Int32.reduceToNatClampNeg, true_or, or_true, true_and, and_true] at *) <;> (simp (disch := ((try simp (disch := ((try simp (disch := ((try simp only [Int32.reduceToInt]) <;> omega)) only [t_add, t_sub, t_mul, Int32.reduceToInt]) <;> omega)) only [t_add, t_sub, t_mul, Int32.reduceToInt]) <;> omega)) only [t_add, t_sub, t_mul, Int32.reduceToInt]) <;> omega)) _ wA.refl (by decide) t_mi) (fun s17 h7 => ?_)
  have a8 : wA bP s s17 := a5.trans h7
  have q9 := sameP a8
  have w9 := wW_same q9.1
  have R9 := RQ_P a8 hR
  have p9 := a8 152 33 rfl
  exact t_some a8
theorem wX11_greater_T {x0 : Int32} {x1 : Int32} {s : wS}  : Tot (wX11_greater x0 x1 s) (fun (_ : Int32) => True) := by
  unfold wX11_greater
  refine t_ite (fun c1 => ?_) (fun c1 => ?_)
  · exact t_some trivial
  · exact t_some trivial
theorem wX11_asksNext_h11_T {x1 : Int32} {s0 : wS} (hR : RQ s0) (hP : PV s0)  : ∀ (n : Nat) {x2 : Int32} {x3 : Int64} {x5 : Int32} {s : wS}, wA bP s0 s → 0 ≤ x5.toInt → x2.toInt = -1 ∨ (0 ≤ x2.toInt ∧ x2.toInt < (s0.1 152 33).toInt) → 2147483648 - x5.toInt < (n : Int) → Tot (wX11_asksNext_h11 x1 n x2 x3 x5 s) (fun (r : Int32 × wS) => wA bP s0 r.2 ∧ (r.1.toInt = -1 ∨ (0 ≤ r.1.toInt ∧ r.1.toInt < (s0.1 152 33).toInt))) := by
  intro n
  induction n with
  | zero =>
    intro x2 x3 x5 s ha hi hf hm
    exact (t_m0 hm).elim
  | succ n ih =>
    intro x2 x3 x5 s ha hi hf hm
    rw [wX11_asksNext_h11]
    have hb := RQ_b hR
    have hpb := hP.1
    have q1 := sameP ha
    have w1 := wW_same q1.1
    have R1 := RQ_P ha hR
    have p1 := ha 152 33 rfl
    refine t_ite (fun c2 => ?_) (fun c2 => ?_)
    · refine t_bind (wX11_asks_T R1 (PV_P ha hP) (by first | decide | ((try simp only [q1.1, q1.2.2.2.2, w1, p1, Int32.lt_iff_toInt_lt, Int32.le_iff_toInt_le, ← Int32.toInt_inj, Int32.toInt_toInt64, t_neg1, Int32.reduceToInt, Int64.reduceToInt, Int32.reduceToNatClampNeg, true_or, or_true, true_and, and_true] at *) <;> omega) | ((try simp only [q1.1, q1.2.2.2.2, w1, p1, Int32.lt_iff_toInt_lt, Int32.le_iff_toInt_le, ← Int32.toInt_inj, Int32.toInt_toInt64, t_neg1, Int32.reduceToInt, Int64.reduceToInt, Int32.reduceToNatClampNeg, true_or, or_true, true_and, and_true] at *) <;> (simp (disch := ((try simp (disch := ((try simp (disch := ((try simp only [Int32.reduceToInt]) <;> omega)) only [t_add, t_sub, t_mul, Int32.reduceToInt]) <;> omega)) only [t_add, t_sub, t_mul, Int32.reduceToInt]) <;> omega)) only [t_add, t_sub, t_mul, Int32.reduceToInt]) <;> omega)) (by first | decide | ((try simp only [q1.1, q1.2.2.2.2, w1, p1, Int32.lt_iff_toInt_lt, Int32.le_iff_toInt_le, ← Int32.toInt_inj, Int32.toInt_toInt64, t_neg1, Int32.reduceToInt, Int64.reduceToInt, Int32.reduceToNatClampNeg, true_or, or_true, true_and, and_true] at *) <;> omega) | ((try simp only [q1.1, q1.2.2.2.2, w1, p1, Int32.lt_iff_toInt_lt, Int32.le_iff_toInt_le, ← Int32.toInt_inj, Int32.toInt_toInt64, t_neg1, Int32.reduceToInt, Int64.reduceToInt, Int32.reduceToNatClampNeg, true_or, or_true, true_and, and_true] at *) <;> (simp (disch := ((try simp (disch := ((try simp (disch := ((try simp only [Int32.reduceToInt]) <;> omega)) only [t_add, t_sub, t_mul, Int32.reduceToInt]) <;> omega)) only [t_add, t_sub, t_mul, Int32.reduceToInt]) <;> omega)) only [t_add, t_sub, t_mul, Int32.reduceToInt]) <;> omega))) (fun s6 h3 => ?_)
      have a4 : wA bP s0 s6 := ha.trans h3
      have q5 := sameP a4
      have w5 := wW_same q5.1
      have R5 := RQ_P a4 hR
      have p5 := a4 152 33 rfl
      refine t_ite (fun c6 => ?_) (fun c6 => ?_)
      · refine t_bind (wX11_greater_T) (fun t9 h7 => ?_)
        unfold wX11_asksNext_j68
        refine t_ite (fun c8 => ?_) (fun c8 => ?_)
        · unfold wX11_asksNext_j84
          unfold wX11_asksNext_j90
          exact ih a4 (t_n1 c2 hi) (by first | decide | ((try simp only [q1.1, q1.2.2.2.2, w1, p1, q5.1, q5.2.2.2.2, w5, p5, Int32.lt_iff_toInt_lt, Int32.le_iff_toInt_le, ← Int32.toInt_inj, Int32.toInt_toInt64, t_neg1, Int32.reduceToInt, Int64.reduceToInt, Int32.reduceToNatClampNeg, true_or, or_true, true_and, and_true] at *) <;> omega) | ((try simp only [q1.1, q1.2.2.2.2, w1, p1, q5.1, q5.2.2.2.2, w5, p5, Int32.lt_iff_toInt_lt, Int32.le_iff_toInt_le, ← Int32.toInt_inj, Int32.toInt_toInt64, t_neg1, Int32.reduceToInt, Int64.reduceToInt, Int32.reduceToNatClampNeg, true_or, or_true, true_and, and_true] at *) <;> (simp (disch := ((try simp (disch := ((try simp (disch := ((try simp only [Int32.reduceToInt]) <;> omega)) only [t_add, t_sub, t_mul, Int32.reduceToInt]) <;> omega)) only [t_add, t_sub, t_mul, Int32.reduceToInt]) <;> omega)) only [t_add, t_sub, t_mul, Int32.reduceToInt]) <;> omega)) (t_m1 c2 hm)
        · refine t_ite (fun c9 => ?_) (fun c9 => ?_)
          · unfold wX11_asksNext_j84
            unfold wX11_asksNext_j90
            exact ih a4 (t_n1 c2 hi) (by first | decide | ((try simp only [q1.1, q1.2.2.2.2, w1, p1, q5.1, q5.2.2.2.2, w5, p5, Int32.lt_iff_toInt_lt, Int32.le_iff_toInt_le, ← Int32.toInt_inj, Int32.toInt_toInt64, t_neg1, Int32.reduceToInt, Int64.reduceToInt, Int32.reduceToNatClampNeg, true_or, or_true, true_and, and_true] at *) <;> omega) | ((try simp only [q1.1, q1.2.2.2.2, w1, p1, q5.1, q5.2.2.2.2, w5, p5, Int32.lt_iff_toInt_lt, Int32.le_iff_toInt_le, ← Int32.toInt_inj, Int32.toInt_toInt64, t_neg1, Int32.reduceToInt, Int64.reduceToInt, Int32.reduceToNatClampNeg, true_or, or_true, true_and, and_true] at *) <;> (simp (disch := ((try simp (disch := ((try simp (disch := ((try simp only [Int32.reduceToInt]) <;> omega)) only [t_add, t_sub, t_mul, Int32.reduceToInt]) <;> omega)) only [t_add, t_sub, t_mul, Int32.reduceToInt]) <;> omega)) only [t_add, t_sub, t_mul, Int32.reduceToInt]) <;> omega)) (t_m1 c2 hm)
          · unfold wX11_asksNext_j90
            exact ih a4 (t_n1 c2 hi) (by first | decide | ((try simp only [q1.1, q1.2.2.2.2, w1, p1, q5.1, q5.2.2.2.2, w5, p5, Int32.lt_iff_toInt_lt, Int32.le_iff_toInt_le, ← Int32.toInt_inj, Int32.toInt_toInt64, t_neg1, Int32.reduceToInt, Int64.reduceToInt, Int32.reduceToNatClampNeg, true_or, or_true, true_and, and_true] at *) <;> omega) | ((try simp only [q1.1, q1.2.2.2.2, w1, p1, q5.1, q5.2.2.2.2, w5, p5, Int32.lt_iff_toInt_lt, Int32.le_iff_toInt_le, ← Int32.toInt_inj, Int32.toInt_toInt64, t_neg1, Int32.reduceToInt, Int64.reduceToInt, Int32.reduceToNatClampNeg, true_or, or_true, true_and, and_true] at *) <;> (simp (disch := ((try simp (disch := ((try simp (disch := ((try simp only [Int32.reduceToInt]) <;> omega)) only [t_add, t_sub, t_mul, Int32.reduceToInt]) <;> omega)) only [t_add, t_sub, t_mul, Int32.reduceToInt]) <;> omega)) only [t_add, t_sub, t_mul, Int32.reduceToInt]) <;> omega)) (t_m1 c2 hm)
      · unfold wX11_asksNext_j68
        refine t_ite (fun c10 => ?_) (fun c10 => ?_)
        · unfold wX11_asksNext_j84
          unfold wX11_asksNext_j90
          exact ih a4 (t_n1 c2 hi) (by first | decide | ((try simp only [q1.1, q1.2.2.2.2, w1, p1, q5.1, q5.2.2.2.2, w5, p5, Int32.lt_iff_toInt_lt, Int32.le_iff_toInt_le, ← Int32.toInt_inj, Int32.toInt_toInt64, t_neg1, Int32.reduceToInt, Int64.reduceToInt, Int32.reduceToNatClampNeg, true_or, or_true, true_and, and_true] at *) <;> omega) | ((try simp only [q1.1, q1.2.2.2.2, w1, p1, q5.1, q5.2.2.2.2, w5, p5, Int32.lt_iff_toInt_lt, Int32.le_iff_toInt_le, ← Int32.toInt_inj, Int32.toInt_toInt64, t_neg1, Int32.reduceToInt, Int64.reduceToInt, Int32.reduceToNatClampNeg, true_or, or_true, true_and, and_true] at *) <;> (simp (disch := ((try simp (disch := ((try simp (disch := ((try simp only [Int32.reduceToInt]) <;> omega)) only [t_add, t_sub, t_mul, Int32.reduceToInt]) <;> omega)) only [t_add, t_sub, t_mul, Int32.reduceToInt]) <;> omega)) only [t_add, t_sub, t_mul, Int32.reduceToInt]) <;> omega)) (t_m1 c2 hm)
        · refine t_ite (fun c11 => ?_) (fun c11 => ?_)
          · unfold wX11_asksNext_j84
            unfold wX11_asksNext_j90
            exact ih a4 (t_n1 c2 hi) (by first | decide | ((try simp only [q1.1, q1.2.2.2.2, w1, p1, q5.1, q5.2.2.2.2, w5, p5, Int32.lt_iff_toInt_lt, Int32.le_iff_toInt_le, ← Int32.toInt_inj, Int32.toInt_toInt64, t_neg1, Int32.reduceToInt, Int64.reduceToInt, Int32.reduceToNatClampNeg, true_or, or_true, true_and, and_true] at *) <;> omega) | ((try simp only [q1.1, q1.2.2.2.2, w1, p1, q5.1, q5.2.2.2.2, w5, p5, Int32.lt_iff_toInt_lt, Int32.le_iff_toInt_le, ← Int32.toInt_inj, Int32.toInt_toInt64, t_neg1, Int32.reduceToInt, Int64.reduceToInt, Int32.reduceToNatClampNeg, true_or, or_true, true_and, and_true] at *) <;> (simp (disch := ((try simp (disch := ((try simp (disch := ((try simp only [Int32.reduceToInt]) <;> omega)) only [t_add, t_sub, t_mul, Int32.reduceToInt]) <;> omega)) only [t_add, t_sub, t_mul, Int32.reduceToInt]) <;> omega)) only [t_add, t_sub, t_mul, Int32.reduceToInt]) <;> omega)) (t_m1 c2 hm)
          · unfold wX11_asksNext_j90
            exact ih a4 (t_n1 c2 hi) (by first | decide | ((try simp only [q1.1, q1.2.2.2.2, w1, p1, q5.1, q5.2.2.2.2, w5, p5, Int32.lt_iff_toInt_lt, Int32.le_iff_toInt_le, ← Int32.toInt_inj, Int32.toInt_toInt64, t_neg1, Int32.reduceToInt, Int64.reduceToInt, Int32.reduceToNatClampNeg, true_or, or_true, true_and, and_true] at *) <;> omega) | ((try simp only [q1.1, q1.2.2.2.2, w1, p1, q5.1, q5.2.2.2.2, w5, p5, Int32.lt_iff_toInt_lt, Int32.le_iff_toInt_le, ← Int32.toInt_inj, Int32.toInt_toInt64, t_neg1, Int32.reduceToInt, Int64.reduceToInt, Int32.reduceToNatClampNeg, true_or, or_true, true_and, and_true] at *) <;> (simp (disch := ((try simp (disch := ((try simp (disch := ((try simp only [Int32.reduceToInt]) <;> omega)) only [t_add, t_sub, t_mul, Int32.reduceToInt]) <;> omega)) only [t_add, t_sub, t_mul, Int32.reduceToInt]) <;> omega)) only [t_add, t_sub, t_mul, Int32.reduceToInt]) <;> omega)) (t_m1 c2 hm)
    · exact t_some ⟨ha, (by first | decide | ((try simp only [q1.1, q1.2.2.2.2, w1, p1, Int32.lt_iff_toInt_lt, Int32.le_iff_toInt_le, ← Int32.toInt_inj, Int32.toInt_toInt64, t_neg1, Int32.reduceToInt, Int64.reduceToInt, Int32.reduceToNatClampNeg, true_or, or_true, true_and, and_true] at *) <;> omega) | ((try simp only [q1.1, q1.2.2.2.2, w1, p1, Int32.lt_iff_toInt_lt, Int32.le_iff_toInt_le, ← Int32.toInt_inj, Int32.toInt_toInt64, t_neg1, Int32.reduceToInt, Int64.reduceToInt, Int32.reduceToNatClampNeg, true_or, or_true, true_and, and_true] at *) <;> (simp (disch := ((try simp (disch := ((try simp (disch := ((try simp only [Int32.reduceToInt]) <;> omega)) only [t_add, t_sub, t_mul, Int32.reduceToInt]) <;> omega)) only [t_add, t_sub, t_mul, Int32.reduceToInt]) <;> omega)) only [t_add, t_sub, t_mul, Int32.reduceToInt]) <;> omega))⟩
theorem wX11_asksNext_T {x1 : Int32} {s : wS} (hR : RQ s)  : Tot (wX11_asksNext x1 s) (fun (r : Int32 × wS) => wA bQ s r.2 ∧ PV r.2 ∧ (r.1.toInt < 0 ∨ (0 ≤ r.1.toInt ∧ r.1.toInt < (r.2.1 152 33).toInt))) := by
  unfold wX11_asksNext
  have hb := RQ_b hR
  refine t_bind (wX11_gathers_T hR) (fun s2 h1 => ?_)
  have a2 : wA bQ s s2 := h1.1
  have q3 := sameQ_of a2
  have w3 := wW_same q3.1
  have R3 := RQ_A a2 hR
  have pb4 := (h1.2).1
  refine t_bind (wX11_asksNext_h11_T R3 h1.2 _ wA.refl (by decide) (by first | decide | ((try simp only [q3.1, q3.2.2.2.2, w3, Int32.lt_iff_toInt_lt, Int32.le_iff_toInt_le, ← Int32.toInt_inj, Int32.toInt_toInt64, t_neg1, Int32.reduceToInt, Int64.reduceToInt, Int32.reduceToNatClampNeg, true_or, or_true, true_and, and_true] at *) <;> omega) | ((try simp only [q3.1, q3.2.2.2.2, w3, Int32.lt_iff_toInt_lt, Int32.le_iff_toInt_le, ← Int32.toInt_inj, Int32.toInt_toInt64, t_neg1, Int32.reduceToInt, Int64.reduceToInt, Int32.reduceToNatClampNeg, true_or, or_true, true_and, and_true] at *) <;> (simp (disch := ((try simp (disch := ((try simp (disch := ((try simp only [Int32.reduceToInt]) <;> omega)) only [t_add, t_sub, t_mul, Int32.reduceToInt]) <;> omega)) only [t_add, t_sub, t_mul, Int32.reduceToInt]) <;> omega)) only [t_add, t_sub, t_mul, Int32.reduceToInt]) <;> omega)) t_mi) (fun r6 h5 => ?_)
  obtain ⟨t14, s15⟩ := r6
  dsimp only at h5 ⊢
  have a7 : wA bQ s s15 := a2.trans (h5.1.mono bP_le_bQ)
  have q8 := sameQ_of a7
  have w8 := wW_same q8.1
  have R8 := RQ_A a7 hR
  have p9 := h5.1 152 33 rfl
  refine t_ite (fun c10 => ?_) (fun c10 => ?_)
  · exact t_some ⟨a7, (PV_P h5.1 h1.2), (by first | decide | ((try simp only [q3.1, q3.2.2.2.2, w3, q8.1, q8.2.2.2.2, w8, p9, Int32.lt_iff_toInt_lt, Int32.le_iff_toInt_le, ← Int32.toInt_inj, Int32.toInt_toInt64, t_neg1, Int32.reduceToInt, Int64.reduceToInt, Int32.reduceToNatClampNeg, true_or, or_true, true_and, and_true] at *) <;> omega) | ((try simp only [q3.1, q3.2.2.2.2, w3, q8.1, q8.2.2.2.2, w8, p9, Int32.lt_iff_toInt_lt, Int32.le_iff_toInt_le, ← Int32.toInt_inj, Int32.toInt_toInt64, t_neg1, Int32.reduceToInt, Int64.reduceToInt, Int32.reduceToNatClampNeg, true_or, or_true, true_and, and_true] at *) <;> (simp (disch := ((try simp (disch := ((try simp (disch := ((try simp only [Int32.reduceToInt]) <;> omega)) only [t_add, t_sub, t_mul, Int32.reduceToInt]) <;> omega)) only [t_add, t_sub, t_mul, Int32.reduceToInt]) <;> omega)) only [t_add, t_sub, t_mul, Int32.reduceToInt]) <;> omega))⟩
  · refine t_bind (wX11_asks_T R8 (PV_P h5.1 h1.2) (by first | decide | ((try simp only [q3.1, q3.2.2.2.2, w3, q8.1, q8.2.2.2.2, w8, p9, Int32.lt_iff_toInt_lt, Int32.le_iff_toInt_le, ← Int32.toInt_inj, Int32.toInt_toInt64, t_neg1, Int32.reduceToInt, Int64.reduceToInt, Int32.reduceToNatClampNeg, true_or, or_true, true_and, and_true] at *) <;> omega) | ((try simp only [q3.1, q3.2.2.2.2, w3, q8.1, q8.2.2.2.2, w8, p9, Int32.lt_iff_toInt_lt, Int32.le_iff_toInt_le, ← Int32.toInt_inj, Int32.toInt_toInt64, t_neg1, Int32.reduceToInt, Int64.reduceToInt, Int32.reduceToNatClampNeg, true_or, or_true, true_and, and_true] at *) <;> (simp (disch := ((try simp (disch := ((try simp (disch := ((try simp only [Int32.reduceToInt]) <;> omega)) only [t_add, t_sub, t_mul, Int32.reduceToInt]) <;> omega)) only [t_add, t_sub, t_mul, Int32.reduceToInt]) <;> omega)) only [t_add, t_sub, t_mul, Int32.reduceToInt]) <;> omega)) (by first | decide | ((try simp only [q3.1, q3.2.2.2.2, w3, q8.1, q8.2.2.2.2, w8, p9, Int32.lt_iff_toInt_lt, Int32.le_iff_toInt_le, ← Int32.toInt_inj, Int32.toInt_toInt64, t_neg1, Int32.reduceToInt, Int64.reduceToInt, Int32.reduceToNatClampNeg, true_or, or_true, true_and, and_true] at *) <;> omega) | ((try simp only [q3.1, q3.2.2.2.2, w3, q8.1, q8.2.2.2.2, w8, p9, Int32.lt_iff_toInt_lt, Int32.le_iff_toInt_le, ← Int32.toInt_inj, Int32.toInt_toInt64, t_neg1, Int32.reduceToInt, Int64.reduceToInt, Int32.reduceToNatClampNeg, true_or, or_true, true_and, and_true] at *) <;> (simp (disch := ((try simp (disch := ((try simp (disch := ((try simp only [Int32.reduceToInt]) <;> omega)) only [t_add, t_sub, t_mul, Int32.reduceToInt]) <;> omega)) only [t_add, t_sub, t_mul, Int32.reduceToInt]) <;> omega)) only [t_add, t_sub, t_mul, Int32.reduceToInt]) <;> omega))) (fun s23 h11 => ?_)
    have a12 : wA bQ s s23 := a7.trans (h11.mono bP_le_bQ)
    have q13 := sameQ_of a12
    have w13 := wW_same q13.1
    have R13 := RQ_A a12 hR
    have p14 := h11 152 33 rfl
    exact t_some ⟨a12, (PV_P h11 (PV_P h5.1 h1.2)), (by first | decide | ((try simp only [q3.1, q3.2.2.2.2, w3, q8.1, q8.2.2.2.2, w8, p9, q13.1, q13.2.2.2.2, w13, p14, Int32.lt_iff_toInt_lt, Int32.le_iff_toInt_le, ← Int32.toInt_inj, Int32.toInt_toInt64, t_neg1, Int32.reduceToInt, Int64.reduceToInt, Int32.reduceToNatClampNeg, true_or, or_true, true_and, and_true] at *) <;> omega) | ((try simp only [q3.1, q3.2.2.2.2, w3, q8.1, q8.2.2.2.2, w8, p9, q13.1, q13.2.2.2.2, w13, p14, Int32.lt_iff_toInt_lt, Int32.le_iff_toInt_le, ← Int32.toInt_inj, Int32.toInt_toInt64, t_neg1, Int32.reduceToInt, Int64.reduceToInt, Int32.reduceToNatClampNeg, true_or, or_true, true_and, and_true] at *) <;> (simp (disch := ((try simp (disch := ((try simp (disch := ((try simp only [Int32.reduceToInt]) <;> omega)) only [t_add, t_sub, t_mul, Int32.reduceToInt]) <;> omega)) only [t_add, t_sub, t_mul, Int32.reduceToInt]) <;> omega)) only [t_add, t_sub, t_mul, Int32.reduceToInt]) <;> omega))⟩
theorem wX11_useful_h44_T {x4 : Int32} {s : wS} (hm4 : x4.toInt ≤ 512) : ∀ (n : Nat) {x5 : Int32}, 0 ≤ x5.toInt → x5.toInt ≤ 10 → 10 - x5.toInt < (n : Int) → Tot (wX11_useful_h44 x4 s n x5) (fun _ => True) := by
  intro n
  induction n with
  | zero => intro x5 h0 h1 hm; exfalso; omega
  | succ n ih =>
    intro x5 h0 h1 hm
    rw [wX11_useful_h44]
    refine t_ite (fun _ => t_ite (fun c => ?_) (fun _ => t_some trivial)) (fun _ => t_some trivial)
    have hc := t_lt c
    have hx : x5.toInt < 10 := by
      rcases Int.lt_or_eq_of_le h1 with q | q
      · exact q
      · exfalso
        obtain rfl : x5 = 10 := Int32.toInt_inj.1 q
        rw [show ((1 : Int32) <<< ((10 : Int32) &&& 31)).toInt = 1024 from by decide] at hc
        omega
    have e1 := t_pl (x := x5) (d := 1) (m := 1) rfl (by omega) (by omega) h0 (by omega)
    exact ih (by omega) (by omega) (by omega)
theorem wX11_useful_h74_T {x4 : Int32} {s0 : wS} (hR : RQ s0) (hP : PV s0)  : ∀ (n : Nat) {x5 : Int32} {x6 : Int32} {s : wS}, wA bP s0 s → 0 ≤ x6.toInt → 2147483648 - x6.toInt < (n : Int) → Tot (wX11_useful_h74 x4 n x5 x6 s) (fun (r : Int32 × wS) => wA bP s0 r.2) := by
  intro n
  induction n with
  | zero =>
    intro x5 x6 s ha hi hm
    exact (t_m0 hm).elim
  | succ n ih =>
    intro x5 x6 s ha hi hm
    rw [wX11_useful_h74]
    have hb := RQ_b hR
    have hpb := hP.1
    have q1 := sameP ha
    have w1 := wW_same q1.1
    have R1 := RQ_P ha hR
    have p1 := ha 152 33 rfl
    refine t_ite (fun c2 => ?_) (fun c2 => ?_)
    · refine t_bind (wX11_asks_T R1 (PV_P ha hP) (by first | decide | ((try simp only [q1.1, q1.2.2.2.2, w1, p1, Int32.lt_iff_toInt_lt, Int32.le_iff_toInt_le, ← Int32.toInt_inj, Int32.toInt_toInt64, t_neg1, Int32.reduceToInt, Int64.reduceToInt, Int32.reduceToNatClampNeg, true_or, or_true, true_and, and_true] at *) <;> omega) | ((try simp only [q1.1, q1.2.2.2.2, w1, p1, Int32.lt_iff_toInt_lt, Int32.le_iff_toInt_le, ← Int32.toInt_inj, Int32.toInt_toInt64, t_neg1, Int32.reduceToInt, Int64.reduceToInt, Int32.reduceToNatClampNeg, true_or, or_true, true_and, and_true] at *) <;> (simp (disch := ((try simp (disch := ((try simp (disch := ((try simp only [Int32.reduceToInt]) <;> omega)) only [t_add, t_sub, t_mul, Int32.reduceToInt]) <;> omega)) only [t_add, t_sub, t_mul, Int32.reduceToInt]) <;> omega)) only [t_add, t_sub, t_mul, Int32.reduceToInt]) <;> omega)) (by first | decide | ((try simp only [q1.1, q1.2.2.2.2, w1, p1, Int32.lt_iff_toInt_lt, Int32.le_iff_toInt_le, ← Int32.toInt_inj, Int32.toInt_toInt64, t_neg1, Int32.reduceToInt, Int64.reduceToInt, Int32.reduceToNatClampNeg, true_or, or_true, true_and, and_true] at *) <;> omega) | ((try simp only [q1.1, q1.2.2.2.2, w1, p1, Int32.lt_iff_toInt_lt, Int32.le_iff_toInt_le, ← Int32.toInt_inj, Int32.toInt_toInt64, t_neg1, Int32.reduceToInt, Int64.reduceToInt, Int32.reduceToNatClampNeg, true_or, or_true, true_and, and_true] at *) <;> (simp (disch := ((try simp (disch := ((try simp (disch := ((try simp only [Int32.reduceToInt]) <;> omega)) only [t_add, t_sub, t_mul, Int32.reduceToInt]) <;> omega)) only [t_add, t_sub, t_mul, Int32.reduceToInt]) <;> omega)) only [t_add, t_sub, t_mul, Int32.reduceToInt]) <;> omega))) (fun s28 h3 => ?_)
      have a4 : wA bP s0 s28 := ha.trans h3
      have q5 := sameP a4
      have w5 := wW_same q5.1
      have R5 := RQ_P a4 hR
      have p5 := a4 152 33 rfl
      refine t_bind (wX11_greater_T) (fun t30 h6 => ?_)
      refine t_ite (fun c7 => ?_) (fun c7 => ?_)
      · unfold wX11_useful_j112
        exact ih a4 (t_n1 c2 hi) (t_m1 c2 hm)
      · unfold wX11_useful_j112
        exact ih a4 (t_n1 c2 hi) (t_m1 c2 hm)
    · exact t_some ha
theorem wX11_useful_T {x1 x2 x3 : Int32} {s : wS} (hR : RQ s) : Tot (wX11_useful x1 x2 x3 s) (fun (r : Int32 × wS) => wA bQ s r.2) := by
  unfold wX11_useful
  refine t_bind wX11_canAsk_T (fun t1 h1 => t_ite (fun _ => t_some wA.refl) (fun c1 => ?_))
  have hl : 0 ≤ x1.toInt ∧ x1.toInt < (s.1 152 2).toInt := by
    rcases h1 with h | h
    · exact h.2.2
    · exact absurd h c1
  refine t_bind wX11_isMany_T (fun t4 _ => t_ite (fun _ => t_some wA.refl) (fun _ => ?_))
  refine t_bind wX11_in_T (fun t7 _ => t_ite (fun _ => t_some wA.refl) (fun _ => ?_))
  refine t_bind (wX11_keeps_T hR hl.1 hl.2) (fun r h10 => ?_)
  obtain ⟨t10, s11⟩ := r
  obtain ⟨a, n0, n1⟩ := h10
  dsimp only at a n0 n1 ⊢
  refine t_ite (fun _ => ?_) (fun _ => ?_)
  · exact t_bind (wX11_useful_h44_T n1 _ (by decide) (by decide) (by decide +kernel)) (fun t17 _ => t_some (a.mono bP_le_bQ))
  · refine t_bind (wX11_gathers_T (RQ_P a hR)) (fun s24 h24 => ?_)
    refine t_bind (wX11_useful_h74_T (RQ_A h24.1 (RQ_P a hR)) h24.2 _ wA.refl (by decide) t_mi) (fun r h34 => ?_)
    obtain ⟨t34, s35⟩ := r
    exact t_some (((a.mono bP_le_bQ).trans h24.1).trans (h34.mono bP_le_bQ))
theorem wX11_filled_h80_T {x4 : Int32} {x5 : Int32} {x6 : Int32} {x7 : Int32} {s : wS} (hR : RQ s) (hk : 0 ≤ x4.toInt) (hk2 : x4.toInt ≤ 2) (h6 : 0 ≤ x6.toInt) (h6b : x6.toInt < 8) (h7 : 0 ≤ x7.toInt) (h7b : x7.toInt < 8) : ∀ (n : Nat) {x8 : Int32} {x9 : Int32}, 0 ≤ x9.toInt → 2147483648 - x9.toInt < (n : Int) → Tot (wX11_filled_h80 x4 x5 x6 x7 s n x8 x9) (fun (_ : Int32) => True) := by
  intro n
  induction n with
  | zero =>
    intro x8 x9 hi hm
    exact (t_m0 hm).elim
  | succ n ih =>
    intro x8 x9 hi hm
    rw [wX11_filled_h80]
    have hb := RQ_b hR
    refine t_bind (wX11_worlds_T) (fun t19 h1 => ?_)
    refine t_ite (fun c2 => ?_) (fun c2 => ?_)
    · refine t_ite (fun c3 => ?_) (fun c3 => ?_)
      · exact t_some trivial
      · refine t_ite (fun c4 => ?_) (fun c4 => ?_)
        · refine t_bind (t_ldI (n := 512) (by first | decide | ((try simp only [Int32.lt_iff_toInt_lt, Int32.le_iff_toInt_le, ← Int32.toInt_inj, Int32.toInt_toInt64, t_neg1, Int32.reduceToInt, Int64.reduceToInt, Int32.reduceToNatClampNeg, true_or, or_true, true_and, and_true] at *) <;> omega) | ((try simp only [Int32.lt_iff_toInt_lt, Int32.le_iff_toInt_le, ← Int32.toInt_inj, Int32.toInt_toInt64, t_neg1, Int32.reduceToInt, Int64.reduceToInt, Int32.reduceToNatClampNeg, true_or, or_true, true_and, and_true] at *) <;> (simp (disch := ((try simp (disch := ((try simp (disch := ((try simp only [Int32.reduceToInt]) <;> omega)) only [t_add, t_sub, t_mul, Int32.reduceToInt]) <;> omega)) only [t_add, t_sub, t_mul, Int32.reduceToInt]) <;> omega)) only [t_add, t_sub, t_mul, Int32.reduceToInt]) <;> omega)) (by first | decide | ((try simp only [Int32.lt_iff_toInt_lt, Int32.le_iff_toInt_le, ← Int32.toInt_inj, Int32.toInt_toInt64, t_neg1, Int32.reduceToInt, Int64.reduceToInt, Int32.reduceToNatClampNeg, true_or, or_true, true_and, and_true] at *) <;> omega) | ((try simp only [Int32.lt_iff_toInt_lt, Int32.le_iff_toInt_le, ← Int32.toInt_inj, Int32.toInt_toInt64, t_neg1, Int32.reduceToInt, Int64.reduceToInt, Int32.reduceToNatClampNeg, true_or, or_true, true_and, and_true] at *) <;> (simp (disch := ((try simp (disch := ((try simp (disch := ((try simp only [Int32.reduceToInt]) <;> omega)) only [t_add, t_sub, t_mul, Int32.reduceToInt]) <;> omega)) only [t_add, t_sub, t_mul, Int32.reduceToInt]) <;> omega)) only [t_add, t_sub, t_mul, Int32.reduceToInt]) <;> omega))) (fun t24 h5 => ?_)
          refine t_ite (fun c6 => ?_) (fun c6 => ?_)
          · unfold wX11_filled_j130
            unfold wX11_filled_j131
            exact ih (t_n1 c2 hi) (t_m1 c2 hm)
          · refine t_bind (wX11_isNearer_T hR (by first | decide | ((try simp only [Int32.lt_iff_toInt_lt, Int32.le_iff_toInt_le, ← Int32.toInt_inj, Int32.toInt_toInt64, t_neg1, Int32.reduceToInt, Int64.reduceToInt, Int32.reduceToNatClampNeg, true_or, or_true, true_and, and_true] at *) <;> omega) | ((try simp only [Int32.lt_iff_toInt_lt, Int32.le_iff_toInt_le, ← Int32.toInt_inj, Int32.toInt_toInt64, t_neg1, Int32.reduceToInt, Int64.reduceToInt, Int32.reduceToNatClampNeg, true_or, or_true, true_and, and_true] at *) <;> (simp (disch := ((try simp (disch := ((try simp (disch := ((try simp only [Int32.reduceToInt]) <;> omega)) only [t_add, t_sub, t_mul, Int32.reduceToInt]) <;> omega)) only [t_add, t_sub, t_mul, Int32.reduceToInt]) <;> omega)) only [t_add, t_sub, t_mul, Int32.reduceToInt]) <;> omega)) (by first | decide | ((try simp only [Int32.lt_iff_toInt_lt, Int32.le_iff_toInt_le, ← Int32.toInt_inj, Int32.toInt_toInt64, t_neg1, Int32.reduceToInt, Int64.reduceToInt, Int32.reduceToNatClampNeg, true_or, or_true, true_and, and_true] at *) <;> omega) | ((try simp only [Int32.lt_iff_toInt_lt, Int32.le_iff_toInt_le, ← Int32.toInt_inj, Int32.toInt_toInt64, t_neg1, Int32.reduceToInt, Int64.reduceToInt, Int32.reduceToNatClampNeg, true_or, or_true, true_and, and_true] at *) <;> (simp (disch := ((try simp (disch := ((try simp (disch := ((try simp only [Int32.reduceToInt]) <;> omega)) only [t_add, t_sub, t_mul, Int32.reduceToInt]) <;> omega)) only [t_add, t_sub, t_mul, Int32.reduceToInt]) <;> omega)) only [t_add, t_sub, t_mul, Int32.reduceToInt]) <;> omega)) (by first | decide | ((try simp only [Int32.lt_iff_toInt_lt, Int32.le_iff_toInt_le, ← Int32.toInt_inj, Int32.toInt_toInt64, t_neg1, Int32.reduceToInt, Int64.reduceToInt, Int32.reduceToNatClampNeg, true_or, or_true, true_and, and_true] at *) <;> omega) | ((try simp only [Int32.lt_iff_toInt_lt, Int32.le_iff_toInt_le, ← Int32.toInt_inj, Int32.toInt_toInt64, t_neg1, Int32.reduceToInt, Int64.reduceToInt, Int32.reduceToNatClampNeg, true_or, or_true, true_and, and_true] at *) <;> (simp (disch := ((try simp (disch := ((try simp (disch := ((try simp only [Int32.reduceToInt]) <;> omega)) only [t_add, t_sub, t_mul, Int32.reduceToInt]) <;> omega)) only [t_add, t_sub, t_mul, Int32.reduceToInt]) <;> omega)) only [t_add, t_sub, t_mul, Int32.reduceToInt]) <;> omega)) (by first | decide | ((try simp only [Int32.lt_iff_toInt_lt, Int32.le_iff_toInt_le, ← Int32.toInt_inj, Int32.toInt_toInt64, t_neg1, Int32.reduceToInt, Int64.reduceToInt, Int32.reduceToNatClampNeg, true_or, or_true, true_and, and_true] at *) <;> omega) | ((try simp only [Int32.lt_iff_toInt_lt, Int32.le_iff_toInt_le, ← Int32.toInt_inj, Int32.toInt_toInt64, t_neg1, Int32.reduceToInt, Int64.reduceToInt, Int32.reduceToNatClampNeg, true_or, or_true, true_and, and_true] at *) <;> (simp (disch := ((try simp (disch := ((try simp (disch := ((try simp only [Int32.reduceToInt]) <;> omega)) only [t_add, t_sub, t_mul, Int32.reduceToInt]) <;> omega)) only [t_add, t_sub, t_mul, Int32.reduceToInt]) <;> omega)) only [t_add, t_sub, t_mul, Int32.reduceToInt]) <;> omega)) (by first | decide | ((try simp only [Int32.lt_iff_toInt_lt, Int32.le_iff_toInt_le, ← Int32.toInt_inj, Int32.toInt_toInt64, t_neg1, Int32.reduceToInt, Int64.reduceToInt, Int32.reduceToNatClampNeg, true_or, or_true, true_and, and_true] at *) <;> omega) | ((try simp only [Int32.lt_iff_toInt_lt, Int32.le_iff_toInt_le, ← Int32.toInt_inj, Int32.toInt_toInt64, t_neg1, Int32.reduceToInt, Int64.reduceToInt, Int32.reduceToNatClampNeg, true_or, or_true, true_and, and_true] at *) <;> (simp (disch := ((try simp (disch := ((try simp (disch := ((try simp only [Int32.reduceToInt]) <;> omega)) only [t_add, t_sub, t_mul, Int32.reduceToInt]) <;> omega)) only [t_add, t_sub, t_mul, Int32.reduceToInt]) <;> omega)) only [t_add, t_sub, t_mul, Int32.reduceToInt]) <;> omega)) (by first | decide | ((try simp only [Int32.lt_iff_toInt_lt, Int32.le_iff_toInt_le, ← Int32.toInt_inj, Int32.toInt_toInt64, t_neg1, Int32.reduceToInt, Int64.reduceToInt, Int32.reduceToNatClampNeg, true_or, or_true, true_and, and_true] at *) <;> omega) | ((try simp only [Int32.lt_iff_toInt_lt, Int32.le_iff_toInt_le, ← Int32.toInt_inj, Int32.toInt_toInt64, t_neg1, Int32.reduceToInt, Int64.reduceToInt, Int32.reduceToNatClampNeg, true_or, or_true, true_and, and_true] at *) <;> (simp (disch := ((try simp (disch := ((try simp (disch := ((try simp only [Int32.reduceToInt]) <;> omega)) only [t_add, t_sub, t_mul, Int32.reduceToInt]) <;> omega)) only [t_add, t_sub, t_mul, Int32.reduceToInt]) <;> omega)) only [t_add, t_sub, t_mul, Int32.reduceToInt]) <;> omega)) (by first | decide | ((try simp only [Int32.lt_iff_toInt_lt, Int32.le_iff_toInt_le, ← Int32.toInt_inj, Int32.toInt_toInt64, t_neg1, Int32.reduceToInt, Int64.reduceToInt, Int32.reduceToNatClampNeg, true_or, or_true, true_and, and_true] at *) <;> omega) | ((try simp only [Int32.lt_iff_toInt_lt, Int32.le_iff_toInt_le, ← Int32.toInt_inj, Int32.toInt_toInt64, t_neg1, Int32.reduceToInt, Int64.reduceToInt, Int32.reduceToNatClampNeg, true_or, or_true, true_and, and_true] at *) <;> (simp (disch := ((try simp (disch := ((try simp (disch := ((try simp only [Int32.reduceToInt]) <;> omega)) only [t_add, t_sub, t_mul, Int32.reduceToInt]) <;> omega)) only [t_add, t_sub, t_mul, Int32.reduceToInt]) <;> omega)) only [t_add, t_sub, t_mul, Int32.reduceToInt]) <;> omega)) (by first | decide | ((try simp only [Int32.lt_iff_toInt_lt, Int32.le_iff_toInt_le, ← Int32.toInt_inj, Int32.toInt_toInt64, t_neg1, Int32.reduceToInt, Int64.reduceToInt, Int32.reduceToNatClampNeg, true_or, or_true, true_and, and_true] at *) <;> omega) | ((try simp only [Int32.lt_iff_toInt_lt, Int32.le_iff_toInt_le, ← Int32.toInt_inj, Int32.toInt_toInt64, t_neg1, Int32.reduceToInt, Int64.reduceToInt, Int32.reduceToNatClampNeg, true_or, or_true, true_and, and_true] at *) <;> (simp (disch := ((try simp (disch := ((try simp (disch := ((try simp only [Int32.reduceToInt]) <;> omega)) only [t_add, t_sub, t_mul, Int32.reduceToInt]) <;> omega)) only [t_add, t_sub, t_mul, Int32.reduceToInt]) <;> omega)) only [t_add, t_sub, t_mul, Int32.reduceToInt]) <;> omega))) (fun t26 h7 => ?_)
            refine t_ite (fun c8 => ?_) (fun c8 => ?_)
            · unfold wX11_filled_j130
              unfold wX11_filled_j131
              exact ih (t_n1 c2 hi) (t_m1 c2 hm)
            · unfold wX11_filled_j131
              exact ih (t_n1 c2 hi) (t_m1 c2 hm)
        · exact t_some trivial
    · exact t_some trivial
theorem wX11_filled_h62_T {x4 : Int32} {x6 : Int32} {s : wS} (hR : RQ s) (hk : 0 ≤ x4.toInt) (hk2 : x4.toInt ≤ 2) (h6 : 0 ≤ x6.toInt) (h6b : x6.toInt < 8) : ∀ (n : Nat) {x5 : Int32} {x7 : Int32}, 0 ≤ x7.toInt → 2147483648 - x7.toInt < (n : Int) → Tot (wX11_filled_h62 x4 x6 s n x5 x7) (fun (_ : Int32) => True) := by
  intro n
  induction n with
  | zero =>
    intro x5 x7 hi hm
    exact (t_m0 hm).elim
  | succ n ih =>
    intro x5 x7 hi hm
    rw [wX11_filled_h62]
    have hb := RQ_b hR
    have hkb := RQ_k hR hk hk2
    refine t_bind (t_ldI (n := 262) (by first | decide | ((try simp only [Int32.lt_iff_toInt_lt, Int32.le_iff_toInt_le, ← Int32.toInt_inj, Int32.toInt_toInt64, t_neg1, Int32.reduceToInt, Int64.reduceToInt, Int32.reduceToNatClampNeg, true_or, or_true, true_and, and_true] at *) <;> omega) | ((try simp only [Int32.lt_iff_toInt_lt, Int32.le_iff_toInt_le, ← Int32.toInt_inj, Int32.toInt_toInt64, t_neg1, Int32.reduceToInt, Int64.reduceToInt, Int32.reduceToNatClampNeg, true_or, or_true, true_and, and_true] at *) <;> (simp (disch := ((try simp (disch := ((try simp (disch := ((try simp only [Int32.reduceToInt]) <;> omega)) only [t_add, t_sub, t_mul, Int32.reduceToInt]) <;> omega)) only [t_add, t_sub, t_mul, Int32.reduceToInt]) <;> omega)) only [t_add, t_sub, t_mul, Int32.reduceToInt]) <;> omega)) (by first | decide | ((try simp only [Int32.lt_iff_toInt_lt, Int32.le_iff_toInt_le, ← Int32.toInt_inj, Int32.toInt_toInt64, t_neg1, Int32.reduceToInt, Int64.reduceToInt, Int32.reduceToNatClampNeg, true_or, or_true, true_and, and_true] at *) <;> omega) | ((try simp only [Int32.lt_iff_toInt_lt, Int32.le_iff_toInt_le, ← Int32.toInt_inj, Int32.toInt_toInt64, t_neg1, Int32.reduceToInt, Int64.reduceToInt, Int32.reduceToNatClampNeg, true_or, or_true, true_and, and_true] at *) <;> (simp (disch := ((try simp (disch := ((try simp (disch := ((try simp only [Int32.reduceToInt]) <;> omega)) only [t_add, t_sub, t_mul, Int32.reduceToInt]) <;> omega)) only [t_add, t_sub, t_mul, Int32.reduceToInt]) <;> omega)) only [t_add, t_sub, t_mul, Int32.reduceToInt]) <;> omega))) (fun t17 h1 => ?_)
    refine t_ite (fun c2 => ?_) (fun c2 => ?_)
    · refine t_bind (wX11_filled_h80_T hR (by first | decide | ((try simp only [Int32.lt_iff_toInt_lt, Int32.le_iff_toInt_le, ← Int32.toInt_inj, Int32.toInt_toInt64, t_neg1, Int32.reduceToInt, Int64.reduceToInt, Int32.reduceToNatClampNeg, true_or, or_true, true_and, and_true] at *) <;> omega) | ((try simp only [Int32.lt_iff_toInt_lt, Int32.le_iff_toInt_le, ← Int32.toInt_inj, Int32.toInt_toInt64, t_neg1, Int32.reduceToInt, Int64.reduceToInt, Int32.reduceToNatClampNeg, true_or, or_true, true_and, and_true] at *) <;> (simp (disch := ((try simp (disch := ((try simp (disch := ((try simp only [Int32.reduceToInt]) <;> omega)) only [t_add, t_sub, t_mul, Int32.reduceToInt]) <;> omega)) only [t_add, t_sub, t_mul, Int32.reduceToInt]) <;> omega)) only [t_add, t_sub, t_mul, Int32.reduceToInt]) <;> omega)) (by first | decide | ((try simp only [Int32.lt_iff_toInt_lt, Int32.le_iff_toInt_le, ← Int32.toInt_inj, Int32.toInt_toInt64, t_neg1, Int32.reduceToInt, Int64.reduceToInt, Int32.reduceToNatClampNeg, true_or, or_true, true_and, and_true] at *) <;> omega) | ((try simp only [Int32.lt_iff_toInt_lt, Int32.le_iff_toInt_le, ← Int32.toInt_inj, Int32.toInt_toInt64, t_neg1, Int32.reduceToInt, Int64.reduceToInt, Int32.reduceToNatClampNeg, true_or, or_true, true_and, and_true] at *) <;> (simp (disch := ((try simp (disch := ((try simp (disch := ((try simp only [Int32.reduceToInt]) <;> omega)) only [t_add, t_sub, t_mul, Int32.reduceToInt]) <;> omega)) only [t_add, t_sub, t_mul, Int32.reduceToInt]) <;> omega)) only [t_add, t_sub, t_mul, Int32.reduceToInt]) <;> omega)) (by first | decide | ((try simp only [Int32.lt_iff_toInt_lt, Int32.le_iff_toInt_le, ← Int32.toInt_inj, Int32.toInt_toInt64, t_neg1, Int32.reduceToInt, Int64.reduceToInt, Int32.reduceToNatClampNeg, true_or, or_true, true_and, and_true] at *) <;> omega) | ((try simp only [Int32.lt_iff_toInt_lt, Int32.le_iff_toInt_le, ← Int32.toInt_inj, Int32.toInt_toInt64, t_neg1, Int32.reduceToInt, Int64.reduceToInt, Int32.reduceToNatClampNeg, true_or, or_true, true_and, and_true] at *) <;> (simp (disch := ((try simp (disch := ((try simp (disch := ((try simp only [Int32.reduceToInt]) <;> omega)) only [t_add, t_sub, t_mul, Int32.reduceToInt]) <;> omega)) only [t_add, t_sub, t_mul, Int32.reduceToInt]) <;> omega)) only [t_add, t_sub, t_mul, Int32.reduceToInt]) <;> omega)) (by first | decide | ((try simp only [Int32.lt_iff_toInt_lt, Int32.le_iff_toInt_le, ← Int32.toInt_inj, Int32.toInt_toInt64, t_neg1, Int32.reduceToInt, Int64.reduceToInt, Int32.reduceToNatClampNeg, true_or, or_true, true_and, and_true] at *) <;> omega) | ((try simp only [Int32.lt_iff_toInt_lt, Int32.le_iff_toInt_le, ← Int32.toInt_inj, Int32.toInt_toInt64, t_neg1, Int32.reduceToInt, Int64.reduceToInt, Int32.reduceToNatClampNeg, true_or, or_true, true_and, and_true] at *) <;> (simp (disch := ((try simp (disch := ((try simp (disch := ((try simp only [Int32.reduceToInt]) <;> omega)) only [t_add, t_sub, t_mul, Int32.reduceToInt]) <;> omega)) only [t_add, t_sub, t_mul, Int32.reduceToInt]) <;> omega)) only [t_add, t_sub, t_mul, Int32.reduceToInt]) <;> omega)) (by first | decide | ((try simp only [Int32.lt_iff_toInt_lt, Int32.le_iff_toInt_le, ← Int32.toInt_inj, Int32.toInt_toInt64, t_neg1, Int32.reduceToInt, Int64.reduceToInt, Int32.reduceToNatClampNeg, true_or, or_true, true_and, and_true] at *) <;> omega) | ((try simp only [Int32.lt_iff_toInt_lt, Int32.le_iff_toInt_le, ← Int32.toInt_inj, Int32.toInt_toInt64, t_neg1, Int32.reduceToInt, Int64.reduceToInt, Int32.reduceToNatClampNeg, true_or, or_true, true_and, and_true] at *) <;> (simp (disch := ((try simp (disch := ((try simp (disch := ((try simp only [Int32.reduceToInt]) <;> omega)) only [t_add, t_sub, t_mul, Int32.reduceToInt]) <;> omega)) only [t_add, t_sub, t_mul, Int32.reduceToInt]) <;> omega)) only [t_add, t_sub, t_mul, Int32.reduceToInt]) <;> omega)) (by first | decide | ((try simp only [Int32.lt_iff_toInt_lt, Int32.le_iff_toInt_le, ← Int32.toInt_inj, Int32.toInt_toInt64, t_neg1, Int32.reduceToInt, Int64.reduceToInt, Int32.reduceToNatClampNeg, true_or, or_true, true_and, and_true] at *) <;> omega) | ((try simp only [Int32.lt_iff_toInt_lt, Int32.le_iff_toInt_le, ← Int32.toInt_inj, Int32.toInt_toInt64, t_neg1, Int32.reduceToInt, Int64.reduceToInt, Int32.reduceToNatClampNeg, true_or, or_true, true_and, and_true] at *) <;> (simp (disch := ((try simp (disch := ((try simp (disch := ((try simp only [Int32.reduceToInt]) <;> omega)) only [t_add, t_sub, t_mul, Int32.reduceToInt]) <;> omega)) only [t_add, t_sub, t_mul, Int32.reduceToInt]) <;> omega)) only [t_add, t_sub, t_mul, Int32.reduceToInt]) <;> omega)) _ (by decide) t_mi) (fun t30 h3 => ?_)
      unfold wX11_filled_j139
      refine t_ite (fun c4 => ?_) (fun c4 => ?_)
      · unfold wX11_filled_j151
        exact ih (t_n1 c2 hi) (t_m1 c2 hm)
      · unfold wX11_filled_j151
        exact ih (t_n1 c2 hi) (t_m1 c2 hm)
    · exact t_some trivial
theorem wX11_filled_h47_T {x4 : Int32} {s : wS} (hR : RQ s) (hk : 0 ≤ x4.toInt) (hk2 : x4.toInt ≤ 2) : ∀ (n : Nat) {x5 : Int32} {x6 : Int32}, 0 ≤ x6.toInt → 2147483648 - x6.toInt < (n : Int) → Tot (wX11_filled_h47 x4 s n x5 x6) (fun (_ : Int32) => True) := by
  intro n
  induction n with
  | zero =>
    intro x5 x6 hi hm
    exact (t_m0 hm).elim
  | succ n ih =>
    intro x5 x6 hi hm
    rw [wX11_filled_h47]
    have hb := RQ_b hR
    have hkb := RQ_k hR hk hk2
    refine t_bind (t_ldI (n := 262) (by first | decide | ((try simp only [Int32.lt_iff_toInt_lt, Int32.le_iff_toInt_le, ← Int32.toInt_inj, Int32.toInt_toInt64, t_neg1, Int32.reduceToInt, Int64.reduceToInt, Int32.reduceToNatClampNeg, true_or, or_true, true_and, and_true] at *) <;> omega) | ((try simp only [Int32.lt_iff_toInt_lt, Int32.le_iff_toInt_le, ← Int32.toInt_inj, Int32.toInt_toInt64, t_neg1, Int32.reduceToInt, Int64.reduceToInt, Int32.reduceToNatClampNeg, true_or, or_true, true_and, and_true] at *) <;> (simp (disch := ((try simp (disch := ((try simp (disch := ((try simp only [Int32.reduceToInt]) <;> omega)) only [t_add, t_sub, t_mul, Int32.reduceToInt]) <;> omega)) only [t_add, t_sub, t_mul, Int32.reduceToInt]) <;> omega)) only [t_add, t_sub, t_mul, Int32.reduceToInt]) <;> omega)) (by first | decide | ((try simp only [Int32.lt_iff_toInt_lt, Int32.le_iff_toInt_le, ← Int32.toInt_inj, Int32.toInt_toInt64, t_neg1, Int32.reduceToInt, Int64.reduceToInt, Int32.reduceToNatClampNeg, true_or, or_true, true_and, and_true] at *) <;> omega) | ((try simp only [Int32.lt_iff_toInt_lt, Int32.le_iff_toInt_le, ← Int32.toInt_inj, Int32.toInt_toInt64, t_neg1, Int32.reduceToInt, Int64.reduceToInt, Int32.reduceToNatClampNeg, true_or, or_true, true_and, and_true] at *) <;> (simp (disch := ((try simp (disch := ((try simp (disch := ((try simp only [Int32.reduceToInt]) <;> omega)) only [t_add, t_sub, t_mul, Int32.reduceToInt]) <;> omega)) only [t_add, t_sub, t_mul, Int32.reduceToInt]) <;> omega)) only [t_add, t_sub, t_mul, Int32.reduceToInt]) <;> omega))) (fun t15 h1 => ?_)
    refine t_ite (fun c2 => ?_) (fun c2 => ?_)
    · refine t_bind (wX11_filled_h62_T hR (by first | decide | ((try simp only [Int32.lt_iff_toInt_lt, Int32.le_iff_toInt_le, ← Int32.toInt_inj, Int32.toInt_toInt64, t_neg1, Int32.reduceToInt, Int64.reduceToInt, Int32.reduceToNatClampNeg, true_or, or_true, true_and, and_true] at *) <;> omega) | ((try simp only [Int32.lt_iff_toInt_lt, Int32.le_iff_toInt_le, ← Int32.toInt_inj, Int32.toInt_toInt64, t_neg1, Int32.reduceToInt, Int64.reduceToInt, Int32.reduceToNatClampNeg, true_or, or_true, true_and, and_true] at *) <;> (simp (disch := ((try simp (disch := ((try simp (disch := ((try simp only [Int32.reduceToInt]) <;> omega)) only [t_add, t_sub, t_mul, Int32.reduceToInt]) <;> omega)) only [t_add, t_sub, t_mul, Int32.reduceToInt]) <;> omega)) only [t_add, t_sub, t_mul, Int32.reduceToInt]) <;> omega)) (by first | decide | ((try simp only [Int32.lt_iff_toInt_lt, Int32.le_iff_toInt_le, ← Int32.toInt_inj, Int32.toInt_toInt64, t_neg1, Int32.reduceToInt, Int64.reduceToInt, Int32.reduceToNatClampNeg, true_or, or_true, true_and, and_true] at *) <;> omega) | ((try simp only [Int32.lt_iff_toInt_lt, Int32.le_iff_toInt_le, ← Int32.toInt_inj, Int32.toInt_toInt64, t_neg1, Int32.reduceToInt, Int64.reduceToInt, Int32.reduceToNatClampNeg, true_or, or_true, true_and, and_true] at *) <;> (simp (disch := ((try simp (disch := ((try simp (disch := ((try simp only [Int32.reduceToInt]) <;> omega)) only [t_add, t_sub, t_mul, Int32.reduceToInt]) <;> omega)) only [t_add, t_sub, t_mul, Int32.reduceToInt]) <;> omega)) only [t_add, t_sub, t_mul, Int32.reduceToInt]) <;> omega)) (by first | decide | ((try simp only [Int32.lt_iff_toInt_lt, Int32.le_iff_toInt_le, ← Int32.toInt_inj, Int32.toInt_toInt64, t_neg1, Int32.reduceToInt, Int64.reduceToInt, Int32.reduceToNatClampNeg, true_or, or_true, true_and, and_true] at *) <;> omega) | ((try simp only [Int32.lt_iff_toInt_lt, Int32.le_iff_toInt_le, ← Int32.toInt_inj, Int32.toInt_toInt64, t_neg1, Int32.reduceToInt, Int64.reduceToInt, Int32.reduceToNatClampNeg, true_or, or_true, true_and, and_true] at *) <;> (simp (disch := ((try simp (disch := ((try simp (disch := ((try simp only [Int32.reduceToInt]) <;> omega)) only [t_add, t_sub, t_mul, Int32.reduceToInt]) <;> omega)) only [t_add, t_sub, t_mul, Int32.reduceToInt]) <;> omega)) only [t_add, t_sub, t_mul, Int32.reduceToInt]) <;> omega)) (by first | decide | ((try simp only [Int32.lt_iff_toInt_lt, Int32.le_iff_toInt_le, ← Int32.toInt_inj, Int32.toInt_toInt64, t_neg1, Int32.reduceToInt, Int64.reduceToInt, Int32.reduceToNatClampNeg, true_or, or_true, true_and, and_true] at *) <;> omega) | ((try simp only [Int32.lt_iff_toInt_lt, Int32.le_iff_toInt_le, ← Int32.toInt_inj, Int32.toInt_toInt64, t_neg1, Int32.reduceToInt, Int64.reduceToInt, Int32.reduceToNatClampNeg, true_or, or_true, true_and, and_true] at *) <;> (simp (disch := ((try simp (disch := ((try simp (disch := ((try simp only [Int32.reduceToInt]) <;> omega)) only [t_add, t_sub, t_mul, Int32.reduceToInt]) <;> omega)) only [t_add, t_sub, t_mul, Int32.reduceToInt]) <;> omega)) only [t_add, t_sub, t_mul, Int32.reduceToInt]) <;> omega)) _ (by decide) t_mi) (fun t37 h3 => ?_)
      exact ih (t_n1 c2 hi) (t_m1 c2 hm)
    · exact t_some trivial
theorem wX11_filled_T {x1 x2 x3 : Int32} {s : wS} (hR : RQ s) : Tot (wX11_filled x1 x2 x3 s) (fun (r : Int32 × wS) => wA bP s r.2) := by
  unfold wX11_filled
  refine t_bind wX11_canAsk_T (fun t1 h1 => t_ite (fun _ => t_some wA.refl) (fun c1 => ?_))
  have hl : 0 ≤ x1.toInt ∧ x1.toInt < (s.1 152 2).toInt := by
    rcases h1 with h | h
    · exact h.2.2
    · exact absurd h c1
  refine t_bind wX11_isMany_T (fun t4 _ => t_ite (fun _ => t_some wA.refl) (fun _ => ?_))
  refine t_bind wX11_isAnswer_T (fun t7 h7 => t_ite (fun _ => t_some wA.refl) (fun c7 => ?_))
  have ha : 0 ≤ x3.toInt ∧ x3.toInt < (s.1 163 3).toInt := by
    rcases h7 with h | h
    · exact h.2
    · exact absurd h c7
  refine t_bind (wX11_keeps_T hR hl.1 hl.2) (fun r h10 => ?_)
  obtain ⟨t10, s11⟩ := r
  have a := h10.1
  dsimp only at a ⊢
  have hR1 := RQ_P a hR
  have hb := RQ_b hR
  have q := sameP a
  have hA := hR1.1.2.2.2.2.2.2.1 x3.toNatClampNeg (by rw [q.1]; unfold Int32.toNatClampNeg; omega)
  refine t_bind (wX11_answerOf_T ha.1 (by omega) (by decide) (by decide)) (fun t13 h13 => ?_)
  have q1 : (42 + 5 * x3.toNatClampNeg + (1 : Int32).toNatClampNeg) = 43 + 5 * x3.toNatClampNeg := by rw [show (1 : Int32).toNatClampNeg = 1 from rfl]; omega
  rw [q1] at h13
  have hk := hA.1
  rw [← h13] at hk
  exact t_bind (wX11_filled_h47_T hR1 hk.1 hk.2 _ (by decide) t_mi) (fun t45 _ => t_some a)
theorem wX11_next_j59_T {x4 : Int32} {y1 : Int32} {s : wS} (hR : RQ s) (h4 : 0 ≤ x4.toInt) : Tot (wX11_next_j59 x4 y1 s) (fun (r : Int32 × wS) => wA bQ s r.2) := by
  unfold wX11_next_j59
  have hb := RQ_b hR
  refine t_bind (wX11_asksNext_T hR) (fun r2 h1 => ?_)
  obtain ⟨t17, s18⟩ := r2
  dsimp only at h1 ⊢
  have a3 : wA bQ s s18 := h1.1
  have q4 := sameQ_of a3
  have w4 := wW_same q4.1
  have R4 := RQ_A a3 hR
  have pb5 := (h1.2.1).1
  refine t_ite (fun c6 => ?_) (fun c6 => ?_)
  · exact t_some a3
  · refine t_ite (fun c7 => ?_) (fun c7 => ?_)
    · refine t_bind (t_ldI (n := 252) (by first | decide | ((try simp only [q4.1, q4.2.2.2.2, w4, Int32.lt_iff_toInt_lt, Int32.le_iff_toInt_le, ← Int32.toInt_inj, Int32.toInt_toInt64, t_neg1, Int32.reduceToInt, Int64.reduceToInt, Int32.reduceToNatClampNeg, true_or, or_true, true_and, and_true] at *) <;> omega) | ((try simp only [q4.1, q4.2.2.2.2, w4, Int32.lt_iff_toInt_lt, Int32.le_iff_toInt_le, ← Int32.toInt_inj, Int32.toInt_toInt64, t_neg1, Int32.reduceToInt, Int64.reduceToInt, Int32.reduceToNatClampNeg, true_or, or_true, true_and, and_true] at *) <;> (simp (disch := ((try simp (disch := ((try simp (disch := ((try simp only [Int32.reduceToInt]) <;> omega)) only [t_add, t_sub, t_mul, Int32.reduceToInt]) <;> omega)) only [t_add, t_sub, t_mul, Int32.reduceToInt]) <;> omega)) only [t_add, t_sub, t_mul, Int32.reduceToInt]) <;> omega)) (by first | decide | ((try simp only [q4.1, q4.2.2.2.2, w4, Int32.lt_iff_toInt_lt, Int32.le_iff_toInt_le, ← Int32.toInt_inj, Int32.toInt_toInt64, t_neg1, Int32.reduceToInt, Int64.reduceToInt, Int32.reduceToNatClampNeg, true_or, or_true, true_and, and_true] at *) <;> omega) | ((try simp only [q4.1, q4.2.2.2.2, w4, Int32.lt_iff_toInt_lt, Int32.le_iff_toInt_le, ← Int32.toInt_inj, Int32.toInt_toInt64, t_neg1, Int32.reduceToInt, Int64.reduceToInt, Int32.reduceToNatClampNeg, true_or, or_true, true_and, and_true] at *) <;> (simp (disch := ((try simp (disch := ((try simp (disch := ((try simp only [Int32.reduceToInt]) <;> omega)) only [t_add, t_sub, t_mul, Int32.reduceToInt]) <;> omega)) only [t_add, t_sub, t_mul, Int32.reduceToInt]) <;> omega)) only [t_add, t_sub, t_mul, Int32.reduceToInt]) <;> omega))) (fun t22 h8 => ?_)
      exact t_some a3
    · refine t_bind (wX11_greater_T) (fun t23 h9 => ?_)
      refine t_ite (fun c10 => ?_) (fun c10 => ?_)
      · exact t_some a3
      · exact t_some a3
theorem wX11_next_T {x1 : Int32} {x2 : Int32} {x3 : Int32} {x4 : Int32} {s : wS} (hR : RQ s)  : Tot (wX11_next x1 x2 x3 x4 s) (fun (r : Int32 × wS) => wA bQ s r.2) := by
  unfold wX11_next
  have hb := RQ_b hR
  refine t_bind (wX11_canAsk_T) (fun t1 h1 => ?_)
  refine t_ite (fun c2 => ?_) (fun c2 => ?_)
  · exact t_some wA.refl
  · refine t_bind (wX11_isMany_T) (fun t4 h3 => ?_)
    refine t_ite (fun c4 => ?_) (fun c4 => ?_)
    · exact t_some wA.refl
    · refine t_bind (wX11_in_T) (fun t7 h5 => ?_)
      refine t_ite (fun c6 => ?_) (fun c6 => ?_)
      · exact t_some wA.refl
      · refine t_bind (wX11_in_T) (fun t10 h7 => ?_)
        refine t_ite (fun c8 => ?_) (fun c8 => ?_)
        · exact t_some wA.refl
        · refine t_bind (wX11_keeps_T hR (by first | decide | ((try simp only [Int32.lt_iff_toInt_lt, Int32.le_iff_toInt_le, ← Int32.toInt_inj, Int32.toInt_toInt64, t_neg1, Int32.reduceToInt, Int64.reduceToInt, Int32.reduceToNatClampNeg, true_or, or_true, true_and, and_true] at *) <;> omega) | ((try simp only [Int32.lt_iff_toInt_lt, Int32.le_iff_toInt_le, ← Int32.toInt_inj, Int32.toInt_toInt64, t_neg1, Int32.reduceToInt, Int64.reduceToInt, Int32.reduceToNatClampNeg, true_or, or_true, true_and, and_true] at *) <;> (simp (disch := ((try simp (disch := ((try simp (disch := ((try simp only [Int32.reduceToInt]) <;> omega)) only [t_add, t_sub, t_mul, Int32.reduceToInt]) <;> omega)) only [t_add, t_sub, t_mul, Int32.reduceToInt]) <;> omega)) only [t_add, t_sub, t_mul, Int32.reduceToInt]) <;> omega)) (by first | decide | ((try simp only [Int32.lt_iff_toInt_lt, Int32.le_iff_toInt_le, ← Int32.toInt_inj, Int32.toInt_toInt64, t_neg1, Int32.reduceToInt, Int64.reduceToInt, Int32.reduceToNatClampNeg, true_or, or_true, true_and, and_true] at *) <;> omega) | ((try simp only [Int32.lt_iff_toInt_lt, Int32.le_iff_toInt_le, ← Int32.toInt_inj, Int32.toInt_toInt64, t_neg1, Int32.reduceToInt, Int64.reduceToInt, Int32.reduceToNatClampNeg, true_or, or_true, true_and, and_true] at *) <;> (simp (disch := ((try simp (disch := ((try simp (disch := ((try simp only [Int32.reduceToInt]) <;> omega)) only [t_add, t_sub, t_mul, Int32.reduceToInt]) <;> omega)) only [t_add, t_sub, t_mul, Int32.reduceToInt]) <;> omega)) only [t_add, t_sub, t_mul, Int32.reduceToInt]) <;> omega))) (fun r10 h9 => ?_)
          obtain ⟨t13, s14⟩ := r10
          dsimp only at h9 ⊢
          have a11 : wA bQ s s14 := (h9.1.mono bP_le_bQ)
          have q12 := sameQ_of a11
          have w12 := wW_same q12.1
          have R12 := RQ_A a11 hR
          have p13 := h9.1 152 33 rfl
          refine t_ite (fun c14 => ?_) (fun c14 => ?_)
          · exact t_mono (wX11_next_j59_T R12 (by first | decide | ((try simp only [q12.1, q12.2.2.2.2, w12, p13, Int32.lt_iff_toInt_lt, Int32.le_iff_toInt_le, ← Int32.toInt_inj, Int32.toInt_toInt64, t_neg1, Int32.reduceToInt, Int64.reduceToInt, Int32.reduceToNatClampNeg, true_or, or_true, true_and, and_true] at *) <;> omega) | ((try simp only [q12.1, q12.2.2.2.2, w12, p13, Int32.lt_iff_toInt_lt, Int32.le_iff_toInt_le, ← Int32.toInt_inj, Int32.toInt_toInt64, t_neg1, Int32.reduceToInt, Int64.reduceToInt, Int32.reduceToNatClampNeg, true_or, or_true, true_and, and_true] at *) <;> (simp (disch := ((try simp (disch := ((try simp (disch := ((try simp only [Int32.reduceToInt]) <;> omega)) only [t_add, t_sub, t_mul, Int32.reduceToInt]) <;> omega)) only [t_add, t_sub, t_mul, Int32.reduceToInt]) <;> omega)) only [t_add, t_sub, t_mul, Int32.reduceToInt]) <;> omega))) (fun r h => a11.trans h)
          · exact t_mono (wX11_next_j59_T R12 (by first | decide | ((try simp only [q12.1, q12.2.2.2.2, w12, p13, Int32.lt_iff_toInt_lt, Int32.le_iff_toInt_le, ← Int32.toInt_inj, Int32.toInt_toInt64, t_neg1, Int32.reduceToInt, Int64.reduceToInt, Int32.reduceToNatClampNeg, true_or, or_true, true_and, and_true] at *) <;> omega) | ((try simp only [q12.1, q12.2.2.2.2, w12, p13, Int32.lt_iff_toInt_lt, Int32.le_iff_toInt_le, ← Int32.toInt_inj, Int32.toInt_toInt64, t_neg1, Int32.reduceToInt, Int64.reduceToInt, Int32.reduceToNatClampNeg, true_or, or_true, true_and, and_true] at *) <;> (simp (disch := ((try simp (disch := ((try simp (disch := ((try simp only [Int32.reduceToInt]) <;> omega)) only [t_add, t_sub, t_mul, Int32.reduceToInt]) <;> omega)) only [t_add, t_sub, t_mul, Int32.reduceToInt]) <;> omega)) only [t_add, t_sub, t_mul, Int32.reduceToInt]) <;> omega))) (fun r h => a11.trans h)
theorem wX11_isOne_T {x1 : Int64} {s : wS}  : Tot (wX11_isOne x1 s) (fun (_ : Int32) => True) := by
  unfold wX11_isOne
  refine t_ite (fun c1 => ?_) (fun c1 => ?_)
  · exact t_some trivial
  · exact t_some trivial
theorem wX11_doesOne_h12_T {x1 : Int64} {s : wS} (hR : RQ s) (hP : PV s)  : ∀ (n : Nat) {x3 : Int32}, 0 ≤ x3.toInt → 2147483648 - x3.toInt < (n : Int) → Tot (wX11_doesOne_h12 x1 s n x3) (fun (_ : (Unit) ⊕ (Unit)) => True) := by
  intro n
  induction n with
  | zero =>
    intro x3 hi hm
    exact (t_m0 hm).elim
  | succ n ih =>
    intro x3 hi hm
    rw [wX11_doesOne_h12]
    have hb := RQ_b hR
    have hpb := hP.1
    refine t_ite (fun c1 => ?_) (fun c1 => ?_)
    · refine t_bind (t_ldL (n := 168) (by first | decide | ((try simp only [Int32.lt_iff_toInt_lt, Int32.le_iff_toInt_le, ← Int32.toInt_inj, Int32.toInt_toInt64, t_neg1, Int32.reduceToInt, Int64.reduceToInt, Int32.reduceToNatClampNeg, true_or, or_true, true_and, and_true] at *) <;> omega) | ((try simp only [Int32.lt_iff_toInt_lt, Int32.le_iff_toInt_le, ← Int32.toInt_inj, Int32.toInt_toInt64, t_neg1, Int32.reduceToInt, Int64.reduceToInt, Int32.reduceToNatClampNeg, true_or, or_true, true_and, and_true] at *) <;> (simp (disch := ((try simp (disch := ((try simp (disch := ((try simp only [Int32.reduceToInt]) <;> omega)) only [t_add, t_sub, t_mul, Int32.reduceToInt]) <;> omega)) only [t_add, t_sub, t_mul, Int32.reduceToInt]) <;> omega)) only [t_add, t_sub, t_mul, Int32.reduceToInt]) <;> omega)) (by first | decide | ((try simp only [Int32.lt_iff_toInt_lt, Int32.le_iff_toInt_le, ← Int32.toInt_inj, Int32.toInt_toInt64, t_neg1, Int32.reduceToInt, Int64.reduceToInt, Int32.reduceToNatClampNeg, true_or, or_true, true_and, and_true] at *) <;> omega) | ((try simp only [Int32.lt_iff_toInt_lt, Int32.le_iff_toInt_le, ← Int32.toInt_inj, Int32.toInt_toInt64, t_neg1, Int32.reduceToInt, Int64.reduceToInt, Int32.reduceToNatClampNeg, true_or, or_true, true_and, and_true] at *) <;> (simp (disch := ((try simp (disch := ((try simp (disch := ((try simp only [Int32.reduceToInt]) <;> omega)) only [t_add, t_sub, t_mul, Int32.reduceToInt]) <;> omega)) only [t_add, t_sub, t_mul, Int32.reduceToInt]) <;> omega)) only [t_add, t_sub, t_mul, Int32.reduceToInt]) <;> omega))) (fun t5 h2 => ?_)
      refine t_bind (wX11_isOne_T) (fun t6 h3 => ?_)
      refine t_ite (fun c4 => ?_) (fun c4 => ?_)
      · unfold wX11_doesOne_j58
        exact ih (t_n1 c1 hi) (t_m1 c1 hm)
      · refine t_bind (t_ldL (n := 168) (by first | decide | ((try simp only [Int32.lt_iff_toInt_lt, Int32.le_iff_toInt_le, ← Int32.toInt_inj, Int32.toInt_toInt64, t_neg1, Int32.reduceToInt, Int64.reduceToInt, Int32.reduceToNatClampNeg, true_or, or_true, true_and, and_true] at *) <;> omega) | ((try simp only [Int32.lt_iff_toInt_lt, Int32.le_iff_toInt_le, ← Int32.toInt_inj, Int32.toInt_toInt64, t_neg1, Int32.reduceToInt, Int64.reduceToInt, Int32.reduceToNatClampNeg, true_or, or_true, true_and, and_true] at *) <;> (simp (disch := ((try simp (disch := ((try simp (disch := ((try simp only [Int32.reduceToInt]) <;> omega)) only [t_add, t_sub, t_mul, Int32.reduceToInt]) <;> omega)) only [t_add, t_sub, t_mul, Int32.reduceToInt]) <;> omega)) only [t_add, t_sub, t_mul, Int32.reduceToInt]) <;> omega)) (by first | decide | ((try simp only [Int32.lt_iff_toInt_lt, Int32.le_iff_toInt_le, ← Int32.toInt_inj, Int32.toInt_toInt64, t_neg1, Int32.reduceToInt, Int64.reduceToInt, Int32.reduceToNatClampNeg, true_or, or_true, true_and, and_true] at *) <;> omega) | ((try simp only [Int32.lt_iff_toInt_lt, Int32.le_iff_toInt_le, ← Int32.toInt_inj, Int32.toInt_toInt64, t_neg1, Int32.reduceToInt, Int64.reduceToInt, Int32.reduceToNatClampNeg, true_or, or_true, true_and, and_true] at *) <;> (simp (disch := ((try simp (disch := ((try simp (disch := ((try simp only [Int32.reduceToInt]) <;> omega)) only [t_add, t_sub, t_mul, Int32.reduceToInt]) <;> omega)) only [t_add, t_sub, t_mul, Int32.reduceToInt]) <;> omega)) only [t_add, t_sub, t_mul, Int32.reduceToInt]) <;> omega))) (fun t9 h5 => ?_)
        refine t_bind (wX11_isOne_T) (fun t10 h6 => ?_)
        refine t_ite (fun c7 => ?_) (fun c7 => ?_)
        · unfold wX11_doesOne_j58
          exact ih (t_n1 c1 hi) (t_m1 c1 hm)
        · exact t_some trivial
    · exact t_some trivial
theorem wX11_doesOne_T {x1 : Int64} {s : wS} (hR : RQ s) (hP : PV s)  : Tot (wX11_doesOne x1 s) (fun (_ : Int32) => True) := by
  unfold wX11_doesOne
  have hb := RQ_b hR
  have hpb := hP.1
  refine t_bind (wX11_isOne_T) (fun t1 h1 => ?_)
  refine t_ite (fun c2 => ?_) (fun c2 => ?_)
  · refine t_bind (wX11_doesOne_h12_T hR hP _ (by decide) t_mi) (fun z13 h3 => ?_)
    rcases z13 with z13 | z13
    · dsimp only
      exact t_some trivial
    · dsimp only
      exact t_some trivial
  · exact t_some trivial
theorem wX11_doesTwo_h12_T {x1 : Int64} {s : wS} (hR : RQ s) (hP : PV s)  : ∀ (n : Nat) {x3 : Int32}, 0 ≤ x3.toInt → 2147483648 - x3.toInt < (n : Int) → Tot (wX11_doesTwo_h12 x1 s n x3) (fun (_ : (Unit) ⊕ (Unit)) => True) := by
  intro n
  induction n with
  | zero =>
    intro x3 hi hm
    exact (t_m0 hm).elim
  | succ n ih =>
    intro x3 hi hm
    rw [wX11_doesTwo_h12]
    have hb := RQ_b hR
    have hpb := hP.1
    refine t_ite (fun c1 => ?_) (fun c1 => ?_)
    · refine t_bind (t_ldL (n := 168) (by first | decide | ((try simp only [Int32.lt_iff_toInt_lt, Int32.le_iff_toInt_le, ← Int32.toInt_inj, Int32.toInt_toInt64, t_neg1, Int32.reduceToInt, Int64.reduceToInt, Int32.reduceToNatClampNeg, true_or, or_true, true_and, and_true] at *) <;> omega) | ((try simp only [Int32.lt_iff_toInt_lt, Int32.le_iff_toInt_le, ← Int32.toInt_inj, Int32.toInt_toInt64, t_neg1, Int32.reduceToInt, Int64.reduceToInt, Int32.reduceToNatClampNeg, true_or, or_true, true_and, and_true] at *) <;> (simp (disch := ((try simp (disch := ((try simp (disch := ((try simp only [Int32.reduceToInt]) <;> omega)) only [t_add, t_sub, t_mul, Int32.reduceToInt]) <;> omega)) only [t_add, t_sub, t_mul, Int32.reduceToInt]) <;> omega)) only [t_add, t_sub, t_mul, Int32.reduceToInt]) <;> omega)) (by first | decide | ((try simp only [Int32.lt_iff_toInt_lt, Int32.le_iff_toInt_le, ← Int32.toInt_inj, Int32.toInt_toInt64, t_neg1, Int32.reduceToInt, Int64.reduceToInt, Int32.reduceToNatClampNeg, true_or, or_true, true_and, and_true] at *) <;> omega) | ((try simp only [Int32.lt_iff_toInt_lt, Int32.le_iff_toInt_le, ← Int32.toInt_inj, Int32.toInt_toInt64, t_neg1, Int32.reduceToInt, Int64.reduceToInt, Int32.reduceToNatClampNeg, true_or, or_true, true_and, and_true] at *) <;> (simp (disch := ((try simp (disch := ((try simp (disch := ((try simp only [Int32.reduceToInt]) <;> omega)) only [t_add, t_sub, t_mul, Int32.reduceToInt]) <;> omega)) only [t_add, t_sub, t_mul, Int32.reduceToInt]) <;> omega)) only [t_add, t_sub, t_mul, Int32.reduceToInt]) <;> omega))) (fun t5 h2 => ?_)
      refine t_bind (wX11_doesOne_T hR hP) (fun t6 h3 => ?_)
      refine t_ite (fun c4 => ?_) (fun c4 => ?_)
      · unfold wX11_doesTwo_j58
        exact ih (t_n1 c1 hi) (t_m1 c1 hm)
      · refine t_bind (t_ldL (n := 168) (by first | decide | ((try simp only [Int32.lt_iff_toInt_lt, Int32.le_iff_toInt_le, ← Int32.toInt_inj, Int32.toInt_toInt64, t_neg1, Int32.reduceToInt, Int64.reduceToInt, Int32.reduceToNatClampNeg, true_or, or_true, true_and, and_true] at *) <;> omega) | ((try simp only [Int32.lt_iff_toInt_lt, Int32.le_iff_toInt_le, ← Int32.toInt_inj, Int32.toInt_toInt64, t_neg1, Int32.reduceToInt, Int64.reduceToInt, Int32.reduceToNatClampNeg, true_or, or_true, true_and, and_true] at *) <;> (simp (disch := ((try simp (disch := ((try simp (disch := ((try simp only [Int32.reduceToInt]) <;> omega)) only [t_add, t_sub, t_mul, Int32.reduceToInt]) <;> omega)) only [t_add, t_sub, t_mul, Int32.reduceToInt]) <;> omega)) only [t_add, t_sub, t_mul, Int32.reduceToInt]) <;> omega)) (by first | decide | ((try simp only [Int32.lt_iff_toInt_lt, Int32.le_iff_toInt_le, ← Int32.toInt_inj, Int32.toInt_toInt64, t_neg1, Int32.reduceToInt, Int64.reduceToInt, Int32.reduceToNatClampNeg, true_or, or_true, true_and, and_true] at *) <;> omega) | ((try simp only [Int32.lt_iff_toInt_lt, Int32.le_iff_toInt_le, ← Int32.toInt_inj, Int32.toInt_toInt64, t_neg1, Int32.reduceToInt, Int64.reduceToInt, Int32.reduceToNatClampNeg, true_or, or_true, true_and, and_true] at *) <;> (simp (disch := ((try simp (disch := ((try simp (disch := ((try simp only [Int32.reduceToInt]) <;> omega)) only [t_add, t_sub, t_mul, Int32.reduceToInt]) <;> omega)) only [t_add, t_sub, t_mul, Int32.reduceToInt]) <;> omega)) only [t_add, t_sub, t_mul, Int32.reduceToInt]) <;> omega))) (fun t9 h5 => ?_)
        refine t_bind (wX11_doesOne_T hR hP) (fun t10 h6 => ?_)
        refine t_ite (fun c7 => ?_) (fun c7 => ?_)
        · unfold wX11_doesTwo_j58
          exact ih (t_n1 c1 hi) (t_m1 c1 hm)
        · exact t_some trivial
    · exact t_some trivial
theorem wX11_doesTwo_T {x1 : Int64} {s : wS} (hR : RQ s) (hP : PV s)  : Tot (wX11_doesTwo x1 s) (fun (_ : Int32) => True) := by
  unfold wX11_doesTwo
  have hb := RQ_b hR
  have hpb := hP.1
  refine t_bind (wX11_isOne_T) (fun t1 h1 => ?_)
  refine t_ite (fun c2 => ?_) (fun c2 => ?_)
  · refine t_bind (wX11_doesTwo_h12_T hR hP _ (by decide) t_mi) (fun z13 h3 => ?_)
    rcases z13 with z13 | z13
    · dsimp only
      exact t_some trivial
    · dsimp only
      exact t_some trivial
  · exact t_some trivial
theorem wX11_doesThree_h2_T {x1 : Int64} {s : wS} (hR : RQ s) (hP : PV s)  : ∀ (n : Nat) {x3 : Int32}, 0 ≤ x3.toInt → 2147483648 - x3.toInt < (n : Int) → Tot (wX11_doesThree_h2 x1 s n x3) (fun (_ : (Unit) ⊕ (Unit)) => True) := by
  intro n
  induction n with
  | zero =>
    intro x3 hi hm
    exact (t_m0 hm).elim
  | succ n ih =>
    intro x3 hi hm
    rw [wX11_doesThree_h2]
    have hb := RQ_b hR
    have hpb := hP.1
    refine t_ite (fun c1 => ?_) (fun c1 => ?_)
    · refine t_bind (t_ldL (n := 168) (by first | decide | ((try simp only [Int32.lt_iff_toInt_lt, Int32.le_iff_toInt_le, ← Int32.toInt_inj, Int32.toInt_toInt64, t_neg1, Int32.reduceToInt, Int64.reduceToInt, Int32.reduceToNatClampNeg, true_or, or_true, true_and, and_true] at *) <;> omega) | ((try simp only [Int32.lt_iff_toInt_lt, Int32.le_iff_toInt_le, ← Int32.toInt_inj, Int32.toInt_toInt64, t_neg1, Int32.reduceToInt, Int64.reduceToInt, Int32.reduceToNatClampNeg, true_or, or_true, true_and, and_true] at *) <;> (simp (disch := ((try simp (disch := ((try simp (disch := ((try simp only [Int32.reduceToInt]) <;> omega)) only [t_add, t_sub, t_mul, Int32.reduceToInt]) <;> omega)) only [t_add, t_sub, t_mul, Int32.reduceToInt]) <;> omega)) only [t_add, t_sub, t_mul, Int32.reduceToInt]) <;> omega)) (by first | decide | ((try simp only [Int32.lt_iff_toInt_lt, Int32.le_iff_toInt_le, ← Int32.toInt_inj, Int32.toInt_toInt64, t_neg1, Int32.reduceToInt, Int64.reduceToInt, Int32.reduceToNatClampNeg, true_or, or_true, true_and, and_true] at *) <;> omega) | ((try simp only [Int32.lt_iff_toInt_lt, Int32.le_iff_toInt_le, ← Int32.toInt_inj, Int32.toInt_toInt64, t_neg1, Int32.reduceToInt, Int64.reduceToInt, Int32.reduceToNatClampNeg, true_or, or_true, true_and, and_true] at *) <;> (simp (disch := ((try simp (disch := ((try simp (disch := ((try simp only [Int32.reduceToInt]) <;> omega)) only [t_add, t_sub, t_mul, Int32.reduceToInt]) <;> omega)) only [t_add, t_sub, t_mul, Int32.reduceToInt]) <;> omega)) only [t_add, t_sub, t_mul, Int32.reduceToInt]) <;> omega))) (fun t2 h2 => ?_)
      refine t_bind (wX11_doesTwo_T hR hP) (fun t3 h3 => ?_)
      refine t_ite (fun c4 => ?_) (fun c4 => ?_)
      · unfold wX11_doesThree_j48
        exact ih (t_n1 c1 hi) (t_m1 c1 hm)
      · refine t_bind (t_ldL (n := 168) (by first | decide | ((try simp only [Int32.lt_iff_toInt_lt, Int32.le_iff_toInt_le, ← Int32.toInt_inj, Int32.toInt_toInt64, t_neg1, Int32.reduceToInt, Int64.reduceToInt, Int32.reduceToNatClampNeg, true_or, or_true, true_and, and_true] at *) <;> omega) | ((try simp only [Int32.lt_iff_toInt_lt, Int32.le_iff_toInt_le, ← Int32.toInt_inj, Int32.toInt_toInt64, t_neg1, Int32.reduceToInt, Int64.reduceToInt, Int32.reduceToNatClampNeg, true_or, or_true, true_and, and_true] at *) <;> (simp (disch := ((try simp (disch := ((try simp (disch := ((try simp only [Int32.reduceToInt]) <;> omega)) only [t_add, t_sub, t_mul, Int32.reduceToInt]) <;> omega)) only [t_add, t_sub, t_mul, Int32.reduceToInt]) <;> omega)) only [t_add, t_sub, t_mul, Int32.reduceToInt]) <;> omega)) (by first | decide | ((try simp only [Int32.lt_iff_toInt_lt, Int32.le_iff_toInt_le, ← Int32.toInt_inj, Int32.toInt_toInt64, t_neg1, Int32.reduceToInt, Int64.reduceToInt, Int32.reduceToNatClampNeg, true_or, or_true, true_and, and_true] at *) <;> omega) | ((try simp only [Int32.lt_iff_toInt_lt, Int32.le_iff_toInt_le, ← Int32.toInt_inj, Int32.toInt_toInt64, t_neg1, Int32.reduceToInt, Int64.reduceToInt, Int32.reduceToNatClampNeg, true_or, or_true, true_and, and_true] at *) <;> (simp (disch := ((try simp (disch := ((try simp (disch := ((try simp only [Int32.reduceToInt]) <;> omega)) only [t_add, t_sub, t_mul, Int32.reduceToInt]) <;> omega)) only [t_add, t_sub, t_mul, Int32.reduceToInt]) <;> omega)) only [t_add, t_sub, t_mul, Int32.reduceToInt]) <;> omega))) (fun t6 h5 => ?_)
        refine t_bind (wX11_doesTwo_T hR hP) (fun t7 h6 => ?_)
        refine t_ite (fun c7 => ?_) (fun c7 => ?_)
        · unfold wX11_doesThree_j48
          exact ih (t_n1 c1 hi) (t_m1 c1 hm)
        · exact t_some trivial
    · exact t_some trivial
theorem wX11_doesThree_T {x1 : Int64} {s : wS} (hR : RQ s) (hP : PV s)  : Tot (wX11_doesThree x1 s) (fun (_ : Int32) => True) := by
  unfold wX11_doesThree
  have hb := RQ_b hR
  have hpb := hP.1
  refine t_bind (wX11_doesThree_h2_T hR hP _ (by decide) t_mi) (fun z10 h1 => ?_)
  rcases z10 with z10 | z10
  · dsimp only
    exact t_some trivial
  · dsimp only
    exact t_some trivial
theorem wX11_needed_h65_T {x3 : Int32} {x4 : Int32} {s0 : wS} (hR : RQ s0) (hP : PV s0) (hp : 0 ≤ x4.toInt) (hp2 : x4.toInt < 2 * (s0.1 152 33).toInt) : ∀ (n : Nat) {x5 : Int32} {x6 : Int32} {s : wS}, wA bP s0 s → 0 ≤ x6.toInt → 2147483648 - x6.toInt < (n : Int) → Tot (wX11_needed_h65 x3 x4 n x5 x6 s) (fun (r : wS) => wA bP s0 r) := by
  intro n
  induction n with
  | zero =>
    intro x5 x6 s ha hi hm
    exact (t_m0 hm).elim
  | succ n ih =>
    intro x5 x6 s ha hi hm
    rw [wX11_needed_h65]
    have hb := RQ_b hR
    have hpb := hP.1
    have hd2 := t_div (x := x4) (y := 2) hp (by decide)
    have hr2 := t_rem (x := x4) (y := 2) hp (by decide)
    have q1 := sameP ha
    have w1 := wW_same q1.1
    have R1 := RQ_P ha hR
    have p1 := ha 152 33 rfl
    refine t_bind (wX11_worlds_T) (fun t16 h2 => ?_)
    refine t_ite (fun c3 => ?_) (fun c3 => ?_)
    · refine t_bind (t_ldI (n := 512) (by first | decide | ((try simp only [q1.1, q1.2.2.2.2, w1, p1, Int32.lt_iff_toInt_lt, Int32.le_iff_toInt_le, ← Int32.toInt_inj, Int32.toInt_toInt64, t_neg1, Int32.reduceToInt, Int64.reduceToInt, Int32.reduceToNatClampNeg, true_or, or_true, true_and, and_true] at *) <;> omega) | ((try simp only [q1.1, q1.2.2.2.2, w1, p1, Int32.lt_iff_toInt_lt, Int32.le_iff_toInt_le, ← Int32.toInt_inj, Int32.toInt_toInt64, t_neg1, Int32.reduceToInt, Int64.reduceToInt, Int32.reduceToNatClampNeg, true_or, or_true, true_and, and_true] at *) <;> (simp (disch := ((try simp (disch := ((try simp (disch := ((try simp only [Int32.reduceToInt]) <;> omega)) only [t_add, t_sub, t_mul, Int32.reduceToInt]) <;> omega)) only [t_add, t_sub, t_mul, Int32.reduceToInt]) <;> omega)) only [t_add, t_sub, t_mul, Int32.reduceToInt]) <;> omega)) (by first | decide | ((try simp only [q1.1, q1.2.2.2.2, w1, p1, Int32.lt_iff_toInt_lt, Int32.le_iff_toInt_le, ← Int32.toInt_inj, Int32.toInt_toInt64, t_neg1, Int32.reduceToInt, Int64.reduceToInt, Int32.reduceToNatClampNeg, true_or, or_true, true_and, and_true] at *) <;> omega) | ((try simp only [q1.1, q1.2.2.2.2, w1, p1, Int32.lt_iff_toInt_lt, Int32.le_iff_toInt_le, ← Int32.toInt_inj, Int32.toInt_toInt64, t_neg1, Int32.reduceToInt, Int64.reduceToInt, Int32.reduceToNatClampNeg, true_or, or_true, true_and, and_true] at *) <;> (simp (disch := ((try simp (disch := ((try simp (disch := ((try simp only [Int32.reduceToInt]) <;> omega)) only [t_add, t_sub, t_mul, Int32.reduceToInt]) <;> omega)) only [t_add, t_sub, t_mul, Int32.reduceToInt]) <;> omega)) only [t_add, t_sub, t_mul, Int32.reduceToInt]) <;> omega))) (fun t19 h4 => ?_)
      refine t_ite (fun c5 => ?_) (fun c5 => ?_)
      · unfold wX11_needed_j125
        exact ih ha (t_n1 c3 hi) (t_m1 c3 hm)
      · refine t_bind (t_ldL (n := 168) (by first | decide | ((try simp only [q1.1, q1.2.2.2.2, w1, p1, Int32.lt_iff_toInt_lt, Int32.le_iff_toInt_le, ← Int32.toInt_inj, Int32.toInt_toInt64, t_neg1, Int32.reduceToInt, Int64.reduceToInt, Int32.reduceToNatClampNeg, true_or, or_true, true_and, and_true] at *) <;> omega) | ((try simp only [q1.1, q1.2.2.2.2, w1, p1, Int32.lt_iff_toInt_lt, Int32.le_iff_toInt_le, ← Int32.toInt_inj, Int32.toInt_toInt64, t_neg1, Int32.reduceToInt, Int64.reduceToInt, Int32.reduceToNatClampNeg, true_or, or_true, true_and, and_true] at *) <;> (simp (disch := ((try simp (disch := ((try simp (disch := ((try simp only [Int32.reduceToInt]) <;> omega)) only [t_add, t_sub, t_mul, Int32.reduceToInt]) <;> omega)) only [t_add, t_sub, t_mul, Int32.reduceToInt]) <;> omega)) only [t_add, t_sub, t_mul, Int32.reduceToInt]) <;> omega)) (by first | decide | ((try simp only [q1.1, q1.2.2.2.2, w1, p1, Int32.lt_iff_toInt_lt, Int32.le_iff_toInt_le, ← Int32.toInt_inj, Int32.toInt_toInt64, t_neg1, Int32.reduceToInt, Int64.reduceToInt, Int32.reduceToNatClampNeg, true_or, or_true, true_and, and_true] at *) <;> omega) | ((try simp only [q1.1, q1.2.2.2.2, w1, p1, Int32.lt_iff_toInt_lt, Int32.le_iff_toInt_le, ← Int32.toInt_inj, Int32.toInt_toInt64, t_neg1, Int32.reduceToInt, Int64.reduceToInt, Int32.reduceToNatClampNeg, true_or, or_true, true_and, and_true] at *) <;> (simp (disch := ((try simp (disch := ((try simp (disch := ((try simp only [Int32.reduceToInt]) <;> omega)) only [t_add, t_sub, t_mul, Int32.reduceToInt]) <;> omega)) only [t_add, t_sub, t_mul, Int32.reduceToInt]) <;> omega)) only [t_add, t_sub, t_mul, Int32.reduceToInt]) <;> omega))) (fun t21 h6 => ?_)
        refine t_bind (wX11_leaves_T R1 (PV_P ha hP) (by first | decide | ((try simp only [q1.1, q1.2.2.2.2, w1, p1, Int32.lt_iff_toInt_lt, Int32.le_iff_toInt_le, ← Int32.toInt_inj, Int32.toInt_toInt64, t_neg1, Int32.reduceToInt, Int64.reduceToInt, Int32.reduceToNatClampNeg, true_or, or_true, true_and, and_true] at *) <;> omega) | ((try simp only [q1.1, q1.2.2.2.2, w1, p1, Int32.lt_iff_toInt_lt, Int32.le_iff_toInt_le, ← Int32.toInt_inj, Int32.toInt_toInt64, t_neg1, Int32.reduceToInt, Int64.reduceToInt, Int32.reduceToNatClampNeg, true_or, or_true, true_and, and_true] at *) <;> (simp (disch := ((try simp (disch := ((try simp (disch := ((try simp only [Int32.reduceToInt]) <;> omega)) only [t_add, t_sub, t_mul, Int32.reduceToInt]) <;> omega)) only [t_add, t_sub, t_mul, Int32.reduceToInt]) <;> omega)) only [t_add, t_sub, t_mul, Int32.reduceToInt]) <;> omega)) (by first | decide | ((try simp only [q1.1, q1.2.2.2.2, w1, p1, Int32.lt_iff_toInt_lt, Int32.le_iff_toInt_le, ← Int32.toInt_inj, Int32.toInt_toInt64, t_neg1, Int32.reduceToInt, Int64.reduceToInt, Int32.reduceToNatClampNeg, true_or, or_true, true_and, and_true] at *) <;> omega) | ((try simp only [q1.1, q1.2.2.2.2, w1, p1, Int32.lt_iff_toInt_lt, Int32.le_iff_toInt_le, ← Int32.toInt_inj, Int32.toInt_toInt64, t_neg1, Int32.reduceToInt, Int64.reduceToInt, Int32.reduceToNatClampNeg, true_or, or_true, true_and, and_true] at *) <;> (simp (disch := ((try simp (disch := ((try simp (disch := ((try simp only [Int32.reduceToInt]) <;> omega)) only [t_add, t_sub, t_mul, Int32.reduceToInt]) <;> omega)) only [t_add, t_sub, t_mul, Int32.reduceToInt]) <;> omega)) only [t_add, t_sub, t_mul, Int32.reduceToInt]) <;> omega)) (by first | decide | ((try simp only [q1.1, q1.2.2.2.2, w1, p1, Int32.lt_iff_toInt_lt, Int32.le_iff_toInt_le, ← Int32.toInt_inj, Int32.toInt_toInt64, t_neg1, Int32.reduceToInt, Int64.reduceToInt, Int32.reduceToNatClampNeg, true_or, or_true, true_and, and_true] at *) <;> omega) | ((try simp only [q1.1, q1.2.2.2.2, w1, p1, Int32.lt_iff_toInt_lt, Int32.le_iff_toInt_le, ← Int32.toInt_inj, Int32.toInt_toInt64, t_neg1, Int32.reduceToInt, Int64.reduceToInt, Int32.reduceToNatClampNeg, true_or, or_true, true_and, and_true] at *) <;> (simp (disch := ((try simp (disch := ((try simp (disch := ((try simp only [Int32.reduceToInt]) <;> omega)) only [t_add, t_sub, t_mul, Int32.reduceToInt]) <;> omega)) only [t_add, t_sub, t_mul, Int32.reduceToInt]) <;> omega)) only [t_add, t_sub, t_mul, Int32.reduceToInt]) <;> omega)) (by first | decide | ((try simp only [q1.1, q1.2.2.2.2, w1, p1, Int32.lt_iff_toInt_lt, Int32.le_iff_toInt_le, ← Int32.toInt_inj, Int32.toInt_toInt64, t_neg1, Int32.reduceToInt, Int64.reduceToInt, Int32.reduceToNatClampNeg, true_or, or_true, true_and, and_true] at *) <;> omega) | ((try simp only [q1.1, q1.2.2.2.2, w1, p1, Int32.lt_iff_toInt_lt, Int32.le_iff_toInt_le, ← Int32.toInt_inj, Int32.toInt_toInt64, t_neg1, Int32.reduceToInt, Int64.reduceToInt, Int32.reduceToNatClampNeg, true_or, or_true, true_and, and_true] at *) <;> (simp (disch := ((try simp (disch := ((try simp (disch := ((try simp only [Int32.reduceToInt]) <;> omega)) only [t_add, t_sub, t_mul, Int32.reduceToInt]) <;> omega)) only [t_add, t_sub, t_mul, Int32.reduceToInt]) <;> omega)) only [t_add, t_sub, t_mul, Int32.reduceToInt]) <;> omega)) (by first | decide | ((try simp only [q1.1, q1.2.2.2.2, w1, p1, Int32.lt_iff_toInt_lt, Int32.le_iff_toInt_le, ← Int32.toInt_inj, Int32.toInt_toInt64, t_neg1, Int32.reduceToInt, Int64.reduceToInt, Int32.reduceToNatClampNeg, true_or, or_true, true_and, and_true] at *) <;> omega) | ((try simp only [q1.1, q1.2.2.2.2, w1, p1, Int32.lt_iff_toInt_lt, Int32.le_iff_toInt_le, ← Int32.toInt_inj, Int32.toInt_toInt64, t_neg1, Int32.reduceToInt, Int64.reduceToInt, Int32.reduceToNatClampNeg, true_or, or_true, true_and, and_true] at *) <;> (simp (disch := ((try simp (disch := ((try simp (disch := ((try simp only [Int32.reduceToInt]) <;> omega)) only [t_add, t_sub, t_mul, Int32.reduceToInt]) <;> omega)) only [t_add, t_sub, t_mul, Int32.reduceToInt]) <;> omega)) only [t_add, t_sub, t_mul, Int32.reduceToInt]) <;> omega)) (by first | decide | ((try simp only [q1.1, q1.2.2.2.2, w1, p1, Int32.lt_iff_toInt_lt, Int32.le_iff_toInt_le, ← Int32.toInt_inj, Int32.toInt_toInt64, t_neg1, Int32.reduceToInt, Int64.reduceToInt, Int32.reduceToNatClampNeg, true_or, or_true, true_and, and_true] at *) <;> omega) | ((try simp only [q1.1, q1.2.2.2.2, w1, p1, Int32.lt_iff_toInt_lt, Int32.le_iff_toInt_le, ← Int32.toInt_inj, Int32.toInt_toInt64, t_neg1, Int32.reduceToInt, Int64.reduceToInt, Int32.reduceToNatClampNeg, true_or, or_true, true_and, and_true] at *) <;> (simp (disch := ((try simp (disch := ((try simp (disch := ((try simp only [Int32.reduceToInt]) <;> omega)) only [t_add, t_sub, t_mul, Int32.reduceToInt]) <;> omega)) only [t_add, t_sub, t_mul, Int32.reduceToInt]) <;> omega)) only [t_add, t_sub, t_mul, Int32.reduceToInt]) <;> omega))) (fun t22 h7 => ?_)
        refine t_ite (fun c8 => ?_) (fun c8 => ?_)
        · unfold wX11_needed_j120
          refine t_bind (t_stL (B := bP) (n := 168) (by first | decide | ((try simp only [q1.1, q1.2.2.2.2, w1, p1, Int32.lt_iff_toInt_lt, Int32.le_iff_toInt_le, ← Int32.toInt_inj, Int32.toInt_toInt64, t_neg1, Int32.reduceToInt, Int64.reduceToInt, Int32.reduceToNatClampNeg, true_or, or_true, true_and, and_true] at *) <;> omega) | ((try simp only [q1.1, q1.2.2.2.2, w1, p1, Int32.lt_iff_toInt_lt, Int32.le_iff_toInt_le, ← Int32.toInt_inj, Int32.toInt_toInt64, t_neg1, Int32.reduceToInt, Int64.reduceToInt, Int32.reduceToNatClampNeg, true_or, or_true, true_and, and_true] at *) <;> (simp (disch := ((try simp (disch := ((try simp (disch := ((try simp only [Int32.reduceToInt]) <;> omega)) only [t_add, t_sub, t_mul, Int32.reduceToInt]) <;> omega)) only [t_add, t_sub, t_mul, Int32.reduceToInt]) <;> omega)) only [t_add, t_sub, t_mul, Int32.reduceToInt]) <;> omega)) (by first | decide | ((try simp only [q1.1, q1.2.2.2.2, w1, p1, Int32.lt_iff_toInt_lt, Int32.le_iff_toInt_le, ← Int32.toInt_inj, Int32.toInt_toInt64, t_neg1, Int32.reduceToInt, Int64.reduceToInt, Int32.reduceToNatClampNeg, true_or, or_true, true_and, and_true] at *) <;> omega) | ((try simp only [q1.1, q1.2.2.2.2, w1, p1, Int32.lt_iff_toInt_lt, Int32.le_iff_toInt_le, ← Int32.toInt_inj, Int32.toInt_toInt64, t_neg1, Int32.reduceToInt, Int64.reduceToInt, Int32.reduceToNatClampNeg, true_or, or_true, true_and, and_true] at *) <;> (simp (disch := ((try simp (disch := ((try simp (disch := ((try simp only [Int32.reduceToInt]) <;> omega)) only [t_add, t_sub, t_mul, Int32.reduceToInt]) <;> omega)) only [t_add, t_sub, t_mul, Int32.reduceToInt]) <;> omega)) only [t_add, t_sub, t_mul, Int32.reduceToInt]) <;> omega))) (fun s25 h9 => ?_)
          have a10 : wA bP s0 s25 := ha.trans h9.1
          have q11 := sameP a10
          have w11 := wW_same q11.1
          have R11 := RQ_P a10 hR
          have p11 := a10 152 33 rfl
          unfold wX11_needed_j125
          exact ih a10 (t_n1 c3 hi) (t_m1 c3 hm)
        · unfold wX11_needed_j120
          refine t_bind (t_stL (B := bP) (n := 168) (by first | decide | ((try simp only [q1.1, q1.2.2.2.2, w1, p1, Int32.lt_iff_toInt_lt, Int32.le_iff_toInt_le, ← Int32.toInt_inj, Int32.toInt_toInt64, t_neg1, Int32.reduceToInt, Int64.reduceToInt, Int32.reduceToNatClampNeg, true_or, or_true, true_and, and_true] at *) <;> omega) | ((try simp only [q1.1, q1.2.2.2.2, w1, p1, Int32.lt_iff_toInt_lt, Int32.le_iff_toInt_le, ← Int32.toInt_inj, Int32.toInt_toInt64, t_neg1, Int32.reduceToInt, Int64.reduceToInt, Int32.reduceToNatClampNeg, true_or, or_true, true_and, and_true] at *) <;> (simp (disch := ((try simp (disch := ((try simp (disch := ((try simp only [Int32.reduceToInt]) <;> omega)) only [t_add, t_sub, t_mul, Int32.reduceToInt]) <;> omega)) only [t_add, t_sub, t_mul, Int32.reduceToInt]) <;> omega)) only [t_add, t_sub, t_mul, Int32.reduceToInt]) <;> omega)) (by first | decide | ((try simp only [q1.1, q1.2.2.2.2, w1, p1, Int32.lt_iff_toInt_lt, Int32.le_iff_toInt_le, ← Int32.toInt_inj, Int32.toInt_toInt64, t_neg1, Int32.reduceToInt, Int64.reduceToInt, Int32.reduceToNatClampNeg, true_or, or_true, true_and, and_true] at *) <;> omega) | ((try simp only [q1.1, q1.2.2.2.2, w1, p1, Int32.lt_iff_toInt_lt, Int32.le_iff_toInt_le, ← Int32.toInt_inj, Int32.toInt_toInt64, t_neg1, Int32.reduceToInt, Int64.reduceToInt, Int32.reduceToNatClampNeg, true_or, or_true, true_and, and_true] at *) <;> (simp (disch := ((try simp (disch := ((try simp (disch := ((try simp only [Int32.reduceToInt]) <;> omega)) only [t_add, t_sub, t_mul, Int32.reduceToInt]) <;> omega)) only [t_add, t_sub, t_mul, Int32.reduceToInt]) <;> omega)) only [t_add, t_sub, t_mul, Int32.reduceToInt]) <;> omega))) (fun s25 h12 => ?_)
          have a13 : wA bP s0 s25 := ha.trans h12.1
          have q14 := sameP a13
          have w14 := wW_same q14.1
          have R14 := RQ_P a13 hR
          have p14 := a13 152 33 rfl
          unfold wX11_needed_j125
          exact ih a13 (t_n1 c3 hi) (t_m1 c3 hm)
    · exact t_some ha
theorem wX11_needed_h40_T {x3 : Int32} {s0 : wS} (hR : RQ s0) (hP : PV s0)  : ∀ (n : Nat) {x4 : Int32} {s : wS}, wA bP s0 s → 0 ≤ x4.toInt → 2147483648 - x4.toInt < (n : Int) → Tot (wX11_needed_h40 x3 n x4 s) (fun (r : wS) => wA bP s0 r) := by
  intro n
  induction n with
  | zero =>
    intro x4 s ha hi hm
    exact (t_m0 hm).elim
  | succ n ih =>
    intro x4 s ha hi hm
    rw [wX11_needed_h40]
    have hb := RQ_b hR
    have hpb := hP.1
    have h2p := t_2p (x := s0.1 152 33) hpb.1 hpb.2
    have q1 := sameP ha
    have w1 := wW_same q1.1
    have R1 := RQ_P ha hR
    have p1 := ha 152 33 rfl
    refine t_ite (fun c2 => ?_) (fun c2 => ?_)
    · refine t_bind (t_stL (B := bP) (n := 168) (by first | decide | ((try simp only [q1.1, q1.2.2.2.2, w1, p1, Int32.lt_iff_toInt_lt, Int32.le_iff_toInt_le, ← Int32.toInt_inj, Int32.toInt_toInt64, t_neg1, Int32.reduceToInt, Int64.reduceToInt, Int32.reduceToNatClampNeg, true_or, or_true, true_and, and_true] at *) <;> omega) | ((try simp only [q1.1, q1.2.2.2.2, w1, p1, Int32.lt_iff_toInt_lt, Int32.le_iff_toInt_le, ← Int32.toInt_inj, Int32.toInt_toInt64, t_neg1, Int32.reduceToInt, Int64.reduceToInt, Int32.reduceToNatClampNeg, true_or, or_true, true_and, and_true] at *) <;> (simp (disch := ((try simp (disch := ((try simp (disch := ((try simp only [Int32.reduceToInt]) <;> omega)) only [t_add, t_sub, t_mul, Int32.reduceToInt]) <;> omega)) only [t_add, t_sub, t_mul, Int32.reduceToInt]) <;> omega)) only [t_add, t_sub, t_mul, Int32.reduceToInt]) <;> omega)) (by first | decide | ((try simp only [q1.1, q1.2.2.2.2, w1, p1, Int32.lt_iff_toInt_lt, Int32.le_iff_toInt_le, ← Int32.toInt_inj, Int32.toInt_toInt64, t_neg1, Int32.reduceToInt, Int64.reduceToInt, Int32.reduceToNatClampNeg, true_or, or_true, true_and, and_true] at *) <;> omega) | ((try simp only [q1.1, q1.2.2.2.2, w1, p1, Int32.lt_iff_toInt_lt, Int32.le_iff_toInt_le, ← Int32.toInt_inj, Int32.toInt_toInt64, t_neg1, Int32.reduceToInt, Int64.reduceToInt, Int32.reduceToNatClampNeg, true_or, or_true, true_and, and_true] at *) <;> (simp (disch := ((try simp (disch := ((try simp (disch := ((try simp only [Int32.reduceToInt]) <;> omega)) only [t_add, t_sub, t_mul, Int32.reduceToInt]) <;> omega)) only [t_add, t_sub, t_mul, Int32.reduceToInt]) <;> omega)) only [t_add, t_sub, t_mul, Int32.reduceToInt]) <;> omega))) (fun s15 h3 => ?_)
      have a4 : wA bP s0 s15 := ha.trans h3.1
      have q5 := sameP a4
      have w5 := wW_same q5.1
      have R5 := RQ_P a4 hR
      have p5 := a4 152 33 rfl
      refine t_bind (wX11_needed_h65_T R5 (PV_P h3.1 (PV_P ha hP)) (by first | decide | ((try simp only [q1.1, q1.2.2.2.2, w1, p1, q5.1, q5.2.2.2.2, w5, p5, Int32.lt_iff_toInt_lt, Int32.le_iff_toInt_le, ← Int32.toInt_inj, Int32.toInt_toInt64, t_neg1, Int32.reduceToInt, Int64.reduceToInt, Int32.reduceToNatClampNeg, true_or, or_true, true_and, and_true] at *) <;> omega) | ((try simp only [q1.1, q1.2.2.2.2, w1, p1, q5.1, q5.2.2.2.2, w5, p5, Int32.lt_iff_toInt_lt, Int32.le_iff_toInt_le, ← Int32.toInt_inj, Int32.toInt_toInt64, t_neg1, Int32.reduceToInt, Int64.reduceToInt, Int32.reduceToNatClampNeg, true_or, or_true, true_and, and_true] at *) <;> (simp (disch := ((try simp (disch := ((try simp (disch := ((try simp only [Int32.reduceToInt]) <;> omega)) only [t_add, t_sub, t_mul, Int32.reduceToInt]) <;> omega)) only [t_add, t_sub, t_mul, Int32.reduceToInt]) <;> omega)) only [t_add, t_sub, t_mul, Int32.reduceToInt]) <;> omega)) (by first | decide | ((try simp only [q1.1, q1.2.2.2.2, w1, p1, q5.1, q5.2.2.2.2, w5, p5, Int32.lt_iff_toInt_lt, Int32.le_iff_toInt_le, ← Int32.toInt_inj, Int32.toInt_toInt64, t_neg1, Int32.reduceToInt, Int64.reduceToInt, Int32.reduceToNatClampNeg, true_or, or_true, true_and, and_true] at *) <;> omega) | ((try simp only [q1.1, q1.2.2.2.2, w1, p1, q5.1, q5.2.2.2.2, w5, p5, Int32.lt_iff_toInt_lt, Int32.le_iff_toInt_le, ← Int32.toInt_inj, Int32.toInt_toInt64, t_neg1, Int32.reduceToInt, Int64.reduceToInt, Int32.reduceToNatClampNeg, true_or, or_true, true_and, and_true] at *) <;> (simp (disch := ((try simp (disch := ((try simp (disch := ((try simp only [Int32.reduceToInt]) <;> omega)) only [t_add, t_sub, t_mul, Int32.reduceToInt]) <;> omega)) only [t_add, t_sub, t_mul, Int32.reduceToInt]) <;> omega)) only [t_add, t_sub, t_mul, Int32.reduceToInt]) <;> omega)) _ wA.refl (by decide) t_mi) (fun s27 h6 => ?_)
      have a7 : wA bP s0 s27 := a4.trans h6
      have q8 := sameP a7
      have w8 := wW_same q8.1
      have R8 := RQ_P a7 hR
      have p8 := a7 152 33 rfl
      exact ih a7 (t_n1 c2 hi) (t_m1 c2 hm)
    · exact t_some ha
theorem wX11_needed_j154_T {y0 : Int64} {s : wS} (hR : RQ s) (hP : PV s)  : Tot (wX11_needed_j154 y0 s) (fun (r : Int32 × wS) => wA bP s r.2) := by
  unfold wX11_needed_j154
  have hb := RQ_b hR
  have hpb := hP.1
  refine t_bind (wX11_isOne_T) (fun t40 h1 => ?_)
  refine t_ite (fun c2 => ?_) (fun c2 => ?_)
  · refine t_bind (wX11_doesOne_T hR hP) (fun t43 h3 => ?_)
    refine t_ite (fun c4 => ?_) (fun c4 => ?_)
    · refine t_bind (wX11_doesTwo_T hR hP) (fun t46 h5 => ?_)
      refine t_ite (fun c6 => ?_) (fun c6 => ?_)
      · refine t_bind (wX11_doesThree_T hR hP) (fun t49 h7 => ?_)
        refine t_ite (fun c8 => ?_) (fun c8 => ?_)
        · exact t_some wA.refl
        · exact t_some wA.refl
      · exact t_some wA.refl
    · exact t_some wA.refl
  · exact t_some wA.refl
theorem wX11_needed_T {x1 : Int32} {x2 : Int32} {s : wS} (hR : RQ s)  : Tot (wX11_needed x1 x2 s) (fun (r : Int32 × wS) => wA bQ s r.2) := by
  unfold wX11_needed
  have hb := RQ_b hR
  refine t_bind (wX11_canAsk_T) (fun t1 h1 => ?_)
  refine t_ite (fun c2 => ?_) (fun c2 => ?_)
  · exact t_some wA.refl
  · refine t_bind (wX11_isMany_T) (fun t4 h3 => ?_)
    refine t_ite (fun c4 => ?_) (fun c4 => ?_)
    · exact t_some wA.refl
    · refine t_bind (wX11_keeps_T hR (by first | decide | ((try simp only [Int32.lt_iff_toInt_lt, Int32.le_iff_toInt_le, ← Int32.toInt_inj, Int32.toInt_toInt64, t_neg1, Int32.reduceToInt, Int64.reduceToInt, Int32.reduceToNatClampNeg, true_or, or_true, true_and, and_true] at *) <;> omega) | ((try simp only [Int32.lt_iff_toInt_lt, Int32.le_iff_toInt_le, ← Int32.toInt_inj, Int32.toInt_toInt64, t_neg1, Int32.reduceToInt, Int64.reduceToInt, Int32.reduceToNatClampNeg, true_or, or_true, true_and, and_true] at *) <;> (simp (disch := ((try simp (disch := ((try simp (disch := ((try simp only [Int32.reduceToInt]) <;> omega)) only [t_add, t_sub, t_mul, Int32.reduceToInt]) <;> omega)) only [t_add, t_sub, t_mul, Int32.reduceToInt]) <;> omega)) only [t_add, t_sub, t_mul, Int32.reduceToInt]) <;> omega)) (by first | decide | ((try simp only [Int32.lt_iff_toInt_lt, Int32.le_iff_toInt_le, ← Int32.toInt_inj, Int32.toInt_toInt64, t_neg1, Int32.reduceToInt, Int64.reduceToInt, Int32.reduceToNatClampNeg, true_or, or_true, true_and, and_true] at *) <;> omega) | ((try simp only [Int32.lt_iff_toInt_lt, Int32.le_iff_toInt_le, ← Int32.toInt_inj, Int32.toInt_toInt64, t_neg1, Int32.reduceToInt, Int64.reduceToInt, Int32.reduceToNatClampNeg, true_or, or_true, true_and, and_true] at *) <;> (simp (disch := ((try simp (disch := ((try simp (disch := ((try simp only [Int32.reduceToInt]) <;> omega)) only [t_add, t_sub, t_mul, Int32.reduceToInt]) <;> omega)) only [t_add, t_sub, t_mul, Int32.reduceToInt]) <;> omega)) only [t_add, t_sub, t_mul, Int32.reduceToInt]) <;> omega))) (fun r6 h5 => ?_)
      obtain ⟨t7, s8⟩ := r6
      dsimp only at h5 ⊢
      have a7 : wA bQ s s8 := (h5.1.mono bP_le_bQ)
      have q8 := sameQ_of a7
      have w8 := wW_same q8.1
      have R8 := RQ_A a7 hR
      have p9 := h5.1 152 33 rfl
      refine t_ite (fun c10 => ?_) (fun c10 => ?_)
      · exact t_some a7
      · refine t_bind (wX11_gathers_T R8) (fun s12 h11 => ?_)
        have a12 : wA bQ s s12 := a7.trans h11.1
        have q13 := sameQ_of a12
        have w13 := wW_same q13.1
        have R13 := RQ_A a12 hR
        have pb14 := (h11.2).1
        refine t_bind (wX11_needed_h40_T R13 h11.2 _ wA.refl (by decide) t_mi) (fun s33 h15 => ?_)
        have a16 : wA bQ s s33 := a12.trans (h15.mono bP_le_bQ)
        have q17 := sameQ_of a16
        have w17 := wW_same q17.1
        have R17 := RQ_A a16 hR
        have p18 := h15 152 33 rfl
        refine t_ite (fun c19 => ?_) (fun c19 => ?_)
        · exact t_mono (wX11_needed_j154_T R17 (PV_P h15 h11.2)) (fun r h => a16.trans (h.mono bP_le_bQ))
        · exact t_mono (wX11_needed_j154_T R17 (PV_P h15 h11.2)) (fun r h => a16.trans (h.mono bP_le_bQ))
theorem wX11_steered_h109_T {x3 : Int32} {x4 : Int32} {x5 : Int32} {x6 : Int32} {x7 : Int32} {x8 : Int32} {x9 : Int32} {x10 : Int32} {s : wS} (hR : RQ s) (hP : PV s) (hp : 0 ≤ x9.toInt) (hp2 : x9.toInt < (s.1 152 33).toInt) (hy : 0 ≤ x10.toInt) (hy2 : x10.toInt ≤ 1) : ∀ (n : Nat) {x11 : Int32} {x12 : Int32} {x13 : Int32}, 0 ≤ x13.toInt → 2147483648 - x13.toInt < (n : Int) → Tot (wX11_steered_h109 x3 x4 x5 x6 x7 x8 x9 x10 s n x11 x12 x13) (fun (_ : Int32 × Int32) => True) := by
  intro n
  induction n with
  | zero =>
    intro x11 x12 x13 hi hm
    exact (t_m0 hm).elim
  | succ n ih =>
    intro x11 x12 x13 hi hm
    rw [wX11_steered_h109]
    have hb := RQ_b hR
    have hpb := hP.1
    refine t_bind (wX11_worlds_T) (fun t26 h1 => ?_)
    refine t_ite (fun c2 => ?_) (fun c2 => ?_)
    · refine t_bind (t_ldI (n := 512) (by first | decide | ((try simp only [Int32.lt_iff_toInt_lt, Int32.le_iff_toInt_le, ← Int32.toInt_inj, Int32.toInt_toInt64, t_neg1, Int32.reduceToInt, Int64.reduceToInt, Int32.reduceToNatClampNeg, true_or, or_true, true_and, and_true] at *) <;> omega) | ((try simp only [Int32.lt_iff_toInt_lt, Int32.le_iff_toInt_le, ← Int32.toInt_inj, Int32.toInt_toInt64, t_neg1, Int32.reduceToInt, Int64.reduceToInt, Int32.reduceToNatClampNeg, true_or, or_true, true_and, and_true] at *) <;> (simp (disch := ((try simp (disch := ((try simp (disch := ((try simp only [Int32.reduceToInt]) <;> omega)) only [t_add, t_sub, t_mul, Int32.reduceToInt]) <;> omega)) only [t_add, t_sub, t_mul, Int32.reduceToInt]) <;> omega)) only [t_add, t_sub, t_mul, Int32.reduceToInt]) <;> omega)) (by first | decide | ((try simp only [Int32.lt_iff_toInt_lt, Int32.le_iff_toInt_le, ← Int32.toInt_inj, Int32.toInt_toInt64, t_neg1, Int32.reduceToInt, Int64.reduceToInt, Int32.reduceToNatClampNeg, true_or, or_true, true_and, and_true] at *) <;> omega) | ((try simp only [Int32.lt_iff_toInt_lt, Int32.le_iff_toInt_le, ← Int32.toInt_inj, Int32.toInt_toInt64, t_neg1, Int32.reduceToInt, Int64.reduceToInt, Int32.reduceToNatClampNeg, true_or, or_true, true_and, and_true] at *) <;> (simp (disch := ((try simp (disch := ((try simp (disch := ((try simp only [Int32.reduceToInt]) <;> omega)) only [t_add, t_sub, t_mul, Int32.reduceToInt]) <;> omega)) only [t_add, t_sub, t_mul, Int32.reduceToInt]) <;> omega)) only [t_add, t_sub, t_mul, Int32.reduceToInt]) <;> omega))) (fun t29 h3 => ?_)
      refine t_ite (fun c4 => ?_) (fun c4 => ?_)
      · unfold wX11_steered_j169
        exact ih (t_n1 c2 hi) (t_m1 c2 hm)
      · refine t_bind (wX11_leaves_T hR hP (by first | decide | ((try simp only [Int32.lt_iff_toInt_lt, Int32.le_iff_toInt_le, ← Int32.toInt_inj, Int32.toInt_toInt64, t_neg1, Int32.reduceToInt, Int64.reduceToInt, Int32.reduceToNatClampNeg, true_or, or_true, true_and, and_true] at *) <;> omega) | ((try simp only [Int32.lt_iff_toInt_lt, Int32.le_iff_toInt_le, ← Int32.toInt_inj, Int32.toInt_toInt64, t_neg1, Int32.reduceToInt, Int64.reduceToInt, Int32.reduceToNatClampNeg, true_or, or_true, true_and, and_true] at *) <;> (simp (disch := ((try simp (disch := ((try simp (disch := ((try simp only [Int32.reduceToInt]) <;> omega)) only [t_add, t_sub, t_mul, Int32.reduceToInt]) <;> omega)) only [t_add, t_sub, t_mul, Int32.reduceToInt]) <;> omega)) only [t_add, t_sub, t_mul, Int32.reduceToInt]) <;> omega)) (by first | decide | ((try simp only [Int32.lt_iff_toInt_lt, Int32.le_iff_toInt_le, ← Int32.toInt_inj, Int32.toInt_toInt64, t_neg1, Int32.reduceToInt, Int64.reduceToInt, Int32.reduceToNatClampNeg, true_or, or_true, true_and, and_true] at *) <;> omega) | ((try simp only [Int32.lt_iff_toInt_lt, Int32.le_iff_toInt_le, ← Int32.toInt_inj, Int32.toInt_toInt64, t_neg1, Int32.reduceToInt, Int64.reduceToInt, Int32.reduceToNatClampNeg, true_or, or_true, true_and, and_true] at *) <;> (simp (disch := ((try simp (disch := ((try simp (disch := ((try simp only [Int32.reduceToInt]) <;> omega)) only [t_add, t_sub, t_mul, Int32.reduceToInt]) <;> omega)) only [t_add, t_sub, t_mul, Int32.reduceToInt]) <;> omega)) only [t_add, t_sub, t_mul, Int32.reduceToInt]) <;> omega)) (by first | decide | ((try simp only [Int32.lt_iff_toInt_lt, Int32.le_iff_toInt_le, ← Int32.toInt_inj, Int32.toInt_toInt64, t_neg1, Int32.reduceToInt, Int64.reduceToInt, Int32.reduceToNatClampNeg, true_or, or_true, true_and, and_true] at *) <;> omega) | ((try simp only [Int32.lt_iff_toInt_lt, Int32.le_iff_toInt_le, ← Int32.toInt_inj, Int32.toInt_toInt64, t_neg1, Int32.reduceToInt, Int64.reduceToInt, Int32.reduceToNatClampNeg, true_or, or_true, true_and, and_true] at *) <;> (simp (disch := ((try simp (disch := ((try simp (disch := ((try simp only [Int32.reduceToInt]) <;> omega)) only [t_add, t_sub, t_mul, Int32.reduceToInt]) <;> omega)) only [t_add, t_sub, t_mul, Int32.reduceToInt]) <;> omega)) only [t_add, t_sub, t_mul, Int32.reduceToInt]) <;> omega)) (by first | decide | ((try simp only [Int32.lt_iff_toInt_lt, Int32.le_iff_toInt_le, ← Int32.toInt_inj, Int32.toInt_toInt64, t_neg1, Int32.reduceToInt, Int64.reduceToInt, Int32.reduceToNatClampNeg, true_or, or_true, true_and, and_true] at *) <;> omega) | ((try simp only [Int32.lt_iff_toInt_lt, Int32.le_iff_toInt_le, ← Int32.toInt_inj, Int32.toInt_toInt64, t_neg1, Int32.reduceToInt, Int64.reduceToInt, Int32.reduceToNatClampNeg, true_or, or_true, true_and, and_true] at *) <;> (simp (disch := ((try simp (disch := ((try simp (disch := ((try simp only [Int32.reduceToInt]) <;> omega)) only [t_add, t_sub, t_mul, Int32.reduceToInt]) <;> omega)) only [t_add, t_sub, t_mul, Int32.reduceToInt]) <;> omega)) only [t_add, t_sub, t_mul, Int32.reduceToInt]) <;> omega)) (by first | decide | ((try simp only [Int32.lt_iff_toInt_lt, Int32.le_iff_toInt_le, ← Int32.toInt_inj, Int32.toInt_toInt64, t_neg1, Int32.reduceToInt, Int64.reduceToInt, Int32.reduceToNatClampNeg, true_or, or_true, true_and, and_true] at *) <;> omega) | ((try simp only [Int32.lt_iff_toInt_lt, Int32.le_iff_toInt_le, ← Int32.toInt_inj, Int32.toInt_toInt64, t_neg1, Int32.reduceToInt, Int64.reduceToInt, Int32.reduceToNatClampNeg, true_or, or_true, true_and, and_true] at *) <;> (simp (disch := ((try simp (disch := ((try simp (disch := ((try simp only [Int32.reduceToInt]) <;> omega)) only [t_add, t_sub, t_mul, Int32.reduceToInt]) <;> omega)) only [t_add, t_sub, t_mul, Int32.reduceToInt]) <;> omega)) only [t_add, t_sub, t_mul, Int32.reduceToInt]) <;> omega)) (by first | decide | ((try simp only [Int32.lt_iff_toInt_lt, Int32.le_iff_toInt_le, ← Int32.toInt_inj, Int32.toInt_toInt64, t_neg1, Int32.reduceToInt, Int64.reduceToInt, Int32.reduceToNatClampNeg, true_or, or_true, true_and, and_true] at *) <;> omega) | ((try simp only [Int32.lt_iff_toInt_lt, Int32.le_iff_toInt_le, ← Int32.toInt_inj, Int32.toInt_toInt64, t_neg1, Int32.reduceToInt, Int64.reduceToInt, Int32.reduceToNatClampNeg, true_or, or_true, true_and, and_true] at *) <;> (simp (disch := ((try simp (disch := ((try simp (disch := ((try simp only [Int32.reduceToInt]) <;> omega)) only [t_add, t_sub, t_mul, Int32.reduceToInt]) <;> omega)) only [t_add, t_sub, t_mul, Int32.reduceToInt]) <;> omega)) only [t_add, t_sub, t_mul, Int32.reduceToInt]) <;> omega))) (fun t31 h5 => ?_)
        refine t_ite (fun c6 => ?_) (fun c6 => ?_)
        · unfold wX11_steered_j169
          exact ih (t_n1 c2 hi) (t_m1 c2 hm)
        · refine t_bind (wX11_thingOf_T hR (by first | decide | ((try simp only [Int32.lt_iff_toInt_lt, Int32.le_iff_toInt_le, ← Int32.toInt_inj, Int32.toInt_toInt64, t_neg1, Int32.reduceToInt, Int64.reduceToInt, Int32.reduceToNatClampNeg, true_or, or_true, true_and, and_true] at *) <;> omega) | ((try simp only [Int32.lt_iff_toInt_lt, Int32.le_iff_toInt_le, ← Int32.toInt_inj, Int32.toInt_toInt64, t_neg1, Int32.reduceToInt, Int64.reduceToInt, Int32.reduceToNatClampNeg, true_or, or_true, true_and, and_true] at *) <;> (simp (disch := ((try simp (disch := ((try simp (disch := ((try simp only [Int32.reduceToInt]) <;> omega)) only [t_add, t_sub, t_mul, Int32.reduceToInt]) <;> omega)) only [t_add, t_sub, t_mul, Int32.reduceToInt]) <;> omega)) only [t_add, t_sub, t_mul, Int32.reduceToInt]) <;> omega)) (by first | decide | ((try simp only [Int32.lt_iff_toInt_lt, Int32.le_iff_toInt_le, ← Int32.toInt_inj, Int32.toInt_toInt64, t_neg1, Int32.reduceToInt, Int64.reduceToInt, Int32.reduceToNatClampNeg, true_or, or_true, true_and, and_true] at *) <;> omega) | ((try simp only [Int32.lt_iff_toInt_lt, Int32.le_iff_toInt_le, ← Int32.toInt_inj, Int32.toInt_toInt64, t_neg1, Int32.reduceToInt, Int64.reduceToInt, Int32.reduceToNatClampNeg, true_or, or_true, true_and, and_true] at *) <;> (simp (disch := ((try simp (disch := ((try simp (disch := ((try simp only [Int32.reduceToInt]) <;> omega)) only [t_add, t_sub, t_mul, Int32.reduceToInt]) <;> omega)) only [t_add, t_sub, t_mul, Int32.reduceToInt]) <;> omega)) only [t_add, t_sub, t_mul, Int32.reduceToInt]) <;> omega)) (by first | decide | ((try simp only [Int32.lt_iff_toInt_lt, Int32.le_iff_toInt_le, ← Int32.toInt_inj, Int32.toInt_toInt64, t_neg1, Int32.reduceToInt, Int64.reduceToInt, Int32.reduceToNatClampNeg, true_or, or_true, true_and, and_true] at *) <;> omega) | ((try simp only [Int32.lt_iff_toInt_lt, Int32.le_iff_toInt_le, ← Int32.toInt_inj, Int32.toInt_toInt64, t_neg1, Int32.reduceToInt, Int64.reduceToInt, Int32.reduceToNatClampNeg, true_or, or_true, true_and, and_true] at *) <;> (simp (disch := ((try simp (disch := ((try simp (disch := ((try simp only [Int32.reduceToInt]) <;> omega)) only [t_add, t_sub, t_mul, Int32.reduceToInt]) <;> omega)) only [t_add, t_sub, t_mul, Int32.reduceToInt]) <;> omega)) only [t_add, t_sub, t_mul, Int32.reduceToInt]) <;> omega)) (by first | decide | ((try simp only [Int32.lt_iff_toInt_lt, Int32.le_iff_toInt_le, ← Int32.toInt_inj, Int32.toInt_toInt64, t_neg1, Int32.reduceToInt, Int64.reduceToInt, Int32.reduceToNatClampNeg, true_or, or_true, true_and, and_true] at *) <;> omega) | ((try simp only [Int32.lt_iff_toInt_lt, Int32.le_iff_toInt_le, ← Int32.toInt_inj, Int32.toInt_toInt64, t_neg1, Int32.reduceToInt, Int64.reduceToInt, Int32.reduceToNatClampNeg, true_or, or_true, true_and, and_true] at *) <;> (simp (disch := ((try simp (disch := ((try simp (disch := ((try simp only [Int32.reduceToInt]) <;> omega)) only [t_add, t_sub, t_mul, Int32.reduceToInt]) <;> omega)) only [t_add, t_sub, t_mul, Int32.reduceToInt]) <;> omega)) only [t_add, t_sub, t_mul, Int32.reduceToInt]) <;> omega))) (fun t34 h7 => ?_)
          refine t_ite (fun c8 => ?_) (fun c8 => ?_)
          · unfold wX11_steered_j166
            unfold wX11_steered_j169
            exact ih (t_n1 c2 hi) (t_m1 c2 hm)
          · unfold wX11_steered_j166
            unfold wX11_steered_j169
            exact ih (t_n1 c2 hi) (t_m1 c2 hm)
    · exact t_some trivial
theorem wX11_steered_h73_T {x3 : Int32} {x4 : Int32} {x5 : Int32} {s : wS} (hR : RQ s) (hP : PV s) (hw : 0 ≤ x3.toInt) (hw2 : x3.toInt < (wW s).toInt) : ∀ (n : Nat) {x6 : Int32} {x7 : Int32} {x8 : Int32} {x9 : Int32}, 0 ≤ x9.toInt → x6.toInt < 0 ∨ (0 ≤ x6.toInt ∧ x6.toInt < (s.1 152 33).toInt) → 2147483648 - x9.toInt < (n : Int) → Tot (wX11_steered_h73 x3 x4 x5 s n x6 x7 x8 x9) (fun (r : Int32 × Int32 × Int32) => r.1.toInt < 0 ∨ (0 ≤ r.1.toInt ∧ r.1.toInt < (s.1 152 33).toInt)) := by
  intro n
  induction n with
  | zero =>
    intro x6 x7 x8 x9 hi hf hm
    exact (t_m0 hm).elim
  | succ n ih =>
    intro x6 x7 x8 x9 hi hf hm
    rw [wX11_steered_h73]
    have hb := RQ_b hR
    have hpb := hP.1
    refine t_ite (fun c1 => ?_) (fun c1 => ?_)
    · refine t_bind (wX11_leaves_T hR hP (by first | decide | ((try simp only [Int32.lt_iff_toInt_lt, Int32.le_iff_toInt_le, ← Int32.toInt_inj, Int32.toInt_toInt64, t_neg1, Int32.reduceToInt, Int64.reduceToInt, Int32.reduceToNatClampNeg, true_or, or_true, true_and, and_true] at *) <;> omega) | ((try simp only [Int32.lt_iff_toInt_lt, Int32.le_iff_toInt_le, ← Int32.toInt_inj, Int32.toInt_toInt64, t_neg1, Int32.reduceToInt, Int64.reduceToInt, Int32.reduceToNatClampNeg, true_or, or_true, true_and, and_true] at *) <;> (simp (disch := ((try simp (disch := ((try simp (disch := ((try simp only [Int32.reduceToInt]) <;> omega)) only [t_add, t_sub, t_mul, Int32.reduceToInt]) <;> omega)) only [t_add, t_sub, t_mul, Int32.reduceToInt]) <;> omega)) only [t_add, t_sub, t_mul, Int32.reduceToInt]) <;> omega)) (by first | decide | ((try simp only [Int32.lt_iff_toInt_lt, Int32.le_iff_toInt_le, ← Int32.toInt_inj, Int32.toInt_toInt64, t_neg1, Int32.reduceToInt, Int64.reduceToInt, Int32.reduceToNatClampNeg, true_or, or_true, true_and, and_true] at *) <;> omega) | ((try simp only [Int32.lt_iff_toInt_lt, Int32.le_iff_toInt_le, ← Int32.toInt_inj, Int32.toInt_toInt64, t_neg1, Int32.reduceToInt, Int64.reduceToInt, Int32.reduceToNatClampNeg, true_or, or_true, true_and, and_true] at *) <;> (simp (disch := ((try simp (disch := ((try simp (disch := ((try simp only [Int32.reduceToInt]) <;> omega)) only [t_add, t_sub, t_mul, Int32.reduceToInt]) <;> omega)) only [t_add, t_sub, t_mul, Int32.reduceToInt]) <;> omega)) only [t_add, t_sub, t_mul, Int32.reduceToInt]) <;> omega)) (by first | decide | ((try simp only [Int32.lt_iff_toInt_lt, Int32.le_iff_toInt_le, ← Int32.toInt_inj, Int32.toInt_toInt64, t_neg1, Int32.reduceToInt, Int64.reduceToInt, Int32.reduceToNatClampNeg, true_or, or_true, true_and, and_true] at *) <;> omega) | ((try simp only [Int32.lt_iff_toInt_lt, Int32.le_iff_toInt_le, ← Int32.toInt_inj, Int32.toInt_toInt64, t_neg1, Int32.reduceToInt, Int64.reduceToInt, Int32.reduceToNatClampNeg, true_or, or_true, true_and, and_true] at *) <;> (simp (disch := ((try simp (disch := ((try simp (disch := ((try simp only [Int32.reduceToInt]) <;> omega)) only [t_add, t_sub, t_mul, Int32.reduceToInt]) <;> omega)) only [t_add, t_sub, t_mul, Int32.reduceToInt]) <;> omega)) only [t_add, t_sub, t_mul, Int32.reduceToInt]) <;> omega)) (by first | decide | ((try simp only [Int32.lt_iff_toInt_lt, Int32.le_iff_toInt_le, ← Int32.toInt_inj, Int32.toInt_toInt64, t_neg1, Int32.reduceToInt, Int64.reduceToInt, Int32.reduceToNatClampNeg, true_or, or_true, true_and, and_true] at *) <;> omega) | ((try simp only [Int32.lt_iff_toInt_lt, Int32.le_iff_toInt_le, ← Int32.toInt_inj, Int32.toInt_toInt64, t_neg1, Int32.reduceToInt, Int64.reduceToInt, Int32.reduceToNatClampNeg, true_or, or_true, true_and, and_true] at *) <;> (simp (disch := ((try simp (disch := ((try simp (disch := ((try simp only [Int32.reduceToInt]) <;> omega)) only [t_add, t_sub, t_mul, Int32.reduceToInt]) <;> omega)) only [t_add, t_sub, t_mul, Int32.reduceToInt]) <;> omega)) only [t_add, t_sub, t_mul, Int32.reduceToInt]) <;> omega)) (by first | decide | ((try simp only [Int32.lt_iff_toInt_lt, Int32.le_iff_toInt_le, ← Int32.toInt_inj, Int32.toInt_toInt64, t_neg1, Int32.reduceToInt, Int64.reduceToInt, Int32.reduceToNatClampNeg, true_or, or_true, true_and, and_true] at *) <;> omega) | ((try simp only [Int32.lt_iff_toInt_lt, Int32.le_iff_toInt_le, ← Int32.toInt_inj, Int32.toInt_toInt64, t_neg1, Int32.reduceToInt, Int64.reduceToInt, Int32.reduceToNatClampNeg, true_or, or_true, true_and, and_true] at *) <;> (simp (disch := ((try simp (disch := ((try simp (disch := ((try simp only [Int32.reduceToInt]) <;> omega)) only [t_add, t_sub, t_mul, Int32.reduceToInt]) <;> omega)) only [t_add, t_sub, t_mul, Int32.reduceToInt]) <;> omega)) only [t_add, t_sub, t_mul, Int32.reduceToInt]) <;> omega)) (by first | decide | ((try simp only [Int32.lt_iff_toInt_lt, Int32.le_iff_toInt_le, ← Int32.toInt_inj, Int32.toInt_toInt64, t_neg1, Int32.reduceToInt, Int64.reduceToInt, Int32.reduceToNatClampNeg, true_or, or_true, true_and, and_true] at *) <;> omega) | ((try simp only [Int32.lt_iff_toInt_lt, Int32.le_iff_toInt_le, ← Int32.toInt_inj, Int32.toInt_toInt64, t_neg1, Int32.reduceToInt, Int64.reduceToInt, Int32.reduceToNatClampNeg, true_or, or_true, true_and, and_true] at *) <;> (simp (disch := ((try simp (disch := ((try simp (disch := ((try simp only [Int32.reduceToInt]) <;> omega)) only [t_add, t_sub, t_mul, Int32.reduceToInt]) <;> omega)) only [t_add, t_sub, t_mul, Int32.reduceToInt]) <;> omega)) only [t_add, t_sub, t_mul, Int32.reduceToInt]) <;> omega))) (fun t23 h2 => ?_)
      refine t_ite (fun c3 => ?_) (fun c3 => ?_)
      · unfold wX11_steered_j98
        refine t_bind (wX11_steered_h109_T hR hP (by first | decide | ((try simp only [Int32.lt_iff_toInt_lt, Int32.le_iff_toInt_le, ← Int32.toInt_inj, Int32.toInt_toInt64, t_neg1, Int32.reduceToInt, Int64.reduceToInt, Int32.reduceToNatClampNeg, true_or, or_true, true_and, and_true] at *) <;> omega) | ((try simp only [Int32.lt_iff_toInt_lt, Int32.le_iff_toInt_le, ← Int32.toInt_inj, Int32.toInt_toInt64, t_neg1, Int32.reduceToInt, Int64.reduceToInt, Int32.reduceToNatClampNeg, true_or, or_true, true_and, and_true] at *) <;> (simp (disch := ((try simp (disch := ((try simp (disch := ((try simp only [Int32.reduceToInt]) <;> omega)) only [t_add, t_sub, t_mul, Int32.reduceToInt]) <;> omega)) only [t_add, t_sub, t_mul, Int32.reduceToInt]) <;> omega)) only [t_add, t_sub, t_mul, Int32.reduceToInt]) <;> omega)) (by first | decide | ((try simp only [Int32.lt_iff_toInt_lt, Int32.le_iff_toInt_le, ← Int32.toInt_inj, Int32.toInt_toInt64, t_neg1, Int32.reduceToInt, Int64.reduceToInt, Int32.reduceToNatClampNeg, true_or, or_true, true_and, and_true] at *) <;> omega) | ((try simp only [Int32.lt_iff_toInt_lt, Int32.le_iff_toInt_le, ← Int32.toInt_inj, Int32.toInt_toInt64, t_neg1, Int32.reduceToInt, Int64.reduceToInt, Int32.reduceToNatClampNeg, true_or, or_true, true_and, and_true] at *) <;> (simp (disch := ((try simp (disch := ((try simp (disch := ((try simp only [Int32.reduceToInt]) <;> omega)) only [t_add, t_sub, t_mul, Int32.reduceToInt]) <;> omega)) only [t_add, t_sub, t_mul, Int32.reduceToInt]) <;> omega)) only [t_add, t_sub, t_mul, Int32.reduceToInt]) <;> omega)) (by first | decide | ((try simp only [Int32.lt_iff_toInt_lt, Int32.le_iff_toInt_le, ← Int32.toInt_inj, Int32.toInt_toInt64, t_neg1, Int32.reduceToInt, Int64.reduceToInt, Int32.reduceToNatClampNeg, true_or, or_true, true_and, and_true] at *) <;> omega) | ((try simp only [Int32.lt_iff_toInt_lt, Int32.le_iff_toInt_le, ← Int32.toInt_inj, Int32.toInt_toInt64, t_neg1, Int32.reduceToInt, Int64.reduceToInt, Int32.reduceToNatClampNeg, true_or, or_true, true_and, and_true] at *) <;> (simp (disch := ((try simp (disch := ((try simp (disch := ((try simp only [Int32.reduceToInt]) <;> omega)) only [t_add, t_sub, t_mul, Int32.reduceToInt]) <;> omega)) only [t_add, t_sub, t_mul, Int32.reduceToInt]) <;> omega)) only [t_add, t_sub, t_mul, Int32.reduceToInt]) <;> omega)) (by first | decide | ((try simp only [Int32.lt_iff_toInt_lt, Int32.le_iff_toInt_le, ← Int32.toInt_inj, Int32.toInt_toInt64, t_neg1, Int32.reduceToInt, Int64.reduceToInt, Int32.reduceToNatClampNeg, true_or, or_true, true_and, and_true] at *) <;> omega) | ((try simp only [Int32.lt_iff_toInt_lt, Int32.le_iff_toInt_le, ← Int32.toInt_inj, Int32.toInt_toInt64, t_neg1, Int32.reduceToInt, Int64.reduceToInt, Int32.reduceToNatClampNeg, true_or, or_true, true_and, and_true] at *) <;> (simp (disch := ((try simp (disch := ((try simp (disch := ((try simp only [Int32.reduceToInt]) <;> omega)) only [t_add, t_sub, t_mul, Int32.reduceToInt]) <;> omega)) only [t_add, t_sub, t_mul, Int32.reduceToInt]) <;> omega)) only [t_add, t_sub, t_mul, Int32.reduceToInt]) <;> omega)) _ (by decide) t_mi) (fun r5 h4 => ?_)
        obtain ⟨t38, t39⟩ := r5
        dsimp only at h4 ⊢
        refine t_ite (fun c6 => ?_) (fun c6 => ?_)
        · unfold wX11_steered_j213
          exact ih (t_n1 c1 hi) (by first | decide | ((try simp only [Int32.lt_iff_toInt_lt, Int32.le_iff_toInt_le, ← Int32.toInt_inj, Int32.toInt_toInt64, t_neg1, Int32.reduceToInt, Int64.reduceToInt, Int32.reduceToNatClampNeg, true_or, or_true, true_and, and_true] at *) <;> omega) | ((try simp only [Int32.lt_iff_toInt_lt, Int32.le_iff_toInt_le, ← Int32.toInt_inj, Int32.toInt_toInt64, t_neg1, Int32.reduceToInt, Int64.reduceToInt, Int32.reduceToNatClampNeg, true_or, or_true, true_and, and_true] at *) <;> (simp (disch := ((try simp (disch := ((try simp (disch := ((try simp only [Int32.reduceToInt]) <;> omega)) only [t_add, t_sub, t_mul, Int32.reduceToInt]) <;> omega)) only [t_add, t_sub, t_mul, Int32.reduceToInt]) <;> omega)) only [t_add, t_sub, t_mul, Int32.reduceToInt]) <;> omega)) (t_m1 c1 hm)
        · refine t_ite (fun c7 => ?_) (fun c7 => ?_)
          · unfold wX11_steered_j201
            unfold wX11_steered_j213
            exact ih (t_n1 c1 hi) (by first | decide | ((try simp only [Int32.lt_iff_toInt_lt, Int32.le_iff_toInt_le, ← Int32.toInt_inj, Int32.toInt_toInt64, t_neg1, Int32.reduceToInt, Int64.reduceToInt, Int32.reduceToNatClampNeg, true_or, or_true, true_and, and_true] at *) <;> omega) | ((try simp only [Int32.lt_iff_toInt_lt, Int32.le_iff_toInt_le, ← Int32.toInt_inj, Int32.toInt_toInt64, t_neg1, Int32.reduceToInt, Int64.reduceToInt, Int32.reduceToNatClampNeg, true_or, or_true, true_and, and_true] at *) <;> (simp (disch := ((try simp (disch := ((try simp (disch := ((try simp only [Int32.reduceToInt]) <;> omega)) only [t_add, t_sub, t_mul, Int32.reduceToInt]) <;> omega)) only [t_add, t_sub, t_mul, Int32.reduceToInt]) <;> omega)) only [t_add, t_sub, t_mul, Int32.reduceToInt]) <;> omega)) (t_m1 c1 hm)
          · refine t_ite (fun c8 => ?_) (fun c8 => ?_)
            · unfold wX11_steered_j201
              unfold wX11_steered_j213
              exact ih (t_n1 c1 hi) (by first | decide | ((try simp only [Int32.lt_iff_toInt_lt, Int32.le_iff_toInt_le, ← Int32.toInt_inj, Int32.toInt_toInt64, t_neg1, Int32.reduceToInt, Int64.reduceToInt, Int32.reduceToNatClampNeg, true_or, or_true, true_and, and_true] at *) <;> omega) | ((try simp only [Int32.lt_iff_toInt_lt, Int32.le_iff_toInt_le, ← Int32.toInt_inj, Int32.toInt_toInt64, t_neg1, Int32.reduceToInt, Int64.reduceToInt, Int32.reduceToNatClampNeg, true_or, or_true, true_and, and_true] at *) <;> (simp (disch := ((try simp (disch := ((try simp (disch := ((try simp only [Int32.reduceToInt]) <;> omega)) only [t_add, t_sub, t_mul, Int32.reduceToInt]) <;> omega)) only [t_add, t_sub, t_mul, Int32.reduceToInt]) <;> omega)) only [t_add, t_sub, t_mul, Int32.reduceToInt]) <;> omega)) (t_m1 c1 hm)
            · unfold wX11_steered_j213
              exact ih (t_n1 c1 hi) (by first | decide | ((try simp only [Int32.lt_iff_toInt_lt, Int32.le_iff_toInt_le, ← Int32.toInt_inj, Int32.toInt_toInt64, t_neg1, Int32.reduceToInt, Int64.reduceToInt, Int32.reduceToNatClampNeg, true_or, or_true, true_and, and_true] at *) <;> omega) | ((try simp only [Int32.lt_iff_toInt_lt, Int32.le_iff_toInt_le, ← Int32.toInt_inj, Int32.toInt_toInt64, t_neg1, Int32.reduceToInt, Int64.reduceToInt, Int32.reduceToNatClampNeg, true_or, or_true, true_and, and_true] at *) <;> (simp (disch := ((try simp (disch := ((try simp (disch := ((try simp only [Int32.reduceToInt]) <;> omega)) only [t_add, t_sub, t_mul, Int32.reduceToInt]) <;> omega)) only [t_add, t_sub, t_mul, Int32.reduceToInt]) <;> omega)) only [t_add, t_sub, t_mul, Int32.reduceToInt]) <;> omega)) (t_m1 c1 hm)
      · unfold wX11_steered_j98
        refine t_bind (wX11_steered_h109_T hR hP (by first | decide | ((try simp only [Int32.lt_iff_toInt_lt, Int32.le_iff_toInt_le, ← Int32.toInt_inj, Int32.toInt_toInt64, t_neg1, Int32.reduceToInt, Int64.reduceToInt, Int32.reduceToNatClampNeg, true_or, or_true, true_and, and_true] at *) <;> omega) | ((try simp only [Int32.lt_iff_toInt_lt, Int32.le_iff_toInt_le, ← Int32.toInt_inj, Int32.toInt_toInt64, t_neg1, Int32.reduceToInt, Int64.reduceToInt, Int32.reduceToNatClampNeg, true_or, or_true, true_and, and_true] at *) <;> (simp (disch := ((try simp (disch := ((try simp (disch := ((try simp only [Int32.reduceToInt]) <;> omega)) only [t_add, t_sub, t_mul, Int32.reduceToInt]) <;> omega)) only [t_add, t_sub, t_mul, Int32.reduceToInt]) <;> omega)) only [t_add, t_sub, t_mul, Int32.reduceToInt]) <;> omega)) (by first | decide | ((try simp only [Int32.lt_iff_toInt_lt, Int32.le_iff_toInt_le, ← Int32.toInt_inj, Int32.toInt_toInt64, t_neg1, Int32.reduceToInt, Int64.reduceToInt, Int32.reduceToNatClampNeg, true_or, or_true, true_and, and_true] at *) <;> omega) | ((try simp only [Int32.lt_iff_toInt_lt, Int32.le_iff_toInt_le, ← Int32.toInt_inj, Int32.toInt_toInt64, t_neg1, Int32.reduceToInt, Int64.reduceToInt, Int32.reduceToNatClampNeg, true_or, or_true, true_and, and_true] at *) <;> (simp (disch := ((try simp (disch := ((try simp (disch := ((try simp only [Int32.reduceToInt]) <;> omega)) only [t_add, t_sub, t_mul, Int32.reduceToInt]) <;> omega)) only [t_add, t_sub, t_mul, Int32.reduceToInt]) <;> omega)) only [t_add, t_sub, t_mul, Int32.reduceToInt]) <;> omega)) (by first | decide | ((try simp only [Int32.lt_iff_toInt_lt, Int32.le_iff_toInt_le, ← Int32.toInt_inj, Int32.toInt_toInt64, t_neg1, Int32.reduceToInt, Int64.reduceToInt, Int32.reduceToNatClampNeg, true_or, or_true, true_and, and_true] at *) <;> omega) | ((try simp only [Int32.lt_iff_toInt_lt, Int32.le_iff_toInt_le, ← Int32.toInt_inj, Int32.toInt_toInt64, t_neg1, Int32.reduceToInt, Int64.reduceToInt, Int32.reduceToNatClampNeg, true_or, or_true, true_and, and_true] at *) <;> (simp (disch := ((try simp (disch := ((try simp (disch := ((try simp only [Int32.reduceToInt]) <;> omega)) only [t_add, t_sub, t_mul, Int32.reduceToInt]) <;> omega)) only [t_add, t_sub, t_mul, Int32.reduceToInt]) <;> omega)) only [t_add, t_sub, t_mul, Int32.reduceToInt]) <;> omega)) (by first | decide | ((try simp only [Int32.lt_iff_toInt_lt, Int32.le_iff_toInt_le, ← Int32.toInt_inj, Int32.toInt_toInt64, t_neg1, Int32.reduceToInt, Int64.reduceToInt, Int32.reduceToNatClampNeg, true_or, or_true, true_and, and_true] at *) <;> omega) | ((try simp only [Int32.lt_iff_toInt_lt, Int32.le_iff_toInt_le, ← Int32.toInt_inj, Int32.toInt_toInt64, t_neg1, Int32.reduceToInt, Int64.reduceToInt, Int32.reduceToNatClampNeg, true_or, or_true, true_and, and_true] at *) <;> (simp (disch := ((try simp (disch := ((try simp (disch := ((try simp only [Int32.reduceToInt]) <;> omega)) only [t_add, t_sub, t_mul, Int32.reduceToInt]) <;> omega)) only [t_add, t_sub, t_mul, Int32.reduceToInt]) <;> omega)) only [t_add, t_sub, t_mul, Int32.reduceToInt]) <;> omega)) _ (by decide) t_mi) (fun r10 h9 => ?_)
        obtain ⟨t38, t39⟩ := r10
        dsimp only at h9 ⊢
        refine t_ite (fun c11 => ?_) (fun c11 => ?_)
        · unfold wX11_steered_j213
          exact ih (t_n1 c1 hi) (by first | decide | ((try simp only [Int32.lt_iff_toInt_lt, Int32.le_iff_toInt_le, ← Int32.toInt_inj, Int32.toInt_toInt64, t_neg1, Int32.reduceToInt, Int64.reduceToInt, Int32.reduceToNatClampNeg, true_or, or_true, true_and, and_true] at *) <;> omega) | ((try simp only [Int32.lt_iff_toInt_lt, Int32.le_iff_toInt_le, ← Int32.toInt_inj, Int32.toInt_toInt64, t_neg1, Int32.reduceToInt, Int64.reduceToInt, Int32.reduceToNatClampNeg, true_or, or_true, true_and, and_true] at *) <;> (simp (disch := ((try simp (disch := ((try simp (disch := ((try simp only [Int32.reduceToInt]) <;> omega)) only [t_add, t_sub, t_mul, Int32.reduceToInt]) <;> omega)) only [t_add, t_sub, t_mul, Int32.reduceToInt]) <;> omega)) only [t_add, t_sub, t_mul, Int32.reduceToInt]) <;> omega)) (t_m1 c1 hm)
        · refine t_ite (fun c12 => ?_) (fun c12 => ?_)
          · unfold wX11_steered_j201
            unfold wX11_steered_j213
            exact ih (t_n1 c1 hi) (by first | decide | ((try simp only [Int32.lt_iff_toInt_lt, Int32.le_iff_toInt_le, ← Int32.toInt_inj, Int32.toInt_toInt64, t_neg1, Int32.reduceToInt, Int64.reduceToInt, Int32.reduceToNatClampNeg, true_or, or_true, true_and, and_true] at *) <;> omega) | ((try simp only [Int32.lt_iff_toInt_lt, Int32.le_iff_toInt_le, ← Int32.toInt_inj, Int32.toInt_toInt64, t_neg1, Int32.reduceToInt, Int64.reduceToInt, Int32.reduceToNatClampNeg, true_or, or_true, true_and, and_true] at *) <;> (simp (disch := ((try simp (disch := ((try simp (disch := ((try simp only [Int32.reduceToInt]) <;> omega)) only [t_add, t_sub, t_mul, Int32.reduceToInt]) <;> omega)) only [t_add, t_sub, t_mul, Int32.reduceToInt]) <;> omega)) only [t_add, t_sub, t_mul, Int32.reduceToInt]) <;> omega)) (t_m1 c1 hm)
          · refine t_ite (fun c13 => ?_) (fun c13 => ?_)
            · unfold wX11_steered_j201
              unfold wX11_steered_j213
              exact ih (t_n1 c1 hi) (by first | decide | ((try simp only [Int32.lt_iff_toInt_lt, Int32.le_iff_toInt_le, ← Int32.toInt_inj, Int32.toInt_toInt64, t_neg1, Int32.reduceToInt, Int64.reduceToInt, Int32.reduceToNatClampNeg, true_or, or_true, true_and, and_true] at *) <;> omega) | ((try simp only [Int32.lt_iff_toInt_lt, Int32.le_iff_toInt_le, ← Int32.toInt_inj, Int32.toInt_toInt64, t_neg1, Int32.reduceToInt, Int64.reduceToInt, Int32.reduceToNatClampNeg, true_or, or_true, true_and, and_true] at *) <;> (simp (disch := ((try simp (disch := ((try simp (disch := ((try simp only [Int32.reduceToInt]) <;> omega)) only [t_add, t_sub, t_mul, Int32.reduceToInt]) <;> omega)) only [t_add, t_sub, t_mul, Int32.reduceToInt]) <;> omega)) only [t_add, t_sub, t_mul, Int32.reduceToInt]) <;> omega)) (t_m1 c1 hm)
            · unfold wX11_steered_j213
              exact ih (t_n1 c1 hi) (by first | decide | ((try simp only [Int32.lt_iff_toInt_lt, Int32.le_iff_toInt_le, ← Int32.toInt_inj, Int32.toInt_toInt64, t_neg1, Int32.reduceToInt, Int64.reduceToInt, Int32.reduceToNatClampNeg, true_or, or_true, true_and, and_true] at *) <;> omega) | ((try simp only [Int32.lt_iff_toInt_lt, Int32.le_iff_toInt_le, ← Int32.toInt_inj, Int32.toInt_toInt64, t_neg1, Int32.reduceToInt, Int64.reduceToInt, Int32.reduceToNatClampNeg, true_or, or_true, true_and, and_true] at *) <;> (simp (disch := ((try simp (disch := ((try simp (disch := ((try simp only [Int32.reduceToInt]) <;> omega)) only [t_add, t_sub, t_mul, Int32.reduceToInt]) <;> omega)) only [t_add, t_sub, t_mul, Int32.reduceToInt]) <;> omega)) only [t_add, t_sub, t_mul, Int32.reduceToInt]) <;> omega)) (t_m1 c1 hm)
    · exact t_some hf
theorem wX11_steered_T {x1 : Int32} {x2 : Int32} {x3 : Int32} {x4 : Int32} {x5 : Int32} {s : wS} (hR : RQ s)  : Tot (wX11_steered x1 x2 x3 x4 x5 s) (fun (r : Int32 × wS) => wA bQ s r.2) := by
  unfold wX11_steered
  have hb := RQ_b hR
  refine t_bind (wX11_canAsk_T) (fun t1 h1 => ?_)
  refine t_ite (fun c2 => ?_) (fun c2 => ?_)
  · exact t_some wA.refl
  · refine t_bind (wX11_isMany_T) (fun t4 h3 => ?_)
    refine t_ite (fun c4 => ?_) (fun c4 => ?_)
    · exact t_some wA.refl
    · refine t_bind (wX11_isWorld_T) (fun t7 h5 => ?_)
      refine t_ite (fun c6 => ?_) (fun c6 => ?_)
      · exact t_some wA.refl
      · refine t_bind (wX11_isThing_T hR) (fun t10 h7 => ?_)
        refine t_ite (fun c8 => ?_) (fun c8 => ?_)
        · exact t_some wA.refl
        · refine t_bind (wX11_in_T) (fun t13 h9 => ?_)
          refine t_ite (fun c10 => ?_) (fun c10 => ?_)
          · exact t_some wA.refl
          · refine t_bind (wX11_keeps_T hR (by first | decide | ((try simp only [Int32.lt_iff_toInt_lt, Int32.le_iff_toInt_le, ← Int32.toInt_inj, Int32.toInt_toInt64, t_neg1, Int32.reduceToInt, Int64.reduceToInt, Int32.reduceToNatClampNeg, true_or, or_true, true_and, and_true] at *) <;> omega) | ((try simp only [Int32.lt_iff_toInt_lt, Int32.le_iff_toInt_le, ← Int32.toInt_inj, Int32.toInt_toInt64, t_neg1, Int32.reduceToInt, Int64.reduceToInt, Int32.reduceToNatClampNeg, true_or, or_true, true_and, and_true] at *) <;> (simp (disch := ((try simp (disch := ((try simp (disch := ((try simp only [Int32.reduceToInt]) <;> omega)) only [t_add, t_sub, t_mul, Int32.reduceToInt]) <;> omega)) only [t_add, t_sub, t_mul, Int32.reduceToInt]) <;> omega)) only [t_add, t_sub, t_mul, Int32.reduceToInt]) <;> omega)) (by first | decide | ((try simp only [Int32.lt_iff_toInt_lt, Int32.le_iff_toInt_le, ← Int32.toInt_inj, Int32.toInt_toInt64, t_neg1, Int32.reduceToInt, Int64.reduceToInt, Int32.reduceToNatClampNeg, true_or, or_true, true_and, and_true] at *) <;> omega) | ((try simp only [Int32.lt_iff_toInt_lt, Int32.le_iff_toInt_le, ← Int32.toInt_inj, Int32.toInt_toInt64, t_neg1, Int32.reduceToInt, Int64.reduceToInt, Int32.reduceToNatClampNeg, true_or, or_true, true_and, and_true] at *) <;> (simp (disch := ((try simp (disch := ((try simp (disch := ((try simp only [Int32.reduceToInt]) <;> omega)) only [t_add, t_sub, t_mul, Int32.reduceToInt]) <;> omega)) only [t_add, t_sub, t_mul, Int32.reduceToInt]) <;> omega)) only [t_add, t_sub, t_mul, Int32.reduceToInt]) <;> omega))) (fun r12 h11 => ?_)
            obtain ⟨t16, s17⟩ := r12
            dsimp only at h11 ⊢
            have a13 : wA bQ s s17 := (h11.1.mono bP_le_bQ)
            have q14 := sameQ_of a13
            have w14 := wW_same q14.1
            have R14 := RQ_A a13 hR
            have p15 := h11.1 152 33 rfl
            refine t_bind (wX11_gathers_T R14) (fun s20 h16 => ?_)
            have a17 : wA bQ s s20 := a13.trans h16.1
            have q18 := sameQ_of a17
            have w18 := wW_same q18.1
            have R18 := RQ_A a17 hR
            have pb19 := (h16.2).1
            refine t_bind (wX11_steered_h73_T R18 h16.2 (by first | decide | ((try simp only [q14.1, q14.2.2.2.2, w14, p15, q18.1, q18.2.2.2.2, w18, Int32.lt_iff_toInt_lt, Int32.le_iff_toInt_le, ← Int32.toInt_inj, Int32.toInt_toInt64, t_neg1, Int32.reduceToInt, Int64.reduceToInt, Int32.reduceToNatClampNeg, true_or, or_true, true_and, and_true] at *) <;> omega) | ((try simp only [q14.1, q14.2.2.2.2, w14, p15, q18.1, q18.2.2.2.2, w18, Int32.lt_iff_toInt_lt, Int32.le_iff_toInt_le, ← Int32.toInt_inj, Int32.toInt_toInt64, t_neg1, Int32.reduceToInt, Int64.reduceToInt, Int32.reduceToNatClampNeg, true_or, or_true, true_and, and_true] at *) <;> (simp (disch := ((try simp (disch := ((try simp (disch := ((try simp only [Int32.reduceToInt]) <;> omega)) only [t_add, t_sub, t_mul, Int32.reduceToInt]) <;> omega)) only [t_add, t_sub, t_mul, Int32.reduceToInt]) <;> omega)) only [t_add, t_sub, t_mul, Int32.reduceToInt]) <;> omega)) (by first | decide | ((try simp only [q14.1, q14.2.2.2.2, w14, p15, q18.1, q18.2.2.2.2, w18, Int32.lt_iff_toInt_lt, Int32.le_iff_toInt_le, ← Int32.toInt_inj, Int32.toInt_toInt64, t_neg1, Int32.reduceToInt, Int64.reduceToInt, Int32.reduceToNatClampNeg, true_or, or_true, true_and, and_true] at *) <;> omega) | ((try simp only [q14.1, q14.2.2.2.2, w14, p15, q18.1, q18.2.2.2.2, w18, Int32.lt_iff_toInt_lt, Int32.le_iff_toInt_le, ← Int32.toInt_inj, Int32.toInt_toInt64, t_neg1, Int32.reduceToInt, Int64.reduceToInt, Int32.reduceToNatClampNeg, true_or, or_true, true_and, and_true] at *) <;> (simp (disch := ((try simp (disch := ((try simp (disch := ((try simp only [Int32.reduceToInt]) <;> omega)) only [t_add, t_sub, t_mul, Int32.reduceToInt]) <;> omega)) only [t_add, t_sub, t_mul, Int32.reduceToInt]) <;> omega)) only [t_add, t_sub, t_mul, Int32.reduceToInt]) <;> omega)) _ (by decide) (Or.inl (by decide)) t_mi) (fun r21 h20 => ?_)
            obtain ⟨t48, t49, t50⟩ := r21
            dsimp only at h20 ⊢
            refine t_ite (fun c22 => ?_) (fun c22 => ?_)
            · exact t_some a17
            · refine t_ite (fun c23 => ?_) (fun c23 => ?_)
              · refine t_bind (t_ldI (n := 252) (by first | decide | ((try simp only [q14.1, q14.2.2.2.2, w14, p15, q18.1, q18.2.2.2.2, w18, Int32.lt_iff_toInt_lt, Int32.le_iff_toInt_le, ← Int32.toInt_inj, Int32.toInt_toInt64, t_neg1, Int32.reduceToInt, Int64.reduceToInt, Int32.reduceToNatClampNeg, true_or, or_true, true_and, and_true] at *) <;> omega) | ((try simp only [q14.1, q14.2.2.2.2, w14, p15, q18.1, q18.2.2.2.2, w18, Int32.lt_iff_toInt_lt, Int32.le_iff_toInt_le, ← Int32.toInt_inj, Int32.toInt_toInt64, t_neg1, Int32.reduceToInt, Int64.reduceToInt, Int32.reduceToNatClampNeg, true_or, or_true, true_and, and_true] at *) <;> (simp (disch := ((try simp (disch := ((try simp (disch := ((try simp only [Int32.reduceToInt]) <;> omega)) only [t_add, t_sub, t_mul, Int32.reduceToInt]) <;> omega)) only [t_add, t_sub, t_mul, Int32.reduceToInt]) <;> omega)) only [t_add, t_sub, t_mul, Int32.reduceToInt]) <;> omega)) (by first | decide | ((try simp only [q14.1, q14.2.2.2.2, w14, p15, q18.1, q18.2.2.2.2, w18, Int32.lt_iff_toInt_lt, Int32.le_iff_toInt_le, ← Int32.toInt_inj, Int32.toInt_toInt64, t_neg1, Int32.reduceToInt, Int64.reduceToInt, Int32.reduceToNatClampNeg, true_or, or_true, true_and, and_true] at *) <;> omega) | ((try simp only [q14.1, q14.2.2.2.2, w14, p15, q18.1, q18.2.2.2.2, w18, Int32.lt_iff_toInt_lt, Int32.le_iff_toInt_le, ← Int32.toInt_inj, Int32.toInt_toInt64, t_neg1, Int32.reduceToInt, Int64.reduceToInt, Int32.reduceToNatClampNeg, true_or, or_true, true_and, and_true] at *) <;> (simp (disch := ((try simp (disch := ((try simp (disch := ((try simp only [Int32.reduceToInt]) <;> omega)) only [t_add, t_sub, t_mul, Int32.reduceToInt]) <;> omega)) only [t_add, t_sub, t_mul, Int32.reduceToInt]) <;> omega)) only [t_add, t_sub, t_mul, Int32.reduceToInt]) <;> omega))) (fun t62 h24 => ?_)
                exact t_some a17
              · refine t_ite (fun c25 => ?_) (fun c25 => ?_)
                · exact t_some a17
                · exact t_some a17
theorem wX11_spare_T {x1 : Int32} {s : wS} (hR : RQ s)  : Tot (wX11_spare x1 s) (fun (_ : Int32) => True) := by
  unfold wX11_spare
  have hb := RQ_b hR
  refine t_bind (wX11_isWitness_T) (fun t1 h1 => ?_)
  refine t_ite (fun c2 => ?_) (fun c2 => ?_)
  · exact t_some trivial
  · refine t_bind (wX11_answersBy_T hR) (fun t4 h3 => ?_)
    exact t_some trivial
theorem wX11_trials_h101_T {x2 : Int32} {x3 : Int32} {x4 : Int64} {x6 : Int32} {x7 : Int32} {x8 : Int32} {x9 : Int32} {x10 : Int32} {s0 : wS} (hR : RQ s0)  : ∀ (n : Nat) {x11 : Int32} {s : wS}, wA bP s0 s → 0 ≤ x11.toInt → 2147483648 - x11.toInt < (n : Int) → Tot (wX11_trials_h101 x2 x3 x4 x6 x7 x8 x9 x10 n x11 s) (fun (r : wS) => wA bP s0 r) := by
  intro n
  induction n with
  | zero =>
    intro x11 s ha hi hm
    exact (t_m0 hm).elim
  | succ n ih =>
    intro x11 s ha hi hm
    rw [wX11_trials_h101]
    have hb := RQ_b hR
    have q1 := sameP ha
    have w1 := wW_same q1.1
    have R1 := RQ_P ha hR
    have p1 := ha 152 33 rfl
    refine t_bind (wX11_worlds_T) (fun t20 h2 => ?_)
    refine t_ite (fun c3 => ?_) (fun c3 => ?_)
    · refine t_bind (t_stZ (B := bP) (n := 512) (by first | decide | ((try simp only [q1.1, q1.2.2.2.2, w1, p1, Int32.lt_iff_toInt_lt, Int32.le_iff_toInt_le, ← Int32.toInt_inj, Int32.toInt_toInt64, t_neg1, Int32.reduceToInt, Int64.reduceToInt, Int32.reduceToNatClampNeg, true_or, or_true, true_and, and_true] at *) <;> omega) | ((try simp only [q1.1, q1.2.2.2.2, w1, p1, Int32.lt_iff_toInt_lt, Int32.le_iff_toInt_le, ← Int32.toInt_inj, Int32.toInt_toInt64, t_neg1, Int32.reduceToInt, Int64.reduceToInt, Int32.reduceToNatClampNeg, true_or, or_true, true_and, and_true] at *) <;> (simp (disch := ((try simp (disch := ((try simp (disch := ((try simp only [Int32.reduceToInt]) <;> omega)) only [t_add, t_sub, t_mul, Int32.reduceToInt]) <;> omega)) only [t_add, t_sub, t_mul, Int32.reduceToInt]) <;> omega)) only [t_add, t_sub, t_mul, Int32.reduceToInt]) <;> omega)) (by first | decide | ((try simp only [q1.1, q1.2.2.2.2, w1, p1, Int32.lt_iff_toInt_lt, Int32.le_iff_toInt_le, ← Int32.toInt_inj, Int32.toInt_toInt64, t_neg1, Int32.reduceToInt, Int64.reduceToInt, Int32.reduceToNatClampNeg, true_or, or_true, true_and, and_true] at *) <;> omega) | ((try simp only [q1.1, q1.2.2.2.2, w1, p1, Int32.lt_iff_toInt_lt, Int32.le_iff_toInt_le, ← Int32.toInt_inj, Int32.toInt_toInt64, t_neg1, Int32.reduceToInt, Int64.reduceToInt, Int32.reduceToNatClampNeg, true_or, or_true, true_and, and_true] at *) <;> (simp (disch := ((try simp (disch := ((try simp (disch := ((try simp only [Int32.reduceToInt]) <;> omega)) only [t_add, t_sub, t_mul, Int32.reduceToInt]) <;> omega)) only [t_add, t_sub, t_mul, Int32.reduceToInt]) <;> omega)) only [t_add, t_sub, t_mul, Int32.reduceToInt]) <;> omega)) (fun _ => rfl)) (fun s23 h4 => ?_)
      have a5 : wA bP s0 s23 := ha.trans h4.1
      have q6 := sameP a5
      have w6 := wW_same q6.1
      have R6 := RQ_P a5 hR
      have p6 := a5 152 33 rfl
      exact ih a5 (t_n1 c3 hi) (t_m1 c3 hm)
    · exact t_some ha
theorem wX11_trials_h237_T {x2 : Int32} {x3 : Int32} {x4 : Int64} {x6 : Int32} {x7 : Int32} {x8 : Int32} {x9 : Int32} {x10 : Int32} {x11 : Int32} {x12 : Int32} {x13 : Int32} {x14 : Int32} {x15 : Int32} {s0 : wS} (hR : RQ s0) (hP : PV s0) (hp : 0 ≤ x14.toInt) (hp2 : x14.toInt < (s0.1 152 33).toInt) (hy : 0 ≤ x15.toInt) (hy2 : x15.toInt ≤ 1) : ∀ (n : Nat) {x16 : Int32} {s : wS}, wA bP s0 s → 0 ≤ x16.toInt → 2147483648 - x16.toInt < (n : Int) → Tot (wX11_trials_h237 x2 x3 x4 x6 x7 x8 x9 x10 x11 x12 x13 x14 x15 n x16 s) (fun (r : wS) => wA bP s0 r) := by
  intro n
  induction n with
  | zero =>
    intro x16 s ha hi hm
    exact (t_m0 hm).elim
  | succ n ih =>
    intro x16 s ha hi hm
    rw [wX11_trials_h237]
    have hb := RQ_b hR
    have hpb := hP.1
    have q1 := sameP ha
    have w1 := wW_same q1.1
    have R1 := RQ_P ha hR
    have p1 := ha 152 33 rfl
    refine t_bind (wX11_worlds_T) (fun t47 h2 => ?_)
    refine t_ite (fun c3 => ?_) (fun c3 => ?_)
    · refine t_bind (t_ldI (n := 512) (by first | decide | ((try simp only [q1.1, q1.2.2.2.2, w1, p1, Int32.lt_iff_toInt_lt, Int32.le_iff_toInt_le, ← Int32.toInt_inj, Int32.toInt_toInt64, t_neg1, Int32.reduceToInt, Int64.reduceToInt, Int32.reduceToNatClampNeg, true_or, or_true, true_and, and_true] at *) <;> omega) | ((try simp only [q1.1, q1.2.2.2.2, w1, p1, Int32.lt_iff_toInt_lt, Int32.le_iff_toInt_le, ← Int32.toInt_inj, Int32.toInt_toInt64, t_neg1, Int32.reduceToInt, Int64.reduceToInt, Int32.reduceToNatClampNeg, true_or, or_true, true_and, and_true] at *) <;> (simp (disch := ((try simp (disch := ((try simp (disch := ((try simp only [Int32.reduceToInt]) <;> omega)) only [t_add, t_sub, t_mul, Int32.reduceToInt]) <;> omega)) only [t_add, t_sub, t_mul, Int32.reduceToInt]) <;> omega)) only [t_add, t_sub, t_mul, Int32.reduceToInt]) <;> omega)) (by first | decide | ((try simp only [q1.1, q1.2.2.2.2, w1, p1, Int32.lt_iff_toInt_lt, Int32.le_iff_toInt_le, ← Int32.toInt_inj, Int32.toInt_toInt64, t_neg1, Int32.reduceToInt, Int64.reduceToInt, Int32.reduceToNatClampNeg, true_or, or_true, true_and, and_true] at *) <;> omega) | ((try simp only [q1.1, q1.2.2.2.2, w1, p1, Int32.lt_iff_toInt_lt, Int32.le_iff_toInt_le, ← Int32.toInt_inj, Int32.toInt_toInt64, t_neg1, Int32.reduceToInt, Int64.reduceToInt, Int32.reduceToNatClampNeg, true_or, or_true, true_and, and_true] at *) <;> (simp (disch := ((try simp (disch := ((try simp (disch := ((try simp only [Int32.reduceToInt]) <;> omega)) only [t_add, t_sub, t_mul, Int32.reduceToInt]) <;> omega)) only [t_add, t_sub, t_mul, Int32.reduceToInt]) <;> omega)) only [t_add, t_sub, t_mul, Int32.reduceToInt]) <;> omega))) (fun t50 h4 => ?_)
      refine t_bind (wX11_leaves_T R1 (PV_P ha hP) (by first | decide | ((try simp only [q1.1, q1.2.2.2.2, w1, p1, Int32.lt_iff_toInt_lt, Int32.le_iff_toInt_le, ← Int32.toInt_inj, Int32.toInt_toInt64, t_neg1, Int32.reduceToInt, Int64.reduceToInt, Int32.reduceToNatClampNeg, true_or, or_true, true_and, and_true] at *) <;> omega) | ((try simp only [q1.1, q1.2.2.2.2, w1, p1, Int32.lt_iff_toInt_lt, Int32.le_iff_toInt_le, ← Int32.toInt_inj, Int32.toInt_toInt64, t_neg1, Int32.reduceToInt, Int64.reduceToInt, Int32.reduceToNatClampNeg, true_or, or_true, true_and, and_true] at *) <;> (simp (disch := ((try simp (disch := ((try simp (disch := ((try simp only [Int32.reduceToInt]) <;> omega)) only [t_add, t_sub, t_mul, Int32.reduceToInt]) <;> omega)) only [t_add, t_sub, t_mul, Int32.reduceToInt]) <;> omega)) only [t_add, t_sub, t_mul, Int32.reduceToInt]) <;> omega)) (by first | decide | ((try simp only [q1.1, q1.2.2.2.2, w1, p1, Int32.lt_iff_toInt_lt, Int32.le_iff_toInt_le, ← Int32.toInt_inj, Int32.toInt_toInt64, t_neg1, Int32.reduceToInt, Int64.reduceToInt, Int32.reduceToNatClampNeg, true_or, or_true, true_and, and_true] at *) <;> omega) | ((try simp only [q1.1, q1.2.2.2.2, w1, p1, Int32.lt_iff_toInt_lt, Int32.le_iff_toInt_le, ← Int32.toInt_inj, Int32.toInt_toInt64, t_neg1, Int32.reduceToInt, Int64.reduceToInt, Int32.reduceToNatClampNeg, true_or, or_true, true_and, and_true] at *) <;> (simp (disch := ((try simp (disch := ((try simp (disch := ((try simp only [Int32.reduceToInt]) <;> omega)) only [t_add, t_sub, t_mul, Int32.reduceToInt]) <;> omega)) only [t_add, t_sub, t_mul, Int32.reduceToInt]) <;> omega)) only [t_add, t_sub, t_mul, Int32.reduceToInt]) <;> omega)) (by first | decide | ((try simp only [q1.1, q1.2.2.2.2, w1, p1, Int32.lt_iff_toInt_lt, Int32.le_iff_toInt_le, ← Int32.toInt_inj, Int32.toInt_toInt64, t_neg1, Int32.reduceToInt, Int64.reduceToInt, Int32.reduceToNatClampNeg, true_or, or_true, true_and, and_true] at *) <;> omega) | ((try simp only [q1.1, q1.2.2.2.2, w1, p1, Int32.lt_iff_toInt_lt, Int32.le_iff_toInt_le, ← Int32.toInt_inj, Int32.toInt_toInt64, t_neg1, Int32.reduceToInt, Int64.reduceToInt, Int32.reduceToNatClampNeg, true_or, or_true, true_and, and_true] at *) <;> (simp (disch := ((try simp (disch := ((try simp (disch := ((try simp only [Int32.reduceToInt]) <;> omega)) only [t_add, t_sub, t_mul, Int32.reduceToInt]) <;> omega)) only [t_add, t_sub, t_mul, Int32.reduceToInt]) <;> omega)) only [t_add, t_sub, t_mul, Int32.reduceToInt]) <;> omega)) (by first | decide | ((try simp only [q1.1, q1.2.2.2.2, w1, p1, Int32.lt_iff_toInt_lt, Int32.le_iff_toInt_le, ← Int32.toInt_inj, Int32.toInt_toInt64, t_neg1, Int32.reduceToInt, Int64.reduceToInt, Int32.reduceToNatClampNeg, true_or, or_true, true_and, and_true] at *) <;> omega) | ((try simp only [q1.1, q1.2.2.2.2, w1, p1, Int32.lt_iff_toInt_lt, Int32.le_iff_toInt_le, ← Int32.toInt_inj, Int32.toInt_toInt64, t_neg1, Int32.reduceToInt, Int64.reduceToInt, Int32.reduceToNatClampNeg, true_or, or_true, true_and, and_true] at *) <;> (simp (disch := ((try simp (disch := ((try simp (disch := ((try simp only [Int32.reduceToInt]) <;> omega)) only [t_add, t_sub, t_mul, Int32.reduceToInt]) <;> omega)) only [t_add, t_sub, t_mul, Int32.reduceToInt]) <;> omega)) only [t_add, t_sub, t_mul, Int32.reduceToInt]) <;> omega)) (by first | decide | ((try simp only [q1.1, q1.2.2.2.2, w1, p1, Int32.lt_iff_toInt_lt, Int32.le_iff_toInt_le, ← Int32.toInt_inj, Int32.toInt_toInt64, t_neg1, Int32.reduceToInt, Int64.reduceToInt, Int32.reduceToNatClampNeg, true_or, or_true, true_and, and_true] at *) <;> omega) | ((try simp only [q1.1, q1.2.2.2.2, w1, p1, Int32.lt_iff_toInt_lt, Int32.le_iff_toInt_le, ← Int32.toInt_inj, Int32.toInt_toInt64, t_neg1, Int32.reduceToInt, Int64.reduceToInt, Int32.reduceToNatClampNeg, true_or, or_true, true_and, and_true] at *) <;> (simp (disch := ((try simp (disch := ((try simp (disch := ((try simp only [Int32.reduceToInt]) <;> omega)) only [t_add, t_sub, t_mul, Int32.reduceToInt]) <;> omega)) only [t_add, t_sub, t_mul, Int32.reduceToInt]) <;> omega)) only [t_add, t_sub, t_mul, Int32.reduceToInt]) <;> omega)) (by first | decide | ((try simp only [q1.1, q1.2.2.2.2, w1, p1, Int32.lt_iff_toInt_lt, Int32.le_iff_toInt_le, ← Int32.toInt_inj, Int32.toInt_toInt64, t_neg1, Int32.reduceToInt, Int64.reduceToInt, Int32.reduceToNatClampNeg, true_or, or_true, true_and, and_true] at *) <;> omega) | ((try simp only [q1.1, q1.2.2.2.2, w1, p1, Int32.lt_iff_toInt_lt, Int32.le_iff_toInt_le, ← Int32.toInt_inj, Int32.toInt_toInt64, t_neg1, Int32.reduceToInt, Int64.reduceToInt, Int32.reduceToNatClampNeg, true_or, or_true, true_and, and_true] at *) <;> (simp (disch := ((try simp (disch := ((try simp (disch := ((try simp only [Int32.reduceToInt]) <;> omega)) only [t_add, t_sub, t_mul, Int32.reduceToInt]) <;> omega)) only [t_add, t_sub, t_mul, Int32.reduceToInt]) <;> omega)) only [t_add, t_sub, t_mul, Int32.reduceToInt]) <;> omega))) (fun t51 h5 => ?_)
      refine t_bind (t_stZ (B := bP) (n := 512) (by first | decide | ((try simp only [q1.1, q1.2.2.2.2, w1, p1, Int32.lt_iff_toInt_lt, Int32.le_iff_toInt_le, ← Int32.toInt_inj, Int32.toInt_toInt64, t_neg1, Int32.reduceToInt, Int64.reduceToInt, Int32.reduceToNatClampNeg, true_or, or_true, true_and, and_true] at *) <;> omega) | ((try simp only [q1.1, q1.2.2.2.2, w1, p1, Int32.lt_iff_toInt_lt, Int32.le_iff_toInt_le, ← Int32.toInt_inj, Int32.toInt_toInt64, t_neg1, Int32.reduceToInt, Int64.reduceToInt, Int32.reduceToNatClampNeg, true_or, or_true, true_and, and_true] at *) <;> (simp (disch := ((try simp (disch := ((try simp (disch := ((try simp only [Int32.reduceToInt]) <;> omega)) only [t_add, t_sub, t_mul, Int32.reduceToInt]) <;> omega)) only [t_add, t_sub, t_mul, Int32.reduceToInt]) <;> omega)) only [t_add, t_sub, t_mul, Int32.reduceToInt]) <;> omega)) (by first | decide | ((try simp only [q1.1, q1.2.2.2.2, w1, p1, Int32.lt_iff_toInt_lt, Int32.le_iff_toInt_le, ← Int32.toInt_inj, Int32.toInt_toInt64, t_neg1, Int32.reduceToInt, Int64.reduceToInt, Int32.reduceToNatClampNeg, true_or, or_true, true_and, and_true] at *) <;> omega) | ((try simp only [q1.1, q1.2.2.2.2, w1, p1, Int32.lt_iff_toInt_lt, Int32.le_iff_toInt_le, ← Int32.toInt_inj, Int32.toInt_toInt64, t_neg1, Int32.reduceToInt, Int64.reduceToInt, Int32.reduceToNatClampNeg, true_or, or_true, true_and, and_true] at *) <;> (simp (disch := ((try simp (disch := ((try simp (disch := ((try simp only [Int32.reduceToInt]) <;> omega)) only [t_add, t_sub, t_mul, Int32.reduceToInt]) <;> omega)) only [t_add, t_sub, t_mul, Int32.reduceToInt]) <;> omega)) only [t_add, t_sub, t_mul, Int32.reduceToInt]) <;> omega)) (fun _ => rfl)) (fun s53 h6 => ?_)
      have a7 : wA bP s0 s53 := ha.trans h6.1
      have q8 := sameP a7
      have w8 := wW_same q8.1
      have R8 := RQ_P a7 hR
      have p8 := a7 152 33 rfl
      exact ih a7 (t_n1 c3 hi) (t_m1 c3 hm)
    · exact t_some ha
theorem wX11_trials_h136_T {x2 x3 : Int32} {x4 : Int64} {x6 x7 x8 x9 x10 : Int32} {s0 : wS} (hR : RQ s0) (hw : 0 ≤ x10.toInt) (hw2 : x10.toInt < (wW s0).toInt) : ∀ (n : Nat) {x11 x12 x13 : Int32} {s : wS}, wA bQ s0 s → 0 ≤ x12.toInt → x12.toInt ≤ 9 → (x13 = 0 ∨ x13 = 1) → 9 - x12.toInt + x13.toInt < (n : Int) → Tot (wX11_trials_h136 x2 x3 x4 x6 x7 x8 x9 x10 n x11 x12 x13 s) (fun (r : Int32 × Int32 × wS) => wA bQ s0 r.2.2) := by
  intro n
  induction n with
  | zero =>
    intro x11 x12 x13 s ha h0 h9 hx hm
    exfalso
    rcases hx with rfl | rfl
    · rw [show (0 : Int32).toInt = 0 from rfl] at hm; omega
    · rw [show (1 : Int32).toInt = 1 from rfl] at hm; omega
  | succ n ih =>
    intro x11 x12 x13 s ha h0 h9 hx hm
    rw [wX11_trials_h136]
    refine t_ite (fun _ => t_some ha) (fun c0 => t_ite (fun c1 => t_ite (fun c2 => ?_) (fun _ => t_some ha)) (fun _ => t_some ha))
    have h12 := t_lt c2
    rw [show (9 : Int32).toInt = 9 from rfl] at h12
    have hx1 : x13 = 1 := by
      rcases hx with h | h
      · exact absurd h c0
      · exact h
    subst hx1
    rw [show (1 : Int32).toInt = 1 from rfl] at hm
    have hR1 := RQ_A ha hR
    refine t_bind (wX11_asksNext_T hR1) (fun r h => ?_)
    obtain ⟨t38, s39⟩ := r
    obtain ⟨a, hP, hp⟩ := h
    dsimp only at a hP hp ⊢
    have b := ha.trans a
    have stop : Tot (wX11_trials_j186 (wX11_trials_h136 x2 x3 x4 x6 x7 x8 x9 x10 n) x2 x3 x4 x6 x7 x8 x9 x10 x11 x12 t38 s39) (fun (r : Int32 × Int32 × wS) => wA bQ s0 r.2.2) := by
      unfold wX11_trials_j186 wX11_trials_j187
      refine t_ite (fun _ => ?_) (fun c => absurd rfl c)
      exact ih b h0 h9 (Or.inl rfl) (by rw [show (0 : Int32).toInt = 0 from rfl]; omega)
    refine t_ite (fun _ => stop) (fun c3 => ?_)
    have hc3 := t_ge c3
    rw [t_i0] at hc3
    refine t_bind wX11_greater_T (fun t60 _ => t_ite (fun _ => ?_) (fun _ => stop))
    unfold wX11_trials_j187
    refine t_ite (fun c => absurd c (by decide)) (fun _ => ?_)
    have hR2 := RQ_A b hR
    have hW : wW s39 = wW s0 := wW_same (sameQ_of b).1
    have hp2 : 0 ≤ t38.toInt ∧ t38.toInt < (s39.1 152 33).toInt := by omega
    refine t_bind (wX11_leaves_T hR2 hP hp2.1 hp2.2 (by decide) (by decide) hw (by rw [hW]; exact hw2)) (fun t43 _ => ?_)
    have e1 := t_pl (x := x12) (d := 1) (m := 1) rfl (by omega) (by omega) h0 (by omega)
    have nx : ∀ (y0 w : Int32), (0 ≤ w.toInt ∧ w.toInt ≤ 1) → Tot (wX11_trials_j232 (wX11_trials_h136 x2 x3 x4 x6 x7 x8 x9 x10 n) x2 x3 x4 x6 x7 x8 x9 x10 x12 1 t38 w y0 s39) (fun (r : Int32 × Int32 × wS) => wA bQ s0 r.2.2) := by
      intro y0 w hw1
      unfold wX11_trials_j232
      refine t_bind (wX11_trials_h237_T hR2 hP hp2.1 hp2.2 hw1.1 hw1.2 _ wA.refl (by decide) t_mi) (fun s55 h55 => ?_)
      exact ih (b.trans (h55.mono bP_le_bQ)) (by omega) (by omega) (Or.inr rfl) (by rw [show (1 : Int32).toInt = 1 from rfl]; omega)
    refine t_ite (fun _ => ?_) (fun _ => ?_)
    · unfold wX11_trials_j214
      exact t_ite (fun _ => nx _ _ (by decide)) (fun _ => nx _ _ (by decide))
    · unfold wX11_trials_j214
      exact t_ite (fun _ => nx _ _ (by decide)) (fun _ => nx _ _ (by decide))
theorem t_add64 {x y : Int64} (h : -9223372036854775808 ≤ x.toInt + y.toInt) (g : x.toInt + y.toInt < 9223372036854775808) : (x + y).toInt = x.toInt + y.toInt := by
  rw [Int64.toInt_add]
  exact Int.bmod_eq_of_le (by omega) (by omega)
theorem t_mul64 {x y : Int64} (h : -9223372036854775808 ≤ x.toInt * y.toInt) (g : x.toInt * y.toInt < 9223372036854775808) : (x * y).toInt = x.toInt * y.toInt := by
  rw [Int64.toInt_mul]
  exact Int.bmod_eq_of_le (by omega) (by omega)
theorem t_sub64 {x y : Int64} (h : -9223372036854775808 ≤ x.toInt - y.toInt) (g : x.toInt - y.toInt < 9223372036854775808) : (x - y).toInt = x.toInt - y.toInt := by
  rw [Int64.toInt_sub]
  exact Int.bmod_eq_of_le (by omega) (by omega)
theorem t_div64 {x y : Int64} (hx : 0 ≤ x.toInt) (hy : 0 < y.toInt) : (x / y).toInt = x.toInt / y.toInt := by
  rw [Int64.toInt_div_of_ne_right x y (fun e => by rw [e] at hy; exact absurd hy (by decide))]
  exact Int.tdiv_eq_ediv_of_nonneg hx
theorem t_rem64 {x y : Int64} (hx : 0 ≤ x.toInt) (hy : 0 < y.toInt) : (x - x / y * y).toInt = x.toInt % y.toInt := by
  have hd := t_div64 hx hy
  have h1 : 0 ≤ x.toInt / y.toInt := Int.ediv_nonneg hx (by omega)
  have h2 : x.toInt / y.toInt * y.toInt ≤ x.toInt := Int.ediv_mul_le _ (by omega)
  have h3 : 0 ≤ x.toInt / y.toInt * y.toInt := Int.mul_nonneg h1 (by omega)
  have hl := Int64.toInt_lt x
  have e1 : (x / y * y).toInt = x.toInt / y.toInt * y.toInt := by
    rw [t_mul64 (by rw [hd]; omega) (by rw [hd]; omega), hd]
  rw [t_sub64 (by rw [e1]; omega) (by rw [e1]; omega), e1, Int.emod_def, Int.mul_comm y.toInt]
theorem wX11_trials_h61_T {x2 x3 : Int32} {s0 : wS} (hR : RQ s0) (hW : 0 < (wW s0).toInt) : ∀ (n : Nat) {x4 : Int64} {x6 x7 x8 x9 : Int32} {s : wS}, wA bQ s0 s → 0 ≤ x4.toInt → x4.toInt < 2147483648 → 2147483648 - x9.toInt < (n : Int) → Tot (wX11_trials_h61 x2 x3 n x4 x6 x7 x8 x9 s) (fun (r : Int32 × Int32 × Int32 × wS) => wA bQ s0 r.2.2.2) := by
  intro n
  induction n with
  | zero => intro x4 x6 x7 x8 x9 s ha h0 h1 hm; exact (t_m0 hm).elim
  | succ n ih =>
    intro x4 x6 x7 x8 x9 s ha h0 h1 hm
    rw [wX11_trials_h61]
    refine t_ite (fun c => ?_) (fun _ => t_some ha)
    have hWs : wW s = wW s0 := wW_same (sameQ_of ha).1
    have hb := (RQ_b hR).2.2.2.2.2.2.1
    have k1 : (1103515245 : Int64).toInt = 1103515245 := rfl
    have k2 : (12345 : Int64).toInt = 12345 := rfl
    have k3 : (2147483648 : Int64).toInt = 2147483648 := rfl
    have k4 : (65536 : Int64).toInt = 65536 := rfl
    have e1 : (x4 * 1103515245).toInt = x4.toInt * 1103515245 := by rw [t_mul64 (by rw [k1]; omega) (by rw [k1]; omega), k1]
    have e2 : (x4 * 1103515245 + 12345).toInt = x4.toInt * 1103515245 + 12345 := by rw [t_add64 (by rw [e1, k2]; omega) (by rw [e1, k2]; omega), e1, k2]
    refine t_bind (t_rmL (by decide)) (fun t15 h15 => ?_)
    have e3 : t15.toInt = (x4.toInt * 1103515245 + 12345) % 2147483648 := by
      rw [h15, t_rem64 (by rw [e2]; omega) (by rw [k3]; omega), e2, k3]
    refine t_bind (t_dvL (by decide)) (fun t16 h16 => ?_)
    have e4 : t16.toInt = t15.toInt / 65536 := by
      rw [h16, t_div64 (by omega) (by rw [k4]; omega), k4]
    refine t_bind wX11_worlds_T (fun t17 h17 => ?_)
    rw [hWs] at h17
    have e5 : (t17.toInt64).toInt = (wW s0).toInt := by rw [Int32.toInt_toInt64, h17]
    refine t_bind (t_rmL (fun e => by rw [e] at e5; have e6 : (0 : Int64).toInt = 0 := rfl; omega)) (fun t19 h19 => ?_)
    have e6 : t19.toInt = t16.toInt % (wW s0).toInt := by
      rw [h19, t_rem64 (by omega) (by omega), e5]
    have e7 : 0 ≤ t19.toInt ∧ t19.toInt < (wW s0).toInt := by
      rw [e6]
      exact ⟨Int.emod_nonneg _ (by omega), Int.emod_lt_of_pos _ hW⟩
    have e8 : (t19.toInt32).toInt = t19.toInt := by
      rw [Int64.toInt_toInt32]
      exact Int.bmod_eq_of_le (by omega) (by omega)
    have hR1 := RQ_A ha hR
    refine t_bind (wX11_trials_h101_T hR1 _ wA.refl (by decide) t_mi) (fun s25 h25 => ?_)
    have a := ha.trans (h25.mono bP_le_bQ)
    refine t_bind wX11_worlds_T (fun t33 _ => ?_)
    refine t_bind (wX11_trials_h136_T hR (by rw [e8]; exact e7.1) (by rw [e8]; exact e7.2) _ a (by decide) (by decide) (Or.inr rfl) (by decide +kernel)) (fun r h => ?_)
    obtain ⟨t64, t65, s66⟩ := r
    dsimp only at h ⊢
    unfold wX11_trials_j278 wX11_trials_j298
    have nx : ∀ (y6 y7 y8 : Int32), Tot (wX11_trials_h61 x2 x3 n t15 y6 y7 y8 (x9 + 1) s66) (fun (r : Int32 × Int32 × Int32 × wS) => wA bQ s0 r.2.2.2) := fun y6 y7 y8 => ih h (by omega) (by omega) (t_m1 c hm)
    exact t_ite (fun _ => nx _ _ _) (fun _ => nx _ _ _)
theorem wX11_trials_T {x1 x2 x3 : Int32} {s : wS} (hR : RQ s) : Tot (wX11_trials x1 x2 x3 s) (fun (r : Int32 × wS) => wA bQ s r.2) := by
  unfold wX11_trials
  refine t_bind wX11_canAsk_T (fun t1 h1 => t_ite (fun _ => t_some wA.refl) (fun c1 => ?_))
  have hl : 0 < (s.1 163 0).toInt ∧ 0 ≤ x1.toInt ∧ x1.toInt < (s.1 152 2).toInt := by
    rcases h1 with h | h
    · exact h.2
    · exact absurd h c1
  refine t_bind wX11_in_T (fun t4 _ => t_ite (fun _ => t_some wA.refl) (fun _ => ?_))
  refine t_bind wX11_in_T (fun t7 _ => t_ite (fun _ => t_some wA.refl) (fun _ => ?_))
  refine t_bind (wX11_reaches_T hR hl.2.1 hl.2.2) (fun s11 h11 => ?_)
  have hR1 := RQ_P h11 hR
  have hW : wW s11 = wW s := wW_same (sameP h11).1
  have hb := (RQ_b hR).2.2.2.2.2.2.2
  have h6 := hR1.1.2.2.2.2.2.2.2.2
  have hl6 := Int32.toInt_lt (s11.1 163 6)
  refine t_bind (wX11_trials_h61_T hR1 (by rw [hW]; omega) _ wA.refl (by rw [Int32.toInt_toInt64]; exact h6) (by rw [Int32.toInt_toInt64]; omega) t_mi) (fun r h => ?_)
  obtain ⟨t75, t76, t77, s78⟩ := r
  have a := (h11.mono bP_le_bQ).trans h
  exact t_ite (fun _ => t_some a) (fun _ => t_ite (fun _ => t_some a) (fun _ => t_some a))
theorem wX11_old_h116_T {x2 : Int32} {x4 : Int32} {x5 : Int32} {x6 : Int32} {x7 : Int32} {x8 : Int32} {x9 : Int32} {s : wS} (hR : RQ s) (hm5 : x5.toInt ≤ (s.1 163 3).toInt) (hw : 0 ≤ x9.toInt) (hw2 : x9.toInt < (wW s).toInt) : ∀ (n : Nat) {x10 : Int32} {x11 : Int32}, 0 ≤ x11.toInt → 2147483648 - x11.toInt < (n : Int) → Tot (wX11_old_h116 x2 x4 x5 x6 x7 x8 x9 s n x10 x11) (fun (_ : Int32) => True) := by
  intro n
  induction n with
  | zero =>
    intro x10 x11 hi hm
    exact (t_m0 hm).elim
  | succ n ih =>
    intro x10 x11 hi hm
    rw [wX11_old_h116]
    have hb := RQ_b hR
    refine t_ite (fun c1 => ?_) (fun c1 => ?_)
    · refine t_bind (wX11_answerOf_T (by first | decide | ((try simp only [Int32.lt_iff_toInt_lt, Int32.le_iff_toInt_le, ← Int32.toInt_inj, Int32.toInt_toInt64, t_neg1, Int32.reduceToInt, Int64.reduceToInt, Int32.reduceToNatClampNeg, true_or, or_true, true_and, and_true] at *) <;> omega) | ((try simp only [Int32.lt_iff_toInt_lt, Int32.le_iff_toInt_le, ← Int32.toInt_inj, Int32.toInt_toInt64, t_neg1, Int32.reduceToInt, Int64.reduceToInt, Int32.reduceToNatClampNeg, true_or, or_true, true_and, and_true] at *) <;> (simp (disch := ((try simp (disch := ((try simp (disch := ((try simp only [Int32.reduceToInt]) <;> omega)) only [t_add, t_sub, t_mul, Int32.reduceToInt]) <;> omega)) only [t_add, t_sub, t_mul, Int32.reduceToInt]) <;> omega)) only [t_add, t_sub, t_mul, Int32.reduceToInt]) <;> omega)) (by first | decide | ((try simp only [Int32.lt_iff_toInt_lt, Int32.le_iff_toInt_le, ← Int32.toInt_inj, Int32.toInt_toInt64, t_neg1, Int32.reduceToInt, Int64.reduceToInt, Int32.reduceToNatClampNeg, true_or, or_true, true_and, and_true] at *) <;> omega) | ((try simp only [Int32.lt_iff_toInt_lt, Int32.le_iff_toInt_le, ← Int32.toInt_inj, Int32.toInt_toInt64, t_neg1, Int32.reduceToInt, Int64.reduceToInt, Int32.reduceToNatClampNeg, true_or, or_true, true_and, and_true] at *) <;> (simp (disch := ((try simp (disch := ((try simp (disch := ((try simp only [Int32.reduceToInt]) <;> omega)) only [t_add, t_sub, t_mul, Int32.reduceToInt]) <;> omega)) only [t_add, t_sub, t_mul, Int32.reduceToInt]) <;> omega)) only [t_add, t_sub, t_mul, Int32.reduceToInt]) <;> omega)) (by first | decide | ((try simp only [Int32.lt_iff_toInt_lt, Int32.le_iff_toInt_le, ← Int32.toInt_inj, Int32.toInt_toInt64, t_neg1, Int32.reduceToInt, Int64.reduceToInt, Int32.reduceToNatClampNeg, true_or, or_true, true_and, and_true] at *) <;> omega) | ((try simp only [Int32.lt_iff_toInt_lt, Int32.le_iff_toInt_le, ← Int32.toInt_inj, Int32.toInt_toInt64, t_neg1, Int32.reduceToInt, Int64.reduceToInt, Int32.reduceToNatClampNeg, true_or, or_true, true_and, and_true] at *) <;> (simp (disch := ((try simp (disch := ((try simp (disch := ((try simp only [Int32.reduceToInt]) <;> omega)) only [t_add, t_sub, t_mul, Int32.reduceToInt]) <;> omega)) only [t_add, t_sub, t_mul, Int32.reduceToInt]) <;> omega)) only [t_add, t_sub, t_mul, Int32.reduceToInt]) <;> omega)) (by first | decide | ((try simp only [Int32.lt_iff_toInt_lt, Int32.le_iff_toInt_le, ← Int32.toInt_inj, Int32.toInt_toInt64, t_neg1, Int32.reduceToInt, Int64.reduceToInt, Int32.reduceToNatClampNeg, true_or, or_true, true_and, and_true] at *) <;> omega) | ((try simp only [Int32.lt_iff_toInt_lt, Int32.le_iff_toInt_le, ← Int32.toInt_inj, Int32.toInt_toInt64, t_neg1, Int32.reduceToInt, Int64.reduceToInt, Int32.reduceToNatClampNeg, true_or, or_true, true_and, and_true] at *) <;> (simp (disch := ((try simp (disch := ((try simp (disch := ((try simp only [Int32.reduceToInt]) <;> omega)) only [t_add, t_sub, t_mul, Int32.reduceToInt]) <;> omega)) only [t_add, t_sub, t_mul, Int32.reduceToInt]) <;> omega)) only [t_add, t_sub, t_mul, Int32.reduceToInt]) <;> omega))) (fun t24 h2 => ?_)
      refine t_ite (fun c3 => ?_) (fun c3 => ?_)
      · refine t_bind (wX11_isTrue_T hR (by first | decide | ((try simp only [Int32.lt_iff_toInt_lt, Int32.le_iff_toInt_le, ← Int32.toInt_inj, Int32.toInt_toInt64, t_neg1, Int32.reduceToInt, Int64.reduceToInt, Int32.reduceToNatClampNeg, true_or, or_true, true_and, and_true] at *) <;> omega) | ((try simp only [Int32.lt_iff_toInt_lt, Int32.le_iff_toInt_le, ← Int32.toInt_inj, Int32.toInt_toInt64, t_neg1, Int32.reduceToInt, Int64.reduceToInt, Int32.reduceToNatClampNeg, true_or, or_true, true_and, and_true] at *) <;> (simp (disch := ((try simp (disch := ((try simp (disch := ((try simp only [Int32.reduceToInt]) <;> omega)) only [t_add, t_sub, t_mul, Int32.reduceToInt]) <;> omega)) only [t_add, t_sub, t_mul, Int32.reduceToInt]) <;> omega)) only [t_add, t_sub, t_mul, Int32.reduceToInt]) <;> omega)) (by first | decide | ((try simp only [Int32.lt_iff_toInt_lt, Int32.le_iff_toInt_le, ← Int32.toInt_inj, Int32.toInt_toInt64, t_neg1, Int32.reduceToInt, Int64.reduceToInt, Int32.reduceToNatClampNeg, true_or, or_true, true_and, and_true] at *) <;> omega) | ((try simp only [Int32.lt_iff_toInt_lt, Int32.le_iff_toInt_le, ← Int32.toInt_inj, Int32.toInt_toInt64, t_neg1, Int32.reduceToInt, Int64.reduceToInt, Int32.reduceToNatClampNeg, true_or, or_true, true_and, and_true] at *) <;> (simp (disch := ((try simp (disch := ((try simp (disch := ((try simp only [Int32.reduceToInt]) <;> omega)) only [t_add, t_sub, t_mul, Int32.reduceToInt]) <;> omega)) only [t_add, t_sub, t_mul, Int32.reduceToInt]) <;> omega)) only [t_add, t_sub, t_mul, Int32.reduceToInt]) <;> omega)) (by first | decide | ((try simp only [Int32.lt_iff_toInt_lt, Int32.le_iff_toInt_le, ← Int32.toInt_inj, Int32.toInt_toInt64, t_neg1, Int32.reduceToInt, Int64.reduceToInt, Int32.reduceToNatClampNeg, true_or, or_true, true_and, and_true] at *) <;> omega) | ((try simp only [Int32.lt_iff_toInt_lt, Int32.le_iff_toInt_le, ← Int32.toInt_inj, Int32.toInt_toInt64, t_neg1, Int32.reduceToInt, Int64.reduceToInt, Int32.reduceToNatClampNeg, true_or, or_true, true_and, and_true] at *) <;> (simp (disch := ((try simp (disch := ((try simp (disch := ((try simp only [Int32.reduceToInt]) <;> omega)) only [t_add, t_sub, t_mul, Int32.reduceToInt]) <;> omega)) only [t_add, t_sub, t_mul, Int32.reduceToInt]) <;> omega)) only [t_add, t_sub, t_mul, Int32.reduceToInt]) <;> omega)) (by first | decide | ((try simp only [Int32.lt_iff_toInt_lt, Int32.le_iff_toInt_le, ← Int32.toInt_inj, Int32.toInt_toInt64, t_neg1, Int32.reduceToInt, Int64.reduceToInt, Int32.reduceToNatClampNeg, true_or, or_true, true_and, and_true] at *) <;> omega) | ((try simp only [Int32.lt_iff_toInt_lt, Int32.le_iff_toInt_le, ← Int32.toInt_inj, Int32.toInt_toInt64, t_neg1, Int32.reduceToInt, Int64.reduceToInt, Int32.reduceToNatClampNeg, true_or, or_true, true_and, and_true] at *) <;> (simp (disch := ((try simp (disch := ((try simp (disch := ((try simp only [Int32.reduceToInt]) <;> omega)) only [t_add, t_sub, t_mul, Int32.reduceToInt]) <;> omega)) only [t_add, t_sub, t_mul, Int32.reduceToInt]) <;> omega)) only [t_add, t_sub, t_mul, Int32.reduceToInt]) <;> omega))) (fun t27 h4 => ?_)
        refine t_ite (fun c5 => ?_) (fun c5 => ?_)
        · unfold wX11_old_j151
          exact ih (t_n1 c1 hi) (t_m1 c1 hm)
        · unfold wX11_old_j150
          unfold wX11_old_j151
          exact ih (t_n1 c1 hi) (t_m1 c1 hm)
      · unfold wX11_old_j150
        unfold wX11_old_j151
        exact ih (t_n1 c1 hi) (t_m1 c1 hm)
    · exact t_some trivial
theorem wX11_old_h101_T {x2 : Int32} {x4 : Int32} {x5 : Int32} {x6 : Int32} {s : wS} (hR : RQ s) (hm5 : x5.toInt ≤ (s.1 163 3).toInt) : ∀ (n : Nat) {x7 : Int32} {x8 : Int32} {x9 : Int32}, 0 ≤ x9.toInt → 2147483648 - x9.toInt < (n : Int) → Tot (wX11_old_h101 x2 x4 x5 x6 s n x7 x8 x9) (fun (_ : Int32 × Int32) => True) := by
  intro n
  induction n with
  | zero =>
    intro x7 x8 x9 hi hm
    exact (t_m0 hm).elim
  | succ n ih =>
    intro x7 x8 x9 hi hm
    rw [wX11_old_h101]
    have hb := RQ_b hR
    refine t_bind (wX11_worlds_T) (fun t20 h1 => ?_)
    refine t_ite (fun c2 => ?_) (fun c2 => ?_)
    · refine t_bind (wX11_old_h116_T hR (by first | decide | ((try simp only [Int32.lt_iff_toInt_lt, Int32.le_iff_toInt_le, ← Int32.toInt_inj, Int32.toInt_toInt64, t_neg1, Int32.reduceToInt, Int64.reduceToInt, Int32.reduceToNatClampNeg, true_or, or_true, true_and, and_true] at *) <;> omega) | ((try simp only [Int32.lt_iff_toInt_lt, Int32.le_iff_toInt_le, ← Int32.toInt_inj, Int32.toInt_toInt64, t_neg1, Int32.reduceToInt, Int64.reduceToInt, Int32.reduceToNatClampNeg, true_or, or_true, true_and, and_true] at *) <;> (simp (disch := ((try simp (disch := ((try simp (disch := ((try simp only [Int32.reduceToInt]) <;> omega)) only [t_add, t_sub, t_mul, Int32.reduceToInt]) <;> omega)) only [t_add, t_sub, t_mul, Int32.reduceToInt]) <;> omega)) only [t_add, t_sub, t_mul, Int32.reduceToInt]) <;> omega)) (by first | decide | ((try simp only [Int32.lt_iff_toInt_lt, Int32.le_iff_toInt_le, ← Int32.toInt_inj, Int32.toInt_toInt64, t_neg1, Int32.reduceToInt, Int64.reduceToInt, Int32.reduceToNatClampNeg, true_or, or_true, true_and, and_true] at *) <;> omega) | ((try simp only [Int32.lt_iff_toInt_lt, Int32.le_iff_toInt_le, ← Int32.toInt_inj, Int32.toInt_toInt64, t_neg1, Int32.reduceToInt, Int64.reduceToInt, Int32.reduceToNatClampNeg, true_or, or_true, true_and, and_true] at *) <;> (simp (disch := ((try simp (disch := ((try simp (disch := ((try simp only [Int32.reduceToInt]) <;> omega)) only [t_add, t_sub, t_mul, Int32.reduceToInt]) <;> omega)) only [t_add, t_sub, t_mul, Int32.reduceToInt]) <;> omega)) only [t_add, t_sub, t_mul, Int32.reduceToInt]) <;> omega)) (by first | decide | ((try simp only [Int32.lt_iff_toInt_lt, Int32.le_iff_toInt_le, ← Int32.toInt_inj, Int32.toInt_toInt64, t_neg1, Int32.reduceToInt, Int64.reduceToInt, Int32.reduceToNatClampNeg, true_or, or_true, true_and, and_true] at *) <;> omega) | ((try simp only [Int32.lt_iff_toInt_lt, Int32.le_iff_toInt_le, ← Int32.toInt_inj, Int32.toInt_toInt64, t_neg1, Int32.reduceToInt, Int64.reduceToInt, Int32.reduceToNatClampNeg, true_or, or_true, true_and, and_true] at *) <;> (simp (disch := ((try simp (disch := ((try simp (disch := ((try simp only [Int32.reduceToInt]) <;> omega)) only [t_add, t_sub, t_mul, Int32.reduceToInt]) <;> omega)) only [t_add, t_sub, t_mul, Int32.reduceToInt]) <;> omega)) only [t_add, t_sub, t_mul, Int32.reduceToInt]) <;> omega)) _ (by decide) t_mi) (fun t31 h3 => ?_)
      refine t_ite (fun c4 => ?_) (fun c4 => ?_)
      · unfold wX11_old_j203
        exact ih (t_n1 c2 hi) (t_m1 c2 hm)
      · refine t_ite (fun c5 => ?_) (fun c5 => ?_)
        · unfold wX11_old_j183
          refine t_ite (fun c6 => ?_) (fun c6 => ?_)
          · unfold wX11_old_j200
            unfold wX11_old_j203
            exact ih (t_n1 c2 hi) (t_m1 c2 hm)
          · unfold wX11_old_j200
            unfold wX11_old_j203
            exact ih (t_n1 c2 hi) (t_m1 c2 hm)
        · unfold wX11_old_j183
          refine t_ite (fun c7 => ?_) (fun c7 => ?_)
          · unfold wX11_old_j200
            unfold wX11_old_j203
            exact ih (t_n1 c2 hi) (t_m1 c2 hm)
          · unfold wX11_old_j200
            unfold wX11_old_j203
            exact ih (t_n1 c2 hi) (t_m1 c2 hm)
    · exact t_some trivial
theorem wX11_old_T {x1 x2 x3 x4 : Int32} {s : wS} (hR : RQ s) : Tot (wX11_old x1 x2 x3 x4 s) (fun (r : Int32 × wS) => wA bP s r.2) := by
  unfold wX11_old
  refine t_bind wX11_canAsk_T (fun t1 h1 => t_ite (fun _ => t_some wA.refl) (fun c1 => ?_))
  have hl : 0 ≤ x1.toInt ∧ x1.toInt < (s.1 152 2).toInt := by
    rcases h1 with h | h
    · exact h.2.2
    · exact absurd h c1
  have hb := RQ_b hR
  refine t_bind wX11_isMany_T (fun t4 _ => t_ite (fun _ => t_some wA.refl) (fun _ => ?_))
  refine t_bind wX11_in_T (fun t8 h8 => t_ite (fun _ => t_some wA.refl) (fun c8 => ?_))
  have e5 : (s.1 163 5 - 1).toInt = (s.1 163 5).toInt - 1 := by
    have e1 : (1 : Int32).toInt = 1 := rfl
    rw [t_sub (by rw [e1]; omega) (by rw [e1]; omega), e1]
  have hv : 0 ≤ x3.toInt ∧ x3.toInt < (s.1 163 5).toInt := by
    rcases h8 with h | h
    · rw [Int32.toInt_toInt64, Int32.toInt_toInt64, e5] at h
      have e0 : (0 : Int64).toInt = 0 := rfl
      omega
    · exact absurd h.1 c8
  refine t_bind wX11_in_T (fun t11 _ => t_ite (fun _ => t_some wA.refl) (fun _ => ?_))
  refine t_bind (wX11_reaches_T hR hl.1 hl.2) (fun s15 a => ?_)
  have hR1 := RQ_P a hR
  have q := sameP a
  have b2 := t_c2a (c := 242) (n := 242) (d := 1) (m := 1) (x := x3) rfl rfl (by omega) (by omega) (by omega) (by omega) hv.1 (by omega)
  have a2 := t_c2 (c := 242) (n := 242) (x := x3) rfl (by omega) (by omega) hv.1 (by omega)
  have hV := hR1.1.2.2.2.2.2.2.2.1 x3.toNatClampNeg (by rw [q.1]; unfold Int32.toNatClampNeg; omega)
  refine t_bind (t_ldI (n := 262) (by omega) (by omega)) (fun t17 h17 => ?_)
  have n1 : ((242 + 2 * x3) + 1).toNatClampNeg = 243 + 2 * x3.toNatClampNeg := by unfold Int32.toNatClampNeg; omega
  rw [n1] at h17
  rw [← h17] at hV
  refine t_bind (t_ldI (n := 262) (by omega) (by omega)) (fun t18 _ => ?_)
  refine t_ite (fun _ => t_some a) (fun _ => ?_)
  refine t_bind (wX11_old_h101_T hR1 hV.2 _ (by decide) t_mi) (fun r _ => ?_)
  obtain ⟨t39, t40⟩ := r
  exact t_ite (fun _ => t_some a) (fun _ => t_some a)
theorem wX11_count_j56_T {x1 : Int32} {s : wS} (hR : RQ s) (hk : 0 ≤ x1.toInt) (hk2 : x1.toInt ≤ 2) : Tot (wX11_count_j56 x1 s) (fun (_ : Int32) => True) := by
  unfold wX11_count_j56
  have hb := RQ_b hR
  refine t_bind (t_ldI (n := 262) (by first | decide | ((try simp only [Int32.lt_iff_toInt_lt, Int32.le_iff_toInt_le, ← Int32.toInt_inj, Int32.toInt_toInt64, t_neg1, Int32.reduceToInt, Int64.reduceToInt, Int32.reduceToNatClampNeg, true_or, or_true, true_and, and_true] at *) <;> omega) | ((try simp only [Int32.lt_iff_toInt_lt, Int32.le_iff_toInt_le, ← Int32.toInt_inj, Int32.toInt_toInt64, t_neg1, Int32.reduceToInt, Int64.reduceToInt, Int32.reduceToNatClampNeg, true_or, or_true, true_and, and_true] at *) <;> (simp (disch := ((try simp (disch := ((try simp (disch := ((try simp only [Int32.reduceToInt]) <;> omega)) only [t_add, t_sub, t_mul, Int32.reduceToInt]) <;> omega)) only [t_add, t_sub, t_mul, Int32.reduceToInt]) <;> omega)) only [t_add, t_sub, t_mul, Int32.reduceToInt]) <;> omega)) (by first | decide | ((try simp only [Int32.lt_iff_toInt_lt, Int32.le_iff_toInt_le, ← Int32.toInt_inj, Int32.toInt_toInt64, t_neg1, Int32.reduceToInt, Int64.reduceToInt, Int32.reduceToNatClampNeg, true_or, or_true, true_and, and_true] at *) <;> omega) | ((try simp only [Int32.lt_iff_toInt_lt, Int32.le_iff_toInt_le, ← Int32.toInt_inj, Int32.toInt_toInt64, t_neg1, Int32.reduceToInt, Int64.reduceToInt, Int32.reduceToNatClampNeg, true_or, or_true, true_and, and_true] at *) <;> (simp (disch := ((try simp (disch := ((try simp (disch := ((try simp only [Int32.reduceToInt]) <;> omega)) only [t_add, t_sub, t_mul, Int32.reduceToInt]) <;> omega)) only [t_add, t_sub, t_mul, Int32.reduceToInt]) <;> omega)) only [t_add, t_sub, t_mul, Int32.reduceToInt]) <;> omega))) (fun t2 h1 => ?_)
  exact t_some trivial
theorem wX11_count_h77_T {s : wS} (hR : RQ s)  : ∀ (n : Nat) {x2 : Int32} {x3 : Int32}, 0 ≤ x3.toInt → 2147483648 - x3.toInt < (n : Int) → Tot (wX11_count_h77 s n x2 x3) (fun (_ : Int32) => True) := by
  intro n
  induction n with
  | zero =>
    intro x2 x3 hi hm
    exact (t_m0 hm).elim
  | succ n ih =>
    intro x2 x3 hi hm
    rw [wX11_count_h77]
    have hb := RQ_b hR
    refine t_ite (fun c1 => ?_) (fun c1 => ?_)
    · refine t_bind (wX11_answerOf_T (by first | decide | ((try simp only [Int32.lt_iff_toInt_lt, Int32.le_iff_toInt_le, ← Int32.toInt_inj, Int32.toInt_toInt64, t_neg1, Int32.reduceToInt, Int64.reduceToInt, Int32.reduceToNatClampNeg, true_or, or_true, true_and, and_true] at *) <;> omega) | ((try simp only [Int32.lt_iff_toInt_lt, Int32.le_iff_toInt_le, ← Int32.toInt_inj, Int32.toInt_toInt64, t_neg1, Int32.reduceToInt, Int64.reduceToInt, Int32.reduceToNatClampNeg, true_or, or_true, true_and, and_true] at *) <;> (simp (disch := ((try simp (disch := ((try simp (disch := ((try simp only [Int32.reduceToInt]) <;> omega)) only [t_add, t_sub, t_mul, Int32.reduceToInt]) <;> omega)) only [t_add, t_sub, t_mul, Int32.reduceToInt]) <;> omega)) only [t_add, t_sub, t_mul, Int32.reduceToInt]) <;> omega)) (by first | decide | ((try simp only [Int32.lt_iff_toInt_lt, Int32.le_iff_toInt_le, ← Int32.toInt_inj, Int32.toInt_toInt64, t_neg1, Int32.reduceToInt, Int64.reduceToInt, Int32.reduceToNatClampNeg, true_or, or_true, true_and, and_true] at *) <;> omega) | ((try simp only [Int32.lt_iff_toInt_lt, Int32.le_iff_toInt_le, ← Int32.toInt_inj, Int32.toInt_toInt64, t_neg1, Int32.reduceToInt, Int64.reduceToInt, Int32.reduceToNatClampNeg, true_or, or_true, true_and, and_true] at *) <;> (simp (disch := ((try simp (disch := ((try simp (disch := ((try simp only [Int32.reduceToInt]) <;> omega)) only [t_add, t_sub, t_mul, Int32.reduceToInt]) <;> omega)) only [t_add, t_sub, t_mul, Int32.reduceToInt]) <;> omega)) only [t_add, t_sub, t_mul, Int32.reduceToInt]) <;> omega)) (by first | decide | ((try simp only [Int32.lt_iff_toInt_lt, Int32.le_iff_toInt_le, ← Int32.toInt_inj, Int32.toInt_toInt64, t_neg1, Int32.reduceToInt, Int64.reduceToInt, Int32.reduceToNatClampNeg, true_or, or_true, true_and, and_true] at *) <;> omega) | ((try simp only [Int32.lt_iff_toInt_lt, Int32.le_iff_toInt_le, ← Int32.toInt_inj, Int32.toInt_toInt64, t_neg1, Int32.reduceToInt, Int64.reduceToInt, Int32.reduceToNatClampNeg, true_or, or_true, true_and, and_true] at *) <;> (simp (disch := ((try simp (disch := ((try simp (disch := ((try simp only [Int32.reduceToInt]) <;> omega)) only [t_add, t_sub, t_mul, Int32.reduceToInt]) <;> omega)) only [t_add, t_sub, t_mul, Int32.reduceToInt]) <;> omega)) only [t_add, t_sub, t_mul, Int32.reduceToInt]) <;> omega)) (by first | decide | ((try simp only [Int32.lt_iff_toInt_lt, Int32.le_iff_toInt_le, ← Int32.toInt_inj, Int32.toInt_toInt64, t_neg1, Int32.reduceToInt, Int64.reduceToInt, Int32.reduceToNatClampNeg, true_or, or_true, true_and, and_true] at *) <;> omega) | ((try simp only [Int32.lt_iff_toInt_lt, Int32.le_iff_toInt_le, ← Int32.toInt_inj, Int32.toInt_toInt64, t_neg1, Int32.reduceToInt, Int64.reduceToInt, Int32.reduceToNatClampNeg, true_or, or_true, true_and, and_true] at *) <;> (simp (disch := ((try simp (disch := ((try simp (disch := ((try simp only [Int32.reduceToInt]) <;> omega)) only [t_add, t_sub, t_mul, Int32.reduceToInt]) <;> omega)) only [t_add, t_sub, t_mul, Int32.reduceToInt]) <;> omega)) only [t_add, t_sub, t_mul, Int32.reduceToInt]) <;> omega))) (fun t11 h2 => ?_)
      exact ih (t_n1 c1 hi) (t_m1 c1 hm)
    · exact t_some trivial
theorem wX11_count_h106_T {s : wS} (hR : RQ s)  : ∀ (n : Nat) {x2 : Int32} {x3 : Int32}, 0 ≤ x3.toInt → 2147483648 - x3.toInt < (n : Int) → Tot (wX11_count_h106 s n x2 x3) (fun (_ : Int32) => True) := by
  intro n
  induction n with
  | zero =>
    intro x2 x3 hi hm
    exact (t_m0 hm).elim
  | succ n ih =>
    intro x2 x3 hi hm
    rw [wX11_count_h106]
    have hb := RQ_b hR
    refine t_ite (fun c1 => ?_) (fun c1 => ?_)
    · refine t_bind (wX11_isLookedAt_T hR (by first | decide | ((try simp only [Int32.lt_iff_toInt_lt, Int32.le_iff_toInt_le, ← Int32.toInt_inj, Int32.toInt_toInt64, t_neg1, Int32.reduceToInt, Int64.reduceToInt, Int32.reduceToNatClampNeg, true_or, or_true, true_and, and_true] at *) <;> omega) | ((try simp only [Int32.lt_iff_toInt_lt, Int32.le_iff_toInt_le, ← Int32.toInt_inj, Int32.toInt_toInt64, t_neg1, Int32.reduceToInt, Int64.reduceToInt, Int32.reduceToNatClampNeg, true_or, or_true, true_and, and_true] at *) <;> (simp (disch := ((try simp (disch := ((try simp (disch := ((try simp only [Int32.reduceToInt]) <;> omega)) only [t_add, t_sub, t_mul, Int32.reduceToInt]) <;> omega)) only [t_add, t_sub, t_mul, Int32.reduceToInt]) <;> omega)) only [t_add, t_sub, t_mul, Int32.reduceToInt]) <;> omega)) (by first | decide | ((try simp only [Int32.lt_iff_toInt_lt, Int32.le_iff_toInt_le, ← Int32.toInt_inj, Int32.toInt_toInt64, t_neg1, Int32.reduceToInt, Int64.reduceToInt, Int32.reduceToNatClampNeg, true_or, or_true, true_and, and_true] at *) <;> omega) | ((try simp only [Int32.lt_iff_toInt_lt, Int32.le_iff_toInt_le, ← Int32.toInt_inj, Int32.toInt_toInt64, t_neg1, Int32.reduceToInt, Int64.reduceToInt, Int32.reduceToNatClampNeg, true_or, or_true, true_and, and_true] at *) <;> (simp (disch := ((try simp (disch := ((try simp (disch := ((try simp only [Int32.reduceToInt]) <;> omega)) only [t_add, t_sub, t_mul, Int32.reduceToInt]) <;> omega)) only [t_add, t_sub, t_mul, Int32.reduceToInt]) <;> omega)) only [t_add, t_sub, t_mul, Int32.reduceToInt]) <;> omega))) (fun t20 h2 => ?_)
      refine t_ite (fun c3 => ?_) (fun c3 => ?_)
      · unfold wX11_count_j130
        exact ih (t_n1 c1 hi) (t_m1 c1 hm)
      · unfold wX11_count_j130
        exact ih (t_n1 c1 hi) (t_m1 c1 hm)
    · exact t_some trivial
theorem wX11_count_T {x1 : Int32} {s : wS} (hR : RQ s)  : Tot (wX11_count x1 s) (fun (_ : Int32) => True) := by
  unfold wX11_count
  have hb := RQ_b hR
  refine t_ite (fun c1 => ?_) (fun c1 => ?_)
  · exact t_mono (wX11_count_j56_T hR (by first | decide | ((try simp only [Int32.lt_iff_toInt_lt, Int32.le_iff_toInt_le, ← Int32.toInt_inj, Int32.toInt_toInt64, t_neg1, Int32.reduceToInt, Int64.reduceToInt, Int32.reduceToNatClampNeg, true_or, or_true, true_and, and_true] at *) <;> omega) | ((try simp only [Int32.lt_iff_toInt_lt, Int32.le_iff_toInt_le, ← Int32.toInt_inj, Int32.toInt_toInt64, t_neg1, Int32.reduceToInt, Int64.reduceToInt, Int32.reduceToNatClampNeg, true_or, or_true, true_and, and_true] at *) <;> (simp (disch := ((try simp (disch := ((try simp (disch := ((try simp only [Int32.reduceToInt]) <;> omega)) only [t_add, t_sub, t_mul, Int32.reduceToInt]) <;> omega)) only [t_add, t_sub, t_mul, Int32.reduceToInt]) <;> omega)) only [t_add, t_sub, t_mul, Int32.reduceToInt]) <;> omega)) (by first | decide | ((try simp only [Int32.lt_iff_toInt_lt, Int32.le_iff_toInt_le, ← Int32.toInt_inj, Int32.toInt_toInt64, t_neg1, Int32.reduceToInt, Int64.reduceToInt, Int32.reduceToNatClampNeg, true_or, or_true, true_and, and_true] at *) <;> omega) | ((try simp only [Int32.lt_iff_toInt_lt, Int32.le_iff_toInt_le, ← Int32.toInt_inj, Int32.toInt_toInt64, t_neg1, Int32.reduceToInt, Int64.reduceToInt, Int32.reduceToNatClampNeg, true_or, or_true, true_and, and_true] at *) <;> (simp (disch := ((try simp (disch := ((try simp (disch := ((try simp only [Int32.reduceToInt]) <;> omega)) only [t_add, t_sub, t_mul, Int32.reduceToInt]) <;> omega)) only [t_add, t_sub, t_mul, Int32.reduceToInt]) <;> omega)) only [t_add, t_sub, t_mul, Int32.reduceToInt]) <;> omega))) (fun _ _ => trivial)
  · refine t_ite (fun c2 => ?_) (fun c2 => ?_)
    · exact t_mono (wX11_count_j56_T hR (by first | decide | ((try simp only [Int32.lt_iff_toInt_lt, Int32.le_iff_toInt_le, ← Int32.toInt_inj, Int32.toInt_toInt64, t_neg1, Int32.reduceToInt, Int64.reduceToInt, Int32.reduceToNatClampNeg, true_or, or_true, true_and, and_true] at *) <;> omega) | ((try simp only [Int32.lt_iff_toInt_lt, Int32.le_iff_toInt_le, ← Int32.toInt_inj, Int32.toInt_toInt64, t_neg1, Int32.reduceToInt, Int64.reduceToInt, Int32.reduceToNatClampNeg, true_or, or_true, true_and, and_true] at *) <;> (simp (disch := ((try simp (disch := ((try simp (disch := ((try simp only [Int32.reduceToInt]) <;> omega)) only [t_add, t_sub, t_mul, Int32.reduceToInt]) <;> omega)) only [t_add, t_sub, t_mul, Int32.reduceToInt]) <;> omega)) only [t_add, t_sub, t_mul, Int32.reduceToInt]) <;> omega)) (by first | decide | ((try simp only [Int32.lt_iff_toInt_lt, Int32.le_iff_toInt_le, ← Int32.toInt_inj, Int32.toInt_toInt64, t_neg1, Int32.reduceToInt, Int64.reduceToInt, Int32.reduceToNatClampNeg, true_or, or_true, true_and, and_true] at *) <;> omega) | ((try simp only [Int32.lt_iff_toInt_lt, Int32.le_iff_toInt_le, ← Int32.toInt_inj, Int32.toInt_toInt64, t_neg1, Int32.reduceToInt, Int64.reduceToInt, Int32.reduceToNatClampNeg, true_or, or_true, true_and, and_true] at *) <;> (simp (disch := ((try simp (disch := ((try simp (disch := ((try simp only [Int32.reduceToInt]) <;> omega)) only [t_add, t_sub, t_mul, Int32.reduceToInt]) <;> omega)) only [t_add, t_sub, t_mul, Int32.reduceToInt]) <;> omega)) only [t_add, t_sub, t_mul, Int32.reduceToInt]) <;> omega))) (fun _ _ => trivial)
    · refine t_ite (fun c3 => ?_) (fun c3 => ?_)
      · exact t_mono (wX11_count_j56_T hR (by first | decide | ((try simp only [Int32.lt_iff_toInt_lt, Int32.le_iff_toInt_le, ← Int32.toInt_inj, Int32.toInt_toInt64, t_neg1, Int32.reduceToInt, Int64.reduceToInt, Int32.reduceToNatClampNeg, true_or, or_true, true_and, and_true] at *) <;> omega) | ((try simp only [Int32.lt_iff_toInt_lt, Int32.le_iff_toInt_le, ← Int32.toInt_inj, Int32.toInt_toInt64, t_neg1, Int32.reduceToInt, Int64.reduceToInt, Int32.reduceToNatClampNeg, true_or, or_true, true_and, and_true] at *) <;> (simp (disch := ((try simp (disch := ((try simp (disch := ((try simp only [Int32.reduceToInt]) <;> omega)) only [t_add, t_sub, t_mul, Int32.reduceToInt]) <;> omega)) only [t_add, t_sub, t_mul, Int32.reduceToInt]) <;> omega)) only [t_add, t_sub, t_mul, Int32.reduceToInt]) <;> omega)) (by first | decide | ((try simp only [Int32.lt_iff_toInt_lt, Int32.le_iff_toInt_le, ← Int32.toInt_inj, Int32.toInt_toInt64, t_neg1, Int32.reduceToInt, Int64.reduceToInt, Int32.reduceToNatClampNeg, true_or, or_true, true_and, and_true] at *) <;> omega) | ((try simp only [Int32.lt_iff_toInt_lt, Int32.le_iff_toInt_le, ← Int32.toInt_inj, Int32.toInt_toInt64, t_neg1, Int32.reduceToInt, Int64.reduceToInt, Int32.reduceToNatClampNeg, true_or, or_true, true_and, and_true] at *) <;> (simp (disch := ((try simp (disch := ((try simp (disch := ((try simp only [Int32.reduceToInt]) <;> omega)) only [t_add, t_sub, t_mul, Int32.reduceToInt]) <;> omega)) only [t_add, t_sub, t_mul, Int32.reduceToInt]) <;> omega)) only [t_add, t_sub, t_mul, Int32.reduceToInt]) <;> omega))) (fun _ _ => trivial)
      · refine t_ite (fun c4 => ?_) (fun c4 => ?_)
        · exact t_some trivial
        · refine t_ite (fun c5 => ?_) (fun c5 => ?_)
          · exact t_some trivial
          · refine t_ite (fun c6 => ?_) (fun c6 => ?_)
            · refine t_bind (wX11_count_h77_T hR _ (by decide) t_mi) (fun t14 h7 => ?_)
              exact t_some trivial
            · refine t_ite (fun c8 => ?_) (fun c8 => ?_)
              · refine t_bind (wX11_count_h106_T hR _ (by decide) t_mi) (fun t24 h9 => ?_)
                exact t_some trivial
              · refine t_ite (fun c10 => ?_) (fun c10 => ?_)
                · exact t_some trivial
                · refine t_ite (fun c11 => ?_) (fun c11 => ?_)
                  · exact t_some trivial
                  · refine t_ite (fun c12 => ?_) (fun c12 => ?_)
                    · exact t_some trivial
                    · exact t_some trivial
theorem wX11_thing_j65_T {x2 : Int32} {x3 : Int32} {y1 : Int32} {s : wS} (hR : RQ s) (hy : y1.toInt = 10 ∨ y1.toInt = 26) (h2 : 0 ≤ x2.toInt) (h2b : x2.toInt < 8) (h3 : 0 ≤ x3.toInt) (h3b : x3.toInt ≤ 1) : Tot (wX11_thing_j65 x2 x3 y1 s) (fun (_ : Int32) => True) := by
  unfold wX11_thing_j65
  have hb := RQ_b hR
  refine t_bind (t_ldI (n := 262) (by first | decide | ((try simp only [Int32.lt_iff_toInt_lt, Int32.le_iff_toInt_le, ← Int32.toInt_inj, Int32.toInt_toInt64, t_neg1, Int32.reduceToInt, Int64.reduceToInt, Int32.reduceToNatClampNeg, true_or, or_true, true_and, and_true] at *) <;> omega) | ((try simp only [Int32.lt_iff_toInt_lt, Int32.le_iff_toInt_le, ← Int32.toInt_inj, Int32.toInt_toInt64, t_neg1, Int32.reduceToInt, Int64.reduceToInt, Int32.reduceToNatClampNeg, true_or, or_true, true_and, and_true] at *) <;> (simp (disch := ((try simp (disch := ((try simp (disch := ((try simp only [Int32.reduceToInt]) <;> omega)) only [t_add, t_sub, t_mul, Int32.reduceToInt]) <;> omega)) only [t_add, t_sub, t_mul, Int32.reduceToInt]) <;> omega)) only [t_add, t_sub, t_mul, Int32.reduceToInt]) <;> omega)) (by first | decide | ((try simp only [Int32.lt_iff_toInt_lt, Int32.le_iff_toInt_le, ← Int32.toInt_inj, Int32.toInt_toInt64, t_neg1, Int32.reduceToInt, Int64.reduceToInt, Int32.reduceToNatClampNeg, true_or, or_true, true_and, and_true] at *) <;> omega) | ((try simp only [Int32.lt_iff_toInt_lt, Int32.le_iff_toInt_le, ← Int32.toInt_inj, Int32.toInt_toInt64, t_neg1, Int32.reduceToInt, Int64.reduceToInt, Int32.reduceToNatClampNeg, true_or, or_true, true_and, and_true] at *) <;> (simp (disch := ((try simp (disch := ((try simp (disch := ((try simp only [Int32.reduceToInt]) <;> omega)) only [t_add, t_sub, t_mul, Int32.reduceToInt]) <;> omega)) only [t_add, t_sub, t_mul, Int32.reduceToInt]) <;> omega)) only [t_add, t_sub, t_mul, Int32.reduceToInt]) <;> omega))) (fun t14 h1 => ?_)
  exact t_some trivial
theorem wX11_thing_T {x1 : Int32} {x2 : Int32} {x3 : Int32} {s : wS} (hR : RQ s)  : Tot (wX11_thing x1 x2 x3 s) (fun (_ : Int32) => True) := by
  unfold wX11_thing
  have hb := RQ_b hR
  refine t_bind (wX11_isKind_T) (fun t1 h1 => ?_)
  refine t_ite (fun c2 => ?_) (fun c2 => ?_)
  · exact t_some trivial
  · refine t_bind (wX11_in_T) (fun t4 h3 => ?_)
    refine t_ite (fun c4 => ?_) (fun c4 => ?_)
    · exact t_some trivial
    · refine t_ite (fun c5 => ?_) (fun c5 => ?_)
      · refine t_bind (t_ldI (n := 262) (by first | decide | ((try simp only [Int32.lt_iff_toInt_lt, Int32.le_iff_toInt_le, ← Int32.toInt_inj, Int32.toInt_toInt64, t_neg1, Int32.reduceToInt, Int64.reduceToInt, Int32.reduceToNatClampNeg, true_or, or_true, true_and, and_true] at *) <;> omega) | ((try simp only [Int32.lt_iff_toInt_lt, Int32.le_iff_toInt_le, ← Int32.toInt_inj, Int32.toInt_toInt64, t_neg1, Int32.reduceToInt, Int64.reduceToInt, Int32.reduceToNatClampNeg, true_or, or_true, true_and, and_true] at *) <;> (simp (disch := ((try simp (disch := ((try simp (disch := ((try simp only [Int32.reduceToInt]) <;> omega)) only [t_add, t_sub, t_mul, Int32.reduceToInt]) <;> omega)) only [t_add, t_sub, t_mul, Int32.reduceToInt]) <;> omega)) only [t_add, t_sub, t_mul, Int32.reduceToInt]) <;> omega)) (by first | decide | ((try simp only [Int32.lt_iff_toInt_lt, Int32.le_iff_toInt_le, ← Int32.toInt_inj, Int32.toInt_toInt64, t_neg1, Int32.reduceToInt, Int64.reduceToInt, Int32.reduceToNatClampNeg, true_or, or_true, true_and, and_true] at *) <;> omega) | ((try simp only [Int32.lt_iff_toInt_lt, Int32.le_iff_toInt_le, ← Int32.toInt_inj, Int32.toInt_toInt64, t_neg1, Int32.reduceToInt, Int64.reduceToInt, Int32.reduceToNatClampNeg, true_or, or_true, true_and, and_true] at *) <;> (simp (disch := ((try simp (disch := ((try simp (disch := ((try simp only [Int32.reduceToInt]) <;> omega)) only [t_add, t_sub, t_mul, Int32.reduceToInt]) <;> omega)) only [t_add, t_sub, t_mul, Int32.reduceToInt]) <;> omega)) only [t_add, t_sub, t_mul, Int32.reduceToInt]) <;> omega))) (fun t8 h6 => ?_)
        exact t_some trivial
      · refine t_ite (fun c7 => ?_) (fun c7 => ?_)
        · exact t_some trivial
        · refine t_bind (wX11_isThing_T hR) (fun t10 h8 => ?_)
          refine t_ite (fun c9 => ?_) (fun c9 => ?_)
          · exact t_some trivial
          · refine t_ite (fun c10 => ?_) (fun c10 => ?_)
            · exact t_mono (wX11_thing_j65_T hR (by first | decide | ((try simp only [Int32.lt_iff_toInt_lt, Int32.le_iff_toInt_le, ← Int32.toInt_inj, Int32.toInt_toInt64, t_neg1, Int32.reduceToInt, Int64.reduceToInt, Int32.reduceToNatClampNeg, true_or, or_true, true_and, and_true] at *) <;> omega) | ((try simp only [Int32.lt_iff_toInt_lt, Int32.le_iff_toInt_le, ← Int32.toInt_inj, Int32.toInt_toInt64, t_neg1, Int32.reduceToInt, Int64.reduceToInt, Int32.reduceToNatClampNeg, true_or, or_true, true_and, and_true] at *) <;> (simp (disch := ((try simp (disch := ((try simp (disch := ((try simp only [Int32.reduceToInt]) <;> omega)) only [t_add, t_sub, t_mul, Int32.reduceToInt]) <;> omega)) only [t_add, t_sub, t_mul, Int32.reduceToInt]) <;> omega)) only [t_add, t_sub, t_mul, Int32.reduceToInt]) <;> omega)) (by first | decide | ((try simp only [Int32.lt_iff_toInt_lt, Int32.le_iff_toInt_le, ← Int32.toInt_inj, Int32.toInt_toInt64, t_neg1, Int32.reduceToInt, Int64.reduceToInt, Int32.reduceToNatClampNeg, true_or, or_true, true_and, and_true] at *) <;> omega) | ((try simp only [Int32.lt_iff_toInt_lt, Int32.le_iff_toInt_le, ← Int32.toInt_inj, Int32.toInt_toInt64, t_neg1, Int32.reduceToInt, Int64.reduceToInt, Int32.reduceToNatClampNeg, true_or, or_true, true_and, and_true] at *) <;> (simp (disch := ((try simp (disch := ((try simp (disch := ((try simp only [Int32.reduceToInt]) <;> omega)) only [t_add, t_sub, t_mul, Int32.reduceToInt]) <;> omega)) only [t_add, t_sub, t_mul, Int32.reduceToInt]) <;> omega)) only [t_add, t_sub, t_mul, Int32.reduceToInt]) <;> omega)) (by first | decide | ((try simp only [Int32.lt_iff_toInt_lt, Int32.le_iff_toInt_le, ← Int32.toInt_inj, Int32.toInt_toInt64, t_neg1, Int32.reduceToInt, Int64.reduceToInt, Int32.reduceToNatClampNeg, true_or, or_true, true_and, and_true] at *) <;> omega) | ((try simp only [Int32.lt_iff_toInt_lt, Int32.le_iff_toInt_le, ← Int32.toInt_inj, Int32.toInt_toInt64, t_neg1, Int32.reduceToInt, Int64.reduceToInt, Int32.reduceToNatClampNeg, true_or, or_true, true_and, and_true] at *) <;> (simp (disch := ((try simp (disch := ((try simp (disch := ((try simp only [Int32.reduceToInt]) <;> omega)) only [t_add, t_sub, t_mul, Int32.reduceToInt]) <;> omega)) only [t_add, t_sub, t_mul, Int32.reduceToInt]) <;> omega)) only [t_add, t_sub, t_mul, Int32.reduceToInt]) <;> omega)) (by first | decide | ((try simp only [Int32.lt_iff_toInt_lt, Int32.le_iff_toInt_le, ← Int32.toInt_inj, Int32.toInt_toInt64, t_neg1, Int32.reduceToInt, Int64.reduceToInt, Int32.reduceToNatClampNeg, true_or, or_true, true_and, and_true] at *) <;> omega) | ((try simp only [Int32.lt_iff_toInt_lt, Int32.le_iff_toInt_le, ← Int32.toInt_inj, Int32.toInt_toInt64, t_neg1, Int32.reduceToInt, Int64.reduceToInt, Int32.reduceToNatClampNeg, true_or, or_true, true_and, and_true] at *) <;> (simp (disch := ((try simp (disch := ((try simp (disch := ((try simp only [Int32.reduceToInt]) <;> omega)) only [t_add, t_sub, t_mul, Int32.reduceToInt]) <;> omega)) only [t_add, t_sub, t_mul, Int32.reduceToInt]) <;> omega)) only [t_add, t_sub, t_mul, Int32.reduceToInt]) <;> omega)) (by first | decide | ((try simp only [Int32.lt_iff_toInt_lt, Int32.le_iff_toInt_le, ← Int32.toInt_inj, Int32.toInt_toInt64, t_neg1, Int32.reduceToInt, Int64.reduceToInt, Int32.reduceToNatClampNeg, true_or, or_true, true_and, and_true] at *) <;> omega) | ((try simp only [Int32.lt_iff_toInt_lt, Int32.le_iff_toInt_le, ← Int32.toInt_inj, Int32.toInt_toInt64, t_neg1, Int32.reduceToInt, Int64.reduceToInt, Int32.reduceToNatClampNeg, true_or, or_true, true_and, and_true] at *) <;> (simp (disch := ((try simp (disch := ((try simp (disch := ((try simp only [Int32.reduceToInt]) <;> omega)) only [t_add, t_sub, t_mul, Int32.reduceToInt]) <;> omega)) only [t_add, t_sub, t_mul, Int32.reduceToInt]) <;> omega)) only [t_add, t_sub, t_mul, Int32.reduceToInt]) <;> omega))) (fun _ _ => trivial)
            · exact t_mono (wX11_thing_j65_T hR (by first | decide | ((try simp only [Int32.lt_iff_toInt_lt, Int32.le_iff_toInt_le, ← Int32.toInt_inj, Int32.toInt_toInt64, t_neg1, Int32.reduceToInt, Int64.reduceToInt, Int32.reduceToNatClampNeg, true_or, or_true, true_and, and_true] at *) <;> omega) | ((try simp only [Int32.lt_iff_toInt_lt, Int32.le_iff_toInt_le, ← Int32.toInt_inj, Int32.toInt_toInt64, t_neg1, Int32.reduceToInt, Int64.reduceToInt, Int32.reduceToNatClampNeg, true_or, or_true, true_and, and_true] at *) <;> (simp (disch := ((try simp (disch := ((try simp (disch := ((try simp only [Int32.reduceToInt]) <;> omega)) only [t_add, t_sub, t_mul, Int32.reduceToInt]) <;> omega)) only [t_add, t_sub, t_mul, Int32.reduceToInt]) <;> omega)) only [t_add, t_sub, t_mul, Int32.reduceToInt]) <;> omega)) (by first | decide | ((try simp only [Int32.lt_iff_toInt_lt, Int32.le_iff_toInt_le, ← Int32.toInt_inj, Int32.toInt_toInt64, t_neg1, Int32.reduceToInt, Int64.reduceToInt, Int32.reduceToNatClampNeg, true_or, or_true, true_and, and_true] at *) <;> omega) | ((try simp only [Int32.lt_iff_toInt_lt, Int32.le_iff_toInt_le, ← Int32.toInt_inj, Int32.toInt_toInt64, t_neg1, Int32.reduceToInt, Int64.reduceToInt, Int32.reduceToNatClampNeg, true_or, or_true, true_and, and_true] at *) <;> (simp (disch := ((try simp (disch := ((try simp (disch := ((try simp only [Int32.reduceToInt]) <;> omega)) only [t_add, t_sub, t_mul, Int32.reduceToInt]) <;> omega)) only [t_add, t_sub, t_mul, Int32.reduceToInt]) <;> omega)) only [t_add, t_sub, t_mul, Int32.reduceToInt]) <;> omega)) (by first | decide | ((try simp only [Int32.lt_iff_toInt_lt, Int32.le_iff_toInt_le, ← Int32.toInt_inj, Int32.toInt_toInt64, t_neg1, Int32.reduceToInt, Int64.reduceToInt, Int32.reduceToNatClampNeg, true_or, or_true, true_and, and_true] at *) <;> omega) | ((try simp only [Int32.lt_iff_toInt_lt, Int32.le_iff_toInt_le, ← Int32.toInt_inj, Int32.toInt_toInt64, t_neg1, Int32.reduceToInt, Int64.reduceToInt, Int32.reduceToNatClampNeg, true_or, or_true, true_and, and_true] at *) <;> (simp (disch := ((try simp (disch := ((try simp (disch := ((try simp only [Int32.reduceToInt]) <;> omega)) only [t_add, t_sub, t_mul, Int32.reduceToInt]) <;> omega)) only [t_add, t_sub, t_mul, Int32.reduceToInt]) <;> omega)) only [t_add, t_sub, t_mul, Int32.reduceToInt]) <;> omega)) (by first | decide | ((try simp only [Int32.lt_iff_toInt_lt, Int32.le_iff_toInt_le, ← Int32.toInt_inj, Int32.toInt_toInt64, t_neg1, Int32.reduceToInt, Int64.reduceToInt, Int32.reduceToNatClampNeg, true_or, or_true, true_and, and_true] at *) <;> omega) | ((try simp only [Int32.lt_iff_toInt_lt, Int32.le_iff_toInt_le, ← Int32.toInt_inj, Int32.toInt_toInt64, t_neg1, Int32.reduceToInt, Int64.reduceToInt, Int32.reduceToNatClampNeg, true_or, or_true, true_and, and_true] at *) <;> (simp (disch := ((try simp (disch := ((try simp (disch := ((try simp only [Int32.reduceToInt]) <;> omega)) only [t_add, t_sub, t_mul, Int32.reduceToInt]) <;> omega)) only [t_add, t_sub, t_mul, Int32.reduceToInt]) <;> omega)) only [t_add, t_sub, t_mul, Int32.reduceToInt]) <;> omega)) (by first | decide | ((try simp only [Int32.lt_iff_toInt_lt, Int32.le_iff_toInt_le, ← Int32.toInt_inj, Int32.toInt_toInt64, t_neg1, Int32.reduceToInt, Int64.reduceToInt, Int32.reduceToNatClampNeg, true_or, or_true, true_and, and_true] at *) <;> omega) | ((try simp only [Int32.lt_iff_toInt_lt, Int32.le_iff_toInt_le, ← Int32.toInt_inj, Int32.toInt_toInt64, t_neg1, Int32.reduceToInt, Int64.reduceToInt, Int32.reduceToNatClampNeg, true_or, or_true, true_and, and_true] at *) <;> (simp (disch := ((try simp (disch := ((try simp (disch := ((try simp only [Int32.reduceToInt]) <;> omega)) only [t_add, t_sub, t_mul, Int32.reduceToInt]) <;> omega)) only [t_add, t_sub, t_mul, Int32.reduceToInt]) <;> omega)) only [t_add, t_sub, t_mul, Int32.reduceToInt]) <;> omega))) (fun _ _ => trivial)
theorem wX11_far_T {x1 : Int32} {x2 : Int32} {x3 : Int32} {x4 : Int32} {s : wS} (hR : RQ s)  : Tot (wX11_far x1 x2 x3 x4 s) (fun (r : Int64 × wS) => wA bP s r.2) := by
  unfold wX11_far
  have hb := RQ_b hR
  refine t_bind (wX11_isLaw_T) (fun t1 h1 => ?_)
  refine t_ite (fun c2 => ?_) (fun c2 => ?_)
  · exact t_some wA.refl
  · refine t_bind (wX11_isThing_T hR) (fun t4 h3 => ?_)
    refine t_ite (fun c4 => ?_) (fun c4 => ?_)
    · exact t_some wA.refl
    · refine t_bind (wX11_isThing_T hR) (fun t7 h5 => ?_)
      refine t_ite (fun c6 => ?_) (fun c6 => ?_)
      · exact t_some wA.refl
      · refine t_bind (wX11_farBy_T hR (by first | decide | ((try simp only [Int32.lt_iff_toInt_lt, Int32.le_iff_toInt_le, ← Int32.toInt_inj, Int32.toInt_toInt64, t_neg1, Int32.reduceToInt, Int64.reduceToInt, Int32.reduceToNatClampNeg, true_or, or_true, true_and, and_true] at *) <;> omega) | ((try simp only [Int32.lt_iff_toInt_lt, Int32.le_iff_toInt_le, ← Int32.toInt_inj, Int32.toInt_toInt64, t_neg1, Int32.reduceToInt, Int64.reduceToInt, Int32.reduceToNatClampNeg, true_or, or_true, true_and, and_true] at *) <;> (simp (disch := ((try simp (disch := ((try simp (disch := ((try simp only [Int32.reduceToInt]) <;> omega)) only [t_add, t_sub, t_mul, Int32.reduceToInt]) <;> omega)) only [t_add, t_sub, t_mul, Int32.reduceToInt]) <;> omega)) only [t_add, t_sub, t_mul, Int32.reduceToInt]) <;> omega)) (by first | decide | ((try simp only [Int32.lt_iff_toInt_lt, Int32.le_iff_toInt_le, ← Int32.toInt_inj, Int32.toInt_toInt64, t_neg1, Int32.reduceToInt, Int64.reduceToInt, Int32.reduceToNatClampNeg, true_or, or_true, true_and, and_true] at *) <;> omega) | ((try simp only [Int32.lt_iff_toInt_lt, Int32.le_iff_toInt_le, ← Int32.toInt_inj, Int32.toInt_toInt64, t_neg1, Int32.reduceToInt, Int64.reduceToInt, Int32.reduceToNatClampNeg, true_or, or_true, true_and, and_true] at *) <;> (simp (disch := ((try simp (disch := ((try simp (disch := ((try simp only [Int32.reduceToInt]) <;> omega)) only [t_add, t_sub, t_mul, Int32.reduceToInt]) <;> omega)) only [t_add, t_sub, t_mul, Int32.reduceToInt]) <;> omega)) only [t_add, t_sub, t_mul, Int32.reduceToInt]) <;> omega)) (by first | decide | ((try simp only [Int32.lt_iff_toInt_lt, Int32.le_iff_toInt_le, ← Int32.toInt_inj, Int32.toInt_toInt64, t_neg1, Int32.reduceToInt, Int64.reduceToInt, Int32.reduceToNatClampNeg, true_or, or_true, true_and, and_true] at *) <;> omega) | ((try simp only [Int32.lt_iff_toInt_lt, Int32.le_iff_toInt_le, ← Int32.toInt_inj, Int32.toInt_toInt64, t_neg1, Int32.reduceToInt, Int64.reduceToInt, Int32.reduceToNatClampNeg, true_or, or_true, true_and, and_true] at *) <;> (simp (disch := ((try simp (disch := ((try simp (disch := ((try simp only [Int32.reduceToInt]) <;> omega)) only [t_add, t_sub, t_mul, Int32.reduceToInt]) <;> omega)) only [t_add, t_sub, t_mul, Int32.reduceToInt]) <;> omega)) only [t_add, t_sub, t_mul, Int32.reduceToInt]) <;> omega)) (by first | decide | ((try simp only [Int32.lt_iff_toInt_lt, Int32.le_iff_toInt_le, ← Int32.toInt_inj, Int32.toInt_toInt64, t_neg1, Int32.reduceToInt, Int64.reduceToInt, Int32.reduceToNatClampNeg, true_or, or_true, true_and, and_true] at *) <;> omega) | ((try simp only [Int32.lt_iff_toInt_lt, Int32.le_iff_toInt_le, ← Int32.toInt_inj, Int32.toInt_toInt64, t_neg1, Int32.reduceToInt, Int64.reduceToInt, Int32.reduceToNatClampNeg, true_or, or_true, true_and, and_true] at *) <;> (simp (disch := ((try simp (disch := ((try simp (disch := ((try simp only [Int32.reduceToInt]) <;> omega)) only [t_add, t_sub, t_mul, Int32.reduceToInt]) <;> omega)) only [t_add, t_sub, t_mul, Int32.reduceToInt]) <;> omega)) only [t_add, t_sub, t_mul, Int32.reduceToInt]) <;> omega)) (by first | decide | ((try simp only [Int32.lt_iff_toInt_lt, Int32.le_iff_toInt_le, ← Int32.toInt_inj, Int32.toInt_toInt64, t_neg1, Int32.reduceToInt, Int64.reduceToInt, Int32.reduceToNatClampNeg, true_or, or_true, true_and, and_true] at *) <;> omega) | ((try simp only [Int32.lt_iff_toInt_lt, Int32.le_iff_toInt_le, ← Int32.toInt_inj, Int32.toInt_toInt64, t_neg1, Int32.reduceToInt, Int64.reduceToInt, Int32.reduceToNatClampNeg, true_or, or_true, true_and, and_true] at *) <;> (simp (disch := ((try simp (disch := ((try simp (disch := ((try simp only [Int32.reduceToInt]) <;> omega)) only [t_add, t_sub, t_mul, Int32.reduceToInt]) <;> omega)) only [t_add, t_sub, t_mul, Int32.reduceToInt]) <;> omega)) only [t_add, t_sub, t_mul, Int32.reduceToInt]) <;> omega)) (by first | decide | ((try simp only [Int32.lt_iff_toInt_lt, Int32.le_iff_toInt_le, ← Int32.toInt_inj, Int32.toInt_toInt64, t_neg1, Int32.reduceToInt, Int64.reduceToInt, Int32.reduceToNatClampNeg, true_or, or_true, true_and, and_true] at *) <;> omega) | ((try simp only [Int32.lt_iff_toInt_lt, Int32.le_iff_toInt_le, ← Int32.toInt_inj, Int32.toInt_toInt64, t_neg1, Int32.reduceToInt, Int64.reduceToInt, Int32.reduceToNatClampNeg, true_or, or_true, true_and, and_true] at *) <;> (simp (disch := ((try simp (disch := ((try simp (disch := ((try simp only [Int32.reduceToInt]) <;> omega)) only [t_add, t_sub, t_mul, Int32.reduceToInt]) <;> omega)) only [t_add, t_sub, t_mul, Int32.reduceToInt]) <;> omega)) only [t_add, t_sub, t_mul, Int32.reduceToInt]) <;> omega))) (fun r8 h7 => ?_)
        obtain ⟨t10, s11⟩ := r8
        dsimp only at h7 ⊢
        have a9 : wA bP s s11 := h7
        have q10 := sameP a9
        have w10 := wW_same q10.1
        have R10 := RQ_P a9 hR
        have p10 := a9 152 33 rfl
        exact t_some a9
theorem wX11_answers_T {x1 : Int32} {x2 : Int32} {s : wS} (hR : RQ s)  : Tot (wX11_answers x1 x2 s) (fun (_ : Int32) => True) := by
  unfold wX11_answers
  have hb := RQ_b hR
  refine t_bind (wX11_isAnswer_T) (fun t1 h1 => ?_)
  refine t_ite (fun c2 => ?_) (fun c2 => ?_)
  · exact t_some trivial
  · refine t_bind (wX11_in_T) (fun t4 h3 => ?_)
    refine t_ite (fun c4 => ?_) (fun c4 => ?_)
    · exact t_some trivial
    · refine t_bind (wX11_answerOf_T (by first | decide | ((try simp only [Int32.lt_iff_toInt_lt, Int32.le_iff_toInt_le, ← Int32.toInt_inj, Int32.toInt_toInt64, t_neg1, Int32.reduceToInt, Int64.reduceToInt, Int32.reduceToNatClampNeg, true_or, or_true, true_and, and_true] at *) <;> omega) | ((try simp only [Int32.lt_iff_toInt_lt, Int32.le_iff_toInt_le, ← Int32.toInt_inj, Int32.toInt_toInt64, t_neg1, Int32.reduceToInt, Int64.reduceToInt, Int32.reduceToNatClampNeg, true_or, or_true, true_and, and_true] at *) <;> (simp (disch := ((try simp (disch := ((try simp (disch := ((try simp only [Int32.reduceToInt]) <;> omega)) only [t_add, t_sub, t_mul, Int32.reduceToInt]) <;> omega)) only [t_add, t_sub, t_mul, Int32.reduceToInt]) <;> omega)) only [t_add, t_sub, t_mul, Int32.reduceToInt]) <;> omega)) (by first | decide | ((try simp only [Int32.lt_iff_toInt_lt, Int32.le_iff_toInt_le, ← Int32.toInt_inj, Int32.toInt_toInt64, t_neg1, Int32.reduceToInt, Int64.reduceToInt, Int32.reduceToNatClampNeg, true_or, or_true, true_and, and_true] at *) <;> omega) | ((try simp only [Int32.lt_iff_toInt_lt, Int32.le_iff_toInt_le, ← Int32.toInt_inj, Int32.toInt_toInt64, t_neg1, Int32.reduceToInt, Int64.reduceToInt, Int32.reduceToNatClampNeg, true_or, or_true, true_and, and_true] at *) <;> (simp (disch := ((try simp (disch := ((try simp (disch := ((try simp only [Int32.reduceToInt]) <;> omega)) only [t_add, t_sub, t_mul, Int32.reduceToInt]) <;> omega)) only [t_add, t_sub, t_mul, Int32.reduceToInt]) <;> omega)) only [t_add, t_sub, t_mul, Int32.reduceToInt]) <;> omega)) (by first | decide | ((try simp only [Int32.lt_iff_toInt_lt, Int32.le_iff_toInt_le, ← Int32.toInt_inj, Int32.toInt_toInt64, t_neg1, Int32.reduceToInt, Int64.reduceToInt, Int32.reduceToNatClampNeg, true_or, or_true, true_and, and_true] at *) <;> omega) | ((try simp only [Int32.lt_iff_toInt_lt, Int32.le_iff_toInt_le, ← Int32.toInt_inj, Int32.toInt_toInt64, t_neg1, Int32.reduceToInt, Int64.reduceToInt, Int32.reduceToNatClampNeg, true_or, or_true, true_and, and_true] at *) <;> (simp (disch := ((try simp (disch := ((try simp (disch := ((try simp only [Int32.reduceToInt]) <;> omega)) only [t_add, t_sub, t_mul, Int32.reduceToInt]) <;> omega)) only [t_add, t_sub, t_mul, Int32.reduceToInt]) <;> omega)) only [t_add, t_sub, t_mul, Int32.reduceToInt]) <;> omega)) (by first | decide | ((try simp only [Int32.lt_iff_toInt_lt, Int32.le_iff_toInt_le, ← Int32.toInt_inj, Int32.toInt_toInt64, t_neg1, Int32.reduceToInt, Int64.reduceToInt, Int32.reduceToNatClampNeg, true_or, or_true, true_and, and_true] at *) <;> omega) | ((try simp only [Int32.lt_iff_toInt_lt, Int32.le_iff_toInt_le, ← Int32.toInt_inj, Int32.toInt_toInt64, t_neg1, Int32.reduceToInt, Int64.reduceToInt, Int32.reduceToNatClampNeg, true_or, or_true, true_and, and_true] at *) <;> (simp (disch := ((try simp (disch := ((try simp (disch := ((try simp only [Int32.reduceToInt]) <;> omega)) only [t_add, t_sub, t_mul, Int32.reduceToInt]) <;> omega)) only [t_add, t_sub, t_mul, Int32.reduceToInt]) <;> omega)) only [t_add, t_sub, t_mul, Int32.reduceToInt]) <;> omega))) (fun t7 h5 => ?_)
      exact t_some trivial
end
