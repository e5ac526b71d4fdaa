/-! The reference: what holds between its calls. -/
/-- what a query of the reference may write, its PAIRS left alone -/
noncomputable def bP (k b : Nat) : Bool := (Nat.ble 165 k && Nat.ble k 167) || (Nat.beq k 152 && (Nat.beq b 22 || (Nat.ble 27 b && Nat.ble b 29) || (Nat.ble 34 b && Nat.ble b 35)))
theorem bP_le_bQ : ∀ k b, bP k b = true → bQ k b = true := by
  intro k b h
  simp only [bQ, bP, bQa, Bool.or_eq_true, Bool.and_eq_true, Nat.ble_eq, Nat.beq_eq] at *
  omega
noncomputable def hstep (c : Int32) (h : Nat) : Option Nat :=
  if c &&& 15 = 0 then (if h < 60 then some (h + 1) else none)
  else if c &&& 15 = 1 then (if h < 60 ∧ 0 ≤ (c >>> (4 &&& 31)).toInt ∧ (c >>> (4 &&& 31)).toInt < 8 then some (h + 1) else none)
  else if c &&& 15 = 11 then (if 1 ≤ h then some h else none)
  else (if 2 ≤ h then some (h - 1) else none)
/-- the height of the stack along a code; none where it would fail -/
noncomputable def hrun (C : Nat → Int32) : Nat → Nat → Nat → Option Nat
  | 0, _, h => some h
  | n + 1, i, h => match hstep (C i) h with
    | none => none
    | some h1 => hrun C n (i + 1) h1
noncomputable def qWF (C : Nat → Int32) (b e : Int) : Prop := 0 ≤ b ∧ b ≤ e ∧ e ≤ 400 ∧ hrun C (e - b).toNat b.toNat 0 = some 1
noncomputable def qA (f : Nat → Int32) (a : Nat) : Prop := (0 ≤ (f (43 + 5 * a)).toInt ∧ (f (43 + 5 * a)).toInt ≤ 2) ∧ (0 ≤ (f (44 + 5 * a)).toInt ∧ (f (44 + 5 * a)).toInt < (f (f (43 + 5 * a)).toNatClampNeg).toInt) ∧ (0 ≤ (f (45 + 5 * a)).toInt ∧ (f (45 + 5 * a)).toInt < (f (f (43 + 5 * a)).toNatClampNeg).toInt)
noncomputable def qC (f : Nat → Int32) : Prop :=
  (0 ≤ (f 0).toInt ∧ (f 0).toInt ≤ 8) ∧ (0 ≤ (f 1).toInt ∧ (f 1).toInt ≤ 8) ∧ (0 ≤ (f 2).toInt ∧ (f 2).toInt ≤ 8) ∧ (0 < (f 0).toInt → 0 < (f 1).toInt ∧ 0 < (f 2).toInt) ∧ (0 ≤ (f 3).toInt ∧ (f 3).toInt ≤ 40) ∧ (0 ≤ (f 5).toInt ∧ (f 5).toInt ≤ 10) ∧
  (∀ a : Nat, (a : Int) < (f 3).toInt → qA f a) ∧ (∀ v : Nat, (v : Int) < (f 5).toInt → 0 ≤ (f (243 + 2 * v)).toInt ∧ (f (243 + 2 * v)).toInt ≤ (f 3).toInt) ∧ 0 ≤ (f 6).toInt
noncomputable def qLW (s : wS) (l : Nat) : Prop := (0 ≤ (s.1 157 l).toInt ∧ (s.1 157 l).toInt ≤ 12) ∧ ∀ c : Nat, (c : Int) < (s.1 157 l).toInt → qWF (fun i => s.1 154 (400 * l + i)) (s.1 156 (60 * l + 5 * c + 1)).toInt (s.1 156 (60 * l + 5 * c + 2)).toInt ∧ ((s.1 156 (60 * l + 5 * c + 3)).toInt < 0 ∨ qWF (fun i => s.1 154 (400 * l + i)) (s.1 156 (60 * l + 5 * c + 3)).toInt (s.1 156 (60 * l + 5 * c + 4)).toInt)
noncomputable def qL (s : wS) : Prop := (0 ≤ (s.1 152 2).toInt ∧ (s.1 152 2).toInt ≤ 6) ∧ ∀ l : Nat, (l : Int) < (s.1 152 2).toInt → qLW s l
noncomputable def RQ (s : wS) : Prop := qC (s.1 163) ∧ qL s
noncomputable def sameQ (s s' : wS) : Prop := s'.1 163 = s.1 163 ∧ s'.1 157 = s.1 157 ∧ s'.1 156 = s.1 156 ∧ s'.1 154 = s.1 154 ∧ s'.1 152 2 = s.1 152 2
theorem sameQ_of {s s' : wS} (h : wA bQ s s') : sameQ s s' := ⟨funext fun b => h 163 b rfl, funext fun b => h 157 b rfl, funext fun b => h 156 b rfl, funext fun b => h 154 b rfl, h 152 2 rfl⟩
theorem RQ_same {s s' : wS} (h : sameQ s s') (g : RQ s) : RQ s' := by
  obtain ⟨h1, h2, h3, h4, h5⟩ := h
  unfold RQ qL qLW at *
  rw [h1, h2, h3, h4, h5]
  exact g
theorem RQ_A {s s' : wS} (h : wA bQ s s') (g : RQ s) : RQ s' := RQ_same (sameQ_of h) g
noncomputable def wW (s : wS) : Int32 := ((s.1 163 0) * (s.1 163 1)) * (s.1 163 2)
theorem wW_b {s : wS} (hR : RQ s) : (0 ≤ (wW s).toInt ∧ (wW s).toInt ≤ 512) ∧ (wW s).toInt = (s.1 163 0).toInt * (s.1 163 1).toInt * (s.1 163 2).toInt := by
  obtain ⟨⟨⟨a1, a2⟩, ⟨b1, b2⟩, ⟨c1, c2⟩, -⟩, -⟩ := hR
  have m1 := Int.mul_nonneg a1 b1
  have m2 : (s.1 163 0).toInt * (s.1 163 1).toInt ≤ 8 * 8 := Int.mul_le_mul a2 b2 b1 (by decide)
  have m3 := Int.mul_nonneg m1 c1
  have m4 : (s.1 163 0).toInt * (s.1 163 1).toInt * (s.1 163 2).toInt ≤ (8 * 8) * 8 := Int.mul_le_mul m2 c2 c1 (by decide)
  have e1 : (s.1 163 0 * s.1 163 1).toInt = (s.1 163 0).toInt * (s.1 163 1).toInt := t_mul (by omega) (by omega)
  have e2 : (wW s).toInt = (s.1 163 0).toInt * (s.1 163 1).toInt * (s.1 163 2).toInt := by
    unfold wW
    rw [t_mul (by rw [e1]; omega) (by rw [e1]; omega), e1]
  exact ⟨⟨by omega, by omega⟩, e2⟩
/-- the bounds that everything needs -/
theorem RQ_b {s : wS} (hR : RQ s) : (0 ≤ (s.1 163 0).toInt ∧ (s.1 163 0).toInt ≤ 8) ∧ (0 ≤ (s.1 163 1).toInt ∧ (s.1 163 1).toInt ≤ 8) ∧ (0 ≤ (s.1 163 2).toInt ∧ (s.1 163 2).toInt ≤ 8) ∧ (0 ≤ (s.1 163 3).toInt ∧ (s.1 163 3).toInt ≤ 40) ∧ (0 ≤ (s.1 163 5).toInt ∧ (s.1 163 5).toInt ≤ 10) ∧ (0 ≤ (s.1 152 2).toInt ∧ (s.1 152 2).toInt ≤ 6) ∧ (0 ≤ (wW s).toInt ∧ (wW s).toInt ≤ 512) ∧ (0 < (wW s).toInt ∨ (s.1 163 0).toInt ≤ 0) := by
  have hW := wW_b hR
  refine ⟨hR.1.1, hR.1.2.1, hR.1.2.2.1, hR.1.2.2.2.2.1, hR.1.2.2.2.2.2.1, hR.2.1, hW.1, ?_⟩
  by_cases h : 0 < (s.1 163 0).toInt
  · left
    obtain ⟨h1, h2⟩ := hR.1.2.2.2.1 h
    rw [hW.2]
    exact Int.mul_pos (Int.mul_pos h h1) h2
  · right; omega
theorem sameP {s s' : wS} (h : wA bP s s') : sameQ s s' := sameQ_of (h.mono bP_le_bQ)
theorem RQ_P {s s' : wS} (h : wA bP s s') (g : RQ s) : RQ s' := RQ_same (sameP h) g
theorem wW_same {s s' : wS} (h : s'.1 163 = s.1 163) : wW s' = wW s := by unfold wW; rw [h]
theorem t_div {x y : Int32} (hx : 0 ≤ x.toInt) (hy : 0 < y.toInt) : (x / y).toInt = x.toInt / y.toInt := by
  rw [Int32.toInt_div_of_ne_right x y (fun e => by rw [e] at hy; exact absurd hy (by decide))]
  exact Int.tdiv_eq_ediv_of_nonneg hx
theorem t_rem {x y : Int32} (hx : 0 ≤ x.toInt) (hy : 0 < y.toInt) : (x - x / y * y).toInt = x.toInt % y.toInt := by
  have hd := t_div hx hy
  have h1 : 0 ≤ x.toInt / y.toInt := Int.ediv_nonneg hx (by omega)
  have h2 : x.toInt / y.toInt * y.toInt ≤ x.toInt := Int.ediv_mul_le _ (by omega)
  have h3 : 0 ≤ x.toInt / y.toInt * y.toInt := Int.mul_nonneg h1 (by omega)
  have hl := Int32.toInt_lt x
  have e1 : (x / y * y).toInt = x.toInt / y.toInt * y.toInt := by
    rw [t_mul (by rw [hd]; omega) (by rw [hd]; omega), hd]
  rw [t_sub (by rw [e1]; omega) (by rw [e1]; omega), e1, Int.emod_def, Int.mul_comm y.toInt]
theorem wX11_in_T {x0 x2 x4 : Int64} {s : wS} : Tot (wX11_in x0 x2 x4 s) (fun t => (t = 1 ∧ x2.toInt ≤ x0.toInt ∧ x0.toInt ≤ x4.toInt) ∨ (t = 0 ∧ ¬ (x2.toInt ≤ x0.toInt ∧ x0.toInt ≤ x4.toInt))) := by
  unfold wX11_in
  refine t_ite (fun c => t_some (Or.inr ⟨rfl, ?_⟩)) (fun c => t_ite (fun c1 => t_some (Or.inr ⟨rfl, ?_⟩)) (fun c1 => t_some (Or.inl ⟨rfl, ?_, ?_⟩)))
  · rw [Int64.lt_iff_toInt_lt] at c; omega
  · rw [Int64.lt_iff_toInt_lt] at c1; omega
  · rw [Int64.lt_iff_toInt_lt] at c; omega
  · rw [Int64.lt_iff_toInt_lt] at c1; omega
theorem wX11_worlds_T {s : wS} : Tot (wX11_worlds s) (fun t => t = wW s) := ⟨_, rfl, rfl⟩
theorem wX11_thingOf_T {x1 x2 : Int32} {s : wS} (hR : RQ s) (hw : 0 ≤ x1.toInt) (hw2 : x1.toInt < (wW s).toInt) (hk : 0 ≤ x2.toInt) (hk2 : x2.toInt ≤ 2) : Tot (wX11_thingOf x1 x2 s) (fun t => 0 ≤ t.toInt ∧ t.toInt < (s.1 163 x2.toNatClampNeg).toInt) := by
  have hW := (wW_b hR).2
  obtain ⟨⟨⟨a1, a2⟩, ⟨b1, b2⟩, ⟨c1, c2⟩, hp, -⟩, -⟩ := hR
  have p0 : 0 < (s.1 163 0).toInt := by
    rcases Int.lt_or_eq_of_le a1 with h | h
    · exact h
    · rw [← h, Int.zero_mul, Int.zero_mul] at hW; omega
  obtain ⟨p1, p2⟩ := hp p0
  rw [hW] at hw2
  have d1 := t_div hw p2
  have n1 : 0 ≤ x1.toInt / (s.1 163 2).toInt := Int.ediv_nonneg hw (by omega)
  unfold wX11_thingOf
  refine t_ite (fun c => ?_) (fun c => t_ite (fun c' => ?_) (fun c' => ?_))
  · refine t_bind (t_rmI (by omega)) (fun t3 h3 => t_some ?_)
    subst c
    rw [h3, t_rem hw p2]
    exact ⟨Int.emod_nonneg _ (by omega), Int.emod_lt_of_pos _ p2⟩
  · refine t_bind (t_dvI (by omega)) (fun t6 h6 => ?_)
    refine t_bind (t_rmI (by omega)) (fun t8 h8 => t_some ?_)
    subst c'
    rw [h8, h6, t_rem (by rw [d1]; exact n1) p1]
    exact ⟨Int.emod_nonneg _ (by omega), Int.emod_lt_of_pos _ p1⟩
  · refine t_bind (t_dvI (by omega)) (fun t10 h10 => ?_)
    refine t_bind (t_dvI (by omega)) (fun t12 h12 => t_some ?_)
    have e0 : x2.toInt = 0 := by
      have h1 := t_nq c
      have h2 := t_nq c'
      rw [show (2 : Int32).toInt = 2 from rfl] at h1
      rw [show (1 : Int32).toInt = 1 from rfl] at h2
      omega
    have e1 : x2.toNatClampNeg = 0 := by unfold Int32.toNatClampNeg; rw [e0]; rfl
    rw [e1, h12, h10, t_div (by rw [d1]; exact n1) p1, d1]
    exact ⟨Int.ediv_nonneg n1 (by omega), Int.ediv_lt_of_lt_mul p1 (Int.ediv_lt_of_lt_mul p2 hw2)⟩
theorem t_ix64 {a b c : Int32} (ha : 0 ≤ a.toInt) (ha2 : a.toInt ≤ 2) (hb : 0 ≤ b.toInt) (hb2 : b.toInt < 8) (hc : 0 ≤ c.toInt) (hc2 : c.toInt < 8) : (((64 * a) + (8 * b)) + c).toInt = 64 * a.toInt + 8 * b.toInt + c.toInt := by
  have e64 : (64 : Int32).toInt = 64 := rfl
  have e8 : (8 : Int32).toInt = 8 := rfl
  have h1 : (64 * a).toInt = 64 * a.toInt := by rw [t_mul (by rw [e64]; omega) (by rw [e64]; omega), e64]
  have h2 : (8 * b).toInt = 8 * b.toInt := by rw [t_mul (by rw [e8]; omega) (by rw [e8]; omega), e8]
  have h3 : (64 * a + 8 * b).toInt = 64 * a.toInt + 8 * b.toInt := by rw [t_add (by rw [h1, h2]; omega) (by rw [h1, h2]; omega), h1, h2]
  rw [t_add (by rw [h3]; omega) (by rw [h3]; omega), h3]
theorem RQ_k {s : wS} (hR : RQ s) {k : Int32} (h0 : 0 ≤ k.toInt) (h2 : k.toInt ≤ 2) : 0 ≤ (s.1 163 k.toNatClampNeg).toInt ∧ (s.1 163 k.toNatClampNeg).toInt ≤ 8 := by
  have h : k.toNatClampNeg = 0 ∨ k.toNatClampNeg = 1 ∨ k.toNatClampNeg = 2 := by unfold Int32.toNatClampNeg; omega
  obtain ⟨⟨a, b, c, -⟩, -⟩ := hR
  rcases h with h | h | h <;> rw [h]
  · exact a
  · exact b
  · exact c
theorem wX11_isNearer_T {x1 x2 x3 x4 : Int32} {s : wS} (hR : RQ s) (hk : 0 ≤ x1.toInt) (hk2 : x1.toInt ≤ 2) (h2 : 0 ≤ x2.toInt) (h2b : x2.toInt < 8) (h3 : 0 ≤ x3.toInt) (h3b : x3.toInt < 8) (hw : 0 ≤ x4.toInt) (hw2 : x4.toInt < (wW s).toInt) : Tot (wX11_isNearer x1 x2 x3 x4 s) (fun t => t = 0 ∨ t = 1) := by
  unfold wX11_isNearer
  refine t_bind (wX11_thingOf_T hR hw hw2 hk hk2) (fun t1 h1 => ?_)
  have hb := (RQ_k hR hk hk2).2
  have e2 := t_ix64 hk hk2 h2 h2b h1.1 (by omega)
  have e3 := t_ix64 hk hk2 h3 h3b h1.1 (by omega)
  refine t_bind (t_ldL (n := 192) (by rw [e2]; omega) (by rw [e2]; omega)) (fun t3 _ => ?_)
  refine t_bind (t_ldL (n := 192) (by rw [e3]; omega) (by rw [e3]; omega)) (fun t4 _ => ?_)
  exact t_ite (fun _ => t_some (Or.inl rfl)) (fun _ => t_some (Or.inr rfl))
theorem t_ans {a w : Int32} (ha : 0 ≤ a.toInt) (ha2 : a.toInt < 40) (hw : 0 ≤ w.toInt) (hw2 : w.toInt ≤ 4) : (((42 + (5 * a)) + w) : Int32).toInt = 42 + 5 * a.toInt + w.toInt := by
  have e42 : (42 : Int32).toInt = 42 := rfl
  have e5 : (5 : Int32).toInt = 5 := rfl
  have h1 : (5 * a).toInt = 5 * a.toInt := by rw [t_mul (by rw [e5]; omega) (by rw [e5]; omega), e5]
  have h3 : (42 + 5 * a).toInt = 42 + 5 * a.toInt := by rw [t_add (by rw [h1, e42]; omega) (by rw [h1, e42]; omega), h1, e42]
  rw [t_add (by rw [h3]; omega) (by rw [h3]; omega), h3]
theorem wX11_answerOf_T {x1 x2 : Int32} {s : wS} (ha : 0 ≤ x1.toInt) (ha2 : x1.toInt < 40) (hw : 0 ≤ x2.toInt) (hw2 : x2.toInt ≤ 4) : Tot (wX11_answerOf x1 x2 s) (fun v => v = s.1 163 (42 + 5 * x1.toNatClampNeg + x2.toNatClampNeg)) := by
  unfold wX11_answerOf
  have e := t_ans ha ha2 hw hw2
  refine t_bind (t_ldI (n := 262) (by rw [e]; omega) (by rw [e]; omega)) (fun t1 h => t_some ?_)
  have q : (((42 + (5 * x1)) + x2) : Int32).toNatClampNeg = 42 + 5 * x1.toNatClampNeg + x2.toNatClampNeg := by
    unfold Int32.toNatClampNeg
    rw [e]
    omega
  rw [h, q]
theorem wX11_isTrue_T {x1 x2 : Int32} {s : wS} (hR : RQ s) (ha : 0 ≤ x1.toInt) (ha2 : x1.toInt < (s.1 163 3).toInt) (hw : 0 ≤ x2.toInt) (hw2 : x2.toInt < (wW s).toInt) : Tot (wX11_isTrue x1 x2 s) (fun t => t = 0 ∨ t = 1) := by
  unfold wX11_isTrue
  have hb := RQ_b hR
  have hA := hR.1.2.2.2.2.2.2.1 x1.toNatClampNeg (by unfold Int32.toNatClampNeg; omega)
  refine t_bind (wX11_answerOf_T ha (by omega) (by decide) (by decide)) (fun t1 h1 => ?_)
  refine t_bind (wX11_answerOf_T ha (by omega) (by decide) (by decide)) (fun t3 h3 => ?_)
  refine t_bind (wX11_answerOf_T ha (by omega) (by decide) (by decide)) (fun t5 h5 => ?_)
  have q1 : (42 + 5 * x1.toNatClampNeg + (1 : Int32).toNatClampNeg) = 43 + 5 * x1.toNatClampNeg := by rw [show (1 : Int32).toNatClampNeg = 1 from rfl]; omega
  have q2 : (42 + 5 * x1.toNatClampNeg + (2 : Int32).toNatClampNeg) = 44 + 5 * x1.toNatClampNeg := by rw [show (2 : Int32).toNatClampNeg = 2 from rfl]; omega
  have q3 : (42 + 5 * x1.toNatClampNeg + (3 : Int32).toNatClampNeg) = 45 + 5 * x1.toNatClampNeg := by rw [show (3 : Int32).toNatClampNeg = 3 from rfl]; omega
  rw [q1] at h1
  rw [q2] at h3
  rw [q3] at h5
  obtain ⟨⟨k0, k2⟩, ⟨o0, o1⟩, ⟨p0, p1⟩⟩ := hA
  rw [← h1] at k0 k2 o1 p1
  rw [← h3] at o0 o1
  rw [← h5] at p0 p1
  have hk := (RQ_k hR k0 k2).2
  refine t_bind (wX11_isNearer_T hR k0 k2 o0 (by omega) p0 (by omega) hw hw2) (fun t7 h7 => ?_)
  exact t_mono (t_rtZ h7) (fun r h => by rw [h]; exact h7)
theorem wX11_push_T {x1 : Int64} {s : wS} (h : 0 ≤ (s.1 152 22).toInt) (h2 : (s.1 152 22).toInt < 64) : Tot (wX11_push x1 s) (fun r => wA bP s r ∧ (r.1 152 22).toInt = (s.1 152 22).toInt + 1) := by
  unfold wX11_push
  refine t_bind (t_stL (B := bP) (n := 64) h (by omega)) (fun s1 h1 => ?_)
  refine t_bind (t_pfI (B := bP) rfl) (fun s2 h3 => t_some ⟨h1.1.trans h3.1, ?_⟩)
  have e1 : (1 : Int32).toInt = 1 := rfl
  have f : s1.1 152 22 = s.1 152 22 := by rw [h1.2]; rfl
  rw [h3.2, wup_same, f, t_add (by rw [e1]; omega) (by rw [e1]; omega), e1]
theorem wX11_pop_T {s : wS} (h : 1 ≤ (s.1 152 22).toInt) (h2 : (s.1 152 22).toInt ≤ 64) : Tot (wX11_pop s) (fun r => wA bP s r.2 ∧ (r.2.1 152 22).toInt = (s.1 152 22).toInt - 1) := by
  unfold wX11_pop
  refine t_bind (t_pfI (B := bP) rfl) (fun s1 h3 => ?_)
  have e1 : (1 : Int32).toInt = 1 := rfl
  have f : (s1.1 152 22).toInt = (s.1 152 22).toInt - 1 := by rw [h3.2, wup_same, t_sub (by rw [e1]; omega) (by rw [e1]; omega), e1]
  refine t_bind (t_ldL (n := 64) (by omega) (by omega)) (fun t2 _ => t_some ⟨h3.1, f⟩)
theorem wX11_one_T {x0 : Int32} {x1 x3 : Int64} {s : wS} : Tot (wX11_one x0 x1 x3 s) (fun _ => True) := by
  unfold wX11_one wX11_one_j150
  refine t_ite (fun _ => t_some trivial) (fun _ => t_ite (fun _ => t_some trivial) (fun _ => t_ite (fun _ => t_some trivial) (fun _ => t_ite (fun _ => t_ite (fun _ => t_some trivial) (fun c => t_bind (t_dvL c) (fun _ _ => t_some trivial))) (fun _ => ?_))))
  refine t_ite (fun _ => t_ite (fun _ => t_some trivial) (fun _ => t_some trivial)) (fun _ => ?_)
  refine t_ite (fun _ => t_ite (fun _ => t_some trivial) (fun _ => t_some trivial)) (fun _ => ?_)
  refine t_ite (fun _ => t_ite (fun _ => t_some trivial) (fun _ => t_some trivial)) (fun _ => ?_)
  refine t_ite (fun _ => t_ite (fun _ => t_some trivial) (fun _ => t_some trivial)) (fun _ => ?_)
  refine t_ite (fun _ => t_ite (fun _ => t_some trivial) (fun _ => t_some trivial)) (fun _ => ?_)
  exact t_ite (fun _ => t_some trivial) (fun _ => t_some trivial)
theorem t_sg {l i : Int32} (hl : 0 ≤ l.toInt) (hl2 : l.toInt < 7) (hi : 0 ≤ i.toInt) (hi2 : i.toInt ≤ 400) : ((400 * l) + i).toInt = 400 * l.toInt + i.toInt := by
  have e4 : (400 : Int32).toInt = 400 := rfl
  have h1 : (400 * l).toInt = 400 * l.toInt := by rw [t_mul (by rw [e4]; omega) (by rw [e4]; omega), e4]
  rw [t_add (by rw [h1]; omega) (by rw [h1]; omega), h1]
theorem wX11_reckons_h8_T {x1 x3 : Int32} (hl : 0 ≤ x1.toInt) (hl2 : x1.toInt < 6) (he : x3.toInt ≤ 400) : ∀ (n : Nat) {x4 : Int32} {s : wS} {h : Nat}, 0 ≤ x4.toInt → x4.toInt ≤ x3.toInt → (s.1 152 22).toInt = h → h ≤ 60 → hrun (fun i => s.1 154 (400 * x1.toNatClampNeg + i)) (x3.toInt - x4.toInt).toNat x4.toNatClampNeg h = some 1 → 2147483648 - x4.toInt < (n : Int) → Tot (wX11_reckons_h8 x1 x3 n x4 s) (fun r => wA bP s r ∧ (r.1 152 22).toInt = 1) := by
  intro n
  induction n with
  | zero => intro x4 s h _ _ _ _ _ hm; exact (t_m0 hm).elim
  | succ n ih =>
    intro x4 s h h0 h1 ht hh hr hm
    rw [wX11_reckons_h8]
    refine t_ite (fun c => ?_) (fun c => t_some ⟨wA.refl, ?_⟩)
    · have hc := t_lt c
      have hi := t_inc c
      have e := t_sg hl (by omega) h0 (by omega)
      have en : ((400 * x1) + x4).toNatClampNeg = 400 * x1.toNatClampNeg + x4.toNatClampNeg := by
        unfold Int32.toNatClampNeg
        rw [e]
        omega
      refine t_bind (t_ldI (n := 2400) (by rw [e]; omega) (by rw [e]; omega)) (fun t3 h3 => ?_)
      refine t_bind (t_ldI (n := 2400) (by rw [e]; omega) (by rw [e]; omega)) (fun t4 h4 => ?_)
      rw [en] at h3 h4
      have e5 : (x3.toInt - x4.toInt).toNat = (x3.toInt - (x4 + 1).toInt).toNat + 1 := by rw [hi]; omega
      have e6 : x4.toNatClampNeg + 1 = (x4 + 1).toNatClampNeg := by
        unfold Int32.toNatClampNeg
        rw [hi]
        omega
      rw [e5] at hr
      unfold hrun at hr
      rw [e6] at hr
      have go : ∀ (s' : wS) (h' : Nat), wA bP s s' → (s'.1 152 22).toInt = h' → h' ≤ 60 → hrun (fun i => s.1 154 (400 * x1.toNatClampNeg + i)) (x3.toInt - (x4 + 1).toInt).toNat (x4 + 1).toNatClampNeg h' = some 1 → Tot (wX11_reckons_h8 x1 x3 n (x4 + 1) s') (fun r => wA bP s r ∧ (r.1 152 22).toInt = 1) := by
        intro s' h' a1 a2 a3 a4
        have a5 : s'.1 154 = s.1 154 := (sameP a1).2.2.2.1
        exact t_mono (ih (by rw [hi]; omega) (by rw [hi]; omega) a2 a3 (by rw [a5]; exact a4) (t_m1 c hm)) (fun r hr => ⟨a1.trans hr.1, hr.2⟩)
      split at hr
      · cases hr
      · next h1' hs =>
        rw [← h3] at hs
        unfold hstep at hs
        refine t_ite (fun c0 => ?_) (fun c0 => t_ite (fun c1 => ?_) (fun c1 => t_ite (fun c2 => ?_) (fun c2 => ?_)))
        · rw [if_pos c0] at hs
          split at hs
          · obtain rfl := Option.some.inj hs
            refine t_bind (wX11_push_T (by omega) (by omega)) (fun s7 h7 => ?_)
            unfold wX11_reckons_j129
            exact go _ _ h7.1 (by rw [h7.2, ht]; rfl) (by omega) hr
          · cases hs
        · rw [if_neg c0, if_pos c1] at hs
          split at hs
          · next hq =>
            obtain rfl := Option.some.inj hs
            have e34 : t4 = t3 := by rw [h3, h4]
            refine t_bind (t_ldL (n := 8) (by rw [e34]; exact hq.2.1) (by rw [e34]; exact hq.2.2)) (fun t10 _ => ?_)
            refine t_bind (wX11_push_T (by omega) (by omega)) (fun s7 h7 => ?_)
            unfold wX11_reckons_j129
            exact go _ _ h7.1 (by rw [h7.2, ht]; rfl) (by omega) hr
          · cases hs
        · rw [if_neg c0, if_neg c1, if_pos c2] at hs
          split at hs
          · next hq =>
            obtain rfl := Option.some.inj hs
            refine t_bind (wX11_pop_T (by omega) (by omega)) (fun r h7 => ?_)
            obtain ⟨t15, s16⟩ := r
            dsimp only at h7 ⊢
            refine t_bind (wX11_push_T (by omega) (by omega)) (fun s19 h8 => ?_)
            unfold wX11_reckons_j129
            exact go _ _ (h7.1.trans h8.1) (by rw [h8.2, h7.2, ht]; omega) (by omega) hr
          · cases hs
        · rw [if_neg c0, if_neg c1, if_neg c2] at hs
          split at hs
          · next hq =>
            obtain rfl := Option.some.inj hs
            refine t_bind (wX11_pop_T (by omega) (by omega)) (fun r h7 => ?_)
            obtain ⟨t21, s22⟩ := r
            dsimp only at h7 ⊢
            refine t_bind (wX11_pop_T (by omega) (by omega)) (fun r h8 => ?_)
            obtain ⟨t24, s25⟩ := r
            dsimp only at h8 ⊢
            refine t_bind wX11_one_T (fun t27 _ => ?_)
            refine t_bind (wX11_push_T (by omega) (by omega)) (fun s30 h9 => ?_)
            unfold wX11_reckons_j129
            exact go _ _ ((h7.1.trans h8.1).trans h9.1) (by rw [h9.2, h8.2, h7.2, ht]; omega) (by omega) hr
          · cases hs
    · have hc := t_ge c
      have e5 : (x3.toInt - x4.toInt).toNat = 0 := by omega
      rw [e5] at hr
      obtain rfl := Option.some.inj hr
      rw [ht]
      rfl
theorem wX11_reckons_T {x1 x2 x3 : Int32} {s : wS} (hl : 0 ≤ x1.toInt) (hl2 : x1.toInt < 6) (hw : qWF (fun i => s.1 154 (400 * x1.toNatClampNeg + i)) x2.toInt x3.toInt) : Tot (wX11_reckons x1 x2 x3 s) (fun r => wA bP s r.2) := by
  unfold wX11_reckons
  obtain ⟨w1, w2, w3, w4⟩ := hw
  refine t_bind (t_pfI (B := bP) rfl) (fun s1 h1 => ?_)
  have f : (s1.1 152 22).toInt = (0 : Nat) := by rw [h1.2, wup_same]; rfl
  have a5 : s1.1 154 = s.1 154 := (sameP h1.1).2.2.2.1
  refine t_bind (wX11_reckons_h8_T hl hl2 w3 _ w1 w2 f (by omega) (by rw [a5]; exact w4) t_mi) (fun s33 h33 => ?_)
  refine t_bind (wX11_pop_T (by omega) (by omega)) (fun r h8 => ?_)
  obtain ⟨t44, s45⟩ := r
  exact t_some ((h1.1.trans h33.1).trans h8.1)
