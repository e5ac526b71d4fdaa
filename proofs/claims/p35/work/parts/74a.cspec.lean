/-! A COURT's text: what both sides read. -/
noncomputable def mrun {C R : Type} (f : C → C ⊕ R) : Nat → C → Option R
  | 0, _ => none
  | n + 1, c => match f c with
    | .inl c' => mrun f n c'
    | .inr r => some r
/-- so it ends -/
noncomputable def Ev {C R : Type} (f : C → C ⊕ R) (c : C) (r : R) : Prop := ∃ n, mrun f n c = some r
theorem Ev.step {C R : Type} {f : C → C ⊕ R} {c c' : C} {r : R} (h : f c = .inl c') (g : Ev f c' r) : Ev f c r := by
  obtain ⟨n, g⟩ := g
  refine ⟨n + 1, ?_⟩
  unfold mrun
  rw [h]
  exact g
theorem Ev.ret {C R : Type} {f : C → C ⊕ R} {c : C} {r : R} (h : f c = .inr r) : Ev f c r := by
  refine ⟨1, ?_⟩
  unfold mrun
  rw [h]
theorem mrun_det {C R : Type} {f : C → C ⊕ R} : ∀ {n m : Nat} {c : C} {r r' : R}, mrun f n c = some r → mrun f m c = some r' → r = r' := by
  intro n
  induction n with
  | zero => intro m c r r' h; cases h
  | succ n ih =>
    intro m c r r' h g
    cases m with
    | zero => cases g
    | succ m =>
      unfold mrun at h g
      cases e : f c with
      | inl c' => rw [e] at h g; exact ih h g
      | inr q => rw [e] at h g; exact (Option.some.inj h).symm.trans (Option.some.inj g)
theorem Ev.det {C R : Type} {f : C → C ⊕ R} {c : C} {r r' : R} (h : Ev f c r) (g : Ev f c r') : r = r' := by
  obtain ⟨n, h⟩ := h
  obtain ⟨m, g⟩ := g
  exact mrun_det h g
/-- here, HOURS told (0: not), ROADS, MEN, their numbers -/
noncomputable abbrev cC : Type := Nat × Int32 × Nat × Nat × (Nat → Int32) × (Nat → Int32)
noncomputable def ccl (S P N : Nat → Int32) (k : Nat) (h : Int32) (r m : Nat) (R M : Nat → Int32) : Int32 ⊕ cC :=
  if S k = 15 then (if h = 0 then (match num S P N (k + 1) 1 8 with
    | some e => .inl e
    | none => .inr (k + 2, N (k + 1), r, m, R, M)) else .inl (fl 4 (P k)))
  else if S k = 17 then (if r = 8 then .inl (fl 4 (P k)) else (match num S P N (k + 1) 0 99 with
    | some e => .inl e
    | none => (match num S P N (k + 2) 0 99 with
      | some e => .inl e
      | none => .inr (k + 3, h, r + 1, m, upd (upd R (2 * r) (N (k + 1))) (2 * r + 1) (N (k + 2)), M))))
  else if S k = 18 then (if m = 8 then .inl (fl 4 (P k)) else (match num S P N (k + 1) 0 99 with
    | some e => .inl e
    | none => (match num S P N (k + 2) 0 9 with
      | some e => .inl e
      | none => .inr (k + 3, h, r, m + 1, R, upd (upd M (2 * m) (N (k + 1))) (2 * m + 1) (N (k + 2))))))
  else .inl (fl 0 (P k))
noncomputable def cst (S P N : Nat → Int32) (c : cC) : cC ⊕ (Int32 ⊕ cC) :=
  match ccl S P N c.1 c.2.1 c.2.2.1 c.2.2.2.1 c.2.2.2.2.1 c.2.2.2.2.2 with
  | .inl e => .inr (.inl e)
  | .inr c' => if S c'.1 = 3 then .inl (c'.1 + 1, c'.2) else if S c'.1 = 0 then (if c'.2.2.1 = 0 ∨ c'.2.2.2.1 = 0 then .inr (.inl (fl 0 (P c'.1))) else .inr (.inr c')) else .inr (.inl (fl 0 (P c'.1)))
theorem set_E {k n : Nat} {i v : Int32} {s : wS} (hk : wln k = n) (hn : n ≤ 2400) (h0 : 0 ≤ i.toInt) (h1 : i.toInt < n) : wX10_set k i v s = some (wupI s k i.toNatClampNeg v) := by
  unfold wX10_set
  rw [if_neg (fun c => by have := t_lt c; rw [t_i0] at this; omega), hk, if_pos (Int32.lt_iff_toInt_lt.2 (by rw [t_ofNat hn]; exact h1))]
  obtain ⟨v, e, hv⟩ := t_stI (B := fun _ _ => true) (s := s) (k := k) (n := n) (v := v) h0 h1 (fun _ => rfl)
  rw [e, hv.2]
  rfl
theorem wst_E {k n : Nat} {i v : Int32} {s : wS} (h0 : 0 ≤ i.toInt) (h1 : i.toInt < n) : wstI s k n i v = some (wupI s k i.toNatClampNeg v) := by
  unfold wstI
  rw [if_neg (t_ix h0 h1)]
theorem wld_E {k n : Nat} {i : Int32} {s : wS} (h0 : 0 ≤ i.toInt) (h1 : i.toInt < n) : wldI s k n i = some (s.1 k i.toNatClampNeg) := by
  unfold wldI
  rw [if_neg (t_ix h0 h1)]
theorem isOutside_E {x y : Int32} {s : wS} : wX10_isOutside x y s = some (if 0 ≤ x.toInt ∧ x.toInt < y.toInt then 0 else 1) := by
  obtain ⟨t, e, h⟩ := wX10_isOutside_T (x0 := x) (x1 := y) (s := s)
  rw [e]
  rcases h with h | h
  · rw [h.1, if_pos h.2]
  · rw [h.1, if_neg h.2]
theorem t_nc {n : Nat} (h : n < 2147483648) : (Int32.ofNat n).toNatClampNeg = n := by
  have := t_on h
  unfold Int32.toNatClampNeg
  omega
/-- the COURT as far as it is told -/
noncomputable def CD (h : Int32) (r m : Nat) (R M : Nat → Int32) (s : wS) : Prop := (s.1 10 0 = (if h = 0 then 1 else h) ∧ s.1 10 1 = Int32.ofNat r ∧ s.1 10 2 = Int32.ofNat m) ∧ (∀ i, i < r → s.1 11 (8 + i) = R (2 * i) ∧ s.1 12 (8 + i) = R (2 * i + 1)) ∧ (∀ i, i < m → s.1 11 (16 + i) = M (2 * i) ∧ s.1 12 (16 + i) = M (2 * i + 1)) ∧ s.1 7 0 = (if h = 0 then 0 else 1) ∧ (r ≤ 8 ∧ m ≤ 8) ∧ (0 ≤ h.toInt ∧ h.toInt ≤ 8)
theorem CD.go {h : Int32} {r m : Nat} {R M : Nat → Int32} {s s' : wS} (g : CD h r m R M s) (h10 : s'.1 10 = s.1 10) (h11 : s'.1 11 = s.1 11) (h12 : s'.1 12 = s.1 12) (h7 : s'.1 7 0 = s.1 7 0) : CD h r m R M s' := by
  unfold CD
  rw [h10, h11, h12, h7]
  exact g
theorem CD.of3 {h : Int32} {r m : Nat} {R M : Nat → Int32} {s s' : wS} (g : CD h r m R M s) (a : wA (fun k _ => Nat.beq k 3) s s') : CD h r m R M s' := g.go (funext fun b => a 10 b rfl) (funext fun b => a 11 b rfl) (funext fun b => a 12 b rfl) (a 7 0 rfl)
/-- a ROAD or a MAN more -/
theorem add_E {kind n : Nat} {x y : Int32} {s : wS} (hk : kind < 3) (hn : n < 8) (h : s.1 10 kind = Int32.ofNat n) : wX0_add 9 (Int32.ofNat kind) x y s = some (wupI (wupI (wupI s 11 (8 * kind + n) x) 12 (8 * kind + n) y) 10 kind (Int32.ofNat (n + 1))) := by
  have ek : (Int32.ofNat kind).toInt = kind := t_on (by omega)
  have eN : (Int32.ofNat n).toInt = n := t_on (by omega)
  have nk : (Int32.ofNat kind).toNatClampNeg = kind := t_nc (by omega)
  have e8 : (8 : Int32).toInt = 8 := rfl
  have q1 : (Int32.ofNat kind * 8).toInt = kind * 8 := by rw [t_mul (by rw [ek, e8]; omega) (by rw [ek, e8]; omega), ek, e8]
  have q2 : (Int32.ofNat kind * 8 + Int32.ofNat n).toInt = 8 * kind + n := by rw [t_add (by omega) (by omega), q1, eN]; omega
  have q3 : (Int32.ofNat kind * 8 + Int32.ofNat n).toNatClampNeg = 8 * kind + n := by unfold Int32.toNatClampNeg; omega
  have q4 : Int32.ofNat n + 1 = Int32.ofNat (n + 1) := Int32.toInt_inj.1 (by rw [t_p1 (by omega) (by omega), eN, t_on (by omega)]; rfl)
  have hm : wX0_manyOf 9 (Int32.ofNat kind) s = some (Int32.ofNat n) := by
    unfold wX0_manyOf
    rw [at_E (n := 3) rfl (by omega) (by omega) (by omega), nk, h]
    rfl
  have hs : ∀ u : wS, wX10_slot (Int32.ofNat kind) (Int32.ofNat n) u = some (Int32.ofNat kind * 8 + Int32.ofNat n) := fun u => rfl
  unfold wX0_add
  rw [hm]
  rw [t_sbe]
  try dsimp only
  rw [if_pos (Int32.lt_iff_toInt_lt.2 (by omega)), hs]
  rw [t_sbe]
  try dsimp only
  rw [set_E (n := 24) rfl (by omega) (by omega) (by omega), q3]
  rw [t_sbe]
  try dsimp only
  rw [hs]
  rw [t_sbe]
  try dsimp only
  rw [set_E (n := 24) rfl (by omega) (by omega) (by omega), q3]
  rw [t_sbe]
  try dsimp only
  rw [set_E (n := 3) rfl (by omega) (by omega) (by omega), nk, q4]
  rfl
theorem setHours_E {x : Int32} {s : wS} (h0 : 0 ≤ x.toInt) (h1 : x.toInt ≤ 8) : wX0_setHours 9 x s = some (wupI s 10 0 x) := by
  unfold wX0_setHours
  rw [isOutside_E, if_pos ⟨h0, by rw [show (9 : Int32).toInt = 9 from rfl]; omega⟩]
  rw [t_sbe]
  try dsimp only
  rw [if_pos rfl]
  unfold wX0_setHours_j19
  rw [wst_E (by decide) (by decide)]
  rfl
noncomputable def bCt (k _b : Nat) : Bool := Nat.ble 10 k && Nat.ble k 12
theorem CF.ct {S P N : Nat → Int32} {K : Nat} {e : Int32} {s s' : wS} (h : CF S P N K e s) (a : wA bCt s s') : CF S P N K e s' := h.go (funext fun b => a 4 b rfl) (funext fun b => a 5 b rfl) (funext fun b => a 6 b rfl) (funext fun b => a 3 b rfl)
theorem num_i {S P N : Nat → Int32} {k : Nat} {lo hi : Int32} (h : num S P N k lo hi = none) : S k = 2 ∧ lo.toInt ≤ (N k).toInt ∧ (N k).toInt ≤ hi.toInt := by
  unfold num at h
  by_cases c : S k = 2
  · rw [if_pos c] at h
    by_cases d : N k < lo ∨ hi < N k
    · rw [if_pos d] at h; cases h
    · exact ⟨c, t_ge (fun q => d (Or.inl q)), t_ge (fun q => d (Or.inr q))⟩
  · rw [if_neg c] at h; cases h
