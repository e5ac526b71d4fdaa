section
/-! A COURT's text: what both sides read. -/
noncomputable def mrun {C R : Type} (f : C → C ⊕ R) : Nat → C → Option R
  | 0, _ => none
  | n + 1, c => match f c with
    | .inl c' => mrun f n c'
    | .inr r => some r
/-- so it ends -/
noncomputable def Ev {C R : Type} (f : C → C ⊕ R) (c : C) (r : R) : Prop := ∃ n, mrun f n c = some r
theorem Ev.step {C R : Type} {f : C → C ⊕ R} {c c' : C} {r : R} (h : f c = .inl c') (g : Ev f c' r) : Ev f c r := by
  obtain ⟨n, g⟩ := g
  refine ⟨n + 1, ?_⟩
  unfold mrun
  rw [h]
  exact g
theorem Ev.ret {C R : Type} {f : C → C ⊕ R} {c : C} {r : R} (h : f c = .inr r) : Ev f c r := by
  refine ⟨1, ?_⟩
  unfold mrun
  rw [h]
theorem mrun_det {C R : Type} {f : C → C ⊕ R} : ∀ {n m : Nat} {c : C} {r r' : R}, mrun f n c = some r → mrun f m c = some r' → r = r' := by
  intro n
  induction n with
  | zero => intro m c r r' h; cases h
  | succ n ih =>
    intro m c r r' h g
    cases m with
    | zero => cases g
    | succ m =>
      unfold mrun at h g
      cases e : f c with
      | inl c' => rw [e] at h g; exact ih h g
      | inr q => rw [e] at h g; exact (Option.some.inj h).symm.trans (Option.some.inj g)
theorem Ev.det {C R : Type} {f : C → C ⊕ R} {c : C} {r r' : R} (h : Ev f c r) (g : Ev f c r') : r = r' := by
  obtain ⟨n, h⟩ := h
  obtain ⟨m, g⟩ := g
  exact mrun_det h g
/-- here, HOURS told (0: not), ROADS, MEN, their numbers -/
noncomputable abbrev cC : Type := Nat × Int32 × Nat × Nat × (Nat → Int32) × (Nat → Int32)
noncomputable def ccl (S P N : Nat → Int32) (k : Nat) (h : Int32) (r m : Nat) (R M : Nat → Int32) : Int32 ⊕ cC :=
  if S k = 15 then (if h = 0 then (match num S P N (k + 1) 1 8 with
    | some e => .inl e
    | none => .inr (k + 2, N (k + 1), r, m, R, M)) else .inl (fl 4 (P k)))
  else if S k = 17 then (if r = 8 then .inl (fl 4 (P k)) else (match num S P N (k + 1) 0 99 with
    | some e => .inl e
    | none => (match num S P N (k + 2) 0 99 with
      | some e => .inl e
      | none => .inr (k + 3, h, r + 1, m, upd (upd R (2 * r) (N (k + 1))) (2 * r + 1) (N (k + 2)), M))))
  else if S k = 18 then (if m = 8 then .inl (fl 4 (P k)) else (match num S P N (k + 1) 0 99 with
    | some e => .inl e
    | none => (match num S P N (k + 2) 0 9 with
      | some e => .inl e
      | none => .inr (k + 3, h, r, m + 1, R, upd (upd M (2 * m) (N (k + 1))) (2 * m + 1) (N (k + 2))))))
  else .inl (fl 0 (P k))
noncomputable def cst (S P N : Nat → Int32) (c : cC) : cC ⊕ (Int32 ⊕ cC) :=
  match ccl S P N c.1 c.2.1 c.2.2.1 c.2.2.2.1 c.2.2.2.2.1 c.2.2.2.2.2 with
  | .inl e => .inr (.inl e)
  | .inr c' => if S c'.1 = 3 then .inl (c'.1 + 1, c'.2) else if S c'.1 = 0 then (if c'.2.2.1 = 0 ∨ c'.2.2.2.1 = 0 then .inr (.inl (fl 0 (P c'.1))) else .inr (.inr c')) else .inr (.inl (fl 0 (P c'.1)))
theorem set_E {k n : Nat} {i v : Int32} {s : wS} (hk : wln k = n) (hn : n ≤ 2400) (h0 : 0 ≤ i.toInt) (h1 : i.toInt < n) : wX10_set k i v s = some (wupI s k i.toNatClampNeg v) := by
  unfold wX10_set
  rw [if_neg (fun c => by have := t_lt c; rw [t_i0] at this; omega), hk, if_pos (Int32.lt_iff_toInt_lt.2 (by rw [t_ofNat hn]; exact h1))]
  obtain ⟨v, e, hv⟩ := t_stI (B := fun _ _ => true) (s := s) (k := k) (n := n) (v := v) h0 h1 (fun _ => rfl)
  rw [e, hv.2]
  rfl
theorem wst_E {k n : Nat} {i v : Int32} {s : wS} (h0 : 0 ≤ i.toInt) (h1 : i.toInt < n) : wstI s k n i v = some (wupI s k i.toNatClampNeg v) := by
  unfold wstI
  rw [if_neg (t_ix h0 h1)]
theorem wld_E {k n : Nat} {i : Int32} {s : wS} (h0 : 0 ≤ i.toInt) (h1 : i.toInt < n) : wldI s k n i = some (s.1 k i.toNatClampNeg) := by
  unfold wldI
  rw [if_neg (t_ix h0 h1)]
theorem isOutside_E {x y : Int32} {s : wS} : wX10_isOutside x y s = some (if 0 ≤ x.toInt ∧ x.toInt < y.toInt then 0 else 1) := by
  obtain ⟨t, e, h⟩ := wX10_isOutside_T (x0 := x) (x1 := y) (s := s)
  rw [e]
  rcases h with h | h
  · rw [h.1, if_pos h.2]
  · rw [h.1, if_neg h.2]
theorem t_nc {n : Nat} (h : n < 2147483648) : (Int32.ofNat n).toNatClampNeg = n := by
  have := t_on h
  unfold Int32.toNatClampNeg
  omega
/-- the COURT as far as it is told -/
noncomputable def CD (h : Int32) (r m : Nat) (R M : Nat → Int32) (s : wS) : Prop := (s.1 10 0 = (if h = 0 then 1 else h) ∧ s.1 10 1 = Int32.ofNat r ∧ s.1 10 2 = Int32.ofNat m) ∧ (∀ i, i < r → s.1 11 (8 + i) = R (2 * i) ∧ s.1 12 (8 + i) = R (2 * i + 1)) ∧ (∀ i, i < m → s.1 11 (16 + i) = M (2 * i) ∧ s.1 12 (16 + i) = M (2 * i + 1)) ∧ s.1 7 0 = (if h = 0 then 0 else 1) ∧ (r ≤ 8 ∧ m ≤ 8) ∧ (0 ≤ h.toInt ∧ h.toInt ≤ 8)
theorem CD.go {h : Int32} {r m : Nat} {R M : Nat → Int32} {s s' : wS} (g : CD h r m R M s) (h10 : s'.1 10 = s.1 10) (h11 : s'.1 11 = s.1 11) (h12 : s'.1 12 = s.1 12) (h7 : s'.1 7 0 = s.1 7 0) : CD h r m R M s' := by
  unfold CD
  rw [h10, h11, h12, h7]
  exact g
theorem CD.of3 {h : Int32} {r m : Nat} {R M : Nat → Int32} {s s' : wS} (g : CD h r m R M s) (a : wA (fun k _ => Nat.beq k 3) s s') : CD h r m R M s' := g.go (funext fun b => a 10 b rfl) (funext fun b => a 11 b rfl) (funext fun b => a 12 b rfl) (a 7 0 rfl)
/-- a ROAD or a MAN more -/
theorem add_E {kind n : Nat} {x y : Int32} {s : wS} (hk : kind < 3) (hn : n < 8) (h : s.1 10 kind = Int32.ofNat n) : wX0_add 9 (Int32.ofNat kind) x y s = some (wupI (wupI (wupI s 11 (8 * kind + n) x) 12 (8 * kind + n) y) 10 kind (Int32.ofNat (n + 1))) := by
  have ek : (Int32.ofNat kind).toInt = kind := t_on (by omega)
  have eN : (Int32.ofNat n).toInt = n := t_on (by omega)
  have nk : (Int32.ofNat kind).toNatClampNeg = kind := t_nc (by omega)
  have e8 : (8 : Int32).toInt = 8 := rfl
  have q1 : (Int32.ofNat kind * 8).toInt = kind * 8 := by rw [t_mul (by rw [ek, e8]; omega) (by rw [ek, e8]; omega), ek, e8]
  have q2 : (Int32.ofNat kind * 8 + Int32.ofNat n).toInt = 8 * kind + n := by rw [t_add (by omega) (by omega), q1, eN]; omega
  have q3 : (Int32.ofNat kind * 8 + Int32.ofNat n).toNatClampNeg = 8 * kind + n := by unfold Int32.toNatClampNeg; omega
  have q4 : Int32.ofNat n + 1 = Int32.ofNat (n + 1) := Int32.toInt_inj.1 (by rw [t_p1 (by omega) (by omega), eN, t_on (by omega)]; rfl)
  have hm : wX0_manyOf 9 (Int32.ofNat kind) s = some (Int32.ofNat n) := by
    unfold wX0_manyOf
    rw [at_E (n := 3) rfl (by omega) (by omega) (by omega), nk, h]
    rfl
  have hs : ∀ u : wS, wX10_slot (Int32.ofNat kind) (Int32.ofNat n) u = some (Int32.ofNat kind * 8 + Int32.ofNat n) := fun u => rfl
  unfold wX0_add
  rw [hm]
  rw [t_sbe]
  try dsimp only
  rw [if_pos (Int32.lt_iff_toInt_lt.2 (by omega)), hs]
  rw [t_sbe]
  try dsimp only
  rw [set_E (n := 24) rfl (by omega) (by omega) (by omega), q3]
  rw [t_sbe]
  try dsimp only
  rw [hs]
  rw [t_sbe]
  try dsimp only
  rw [set_E (n := 24) rfl (by omega) (by omega) (by omega), q3]
  rw [t_sbe]
  try dsimp only
  rw [set_E (n := 3) rfl (by omega) (by omega) (by omega), nk, q4]
  rfl
theorem setHours_E {x : Int32} {s : wS} (h0 : 0 ≤ x.toInt) (h1 : x.toInt ≤ 8) : wX0_setHours 9 x s = some (wupI s 10 0 x) := by
  unfold wX0_setHours
  rw [isOutside_E, if_pos ⟨h0, by rw [show (9 : Int32).toInt = 9 from rfl]; omega⟩]
  rw [t_sbe]
  try dsimp only
  rw [if_pos rfl]
  unfold wX0_setHours_j19
  rw [wst_E (by decide) (by decide)]
  rfl
noncomputable def bCt (k _b : Nat) : Bool := Nat.ble 10 k && Nat.ble k 12
theorem CF.ct {S P N : Nat → Int32} {K : Nat} {e : Int32} {s s' : wS} (h : CF S P N K e s) (a : wA bCt s s') : CF S P N K e s' := h.go (funext fun b => a 4 b rfl) (funext fun b => a 5 b rfl) (funext fun b => a 6 b rfl) (funext fun b => a 3 b rfl)
theorem num_i {S P N : Nat → Int32} {k : Nat} {lo hi : Int32} (h : num S P N k lo hi = none) : S k = 2 ∧ lo.toInt ≤ (N k).toInt ∧ (N k).toInt ≤ hi.toInt := by
  unfold num at h
  by_cases c : S k = 2
  · rw [if_pos c] at h
    by_cases d : N k < lo ∨ hi < N k
    · rw [if_pos d] at h; cases h
    · exact ⟨c, t_ge (fun q => d (Or.inl q)), t_ge (fun q => d (Or.inr q))⟩
  · rw [if_neg c] at h; cases h
end
section
/-! The class reads a COURT. -/
section CCL
variable {S P N : Nat → Int32} {K k : Nat} {s : wS} {h : Int32} {r m : Nat} {R M : Nat → Int32}
theorem wA3 {s s' : wS} (a : wA (fun k b => Nat.beq k 3 && (Nat.beq b 4 || Nat.beq b 5)) s s') : wA (fun k _ => Nat.beq k 3) s s' := a.mono (fun k b hb => by
  simp only [Bool.and_eq_true] at hb
  exact hb.1)
theorem wA_hr {s : wS} {k : Nat} : wA (fun k _ => Nat.beq k 3) s (hr s k) := wA_I rfl
theorem updI_s {f : Nat → Int32} {k : Nat} {v : Int32} : upd f k v k = v := by unfold upd; rw [if_pos rfl]
theorem updI_n {f : Nat → Int32} {k j : Nat} {v : Int32} (h : j ≠ k) : upd f k v j = f j := by unfold upd; rw [if_neg h]
theorem CD.road {x y : Int32} (g : CD h r m R M s) (hr : r < 8) : CD h (r + 1) m (upd (upd R (2 * r) x) (2 * r + 1) y) M (wupI (wupI (wupI s 11 (8 * 1 + r) x) 12 (8 * 1 + r) y) 10 1 (Int32.ofNat (r + 1))) := by
  obtain ⟨⟨g1, g2, g3⟩, g4, g5, g6, g7, g8⟩ := g
  refine ⟨⟨?_, wup_same, ?_⟩, fun i hi => ?_, fun i hi => ?_, ?_, by omega, g8⟩
  · rw [wup_nb (by decide), wupI_n (by decide), wupI_n (by decide)]; exact g1
  · rw [wup_nb (by decide), wupI_n (by decide), wupI_n (by decide)]; exact g3
  · rw [wupI_n (by decide), wupI_n (by decide), wupI_k, wupI_n (by decide), wupI_k, wupI_n (by decide)]
    by_cases c : i = r
    · subst c
      rw [updI_s, updI_s, updI_n (by omega), updI_s, updI_s]
      exact ⟨rfl, rfl⟩
    · rw [updI_n (by omega), updI_n (by omega), updI_n (by omega), updI_n (by omega), updI_n (by omega), updI_n (by omega)]
      exact g4 i (by omega)
  · rw [wupI_n (by decide), wupI_n (by decide), wupI_k, wupI_n (by decide), wupI_k, wupI_n (by decide), updI_n (by omega), updI_n (by omega)]
    exact g5 i hi
  · rw [wupI_n (by decide), wupI_n (by decide), wupI_n (by decide)]; exact g6
theorem CD.man {x y : Int32} (g : CD h r m R M s) (hm : m < 8) : CD h r (m + 1) R (upd (upd M (2 * m) x) (2 * m + 1) y) (wupI (wupI (wupI s 11 (8 * 2 + m) x) 12 (8 * 2 + m) y) 10 2 (Int32.ofNat (m + 1))) := by
  obtain ⟨⟨g1, g2, g3⟩, g4, g5, g6, g7, g8⟩ := g
  refine ⟨⟨?_, ?_, wup_same⟩, fun i hi => ?_, fun i hi => ?_, ?_, by omega, g8⟩
  · rw [wup_nb (by decide), wupI_n (by decide), wupI_n (by decide)]; exact g1
  · rw [wup_nb (by decide), wupI_n (by decide), wupI_n (by decide)]; exact g2
  · rw [wupI_n (by decide), wupI_n (by decide), wupI_k, wupI_n (by decide), wupI_k, wupI_n (by decide), updI_n (by omega), updI_n (by omega)]
    exact g4 i hi
  · rw [wupI_n (by decide), wupI_n (by decide), wupI_k, wupI_n (by decide), wupI_k, wupI_n (by decide)]
    by_cases c : i = m
    · subst c
      rw [updI_s, updI_s, updI_n (by omega), updI_s, updI_s]
      exact ⟨rfl, rfl⟩
    · rw [updI_n (by omega), updI_n (by omega), updI_n (by omega), updI_n (by omega), updI_n (by omega), updI_n (by omega)]
      exact g5 i (by omega)
  · rw [wupI_n (by decide), wupI_n (by decide), wupI_n (by decide)]; exact g6
/-- what a CLAUSE comes to -/
noncomputable def RC (S P N : Nat → Int32) (K k : Nat) (q : Int32 ⊕ cC) (s' : wS) : Prop := (∃ e, q = .inl e ∧ CF S P N K e s') ∨ (∃ c' : cC, q = .inr c' ∧ k + 2 ≤ c'.1 ∧ c'.1 ≤ K ∧ CT S P N K c'.1 s' ∧ s'.1 3 5 = 0 ∧ CD c'.2.1 c'.2.2.1 c'.2.2.2.1 c'.2.2.2.2.1 c'.2.2.2.2.2 s')
/-- a second NUMBER, and what it makes -/
theorem j121_F {e y1 y2 y4 y5 : Int32} {s : wS} (hF : CF S P N K e s) : Tot (wX1_readClause_j121 9 y1 y2 y4 y5 s) (fun s' => CF S P N K e s') := by
  obtain ⟨v, ev⟩ := takeNumber_F (lo := y4) (hi := y5) hF
  unfold wX1_readClause_j121
  rw [ev]
  refine t_sb ?_
  dsimp only
  refine t_bind (wX0_add_T (k0 := 9) (B := bCt) rfl (fun _ => rfl) (fun _ => rfl) (fun _ => rfl)) (fun s30 h30 => t_some (hF.ct h30))
theorem pre_num {S P N : Nat → Int32} {k : Nat} {lo hi : Int32} : (∃ e, num S P N k lo hi = some e) ∨ num S P N k lo hi = none := by
  cases num S P N k lo hi with
  | none => exact Or.inr rfl
  | some e => exact Or.inl ⟨e, rfl⟩
theorem readClause_E (ct : CT S P N K k s) (hk : k ≤ K) (h0 : s.1 3 5 = 0) (hS : S K = 0) (pb : ∀ j, j ≤ K → 0 ≤ (P j).toInt ∧ (P j).toInt ≤ 400) (cd : CD h r m R M s) : Tot (wX1_readClause 9 s) (fun s' => RC S P N K k (ccl S P N k h r m R M) s') := by
  have hK := ct.2.1.2
  have full : Tot ((wX9_fail 4 s).bind fun s33 => some s33) (fun s' => CF S P N K (fl 4 (P k)) s') := by
    obtain ⟨q, e1, e2, -⟩ := ct.fault (c := 4) hk h0 hS (fl_0 (by decide) (by decide) (pb k hk).1 (pb k hk).2)
    rw [e1]
    exact t_some e2
  have cant : Tot ((wX9_fail 0 s).bind fun s7 => some s7) (fun s' => CF S P N K (fl 0 (P k)) s') := by
    obtain ⟨q, e1, e2, -⟩ := ct.fault (c := 0) hk h0 hS (fl_0 (by decide) (by decide) (pb k hk).1 (pb k hk).2)
    rw [e1]
    exact t_some e2
  have lt_K : ∀ x : Int32, S k = x → ¬ x = 0 → k < K := fun x e n => by
    by_cases q : k = K
    · rw [q, hS] at e; exact absurd e.symm n
    · omega
  unfold wX1_readClause
  rw [sign_E ct hk]
  refine t_sb ?_
  try dsimp only
  unfold wX1_kindOf ccl
  by_cases c15 : S k = 15
  · have hkK := lt_K 15 c15 (by decide)
    rw [if_pos c15, if_pos c15]
    refine t_sb ?_
    try dsimp only
    rw [if_neg (by decide), if_pos rfl]
    unfold wX1_readClause_j51
    have e7 := cd.2.2.2.1
    rw [e7]
    by_cases ch : h = 0
    · rw [if_pos ch, if_pos ch, if_pos rfl, skip_E ct hk, if_pos hkK]
      refine t_sb ?_
      try dsimp only
      rw [if_pos rfl]
      have ct1 : CT S P N K (k + 1) (hr s (k + 1)) := ct.hr
      have h01 : (hr s (k + 1)).1 3 5 = 0 := by rw [wup_nb (by decide)]; exact h0
      have cd1 := cd.of3 (wA_hr (k := k + 1))
      rcases takeNumber_E (lo := 1) (hi := 8) ct1 (by omega) h01 hS (pb _ (by omega)).1 (pb _ (by omega)).2 with ⟨n1, n2, n3⟩ | ⟨e, q, n1, n2, n3, n4⟩
      · obtain ⟨_, b1, b2⟩ := num_i n1
        rw [show (1 : Int32).toInt = 1 from rfl] at b1
        rw [show (8 : Int32).toInt = 8 from rfl] at b2
        rw [n3, n1]
        show Tot ((wX0_setHours 9 (N (k + 1)) (hr (hr s (k + 1)) (k + 2))).bind fun s19 => (wpfZ s19 7 0 1).bind fun s21 => some s21) _
        rw [setHours_E (by omega) b2]
        show Tot (some (wupI (wupI (hr (hr s (k + 1)) (k + 2)) 10 0 (N (k + 1))) 7 0 1)) _
        refine t_some (Or.inr ⟨_, rfl, Nat.le_refl _, n2, ?_, ?_, ?_⟩)
        · exact (ct1.hr (j := k + 2)).go (by rw [wupI_n (by decide), wupI_n (by decide)]) (by rw [wupI_n (by decide), wupI_n (by decide)]) (by rw [wupI_n (by decide), wupI_n (by decide)]) (by rw [wupI_n (by decide), wupI_n (by decide)]) (by rw [wupI_n (by decide), wupI_n (by decide)])
        · rw [wupI_n (by decide), wupI_n (by decide), wup_nb (by decide)]; exact h01
        · obtain ⟨⟨g1, g2, g3⟩, g4, g5, g6, g7, g8⟩ := cd1.of3 (wA_hr (k := k + 2))
          have hne : ¬ N (k + 1) = 0 := fun q => by rw [q, t_i0] at b1; omega
          refine ⟨⟨?_, ?_, ?_⟩, fun i hi => ?_, fun i hi => ?_, ?_, g7, by dsimp only; omega⟩
          · dsimp only
            rw [wupI_n (by decide), wup_same, if_neg hne]
          · rw [wupI_n (by decide), wup_nb (by decide)]; exact g2
          · rw [wupI_n (by decide), wup_nb (by decide)]; exact g3
          · rw [wupI_n (by decide), wupI_n (by decide), wupI_n (by decide), wupI_n (by decide)]; exact g4 i hi
          · rw [wupI_n (by decide), wupI_n (by decide), wupI_n (by decide), wupI_n (by decide)]; exact g5 i hi
          · dsimp only
            rw [wup_same, if_neg hne]
      · rw [n2, n1]
        show Tot ((wX0_setHours 9 (N (k + 1)) q).bind fun s19 => (wpfZ s19 7 0 1).bind fun s21 => some s21) _
        refine t_bind (wX0_setHours_T (B := bCt) rfl (fun _ => rfl)) (fun s19 h19 => ?_)
        refine t_some (Or.inl ⟨e, rfl, (n3.ct h19).go ?_ ?_ ?_ ?_⟩)
        all_goals rw [wupI_n (by decide)]
    · rw [if_neg ch, if_neg ch, if_neg (by decide)]
      exact t_mono full (fun s' q => Or.inl ⟨_, rfl, q⟩)
  · rw [if_neg c15, if_neg c15]
    -- a ROAD or a MAN
    have two : ∀ (kind n : Nat) (hi : Int32) (c' : Nat → cC) (hkind : kind = 1 ∨ kind = 2) (hkK : k < K) (hn : n < 8), s.1 10 kind = Int32.ofNat n → (∀ x y u, (∃ j, u = hr s j) → k + 2 ≤ (c' 0).1 → (c' 0).1 = k + 3 → N (k + 1) = x → N (k + 2) = y → CD (c' 0).2.1 (c' 0).2.2.1 (c' 0).2.2.2.1 (c' 0).2.2.2.2.1 (c' 0).2.2.2.2.2 (wupI (wupI (wupI u 11 (8 * kind + n) x) 12 (8 * kind + n) y) 10 kind (Int32.ofNat (n + 1)))) → (c' 0).1 = k + 3 → Tot ((wX9_takeNumber 0 99 (hr s (k + 1))).bind fun (t22, s23) => wX1_readClause_j121 9 (Int32.ofNat kind) t22 0 hi s23) (fun s' => RC S P N K k (match num S P N (k + 1) 0 99 with
        | some e => .inl e
        | none => (match num S P N (k + 2) 0 hi with
          | some e => .inl e
          | none => .inr (c' 0))) s') := by
      intro kind n hi c' hkind hkK hn hcell hcd hc'
      have ct1 : CT S P N K (k + 1) (hr s (k + 1)) := ct.hr
      have h01 : (hr s (k + 1)).1 3 5 = 0 := by rw [wup_nb (by decide)]; exact h0
      rcases takeNumber_E (lo := 0) (hi := 99) ct1 (by omega) h01 hS (pb _ (by omega)).1 (pb _ (by omega)).2 with ⟨n1, n2, n3⟩ | ⟨e, q, n1, n2, n3, n4⟩
      · rw [n3, n1]
        show Tot (wX1_readClause_j121 9 (Int32.ofNat kind) (N (k + 1)) 0 hi (hr (hr s (k + 1)) (k + 2))) _
        have eh : hr (hr s (k + 1)) (k + 2) = hr s (k + 2) := wup_wup
        rw [eh]
        have ct2 : CT S P N K (k + 2) (hr s (k + 2)) := ct.hr
        have h02 : (hr s (k + 2)).1 3 5 = 0 := by rw [wup_nb (by decide)]; exact h0
        unfold wX1_readClause_j121
        rcases takeNumber_E (lo := 0) (hi := hi) ct2 (by omega) h02 hS (pb _ (by omega)).1 (pb _ (by omega)).2 with ⟨m1, m2, m3⟩ | ⟨e, q, m1, m2, m3, m4⟩
        · rw [m3, m1]
          have eh : hr (hr s (k + 2)) (k + 2 + 1) = hr s (k + 3) := wup_wup
          show Tot ((wX0_add 9 (Int32.ofNat kind) (N (k + 1)) (N (k + 2)) (hr (hr s (k + 2)) (k + 2 + 1))).bind fun s30 => some s30) _
          rw [eh, add_E (by omega) hn (by rw [wupI_n (by decide)]; exact hcell)]
          refine t_some (Or.inr ⟨_, rfl, by omega, by omega, ?_, ?_, hcd _ _ _ ⟨k + 3, rfl⟩ (by omega) hc' rfl rfl⟩)
          · rw [hc']
            rcases hkind with rfl | rfl
            · exact (ct.hr (j := k + 3)).go (by rw [wupI_n (by decide), wupI_n (by decide), wupI_n (by decide)]) (by rw [wupI_n (by decide), wupI_n (by decide), wupI_n (by decide)]) (by rw [wupI_n (by decide), wupI_n (by decide), wupI_n (by decide)]) (by rw [wupI_n (by decide), wupI_n (by decide), wupI_n (by decide)]) (by rw [wupI_n (by decide), wupI_n (by decide), wupI_n (by decide)])
            · exact (ct.hr (j := k + 3)).go (by rw [wupI_n (by decide), wupI_n (by decide), wupI_n (by decide)]) (by rw [wupI_n (by decide), wupI_n (by decide), wupI_n (by decide)]) (by rw [wupI_n (by decide), wupI_n (by decide), wupI_n (by decide)]) (by rw [wupI_n (by decide), wupI_n (by decide), wupI_n (by decide)]) (by rw [wupI_n (by decide), wupI_n (by decide), wupI_n (by decide)])
          · rw [wupI_n (by decide), wupI_n (by decide), wupI_n (by decide), wup_nb (by decide)]; exact h0
        · rw [m2, m1]
          show Tot ((wX0_add 9 (Int32.ofNat kind) (N (k + 1)) (N (k + 2)) q).bind fun s30 => some s30) _
          refine t_bind (wX0_add_T (B := bCt) rfl (fun _ => rfl) (fun _ => rfl) (fun _ => rfl)) (fun s30 h30 => t_some (Or.inl ⟨e, rfl, m3.ct h30⟩))
      · rw [n2, n1]
        exact t_mono (j121_F n3) (fun s' q => Or.inl ⟨e, rfl, q⟩)
    by_cases c17 : S k = 17
    · have hkK := lt_K 17 c17 (by decide)
      rw [if_pos c17, if_pos c17]
      refine t_sb ?_
      try dsimp only
      rw [if_neg (by decide), if_neg (by decide)]
      have hm : wX0_manyOf 9 1 s = some (Int32.ofNat r) := by
        unfold wX0_manyOf
        rw [at_E (n := 3) rfl (by omega) (by decide) (by decide)]
        show some (s.1 10 1) = _
        rw [cd.1.2.1]
      rw [hm]
      have r8 := cd.2.2.2.2.1.1
      have er : (Int32.ofNat r).toInt = r := t_on (by omega)
      refine t_sb ?_
      try dsimp only
      by_cases cr : r = 8
      · rw [if_pos cr, if_neg (fun q => by have := t_lt q; rw [er, show (8 : Int32).toInt = 8 from rfl] at this; omega)]
        unfold wX1_readClause_j51
        rw [if_neg (by decide)]
        exact t_mono full (fun s' q => Or.inl ⟨_, rfl, q⟩)
      · rw [if_neg cr, if_pos (Int32.lt_iff_toInt_lt.2 (by rw [er, show (8 : Int32).toInt = 8 from rfl]; omega))]
        unfold wX1_readClause_j51
        rw [if_pos rfl, skip_E ct hk, if_pos hkK]
        refine t_sb ?_
        try dsimp only
        rw [if_neg (by decide)]
        show Tot ((wX9_takeNumber 0 99 (hr s (k + 1))).bind fun (t22, s23) => wX1_readClause_j121 9 (Int32.ofNat 1) t22 0 99 s23) _
        refine two 1 r 99 (fun _ => (k + 3, h, r + 1, m, upd (upd R (2 * r) (N (k + 1))) (2 * r + 1) (N (k + 2)), M)) (Or.inl rfl) hkK (by omega) cd.1.2.1 ?_ rfl
        rintro x y u ⟨j, rfl⟩ _ _ rfl rfl
        exact (cd.of3 (wA_hr (k := j))).road (by omega)
    · rw [if_neg c17, if_neg c17]
      by_cases c18 : S k = 18
      · have hkK := lt_K 18 c18 (by decide)
        rw [if_pos c18, if_pos c18]
        refine t_sb ?_
        try dsimp only
        rw [if_neg (by decide), if_neg (by decide)]
        have hm : wX0_manyOf 9 2 s = some (Int32.ofNat m) := by
          unfold wX0_manyOf
          rw [at_E (n := 3) rfl (by omega) (by decide) (by decide)]
          show some (s.1 10 2) = _
          rw [cd.1.2.2]
        rw [hm]
        have m8 := cd.2.2.2.2.1.2
        have em : (Int32.ofNat m).toInt = m := t_on (by omega)
        refine t_sb ?_
        try dsimp only
        by_cases cm : m = 8
        · rw [if_pos cm, if_neg (fun q => by have := t_lt q; rw [em, show (8 : Int32).toInt = 8 from rfl] at this; omega)]
          unfold wX1_readClause_j51
          rw [if_neg (by decide)]
          exact t_mono full (fun s' q => Or.inl ⟨_, rfl, q⟩)
        · rw [if_neg cm, if_pos (Int32.lt_iff_toInt_lt.2 (by rw [em, show (8 : Int32).toInt = 8 from rfl]; omega))]
          unfold wX1_readClause_j51
          rw [if_pos rfl, skip_E ct hk, if_pos hkK]
          refine t_sb ?_
          try dsimp only
          rw [if_neg (by decide)]
          show Tot ((wX9_takeNumber 0 99 (hr s (k + 1))).bind fun (t22, s23) => wX1_readClause_j121 9 (Int32.ofNat 2) t22 0 9 s23) _
          refine two 2 m 9 (fun _ => (k + 3, h, r, m + 1, R, upd (upd M (2 * m) (N (k + 1))) (2 * m + 1) (N (k + 2)))) (Or.inr rfl) hkK (by omega) cd.1.2.2 ?_ rfl
          rintro x y u ⟨j, rfl⟩ _ _ rfl rfl
          exact (cd.of3 (wA_hr (k := j))).man (by omega)
      · rw [if_neg c18, if_neg c18]
        refine t_sb ?_
        try dsimp only
        rw [if_pos rfl]
        exact t_mono cant (fun s' q => Or.inl ⟨_, rfl, q⟩)
/-- what a COURT's text comes to -/
noncomputable def RD (S P N : Nat → Int32) (K : Nat) (c : cC) (s' : wS) : Prop := (∃ e, Ev (cst S P N) c (.inl e) ∧ CF S P N K e s') ∨ (∃ c' : cC, Ev (cst S P N) c (.inr c') ∧ s'.1 3 5 = 0 ∧ CD c'.2.1 c'.2.2.1 c'.2.2.2.1 c'.2.2.2.2.1 c'.2.2.2.2.2 s')
/-- a COURT is told by ROADS and MEN -/
theorem isTold_E (cd : CD h r m R M s) : wX0_isTold 9 s = some (if r = 0 ∨ m = 0 then 0 else 1) := by
  obtain ⟨⟨g1, g2, g3⟩, -, -, -, ⟨g7, g8⟩, -⟩ := cd
  have er : (Int32.ofNat r).toInt = r := t_on (by omega)
  have em : (Int32.ofNat m).toInt = m := t_on (by omega)
  unfold wX0_isTold
  rw [wld_E (by decide) (by decide)]
  rw [t_sbe]
  try dsimp only
  rw [show s.1 (9 + 1) (Int32.toNatClampNeg 1) = Int32.ofNat r from g2]
  by_cases cr : r = 0
  · rw [if_neg (fun q => by have := t_lt q; rw [t_i0, er] at this; omega), if_pos (Or.inl cr)]
  · rw [if_pos (Int32.lt_iff_toInt_lt.2 (by rw [t_i0, er]; omega)), wld_E (by decide) (by decide)]
    rw [t_sbe]
    try dsimp only
    rw [show s.1 (9 + 1) (Int32.toNatClampNeg 2) = Int32.ofNat m from g3]
    by_cases cm : m = 0
    · rw [if_neg (fun q => by have := t_lt q; rw [t_i0, em] at this; omega), if_pos (Or.inr cm)]
    · rw [if_pos (Int32.lt_iff_toInt_lt.2 (by rw [t_i0, em]; omega)), if_neg (fun q => q.elim cr cm)]
/-- behind a fault the reading ends -/
theorem read_h14_F {e : Int32} {x4 : Int32} {s : wS} (n : Nat) (hF : CF S P N K e s) : wX1_read_h14 9 (n + 1) 0 x4 s = some s := by
  rw [wX1_read_h14]
  by_cases c : x4 < 400
  · rw [if_pos c, if_pos rfl]
  · rw [if_neg c]
theorem j44_F {e : Int32} {s : wS} (hF : CF S P N K e s) : Tot (wX1_read_j44 9 s) (fun s' => CF S P N K e s') := by
  unfold wX1_read_j44 wX1_read_j58
  rw [hF.sign]
  refine t_sb ?_
  try dsimp only
  rw [if_pos rfl]
  refine t_bind (wX0_isTold_T rfl) (fun t20 _ => t_ite (fun _ => ?_) (fun _ => t_some hF))
  rw [hF.fail]
  exact t_some hF
theorem read_h14_E (hS : S K = 0) (pb : ∀ j, j ≤ K → 0 ≤ (P j).toInt ∧ (P j).toInt ≤ 400) : ∀ (n : Nat) {i : Int32} {c : cC} {s : wS}, CT S P N K c.1 s → c.1 ≤ K → s.1 3 5 = 0 → CD c.2.1 c.2.2.1 c.2.2.2.1 c.2.2.2.2.1 c.2.2.2.2.2 s → 0 ≤ i.toInt → 2 * i.toInt ≤ c.1 → (K : Int) - c.1 + 1 < n → Tot ((wX1_read_h14 9 n 1 i s).bind fun s14 => wX1_read_j44 9 s14) (fun s' => RD S P N K c s') := by
  intro n
  induction n with
  | zero => intro i c s ct hk h0 cd i0 hi hm; exfalso; omega
  | succ n ih =>
    intro i c s ct hk h0 cd i0 hi hm
    have hK := ct.2.1.2
    rw [wX1_read_h14, if_pos (Int32.lt_iff_toInt_lt.2 (by rw [show (400 : Int32).toInt = 400 from rfl]; omega)), if_neg (by decide)]
    obtain ⟨s8, e8, h8⟩ := readClause_E ct hk h0 hS pb cd
    rw [e8]
    show Tot (((wX9_take 3 s8).bind fun (t10, s11) => wX1_read_h14 9 n t10 (i + 1) s11).bind fun s14 => wX1_read_j44 9 s14) _
    have pos : ∃ n', n = n' + 1 := ⟨n - 1, by omega⟩
    obtain ⟨n', rfl⟩ := pos
    rcases h8 with ⟨e, q1, q2⟩ | ⟨c', q1, q2, q3, q4, q5, q6⟩
    · rw [q2.take (by decide)]
      show Tot ((wX1_read_h14 9 (n' + 1) 0 (i + 1) s8).bind fun s14 => wX1_read_j44 9 s14) _
      rw [read_h14_F n' q2]
      refine t_mono (j44_F q2) (fun s' hs => Or.inl ⟨e, Ev.ret ?_, hs⟩)
      unfold cst
      rw [q1]
    · rw [take_E q4 q3]
      have ei := t_p1 (x := i) i0 (by omega)
      by_cases c3 : S c'.1 = 3
      · have hlt : c'.1 < K := by
          by_cases q : c'.1 = K
          · rw [q, hS] at c3; exact absurd c3 (by decide)
          · omega
        rw [if_pos c3, if_pos hlt]
        show Tot ((wX1_read_h14 9 (n' + 1) 1 (i + 1) (hr s8 (c'.1 + 1))).bind fun s14 => wX1_read_j44 9 s14) _
        refine t_mono (ih (i := i + 1) (c := (c'.1 + 1, c'.2)) (q4.hr) (by dsimp only; omega) (by rw [wup_nb (by decide)]; exact q5) (q6.of3 wA_hr) (by omega) (by dsimp only; omega) (by dsimp only; omega)) (fun s' hs => ?_)
        have st : cst S P N c = .inl (c'.1 + 1, c'.2) := by
          unfold cst
          rw [q1]
          dsimp only
          rw [if_pos c3]
        rcases hs with ⟨e, a, b⟩ | ⟨d, a, b⟩
        · exact Or.inl ⟨e, Ev.step st a, b⟩
        · exact Or.inr ⟨d, Ev.step st a, b⟩
      · rw [if_neg c3]
        show Tot ((wX1_read_h14 9 (n' + 1) 0 (i + 1) s8).bind fun s14 => wX1_read_j44 9 s14) _
        have stop : wX1_read_h14 9 (n' + 1) 0 (i + 1) s8 = some s8 := by
          rw [wX1_read_h14]
          by_cases c : i + 1 < 400
          · rw [if_pos c, if_pos rfl]
          · rw [if_neg c]
        rw [stop]
        show Tot (wX1_read_j44 9 s8) _
        unfold wX1_read_j44 wX1_read_j58
        rw [sign_E q4 q3]
        refine t_sb ?_
        try dsimp only
        have bad : (∀ x, cst S P N c = x → x = .inr (.inl (fl 0 (P c'.1)))) → Tot ((wX9_fail 0 s8).bind fun s24 => some s24) (fun s' => RD S P N K c s') := by
          intro hx
          obtain ⟨q, e1, e2, -⟩ := q4.fault (c := 0) q3 q5 hS (fl_0 (by decide) (by decide) (pb _ q3).1 (pb _ q3).2)
          rw [e1]
          exact t_some (Or.inl ⟨_, Ev.ret (hx _ rfl), e2⟩)
        by_cases cz : S c'.1 = 0
        · rw [if_pos cz, isTold_E q6]
          by_cases ct' : c'.2.2.1 = 0 ∨ c'.2.2.2.1 = 0
          · rw [if_pos ct']
            refine t_sb ?_
            try dsimp only
            rw [if_pos rfl]
            refine bad (fun x hx => ?_)
            rw [← hx]
            unfold cst
            rw [q1]
            dsimp only
            rw [if_neg c3, if_pos cz, if_pos ct']
          · rw [if_neg ct']
            refine t_sb ?_
            try dsimp only
            rw [if_neg (by decide)]
            refine t_some (Or.inr ⟨c', Ev.ret ?_, q5, q6⟩)
            unfold cst
            rw [q1]
            dsimp only
            rw [if_neg c3, if_pos cz, if_neg ct']
        · rw [if_neg cz]
          refine bad (fun x hx => ?_)
          rw [← hx]
          unfold cst
          rw [q1]
          dsimp only
          rw [if_neg c3, if_neg cz]
/-- from the tokens on -/
theorem read_E (ct : CT S P N K 0 s) (h0 : s.1 3 5 = 0) (hS : S K = 0) (pb : ∀ j, j ≤ K → 0 ≤ (P j).toInt ∧ (P j).toInt ≤ 400) : Tot (wX1_read 9 s) (fun s' => RD S P N K (0, 0, 0, 0, R, M) s') := by
  unfold wX1_read wX0_clear
  rw [wst_E (by decide) (by decide), t_sbe, wst_E (by decide) (by decide), t_sbe, wst_E (by decide) (by decide), t_sbe, t_sbe]
  show Tot ((wX1_read_h14 9 wFuel 1 0 (wupI (wupI (wupI (wupI s 10 0 1) 10 1 0) 10 2 0) 7 0 0)).bind fun s14 => wX1_read_j44 9 s14) _
  have hK := ct.2.1.2
  refine read_h14_E hS pb wFuel (c := (0, 0, 0, 0, R, M)) ?_ (Nat.zero_le _) ?_ ?_ (by decide) (by rw [t_i0]; dsimp only; omega) (by
    have e : ((wFuel : Nat) : Int) = 1099511627776 := rfl
    dsimp only
    omega)
  · refine ct.go ?_ ?_ ?_ ?_ ?_
    all_goals rw [wupI_n (by decide), wupI_n (by decide), wupI_n (by decide), wupI_n (by decide)]
  · rw [wupI_n (by decide), wupI_n (by decide), wupI_n (by decide), wupI_n (by decide)]; exact h0
  · refine ⟨⟨?_, ?_, ?_⟩, fun i hi => absurd hi (Nat.not_lt_zero i), fun i hi => absurd hi (Nat.not_lt_zero i), wup_same, ⟨Nat.zero_le _, Nat.zero_le _⟩, (by show 0 ≤ (0 : Int32).toInt; decide), (by show (0 : Int32).toInt ≤ 8; decide)⟩
    · rw [wupI_n (by decide), wup_nb (by decide), wup_nb (by decide), wup_same]; rfl
    · rw [wupI_n (by decide), wup_nb (by decide), wup_same]; rfl
    · rw [wupI_n (by decide), wup_same]; rfl
end CCL
end
section
/-! The reference reads a COURT. -/
theorem RG.go {G s s' : wS} (g : RG G s) (h1 : s'.1 153 = s.1 153) (h2 : s'.1 152 1 = s.1 152 1) : RG G s' := by
  unfold RG
  rw [h1, h2]
  exact g
/-- the reference stands before a token, no fault yet -/
noncomputable def RS (G : wS) (S P N : Nat → Int32) (E : Nat → Nat) (K k : Nat) (s : wS) : Prop := RG G s ∧ (∃ n : Nat, (s.1 152 12).toInt = n ∧ SK G n (P k).toNatClampNeg) ∧ s.1 152 13 = 0 ∧ k ≤ K
theorem TOKS.sk {G : wS} {S P N : Nat → Int32} {E : Nat → Nat} {K k : Nat} (tk : TOKS G S P N E K) (hk : k ≤ K) : SK G (pv E k) (P k).toNatClampNeg := by
  by_cases h : k = K
  · rw [h]; exact tk.2.2.2.2
  · exact (tk.1 k (by omega)).2.2
theorem TOKS.ne0 {G : wS} {S P N : Nat → Int32} {E : Nat → Nat} {K k : Nat} (tk : TOKS G S P N E K) (hk : k ≤ K) (h : ¬ S k = 0) : k < K := by
  by_cases q : k = K
  · rw [q] at h; exact absurd tk.2.2.1 h
  · omega
theorem isRoadHere_E {G : wS} {S P N : Nat → Int32} {E : Nat → Nat} {K k r : Nat} {s : wS} (g : RS G S P N E K k s) (tk : TOKS G S P N E K) (h8 : s.1 152 8 = Int32.ofNat r) (hr : r < 8) : Tot (wX11_isRoadHere s) (fun q => (∃ e, (num S P N k 0 99 = some e ∨ (num S P N k 0 99 = none ∧ num S P N (k + 1) 0 99 = some e)) ∧ q.1 = 0 ∧ q.2.1 152 13 = e) ∨ (num S P N k 0 99 = none ∧ num S P N (k + 1) 0 99 = none ∧ q.1 = 1 ∧ RS G S P N E K (k + 2) q.2 ∧ q.2.1 158 = upd (upd (s.1 158) (2 * r) (N k)) (2 * r + 1) (N (k + 1)) ∧ q.2.1 152 8 = Int32.ofNat (r + 1) ∧ wA (fun k b => Nat.beq k 158 || (Nat.beq k 152 && (Nat.beq b 12 || Nat.beq b 14 || Nat.beq b 8))) s q.2)) := by
  obtain ⟨g1, ⟨n, g2, g3⟩, g4, gk⟩ := g
  have hT := g1.2.2.1
  have er : (Int32.ofNat r).toInt = r := t_on (by omega)
  have i0 : ∀ j : Nat, j < 2 → ((2 * Int32.ofNat r) + Int32.ofNat j).toInt = 2 * r + j := fun j hj => by
    rw [t_2x (by omega) (by omega) (by rw [t_on (by omega)]; omega) (by rw [t_on (by omega)]; omega), er, t_on (by omega)]
  have inner : Tot (wX11_isRoadHere_h2 wFuel 0 s) (fun z => (∃ u, z = .inr u ∧ ∃ e, (num S P N k 0 99 = some e ∨ (num S P N k 0 99 = none ∧ num S P N (k + 1) 0 99 = some e)) ∧ u.1 152 13 = e) ∨ (∃ u, z = .inl u ∧ num S P N k 0 99 = none ∧ num S P N (k + 1) 0 99 = none ∧ RS G S P N E K (k + 2) u ∧ u.1 158 = upd (upd (s.1 158) (2 * r) (N k)) (2 * r + 1) (N (k + 1)) ∧ wA (fun k b => Nat.beq k 158 || (Nat.beq k 152 && (Nat.beq b 12 || Nat.beq b 14))) s u)) := by
    have e : wFuel = 1099511627773 + 1 + 1 + 1 := rfl
    rw [e, wX11_isRoadHere_h2, if_pos (by decide)]
    refine t_bind (numberHere_E g1 tk gk g2 g3 g4 (by decide)) (fun r1 h1 => ?_)
    rcases h1 with ⟨e, n1, q0, qe⟩ | ⟨n1, nS, rfl⟩
    · obtain ⟨t2, s3⟩ := r1
      exact t_ite (fun _ => t_some (Or.inl ⟨s3, rfl, e, Or.inl n1, qe⟩)) (fun c => absurd q0 c)
    · dsimp only
      rw [if_neg (by decide)]
      have hkK : k < K := tk.ne0 gk (by rw [nS]; decide)
      have z8 : (wupI (nxt s (Int32.ofNat (E k))) 152 14 (N k)).1 152 8 = Int32.ofNat r := by rw [wup_nb (by decide), wup_nb (by decide)]; exact h8
      have j0 := i0 0 (by omega)
      rw [z8, wup_same, wst_E (by show 0 ≤ ((2 * Int32.ofNat r) + Int32.ofNat 0).toInt; omega) (by show ((2 * Int32.ofNat r) + Int32.ofNat 0).toInt < _; omega), t_sbe]
      have c0 : ((2 * Int32.ofNat r) + 0).toNatClampNeg = 2 * r := by show ((2 * Int32.ofNat r) + Int32.ofNat 0).toNatClampNeg = _; unfold Int32.toNatClampNeg; omega
      rw [c0, wX11_isRoadHere_h2, if_pos (by decide)]
      let u : wS := wupI (wupI (nxt s (Int32.ofNat (E k))) 152 14 (N k)) 158 (2 * r) (N k)
      have ug : RG G u := g1.go (by show (wupI (wupI (nxt s _) 152 14 _) 158 _ _).1 153 = _; rw [wupI_n (by decide), wupI_n (by decide), wupI_n (by decide)]) (by show (wupI (wupI (nxt s _) 152 14 _) 158 _ _).1 152 1 = _; rw [wupI_n (by decide), wup_nb (by decide), wup_nb (by decide)])
      have hle := (tk.1 k hkK).2.1.le
      have u12 : (u.1 152 12).toInt = E k := by
        show ((wupI (wupI (nxt s _) 152 14 _) 158 _ _).1 152 12).toInt = _
        rw [wupI_n (by decide), wup_nb (by decide), nx_n, t_on (by omega)]
      have u13 : u.1 152 13 = 0 := by
        show (wupI (wupI (nxt s _) 152 14 _) 158 _ _).1 152 13 = _
        rw [wupI_n (by decide), wup_nb (by decide), wup_nb (by decide)]
        exact g4
      show Tot ((wX11_numberHere 0 99 u).bind _) _
      refine t_bind (numberHere_E (k := k + 1) (n := E k) ug tk (by omega) u12 (tk.sk (k := k + 1) (by omega)) u13 (by decide)) (fun r2 h2 => ?_)
      rcases h2 with ⟨e, m1, q0, qe⟩ | ⟨m1, mS, rfl⟩
      · obtain ⟨t2, s3⟩ := r2
        exact t_ite (fun _ => t_some (Or.inl ⟨s3, rfl, e, Or.inr ⟨n1, m1⟩, qe⟩)) (fun c => absurd q0 c)
      · dsimp only
        rw [if_neg (by decide)]
        have hkK2 : k + 1 < K := tk.ne0 (by omega) (by rw [mS]; decide)
        have y8 : (wupI (nxt u (Int32.ofNat (E (k + 1)))) 152 14 (N (k + 1))).1 152 8 = Int32.ofNat r := by
          rw [wup_nb (by decide), wup_nb (by decide)]
          show (wupI (wupI (nxt s _) 152 14 _) 158 _ _).1 152 8 = _
          rw [wupI_n (by decide)]
          exact z8
        have j1 := i0 1 (by omega)
        rw [y8, wup_same, wst_E (by show 0 ≤ ((2 * Int32.ofNat r) + Int32.ofNat 1).toInt; omega) (by show ((2 * Int32.ofNat r) + Int32.ofNat 1).toInt < _; omega), t_sbe]
        have c1 : ((2 * Int32.ofNat r) + (0 + 1)).toNatClampNeg = 2 * r + 1 := by show ((2 * Int32.ofNat r) + Int32.ofNat 1).toNatClampNeg = _; unfold Int32.toNatClampNeg; omega
        rw [c1, wX11_isRoadHere_h2, if_neg (by decide)]
        have hle2 := (tk.1 (k + 1) hkK2).2.1.le
        refine t_some (Or.inr ⟨_, rfl, n1, m1, ⟨ug.go ?_ ?_, ⟨E (k + 1), ?_, tk.sk (k := k + 2) (by omega)⟩, ?_, by omega⟩, ?_, ?_⟩)
        · rw [wupI_n (by decide), wupI_n (by decide), wupI_n (by decide)]
        · rw [wupI_n (by decide), wup_nb (by decide), wup_nb (by decide)]
        · rw [wupI_n (by decide), wup_nb (by decide), nx_n, t_on (by omega)]
        · rw [wupI_n (by decide), wup_nb (by decide), wup_nb (by decide)]; exact u13
        · rw [wupI_k, wupI_n (by decide), wupI_n (by decide)]
          show upd ((wupI (wupI (nxt s _) 152 14 _) 158 _ _).1 158) _ _ = _
          rw [wupI_k, wupI_n (by decide), wupI_n (by decide)]
        · exact ((((((wA.refl.trans (wA_I rfl)).trans (wA_I rfl)).trans (wA_I rfl)).trans (wA_I rfl)).trans (wA_I rfl)).trans (wA_I rfl))
  unfold wX11_isRoadHere
  refine t_bind inner (fun z hz => ?_)
  rcases hz with ⟨u, rfl, e, h1, h2⟩ | ⟨u, rfl, n1, m1, h1, h2, h3⟩
  · exact t_some (Or.inl ⟨e, h1, rfl, h2⟩)
  · have u8 : u.1 152 8 = Int32.ofNat r := by rw [h3 152 8 rfl]; exact h8
    have e1 : u.1 152 8 + 1 = Int32.ofNat (r + 1) := Int32.toInt_inj.1 (by rw [u8, t_p1 (by omega) (by omega), er, t_on (by omega)]; rfl)
    dsimp only
    rw [e1]
    refine t_some (Or.inr ⟨n1, m1, rfl, ?_, ?_, wup_same, ?_⟩)
    · obtain ⟨a1, ⟨n', a2, a3⟩, a4, a5⟩ := h1
      exact ⟨a1.go (wupI_n (by decide)) (wup_nb (by decide)), ⟨n', by rw [wup_nb (by decide)]; exact a2, a3⟩, by rw [wup_nb (by decide)]; exact a4, a5⟩
    · rw [wupI_n (by decide)]; exact h2
    · exact (h3.mono (fun k b hb => by
        simp only [Bool.or_eq_true, Bool.and_eq_true, Nat.beq_eq] at *
        omega)).trans (wA_I rfl)
theorem isManHere_E {G : wS} {S P N : Nat → Int32} {E : Nat → Nat} {K k r : Nat} {s : wS} (g : RS G S P N E K k s) (tk : TOKS G S P N E K) (h8 : s.1 152 9 = Int32.ofNat r) (hr : r < 8) : Tot (wX11_isManHere s) (fun q => (∃ e, (num S P N k 0 99 = some e ∨ (num S P N k 0 99 = none ∧ num S P N (k + 1) 0 9 = some e)) ∧ q.1 = 0 ∧ q.2.1 152 13 = e) ∨ (num S P N k 0 99 = none ∧ num S P N (k + 1) 0 9 = none ∧ q.1 = 1 ∧ RS G S P N E K (k + 2) q.2 ∧ q.2.1 159 = upd (upd (s.1 159) (2 * r) (N k)) (2 * r + 1) (N (k + 1)) ∧ q.2.1 152 9 = Int32.ofNat (r + 1) ∧ wA (fun k b => Nat.beq k 159 || (Nat.beq k 152 && (Nat.beq b 12 || Nat.beq b 14 || Nat.beq b 9))) s q.2)) := by
  obtain ⟨g1, ⟨n, g2, g3⟩, g4, gk⟩ := g
  have hT := g1.2.2.1
  have er : (Int32.ofNat r).toInt = r := t_on (by omega)
  have i0 : ∀ j : Nat, j < 2 → ((2 * Int32.ofNat r) + Int32.ofNat j).toInt = 2 * r + j := fun j hj => by
    rw [t_2x (by omega) (by omega) (by rw [t_on (by omega)]; omega) (by rw [t_on (by omega)]; omega), er, t_on (by omega)]
  have inner : Tot (wX11_isManHere_h2 wFuel 0 s) (fun z => (∃ u, z = .inr u ∧ ∃ e, (num S P N k 0 99 = some e ∨ (num S P N k 0 99 = none ∧ num S P N (k + 1) 0 9 = some e)) ∧ u.1 152 13 = e) ∨ (∃ u, z = .inl u ∧ num S P N k 0 99 = none ∧ num S P N (k + 1) 0 9 = none ∧ RS G S P N E K (k + 2) u ∧ u.1 159 = upd (upd (s.1 159) (2 * r) (N k)) (2 * r + 1) (N (k + 1)) ∧ wA (fun k b => Nat.beq k 159 || (Nat.beq k 152 && (Nat.beq b 12 || Nat.beq b 14))) s u)) := by
    have e : wFuel = 1099511627773 + 1 + 1 + 1 := rfl
    rw [e, wX11_isManHere_h2, if_pos (by decide)]
    rw [if_pos rfl]
    unfold wX11_isManHere_j20
    refine t_bind (numberHere_E g1 tk gk g2 g3 g4 (by decide)) (fun r1 h1 => ?_)
    rcases h1 with ⟨e, n1, q0, qe⟩ | ⟨n1, nS, rfl⟩
    · obtain ⟨t2, s3⟩ := r1
      exact t_ite (fun _ => t_some (Or.inl ⟨s3, rfl, e, Or.inl n1, qe⟩)) (fun c => absurd q0 c)
    · dsimp only
      rw [if_neg (by decide)]
      have hkK : k < K := tk.ne0 gk (by rw [nS]; decide)
      have z8 : (wupI (nxt s (Int32.ofNat (E k))) 152 14 (N k)).1 152 9 = Int32.ofNat r := by rw [wup_nb (by decide), wup_nb (by decide)]; exact h8
      have j0 := i0 0 (by omega)
      rw [z8, wup_same, wst_E (by show 0 ≤ ((2 * Int32.ofNat r) + Int32.ofNat 0).toInt; omega) (by show ((2 * Int32.ofNat r) + Int32.ofNat 0).toInt < _; omega), t_sbe]
      have c0 : ((2 * Int32.ofNat r) + 0).toNatClampNeg = 2 * r := by show ((2 * Int32.ofNat r) + Int32.ofNat 0).toNatClampNeg = _; unfold Int32.toNatClampNeg; omega
      rw [c0, wX11_isManHere_h2, if_pos (by decide)]
      rw [if_neg (by decide)]
      unfold wX11_isManHere_j20
      let u : wS := wupI (wupI (nxt s (Int32.ofNat (E k))) 152 14 (N k)) 159 (2 * r) (N k)
      have ug : RG G u := g1.go (by show (wupI (wupI (nxt s _) 152 14 _) 159 _ _).1 153 = _; rw [wupI_n (by decide), wupI_n (by decide), wupI_n (by decide)]) (by show (wupI (wupI (nxt s _) 152 14 _) 159 _ _).1 152 1 = _; rw [wupI_n (by decide), wup_nb (by decide), wup_nb (by decide)])
      have hle := (tk.1 k hkK).2.1.le
      have u12 : (u.1 152 12).toInt = E k := by
        show ((wupI (wupI (nxt s _) 152 14 _) 159 _ _).1 152 12).toInt = _
        rw [wupI_n (by decide), wup_nb (by decide), nx_n, t_on (by omega)]
      have u13 : u.1 152 13 = 0 := by
        show (wupI (wupI (nxt s _) 152 14 _) 159 _ _).1 152 13 = _
        rw [wupI_n (by decide), wup_nb (by decide), wup_nb (by decide)]
        exact g4
      show Tot ((wX11_numberHere 0 9 u).bind _) _
      refine t_bind (numberHere_E (k := k + 1) (n := E k) ug tk (by omega) u12 (tk.sk (k := k + 1) (by omega)) u13 (by decide)) (fun r2 h2 => ?_)
      rcases h2 with ⟨e, m1, q0, qe⟩ | ⟨m1, mS, rfl⟩
      · obtain ⟨t2, s3⟩ := r2
        exact t_ite (fun _ => t_some (Or.inl ⟨s3, rfl, e, Or.inr ⟨n1, m1⟩, qe⟩)) (fun c => absurd q0 c)
      · dsimp only
        rw [if_neg (by decide)]
        have hkK2 : k + 1 < K := tk.ne0 (by omega) (by rw [mS]; decide)
        have y8 : (wupI (nxt u (Int32.ofNat (E (k + 1)))) 152 14 (N (k + 1))).1 152 9 = Int32.ofNat r := by
          rw [wup_nb (by decide), wup_nb (by decide)]
          show (wupI (wupI (nxt s _) 152 14 _) 159 _ _).1 152 9 = _
          rw [wupI_n (by decide)]
          exact z8
        have j1 := i0 1 (by omega)
        rw [y8, wup_same, wst_E (by show 0 ≤ ((2 * Int32.ofNat r) + Int32.ofNat 1).toInt; omega) (by show ((2 * Int32.ofNat r) + Int32.ofNat 1).toInt < _; omega), t_sbe]
        have c1 : ((2 * Int32.ofNat r) + (0 + 1)).toNatClampNeg = 2 * r + 1 := by show ((2 * Int32.ofNat r) + Int32.ofNat 1).toNatClampNeg = _; unfold Int32.toNatClampNeg; omega
        rw [c1, wX11_isManHere_h2, if_neg (by decide)]
        have hle2 := (tk.1 (k + 1) hkK2).2.1.le
        refine t_some (Or.inr ⟨_, rfl, n1, m1, ⟨ug.go ?_ ?_, ⟨E (k + 1), ?_, tk.sk (k := k + 2) (by omega)⟩, ?_, by omega⟩, ?_, ?_⟩)
        · rw [wupI_n (by decide), wupI_n (by decide), wupI_n (by decide)]
        · rw [wupI_n (by decide), wup_nb (by decide), wup_nb (by decide)]
        · rw [wupI_n (by decide), wup_nb (by decide), nx_n, t_on (by omega)]
        · rw [wupI_n (by decide), wup_nb (by decide), wup_nb (by decide)]; exact u13
        · rw [wupI_k, wupI_n (by decide), wupI_n (by decide)]
          show upd ((wupI (wupI (nxt s _) 152 14 _) 159 _ _).1 159) _ _ = _
          rw [wupI_k, wupI_n (by decide), wupI_n (by decide)]
        · exact ((((((wA.refl.trans (wA_I rfl)).trans (wA_I rfl)).trans (wA_I rfl)).trans (wA_I rfl)).trans (wA_I rfl)).trans (wA_I rfl))
  unfold wX11_isManHere
  refine t_bind inner (fun z hz => ?_)
  rcases hz with ⟨u, rfl, e, h1, h2⟩ | ⟨u, rfl, n1, m1, h1, h2, h3⟩
  · exact t_some (Or.inl ⟨e, h1, rfl, h2⟩)
  · have u8 : u.1 152 9 = Int32.ofNat r := by rw [h3 152 9 rfl]; exact h8
    have e1 : u.1 152 9 + 1 = Int32.ofNat (r + 1) := Int32.toInt_inj.1 (by rw [u8, t_p1 (by omega) (by omega), er, t_on (by omega)]; rfl)
    dsimp only
    rw [e1]
    refine t_some (Or.inr ⟨n1, m1, rfl, ?_, ?_, wup_same, ?_⟩)
    · obtain ⟨a1, ⟨n', a2, a3⟩, a4, a5⟩ := h1
      exact ⟨a1.go (wupI_n (by decide)) (wup_nb (by decide)), ⟨n', by rw [wup_nb (by decide)]; exact a2, a3⟩, by rw [wup_nb (by decide)]; exact a4, a5⟩
    · rw [wupI_n (by decide)]; exact h2
    · exact (h3.mono (fun k b hb => by
        simp only [Bool.or_eq_true, Bool.and_eq_true, Nat.beq_eq] at *
        omega)).trans (wA_I rfl)
end
section
/-! The reference reads a COURT's LINES, its whole text. -/
section CRF
variable {G : wS} {S P N : Nat → Int32} {E : Nat → Nat} {K k : Nat} {s : wS} {h : Int32} {r m : Nat} {R M : Nat → Int32}
theorem RS.p0 (g : RS G S P N E K k s) (tk : TOKS G S P N E K) : 0 ≤ (P k).toInt ∧ (P k).toInt ≤ 400 := by
  have hT := g.1.2.2.1
  have := tk.p0 hT.1 g.2.2.2
  omega
theorem RS.at (g : RS G S P N E K k s) (tk : TOKS G S P N E K) : RS G S P N E K k (nxt s (P k)) := by
  have p := g.p0 tk
  obtain ⟨g1, ⟨n, g2, g3⟩, g4, gk⟩ := g
  have hp := g3.2.1
  have hb := g3.2.2.2
  refine ⟨g1.nx, ⟨(P k).toNatClampNeg, by rw [nx_n, t_cln p.1], Nat.le_refl _, hp, fun j h1 h2 => absurd h1 (by omega), hb⟩, by rw [wup_nb (by decide)]; exact g4, gk⟩
theorem isWord_R {c : Int64} {z : Nat} (g : RS G S P N E K k s) (tk : TOKS G S P N E K) (hc : wpk z = c) (hz : z < 16) : wX11_isWord c s = some (if S k = Int32.ofNat (15 + z) then 1 else 0, nxt s (P k)) := by
  have p := g.p0 tk
  obtain ⟨g1, ⟨n, g2, g3⟩, g4, gk⟩ := g
  rw [← hc]
  exact isWord_E hz g1 tk gk g2 g3 p.1
theorem RS.behind (g : RS G S P N E K k s) (tk : TOKS G S P N E K) (hk : k < K) {v : Int32} (hv : v = Int32.ofNat (E k)) : RS G S P N E K (k + 1) (nxt s v) := by
  obtain ⟨g1, ⟨n, g2, g3⟩, g4, gk⟩ := g
  have hle := (tk.1 k hk).2.1.le
  have hT := g1.2.2.1
  refine ⟨g1.nx, ⟨E k, by rw [nx_n, hv, t_on (by omega)], tk.sk (k := k + 1) (by omega)⟩, by rw [wup_nb (by decide)]; exact g4, by omega⟩
/-- a WORD is passed -/
theorem passWord_R (g : RS G S P N E K k s) (tk : TOKS G S P N E K) (h15 : 15 ≤ (S k).toInt) (hn : s.1 152 12 = P k) : k < K ∧ wX11_passWord s = some (nxt s (Int32.ofNat (E k))) := by
  have p := g.p0 tk
  obtain ⟨g1, ⟨n, g2, g3⟩, g4, gk⟩ := g
  obtain ⟨hl, hk⟩ := lt_S tk gk h15
  exact ⟨hk, passWord_E (p := (P k).toNatClampNeg) g1 (by rw [hn, t_cln p.1]) (tk.1 k hk).2.1 hl⟩
theorem bt_ge {i : Nat} : 0 ≤ (bt G i).toInt := by
  unfold bt
  by_cases c : (i : Int) < (G.1 1 1).toInt
  · rw [if_pos c]
    have e : (G.1 2 i &&& 255).toInt = ((G.1 2 i &&& 255).toBitVec).toInt := rfl
    have e2 : (G.1 2 i &&& 255).toBitVec = (G.1 2 i).toBitVec &&& 255#32 := rfl
    rw [e, e2, BitVec.toInt_eq_toNat_cond]
    have : ((G.1 2 i).toBitVec &&& 255#32).toNat ≤ 255 := by
      rw [BitVec.toNat_and]
      exact Nat.and_le_right
    rw [if_pos (by omega)]
    omega
  · rw [if_neg c]; decide
/-- a sign of one byte, by its byte -/
theorem byte_S {c g : Int32} (tk : TOKS G S P N E K) (hk : k < K) (hb : ∀ x d, bsg x d = g ↔ x = c) (g1 : 3 ≤ g.toInt) (g2 : g.toInt ≤ 14) (hl : c.toInt < 48 ∨ (57 < c.toInt ∧ c.toInt < 97)) : bt G (P k).toNatClampNeg = c ↔ S k = g := by
  have e1 : (1 : Int32).toInt = 1 := rfl
  have e2 : (2 : Int32).toInt = 2 := rfl
  obtain ⟨-, ⟨-, w | w | w⟩, -⟩ := tk.1 k hk
  · have a := t_ge w.1.1
    rw [show (97 : Int32).toInt = 97 from rfl] at a
    constructor
    · intro q; rw [q] at a; omega
    · intro q
      rcases WS_ge w.2.2.2 with x | x
      · rw [x] at q; rw [← q] at g1; omega
      · rw [q] at x; omega
  · have a := t_ge w.1.1
    have b := t_ge w.1.2
    rw [show (48 : Int32).toInt = 48 from rfl] at a
    rw [show (57 : Int32).toInt = 57 from rfl] at b
    constructor
    · intro q; rw [q] at a b; omega
    · intro q; rw [w.2.2.2.1] at q; rw [← q] at g1; omega
  · rw [w.2.2.2.2.1]
    exact (hb _ _).symm
theorem S_0 (tk : TOKS G S P N E K) (hk : k ≤ K) : S k = 0 ↔ k = K := by
  constructor
  · intro q
    rcases tk.kind hk with w | ⟨_, -, w | w | w⟩
    · exact w.1
    · rcases WS_ge w.2.2.2 with x | x
      · rw [x] at q; exact absurd q (by decide)
      · rw [q, t_i0] at x; omega
    · rw [w.2.2.2.1] at q; exact absurd q (by decide)
    · have := bsg_le (bt G (P k).toNatClampNeg) (bt G ((P k).toNatClampNeg + 1))
      rw [← w.2.2.2.2.1, q, t_i0] at this
      omega
  · intro q
    rw [q]
    exact tk.2.2.1
/-- what is seen -/
noncomputable def seen (G : wS) (P : Nat → Int32) (K k : Nat) : Int32 := if k < K then bt G (P k).toNatClampNeg else -1
theorem see_R (g : RS G S P N E K k s) (tk : TOKS G S P N E K) : wX11_see s = some (seen G P K k, nxt s (P k)) := by
  have p := g.p0 tk
  obtain ⟨g1, ⟨n, g2, g3⟩, g4, gk⟩ := g
  rw [see_E g1 g2 g3, t_oc p.1]
  have : ((((P k).toNatClampNeg : Nat) : Int) < (G.1 1 1).toInt) ↔ k < K := by
    rw [t_cln p.1]
    constructor
    · intro q
      by_cases c : k = K
      · rw [c, tk.2.2.2.1] at q; omega
      · omega
    · intro q
      have := (tk.1 k q).2.1.le.1
      rw [t_cln p.1] at this
      exact this
  unfold seen
  by_cases c : k < K
  · rw [if_pos (this.2 c), if_pos c]
  · rw [if_neg (fun q => c (this.1 q)), if_neg c]
theorem seen_S {c g : Int32} (tk : TOKS G S P N E K) (hk : k ≤ K) (hb : ∀ x d, bsg x d = g ↔ x = c) (g1 : 3 ≤ g.toInt) (g2 : g.toInt ≤ 14) (hl : (0 ≤ c.toInt ∧ c.toInt < 48) ∨ (57 < c.toInt ∧ c.toInt < 97)) : seen G P K k = c ↔ S k = g := by
  unfold seen
  by_cases q : k < K
  · rw [if_pos q]
    exact byte_S tk q hb g1 g2 (by omega)
  · obtain rfl : k = K := by omega
    rw [if_neg q, tk.2.2.1]
    constructor
    · intro e; rw [← e] at hl; have : (-1 : Int32).toInt = -1 := rfl; omega
    · intro e; rw [← e, t_i0] at g1; omega
theorem seen_n (tk : TOKS G S P N E K) (hk : k ≤ K) : seen G P K k = -1 ↔ S k = 0 := by
  rw [S_0 tk hk]
  unfold seen
  by_cases q : k < K
  · rw [if_pos q]
    constructor
    · intro e
      have := bt_ge (G := G) (i := (P k).toNatClampNeg)
      rw [e, show (-1 : Int32).toInt = -1 from rfl] at this
      omega
    · intro e; omega
  · rw [if_neg q]
    exact ⟨fun _ => by omega, fun _ => rfl⟩
theorem bsg_3 (x d : Int32) : bsg x d = 3 ↔ x = 59 := by
  unfold bsg
  constructor
  · repeat' (first | (intro q; exact absurd q (by decide)) | (intro _; assumption) | split)
  · intro q; subst q; rfl
/-- behind a sign of one byte -/
theorem one_R (g : RS G S P N E K k s) (tk : TOKS G S P N E K) (h3 : 3 ≤ (S k).toInt) (h14 : (S k).toInt ≤ 14) (h11 : ¬ S k = 11) (h13 : ¬ S k = 13) : k < K ∧ P k + 1 = Int32.ofNat (E k) := by
  have p := g.p0 tk
  have hT := g.1.2.2.1
  rcases tk.kind g.2.2.2 with w | ⟨hk, w0, w | w | w⟩
  · rw [w.2.1, t_i0] at h3; omega
  · rcases WS_ge w.2.2.2 with x | x
    · rw [x, show (1 : Int32).toInt = 1 from rfl] at h3; omega
    · omega
  · rw [w.2.2.2.1, show (2 : Int32).toInt = 2 from rfl] at h3; omega
  · have e := w.2.2.2.2.2
    rw [if_neg (fun q => q.elim h11 h13)] at e
    have hc := t_cln p.1
    refine ⟨hk, Int32.toInt_inj.1 ?_⟩
    rw [t_p1 p.1 (by omega), e, t_on (by omega)]
    omega
/-- what of a COURT was told -/
noncomputable def RT (h : Int32) (r m : Nat) (R M : Nat → Int32) (s : wS) : Prop := (s.1 152 7 = h ∧ s.1 152 8 = Int32.ofNat r ∧ s.1 152 9 = Int32.ofNat m) ∧ (s.1 158 = R ∧ s.1 159 = M) ∧ s.1 152 15 = 6 ∧ (r ≤ 8 ∧ m ≤ 8) ∧ (0 ≤ h.toInt ∧ h.toInt ≤ 8)
theorem RT.go {s s' : wS} (g : RT h r m R M s) (h7 : s'.1 152 7 = s.1 152 7) (h8 : s'.1 152 8 = s.1 152 8) (h9 : s'.1 152 9 = s.1 152 9) (h15 : s'.1 152 15 = s.1 152 15) (hR : s'.1 158 = s.1 158) (hM : s'.1 159 = s.1 159) : RT h r m R M s' := by
  unfold RT
  rw [h7, h8, h9, h15, hR, hM]
  exact g
theorem RT.nx {v : Int32} (g : RT h r m R M s) : RT h r m R M (nxt s v) := g.go (wup_nb (by decide)) (wup_nb (by decide)) (wup_nb (by decide)) (wup_nb (by decide)) (wupI_n (by decide)) (wupI_n (by decide))
/-- how many CLAUSES these are -/
noncomputable def LN (h : Int32) (r m : Nat) : Int := (if h = 0 then 0 else 1) + r + m
/-- what a LINE comes to -/
noncomputable def RL2 (G : wS) (S P N : Nat → Int32) (E : Nat → Nat) (K : Nat) (L : Int) (x : Int32 ⊕ cC) (q : Int32 × wS) : Prop := (∃ e, x = .inl e ∧ q.1 = 0 ∧ q.2.1 152 13 = e) ∨ (∃ c' : cC, x = .inr c' ∧ q.1 = 1 ∧ RS G S P N E K c'.1 q.2 ∧ RT c'.2.1 c'.2.2.1 c'.2.2.2.1 c'.2.2.2.2.1 c'.2.2.2.2.2 q.2 ∧ (q.2.1 152 18).toInt = L ∧ LN c'.2.1 c'.2.2.1 c'.2.2.2.1 = L)
theorem fails_R {c p : Int32} (g : RS G S P N E K k s) : wX11_fails c p s = some (0, wupI s 152 13 (fl c p)) := fails_E g.2.2.1
theorem courtLineHere_E {L : Int} (g : RS G S P N E K k s) (tk : TOKS G S P N E K) (rt : RT h r m R M s) (hL : (s.1 152 18).toInt = L) (hL2 : L = LN h r m + 1) (hw : S k = 15 ∨ S k = 17 ∨ S k = 18) : Tot (wX11_courtLineHere (P k) s) (fun q => RL2 G S P N E K L (ccl S P N k h r m R M) q) := by
  unfold wX11_courtLineHere ccl
  rw [isWord_R (c := 448546566771) (z := 0) g tk rfl (by decide), t_sbe]
  dsimp only
  have g1 := g.at tk
  have rt1 := rt.nx (v := P k)
  have e15 : Int32.ofNat (15 + 0) = 15 := rfl
  rw [e15]
  have full : Tot ((wX11_fails 4 (P k) (nxt s (P k))).bind fun (t10, s11) => (wrtZ t10).bind fun t13 => some (t13, s11)) (fun q => RL2 G S P N E K L (.inl (fl 4 (P k))) q) := by
    rw [fails_R g1]
    refine t_sb ?_
    dsimp only
    exact t_bind (t_rtZ (v := 0) (Or.inl rfl)) (fun t10 h10 => t_some (Or.inl ⟨_, rfl, h10, wup_same⟩))
  have h15 : 15 ≤ (S k).toInt := by rcases hw with e | e | e <;> rw [e] <;> decide
  obtain ⟨hkK, hpw⟩ := passWord_R g1 tk h15 nx_n
  have hpw : wX11_passWord (nxt s (P k)) = some (nxt s (Int32.ofNat (E k))) := by rw [hpw]; exact congrArg some wup_wup
  have g2 : RS G S P N E K (k + 1) (nxt s (Int32.ofNat (E k))) := g.behind tk hkK rfl
  have rt2 := rt.nx (v := Int32.ofNat (E k))
  by_cases c15 : S k = 15
  · rw [if_pos c15, if_neg (by decide), if_pos c15]
    have z7 : (nxt s (P k)).1 152 7 = h := rt1.1.1
    rw [z7]
    by_cases ch : h = 0
    · rw [if_pos ch, if_neg (by rw [ch]; decide), hpw, t_sbe]
      obtain ⟨a1, ⟨n, a2, a3⟩, a4, ak⟩ := g2
      refine t_bind (numberHere_E a1 tk ak a2 a3 a4 (by decide)) (fun q hq => ?_)
      rcases hq with ⟨e, n1, q0, qe⟩ | ⟨n1, nS, rfl⟩
      · obtain ⟨t, u⟩ := q
        rw [n1]
        exact t_ite (fun _ => t_some (Or.inl ⟨e, rfl, rfl, qe⟩)) (fun c => absurd q0 c)
      · rw [n1]
        dsimp only
        rw [if_neg (by decide), wup_same]
        have hk2 : k + 1 < K := tk.ne0 ak (by rw [nS]; decide)
        obtain ⟨_, b1, b2⟩ := num_i n1
        rw [show (1 : Int32).toInt = 1 from rfl] at b1
        rw [show (8 : Int32).toInt = 8 from rfl] at b2
        have hne : ¬ N (k + 1) = 0 := fun q => by rw [q, t_i0] at b1; omega
        have b3 : RS G S P N E K (k + 2) (nxt (nxt s (Int32.ofNat (E k))) (Int32.ofNat (E (k + 1)))) := RS.behind ⟨a1, ⟨n, a2, a3⟩, a4, ak⟩ tk hk2 rfl
        obtain ⟨c1, ⟨n', c2, c3⟩, c4, c5⟩ := b3
        obtain ⟨⟨d1, d2, d3⟩, ⟨d4, d5⟩, d6, d7, d8⟩ := rt2
        refine t_some (Or.inr ⟨_, rfl, rfl, ⟨c1.go ?_ ?_, ⟨n', ?_, c3⟩, ?_, c5⟩, ⟨⟨wup_same, ?_, ?_⟩, ⟨?_, ?_⟩, ?_, d7, by dsimp only; omega⟩, ?_, ?_⟩)
        · rw [wupI_n (by decide), wupI_n (by decide)]
        · rw [wup_nb (by decide), wup_nb (by decide)]
        · rw [wup_nb (by decide), wup_nb (by decide)]; exact c2
        · rw [wup_nb (by decide), wup_nb (by decide)]; exact c4
        · rw [wup_nb (by decide), wup_nb (by decide), wup_nb (by decide)]; exact d2
        · rw [wup_nb (by decide), wup_nb (by decide), wup_nb (by decide)]; exact d3
        · rw [wupI_n (by decide), wupI_n (by decide), wupI_n (by decide)]; exact d4
        · rw [wupI_n (by decide), wupI_n (by decide), wupI_n (by decide)]; exact d5
        · rw [wup_nb (by decide), wup_nb (by decide), wup_nb (by decide)]; exact d6
        · rw [wup_nb (by decide), wup_nb (by decide), wup_nb (by decide), wup_nb (by decide)]; exact hL
        · rw [hL2]
          unfold LN
          dsimp only
          rw [if_neg hne, if_pos ch]
          omega
    · rw [if_neg ch, if_pos (Int32.lt_iff_toInt_lt.2 (by
        have := rt.2.2.2.2.1
        rw [t_i0]
        by_cases q : h.toInt = 0
        · exact absurd (Int32.toInt_inj.1 q) ch
        · omega))]
      exact full
  · rw [if_neg c15, if_pos rfl, if_neg c15]
    have hw' : S k = 17 ∨ S k = 18 := hw.resolve_left c15
    have eqw : nxt (nxt s (P k)) (P k) = nxt s (P k) := wup_wup
    rw [isWord_R (c := 1919902052) (z := 2) g1 tk rfl (by decide), t_sbe, eqw]
    dsimp only
    have e17 : Int32.ofNat (15 + 2) = 17 := rfl
    rw [e17]
    by_cases c17 : S k = 17
    · rw [if_pos c17, if_neg (by decide), if_pos c17]
      unfold wX11_courtLineHere_j73
      have z8 : (nxt s (P k)).1 152 8 = Int32.ofNat r := rt1.1.2.1
      have r8 := rt.2.2.2.1.1
      have er : (Int32.ofNat r).toInt = r := t_on (by omega)
      rw [z8]
      by_cases cr : r = 8
      · rw [if_pos cr, if_pos (by rw [cr]; rfl)]
        exact full
      · rw [if_neg cr, if_neg (fun q => cr (by have := congrArg Int32.toInt q; rw [er, show (8 : Int32).toInt = 8 from rfl] at this; omega)), hpw, t_sbe, if_neg (by decide)]
        refine t_bind (isRoadHere_E (r := r) g2 tk rt2.1.2.1 (by omega)) (fun q hq => ?_)
        obtain ⟨t, u⟩ := q
        rcases hq with ⟨e, n1, q0, qe⟩ | ⟨n1, m1, q0, h1, h2, h3, h4⟩
        · dsimp only at q0 qe ⊢
          refine t_bind (t_rtZ (Or.inl q0)) (fun t10 h10 => t_some (Or.inl ⟨e, ?_, h10.trans q0, qe⟩))
          rcases n1 with n1 | ⟨n1, m1⟩
          · rw [n1]
          · rw [n1]; dsimp only; rw [m1]
        · dsimp only at q0 h1 h2 h3 h4 ⊢
          refine t_bind (t_rtZ (Or.inr q0)) (fun t10 h10 => ?_)
          rw [n1]
          dsimp only
          rw [m1]
          dsimp only
          refine t_some (Or.inr ⟨_, rfl, h10.trans q0, h1, ⟨⟨?_, h3, ?_⟩, ⟨?_, ?_⟩, ?_, ⟨by dsimp only; omega, rt.2.2.2.1.2⟩, rt2.2.2.2.2⟩, ?_, ?_⟩)
          · rw [h4 152 7 rfl]; exact rt2.1.1
          · rw [h4 152 9 rfl]; exact rt2.1.2.2
          · rw [h2, rt2.2.1.1]
          · rw [show u.1 159 = (nxt s (Int32.ofNat (E k))).1 159 from funext fun b => h4 159 b rfl]; exact rt2.2.1.2
          · rw [h4 152 15 rfl]; exact rt2.2.2.1
          · rw [h4 152 18 rfl, wup_nb (by decide)]; exact hL
          · rw [hL2]; unfold LN; dsimp only; omega
    · have c18 : S k = 18 := hw'.resolve_left c17
      rw [if_neg c17, if_pos rfl, if_neg c17, if_pos c18]
      unfold wX11_courtLineHere_j73
      have z9 : (nxt s (P k)).1 152 9 = Int32.ofNat m := rt1.1.2.2
      have r8 := rt.2.2.2.1.2
      have er : (Int32.ofNat m).toInt = m := t_on (by omega)
      rw [z9]
      by_cases cr : m = 8
      · rw [if_pos cr, if_pos (by rw [cr]; rfl)]
        exact full
      · rw [if_neg cr, if_neg (fun q => cr (by have := congrArg Int32.toInt q; rw [er, show (8 : Int32).toInt = 8 from rfl] at this; omega)), hpw, t_sbe, if_pos rfl]
        refine t_bind (isManHere_E (r := m) g2 tk rt2.1.2.2 (by omega)) (fun q hq => ?_)
        obtain ⟨t, u⟩ := q
        rcases hq with ⟨e, n1, q0, qe⟩ | ⟨n1, m1, q0, h1, h2, h3, h4⟩
        · dsimp only at q0 qe ⊢
          refine t_bind (t_rtZ (Or.inl q0)) (fun t10 h10 => t_some (Or.inl ⟨e, ?_, h10.trans q0, qe⟩))
          rcases n1 with n1 | ⟨n1, m1⟩
          · rw [n1]
          · rw [n1]; dsimp only; rw [m1]
        · dsimp only at q0 h1 h2 h3 h4 ⊢
          refine t_bind (t_rtZ (Or.inr q0)) (fun t10 h10 => ?_)
          rw [n1]
          dsimp only
          rw [m1]
          dsimp only
          refine t_some (Or.inr ⟨_, rfl, h10.trans q0, h1, ⟨⟨?_, ?_, h3⟩, ⟨?_, ?_⟩, ?_, ⟨rt.2.2.2.1.1, by dsimp only; omega⟩, rt2.2.2.2.2⟩, ?_, ?_⟩)
          · rw [h4 152 7 rfl]; exact rt2.1.1
          · rw [h4 152 8 rfl]; exact rt2.1.2.1
          · rw [show u.1 158 = (nxt s (Int32.ofNat (E k))).1 158 from funext fun b => h4 158 b rfl]; exact rt2.2.1.1
          · rw [h2, rt2.2.1.2]
          · rw [h4 152 15 rfl]; exact rt2.2.2.1
          · rw [h4 152 18 rfl, wup_nb (by decide)]; exact hL
          · rw [hL2]; unfold LN; dsimp only; omega
end CRF
end
section
/-! The reference reads a COURT's whole text. -/
section CRG
variable {G : wS} {S P N : Nat → Int32} {E : Nat → Nat} {K k : Nat} {s : wS} {h : Int32} {r m : Nat} {R M : Nat → Int32}
theorem clauseHere_E {L : Int} (g : RS G S P N E K k s) (tk : TOKS G S P N E K) (rt : RT h r m R M s) (hL : (s.1 152 18).toInt = L) (hL2 : L = LN h r m) : Tot (wX11_clauseHere s) (fun q => RL2 G S P N E K (L + 1) (ccl S P N k h r m R M) q) := by
  unfold wX11_clauseHere
  rw [see_R g tk, t_sbe]
  dsimp only
  have g1 := g.at tk
  have rt1 := rt.nx (v := P k)
  have eqw : nxt (nxt s (P k)) (P k) = nxt s (P k) := wup_wup
  have L1 : ((nxt s (P k)).1 152 18).toInt = L := by rw [wup_nb (by decide)]; exact hL
  have hb : L < 24 := by
    have := rt.2.2.2.1
    rw [hL2]
    unfold LN
    by_cases c : h = 0
    · rw [if_pos c]; omega
    · rw [if_neg c]; omega
  have l0 : 0 ≤ L := by
    rw [hL2]
    unfold LN
    by_cases c : h = 0
    · rw [if_pos c]; omega
    · rw [if_neg c]; omega
  rw [if_pos rt1.2.2.1, nx_n]
  unfold wX11_clauseHere_j24
  rw [isWord_R (c := 1919902052) (z := 2) g1 tk rfl (by decide), t_sbe, eqw]
  dsimp only
  have e15 : Int32.ofNat (15 + 0) = 15 := rfl
  have e17 : Int32.ofNat (15 + 2) = 17 := rfl
  have e18 : Int32.ofNat (15 + 3) = 18 := rfl
  rw [e17]
  -- the LINE itself
  have line : (S k = 15 ∨ S k = 17 ∨ S k = 18) → Tot (wX11_clauseHere_j65 (P k) 1 (nxt s (P k))) (fun q => RL2 G S P N E K (L + 1) (ccl S P N k h r m R M) q) := by
    intro hw
    unfold wX11_clauseHere_j65 wX11_clauseHere_j70
    rw [if_neg (by decide), if_neg (by decide)]
    unfold wX11_clauseHere_j97
    have e24 : (24 : Int32).toInt = 24 := rfl
    rw [if_neg (fun q => by have := congrArg Int32.toInt q; rw [e24] at this; omega)]
    have e1 : ((nxt s (P k)).1 152 18 + 1).toInt = L + 1 := by rw [t_p1 (by omega) (by omega), L1]
    show Tot ((wX11_courtLineHere (P k) (wupI (nxt s (P k)) 152 18 ((nxt s (P k)).1 152 18 + 1))).bind _) _
    obtain ⟨a1, ⟨n, a2, a3⟩, a4, a5⟩ := g1
    refine t_bind (courtLineHere_E (L := L + 1) (k := k) (h := h) (r := r) (m := m) (R := R) (M := M) ⟨a1.go (wupI_n (by decide)) (wup_nb (by decide)), ⟨n, by rw [wup_nb (by decide)]; exact a2, a3⟩, by rw [wup_nb (by decide)]; exact a4, a5⟩ tk (rt1.go (wup_nb (by decide)) (wup_nb (by decide)) (wup_nb (by decide)) (wup_nb (by decide)) (wupI_n (by decide)) (wupI_n (by decide))) (by rw [wup_same]; exact e1) (by rw [hL2]) hw) (fun q hq => ?_)
    obtain ⟨t, u⟩ := q
    rcases hq with ⟨e, n1, q0, qe⟩ | ⟨c', n1, q0, h1⟩
    · dsimp only at q0 qe ⊢
      exact t_bind (t_rtZ (Or.inl q0)) (fun t10 h10 => t_some (Or.inl ⟨e, n1, h10.trans q0, qe⟩))
    · dsimp only at q0 h1 ⊢
      exact t_bind (t_rtZ (Or.inr q0)) (fun t10 h10 => t_some (Or.inr ⟨c', n1, h10.trans q0, h1⟩))
  by_cases c17 : S k = 17
  · rw [if_pos c17, if_neg (by decide)]
    exact line (Or.inr (Or.inl c17))
  · rw [if_neg c17, if_pos rfl, isWord_R (c := 7168366) (z := 3) g1 tk rfl (by decide), t_sbe, eqw]
    dsimp only
    rw [e18]
    by_cases c18 : S k = 18
    · rw [if_pos c18, if_neg (by decide)]
      exact line (Or.inr (Or.inr c18))
    · rw [if_neg c18, if_pos rfl, if_neg (by decide)]
      unfold wX11_clauseHere_j59
      rw [isWord_R (c := 448546566771) (z := 0) g1 tk rfl (by decide), t_sbe, eqw]
      dsimp only
      rw [e15]
      by_cases c15 : S k = 15
      · rw [if_pos c15, if_neg (by decide)]
        exact line (Or.inl c15)
      · rw [if_neg c15, if_pos rfl]
        unfold wX11_clauseHere_j70
        rw [if_pos rfl, fails_R g1, t_sbe]
        dsimp only
        refine t_bind (t_rtZ (v := 0) (Or.inl rfl)) (fun t10 h10 => t_some (Or.inl ⟨fl 0 (P k), ?_, h10, wup_same⟩))
        unfold ccl
        rw [if_neg c15, if_neg c17, if_neg c18]
/-- what a COURT's text comes to -/
noncomputable def RV (S P N : Nat → Int32) (c : cC) (q : Int32 × wS) : Prop := (∃ e, Ev (cst S P N) c (.inl e) ∧ q.1 = 0 ∧ q.2.1 152 13 = e) ∨ (∃ c' : cC, Ev (cst S P N) c (.inr c') ∧ q.1 = 1 ∧ RT c'.2.1 c'.2.2.1 c'.2.2.2.1 c'.2.2.2.2.1 c'.2.2.2.2.2 q.2)
theorem j125_F {e : Int32} {s : wS} (h : s.1 152 13 = e) (he : ¬ e = 0) : Tot (wX11_readsAll_j125 s) (fun q => q.1 = 0 ∧ q.2.1 152 13 = e) := by
  unfold wX11_readsAll_j125
  refine t_bind (t_pfI (B := fun _ _ => true) rfl) (fun s23 h23 => ?_)
  have z : s23.1 152 13 = e := by rw [h23.2, wup_nb (by decide)]; exact h
  rw [z, if_neg he]
  exact t_some ⟨rfl, z⟩
theorem RT.taped {s : wS} {v : Int32} (g : RT h r m R M s) : RT h r m R M (wupI s 152 1 v) := g.go (wup_nb (by decide)) (wup_nb (by decide)) (wup_nb (by decide)) (wup_nb (by decide)) (wupI_n (by decide)) (wupI_n (by decide))
theorem ccl_fl {e : Int32} (pb : ∀ j, j ≤ K → 0 ≤ (P j).toInt ∧ (P j).toInt ≤ 400) (tk : TOKS G S P N E K) (hk : k ≤ K) (h1 : ccl S P N k h r m R M = .inl e) : ¬ e = 0 := by
  have nf : ∀ j c, j ≤ K → 0 ≤ c.toInt → c.toInt ≤ 7 → ¬ fl c (P j) = 0 := fun j c hj a b => fl_0 a b (pb j hj).1 (pb j hj).2
  have nn : ∀ j lo hi e, j ≤ K → num S P N j lo hi = some e → ¬ e = 0 := by
    intro j lo hi e hj hn
    unfold num at hn
    by_cases c : S j = 2
    · rw [if_pos c] at hn
      by_cases d : N j < lo ∨ hi < N j
      · rw [if_pos d] at hn
        rw [← Option.some.inj hn]
        exact nf j 1 hj (by decide) (by decide)
      · rw [if_neg d] at hn; cases hn
    · rw [if_neg c] at hn
      rw [← Option.some.inj hn]
      exact nf j 0 hj (by decide) (by decide)
  have kK : ∀ x : Int32, S k = x → ¬ x = 0 → k + 1 ≤ K := fun x e n => tk.ne0 hk (by rw [e]; exact n)
  have kK2 : ∀ lo hi, k + 1 ≤ K → num S P N (k + 1) lo hi = none → k + 2 ≤ K := fun lo hi a b => tk.ne0 a (by rw [(num_i b).1]; decide)
  unfold ccl at h1
  by_cases c15 : S k = 15
  · have q := kK 15 c15 (by decide)
    rw [if_pos c15] at h1
    by_cases ch : h = 0
    · rw [if_pos ch] at h1
      rcases pre_num (S := S) (P := P) (N := N) (k := k + 1) (lo := 1) (hi := 8) with ⟨e', n1⟩ | n1
      · rw [n1] at h1
        dsimp only at h1
        rw [← Sum.inl.inj h1]
        exact nn _ _ _ _ q n1
      · rw [n1] at h1; cases h1
    · rw [if_neg ch] at h1
      rw [← Sum.inl.inj h1]
      exact nf k 4 hk (by decide) (by decide)
  · rw [if_neg c15] at h1
    by_cases c17 : S k = 17
    · have q := kK 17 c17 (by decide)
      rw [if_pos c17] at h1
      by_cases cr : r = 8
      · rw [if_pos cr] at h1
        rw [← Sum.inl.inj h1]
        exact nf k 4 hk (by decide) (by decide)
      · rw [if_neg cr] at h1
        rcases pre_num (S := S) (P := P) (N := N) (k := k + 1) (lo := 0) (hi := 99) with ⟨e', n1⟩ | n1
        · rw [n1] at h1
          dsimp only at h1
          rw [← Sum.inl.inj h1]
          exact nn _ _ _ _ q n1
        · rw [n1] at h1
          dsimp only at h1
          rcases pre_num (S := S) (P := P) (N := N) (k := k + 2) (lo := 0) (hi := 99) with ⟨e', n2⟩ | n2
          · rw [n2] at h1
            dsimp only at h1
            rw [← Sum.inl.inj h1]
            exact nn _ _ _ _ (kK2 _ _ q n1) n2
          · rw [n2] at h1; cases h1
    · rw [if_neg c17] at h1
      by_cases c18 : S k = 18
      · have q := kK 18 c18 (by decide)
        rw [if_pos c18] at h1
        by_cases cr : m = 8
        · rw [if_pos cr] at h1
          rw [← Sum.inl.inj h1]
          exact nf k 4 hk (by decide) (by decide)
        · rw [if_neg cr] at h1
          rcases pre_num (S := S) (P := P) (N := N) (k := k + 1) (lo := 0) (hi := 99) with ⟨e', n1⟩ | n1
          · rw [n1] at h1
            dsimp only at h1
            rw [← Sum.inl.inj h1]
            exact nn _ _ _ _ q n1
          · rw [n1] at h1
            dsimp only at h1
            rcases pre_num (S := S) (P := P) (N := N) (k := k + 2) (lo := 0) (hi := 9) with ⟨e', n2⟩ | n2
            · rw [n2] at h1
              dsimp only at h1
              rw [← Sum.inl.inj h1]
              exact nn _ _ _ _ (kK2 _ _ q n1) n2
            · rw [n2] at h1; cases h1
      · rw [if_neg c18] at h1
        rw [← Sum.inl.inj h1]
        exact nf k 0 hk (by decide) (by decide)
theorem ccl_go {c' : cC} (h1 : ccl S P N k h r m R M = .inr c') : k + 2 ≤ c'.1 := by
  unfold ccl at h1
  by_cases c15 : S k = 15
  · rw [if_pos c15] at h1
    by_cases ch : h = 0
    · rw [if_pos ch] at h1
      rcases pre_num (S := S) (P := P) (N := N) (k := k + 1) (lo := 1) (hi := 8) with ⟨e', n1⟩ | n1
      · rw [n1] at h1; cases h1
      · rw [n1] at h1
        rw [← Sum.inr.inj h1]
        exact Nat.le_refl _
    · rw [if_neg ch] at h1; cases h1
  · rw [if_neg c15] at h1
    by_cases c17 : S k = 17
    · rw [if_pos c17] at h1
      by_cases cr : r = 8
      · rw [if_pos cr] at h1; cases h1
      · rw [if_neg cr] at h1
        rcases pre_num (S := S) (P := P) (N := N) (k := k + 1) (lo := 0) (hi := 99) with ⟨e', n1⟩ | n1
        · rw [n1] at h1; cases h1
        · rw [n1] at h1
          dsimp only at h1
          rcases pre_num (S := S) (P := P) (N := N) (k := k + 2) (lo := 0) (hi := 99) with ⟨e', n2⟩ | n2
          · rw [n2] at h1; cases h1
          · rw [n2] at h1
            rw [← Sum.inr.inj h1]
            dsimp only
            omega
    · rw [if_neg c17] at h1
      by_cases c18 : S k = 18
      · rw [if_pos c18] at h1
        by_cases cr : m = 8
        · rw [if_pos cr] at h1; cases h1
        · rw [if_neg cr] at h1
          rcases pre_num (S := S) (P := P) (N := N) (k := k + 1) (lo := 0) (hi := 99) with ⟨e', n1⟩ | n1
          · rw [n1] at h1; cases h1
          · rw [n1] at h1
            dsimp only at h1
            rcases pre_num (S := S) (P := P) (N := N) (k := k + 2) (lo := 0) (hi := 9) with ⟨e', n2⟩ | n2
            · rw [n2] at h1; cases h1
            · rw [n2] at h1
              rw [← Sum.inr.inj h1]
              dsimp only
              omega
      · rw [if_neg c18] at h1; cases h1
theorem t_assoc {α β γ : Type} {x : Option α} {f : α → Option β} {g : β → Option γ} {Q : γ → Prop} (h : Tot (x.bind fun a => (f a).bind g) Q) : Tot ((x.bind f).bind g) Q := by
  cases x with
  | none => exact h
  | some a => exact h
theorem readsAll_L (tk : TOKS G S P N E K) (pb : ∀ j, j ≤ K → 0 ≤ (P j).toInt ∧ (P j).toInt ≤ 400) : ∀ (n : Nat) {c : cC} {s : wS}, RS G S P N E K c.1 s → RT c.2.1 c.2.2.1 c.2.2.2.1 c.2.2.2.2.1 c.2.2.2.2.2 s → (s.1 152 18).toInt = LN c.2.1 c.2.2.1 c.2.2.2.1 → (K : Int) - c.1 + 1 < n → Tot ((wX11_clauseHere s).bind fun (t6, s7) => (wX11_readsAll_h35 n t6 s7).bind fun (t19, s20) => wX11_readsAll_j66 t19 s20) (fun q => RV S P N c q) := by
  intro n
  induction n with
  | zero => intro c s g _ _ hm; exfalso; have := g.2.2.2; omega
  | succ n ih =>
    intro c s g rt hL hm
    refine t_bind (clauseHere_E g tk rt hL rfl) (fun q hq => ?_)
    obtain ⟨t6, s7⟩ := q
    dsimp only
    rw [wX11_readsAll_h35]
    rcases hq with ⟨e, n1, q0, qe⟩ | ⟨c', n1, q0, h1, h2, h3, h4⟩
    · dsimp only at q0 qe
      rw [if_pos q0, t_sbe]
      dsimp only
      unfold wX11_readsAll_j66 wX11_readsAll_j88
      rw [if_pos q0, if_pos q0]
      refine t_mono (j125_F qe (ccl_fl pb tk g.2.2.2 n1)) (fun q hq => Or.inl ⟨e, Ev.ret ?_, hq⟩)
      unfold cst
      rw [n1]
    · dsimp only at q0 h1 h2 h3
      have ne : ¬ t6 = 0 := by rw [q0]; decide
      rw [if_neg ne, see_R h1 tk, t_sbe]
      dsimp only
      have hk := h1.2.2.2
      have s3 := seen_S (c := 59) (g := 3) tk hk bsg_3 (by decide) (by decide) (by decide)
      have s0 := seen_n tk hk
      have g' := h1.at tk
      have eqw : nxt (nxt s7 (P c'.1)) (P c'.1) = nxt s7 (P c'.1) := wup_wup
      by_cases c3 : S c'.1 = 3
      · rw [if_pos (s3.2 c3)]
        obtain ⟨o1, o2⟩ := one_R h1 tk (by rw [c3]; decide) (by rw [c3]; decide) (by rw [c3]; decide) (by rw [c3]; decide)
        rw [nx_n, o2]
        have ex : wpfI (nxt s7 (P c'.1)) 152 12 (Int32.ofNat (E c'.1)) = some (nxt s7 (Int32.ofNat (E c'.1))) := congrArg some wup_wup
        rw [ex, t_sbe]
        have st : cst S P N c = .inl (c'.1 + 1, c'.2) := by
          unfold cst
          rw [n1]
          dsimp only
          rw [if_pos c3]
        have hmono := ccl_go n1
        have := ih (c := (c'.1 + 1, c'.2)) (h1.behind tk o1 rfl) h2.nx (by rw [wup_nb (by decide)]; exact h3.trans h4.symm) (by dsimp only; omega)
        refine t_assoc (t_mono this (fun q hq => ?_))
        rcases hq with ⟨e, a, b⟩ | ⟨d, a, b⟩
        · exact Or.inl ⟨e, Ev.step st a, b⟩
        · exact Or.inr ⟨d, Ev.step st a, b⟩
      · rw [if_neg (fun q => c3 (s3.1 q)), t_sbe]
        dsimp only
        unfold wX11_readsAll_j66
        rw [if_neg ne, see_R g' tk, t_sbe, eqw]
        dsimp only
        have fin0 : ∀ u : wS, RS G S P N E K c'.1 u → u.1 152 12 = P c'.1 → cst S P N c = .inr (.inl (fl 0 (P c'.1))) → Tot ((wX11_fails 0 (u.1 152 12) u).bind fun (t35, s36) => wX11_readsAll_j125 s36) (fun q => RV S P N c q) := by
          intro u gu h12 st
          rw [h12, fails_R gu, t_sbe]
          dsimp only
          exact t_mono (j125_F wup_same (fl_0 (by decide) (by decide) (pb _ hk).1 (pb _ hk).2)) (fun q hq => Or.inl ⟨_, Ev.ret st, hq⟩)
        by_cases c0 : S c'.1 = 0
        · rw [if_pos (s0.2 c0)]
          unfold wX11_readsAll_j88
          have h2' := h2.nx (v := P c'.1)
          obtain ⟨⟨d1, d2, d3⟩, d4, d5, d6, d7⟩ := h2'
          have er : (Int32.ofNat c'.2.2.1).toInt = c'.2.2.1 := t_on (by omega)
          have em : (Int32.ofNat c'.2.2.2.1).toInt = c'.2.2.2.1 := t_on (by omega)
          have zr : Int32.ofNat c'.2.2.1 = 0 ↔ c'.2.2.1 = 0 := ⟨fun q => by have := congrArg Int32.toInt q; rw [er, t_i0] at this; omega, fun q => by rw [q]; rfl⟩
          have zm : Int32.ofNat c'.2.2.2.1 = 0 ↔ c'.2.2.2.1 = 0 := ⟨fun q => by have := congrArg Int32.toInt q; rw [em, t_i0] at this; omega, fun q => by rw [q]; rfl⟩
          rw [if_neg ne, if_pos d5, d2, d3]
          have stb : (c'.2.2.1 = 0 ∨ c'.2.2.2.1 = 0) → cst S P N c = .inr (.inl (fl 0 (P c'.1))) := by
            intro q
            unfold cst
            rw [n1]
            dsimp only
            rw [if_neg c3, if_pos c0, if_pos q]
          by_cases cr : c'.2.2.1 = 0
          · rw [if_pos (zr.2 cr)]
            unfold wX11_readsAll_j115
            exact fin0 _ g' nx_n (stb (Or.inl cr))
          · rw [if_neg (fun q => cr (zr.1 q))]
            by_cases cm : c'.2.2.2.1 = 0
            · rw [if_pos (zm.2 cm)]
              unfold wX11_readsAll_j115
              exact fin0 _ g' nx_n (stb (Or.inr cm))
            · rw [if_neg (fun q => cm (zm.1 q))]
              unfold wX11_readsAll_j125
              show Tot (if (wupI (nxt s7 (P c'.1)) 152 1 0).1 152 13 = 0 then _ else _) _
              rw [wup_nb (by decide), if_pos g'.2.2.1]
              refine t_some (Or.inr ⟨c', Ev.ret ?_, rfl, (h2.nx).taped⟩)
              unfold cst
              rw [n1]
              dsimp only
              rw [if_neg c3, if_pos c0, if_neg (fun q => q.elim cr cm)]
        · rw [if_neg (fun q => c0 (s0.1 q))]
          have st : cst S P N c = .inr (.inl (fl 0 (P c'.1))) := by
            unfold cst
            rw [n1]
            dsimp only
            rw [if_neg c3, if_neg c0]
          rw [nx_n, fails_R g', t_sbe]
          dsimp only
          unfold wX11_readsAll_j88
          rw [if_pos rfl]
          exact t_mono (j125_F wup_same (fl_0 (by decide) (by decide) (pb _ hk).1 (pb _ hk).2)) (fun q hq => Or.inl ⟨_, Ev.ret st, hq⟩)
end CRG
end
section
/-! The reference's COURT, whole. -/
theorem t_and {α : Type} {x : Option α} {P Q : α → Prop} (h : Tot x P) (g : Tot x Q) : Tot x (fun a => P a ∧ Q a) := by
  obtain ⟨a, e, p⟩ := h
  obtain ⟨b, f, q⟩ := g
  rw [e] at f
  exact ⟨a, e, p, by rw [Option.some.inj f]; exact q⟩
theorem court_h100_E {r : Nat} (hr : r ≤ 8) : ∀ (n : Nat) {i : Nat} {x1 : Int32} {s : wS}, s.1 152 8 = Int32.ofNat r → x1 = Int32.ofNat i → i ≤ 2 * r → 2 * r - i < n → Tot (wX11_court_h100 n x1 s) (fun u => (∀ k, k ≠ 163 → u.1 k = s.1 k) ∧ ∀ j, u.1 163 j = if 10 + i ≤ j ∧ j < 10 + 2 * r then s.1 158 (j - 10) else s.1 163 j) := by
  intro n
  induction n with
  | zero => intro i x1 s _ _ _ hm; exact absurd hm (by omega)
  | succ n ih =>
    intro i x1 s h8 hx hi hm
    have er : (Int32.ofNat r).toInt = r := t_on (by omega)
    have ei : x1.toInt = i := by rw [hx, t_on (by omega)]
    rw [wX11_court_h100, h8]
    have e2 : (2 * Int32.ofNat r).toInt = 2 * r := by rw [t_2p (by omega) (by omega), er]
    refine t_ite (fun c => ?_) (fun c => ?_)
    · have hc := t_lt c
      rw [e2, ei] at hc
      refine t_bind (t_ldI (n := 16) (by omega) (by omega)) (fun t17 h17 => ?_)
      have eB : (10 : Int32).toInt = 10 := rfl
      have e : (10 + x1).toInt = 10 + i := by rw [t_add (by omega) (by omega), ei, eB]
      have en : (10 + x1).toNatClampNeg = 10 + i := by unfold Int32.toNatClampNeg; omega
      have exn : x1.toNatClampNeg = i := by unfold Int32.toNatClampNeg; omega
      rw [wst_E (by omega) (by omega), t_sbe, en]
      have e1 : x1 + 1 = Int32.ofNat (i + 1) := Int32.toInt_inj.1 (by rw [t_p1 (by omega) (by omega), t_on (by omega), ei]; rfl)
      refine t_mono (ih (i := i + 1) (s := wupI s 163 (10 + i) t17) (by rw [wupI_n (by decide)]; exact h8) e1 (by omega) (by omega)) (fun u hu => ⟨fun k hk => by rw [hu.1 k hk, wupI_n hk], fun j => ?_⟩)
      rw [hu.2 j, wupI_n (by decide)]
      by_cases c1 : 10 + (i + 1) ≤ j ∧ j < 10 + 2 * r
      · rw [if_pos c1, if_pos (by omega)]
      · rw [if_neg c1]
        by_cases c2 : j = 10 + i
        · subst c2
          rw [wup_same, if_pos (by omega), h17, exn, Nat.add_sub_cancel_left]
        · rw [wup_nb c2, if_neg (by omega)]
    · have hc := t_ge c
      rw [e2, ei] at hc
      exact t_some ⟨fun k _ => rfl, fun j => by rw [if_neg (by omega)]⟩
theorem court_h133_E {r : Nat} (hr : r ≤ 8) : ∀ (n : Nat) {i : Nat} {x1 : Int32} {s : wS}, s.1 152 9 = Int32.ofNat r → x1 = Int32.ofNat i → i ≤ 2 * r → 2 * r - i < n → Tot (wX11_court_h133 n x1 s) (fun u => (∀ k, k ≠ 163 → u.1 k = s.1 k) ∧ ∀ j, u.1 163 j = if 26 + i ≤ j ∧ j < 26 + 2 * r then s.1 159 (j - 26) else s.1 163 j) := by
  intro n
  induction n with
  | zero => intro i x1 s _ _ _ hm; exact absurd hm (by omega)
  | succ n ih =>
    intro i x1 s h8 hx hi hm
    have er : (Int32.ofNat r).toInt = r := t_on (by omega)
    have ei : x1.toInt = i := by rw [hx, t_on (by omega)]
    rw [wX11_court_h133, h8]
    have e2 : (2 * Int32.ofNat r).toInt = 2 * r := by rw [t_2p (by omega) (by omega), er]
    refine t_ite (fun c => ?_) (fun c => ?_)
    · have hc := t_lt c
      rw [e2, ei] at hc
      refine t_bind (t_ldI (n := 16) (by omega) (by omega)) (fun t17 h17 => ?_)
      have eB : (26 : Int32).toInt = 26 := rfl
      have e : (26 + x1).toInt = 26 + i := by rw [t_add (by omega) (by omega), ei, eB]
      have en : (26 + x1).toNatClampNeg = 26 + i := by unfold Int32.toNatClampNeg; omega
      have exn : x1.toNatClampNeg = i := by unfold Int32.toNatClampNeg; omega
      rw [wst_E (by omega) (by omega), t_sbe, en]
      have e1 : x1 + 1 = Int32.ofNat (i + 1) := Int32.toInt_inj.1 (by rw [t_p1 (by omega) (by omega), t_on (by omega), ei]; rfl)
      refine t_mono (ih (i := i + 1) (s := wupI s 163 (26 + i) t17) (by rw [wupI_n (by decide)]; exact h8) e1 (by omega) (by omega)) (fun u hu => ⟨fun k hk => by rw [hu.1 k hk, wupI_n hk], fun j => ?_⟩)
      rw [hu.2 j, wupI_n (by decide)]
      by_cases c1 : 26 + (i + 1) ≤ j ∧ j < 26 + 2 * r
      · rw [if_pos c1, if_pos (by omega)]
      · rw [if_neg c1]
        by_cases c2 : j = 26 + i
        · subst c2
          rw [wup_same, if_pos (by omega), h17, exn, Nat.add_sub_cancel_left]
        · rw [wup_nb c2, if_neg (by omega)]
    · have hc := t_ge c
      rw [e2, ei] at hc
      exact t_some ⟨fun k _ => rfl, fun j => by rw [if_neg (by omega)]⟩
/-- the new COURT in the row of all that is told -/
noncomputable def CSr (h : Int32) (r m : Nat) (R M f f' : Nat → Int32) : Prop := (f' 0 = (if h = 0 then 1 else h) ∧ f' 1 = Int32.ofNat r ∧ f' 2 = Int32.ofNat m) ∧ (f' 3 = 0 ∧ f' 4 = -1 ∧ f' 5 = 0 ∧ f' 6 = f 6) ∧ (∀ i, i < 2 * r → f' (10 + i) = R i) ∧ (∀ i, i < 2 * m → f' (26 + i) = M i)
noncomputable def WNo (h : Int32) (r m : Nat) : Int32 := ((if h = 0 then 1 else h) * Int32.ofNat r) * Int32.ofNat m
theorem court_j56_E {h y : Int32} {r m : Nat} {R M : Nat → Int32} {s : wS} (hr : r ≤ 8) (hm : m ≤ 8) (h8 : s.1 152 8 = Int32.ofNat r) (h9 : s.1 152 9 = Int32.ofNat m) (hR : s.1 158 = R) (hM : s.1 159 = M) (hy : y = if h = 0 then 1 else h) : Tot (wX11_court_j56 0 y s) (fun q => (∀ k, k ≠ 163 → q.2.1 k = s.1 k) ∧ CSr h r m R M (s.1 163) (q.2.1 163) ∧ q.1 = WNo h r m) := by
  unfold wX11_court_j56
  rw [wst_E (by decide) (by decide), t_sbe, wst_E (by decide) (by decide), t_sbe, wst_E (by decide) (by decide), t_sbe, wst_E (by decide) (by decide), t_sbe, wst_E (by decide) (by decide), t_sbe, wst_E (by decide) (by decide), t_sbe]
  have r10 : (wupI s 163 (Int32.toNatClampNeg 0) y).1 152 8 = Int32.ofNat r := by rw [wupI_n (by decide)]; exact h8
  rw [r10]
  have r11 : (wupI (wupI s 163 (Int32.toNatClampNeg 0) y) 163 (Int32.toNatClampNeg 1) (Int32.ofNat r)).1 152 9 = Int32.ofNat m := by rw [wupI_n (by decide), wupI_n (by decide)]; exact h9
  rw [r11]
  generalize hu : wupI (wupI (wupI (wupI (wupI (wupI s 163 (Int32.toNatClampNeg 0) y) 163 (Int32.toNatClampNeg 1) (Int32.ofNat r)) 163 (Int32.toNatClampNeg 2) (Int32.ofNat m)) 163 (Int32.toNatClampNeg 3) 0) 163 (Int32.toNatClampNeg 4) (-1)) 163 (Int32.toNatClampNeg 5) 0 = u
  have n0 : Int32.toNatClampNeg 0 = 0 := rfl
  have n1 : Int32.toNatClampNeg 1 = 1 := rfl
  have n2 : Int32.toNatClampNeg 2 = 2 := rfl
  have n3 : Int32.toNatClampNeg 3 = 3 := rfl
  have n4 : Int32.toNatClampNeg 4 = 4 := rfl
  have n5 : Int32.toNatClampNeg 5 = 5 := rfl
  rw [n0, n1, n2, n3, n4, n5] at hu
  have uk : ∀ k, k ≠ 163 → u.1 k = s.1 k := fun k hk => by rw [← hu, wupI_n hk, wupI_n hk, wupI_n hk, wupI_n hk, wupI_n hk, wupI_n hk]
  have u0 : u.1 163 0 = y := by rw [← hu, wup_nb (by decide), wup_nb (by decide), wup_nb (by decide), wup_nb (by decide), wup_nb (by decide), wup_same]
  have u1 : u.1 163 1 = Int32.ofNat r := by rw [← hu, wup_nb (by decide), wup_nb (by decide), wup_nb (by decide), wup_nb (by decide), wup_same]
  have u2 : u.1 163 2 = Int32.ofNat m := by rw [← hu, wup_nb (by decide), wup_nb (by decide), wup_nb (by decide), wup_same]
  have u3 : u.1 163 3 = 0 := by rw [← hu, wup_nb (by decide), wup_nb (by decide), wup_same]
  have u4 : u.1 163 4 = -1 := by rw [← hu, wup_nb (by decide), wup_same]
  have u5 : u.1 163 5 = 0 := by rw [← hu, wup_same]
  have u6 : u.1 163 6 = s.1 163 6 := by rw [← hu, wup_nb (by decide), wup_nb (by decide), wup_nb (by decide), wup_nb (by decide), wup_nb (by decide), wup_nb (by decide)]
  have wf : ∀ q : Nat, q ≤ 8 → 2 * q - 0 < wFuel := fun q hq => by
    have e : wFuel = 1099511627776 := rfl
    omega
  refine t_bind (court_h100_E hr wFuel (i := 0) (s := u) (by rw [uk 152 (by decide)]; exact h8) rfl (Nat.zero_le _) (wf r hr)) (fun s20 h20 => ?_)
  refine t_bind (court_h133_E hm wFuel (i := 0) (s := s20) (by rw [h20.1 152 (by decide), uk 152 (by decide)]; exact h9) rfl (Nat.zero_le _) (wf m hm)) (fun s26 h26 => ?_)
  have v : ∀ j, j < 10 → s26.1 163 j = u.1 163 j := fun j hj => by rw [h26.2 j, if_neg (by omega), h20.2 j, if_neg (by omega)]
  unfold wX11_worlds
  rw [t_sbe]
  refine t_some ⟨fun k hk => by show s26.1 k = _; rw [h26.1 k hk, h20.1 k hk, uk k hk], ⟨⟨?_, ?_, ?_⟩, ⟨?_, ?_, ?_, ?_⟩, fun i hi => ?_, fun i hi => ?_⟩, ?_⟩
  · show s26.1 163 0 = _
    rw [v 0 (by decide), u0, hy]
  · show s26.1 163 1 = _
    rw [v 1 (by decide), u1]
  · show s26.1 163 2 = _
    rw [v 2 (by decide), u2]
  · show s26.1 163 3 = _
    rw [v 3 (by decide), u3]
  · show s26.1 163 4 = _
    rw [v 4 (by decide), u4]
  · show s26.1 163 5 = _
    rw [v 5 (by decide), u5]
  · show s26.1 163 6 = _
    rw [v 6 (by decide), u6]
  · show s26.1 163 (10 + i) = _
    rw [h26.2, if_neg (by omega), h20.2, if_pos (by omega), uk 158 (by decide), hR, Nat.add_sub_cancel_left]
  · show s26.1 163 (26 + i) = _
    rw [h26.2, if_pos (by omega), h20.1 159 (by decide), uk 159 (by decide), hM, Nat.add_sub_cancel_left]
  · show (s26.1 163 0 * s26.1 163 1) * s26.1 163 2 = _
    rw [v 0 (by decide), v 1 (by decide), v 2 (by decide), u0, u1, u2, hy]
    rfl
/-- the start of a COURT's reading -/
noncomputable abbrev cs4 (s : wS) : wS := wupI (wupI (wupI (wupI s 152 15 6) 152 7 0) 152 8 0) 152 9 0
/-- only so much is written in reading a COURT -/
theorem court_RA {s : wS} (g : RI s) : Tot (wX11_readsAll (cs4 s)) (RA JC (bN 6) (cs4 s)) := by
  obtain ⟨⟨gC, gL, gW⟩, gT, gI⟩ := g
  have x4 : (cs4 s).1 152 15 = 6 := by rw [wup_nb (by omega), wup_nb (by omega), wup_nb (by omega), wup_same]
  have T4 : (cs4 s).1 152 1 = s.1 152 1 := by rw [wup_nb (by omega), wup_nb (by omega), wup_nb (by omega), wup_nb (by omega)]
  have c7 : (cs4 s).1 152 7 = 0 := by rw [wup_nb (by omega), wup_nb (by omega), wup_same]
  have c8 : (cs4 s).1 152 8 = 0 := by rw [wup_nb (by omega), wup_same]
  have c9 : (cs4 s).1 152 9 = 0 := by rw [wup_same]
  generalize cs4 s = s4 at x4 T4 c7 c8 c9
  have hB : ∀ k b, bF k b = true → bN 6 k b = true := fun k b h => bL_le_bN k b (bF_le_bL k b h)
  refine readsAll_T (J := JC) (B := bN 6) hB rfl rfl (fun u h => h.1.1) (fun u v h o => JC_on o h) (fun u h q => JC_P h q) (fun u h => h.2.2) (fun u h => t_mono (clauseHere_C h) (fun r hr => ⟨hr.1.mono bL_le_bN, hr.2⟩)) (s := s4) (by rw [x4]; decide) (by rw [x4]; decide) (by rw [x4]; rfl) ?_
  rw [x4]
  refine ⟨⟨⟨?_, ?_⟩, ?_, ?_, ?_⟩, ?_, ?_⟩
  · rw [wup_nb (by omega), wup_nb (by omega), wup_nb (by omega), wup_nb (by omega), wupI_n (by omega), T4]
    exact gT
  · rw [wup_nb (by omega), wup_nb (by omega), wup_same, wup_nb (by omega), wup_nb (by omega), wup_nb (by omega), wup_nb (by omega), wupI_n (by omega), T4]
    exact ⟨by decide, gT.1⟩
  · rw [wup_nb (by omega), wup_nb (by omega), wup_nb (by omega), wup_nb (by omega), wupI_n (by omega), c7]
    decide
  · rw [wup_nb (by omega), wup_nb (by omega), wup_nb (by omega), wup_nb (by omega), wupI_n (by omega), c8]
    decide
  · rw [wup_nb (by omega), wup_nb (by omega), wup_nb (by omega), wup_nb (by omega), wupI_n (by omega), c9]
    decide
  · rw [wup_nb (by omega), wup_nb (by omega), wup_nb (by omega), wup_nb (by omega), wupI_n (by omega), x4]
    decide
  · rw [wup_nb (by omega), wup_nb (by omega), wup_nb (by omega), wup_same]
    decide
/-- what it comes to -/
theorem court_RV {G : wS} {S P N : Nat → Int32} {E : Nat → Nat} {K : Nat} {s : wS} (g : RG G s) (tk : TOKS G S P N E K) : Tot (wX11_readsAll (cs4 s)) (RV S P N (0, 0, 0, 0, s.1 158, s.1 159)) := by
  have hT := g.2.2.1
  have pb : ∀ j, j ≤ K → 0 ≤ (P j).toInt ∧ (P j).toInt ≤ 400 := fun j hj => by have := tk.p0 hT.1 hj; omega
  unfold wX11_readsAll
  have x4 : (cs4 s).1 152 15 = 6 := by rw [wup_nb (by omega), wup_nb (by omega), wup_nb (by omega), wup_same]
  rw [x4, wst_E (by decide) (by decide), t_sbe]
  show Tot ((wX11_clauseHere (wupI (wupI (wupI (wupI (wupI (cs4 s) 155 6 0) 152 18 0) 152 12 0) 152 13 0) 152 16 0)).bind fun (t6, s7) => (wX11_readsAll_h35 wFuel t6 s7).bind fun (t19, s20) => wX11_readsAll_j66 t19 s20) _
  have a : wA (fun k b => Nat.beq k 155 || (Nat.beq k 152 && (Nat.beq b 15 || (Nat.beq b 7 || (Nat.beq b 8 || (Nat.beq b 9 || (Nat.beq b 18 || (Nat.beq b 12 || (Nat.beq b 13 || Nat.beq b 16))))))))) s (wupI (wupI (wupI (wupI (wupI (cs4 s) 155 6 0) 152 18 0) 152 12 0) 152 13 0) 152 16 0) := (((((((((wA_I rfl).trans (wA_I rfl)).trans (wA_I rfl)).trans (wA_I rfl)).trans (wA_I rfl)).trans (wA_I rfl)).trans (wA_I rfl)).trans (wA_I rfl)).trans (wA_I rfl))
  refine readsAll_L tk pb wFuel (c := (0, 0, 0, 0, s.1 158, s.1 159)) ⟨?_, ⟨0, ?_, tk.sk (k := 0) (Nat.zero_le _)⟩, ?_, Nat.zero_le _⟩ ⟨⟨?_, ?_, ?_⟩, ⟨?_, ?_⟩, ?_, ⟨Nat.zero_le _, Nat.zero_le _⟩, (by show 0 ≤ (0 : Int32).toInt; decide), (by show (0 : Int32).toInt ≤ 8; decide)⟩ ?_ ?_
  · exact g.go (funext fun b => a 153 b rfl) (a 152 1 rfl)
  · rw [wup_nb (by decide), wup_nb (by decide), wup_same]; rfl
  · rw [wup_nb (by decide), wup_same]
  · rw [wup_nb (by decide), wup_nb (by decide), wup_nb (by decide), wup_nb (by decide), wupI_n (by decide), wup_nb (by decide), wup_nb (by decide), wup_same]
  · rw [wup_nb (by decide), wup_nb (by decide), wup_nb (by decide), wup_nb (by decide), wupI_n (by decide), wup_nb (by decide), wup_same]
    rfl
  · rw [wup_nb (by decide), wup_nb (by decide), wup_nb (by decide), wup_nb (by decide), wupI_n (by decide), wup_same]
    rfl
  · exact funext fun b => a 158 b rfl
  · exact funext fun b => a 159 b rfl
  · rw [wup_nb (by decide), wup_nb (by decide), wup_nb (by decide), wup_nb (by decide), wupI_n (by decide)]
    exact x4
  · rw [wup_nb (by decide), wup_nb (by decide), wup_nb (by decide), wup_same]
    rfl
  · have e : ((wFuel : Nat) : Int) = 1099511627776 := rfl
    have := tk.2.1
    dsimp only
    omega
noncomputable def bNs (k b : Nat) : Bool := bN 6 k b || Nat.beq k 163
theorem wX11_court_E {G : wS} {S P N : Nat → Int32} {E : Nat → Nat} {K : Nat} {s : wS} (g : RG G s) (tk : TOKS G S P N E K) (ri : RI s) : Tot (wX11_court s) (fun q => wA bNs s q.2 ∧ q.2.1 152 1 = 0 ∧ ((∃ e, Ev (cst S P N) (0, 0, 0, 0, s.1 158, s.1 159) (.inl e) ∧ q.1 = (Int8.ofInt (-2)).toInt32 - e ∧ q.2.1 163 = s.1 163) ∨ (∃ c' : cC, Ev (cst S P N) (0, 0, 0, 0, s.1 158, s.1 159) (.inr c') ∧ CSr c'.2.1 c'.2.2.1 c'.2.2.2.1 c'.2.2.2.2.1 c'.2.2.2.2.2 (s.1 163) (q.2.1 163) ∧ q.1 = WNo c'.2.1 c'.2.2.1 c'.2.2.2.1))) := by
  unfold wX11_court
  show Tot ((wX11_readsAll (cs4 s)).bind _) _
  refine t_bind (t_and (court_RA ri) (court_RV g tk)) (fun r hr => ?_)
  obtain ⟨t5, s6⟩ := r
  obtain ⟨⟨a1, a2, -⟩, hr⟩ := hr
  dsimp only at a1 a2 hr ⊢
  have le : ∀ k b, bN 6 k b = true → bNs k b = true := fun k b h => by unfold bNs; rw [h]; rfl
  have A : wA (bN 6) s s6 := ((((wA_I rfl).trans (wA_I rfl)).trans (wA_I rfl)).trans (wA_I rfl)).trans a1
  have e163 : s6.1 163 = s.1 163 := funext fun b => A 163 b bN_163
  rcases hr with ⟨e, h1, q0, qe⟩ | ⟨c', h1, q0, rt⟩
  · dsimp only at q0 qe
    rw [if_pos q0, qe]
    exact t_some ⟨A.mono le, a2, Or.inl ⟨e, h1, rfl, e163⟩⟩
  · dsimp only at q0 rt
    obtain ⟨⟨d1, d2, d3⟩, ⟨d4, d5⟩, d6, d7, d8⟩ := rt
    rw [if_neg (by rw [q0]; decide), d1]
    have fin : ∀ y, y = (if c'.2.1 = 0 then 1 else c'.2.1) → Tot (wX11_court_j56 0 y s6) (fun q => wA bNs s q.2 ∧ q.2.1 152 1 = 0 ∧ ((∃ e, Ev (cst S P N) (0, 0, 0, 0, s.1 158, s.1 159) (.inl e) ∧ q.1 = (Int8.ofInt (-2)).toInt32 - e ∧ q.2.1 163 = s.1 163) ∨ (∃ c' : cC, Ev (cst S P N) (0, 0, 0, 0, s.1 158, s.1 159) (.inr c') ∧ CSr c'.2.1 c'.2.2.1 c'.2.2.2.1 c'.2.2.2.2.1 c'.2.2.2.2.2 (s.1 163) (q.2.1 163) ∧ q.1 = WNo c'.2.1 c'.2.2.1 c'.2.2.2.1))) := by
      intro y hy
      refine t_mono (court_j56_E (h := c'.2.1) d7.1 d7.2 d2 d3 d4 d5 hy) (fun q hq => ⟨(A.mono le).trans (fun k b hb => ?_), ?_, Or.inr ⟨c', h1, ?_, hq.2.2⟩⟩)
      · rw [hq.1 k (fun e => by rw [e] at hb; unfold bNs at hb; rw [show Nat.beq 163 163 = true from rfl, Bool.or_true] at hb; cases hb)]
      · rw [hq.1 152 (by decide)]; exact a2
      · have := hq.2.1
        rw [e163] at this
        exact this
    by_cases c0 : c'.2.1 = 0
    · rw [if_pos c0]
      exact fin 1 (by rw [if_pos c0])
    · rw [if_neg c0]
      exact fin _ (by rw [if_neg c0])
end
section
/-! The class's COURT, whole. -/
theorem wcp_E {k n k1 n1 : Nat} {m : Int32} {s : wS} {l : Nat} (hm : m = Int32.ofNat l) (hl : l ≤ n) (hl1 : l ≤ n1) (hb : l < 1000) : wcpI s k n k1 n1 0 0 m = some (fun j => if j = k1 then va_cpy (s.1 k) (s.1 k1) 0 0 l else s.1 j, s.2) := by
  have e : m.toInt = l := by rw [hm, t_on (by omega)]
  have en : m.toNatClampNeg = l := by unfold Int32.toNatClampNeg; omega
  have z : Int32.toNatClampNeg 0 = 0 := rfl
  unfold wcpI
  rw [en, z, if_pos ⟨by decide, by decide, fun c => by have := t_lt c; rw [t_i0] at this; omega, by omega, by omega⟩]
theorem cpy_at {f g : Nat → Int32} {l j : Nat} (h : j < l) : va_cpy f g 0 0 l j = f j := by
  unfold va_cpy
  rw [if_pos (by omega), Nat.sub_zero, Nat.zero_add]
/-- a hearing is opened -/
theorem open_E {s : wS} : Tot (wX2_open 14 9 s) (fun u => wA (fun k b => (Nat.beq k 14 && Nat.blt b 11) || (Nat.ble 15 k && Nat.ble k 18)) s u ∧ (∀ j, j < 3 → u.1 16 j = s.1 10 j) ∧ (∀ j, j < 24 → u.1 17 j = s.1 11 j ∧ u.1 18 j = s.1 12 j) ∧ u.1 14 6 = 0 ∧ u.1 14 7 = -1 ∧ u.1 14 10 = 0 ∧ u.1 14 11 = s.1 14 11) := by
  unfold wX2_open wX0_becomes
  rw [wcp_E (l := 3) (m := 3) rfl (by decide) (by decide) (by decide), t_sbe, wcp_E (l := 24) (m := 24) rfl (by decide) (by decide) (by decide), t_sbe, wcp_E (l := 24) (m := 24) rfl (by decide) (by decide) (by decide), t_sbe, t_sbe]
  refine t_some ⟨?_, fun j hj => ?_, fun j hj => ⟨?_, ?_⟩, ?_, ?_, ?_, ?_⟩
  · refine (((wA.trans ?_ (wA_I rfl)).trans (wA_I rfl)).trans (wA_I rfl))
    intro k b hb
    dsimp only at hb ⊢
    by_cases c18 : k = 18
    · subst c18; exact absurd hb (by
        rw [show (Nat.beq 18 14 && Nat.blt b 11) = false from rfl]; decide)
    · by_cases c17 : k = 17
      · subst c17; exact absurd hb (by
          rw [show (Nat.beq 17 14 && Nat.blt b 11) = false from rfl]; decide)
      · by_cases c16 : k = 16
        · subst c16; exact absurd hb (by
            rw [show (Nat.beq 16 14 && Nat.blt b 11) = false from rfl]; decide)
        · rw [if_neg c18, if_neg c17, if_neg c16]
  · rw [wupI_n (by decide), wupI_n (by decide), wupI_n (by decide)]
    show va_cpy (s.1 10) (s.1 16) 0 0 3 j = _
    exact cpy_at hj
  · rw [wupI_n (by decide), wupI_n (by decide), wupI_n (by decide)]
    show va_cpy (s.1 11) (s.1 17) 0 0 24 j = _
    exact cpy_at hj
  · rw [wupI_n (by decide), wupI_n (by decide), wupI_n (by decide)]
    show va_cpy (s.1 12) (s.1 18) 0 0 24 j = _
    exact cpy_at hj
  · rw [wup_nb (by decide), wup_nb (by decide), wup_same]
  · rw [wup_nb (by decide), wup_same]
  · rw [wup_same]
  · rw [wup_nb (by decide), wup_nb (by decide), wup_nb (by decide)]
    rfl
/-- the hearing's COURT is that one -/
noncomputable def CO (h : Int32) (r m : Nat) (R M : Nat → Int32) (s : wS) : Prop := (s.1 16 0 = (if h = 0 then 1 else h) ∧ s.1 16 1 = Int32.ofNat r ∧ s.1 16 2 = Int32.ofNat m) ∧ (∀ i, i < r → s.1 17 (8 + i) = R (2 * i) ∧ s.1 18 (8 + i) = R (2 * i + 1)) ∧ (∀ i, i < m → s.1 17 (16 + i) = M (2 * i) ∧ s.1 18 (16 + i) = M (2 * i + 1)) ∧ (s.1 14 6 = 0 ∧ s.1 14 7 = -1 ∧ s.1 14 10 = 0) ∧ (r ≤ 8 ∧ m ≤ 8) ∧ (0 ≤ h.toInt ∧ h.toInt ≤ 8)
theorem worlds_E {h : Int32} {r m : Nat} {R M : Nat → Int32} {s : wS} (c : CO h r m R M s) : wX0_worlds 15 s = some (WNo h r m) := by
  unfold wX0_worlds
  rw [wld_E (by decide) (by decide), t_sbe, wld_E (by decide) (by decide), t_sbe, wld_E (by decide) (by decide), t_sbe]
  show some ((s.1 16 0 * s.1 16 1) * s.1 16 2) = _
  rw [c.1.1, c.1.2.1, c.1.2.2]
  rfl
/-- what of it all the class's COURT comes to -/
theorem wX10_court_E {s : wS} {R M : Nat → Int32} (hT0 : 0 ≤ (s.1 1 1).toInt) (hT : (s.1 1 1).toInt ≤ 400) : Tot (wX10_court s) (fun q => wA bK s q.2 ∧ q.2.1 1 1 = 0 ∧ q.2.1 2 = s.1 2 ∧ q.2.1 14 11 = s.1 14 11 ∧ ∃ S P N E K, TOKS s S P N E K ∧ ((∃ e, Ev (cst S P N) (0, 0, 0, 0, R, M) (.inl e) ∧ q.1 = (Int8.ofInt (-2)).toInt32 - e ∧ wA bR s (wupI q.2 1 1 (s.1 1 1))) ∨ (∃ c' : cC, Ev (cst S P N) (0, 0, 0, 0, R, M) (.inr c') ∧ CO c'.2.1 c'.2.2.1 c'.2.2.2.1 c'.2.2.2.2.1 c'.2.2.2.2.2 q.2 ∧ q.1 = WNo c'.2.1 c'.2.2.1 c'.2.2.2.1))) := by
  unfold wX10_court
  refine t_bind (t_and (wX9_cut_E hT0 hT) wX9_cut_T) (fun s2 h2 => ?_)
  obtain ⟨⟨a2, q34, q35, K, E, q33, tk⟩, b2⟩ := h2
  refine t_bind (t_pfI (B := fun k b => Nat.beq k 1 && Nat.beq b 1) rfl) (fun s4 h4 => ?_)
  have pb : ∀ j, j ≤ K → 0 ≤ (s2.1 5 j).toInt ∧ (s2.1 5 j).toInt ≤ 400 := fun j hj => by have := tk.p0 hT0 hj; omega
  have hK : K ≤ 400 := by have := tk.2.1; omega
  have ct : CT (s2.1 4) (s2.1 5) (s2.1 6) K 0 s4 := by
    refine ⟨⟨?_, ?_, ?_⟩, ⟨?_, hK⟩, ?_⟩
    · rw [h4.2, wupI_n (by decide)]
    · rw [h4.2, wupI_n (by decide)]
    · rw [h4.2, wupI_n (by decide)]
    · rw [h4.2, wupI_n (by decide), q33]
    · rw [h4.2, wupI_n (by decide), q34]; rfl
  refine t_bind (t_and (read_E (R := R) (M := M) ct (by rw [h4.2, wupI_n (by decide)]; exact q35) tk.2.2.1 pb) wX1_read_T) (fun s6 h6 => ?_)
  obtain ⟨h6, b6⟩ := h6
  have t1 : s6.1 1 1 = 0 := by rw [b6 1 1 rfl, h4.2, wup_same]
  have t2 : s6.1 2 = s.1 2 := by
    funext b
    rw [b6 2 b rfl, h4.2, wupI_n (by decide), b2 2 b rfl]
  have t11 : s6.1 14 11 = s.1 14 11 := by rw [b6 14 11 rfl, h4.2, wupI_n (by decide), b2 14 11 rfl]
  have A6 : wA bK s s6 := ((b2.mono bR_le_bK).trans (fun k b hb => h4.1 k b (by
    cases e : (Nat.beq k 1 && Nat.beq b 1)
    · exact e
    · exfalso
      simp only [Bool.and_eq_true, Nat.beq_eq] at e
      obtain ⟨rfl, rfl⟩ := e
      exact absurd hb (by decide)))).trans (b6.mono bR_le_bK)
  rcases h6 with ⟨e, h1, h3⟩ | ⟨c', h1, h3, cd⟩
  · rw [h3.2.1, if_neg h3.2.2.1]
    refine t_some ⟨A6, t1, t2, t11, s2.1 4, s2.1 5, s2.1 6, E, K, tk, Or.inl ⟨e, h1, rfl, fun k b hb => ?_⟩⟩
    by_cases c : k = 1
    · subst c
      by_cases d : b = 1
      · subst d; rw [wup_same]
      · rw [wup_nb d]
        show s6.1 1 b = _
        rw [b6 1 b rfl, h4.2, wup_nb d, b2 1 b rfl]
    · rw [wupI_n c]
      show s6.1 k b = _
      rw [b6 k b hb, h4.2, wupI_n c, b2 k b hb]
  · rw [h3, if_pos rfl]
    refine t_bind (t_and open_E wX2_open_T) (fun s10 h10 => t_bind wX10_courtIsAnother_T (fun s13 h13 => ?_))
    obtain ⟨⟨a10, o1, o2, o3, o4, o5, o6⟩, b10⟩ := h10
    have z : ∀ k, 14 ≤ k → k ≤ 18 → ∀ b, s13.1 k b = s10.1 k b := fun k h1 h2 b => h13 k b (by
      unfold bR bRa
      have e1 : Nat.ble k 12 = false := nb_false (by omega)
      have e2 : Nat.ble 28 k = false := nb_false (by omega)
      have e3 : Nat.ble 165 k = false := nb_false (by omega)
      have e4 : Nat.beq k 152 = false := nq_false (by omega)
      rw [e1, e2, e3, e4, Bool.and_false]
      rfl)
    obtain ⟨⟨g1, g2, g3⟩, g4, g5, g6, g7, g8⟩ := cd
    have co : CO c'.2.1 c'.2.2.1 c'.2.2.2.1 c'.2.2.2.2.1 c'.2.2.2.2.2 s13 := by
      refine ⟨⟨?_, ?_, ?_⟩, fun i hi => ?_, fun i hi => ?_, ⟨?_, ?_, ?_⟩, g7, g8⟩
      · rw [z 16 (by decide) (by decide), o1 0 (by decide)]; exact g1
      · rw [z 16 (by decide) (by decide), o1 1 (by decide)]; exact g2
      · rw [z 16 (by decide) (by decide), o1 2 (by decide)]; exact g3
      · rw [z 17 (by decide) (by decide), z 18 (by decide) (by decide), (o2 _ (by omega)).1, (o2 _ (by omega)).2]; exact g4 i hi
      · rw [z 17 (by decide) (by decide), z 18 (by decide) (by decide), (o2 _ (by omega)).1, (o2 _ (by omega)).2]; exact g5 i hi
      · rw [z 14 (by decide) (by decide)]; exact o3
      · rw [z 14 (by decide) (by decide)]; exact o4
      · rw [z 14 (by decide) (by decide)]; exact o5
    rw [worlds_E co, t_sbe]
    refine t_some ⟨(A6.trans b10).trans (h13.mono bR_le_bK), ?_, ?_, ?_, s2.1 4, s2.1 5, s2.1 6, E, K, tk, Or.inr ⟨c', h1, co, rfl⟩⟩
    · show s13.1 1 1 = 0
      rw [h13 1 1 rfl, a10 1 1 rfl, t1]
    · show s13.1 2 = s.1 2
      rw [← t2]
      funext b
      rw [h13 2 b rfl, a10 2 b rfl]
    · show s13.1 14 11 = _
      rw [z 14 (by decide) (by decide), o6, t11]
end
section
/-! Narrow frames: a COURT is read; a COURT is another. -/
noncomputable def bY (k _b : Nat) : Bool := Nat.ble 3 k && Nat.ble k 12
noncomputable def bYp (k b : Nat) : Bool := (Nat.ble 28 k && Nat.ble k 31) || (Nat.ble 44 k && Nat.ble k 103 && Nat.beq ((k - 44) % 10) 0 && Nat.beq b 12)
theorem bYp_12 {k : Nat} (hk : wkd k = 3) : bYp k 12 = true := by
  have hl := wlt (k := k) (by omega)
  have : ∀ k < 172, wkd k = 3 → bYp k 12 = true := by decide +kernel
  exact this k hl hk
theorem wX9_skip_Y {s : wS}  : Tot (wX9_skip s) (fun (r : wS) => wA bY s r) := by
  unfold wX9_skip
  refine t_ite (fun c1 => ?_) (fun c1 => ?_)
  · refine t_bind (t_pfI (B := bY) rfl) (fun s2 h2 => ?_)
    exact t_some h2.1
  · exact t_some wA.refl
theorem wX9_fail_j29_Y {s : wS}  : Tot (wX9_fail_j29 s) (fun (r : wS) => wA bY s r) := by
  unfold wX9_fail_j29
  refine t_bind (t_pfI (B := bY) rfl) (fun s5 h1 => ?_)
  exact t_some h1.1
theorem wX9_fail_Y {x1 : Int32} {s : wS}  : Tot (wX9_fail x1 s) (fun (r : wS) => wA bY s r) := by
  unfold wX9_fail
  refine t_ite (fun c1 => ?_) (fun c1 => ?_)
  · refine t_bind (wX10_at_T rfl) (fun t2 h2 => ?_)
    refine t_bind (t_pfI (B := bY) rfl) (fun s4 h3 => ?_)
    exact t_mono (wX9_fail_j29_Y) (fun r h => (h3.1.trans h))
  · exact t_mono (wX9_fail_j29_Y) (fun r h => h)
theorem wX9_takeNumber_j45_Y {x3 : Int32} {s : wS}  : Tot (wX9_takeNumber_j45 x3 s) (fun (r : Int32 × wS) => wA bY s r.2) := by
  unfold wX9_takeNumber_j45
  refine t_bind (wX9_fail_Y) (fun s8 h1 => ?_)
  exact t_some h1
theorem wX9_takeNumber_Y {x1 : Int32} {x2 : Int32} {s : wS}  : Tot (wX9_takeNumber x1 x2 s) (fun (r : Int32 × wS) => wA bY s r.2) := by
  unfold wX9_takeNumber
  refine t_bind (wX10_at_T rfl) (fun t1 h1 => ?_)
  refine t_bind (wX10_at_T rfl) (fun t3 h2 => ?_)
  refine t_ite (fun c3 => ?_) (fun c3 => ?_)
  · refine t_ite (fun c4 => ?_) (fun c4 => ?_)
    · exact t_mono (wX9_takeNumber_j45_Y) (fun r h => h)
    · refine t_ite (fun c5 => ?_) (fun c5 => ?_)
      · exact t_mono (wX9_takeNumber_j45_Y) (fun r h => h)
      · refine t_bind (wX9_skip_Y) (fun s12 h6 => ?_)
        exact t_some h6
  · refine t_bind (wX9_fail_Y) (fun s15 h7 => ?_)
    exact t_some h7
theorem wX1_readClause_j121_Y {y1 : Int32} {y2 : Int32} {y4 : Int32} {y5 : Int32} {s : wS}  : Tot (wX1_readClause_j121 9 y1 y2 y4 y5 s) (fun (r : wS) => wA bY s r) := by
  unfold wX1_readClause_j121
  refine t_bind (wX9_takeNumber_Y) (fun r2 h1 => ?_)
  obtain ⟨t26, s27⟩ := r2
  dsimp only at h1 ⊢
  refine t_bind (wX0_add_T rfl (B := bY) (fun _ => rfl) (fun _ => rfl) (fun _ => rfl)) (fun s30 h3 => ?_)
  have a4 := h1.trans h3
  exact t_some a4
theorem wX1_readClause_j51_Y {x4 : Int32} {y0 : Int32} {s : wS}  : Tot (wX1_readClause_j51 9 x4 y0 s) (fun (r : wS) => wA bY s r) := by
  unfold wX1_readClause_j51
  refine t_ite (fun c1 => ?_) (fun c1 => ?_)
  · refine t_bind (wX9_skip_Y) (fun s12 h2 => ?_)
    refine t_ite (fun c3 => ?_) (fun c3 => ?_)
    · refine t_bind (wX9_takeNumber_Y) (fun r5 h4 => ?_)
      obtain ⟨t15, s16⟩ := r5
      dsimp only at h4 ⊢
      have a6 := h2.trans h4
      refine t_bind (wX0_setHours_T rfl (B := bY) (fun _ => rfl)) (fun s19 h7 => ?_)
      have a8 := a6.trans h7
      refine t_bind (t_pfZ (B := bY) (by decide) rfl) (fun s21 h9 => ?_)
      have a10 := a8.trans h9.1
      exact t_some a10
    · refine t_bind (wX9_takeNumber_Y) (fun r12 h11 => ?_)
      obtain ⟨t22, s23⟩ := r12
      dsimp only at h11 ⊢
      have a13 := h2.trans h11
      refine t_ite (fun c14 => ?_) (fun c14 => ?_)
      · exact t_mono (wX1_readClause_j121_Y) (fun r h => (a13.trans h))
      · exact t_mono (wX1_readClause_j121_Y) (fun r h => (a13.trans h))
  · refine t_bind (wX9_fail_Y) (fun s33 h15 => ?_)
    exact t_some h15
theorem wX1_readClause_Y {s : wS}  : Tot (wX1_readClause 9 s) (fun (r : wS) => wA bY s r) := by
  unfold wX1_readClause
  refine t_bind (wX9_sign_T) (fun t1 h1 => ?_)
  refine t_bind (wX1_kindOf_T) (fun t3 h2 => ?_)
  refine t_ite (fun c3 => ?_) (fun c3 => ?_)
  · refine t_bind (wX9_fail_Y) (fun s7 h4 => ?_)
    exact t_some h4
  · refine t_ite (fun c5 => ?_) (fun c5 => ?_)
    · exact t_mono (wX1_readClause_j51_Y) (fun r h => h)
    · refine t_bind (wX0_manyOf_T rfl) (fun t35 h6 => ?_)
      refine t_ite (fun c7 => ?_) (fun c7 => ?_)
      · exact t_mono (wX1_readClause_j51_Y) (fun r h => h)
      · exact t_mono (wX1_readClause_j51_Y) (fun r h => h)
theorem wX9_take_Y {x1 : Int32} {s : wS} : Tot (wX9_take x1 s) (fun (r : Int32 × wS) => wA bY s r.2 ∧ ((r.1 = 1 ∧ sv s = x1) ∨ r = (0, s))) := by
  unfold wX9_take
  refine t_bind (wX10_at_T rfl) (fun t1 h => ?_)
  refine t_ite (fun c => ?_) (fun c => t_some ⟨wA.refl, Or.inr rfl⟩)
  refine t_bind wX9_skip_Y (fun s5 h5 => t_some ⟨h5, Or.inl ⟨rfl, ?_⟩⟩)
  rw [← c, h]
  rfl
theorem wX1_read_h14_Y    : ∀ (n : Nat) {x3 : Int32} {x4 : Int32} {s : wS}, 2147483648 - x4.toInt < (n : Int) → Tot (wX1_read_h14 9 n x3 x4 s) (fun (r : wS) => wA bY s r) := by
  intro n
  induction n with
  | zero =>
    intro x3 x4 s hm
    exact (t_m0 hm).elim
  | succ n ih =>
    intro x3 x4 s hm
    rw [wX1_read_h14]
    refine t_ite (fun c1 => ?_) (fun c1 => ?_)
    · refine t_ite (fun c2 => ?_) (fun c2 => ?_)
      · exact t_some wA.refl
      · refine t_bind (wX1_readClause_Y) (fun s8 h3 => ?_)
        refine t_bind (wX9_take_Y) (fun r5 h4 => ?_)
        obtain ⟨t10, s11⟩ := r5
        dsimp only at h4 ⊢
        have a6 := h3.trans h4.1
        exact t_mono (ih (t_m1 c1 hm)) (fun r h => (a6.trans h))
    · exact t_some wA.refl
theorem wX1_read_j58_Y {s : wS}  : Tot (wX1_read_j58 s) (fun (r : wS) => wA bY s r) := by
  unfold wX1_read_j58
  refine t_bind (wX9_fail_Y) (fun s24 h1 => ?_)
  exact t_some h1
theorem wX1_read_j44_Y {s : wS}  : Tot (wX1_read_j44 9 s) (fun (r : wS) => wA bY s r) := by
  unfold wX1_read_j44
  refine t_bind (wX9_sign_T) (fun t17 h1 => ?_)
  refine t_ite (fun c2 => ?_) (fun c2 => ?_)
  · refine t_bind (wX0_isTold_T rfl) (fun t20 h3 => ?_)
    refine t_ite (fun c4 => ?_) (fun c4 => ?_)
    · exact t_mono (wX1_read_j58_Y) (fun r h => h)
    · exact t_some wA.refl
  · exact t_mono (wX1_read_j58_Y) (fun r h => h)
theorem wX1_read_Y {s : wS}  : Tot (wX1_read 9 s) (fun (r : wS) => wA bY s r) := by
  unfold wX1_read
  refine t_bind (wX0_clear_T rfl (B := bY) (fun _ => rfl)) (fun s2 h1 => ?_)
  refine t_bind (t_pfZ (B := bY) (by decide) rfl) (fun s4 h2 => ?_)
  have a3 := h1.trans h2.1
  refine t_bind (wX1_read_h14_Y  _   t_mi) (fun s14 h4 => ?_)
  have a5 := a3.trans h4
  exact t_mono (wX1_read_j44_Y) (fun r h => (a5.trans h))
theorem wX5_add_Yp {x1 : Int32} {x2 : Int32} {x3 : Int32} {s : wS}  : Tot (wX5_add x1 x2 x3 s) (fun (r : wS) => wA bYp s r) := by
  unfold wX5_add
  refine t_bind (wX10_isOutside_T) (fun t1 h1 => ?_)
  refine t_ite (fun c2 => ?_) (fun c2 => ?_)
  · refine t_bind (t_stI (B := bYp) (n := 84) (by (try simp only [Int32.lt_iff_toInt_lt, Int32.le_iff_toInt_le, ← Int32.toInt_inj, Int32.reduceToInt] at *) <;> omega) (by (try simp only [Int32.lt_iff_toInt_lt, Int32.le_iff_toInt_le, ← Int32.toInt_inj, Int32.reduceToInt] at *) <;> omega) (fun _ => rfl)) (fun s4 h3 => ?_)
    have f4 : s4.1 28 3 = s.1 28 3 := by rw [h3.2, wupI_n (by omega)]
    refine t_bind (t_stI (B := bYp) (n := 84) (by (try simp only [Int32.lt_iff_toInt_lt, Int32.le_iff_toInt_le, ← Int32.toInt_inj, Int32.reduceToInt] at *) <;> omega) (by (try simp only [Int32.lt_iff_toInt_lt, Int32.le_iff_toInt_le, ← Int32.toInt_inj, Int32.reduceToInt] at *) <;> omega) (fun _ => rfl)) (fun s5 h5 => ?_)
    have a6 := h3.1.trans h5.1
    have f7 : s5.1 28 3 = s4.1 28 3 := by rw [h5.2, wupI_n (by omega)]
    refine t_bind (t_stI (B := bYp) (n := 84) (by (try simp only [Int32.lt_iff_toInt_lt, Int32.le_iff_toInt_le, ← Int32.toInt_inj, Int32.reduceToInt] at *) <;> omega) (by (try simp only [Int32.lt_iff_toInt_lt, Int32.le_iff_toInt_le, ← Int32.toInt_inj, Int32.reduceToInt] at *) <;> omega) (fun _ => rfl)) (fun s6 h8 => ?_)
    have a9 := a6.trans h8.1
    have f10 : s6.1 28 3 = s5.1 28 3 := by rw [h8.2, wupI_n (by omega)]
    refine t_bind (t_pfI (B := bYp) rfl) (fun s7 h11 => ?_)
    have a12 := a9.trans h11.1
    exact t_some a12
  · exact t_some wA.refl
theorem wX5_fill_h28_Yp {k1 : Nat} {x2 : Int32} {x3 : Int32} (hk1 : wkd k1 = 0)  : ∀ (n : Nat) {x4 : Int32} {s : wS}, 2147483648 - x4.toInt < (n : Int) → Tot (wX5_fill_h28 k1 x2 x3 n x4 s) (fun (r : wS) => wA bYp s r) := by
  intro n
  induction n with
  | zero =>
    intro x4 s hm
    exact (t_m0 hm).elim
  | succ n ih =>
    intro x4 s hm
    rw [wX5_fill_h28]
    refine t_bind (wX0_manyOf_T hk1) (fun t6 h1 => ?_)
    refine t_ite (fun c2 => ?_) (fun c2 => ?_)
    · refine t_bind (wX5_add_Yp) (fun s10 h3 => ?_)
      exact t_mono (ih (t_m1 c2 hm)) (fun r h => (h3.trans h))
    · exact t_some wA.refl
theorem wX5_fill_h14_Yp {k1 : Nat} {x2 : Int32} (hk1 : wkd k1 = 0)  : ∀ (n : Nat) {x3 : Int32} {s : wS}, 2147483648 - x3.toInt < (n : Int) → Tot (wX5_fill_h14 k1 x2 n x3 s) (fun (r : wS) => wA bYp s r) := by
  intro n
  induction n with
  | zero =>
    intro x3 s hm
    exact (t_m0 hm).elim
  | succ n ih =>
    intro x3 s hm
    rw [wX5_fill_h14]
    refine t_bind (wX0_manyOf_T hk1) (fun t3 h1 => ?_)
    refine t_ite (fun c2 => ?_) (fun c2 => ?_)
    · refine t_bind (wX5_fill_h28_Yp hk1 _   t_mi) (fun s13 h3 => ?_)
      exact t_mono (ih (t_m1 c2 hm)) (fun r h => (h3.trans h))
    · exact t_some wA.refl
theorem wX5_fill_h7_Yp {k1 : Nat} (hk1 : wkd k1 = 0)  : ∀ (n : Nat) {x2 : Int32} {s : wS}, 2147483648 - x2.toInt < (n : Int) → Tot (wX5_fill_h7 k1 n x2 s) (fun (r : wS) => wA bYp s r) := by
  intro n
  induction n with
  | zero =>
    intro x2 s hm
    exact (t_m0 hm).elim
  | succ n ih =>
    intro x2 s hm
    rw [wX5_fill_h7]
    refine t_ite (fun c1 => ?_) (fun c1 => ?_)
    · refine t_bind (wX5_fill_h14_Yp hk1 _   t_mi) (fun s16 h2 => ?_)
      exact t_mono (ih (t_m1 c1 hm)) (fun r h => (h2.trans h))
    · exact t_some wA.refl
theorem wX5_fill_Yp {k1 : Nat} {s : wS} (hk1 : wkd k1 = 0) : Tot (wX5_fill k1 s) (fun (r : wS) => wA bYp s r) := by
  unfold wX5_fill
  refine t_bind (t_pfI (B := bYp) rfl) (fun s1 h1 => ?_)
  refine t_bind (wX5_fill_h7_Yp hk1 _   t_mi) (fun s20 h2 => ?_)
  have a3 := h1.1.trans h2
  exact t_some a3
theorem wX10_courtIsAnother_h16_Yp    : ∀ (n : Nat) {x1 : Int32} {s : wS}, 0 ≤ x1.toInt → 2147483648 - x1.toInt < (n : Int) → Tot (wX10_courtIsAnother_h16  n x1 s) (fun (r : wS) => wA bYp s r) := by
  intro n
  induction n with
  | zero =>
    intro x1 s hi hm
    exact (t_m0 hm).elim
  | succ n ih =>
    intro x1 s hi hm
    rw [wX10_courtIsAnother_h16]
    refine t_ite (fun c1 => ?_) (fun c1 => ?_)
    · refine t_bind (t_ldR3 (by (try simp only [Int32.lt_iff_toInt_lt, Int32.le_iff_toInt_le, ← Int32.toInt_inj, Int32.reduceToInt] at *) <;> omega) (by (try simp only [Int32.lt_iff_toInt_lt, Int32.le_iff_toInt_le, ← Int32.toInt_inj, Int32.reduceToInt] at *) <;> omega)) (fun k5 h2 => ?_)
      refine t_bind (t_ldR3 (by (try simp only [Int32.lt_iff_toInt_lt, Int32.le_iff_toInt_le, ← Int32.toInt_inj, Int32.reduceToInt] at *) <;> omega) (by (try simp only [Int32.lt_iff_toInt_lt, Int32.le_iff_toInt_le, ← Int32.toInt_inj, Int32.reduceToInt] at *) <;> omega)) (fun k6 h3 => ?_)
      refine t_bind (t_pfZ (B := bYp) (by decide) (bYp_12 h3.1)) (fun s7 h4 => ?_)
      unfold wX10_courtIsAnother_j44
      exact t_mono (ih (t_n1 c1 hi) (t_m1 c1 hm)) (fun r h => (h4.1.trans h))
    · exact t_some wA.refl
theorem wX10_courtIsAnother_Yp {s : wS}  : Tot (wX10_courtIsAnother s) (fun (r : wS) => wA bYp s r) := by
  unfold wX10_courtIsAnother
  refine t_bind (wX5_fill_Yp rfl) (fun s2 h1 => ?_)
  refine t_bind (wX10_courtIsAnother_h16_Yp  _  (by decide) t_mi) (fun s9 h2 => ?_)
  have a3 := h1.trans h2
  exact t_some a3
end
