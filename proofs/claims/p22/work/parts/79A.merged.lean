section
/-! Bits; a WORLD's things; an ANSWER is TRUE: the class. -/
/-- bit k -/
noncomputable def bit (x : Int32) (k : Nat) : Bool := x.toBitVec.getLsbD k
theorem sh_31 {k : Nat} (h : k < 32) : (Int32.ofNat k &&& 31).toBitVec.smod 32 = BitVec.ofNat 32 k := by
  have : ∀ k, k < 32 → (Int32.ofNat k &&& 31).toBitVec.smod 32 = BitVec.ofNat 32 k := by decide +kernel
  exact this k h
theorem bt_or {x y : Int32} {k : Nat} : bit (x ||| y) k = (bit x k || bit y k) := by
  unfold bit
  rw [Int32.toBitVec_or, BitVec.getLsbD_or]
theorem bt_1 {j k : Nat} (hj : j < 32) (hk : k < 32) : bit (1 <<< (Int32.ofNat j &&& 31)) k = decide (k = j) := by
  have : ∀ j, j < 32 → ∀ k, k < 32 → bit (1 <<< (Int32.ofNat j &&& 31)) k = decide (k = j) := by decide +kernel
  exact this j hj k hk
theorem bt_shr {x : Int32} {k : Nat} (h : k < 32) : (x >>> (Int32.ofNat k &&& 31)).toBitVec = x.toBitVec.sshiftRight k := by
  rw [Int32.toBitVec_shiftRight, sh_31 h]
  show x.toBitVec.sshiftRight (BitVec.ofNat 32 k).toNat = _
  rw [BitVec.toNat_ofNat, Nat.mod_eq_of_lt (by omega)]
theorem bt_and1 {x : Int32} {k : Nat} (h : k < 32) : ((x >>> (Int32.ofNat k &&& 31)) &&& 1) = if bit x k = true then 1 else 0 := by
  apply Int32.toBitVec_inj.1
  rw [Int32.toBitVec_and, bt_shr h]
  show x.toBitVec.sshiftRight k &&& 1#32 = _
  rw [BitVec.and_one_eq_setWidth_ofBool_getLsbD]
  have e : (x.toBitVec.sshiftRight k).getLsbD 0 = bit x k := by
    unfold bit
    rw [BitVec.getLsbD_sshiftRight]
    simp [h]
  rw [e]
  cases bit x k
  · rfl
  · rfl
theorem bt_t {x : Int32} {k : Nat} (h : k < 32) : ((x >>> (Int32.ofNat k &&& 31)) &&& 1) = 1 ↔ bit x k = true := by
  rw [bt_and1 h]
  cases bit x k
  · exact iff_of_false (by decide) (by decide)
  · exact iff_of_true (by decide) rfl
theorem bt_z {x : Int32} {k : Nat} (h : k < 32) : ((x >>> (Int32.ofNat k &&& 31)) &&& 1) = 0 ↔ bit x k = false := by
  rw [bt_and1 h]
  cases bit x k
  · exact iff_of_true (by decide) rfl
  · exact iff_of_false (by decide) (by decide)
theorem bt_0 {k : Nat} : bit 0 k = false := by
  unfold bit
  exact BitVec.getLsbD_zero
theorem nb2_bt {F : Nat → Nat → Int64} {p q : Nat} : ∀ {n : Nat}, n ≤ 8 → ∀ c, c < 32 → bit (nb2 F p q n) c = (decide (c < n) && !decide (F q c < F p c)) := by
  intro n
  induction n with
  | zero =>
    intro _ c _
    show bit 0 c = _
    rw [bt_0]
    rfl
  | succ n ih =>
    intro h c hc
    show bit (if F q n < F p n then nb2 F p q n else (nb2 F p q n ||| (1 <<< (Int32.ofNat n &&& 31)))) c = _
    by_cases k : F q n < F p n
    · rw [if_pos k, ih (by omega) c hc]
      by_cases e : c = n
      · rw [e, decide_eq_true k, Bool.not_true, Bool.and_false, Bool.and_false]
      · rw [decide_eq_decide.2 (show c < n ↔ c < n + 1 by omega)]
    · rw [if_neg k, bt_or, ih (by omega) c hc, bt_1 (by omega) hc]
      by_cases e : c = n
      · rw [e, decide_eq_true (rfl : n = n), Bool.or_true, decide_eq_true (show n < n + 1 by omega), decide_eq_false k]
        rfl
      · rw [decide_eq_false e, Bool.or_false, decide_eq_decide.2 (show c < n ↔ c < n + 1 by omega)]
/-- how many things of a KIND -/
noncomputable def nk (f : Nat → Int32) (kd : Nat) : Nat := (f kd).toNatClampNeg
/-- a COURT is told -/
noncomputable def CFt (f : Nat → Int32) : Prop := ∀ kd, kd < 3 → f kd = Int32.ofNat (nk f kd) ∧ 1 ≤ nk f kd ∧ nk f kd ≤ 8
/-- a WORLD's thing -/
noncomputable def thn (f : Nat → Int32) (kd w : Nat) : Nat := if kd = 2 then w % nk f 2 else if kd = 1 then w / nk f 2 % nk f 1 else w / nk f 2 / nk f 1
/-- how many WORLDS -/
noncomputable def nW (f : Nat → Int32) : Nat := nk f 0 * nk f 1 * nk f 2
theorem CFt.n {f : Nat → Int32} (h : CFt f) {kd : Nat} (k : kd < 3) : (f kd).toInt = nk f kd := by
  rw [(h kd k).1, t_on (by have := (h kd k).2.2; omega)]
theorem CFt.w {f : Nat → Int32} (h : CFt f) : nW f ≤ 512 ∧ 1 ≤ nW f := by
  have h0 := (h 0 (by decide)).2
  have h1 := (h 1 (by decide)).2
  have h2 := (h 2 (by decide)).2
  unfold nW
  have a : nk f 0 * nk f 1 ≤ 8 * 8 := Nat.mul_le_mul h0.2 h1.2
  have b : nk f 0 * nk f 1 * nk f 2 ≤ 8 * 8 * 8 := Nat.mul_le_mul a h2.2
  have c : 1 * 1 ≤ nk f 0 * nk f 1 := Nat.mul_le_mul h0.1 h1.1
  have d : 1 * 1 * 1 ≤ nk f 0 * nk f 1 * nk f 2 := Nat.mul_le_mul c h2.1
  omega
theorem thn_lt {f : Nat → Int32} (h : CFt f) {kd w : Nat} (k : kd < 3) (hw : w < nW f) : thn f kd w < nk f kd := by
  have h1 := (h 1 (by decide)).2
  have h2 := (h 2 (by decide)).2
  unfold thn
  obtain rfl | rfl | rfl : kd = 0 ∨ kd = 1 ∨ kd = 2 := by omega
  · rw [if_neg (by decide), if_neg (by decide)]
    refine Nat.div_lt_of_lt_mul (Nat.div_lt_of_lt_mul ?_)
    unfold nW at hw
    rw [Nat.mul_comm (nk f 1), Nat.mul_comm (nk f 2)]
    exact hw
  · rw [if_neg (by decide), if_pos rfl]
    exact Nat.mod_lt _ (by omega)
  · rw [if_pos rfl]
    exact Nat.mod_lt _ (by omega)
theorem dv_E {a b : Nat} (ha : a ≤ 1000) (hb : 1 ≤ b) (hb2 : b ≤ 1000) : wdvI (Int32.ofNat a) (Int32.ofNat b) = some (Int32.ofNat (a / b)) := by
  have ea : (Int32.ofNat a).toInt = a := t_on (by omega)
  have eb : (Int32.ofNat b).toInt = b := t_on (by omega)
  have hd : a / b ≤ a := Nat.div_le_self _ _
  unfold wdvI
  rw [if_neg (fun e => by have := congrArg Int32.toInt e; rw [eb, t_i0] at this; omega)]
  refine congrArg some (Int32.toInt_inj.1 ?_)
  rw [t_div (by omega) (by omega), ea, eb, t_on (by omega)]
  rfl
theorem rm_E {a b : Nat} (ha : a ≤ 1000) (hb : 1 ≤ b) (hb2 : b ≤ 1000) : wrmI (Int32.ofNat a) (Int32.ofNat b) = some (Int32.ofNat (a % b)) := by
  have ea : (Int32.ofNat a).toInt = a := t_on (by omega)
  have eb : (Int32.ofNat b).toInt = b := t_on (by omega)
  have hd : a % b ≤ a := Nat.mod_le _ _
  unfold wrmI
  rw [if_neg (fun e => by have := congrArg Int32.toInt e; rw [eb, t_i0] at this; omega)]
  refine congrArg some (Int32.toInt_inj.1 ?_)
  rw [t_rem (by omega) (by omega), ea, eb, t_on (by omega)]
  rfl
section NEAR
variable {s : wS} {x : lC} {l : Nat}
theorem JA.cf (g : JA s) (h : 0 < (s.1 163 0).toInt) : CFt (s.1 163) := by
  obtain ⟨c0, c1, c2, c3, -⟩ := g.c
  have c3 := c3 h
  intro kd k
  unfold nk
  obtain rfl | rfl | rfl : kd = 0 ∨ kd = 1 ∨ kd = 2 := by omega
  · have := t_cln c0.1
    exact ⟨(t_oc c0.1).symm, by omega, by omega⟩
  · have := t_cln c1.1
    exact ⟨(t_oc c1.1).symm, by omega, by omega⟩
  · have := t_cln c2.1
    exact ⟨(t_oc c2.1).symm, by omega, by omega⟩
/-- the class's WORLD -/
theorem thingIn_E (g : JA s) (cf : CFt (s.1 163)) {kd w : Nat} (hk : kd < 3) (hw : w < nW (s.1 163)) : wX0_thingIn 15 (Int32.ofNat w) (Int32.ofNat kd) s = some (Int32.ofNat (thn (s.1 163) kd w)) := by
  have w5 := cf.w.1
  have h1 := cf 1 (by decide)
  have h2 := cf 2 (by decide)
  have m1 := many_E g 1 (by decide)
  have m2 := many_E g 2 (by decide)
  have p1 : (0 : Int32) < s.1 163 1 := Int32.lt_iff_toInt_lt.2 (by rw [cf.n (by decide), t_i0]; omega)
  have p2 : (0 : Int32) < s.1 163 2 := Int32.lt_iff_toInt_lt.2 (by rw [cf.n (by decide), t_i0]; omega)
  have d1 : w / nk (s.1 163) 2 ≤ w := Nat.div_le_self _ _
  unfold wX0_thingIn
  rw [wld_E (by decide) (by decide), t_sbe, wld_E (by decide) (by decide), t_sbe, show (2 : Int32).toNatClampNeg = 2 from rfl, show (1 : Int32).toNatClampNeg = 1 from rfl, m1, m2, if_pos p2, if_pos p1]
  rw [h1.1, h2.1]
  unfold thn
  obtain rfl | rfl | rfl : kd = 0 ∨ kd = 1 ∨ kd = 2 := by omega
  · rw [if_pos (show Int32.ofNat 0 = 0 from rfl), dv_E (by omega) (by omega) (by omega), t_sbe, dv_E (by omega) (by omega) (by omega), if_neg (show ¬ 0 = 2 by decide), if_neg (show ¬ 0 = 1 by decide)]
    rfl
  · rw [if_neg (show ¬ Int32.ofNat 1 = 0 by decide), if_pos (show Int32.ofNat 1 = 1 from rfl), dv_E (by omega) (by omega) (by omega), t_sbe, rm_E (by omega) (by omega) (by omega), if_neg (show ¬ 1 = 2 by decide), if_pos (show 1 = 1 from rfl)]
    rfl
  · rw [if_neg (show ¬ Int32.ofNat 2 = 0 by decide), if_neg (show ¬ Int32.ofNat 2 = 1 by decide), rm_E (by omega) (by omega) (by omega), if_pos (show 2 = 2 from rfl)]
    rfl
theorem thingOf_E {f : Nat → Int32} (hf : s.1 163 = f) (cf : CFt f) {kd w : Nat} (hk : kd < 3) (hw : w < nW f) : wX11_thingOf (Int32.ofNat w) (Int32.ofNat kd) s = some (Int32.ofNat (thn f kd w)) := by
  have w5 := cf.w.1
  have h1 := cf 1 (by decide)
  have h2 := cf 2 (by decide)
  have d1 : w / nk f 2 ≤ w := Nat.div_le_self _ _
  unfold wX11_thingOf
  rw [hf, h1.1, h2.1]
  unfold thn
  obtain rfl | rfl | rfl : kd = 0 ∨ kd = 1 ∨ kd = 2 := by omega
  · rw [if_neg (show ¬ Int32.ofNat 0 = 2 by decide), if_neg (show ¬ Int32.ofNat 0 = 1 by decide), dv_E (by omega) (by omega) (by omega), t_sbe, dv_E (by omega) (by omega) (by omega), if_neg (show ¬ 0 = 2 by decide), if_neg (show ¬ 0 = 1 by decide)]
    rfl
  · rw [if_neg (show ¬ Int32.ofNat 1 = 2 by decide), if_pos (show Int32.ofNat 1 = 1 from rfl), dv_E (by omega) (by omega) (by omega), t_sbe, rm_E (by omega) (by omega) (by omega), if_neg (show ¬ 1 = 2 by decide), if_pos (show 1 = 1 from rfl)]
    rfl
  · rw [if_pos (show Int32.ofNat 2 = 2 from rfl), rm_E (by omega) (by omega) (by omega), if_pos (show 2 = 2 from rfl)]
    rfl
/-- of an ANSWER: KIND, one, other -/
noncomputable def akd (f : Nat → Int32) (a : Nat) : Nat := (f (42 + 5 * a + 1)).toNatClampNeg
noncomputable def aone (f : Nat → Int32) (a : Nat) : Nat := (f (42 + 5 * a + 2)).toNatClampNeg
noncomputable def aoth (f : Nat → Int32) (a : Nat) : Nat := (f (42 + 5 * a + 3)).toNatClampNeg
/-- the ANSWERS are of the COURT -/
noncomputable def AF (f : Nat → Int32) : Prop := ∀ a : Nat, (a : Int) < (f 3).toInt → akd f a < 3 ∧ aone f a < nk f (akd f a) ∧ aoth f a < nk f (akd f a) ∧ f (42 + 5 * a + 1) = Int32.ofNat (akd f a) ∧ f (42 + 5 * a + 2) = Int32.ofNat (aone f a) ∧ f (42 + 5 * a + 3) = Int32.ofNat (aoth f a)
theorem JA.af (g : JA s) : AF (s.1 163) := by
  obtain ⟨c0, c1, c2, c3, c4, c5, c6, -⟩ := g.c
  intro a ha
  obtain ⟨q1, q2, q3⟩ := c6 a ha
  rw [show 43 + 5 * a = 42 + 5 * a + 1 by omega] at q1 q2 q3
  rw [show 44 + 5 * a = 42 + 5 * a + 2 by omega] at q2
  rw [show 45 + 5 * a = 42 + 5 * a + 3 by omega] at q3
  unfold akd aone aoth nk
  have e1 := t_cln q1.1
  have e2 := t_cln q2.1
  have e3 := t_cln q3.1
  have e4 := t_cln (show 0 ≤ (s.1 163 (s.1 163 (42 + 5 * a + 1)).toNatClampNeg).toInt by omega)
  exact ⟨by omega, by omega, by omega, (t_oc q1.1).symm, (t_oc q2.1).symm, (t_oc q3.1).symm⟩
/-- an ANSWER is TRUE in a WORLD -/
noncomputable def trw (x : lC) (f : Nat → Int32) (a w : Nat) : Bool := !decide (FVx x f (Int32.ofNat (akd f a)) (aoth f a) (thn f (akd f a) w) < FVx x f (Int32.ofNat (akd f a)) (aone f a) (thn f (akd f a) w))
theorem FVx_c {x : lC} {f : Nat → Int32} {kd : Int32} {a b : Nat} : FVx x f kd a b = FVx x f kd a b := rfl
/-- the near bits of a pair -/
theorem nearOf_E (hl : l < 6) (t : TBL l x s) (cf : CFt (s.1 163)) {kd p q : Nat} (hk : kd < 3) (hp : p < nk (s.1 163) kd) (hq : q < nk (s.1 163) kd) : wX3_nearOf (44 + 10 * l) (Int32.ofNat kd) (Int32.ofNat p) (Int32.ofNat q) s = some (nb2 (FVx x (s.1 163) (Int32.ofNat kd)) p q (nk (s.1 163) kd)) := by
  obtain ⟨e0, n1, n8⟩ := cf kd hk
  have ek : (Int32.ofNat kd).toNatClampNeg = kd := t_nc (by omega)
  have eki : (Int32.ofNat kd).toInt = kd := t_on (by omega)
  have t2 := (t kd hk (nk (s.1 163) kd) (by rw [ek]; exact e0) n8 p q hp hq).2
  obtain ⟨c, ct, c1, c2⟩ := cell_E (s := s) (kd := Int32.ofNat kd) (by omega) (rfl : Int32.ofNat p = Int32.ofNat p) (by omega) (rfl : Int32.ofNat q = Int32.ofNat q) (by omega)
  unfold wX3_nearOf
  rw [ct, t_sbe, at_E (n := 192) (wln_9 hl) (by decide) (by omega) (by omega), t_sbe, c2]
  exact congrArg some t2
theorem nearThings_E (g : JA s) (hl : l < 6) (t : TBL l x s) (cf : CFt (s.1 163)) {a : Nat} (ha : (a : Int) < (s.1 163 3).toInt) : wX10_nearThings (44 + 10 * l) (Int32.ofNat a) s = some (nb2 (FVx x (s.1 163) (Int32.ofNat (akd (s.1 163) a))) (aone (s.1 163) a) (aoth (s.1 163) a) (nk (s.1 163) (akd (s.1 163) a))) := by
  have c3 := g.c.2.2.2.2.1
  obtain ⟨h1, h2, h3, h4, h5, h6⟩ := g.af a ha
  obtain ⟨-, e20, e21, e22, -⟩ := ans_E g ha (t_on (n := a) (by omega))
  unfold wX10_nearThings
  rw [e20, t_sbe, e21, t_sbe, e22, t_sbe, h4, h5, h6, nearOf_E hl t cf h1 h2 h3]
  rfl
theorem isTrue10_E (g : JA s) (hl : l < 6) (t : TBL l x s) (cf : CFt (s.1 163)) {a w : Nat} (ha : (a : Int) < (s.1 163 3).toInt) (hw : w < nW (s.1 163)) : wX10_isTrue (44 + 10 * l) (Int32.ofNat a) (Int32.ofNat w) s = some (if trw x (s.1 163) a w = true then 1 else 0) := by
  have c3 := g.c.2.2.2.2.1
  obtain ⟨h1, h2, h3, h4, h5, h6⟩ := g.af a ha
  obtain ⟨-, e20, -⟩ := ans_E g ha (t_on (n := a) (by omega))
  have n8 := (cf _ h1).2.2
  have tl := thn_lt cf h1 hw
  unfold wX10_isTrue
  rw [e20, t_sbe, h4, thingIn_E g cf h1 hw, t_sbe, nearThings_E g hl t cf ha, t_sbe]
  have b := nb2_bt (F := FVx x (s.1 163) (Int32.ofNat (akd (s.1 163) a))) (p := aone (s.1 163) a) (q := aoth (s.1 163) a) n8 (thn (s.1 163) (akd (s.1 163) a) w) (by omega)
  rw [decide_eq_true tl, Bool.true_and] at b
  by_cases k : trw x (s.1 163) a w = true
  · rw [if_pos k, if_pos ((bt_t (by omega)).2 (b.trans k))]
  · rw [if_neg k, if_neg (fun q => k (b.symm.trans ((bt_t (by omega)).1 q)))]
end NEAR
end
section
/-! The reference reaches; an ANSWER is TRUE: the reference; holds. -/
/-- a loop to N -/
theorem loop_T {σ β : Type} {L : Nat → σ → Option β} {I : Nat → σ → Prop} {N : Nat} {Q : β → Prop} (step : ∀ n i x, i < N → I i x → (∃ x', L (n + 1) x = L n x' ∧ I (i + 1) x') ∨ Tot (L (n + 1) x) Q) (stop : ∀ n x, I N x → Tot (L (n + 1) x) Q) : ∀ n i x, i ≤ N → I i x → N - i < n → Tot (L n x) Q := by
  intro n
  induction n with
  | zero => intro i x _ _ h; omega
  | succ n ih =>
    intro i x hi h hm
    by_cases c : i = N
    · subst c
      exact stop n x h
    · rcases step n i x (by omega) h with ⟨x', e, h'⟩ | t
      · rw [e]
        exact ih (i + 1) x' (by omega) h' (by omega)
      · exact t
theorem wF_b {N : Nat} (h : N ≤ 1000000) : N - 0 < wFuel := by
  have e : wFuel = 1099511627776 := rfl
  omega
theorem ix64 {kd a b : Nat} (hk : kd < 3) (ha : a < 8) (hb : b < 8) : ((64 * Int32.ofNat kd) + (8 * Int32.ofNat a)) + Int32.ofNat b = Int32.ofNat (64 * kd + 8 * a + b) := by
  have : ∀ kd, kd < 3 → ∀ a, a < 8 → ∀ b, b < 8 → ((64 * Int32.ofNat kd) + (8 * Int32.ofNat a)) + Int32.ofNat b = Int32.ofNat (64 * kd + 8 * a + b) := by decide +kernel
  exact this kd hk a ha b hb
theorem stL_E {k n : Nat} {i : Int32} {v : Int64} {s : wS} (h0 : 0 ≤ i.toInt) (h1 : i.toInt < n) : wstL s k n i v = some (wupL s k i.toNatClampNeg v) := by
  unfold wstL
  rw [if_neg (t_ix h0 h1)]
theorem upL_at {s : wS} {k b c : Nat} {v : Int64} : (wupL s k b v).2 k c = if c = b then v else s.2 k c := by
  rw [wupL_k]
  rfl
theorem ilt {a b : Nat} (ha : a ≤ 1000) (hb : b ≤ 1000) : Int32.ofNat a < Int32.ofNat b ↔ a < b := by
  rw [Int32.lt_iff_toInt_lt, t_on (by omega), t_on (by omega)]
  omega
section REACH
variable {s : wS} {x : lC} {l : Nat}
/-- a question may be asked -/
noncomputable def QS (l : Nat) (x : lC) (s : wS) : Prop := JA s ∧ l < 6 ∧ (l : Int) < (s.1 152 2).toInt ∧ LK2 l x s ∧ TBL l x s ∧ CFt (s.1 163)
theorem QS_w {s' : wS} (a : wA bJ s s') (hL : ∀ k, 44 ≤ k → k ≤ 103 → s'.2 k = s.2 k) (q : QS l x s) : QS l x s' := by
  obtain ⟨g, l6, hl, lk, t, cf⟩ := q
  have z163 : s'.1 163 = s.1 163 := funext fun b => a 163 b rfl
  have zm : ∀ k, 44 ≤ k → k ≤ 103 → s'.1 k = s.1 k := fun k h1 h2 => funext fun b => a k b (bJ_mid h1 h2)
  refine ⟨JA_Q (a.mono bJ_le) g, l6, by rw [a 152 2 rfl]; exact hl, LK2_go lk (fun j hj b _ _ => by rw [zm _ (by omega) (by omega)]) (fun j h1 h2 => zm _ (by omega) (by omega)) (fun k h1 h2 => funext fun b => a k b ?_), TBL_go t (fun i _ => by rw [z163]) (hL _ (by omega) (by omega)) (zm _ (by omega) (by omega)), by rw [z163]; exact cf⟩
  obtain rfl | rfl | rfl | rfl : k = 154 ∨ k = 155 ∨ k = 156 ∨ k = 157 := by omega
  all_goals rfl
/-- what the reference's reaching leaves -/
noncomputable def RF (s0 r : wS) : Prop := (∀ k c, ¬ (k = 152 ∧ c = 22) → r.1 k c = s0.1 k c) ∧ (∀ k, 44 ≤ k → k ≤ 103 → r.2 k = s0.2 k)
theorem RF.refl : RF s s := ⟨fun _ _ _ => rfl, fun _ _ _ => rfl⟩
theorem RF.trans {r t : wS} (a : RF s r) (b : RF r t) : RF s t := ⟨fun k c h => (b.1 k c h).trans (a.1 k c h), fun k h1 h2 => (b.2 k h1 h2).trans (a.2 k h1 h2)⟩
theorem RF.w {r : wS} (a : RF s r) : wA bJ s r := fun k b h => a.1 k b (fun q => by
  rw [q.1, q.2] at h
  exact absurd h (by decide))
theorem RF.qs {r : wS} (a : RF s r) (q : QS l x s) : QS l x r := QS_w a.w a.2 q
theorem RF.f {r : wS} (a : RF s r) : r.1 163 = s.1 163 := funext fun b => a.1 163 b (by omega)
/-- the rows reached so far -/
noncomputable def FRt (x : lC) (f : Nat → Int32) (r : wS) (T : Nat) : Prop := ∀ kd a b, kd < 3 → a < nk f kd → b < nk f kd → 64 * kd + 8 * a + b < T → r.2 164 (64 * kd + 8 * a + b) = FVx x f (Int32.ofNat kd) a b
noncomputable abbrev FR (x : lC) (f : Nat → Int32) (r : wS) : Prop := FRt x f r 192
theorem fkd {r : wS} (q : QS l x s) (a : RF s r) {kd : Nat} (hk : kd < 3) : wldI r 163 262 (Int32.ofNat kd) = some (Int32.ofNat (nk (s.1 163) kd)) := by
  have ek : (Int32.ofNat kd).toInt = kd := t_on (by omega)
  rw [wld_E (by omega) (by omega), t_nc (by omega), a.f]
  exact congrArg some (q.2.2.2.2.2 kd hk).1
theorem reach_h22 (q : QS l x s) {kd a : Nat} (hk : kd < 3) (ha : a < nk (s.1 163) kd) {r0 : wS} (h0 : RF s r0) (d0 : FRt x (s.1 163) r0 (64 * kd + 8 * a)) : Tot (wX11_reaches_h22 (Int32.ofNat l) (Int32.ofNat kd) (Int32.ofNat a) wFuel 0 r0) (fun r => RF s r ∧ FRt x (s.1 163) r (64 * kd + 8 * (a + 1))) := by
  have cf := q.2.2.2.2.2
  have n8 := (cf kd hk).2.2
  refine loop_T (L := fun n (p : Int32 × wS) => wX11_reaches_h22 (Int32.ofNat l) (Int32.ofNat kd) (Int32.ofNat a) n p.1 p.2) (N := nk (s.1 163) kd) (I := fun b p => p.1 = Int32.ofNat b ∧ RF s p.2 ∧ FRt x (s.1 163) p.2 (64 * kd + 8 * a + b)) (fun n b p hb hI => Or.inl ?_) (fun n p hI => ?_) wFuel 0 (0, r0) (Nat.zero_le _) ⟨rfl, h0, d0⟩ (wF_b (by omega))
  · obtain ⟨i, r⟩ := p
    obtain ⟨e, rf, d⟩ := hI
    dsimp only at e rf d ⊢
    subst e
    have qr := rf.qs q
    have hf := rf.f
    have tha : TH (r.1 163) (Int32.ofNat kd) (Int32.ofNat a) := ⟨by rw [t_on (by omega)]; omega, by rw [t_on (by omega)]; omega, by rw [t_on (by omega), t_nc (by omega), hf, cf.n hk]; omega⟩
    have thb : TH (r.1 163) (Int32.ofNat kd) (Int32.ofNat b) := ⟨by rw [t_on (by omega)]; omega, by rw [t_on (by omega)]; omega, by rw [t_on (by omega), t_nc (by omega), hf, cf.n hk]; omega⟩
    obtain ⟨⟨v, s7⟩, ev, hv, p1, p2⟩ := farR_E qr.1 qr.2.2.1 qr.2.2.2.1 rfl tha thb
    dsimp only at hv p1 p2
    rw [wX11_reaches_h22, fkd q rf hk, t_sbe, if_pos ((ilt (by omega) (by omega)).2 hb), ev, t_sbe]
    dsimp only
    rw [ix64 hk (by omega) (by omega), stL_E (by rw [t_on (by omega)]; omega) (by rw [t_on (by omega)]; omega), t_sbe, t_nc (by omega), i_on1 (by omega)]
    refine ⟨(Int32.ofNat (b + 1), wupL s7 164 (64 * kd + 8 * a + b) v), rfl, rfl, rf.trans ⟨p1, fun k h1 h2 => ?_⟩, fun kd' a' b' hk' ha' hb' hT => ?_⟩
    · rw [wupL_n (by omega)]
      exact p2 k (by omega) (by omega)
    · have n8' := (cf kd' hk').2.2
      rw [upL_at]
      by_cases c : 64 * kd' + 8 * a' + b' = 64 * kd + 8 * a + b
      · obtain rfl : kd' = kd := by omega
        obtain rfl : a' = a := by omega
        obtain rfl : b' = b := by omega
        rw [if_pos rfl, hv, hf, t_nc (by omega), t_nc (by omega)]
      · rw [if_neg c, p2 164 (by omega) (by omega)]
        exact d kd' a' b' hk' ha' hb' (by omega)
  · obtain ⟨i, r⟩ := p
    obtain ⟨e, rf, d⟩ := hI
    dsimp only at e rf d ⊢
    subst e
    rw [wX11_reaches_h22, fkd q rf hk, t_sbe, if_neg (fun c => by have := (ilt (by omega) (by omega)).1 c; omega)]
    refine t_some ⟨rf, fun kd' a' b' hk' ha' hb' hT => ?_⟩
    have n8' := (cf kd' hk').2.2
    refine d kd' a' b' hk' ha' hb' ?_
    by_cases c : kd' = kd ∧ a' = a
    · obtain ⟨rfl, rfl⟩ := c
      omega
    · omega
theorem reach_h9 (q : QS l x s) {kd : Nat} (hk : kd < 3) {r0 : wS} (h0 : RF s r0) (d0 : FRt x (s.1 163) r0 (64 * kd)) : Tot (wX11_reaches_h9 (Int32.ofNat l) (Int32.ofNat kd) wFuel 0 r0) (fun r => RF s r ∧ FRt x (s.1 163) r (64 * (kd + 1))) := by
  have cf := q.2.2.2.2.2
  have n8 := (cf kd hk).2.2
  refine loop_T (L := fun n (p : Int32 × wS) => wX11_reaches_h9 (Int32.ofNat l) (Int32.ofNat kd) n p.1 p.2) (N := nk (s.1 163) kd) (I := fun a p => p.1 = Int32.ofNat a ∧ RF s p.2 ∧ FRt x (s.1 163) p.2 (64 * kd + 8 * a)) (fun n a p ha hI => Or.inl ?_) (fun n p hI => ?_) wFuel 0 (0, r0) (Nat.zero_le _) ⟨rfl, h0, d0⟩ (wF_b (by omega))
  · obtain ⟨i, r⟩ := p
    obtain ⟨e, rf, d⟩ := hI
    dsimp only at e rf d ⊢
    subst e
    obtain ⟨s11, ev, rf', d'⟩ := reach_h22 q hk ha rf d
    rw [wX11_reaches_h9, fkd q rf hk, t_sbe, if_pos ((ilt (by omega) (by omega)).2 ha), ev, t_sbe, i_on1 (by omega)]
    exact ⟨(Int32.ofNat (a + 1), s11), rfl, rfl, rf', d'⟩
  · obtain ⟨i, r⟩ := p
    obtain ⟨e, rf, d⟩ := hI
    dsimp only at e rf d ⊢
    subst e
    rw [wX11_reaches_h9, fkd q rf hk, t_sbe, if_neg (fun c => by have := (ilt (by omega) (by omega)).1 c; omega)]
    refine t_some ⟨rf, fun kd' a' b' hk' ha' hb' hT => ?_⟩
    have n8' := (cf kd' hk').2.2
    refine d kd' a' b' hk' ha' hb' ?_
    by_cases c : kd' = kd
    · subst c
      omega
    · omega
theorem reaches_E (q : QS l x s) : Tot (wX11_reaches (Int32.ofNat l) s) (fun r => RF s r ∧ FR x (s.1 163) r) := by
  have cf := q.2.2.2.2.2
  unfold wX11_reaches
  refine t_bind (P := fun r => RF s r ∧ FR x (s.1 163) r) ?_ (fun s18 h => t_some h)
  refine loop_T (L := fun n (p : Int32 × wS) => wX11_reaches_h2 (Int32.ofNat l) n p.1 p.2) (N := 3) (I := fun kd p => p.1 = Int32.ofNat kd ∧ RF s p.2 ∧ FRt x (s.1 163) p.2 (64 * kd)) (fun n kd p hk hI => Or.inl ?_) (fun n p hI => ?_) wFuel 0 (0, s) (Nat.zero_le _) ⟨rfl, RF.refl, fun kd' a' b' _ _ _ h => absurd h (by omega)⟩ (wF_b (by omega))
  · obtain ⟨i, r⟩ := p
    obtain ⟨e, rf, d⟩ := hI
    dsimp only at e rf d ⊢
    subst e
    obtain ⟨s14, ev, rf', d'⟩ := reach_h9 q hk rf d
    rw [wX11_reaches_h2, if_pos (show Int32.ofNat kd < 3 from (ilt (a := kd) (b := 3) (by omega) (by omega)).2 hk), ev, t_sbe, i_on1 (by omega)]
    exact ⟨(Int32.ofNat (kd + 1), s14), rfl, rfl, rf', d'⟩
  · obtain ⟨i, r⟩ := p
    obtain ⟨e, rf, d⟩ := hI
    dsimp only at e rf d ⊢
    subst e
    rw [wX11_reaches_h2, if_neg (by decide)]
    exact t_some ⟨rf, d⟩
/-- the reference's nearer -/
theorem isNearer_E {f : Nat → Int32} {r : wS} (hf : r.1 163 = f) (cf : CFt f) (d : FR x f r) {kd p q w : Nat} (hk : kd < 3) (hp : p < nk f kd) (hq : q < nk f kd) (hw : w < nW f) : wX11_isNearer (Int32.ofNat kd) (Int32.ofNat p) (Int32.ofNat q) (Int32.ofNat w) r = some (if FVx x f (Int32.ofNat kd) q (thn f kd w) < FVx x f (Int32.ofNat kd) p (thn f kd w) then 0 else 1) := by
  have n8 := (cf kd hk).2.2
  have tl := thn_lt cf hk hw
  unfold wX11_isNearer
  rw [thingOf_E hf cf hk hw, t_sbe, ix64 hk (by omega) (by omega), ix64 hk (by omega) (by omega), wldL_E (by rw [t_on (by omega)]; omega) (by rw [t_on (by omega)]; omega), t_sbe, wldL_E (by rw [t_on (by omega)]; omega) (by rw [t_on (by omega)]; omega), t_sbe, t_nc (by omega), t_nc (by omega), d kd p _ hk hp tl (by omega), d kd q _ hk hq tl (by omega)]
  by_cases c : FVx x f (Int32.ofNat kd) q (thn f kd w) < FVx x f (Int32.ofNat kd) p (thn f kd w)
  · rw [if_pos c, if_pos c]
  · rw [if_neg c, if_neg c]
theorem isTrue11_E {f : Nat → Int32} {r : wS} (hf : r.1 163 = f) (cf : CFt f) (af : AF f) (h40 : (f 3).toInt ≤ 40) (d : FR x f r) {a w : Nat} (ha : (a : Int) < (f 3).toInt) (hw : w < nW f) : wX11_isTrue (Int32.ofNat a) (Int32.ofNat w) r = some (if trw x f a w = true then 1 else 0) := by
  obtain ⟨h1, h2, h3, h4, h5, h6⟩ := af a ha
  have ea : (Int32.ofNat a).toInt = a := t_on (by omega)
  unfold wX11_isTrue
  rw [answerOf_E (a := a) (w := 1) (by omega) ea (by decide) rfl, t_sbe, answerOf_E (a := a) (w := 2) (by omega) ea (by decide) rfl, t_sbe, answerOf_E (a := a) (w := 3) (by omega) ea (by decide) rfl, t_sbe, hf, h4, h5, h6, isNearer_E hf cf d h1 h2 h3 hw, t_sbe]
  unfold trw
  by_cases c : FVx x f (Int32.ofNat (akd f a)) (aoth f a) (thn f (akd f a) w) < FVx x f (Int32.ofNat (akd f a)) (aone f a) (thn f (akd f a) w)
  · rw [if_pos c, decide_eq_true c, if_neg (by decide)]
    rfl
  · rw [if_neg c, decide_eq_false c, if_pos (by decide)]
    rfl
theorem canAsk_E {x1 : Int32} : wX11_canAsk x1 s = some (if 0 < (s.1 163 0).toInt ∧ 0 ≤ x1.toInt ∧ x1.toInt < (s.1 152 2).toInt then 1 else 0) := by
  unfold wX11_canAsk
  rw [isCourt_E]
  by_cases c : 0 < (s.1 163 0).toInt
  · rw [if_pos c, t_sbe, qi1, isLaw_E]
    by_cases d : 0 ≤ x1.toInt ∧ x1.toInt < (s.1 152 2).toInt
    · rw [if_pos d, t_sbe, qi1, if_pos ⟨c, d⟩]
    · rw [if_neg d, t_sbe, qi0, if_neg (fun q => d q.2)]
  · rw [if_neg c, t_sbe, qi0, if_neg (fun q => c q.1)]
/-- may it be asked? -/
theorem ask_E (g : JB s) (x1 : Int32) : (wX10_lawInUse x1 s = some (none, s) ∧ wX11_canAsk x1 s = some 0) ∨ (∃ l s2 x, QS l x s2 ∧ x1 = Int32.ofNat l ∧ wX10_lawInUse x1 s = some (some (44 + 10 * l), s2) ∧ s2.1 163 = s.1 163 ∧ ∀ u, QS l x u → wX11_canAsk x1 u = some 1) := by
  rcases lawInUse_E g x1 with ⟨no, e⟩ | ⟨us, l, s2, x, hl6, hx1, hlc, e, m, lk, t, fl⟩
  · left
    refine ⟨e, ?_⟩
    rw [canAsk_E, if_neg (show ¬ (0 < (s.1 163 0).toInt ∧ 0 ≤ x1.toInt ∧ x1.toInt < (s.1 152 2).toInt) from no)]
  · right
    have f := m.f163 hl6
    have c2 : s2.1 152 2 = s.1 152 2 := m.1 152 2 (by omega) (by omega)
    have q : QS l x s2 := ⟨m.ja hl6 g.1, hl6, by rw [c2]; exact hlc, lk, t, by rw [f]; exact g.1.cf us.1⟩
    refine ⟨l, s2, x, q, hx1, e, f, fun u qu => ?_⟩
    have n0 := qu.2.2.2.2.2.n (kd := 0) (by decide)
    have n1 := (qu.2.2.2.2.2 0 (by decide)).2.1
    rw [canAsk_E, if_pos ⟨by omega, by rw [hx1, t_on (by omega)]; omega, by rw [hx1, t_on (by omega)]; exact qu.2.2.1⟩]
theorem nworlds_E (q : QS l x s) : wX0_worlds 15 s = some (Int32.ofNat (nW (s.1 163))) ∧ ∀ u : wS, u.1 163 = s.1 163 → wX11_worlds u = some (Int32.ofNat (nW (s.1 163))) := by
  obtain ⟨w, e1, e2, e3, e4, e5⟩ := wws_E q.1
  have cf := q.2.2.2.2.2
  have w5 := cf.w.1
  have : w = Int32.ofNat (nW (s.1 163)) := Int32.toInt_inj.1 (by
    rw [e3, t_on (by omega), cf.n (kd := 0) (by decide), cf.n (kd := 1) (by decide), cf.n (kd := 2) (by decide)]
    unfold nW
    rw [Int.natCast_mul, Int.natCast_mul])
  rw [this] at e1 e2
  exact ⟨e1, e2⟩
theorem isW_E (q : QS l x s) {u : wS} (hu : u.1 163 = s.1 163) (w : Int32) : (∃ v : Nat, w = Int32.ofNat v ∧ v < nW (s.1 163) ∧ wX10_isOutside w (Int32.ofNat (nW (s.1 163))) s = some 0 ∧ wX11_isWorld w u = some 1) ∨ (wX10_isOutside w (Int32.ofNat (nW (s.1 163))) s = some 1 ∧ wX11_isWorld w u = some 0) := by
  have cf := q.2.2.2.2.2
  have w5 := cf.w.1
  have eN : (Int32.ofNat (nW (s.1 163))).toInt = nW (s.1 163) := t_on (by omega)
  have ew : (Int32.ofNat (nW (s.1 163))).toInt = (s.1 163 0).toInt * (s.1 163 1).toInt * (s.1 163 2).toInt := by
    rw [eN, cf.n (kd := 0) (by decide), cf.n (kd := 1) (by decide), cf.n (kd := 2) (by decide)]
    unfold nW
    rw [Int.natCast_mul, Int.natCast_mul]
  rw [isOutside_E, isWorld_E q.1 ew hu, eN]
  by_cases c : 0 ≤ w.toInt ∧ w.toInt < (nW (s.1 163) : Int)
  · left
    have e := t_cln c.1
    exact ⟨w.toNatClampNeg, (t_oc c.1).symm, by omega, by rw [if_pos c], by rw [if_pos c]⟩
  · right
    exact ⟨by rw [if_neg c], by rw [if_neg c]⟩
theorem op_holds {x1 x2 x3 : Int32} (g : JB s) : ∃ v s1 v2 s2, wX10_holds x1 x2 x3 s = some (v, s1) ∧ wX11_holds x1 x2 x3 s1 = some (v2, s2) ∧ v = v2 := by
  unfold wX10_holds wX11_holds
  rcases ask_E g x1 with ⟨e, c⟩ | ⟨l, s2, x, q, hx1, e, hf, c⟩
  · rw [e, t_sbe]
    refine ⟨-1, s, -1, s, rfl, ?_, rfl⟩
    rw [c, t_sbe, qi0]
  · rw [e, t_sbe]
    show ∃ v s1 v2 s3, ((wX2_hasAnswer 14 x2 s2).bind fun t5 => if t5 = 0 then (some ((-1), s2)) else ((wX0_worlds 15 s2).bind fun t8 => (wX10_isOutside x3 t8 s2).bind fun t10 => if t10 = 0 then ((wX10_isTrue (44 + 10 * l) x2 x3 s2).bind fun t13 => if t13 = 0 then (some (0, s2)) else (some (1, s2))) else (some ((-1), s2)))) = some (v, s1) ∧ _
    rcases hasAns_E q.1 x2 with ⟨a, xa, ha, b1, b2⟩ | ⟨-, b1, b2⟩
    · rw [b1, t_sbe, qi1, (nworlds_E q).1, t_sbe]
      rcases isW_E q rfl x3 with ⟨w, hw, wl, d1, d2⟩ | ⟨d1, d2⟩
      · obtain ⟨r, er, rf, d⟩ := reaches_E q
        have c40 := q.1.c.2.2.2.2.1
        have hx2 : x2 = Int32.ofNat a := Int32.toInt_inj.1 (by rw [xa, t_on (by omega)])
        rw [d1, t_sbe, qi0, hx2, hw, isTrue10_E q.1 q.2.1 q.2.2.2.2.1 q.2.2.2.2.2 ha wl, t_sbe]
        have t11 := isTrue11_E rf.f q.2.2.2.2.2 q.1.af c40.2 d ha wl
        rw [hx2] at b2
        rw [hw] at d2
        by_cases k : trw x (s2.1 163) a w = true
        · refine ⟨1, s2, 1, r, by rw [if_pos k, qi1], ?_, rfl⟩
          rw [c s2 q, t_sbe, qi1, b2, t_sbe, qi1, d2, t_sbe, qi1, hx1, er, t_sbe, t11, if_pos k, t_sbe, qi1]
        · refine ⟨0, s2, 0, r, by rw [if_neg k, qi0], ?_, rfl⟩
          rw [c s2 q, t_sbe, qi1, b2, t_sbe, qi1, d2, t_sbe, qi1, hx1, er, t_sbe, t11, if_neg k, t_sbe, qi0]
      · rw [d1, t_sbe, qi1]
        refine ⟨_, _, -1, s2, rfl, ?_, rfl⟩
        rw [c s2 q, t_sbe, qi1, b2, t_sbe, qi1, d2, t_sbe, qi0]
    · rw [b1, t_sbe, qi0]
      refine ⟨_, _, -1, s2, rfl, ?_, rfl⟩
      rw [c s2 q, t_sbe, qi1, b2, t_sbe, qi0]
end REACH
end
section
/-! Counting; which ANSWERS are asked for; the class counts the FALSE ones of each WORLD. -/
/-- how many below n -/
noncomputable def cnt (p : Nat → Bool) : Nat → Nat
  | 0 => 0
  | n + 1 => cnt p n + (p n).toNat
theorem cnt_t {p : Nat → Bool} {n : Nat} (h : p n = true) : cnt p (n + 1) = cnt p n + 1 := by
  show cnt p n + (p n).toNat = _
  rw [h]
  rfl
theorem cnt_f {p : Nat → Bool} {n : Nat} (h : p n = false) : cnt p (n + 1) = cnt p n := by
  show cnt p n + (p n).toNat = _
  rw [h]
  rfl
theorem cnt_le {p : Nat → Bool} : ∀ n, cnt p n ≤ n := by
  intro n
  induction n with
  | zero => exact Nat.le_refl 0
  | succ n ih =>
    cases h : p n
    · rw [cnt_f h]
      omega
    · rw [cnt_t h]
      omega
theorem cnt_cg {p q : Nat → Bool} : ∀ {n : Nat}, (∀ i, i < n → p i = q i) → cnt p n = cnt q n := by
  intro n
  induction n with
  | zero => intro _; rfl
  | succ n ih =>
    intro h
    show cnt p n + (p n).toNat = cnt q n + (q n).toNat
    rw [ih (fun i hi => h i (by omega)), h n (by omega)]
theorem cnt_0 {p : Nat → Bool} : ∀ {n : Nat}, (∀ i, i < n → p i = false) → cnt p n = 0 := by
  intro n
  induction n with
  | zero => intro _; rfl
  | succ n ih =>
    intro h
    rw [cnt_f (h n (by omega))]
    exact ih (fun i hi => h i (by omega))
theorem cnt_pos {p : Nat → Bool} : ∀ {n : Nat}, 0 < cnt p n → ∃ i, i < n ∧ p i = true := by
  intro n
  induction n with
  | zero => intro h; exact absurd h (Nat.lt_irrefl 0)
  | succ n ih =>
    intro h
    cases e : p n
    · rw [cnt_f e] at h
      obtain ⟨i, a, b⟩ := ih h
      exact ⟨i, by omega, b⟩
    · exact ⟨n, by omega, e⟩
theorem cnt_some {p : Nat → Bool} : ∀ {n i : Nat}, i < n → p i = true → 0 < cnt p n := by
  intro n
  induction n with
  | zero => intro i h; omega
  | succ n ih =>
    intro i h e
    by_cases c : i = n
    · subst c
      rw [cnt_t e]
      omega
    · have := ih (i := i) (by omega) e
      show 0 < cnt p n + (p n).toNat
      omega
theorem cnt_ext {p : Nat → Bool} {n : Nat} : ∀ {m : Nat}, n ≤ m → (∀ i, n ≤ i → i < m → p i = false) → cnt p m = cnt p n := by
  intro m
  induction m with
  | zero => intro hm _; rw [show n = 0 by omega]
  | succ m ih =>
    intro hm h
    by_cases c : n = m + 1
    · rw [c]
    · rw [cnt_f (h m (by omega) (by omega))]
      exact ih (by omega) (fun i h1 h2 => h i h1 (by omega))
theorem cnt_mono {p q : Nat → Bool} : ∀ {n : Nat}, (∀ i, i < n → p i = true → q i = true) → cnt p n ≤ cnt q n := by
  intro n
  induction n with
  | zero => intro _; exact Nat.le_refl 0
  | succ n ih =>
    intro h
    have := ih (fun i hi => h i (by omega))
    cases e : p n
    · rw [cnt_f e]
      show cnt p n ≤ cnt q n + (q n).toNat
      omega
    · rw [cnt_t e, cnt_t (h n (by omega) e)]
      omega
/-- numbers as ints -/
theorem o_add {a b : Nat} : Int32.ofNat a + Int32.ofNat b = Int32.ofNat (a + b) := (Int32.ofNat_add a b).symm
theorem o_mul {a b : Nat} : Int32.ofNat a * Int32.ofNat b = Int32.ofNat (a * b) := (Int32.ofNat_mul a b).symm
theorem o_sub {a b : Nat} (h : b ≤ a) : Int32.ofNat a - Int32.ofNat b = Int32.ofNat (a - b) := (Int32.ofNat_sub a b h).symm
theorem o_1 {a : Nat} : Int32.ofNat a + 1 = Int32.ofNat (a + 1) := o_add (b := 1)
theorem o_z {a : Nat} : Int32.ofNat a + 0 = Int32.ofNat a := o_add (b := 0)
theorem o_eq {a b : Nat} (ha : a < 2147483648) (hb : b < 2147483648) : Int32.ofNat a = Int32.ofNat b ↔ a = b := by
  refine ⟨fun h => ?_, fun h => by rw [h]⟩
  have := congrArg Int32.toInt h
  rw [t_on ha, t_on hb] at this
  omega
theorem o_lt {a b : Nat} (ha : a < 2147483648) (hb : b < 2147483648) : Int32.ofNat a < Int32.ofNat b ↔ a < b := by
  rw [Int32.lt_iff_toInt_lt, t_on ha, t_on hb]
  omega
theorem stI_o {k n i : Nat} {v : Int32} {s : wS} (h : i < n) (hn : n ≤ 2400) : wstI s k n (Int32.ofNat i) v = some (wupI s k i v) := by
  unfold wstI
  rw [if_neg (t_ix (by rw [t_on (by omega)]; omega) (by rw [t_on (by omega)]; omega)), t_nc (by omega)]
theorem ldI_o {k n i : Nat} {s : wS} (h : i < n) (hn : n ≤ 2400) : wldI s k n (Int32.ofNat i) = some (s.1 k i) := by
  rw [wld_E (by rw [t_on (by omega)]; omega) (by rw [t_on (by omega)]; omega), t_nc (by omega)]
theorem at_o {k n i : Nat} {s : wS} (hk : wln k = n) (hn : n ≤ 2400) (h : i < n) : wX10_at k (Int32.ofNat i) s = some (s.1 k i) := by
  rw [at_E hk hn (by rw [t_on (by omega)]; omega) (by rw [t_on (by omega)]; omega), t_nc (by omega)]
theorem set_o {k n i : Nat} {v : Int32} {s : wS} (hk : wln k = n) (hn : n ≤ 2400) (h : i < n) : wX10_set k (Int32.ofNat i) v s = some (wupI s k i v) := by
  rw [set_E hk hn (by rw [t_on (by omega)]; omega) (by rw [t_on (by omega)]; omega), t_nc (by omega)]
theorem slot_o {kd t : Nat} {s : wS} (hk : kd < 3) (ht : t < 8) : wX10_slot (Int32.ofNat kd) (Int32.ofNat t) s = some (Int32.ofNat (8 * kd + t)) := by
  have : ∀ kd, kd < 3 → ∀ t, t < 8 → (Int32.ofNat kd * 8) + Int32.ofNat t = Int32.ofNat (8 * kd + t) := by decide +kernel
  exact congrArg some (this kd hk t ht)
theorem slot_o0 {t : Nat} {s : wS} (ht : t < 8) : wX10_slot 0 (Int32.ofNat t) s = some (Int32.ofNat (8 * 0 + t)) := slot_o (kd := 0) (by decide) ht
theorem slot_o1 {t : Nat} {s : wS} (ht : t < 8) : wX10_slot 1 (Int32.ofNat t) s = some (Int32.ofNat (8 * 1 + t)) := slot_o (kd := 1) (by decide) ht
theorem slot_o2 {t : Nat} {s : wS} (ht : t < 8) : wX10_slot 2 (Int32.ofNat t) s = some (Int32.ofNat (8 * 2 + t)) := slot_o (kd := 2) (by decide) ht
theorem upI_at {s : wS} {k b c : Nat} {v : Int32} : (wupI s k b v).1 k c = if c = b then v else s.1 k c := by
  rw [wupI_k]
  by_cases h : c = b
  · rw [h, if_pos rfl, updI_s]
  · rw [if_neg h, updI_n h]
/-- a loop to N, whole -/
theorem loop_N {σ β : Type} {L : Nat → σ → Option β} {I : Nat → σ → Prop} {N : Nat} {Q : β → Prop} {x : σ} (hN : N ≤ 1000000) (h : I 0 x) (step : ∀ n i x, i < N → I i x → ∃ x', L (n + 1) x = L n x' ∧ I (i + 1) x') (stop : ∀ n x, I N x → Tot (L (n + 1) x) Q) : Tot (L wFuel x) Q := loop_T (fun n i x hi h => Or.inl (step n i x hi h)) stop wFuel 0 x (Nat.zero_le _) h (wF_b hN)
theorem tot_eq {α : Type} {x : Option α} {c : α} (h : Tot x (fun v => v = c)) : x = some c := by
  obtain ⟨a, e, rfl⟩ := h
  exact e
/-- a loop to N that reads alone -/
theorem loop_P {σ β : Type} {L : Nat → σ → Option β} {I : Nat → σ → Prop} {N : Nat} {c : β} {x : σ} (hN : N ≤ 1000000) (h : I 0 x) (step : ∀ n i x, i < N → I i x → ∃ x', L (n + 1) x = L n x' ∧ I (i + 1) x') (stop : ∀ n x, I N x → L (n + 1) x = some c) : L wFuel x = some c := tot_eq (loop_N (Q := fun v => v = c) hN h step (fun n x hx => ⟨c, stop n x hx, rfl⟩))
/-- only these rows of ints were written -/
noncomputable def FK (a b : Nat) (s r : wS) : Prop := (∀ k, k < a ∨ b < k → r.1 k = s.1 k) ∧ r.2 = s.2
theorem FK.refl {a b : Nat} {s : wS} : FK a b s s := ⟨fun _ _ => rfl, rfl⟩
theorem FK.trans {a b : Nat} {s r t : wS} (h : FK a b s r) (g : FK a b r t) : FK a b s t := ⟨fun k n => (g.1 k n).trans (h.1 k n), g.2.trans h.2⟩
theorem FK.mono {a b a' b' : Nat} {s r : wS} (h : FK a b s r) (h1 : a' ≤ a) (h2 : b ≤ b') : FK a' b' s r := ⟨fun k n => h.1 k (by omega), h.2⟩
theorem FK_I {a b : Nat} {s : wS} {k c : Nat} {v : Int32} (h1 : a ≤ k) (h2 : k ≤ b) : FK a b s (wupI s k c v) := ⟨fun j n => wupI_n (by omega), rfl⟩
theorem bJ_3 {k b : Nat} (h1 : 32 ≤ k) (h2 : k ≤ 43) : bJ k b = true := by
  have e : (Nat.ble 32 k && Nat.ble k 43) = true := by
    simp only [Bool.and_eq_true, Nat.ble_eq]
    omega
  have e2 : Nat.ble 44 k = false := nb_false (by omega)
  unfold bJ bQ bQa
  rw [e, e2]
  rfl
theorem FK.w {a b : Nat} {s r : wS} (h : FK a b s r) (h1 : 32 ≤ a) (h2 : b ≤ 43) : wA bJ s r := by
  intro k c e
  by_cases n : k < a ∨ b < k
  · rw [h.1 k n]
  · rw [bJ_3 (by omega) (by omega)] at e
    cases e
section CF
variable {s : wS} {x : lC} {l : Nat}
theorem FK.qs {a b : Nat} {r : wS} (h : FK a b s r) (h1 : 32 ≤ a) (h2 : b ≤ 43) (q : QS l x s) : QS l x r := QS_w (h.w h1 h2) (fun k _ _ => by rw [h.2]) q
theorem FK.f {a b : Nat} {r : wS} (h : FK a b s r) (h2 : b ≤ 43) : r.1 163 = s.1 163 := h.1 163 (Or.inr (by omega))
theorem empty_E {k n : Nat} (hk : wln k = n) (hn : n ≤ 1000) : Tot (wX10_empty k s) (fun r => FK k k s r ∧ ∀ i, i < n → r.1 k i = 0) := by
  unfold wX10_empty
  refine t_bind (P := fun r => FK k k s r ∧ ∀ i, i < n → r.1 k i = 0) ?_ (fun r h => t_some h)
  refine loop_N (L := fun n (p : Int32 × wS) => wX10_empty_h2 k n p.1 p.2) (N := n) (I := fun i p => p.1 = Int32.ofNat i ∧ FK k k s p.2 ∧ ∀ j, j < i → p.2.1 k j = 0) (x := (0, s)) (by omega) ⟨rfl, FK.refl, fun j h => absurd h (by omega)⟩ (fun m i p hi hI => ?_) (fun m p hI => ?_)
  · obtain ⟨y, r⟩ := p
    obtain ⟨e, fk, z⟩ := hI
    dsimp only at e fk z ⊢
    subst e
    refine ⟨(Int32.ofNat (i + 1), wupI r k i 0), ?_, rfl, fk.trans (FK_I (Nat.le_refl _) (Nat.le_refl _)), fun j hj => ?_⟩
    · rw [wX10_empty_h2, hk, if_pos ((o_lt (by omega) (by omega)).2 hi), stI_o hi (by omega), t_sbe, o_1]
    · show (wupI r k i 0).1 k j = 0
      rw [upI_at]
      by_cases c : j = i
      · rw [if_pos c]
      · rw [if_neg c]
        exact z j (by omega)
  · obtain ⟨y, r⟩ := p
    obtain ⟨e, fk, z⟩ := hI
    dsimp only at e fk z ⊢
    subst e
    rw [wX10_empty_h2, hk, if_neg (fun c => by have := (o_lt (by omega) (by omega)).1 c; omega)]
    exact t_some ⟨fk, z⟩
/-- this ANSWER is asked for -/
noncomputable def lkv (f : Nat → Int32) (v : Int32) (a : Nat) : Bool := decide ((a : Int) < (f 3).toInt) && (decide ((a : Int) < v.toInt) && decide (f (42 + 5 * a + 4) = 0))
noncomputable def selv (f : Nat → Int32) (v wit but : Int32) (a : Nat) : Bool := lkv f v a && ((decide (wit = -1) || decide (f (42 + 5 * a) = wit)) && !decide (Int32.ofNat a = but))
theorem lkv_E (g : JA s) {v : Int32} {a : Nat} (ha : a < 40) : wX2_isLookedAt 14 (Int32.ofNat a) v s = some (if lkv (s.1 163) v a = true then 1 else 0) := by
  have ea : (Int32.ofNat a).toInt = a := t_on (by omega)
  unfold wX2_isLookedAt lkv
  by_cases c : Int32.ofNat a < v
  · have := t_lt c
    rw [if_pos c, decide_eq_true (show (a : Int) < v.toInt by omega)]
    rcases hasAns_E g (Int32.ofNat a) with ⟨a', h1, h2, b1, b2⟩ | ⟨h1, b1, b2⟩
    · obtain rfl : a' = a := by omega
      rw [b1, t_sbe, qi1, (ans_E g h2 ea).2.2.2.2, t_sbe, decide_eq_true h2]
      by_cases z : s.1 163 (42 + 5 * a' + 4) = 0
      · rw [if_pos z, decide_eq_true z]
        rfl
      · rw [if_neg z, decide_eq_false z]
        rfl
    · rw [b1, t_sbe, qi0, decide_eq_false (fun q : (a : Int) < (s.1 163 3).toInt => h1 ⟨by omega, by omega⟩)]
      rfl
  · rw [if_neg c, decide_eq_false (show ¬ (a : Int) < v.toInt by have := t_ge c; omega), Bool.false_and, Bool.and_false]
    rfl
theorem lkv_lt {f : Nat → Int32} {v : Int32} {a : Nat} (h : lkv f v a = true) : (a : Int) < (f 3).toInt := by
  unfold lkv at h
  rw [Bool.and_eq_true] at h
  exact of_decide_eq_true h.1
theorem selv_lk {f : Nat → Int32} {v wit but : Int32} {a : Nat} (h : selv f v wit but a = true) : lkv f v a = true := by
  unfold selv at h
  rw [Bool.and_eq_true] at h
  exact h.1
theorem many_r (q : QS l x s) {r : wS} (h : r.1 16 = s.1 16) {kd : Nat} (hk : kd < 3) : wX0_manyOf 15 (Int32.ofNat kd) r = some (Int32.ofNat (nk (s.1 163) kd)) := by
  unfold wX0_manyOf
  rw [at_o (k := 15 + 1) (n := 3) rfl (by omega) (by omega), t_sbe]
  show some (r.1 16 kd) = _
  rw [h]
  exact congrArg some ((many_E q.1 kd hk).trans (q.2.2.2.2.2 kd hk).1)
/-- an ANSWER is TRUE with a thing -/
noncomputable def tra (x : lC) (f : Nat → Int32) (a t : Nat) : Bool := !decide (FVx x f (Int32.ofNat (akd f a)) (aoth f a) t < FVx x f (Int32.ofNat (akd f a)) (aone f a) t)
theorem trw_a {x : lC} {f : Nat → Int32} {a w : Nat} : trw x f a w = tra x f a (thn f (akd f a) w) := rfl
theorem near_bt (q : QS l x s) {a t : Nat} (ha : (a : Int) < (s.1 163 3).toInt) (ht : t < nk (s.1 163) (akd (s.1 163) a)) : bit (nb2 (FVx x (s.1 163) (Int32.ofNat (akd (s.1 163) a))) (aone (s.1 163) a) (aoth (s.1 163) a) (nk (s.1 163) (akd (s.1 163) a))) t = tra x (s.1 163) a t := by
  have cf := q.2.2.2.2.2
  obtain ⟨h1, -⟩ := q.1.af a ha
  have n8 := (cf _ h1).2.2
  rw [nb2_bt n8 t (by omega), decide_eq_true ht, Bool.true_and]
  rfl
theorem addFalse_E (q : QS l x s) {kd : Nat} (hk : kd < 3) {near : Int32} : Tot (wX10_addFalse (Int32.ofNat kd) near s) (fun r => FK 32 32 s r ∧ ∀ i, i < 24 → r.1 32 i = if 8 * kd ≤ i ∧ i < 8 * kd + nk (s.1 163) kd ∧ bit near (i - 8 * kd) = false then s.1 32 i + 1 else s.1 32 i) := by
  have cf := q.2.2.2.2.2
  have n8 := (cf kd hk).2.2
  unfold wX10_addFalse
  refine t_bind (P := fun r => FK 32 32 s r ∧ ∀ i, i < 24 → r.1 32 i = if 8 * kd ≤ i ∧ i < 8 * kd + nk (s.1 163) kd ∧ bit near (i - 8 * kd) = false then s.1 32 i + 1 else s.1 32 i) ?_ (fun r h => t_some h)
  refine loop_N (L := fun n (p : Int32 × wS) => wX10_addFalse_h2 (Int32.ofNat kd) near n p.1 p.2) (N := nk (s.1 163) kd) (I := fun j p => p.1 = Int32.ofNat j ∧ FK 32 32 s p.2 ∧ ∀ i, i < 24 → p.2.1 32 i = if 8 * kd ≤ i ∧ i < 8 * kd + j ∧ bit near (i - 8 * kd) = false then s.1 32 i + 1 else s.1 32 i) (x := (0, s)) (by omega) ⟨rfl, FK.refl, fun i _ => (if_neg (by omega)).symm⟩ (fun m j p hj hI => ?_) (fun m p hI => ?_)
  · obtain ⟨y, r⟩ := p
    obtain ⟨e, fk, z⟩ := hI
    dsimp only at e fk z ⊢
    subst e
    rw [wX10_addFalse_h2, many_r q (fk.1 16 (by omega)) hk, t_sbe, if_pos ((o_lt (by omega) (by omega)).2 hj)]
    unfold wX10_addFalse_j51
    by_cases c : bit near j = false
    · rw [if_pos ((bt_z (by omega)).2 c), slot_o hk (by omega), t_sbe, t_sbe, at_o (n := 24) rfl (by omega) (by omega), t_sbe, set_o (n := 24) rfl (by omega) (by omega), t_sbe, o_1]
      refine ⟨(Int32.ofNat (j + 1), wupI r 32 (8 * kd + j) (r.1 32 (8 * kd + j) + 1)), rfl, rfl, fk.trans (FK_I (Nat.le_refl _) (Nat.le_refl _)), fun i hi => ?_⟩
      show (wupI r 32 (8 * kd + j) (r.1 32 (8 * kd + j) + 1)).1 32 i = _
      rw [upI_at]
      by_cases d : i = 8 * kd + j
      · subst d
        rw [if_pos rfl, z _ hi, if_neg (by omega), if_pos ⟨by omega, by omega, by rw [show 8 * kd + j - 8 * kd = j by omega]; exact c⟩]
      · rw [if_neg d, z i hi]
        by_cases u : 8 * kd ≤ i ∧ i < 8 * kd + j ∧ bit near (i - 8 * kd) = false
        · rw [if_pos u, if_pos ⟨u.1, by omega, u.2.2⟩]
        · rw [if_neg u, if_neg (fun u' => u ⟨u'.1, by omega, u'.2.2⟩)]
    · rw [if_neg (fun h => c ((bt_z (by omega)).1 h)), o_1]
      refine ⟨(Int32.ofNat (j + 1), r), rfl, rfl, fk, fun i hi => ?_⟩
      show r.1 32 i = _
      rw [z i hi]
      by_cases d : i = 8 * kd + j
      · subst d
        rw [if_neg (by omega), if_neg (fun u => c (by rw [show 8 * kd + j - 8 * kd = j by omega] at u; exact u.2.2))]
      · by_cases u : 8 * kd ≤ i ∧ i < 8 * kd + j ∧ bit near (i - 8 * kd) = false
        · rw [if_pos u, if_pos ⟨u.1, by omega, u.2.2⟩]
        · rw [if_neg u, if_neg (fun u' => u ⟨u'.1, by omega, u'.2.2⟩)]
  · obtain ⟨y, r⟩ := p
    obtain ⟨e, fk, z⟩ := hI
    dsimp only at e fk z ⊢
    subst e
    rw [wX10_addFalse_h2, many_r q (fk.1 16 (by omega)) hk, t_sbe, if_neg (fun c => by have := (o_lt (by omega) (by omega)).1 c; omega)]
    exact t_some ⟨fk, z⟩
/-- the FALSE ones with a thing -/
noncomputable def fat (x : lC) (f : Nat → Int32) (P : Nat → Bool) (kd t n : Nat) : Nat := cnt (fun a => P a && (decide (akd f a = kd) && !tra x f a t)) n
theorem fat_s {x : lC} {f : Nat → Int32} {P : Nat → Bool} {kd t n : Nat} : fat x f P kd t (n + 1) = fat x f P kd t n + (P n && (decide (akd f n = kd) && !tra x f n t)).toNat := rfl
/-- the FALSE ones in a WORLD -/
noncomputable def fan (x : lC) (f : Nat → Int32) (P : Nat → Bool) (w n : Nat) : Nat := cnt (fun a => P a && !trw x f a w) n
theorem fan_s {x : lC} {f : Nat → Int32} {P : Nat → Bool} {w n : Nat} : fan x f P w (n + 1) = fan x f P w n + (P n && !trw x f n w).toNat := rfl
theorem fan_3 {x : lC} {f : Nat → Int32} {P : Nat → Bool} {w : Nat} : ∀ {n : Nat}, (∀ a, a < n → P a = true → akd f a < 3) → fat x f P 0 (thn f 0 w) n + fat x f P 1 (thn f 1 w) n + fat x f P 2 (thn f 2 w) n = fan x f P w n := by
  intro n
  induction n with
  | zero => intro _; rfl
  | succ n ih =>
    intro h
    have i := ih (fun a ha => h a (by omega))
    rw [fat_s, fat_s, fat_s, fan_s, trw_a]
    cases p : P n
    · rw [Bool.false_and, Bool.false_and, Bool.false_and, Bool.false_and]
      exact i
    · have k := h n (by omega) p
      rw [Bool.true_and, Bool.true_and, Bool.true_and, Bool.true_and]
      obtain k | k | k : akd f n = 0 ∨ akd f n = 1 ∨ akd f n = 2 := by omega
      · rw [k, show decide (0 = 0) = true from rfl, show decide (0 = 1) = false from rfl, show decide (0 = 2) = false from rfl, Bool.true_and, Bool.false_and, Bool.false_and]
        show _ + _ + (_ + 0) + (_ + 0) = _
        omega
      · rw [k, show decide (1 = 0) = false from rfl, show decide (1 = 1) = true from rfl, show decide (1 = 2) = false from rfl, Bool.true_and, Bool.false_and, Bool.false_and]
        show _ + 0 + (_ + _) + (_ + 0) = _
        omega
      · rw [k, show decide (2 = 0) = false from rfl, show decide (2 = 1) = false from rfl, show decide (2 = 2) = true from rfl, Bool.true_and, Bool.false_and, Bool.false_and]
        show _ + 0 + (_ + 0) + (_ + _) = _
        omega
theorem count10_E (q : QS l x s) {v wit but : Int32} : Tot (wX10_countFalse_h10 (44 + 10 * l) v wit but wFuel 0 s) (fun r => (∀ i, i < 24 → s.1 32 i = 0) → FK 32 32 s r ∧ ∀ kd t, kd < 3 → t < nk (s.1 163) kd → r.1 32 (8 * kd + t) = Int32.ofNat (fat x (s.1 163) (selv (s.1 163) v wit but) kd t 40)) := by
  have cf := q.2.2.2.2.2
  refine loop_N (L := fun n (p : Int32 × wS) => wX10_countFalse_h10 (44 + 10 * l) v wit but n p.1 p.2) (N := 40) (I := fun j p => p.1 = Int32.ofNat j ∧ FK 32 32 s p.2 ∧ ((∀ i, i < 24 → s.1 32 i = 0) → ∀ kd t, kd < 3 → t < nk (s.1 163) kd → p.2.1 32 (8 * kd + t) = Int32.ofNat (fat x (s.1 163) (selv (s.1 163) v wit but) kd t j))) (x := (0, s)) (by omega) ⟨rfl, FK.refl, fun z kd t hk ht => ?_⟩ (fun m j p hj hI => ?_) (fun m p hI => ?_)
  · have n8 := (cf kd hk).2.2
    exact z _ (by omega)
  · obtain ⟨y, r⟩ := p
    obtain ⟨e, fk, z⟩ := hI
    dsimp only at e fk z ⊢
    subst e
    have qr := fk.qs (by omega) (by omega) q
    have hf : r.1 163 = s.1 163 := fk.f (by omega)
    have lk := lkv_E qr.1 (v := v) hj
    rw [hf] at lk
    -- nothing is added
    have no : selv (s.1 163) v wit but j = false → ∃ x' : Int32 × wS, (wX10_countFalse_h10 (44 + 10 * l) v wit but m (Int32.ofNat (j + 1)) r = wX10_countFalse_h10 (44 + 10 * l) v wit but m x'.1 x'.2 ∧ x'.1 = Int32.ofNat (j + 1) ∧ FK 32 32 s x'.2 ∧ ((∀ i, i < 24 → s.1 32 i = 0) → ∀ kd t, kd < 3 → t < nk (s.1 163) kd → x'.2.1 32 (8 * kd + t) = Int32.ofNat (fat x (s.1 163) (selv (s.1 163) v wit but) kd t (j + 1)))) := fun h => by
      refine ⟨(Int32.ofNat (j + 1), r), rfl, rfl, fk, fun zz kd t hk ht => ?_⟩
      show r.1 32 (8 * kd + t) = _
      rw [z zz kd t hk ht, fat_s, h, Bool.false_and]
      rfl
    -- one turn
    have turn : ∀ y0 : Int32, (y0 = 0 ∨ y0 = 1) → (y0 = 1 ↔ (decide (wit = -1) || decide ((s.1 163) (42 + 5 * j) = wit)) = true) → ∃ x' : Int32 × wS, (wX10_countFalse_j43 (wX10_countFalse_h10 (44 + 10 * l) v wit but m) (44 + 10 * l) v wit but (Int32.ofNat j) y0 r = wX10_countFalse_h10 (44 + 10 * l) v wit but m x'.1 x'.2 ∧ x'.1 = Int32.ofNat (j + 1) ∧ FK 32 32 s x'.2 ∧ ((∀ i, i < 24 → s.1 32 i = 0) → ∀ kd t, kd < 3 → t < nk (s.1 163) kd → x'.2.1 32 (8 * kd + t) = Int32.ofNat (fat x (s.1 163) (selv (s.1 163) v wit but) kd t (j + 1)))) := by
      intro y0 h01 hy
      unfold wX10_countFalse_j43 wX10_countFalse_j93
      rw [lk, t_sbe, o_1]
      by_cases c : lkv (s.1 163) v j = true
      · rw [if_pos c, qi1]
        have ha : (j : Int) < (s.1 163 3).toInt := lkv_lt c
        rcases h01 with h0 | h1
        · subst h0
          rw [qi0]
          refine no ?_
          unfold selv
          rw [show (decide (wit = -1) || decide ((s.1 163) (42 + 5 * j) = wit)) = false from Bool.eq_false_iff.2 (fun e => absurd (hy.2 e) (by decide)), Bool.false_and, Bool.and_false]
        · subst h1
          have hw := hy.1 rfl
          rw [qi1]
          by_cases d : Int32.ofNat j = but
          · rw [if_pos d]
            refine no ?_
            unfold selv
            rw [decide_eq_true d, Bool.not_true, Bool.and_false, Bool.and_false]
          · have har : (j : Int) < (r.1 163 3).toInt := by rw [hf]; exact ha
            obtain ⟨k3, o1, o2, ek, -⟩ := q.1.af j ha
            have n8 := (cf _ k3).2.2
            have nt := nearThings_E qr.1 q.2.1 qr.2.2.2.2.1 qr.2.2.2.2.2 har
            rw [hf] at nt
            obtain ⟨r2, er, fk2, z2⟩ := addFalse_E qr (near := nb2 (FVx x (s.1 163) (Int32.ofNat (akd (s.1 163) j))) (aone (s.1 163) j) (aoth (s.1 163) j) (nk (s.1 163) (akd (s.1 163) j))) k3
            rw [if_neg d, (ans_E qr.1 har (t_on (by omega))).2.1, hf, t_sbe, nt, t_sbe, ek, er, t_sbe]
            rw [hf] at z2
            refine ⟨(Int32.ofNat (j + 1), r2), rfl, rfl, fk.trans fk2, fun zz kd t hk ht => ?_⟩
            have n8' := (cf kd hk).2.2
            show r2.1 32 (8 * kd + t) = _
            have S : selv (s.1 163) v wit but j = true := by
              unfold selv
              rw [c, hw, decide_eq_false d]
              rfl
            rw [z2 _ (by omega), z zz kd t hk ht, fat_s, S, Bool.true_and]
            by_cases kk : akd (s.1 163) j = kd
            · subst kk
              rw [show 8 * akd (s.1 163) j + t - 8 * akd (s.1 163) j = t by omega, near_bt q ha ht, decide_eq_true (rfl : akd (s.1 163) j = akd (s.1 163) j), Bool.true_and]
              cases tr : tra x (s.1 163) j t
              · rw [if_pos ⟨by omega, by omega, rfl⟩]
                exact o_1
              · rw [if_neg (fun u => by have := u.2.2; cases this)]
                rfl
            · rw [if_neg (by omega), decide_eq_false kk, Bool.false_and]
              rfl
      · rw [if_neg c, qi0]
        refine no ?_
        unfold selv
        rw [Bool.eq_false_iff.2 c, Bool.false_and]
    rw [wX10_countFalse_h10, if_pos (show Int32.ofNat j < 40 from (o_lt (a := j) (b := 40) (by omega) (by omega)).2 hj)]
    unfold wX10_countFalse_j38
    by_cases w1 : wit = -1
    · rw [if_pos w1]
      exact turn 1 (Or.inr rfl) (iff_of_true rfl (by rw [decide_eq_true w1]; rfl))
    · rw [if_neg w1]
      by_cases ha : (j : Int) < (s.1 163 3).toInt
      · have har : (j : Int) < (r.1 163 3).toInt := by rw [hf]; exact ha
        rw [(ans_E qr.1 har (t_on (by omega))).1, hf, t_sbe]
        by_cases w2 : s.1 163 (42 + 5 * j) = wit
        · rw [if_pos w2]
          exact turn 1 (Or.inr rfl) (iff_of_true rfl (by rw [decide_eq_true w2, Bool.or_true]))
        · rw [if_neg w2]
          exact turn 0 (Or.inl rfl) (iff_of_false (by decide) (by rw [decide_eq_false w1, decide_eq_false w2]; decide))
      · -- behind the ANSWERS the row says what it likes
        have nl : lkv (s.1 163) v j = false := Bool.eq_false_iff.2 (fun h => ha (lkv_lt h))
        rw [at_o (k := 19) (n := 40) rfl (by omega) (by omega), t_sbe]
        have bare : ∀ y0 : Int32, ∃ x' : Int32 × wS, (wX10_countFalse_j43 (wX10_countFalse_h10 (44 + 10 * l) v wit but m) (44 + 10 * l) v wit but (Int32.ofNat j) y0 r = wX10_countFalse_h10 (44 + 10 * l) v wit but m x'.1 x'.2 ∧ x'.1 = Int32.ofNat (j + 1) ∧ FK 32 32 s x'.2 ∧ ((∀ i, i < 24 → s.1 32 i = 0) → ∀ kd t, kd < 3 → t < nk (s.1 163) kd → x'.2.1 32 (8 * kd + t) = Int32.ofNat (fat x (s.1 163) (selv (s.1 163) v wit but) kd t (j + 1)))) := by
          intro y0
          unfold wX10_countFalse_j43 wX10_countFalse_j93
          rw [lk, nl, t_sbe, o_1]
          exact no (by unfold selv; rw [nl, Bool.false_and])
        by_cases w2 : r.1 19 j = wit
        · rw [if_pos w2]
          exact bare 1
        · rw [if_neg w2]
          exact bare 0
  · obtain ⟨y, r⟩ := p
    obtain ⟨e, fk, z⟩ := hI
    dsimp only at e fk z ⊢
    subst e
    rw [wX10_countFalse_h10, if_neg (by decide)]
    exact t_some (fun zz => ⟨fk, z zz⟩)
/-- a WORLD of its things -/
theorem thn_w {f : Nat → Int32} {h r m : Nat} (hh : h < nk f 0) (hr : r < nk f 1) (hm : m < nk f 2) : (h * nk f 1 + r) * nk f 2 + m < nW f ∧ thn f 0 ((h * nk f 1 + r) * nk f 2 + m) = h ∧ thn f 1 ((h * nk f 1 + r) * nk f 2 + m) = r ∧ thn f 2 ((h * nk f 1 + r) * nk f 2 + m) = m := by
  have d1 : ((h * nk f 1 + r) * nk f 2 + m) / nk f 2 = h * nk f 1 + r := by
    rw [Nat.add_comm, Nat.add_mul_div_right _ _ (by omega), Nat.div_eq_of_lt hm, Nat.zero_add]
  have d2 : (h * nk f 1 + r) / nk f 1 = h := by
    rw [Nat.add_comm, Nat.add_mul_div_right _ _ (by omega), Nat.div_eq_of_lt hr, Nat.zero_add]
  refine ⟨?_, ?_, ?_, ?_⟩
  · have a : (h + 1) * nk f 1 ≤ nk f 0 * nk f 1 := Nat.mul_le_mul_right _ (by omega)
    rw [Nat.succ_mul] at a
    have b : (h * nk f 1 + r + 1) * nk f 2 ≤ nk f 0 * nk f 1 * nk f 2 := Nat.mul_le_mul_right _ (by omega)
    rw [Nat.succ_mul] at b
    unfold nW
    omega
  · unfold thn
    rw [if_neg (by decide), if_neg (by decide), d1, d2]
  · unfold thn
    rw [if_neg (by decide), if_pos rfl, d1, Nat.add_comm, Nat.add_mul_mod_self_right, Nat.mod_eq_of_lt hr]
  · unfold thn
    rw [if_pos rfl, Nat.add_comm, Nat.add_mul_mod_self_right, Nat.mod_eq_of_lt hm]
/-- three loops over all WORLDS -/
theorem world3 {f : Nat → Int32} (cf : CFt f) {I : Nat → wS → Prop} {A2 : Nat → Nat → Nat → Int32 → Int32 → wS → Option (Int32 × wS)} {A1 : Nat → Nat → Int32 → Int32 → wS → Option (Int32 × wS)} {A0 : Nat → Int32 → Int32 → wS → Option wS} {s0 : wS}
  (h2 : ∀ h r n m s, h < nk f 0 → r < nk f 1 → m < nk f 2 → I ((h * nk f 1 + r) * nk f 2 + m) s → ∃ s', A2 h r (n + 1) (Int32.ofNat ((h * nk f 1 + r) * nk f 2 + m)) (Int32.ofNat m) s = A2 h r n (Int32.ofNat ((h * nk f 1 + r) * nk f 2 + m + 1)) (Int32.ofNat (m + 1)) s' ∧ I ((h * nk f 1 + r) * nk f 2 + m + 1) s')
  (h2' : ∀ h r n w s, I w s → A2 h r (n + 1) (Int32.ofNat w) (Int32.ofNat (nk f 2)) s = some (Int32.ofNat w, s))
  (h1 : ∀ h r n w w' s s', h < nk f 0 → r < nk f 1 → I w s → A2 h r wFuel (Int32.ofNat w) 0 s = some (w', s') → A1 h (n + 1) (Int32.ofNat w) (Int32.ofNat r) s = A1 h n w' (Int32.ofNat (r + 1)) s')
  (h1' : ∀ h n w s, I w s → A1 h (n + 1) (Int32.ofNat w) (Int32.ofNat (nk f 1)) s = some (Int32.ofNat w, s))
  (h0 : ∀ h n w w' s s', h < nk f 0 → I w s → A1 h wFuel (Int32.ofNat w) 0 s = some (w', s') → A0 (n + 1) (Int32.ofNat w) (Int32.ofNat h) s = A0 n w' (Int32.ofNat (h + 1)) s')
  (h0' : ∀ n w s, I w s → A0 (n + 1) (Int32.ofNat w) (Int32.ofNat (nk f 0)) s = some s) (i0 : I 0 s0) : Tot (A0 wFuel 0 0 s0) (fun r => I (nW f) r) := by
  have c0 := (cf 0 (by decide)).2.2
  have c1 := (cf 1 (by decide)).2.2
  have c2 := (cf 2 (by decide)).2.2
  have e2 : ∀ h r s, h < nk f 0 → r < nk f 1 → I ((h * nk f 1 + r) * nk f 2) s → Tot (A2 h r wFuel (Int32.ofNat ((h * nk f 1 + r) * nk f 2)) 0 s) (fun p => p.1 = Int32.ofNat ((h * nk f 1 + (r + 1)) * nk f 2) ∧ I ((h * nk f 1 + (r + 1)) * nk f 2) p.2) := by
    intro h r s hh hr hi
    refine loop_N (L := fun n (p : Int32 × Int32 × wS) => A2 h r n p.1 p.2.1 p.2.2) (N := nk f 2) (I := fun m p => p.1 = Int32.ofNat ((h * nk f 1 + r) * nk f 2 + m) ∧ p.2.1 = Int32.ofNat m ∧ I ((h * nk f 1 + r) * nk f 2 + m) p.2.2) (x := (Int32.ofNat ((h * nk f 1 + r) * nk f 2), 0, s)) (by omega) ⟨rfl, rfl, hi⟩ (fun n m p hm hI => ?_) (fun n p hI => ?_)
    · obtain ⟨a, b, t⟩ := p
      obtain ⟨ea, eb, it⟩ := hI
      dsimp only at ea eb it ⊢
      subst ea eb
      obtain ⟨s', es, is⟩ := h2 h r n m t hh hr hm it
      exact ⟨(Int32.ofNat ((h * nk f 1 + r) * nk f 2 + m + 1), Int32.ofNat (m + 1), s'), es, rfl, rfl, is⟩
    · obtain ⟨a, b, t⟩ := p
      obtain ⟨ea, eb, it⟩ := hI
      dsimp only at ea eb it ⊢
      subst ea eb
      rw [h2' h r n _ t it]
      have e : (h * nk f 1 + (r + 1)) * nk f 2 = (h * nk f 1 + r) * nk f 2 + nk f 2 := Nat.succ_mul _ _
      exact t_some (by rw [e]; exact ⟨rfl, it⟩)
  have e1 : ∀ h s, h < nk f 0 → I (h * nk f 1 * nk f 2) s → Tot (A1 h wFuel (Int32.ofNat (h * nk f 1 * nk f 2)) 0 s) (fun p => p.1 = Int32.ofNat ((h + 1) * nk f 1 * nk f 2) ∧ I ((h + 1) * nk f 1 * nk f 2) p.2) := by
    intro h s hh hi
    refine loop_N (L := fun n (p : Int32 × Int32 × wS) => A1 h n p.1 p.2.1 p.2.2) (N := nk f 1) (I := fun r p => p.1 = Int32.ofNat ((h * nk f 1 + r) * nk f 2) ∧ p.2.1 = Int32.ofNat r ∧ I ((h * nk f 1 + r) * nk f 2) p.2.2) (x := (Int32.ofNat (h * nk f 1 * nk f 2), 0, s)) (by omega) ⟨rfl, rfl, hi⟩ (fun n r p hr hI => ?_) (fun n p hI => ?_)
    · obtain ⟨a, b, t⟩ := p
      obtain ⟨ea, eb, it⟩ := hI
      dsimp only at ea eb it ⊢
      subst ea eb
      obtain ⟨⟨w', s'⟩, es, ew, is⟩ := e2 h r t hh hr it
      dsimp only at ew is
      rw [h1 h r n _ w' t s' hh hr it es]
      exact ⟨(w', Int32.ofNat (r + 1), s'), rfl, ew, rfl, is⟩
    · obtain ⟨a, b, t⟩ := p
      obtain ⟨ea, eb, it⟩ := hI
      dsimp only at ea eb it ⊢
      subst ea eb
      rw [h1' h n _ t it]
      have e : (h + 1) * nk f 1 = h * nk f 1 + nk f 1 := Nat.succ_mul _ _
      exact t_some (by rw [e]; exact ⟨rfl, it⟩)
  refine loop_N (L := fun n (p : Int32 × Int32 × wS) => A0 n p.1 p.2.1 p.2.2) (N := nk f 0) (I := fun h p => p.1 = Int32.ofNat (h * nk f 1 * nk f 2) ∧ p.2.1 = Int32.ofNat h ∧ I (h * nk f 1 * nk f 2) p.2.2) (x := (0, 0, s0)) (by omega) ⟨?_, rfl, ?_⟩ (fun n h p hh hI => ?_) (fun n p hI => ?_)
  · rw [Nat.zero_mul, Nat.zero_mul]
    rfl
  · rw [Nat.zero_mul, Nat.zero_mul]
    exact i0
  · obtain ⟨a, b, t⟩ := p
    obtain ⟨ea, eb, it⟩ := hI
    dsimp only at ea eb it ⊢
    subst ea eb
    obtain ⟨⟨w', s'⟩, es, ew, is⟩ := e1 h t hh it
    dsimp only at ew is
    rw [h0 h n _ w' t s' hh it es]
    exact ⟨(w', Int32.ofNat (h + 1), s'), rfl, ew, rfl, is⟩
  · obtain ⟨a, b, t⟩ := p
    obtain ⟨ea, eb, it⟩ := hI
    dsimp only at ea eb it ⊢
    subst ea eb
    rw [h0' n _ t it]
    exact t_some it
theorem many_r0 (q : QS l x s) {r : wS} (h : r.1 16 = s.1 16) : wX0_manyOf 15 0 r = some (Int32.ofNat (nk (s.1 163) 0)) := many_r q h (kd := 0) (by decide)
theorem many_r1 (q : QS l x s) {r : wS} (h : r.1 16 = s.1 16) : wX0_manyOf 15 1 r = some (Int32.ofNat (nk (s.1 163) 1)) := many_r q h (kd := 1) (by decide)
theorem many_r2 (q : QS l x s) {r : wS} (h : r.1 16 = s.1 16) : wX0_manyOf 15 2 r = some (Int32.ofNat (nk (s.1 163) 2)) := many_r q h (kd := 2) (by decide)
/-- the FALSE ones of all WORLDS, of those of their things -/
theorem count105_E (q : QS l x s) {F : Nat → Nat → Nat} (hF : ∀ kd t, kd < 3 → t < nk (s.1 163) kd → s.1 32 (8 * kd + t) = Int32.ofNat (F kd t)) : Tot (wX10_countFalse_h105 wFuel 0 0 s) (fun r => FK 33 33 s r ∧ ∀ w, w < nW (s.1 163) → r.1 33 w = Int32.ofNat (F 0 (thn (s.1 163) 0 w) + F 1 (thn (s.1 163) 1 w) + F 2 (thn (s.1 163) 2 w))) := by
  have cf := q.2.2.2.2.2
  have w5 := cf.w.1
  have c0 := (cf 0 (by decide)).2.2
  have c1 := (cf 1 (by decide)).2.2
  have c2 := (cf 2 (by decide)).2.2
  refine world3 cf (I := fun w r => FK 33 33 s r ∧ ∀ v, v < w → r.1 33 v = Int32.ofNat (F 0 (thn (s.1 163) 0 v) + F 1 (thn (s.1 163) 1 v) + F 2 (thn (s.1 163) 2 v))) (A2 := fun h r => wX10_countFalse_h172 (Int32.ofNat h) (Int32.ofNat r) (Int32.ofNat (F 0 h + F 1 r))) (A1 := fun h => wX10_countFalse_h124 (Int32.ofNat h)) (A0 := wX10_countFalse_h105) ?_ ?_ ?_ ?_ ?_ ?_ ⟨FK.refl, fun v h => absurd h (by omega)⟩
  · intro h r n m t hh hr hm it
    obtain ⟨fk, z⟩ := it
    obtain ⟨wl, t0, t1, t2⟩ := thn_w hh hr hm
    generalize ew : (h * nk (s.1 163) 1 + r) * nk (s.1 163) 2 + m = w at *
    refine ⟨wupI t 33 w (Int32.ofNat (F 0 h + F 1 r + F 2 m)), ?_, fk.trans (FK_I (Nat.le_refl _) (Nat.le_refl _)), fun v hv => ?_⟩
    · rw [wX10_countFalse_h172, many_r2 q (fk.1 16 (by omega)), t_sbe, if_pos ((o_lt (by omega) (by omega)).2 hm), slot_o2 (by omega), t_sbe, at_o (n := 24) rfl (by omega) (by omega), t_sbe, fk.1 32 (by omega), hF 2 m (by omega) hm, o_add, set_o (n := 512) rfl (by omega) (by omega), t_sbe, o_1, o_1]
    · rw [upI_at]
      by_cases c : v = w
      · rw [if_pos c, c, t0, t1, t2]
      · rw [if_neg c]
        exact z v (by omega)
  · intro h r n w t it
    rw [wX10_countFalse_h172, many_r2 q (it.1.1 16 (by omega)), t_sbe, if_neg (fun c => by have := (o_lt (by omega) (by omega)).1 c; omega)]
  · intro h r n w w' t t' hh hr it e
    rw [wX10_countFalse_h124, many_r1 q (it.1.1 16 (by omega)), t_sbe, if_pos ((o_lt (by omega) (by omega)).2 hr), slot_o0 (by omega), t_sbe, at_o (n := 24) rfl (by omega) (by omega), t_sbe, slot_o1 (by omega), t_sbe, at_o (n := 24) rfl (by omega) (by omega), t_sbe, it.1.1 32 (by omega), hF 0 h (by omega) hh, hF 1 r (by omega) hr, o_add, e, t_sbe, o_1]
  · intro h n w t it
    rw [wX10_countFalse_h124, many_r1 q (it.1.1 16 (by omega)), t_sbe, if_neg (fun c => by have := (o_lt (by omega) (by omega)).1 c; omega)]
  · intro h n w w' t t' hh it e
    rw [wX10_countFalse_h105, many_r0 q (it.1.1 16 (by omega)), t_sbe, if_pos ((o_lt (by omega) (by omega)).2 hh), e, t_sbe, o_1]
  · intro n w t it
    rw [wX10_countFalse_h105, many_r0 q (it.1.1 16 (by omega)), t_sbe, if_neg (fun c => by have := (o_lt (by omega) (by omega)).1 c; omega)]
theorem countFalse_E (q : QS l x s) {v wit but : Int32} : Tot (wX10_countFalse (44 + 10 * l) v wit but s) (fun r => FK 32 33 s r ∧ ∀ w, w < nW (s.1 163) → r.1 33 w = Int32.ofNat (fan x (s.1 163) (selv (s.1 163) v wit but) w 40)) := by
  unfold wX10_countFalse
  obtain ⟨s2, e2, f2, z2⟩ := empty_E (s := s) (k := 32) (n := 24) rfl (by omega)
  have q2 := f2.qs (by omega) (by omega) q
  obtain ⟨s3, e3, h3⟩ := count10_E q2 (v := v) (wit := wit) (but := but)
  obtain ⟨f3, z3⟩ := h3 z2
  have q3 := f3.qs (by omega) (by omega) q2
  have hf2 : s2.1 163 = s.1 163 := f2.f (by omega)
  have hf3 : s3.1 163 = s.1 163 := (f3.f (by omega)).trans hf2
  rw [hf2] at z3
  obtain ⟨s4, e4, f4, z4⟩ := count105_E q3 (F := fun kd t => fat x (s.1 163) (selv (s.1 163) v wit but) kd t 40) (fun kd t hk ht => z3 kd t hk (by rw [hf3] at ht; exact ht))
  rw [hf3] at z4
  rw [e2, t_sbe, e3, t_sbe, e4, t_sbe]
  refine t_some ⟨(f2.mono (by omega) (by omega)).trans ((f3.mono (by omega) (by omega)).trans (f4.mono (by omega) (by omega))), fun w hw => ?_⟩
  rw [z4 w hw]
  exact congrArg Int32.ofNat (fan_3 (fun a _ p => (q.1.af a (lkv_lt (selv_lk p))).1))
theorem nworlds_r (q : QS l x s) {r : wS} (h : r.1 16 = s.1 16) : wX0_worlds 15 r = some (Int32.ofNat (nW (s.1 163))) := by
  have e2 : wX0_worlds 15 r = wX0_worlds 15 s := by
    unfold wX0_worlds wldI
    rw [show r.1 (15 + 1) = s.1 (15 + 1) from h]
  exact e2.trans (nworlds_E q).1
theorem fan_le {x : lC} {f : Nat → Int32} {P : Nat → Bool} {w n : Nat} : fan x f P w n ≤ n := cnt_le n
theorem atMost_E (q : QS l x s) {r : wS} (h : r.1 16 = s.1 16) {g : Nat → Nat} (hg : ∀ w, w < nW (s.1 163) → r.1 33 w = Int32.ofNat (g w) ∧ g w ≤ 100) {k : Nat} (hk : k ≤ 100) : wX10_worldsWithAtMost (Int32.ofNat k) r = some (Int32.ofNat (cnt (fun w => decide (g w ≤ k)) (nW (s.1 163)))) := by
  have w5 := q.2.2.2.2.2.w.1
  unfold wX10_worldsWithAtMost
  have e : wX10_worldsWithAtMost_h4 (Int32.ofNat k) r wFuel 0 0 = some (Int32.ofNat (cnt (fun w => decide (g w ≤ k)) (nW (s.1 163)))) := by
    refine loop_P (L := fun n (p : Int32 × Int32) => wX10_worldsWithAtMost_h4 (Int32.ofNat k) r n p.1 p.2) (N := nW (s.1 163)) (I := fun w p => p.1 = Int32.ofNat (cnt (fun w => decide (g w ≤ k)) w) ∧ p.2 = Int32.ofNat w) (x := (0, 0)) (by omega) ⟨rfl, rfl⟩ (fun n w p hw hI => ?_) (fun n p hI => ?_)
    · obtain ⟨a, b⟩ := p
      obtain ⟨ea, eb⟩ := hI
      dsimp only at ea eb ⊢
      subst ea eb
      obtain ⟨g1, g2⟩ := hg w hw
      rw [wX10_worldsWithAtMost_h4, nworlds_r q h, t_sbe, if_pos ((o_lt (by omega) (by omega)).2 hw), at_o (n := 512) rfl (by omega) (by omega), t_sbe, g1]
      unfold wX10_worldsWithAtMost_j33
      by_cases c : g w ≤ k
      · rw [if_neg (fun d => by have := (o_lt (by omega) (by omega)).1 d; omega), o_1, o_1]
        exact ⟨(_, _), rfl, congrArg Int32.ofNat (cnt_t (p := fun w => decide (g w ≤ k)) (decide_eq_true c)).symm, rfl⟩
      · rw [if_pos ((o_lt (by omega) (by omega)).2 (by omega)), o_1]
        exact ⟨(_, _), rfl, congrArg Int32.ofNat (cnt_f (p := fun w => decide (g w ≤ k)) (decide_eq_false c)).symm, rfl⟩
    · obtain ⟨a, b⟩ := p
      obtain ⟨ea, eb⟩ := hI
      dsimp only at ea eb ⊢
      subst ea eb
      rw [wX10_worldsWithAtMost_h4, nworlds_r q h, t_sbe, if_neg (fun c => by have := (o_lt (by omega) (by omega)).1 c; omega)]
  rw [e, t_sbe]
end CF
end
section
/-! The reference counts the FALSE ones; KEPT WORLDS on both sides; wrong, kept, may. -/
theorem b_f {α : Type} {a b : α} : (if false = true then a else b) = b := rfl
/-- is looked at -/
noncomputable def lkb (f : Nat → Int32) (a : Nat) : Bool := decide (f (42 + 5 * a + 4) = 0) && (decide (f 4 = -1) || decide ((a : Int) < (f 4).toInt))
theorem lkb_E {f : Nat → Int32} {r : wS} (hf : r.1 163 = f) {a : Nat} (ha : a < 40) : wX11_isLookedAt (Int32.ofNat a) r = some (if lkb f a = true then 1 else 0) := by
  have ea : (Int32.ofNat a).toInt = a := t_on (by omega)
  unfold wX11_isLookedAt wX11_isLookedAt_j29 lkb
  rw [answerOf_E (a := a) (w := 4) ha ea (by decide) rfl, t_sbe, hf]
  by_cases z : f (42 + 5 * a + 4) = 0
  · rw [if_pos z, decide_eq_true z, Bool.true_and]
    by_cases c : f 4 = -1
    · rw [if_pos c, decide_eq_true c]
      rfl
    · rw [if_neg c, decide_eq_false c, Bool.false_or]
      by_cases d : Int32.ofNat a < f 4
      · have := t_lt d
        rw [if_pos d, decide_eq_true (show (a : Int) < (f 4).toInt by omega)]
        rfl
      · have := t_ge d
        rw [if_neg d, decide_eq_false (show ¬ (a : Int) < (f 4).toInt by omega)]
        rfl
  · rw [if_neg z, decide_eq_false z]
    rfl
/-- what the class calls the first of them -/
noncomputable def FV1 (f : Nat → Int32) (v : Int32) : Prop := ∀ a : Nat, (a : Int) < (f 3).toInt → ((a : Int) < v.toInt ↔ (f 4 = -1 ∨ (a : Int) < (f 4).toInt))
theorem lkv_b {f : Nat → Int32} {v : Int32} (hv : FV1 f v) {a : Nat} (ha : (a : Int) < (f 3).toInt) : lkv f v a = lkb f a := by
  unfold lkv lkb
  rw [decide_eq_true ha, Bool.true_and, decide_eq_decide.2 (hv a ha), Bool.decide_or, Bool.and_comm]
/-- what is FALSE of those that are looked at, one left out -/
noncomputable def wrg (x : lC) (f : Nat → Int32) (but : Int32) (w : Nat) : Nat := fan x f (fun a => lkb f a && !decide (Int32.ofNat a = but)) w (nk f 3)
theorem wrg_le {x : lC} {f : Nat → Int32} {but : Int32} {w : Nat} (h : (f 3).toInt ≤ 40) : wrg x f but w ≤ 40 := by
  have := fan_le (x := x) (f := f) (P := fun a => lkb f a && !decide (Int32.ofNat a = but)) (w := w) (n := nk f 3)
  have e : nk f 3 = (f 3).toNatClampNeg := rfl
  unfold wrg
  by_cases c : 0 ≤ (f 3).toInt
  · have := t_cln c
    omega
  · have : (f 3).toNatClampNeg = 0 := by
      unfold Int32.toNatClampNeg
      omega
    omega
theorem fan_wrg {x : lC} {f : Nat → Int32} {v but : Int32} (h0 : 0 ≤ (f 3).toInt) (h40 : (f 3).toInt ≤ 40) (hv : FV1 f v) {w : Nat} : fan x f (selv f v (-1) but) w 40 = wrg x f but w := by
  have e := t_cln h0
  have e2 : nk f 3 = (f 3).toNatClampNeg := rfl
  unfold wrg fan
  rw [cnt_ext (n := nk f 3) (by omega) (fun a h1 _ => ?_)]
  · refine cnt_cg (fun a ha => ?_)
    have hl : (a : Int) < (f 3).toInt := by omega
    unfold selv
    rw [lkv_b hv hl, decide_eq_true (rfl : (-1 : Int32) = -1), Bool.true_or, Bool.true_and]
  · have : lkv f v a = false := Bool.eq_false_iff.2 (fun h => by have := lkv_lt h; omega)
    unfold selv
    rw [this, Bool.false_and, Bool.false_and]
/-- the reference's state, once it has reached -/
noncomputable def RCH (x : lC) (f : Nat → Int32) (r : wS) : Prop := r.1 163 = f ∧ CFt f ∧ AF f ∧ (0 ≤ (f 3).toInt ∧ (f 3).toInt ≤ 40) ∧ FR x f r
section KP
variable {s : wS} {x : lC} {l : Nat} {f : Nat → Int32} {r : wS}
theorem RCH.go (c : RCH x f r) {t : wS} (h1 : t.1 163 = r.1 163) (h2 : t.2 = r.2) : RCH x f t := ⟨h1.trans c.1, c.2.1, c.2.2.1, c.2.2.2.1, fun kd a b hk ha hb hT => by rw [h2]; exact c.2.2.2.2 kd a b hk ha hb hT⟩
theorem RCH.n3 (c : RCH x f r) : f 3 = Int32.ofNat (nk f 3) ∧ nk f 3 ≤ 40 := by
  have e := t_cln c.2.2.2.1.1
  have e2 : nk f 3 = (f 3).toNatClampNeg := rfl
  have := c.2.2.2.1.2
  exact ⟨(t_oc c.2.2.2.1.1).symm, by omega⟩
theorem QS.f3 (q : QS l x s) : 0 ≤ (s.1 163 3).toInt ∧ (s.1 163 3).toInt ≤ 40 := q.1.c.2.2.2.2.1
theorem QS.rc (q : QS l x s) : ∃ r, wX11_reaches (Int32.ofNat l) s = some r ∧ RCH x (s.1 163) r := by
  obtain ⟨r, er, rf, d⟩ := reaches_E q
  exact ⟨r, er, rf.f, q.2.2.2.2.2, q.1.af, q.f3, d⟩
theorem RCH.tr (c : RCH x f r) {a w : Nat} (ha : a < nk f 3) (hw : w < nW f) : wX11_isTrue (Int32.ofNat a) (Int32.ofNat w) r = some (if trw x f a w = true then 1 else 0) := by
  have e := t_cln c.2.2.2.1.1
  have e2 : nk f 3 = (f 3).toNatClampNeg := rfl
  exact isTrue11_E c.1 c.2.1 c.2.2.1 c.2.2.2.1.2 c.2.2.2.2 (by omega) hw
theorem worlds11 (hf : r.1 163 = f) (cf : CFt f) : wX11_worlds r = some (Int32.ofNat (nW f)) := by
  have h0 := (cf 0 (by decide)).1
  have h1 := (cf 1 (by decide)).1
  have h2 := (cf 2 (by decide)).1
  unfold wX11_worlds nW
  rw [hf, h0, h1, h2, o_mul, o_mul]
theorem RCH.nw (c : RCH x f r) : wX11_worlds r = some (Int32.ofNat (nW f)) := worlds11 c.1 c.2.1
theorem wrongIn_E (c : RCH x f r) {but : Int32} {w : Nat} (hw : w < nW f) : wX11_wrongIn (Int32.ofNat w) but r = some (Int32.ofNat (wrg x f but w)) := by
  obtain ⟨n3, n40⟩ := c.n3
  unfold wX11_wrongIn
  have e : wX11_wrongIn_h5 (Int32.ofNat w) but r wFuel 0 0 = some (Int32.ofNat (wrg x f but w)) := by
    refine loop_P (L := fun n (p : Int32 × Int32) => wX11_wrongIn_h5 (Int32.ofNat w) but r n p.1 p.2) (N := nk f 3) (I := fun a p => p.1 = Int32.ofNat (fan x f (fun a => lkb f a && !decide (Int32.ofNat a = but)) w a) ∧ p.2 = Int32.ofNat a) (x := (0, 0)) (by omega) ⟨rfl, rfl⟩ (fun n a p ha hI => ?_) (fun n p hI => ?_)
    · obtain ⟨u, v⟩ := p
      obtain ⟨ea, eb⟩ := hI
      dsimp only at ea eb ⊢
      subst ea eb
      rw [wX11_wrongIn_h5, c.1, n3, if_pos ((o_lt (by omega) (by omega)).2 ha)]
      unfold wX11_wrongIn_j46 wX11_wrongIn_j47
      rw [o_1, fan_s]
      by_cases d : Int32.ofNat a = but
      · rw [if_pos d, decide_eq_true d, Bool.not_true, Bool.and_false, Bool.false_and]
        exact ⟨(_, _), rfl, o_add (b := 0), rfl⟩
      · rw [if_neg d, lkb_E c.1 (by omega), t_sbe, decide_eq_false d, Bool.not_false, Bool.and_true]
        cases lb : lkb f a
        · rw [b_f, qi0, Bool.false_and]
          exact ⟨(_, _), rfl, o_add (b := 0), rfl⟩
        · rw [if_pos rfl, qi1, c.tr ha hw, t_sbe, Bool.true_and]
          cases tr : trw x f a w
          · rw [b_f, qi0]
            exact ⟨(_, _), rfl, o_add (b := 1), rfl⟩
          · rw [if_pos rfl, qi1]
            exact ⟨(_, _), rfl, o_add (b := 0), rfl⟩
    · obtain ⟨u, v⟩ := p
      obtain ⟨ea, eb⟩ := hI
      dsimp only at ea eb ⊢
      subst ea eb
      rw [wX11_wrongIn_h5, c.1, n3, if_neg (fun c => by have := (o_lt (by omega) (by omega)).1 c; omega)]
      rfl
  rw [e, t_sbe]
/-- is KEPT -/
noncomputable def kpt (x : lC) (f : Nat → Int32) (but : Int32) (k w : Nat) : Bool := decide (wrg x f but w ≤ k)
theorem stZ_o {k n i : Nat} {v : Int32} {s : wS} (h : i < n) (hn : n ≤ 2400) : wstZ s k n (Int32.ofNat i) v = some (wupI s k i (vp_nar .boolean v)) := by
  unfold wstZ
  rw [if_neg (t_ix (by rw [t_on (by omega)]; omega) (by rw [t_on (by omega)]; omega)), t_nc (by omega)]
/-- the row of KEPT WORLDS -/
noncomputable def KWR (f : Nat → Int32) (K : Nat → Bool) (r : wS) (n : Nat) : Prop := ∀ w, w < n → r.1 165 w = if K w = true then 1 else 0
theorem keeps_E (q : QS l x s) {k : Nat} (hk : k ≤ 100) {but : Int32} : Tot (wX11_keeps (Int32.ofNat l) (Int32.ofNat k) but s) (fun p => p.1 = Int32.ofNat (cnt (kpt x (s.1 163) but k) (nW (s.1 163))) ∧ RCH x (s.1 163) p.2 ∧ KWR (s.1 163) (kpt x (s.1 163) but k) p.2 (nW (s.1 163))) := by
  have w5 := q.2.2.2.2.2.w.1
  obtain ⟨r0, er, c0⟩ := q.rc
  unfold wX11_keeps
  rw [er, t_sbe]
  refine t_bind (P := fun p => p.1 = Int32.ofNat (cnt (kpt x (s.1 163) but k) (nW (s.1 163))) ∧ RCH x (s.1 163) p.2 ∧ KWR (s.1 163) (kpt x (s.1 163) but k) p.2 (nW (s.1 163))) ?_ (fun p h => t_some h)
  refine loop_N (L := fun n (p : Int32 × Int32 × wS) => wX11_keeps_h11 (Int32.ofNat k) but n p.1 p.2.1 p.2.2) (N := nW (s.1 163)) (I := fun w p => p.1 = Int32.ofNat (cnt (kpt x (s.1 163) but k) w) ∧ p.2.1 = Int32.ofNat w ∧ RCH x (s.1 163) p.2.2 ∧ KWR (s.1 163) (kpt x (s.1 163) but k) p.2.2 w) (x := (0, 0, r0)) (by omega) ⟨rfl, rfl, c0, fun w h => absurd h (by omega)⟩ (fun n w p hw hI => ?_) (fun n p hI => ?_)
  · obtain ⟨a, b, r⟩ := p
    obtain ⟨ea, eb, c, z⟩ := hI
    dsimp only at ea eb c z ⊢
    subst ea eb
    have w40 := wrg_le (x := x) (f := s.1 163) (but := but) (w := w) q.f3.2
    rw [wX11_keeps_h11, c.nw, t_sbe, if_pos ((o_lt (by omega) (by omega)).2 hw), wrongIn_E c hw, t_sbe]
    unfold wX11_keeps_j42 wX11_keeps_j60
    have kr : ∀ v : Int32, v = (if kpt x (s.1 163) but k w = true then 1 else 0) → KWR (s.1 163) (kpt x (s.1 163) but k) (wupI r 165 w v) (w + 1) := fun v hv u hu => by
      rw [upI_at]
      by_cases d : u = w
      · rw [if_pos d, d]
        exact hv
      · rw [if_neg d]
        exact z u (by omega)
    by_cases d : wrg x (s.1 163) but w ≤ k
    · have kt : kpt x (s.1 163) but k w = true := decide_eq_true d
      rw [if_neg (fun d => by have := (o_lt (by omega) (by omega)).1 d; omega), stZ_o (by omega) (by omega), t_sbe, ldI_o (by omega) (by omega), t_sbe, upI_at, if_pos rfl, show vp_nar .boolean 1 = 1 from rfl, qi1, o_1, o_1]
      exact ⟨(_, _, _), rfl, congrArg Int32.ofNat (cnt_t kt).symm, rfl, c.go (wupI_n (by decide)) rfl, kr 1 (by rw [kt]; rfl)⟩
    · have kt : kpt x (s.1 163) but k w = false := decide_eq_false d
      rw [if_pos ((o_lt (by omega) (by omega)).2 (by omega)), stZ_o (by omega) (by omega), t_sbe, ldI_o (by omega) (by omega), t_sbe, upI_at, if_pos rfl, show vp_nar .boolean 0 = 0 from rfl, qi0, o_z, o_1]
      exact ⟨(_, _, _), rfl, congrArg Int32.ofNat (cnt_f kt).symm, rfl, c.go (wupI_n (by decide)) rfl, kr 0 (by rw [kt]; rfl)⟩
  · obtain ⟨a, b, r⟩ := p
    obtain ⟨ea, eb, c, z⟩ := hI
    dsimp only at ea eb c z ⊢
    subst ea eb
    rw [wX11_keeps_h11, c.nw, t_sbe, if_neg (fun c => by have := (o_lt (by omega) (by omega)).1 c; omega)]
    exact t_some ⟨rfl, c, z⟩
theorem in64_E {y : Int32} {a b : Int64} {A B : Int} (ha : a.toInt = A) (hb : b.toInt = B) : wX11_in y.toInt64 a b s = some (if A ≤ y.toInt ∧ y.toInt ≤ B then 1 else 0) := by
  unfold wX11_in
  by_cases c : y.toInt64 < a
  · have := Int64.lt_iff_toInt_lt.1 c
    rw [Int32.toInt_toInt64] at this
    rw [if_pos c, if_neg (by omega)]
  · have h1 : A ≤ y.toInt := by
      rw [← ha, ← Int32.toInt_toInt64 y]
      exact Int.not_lt.1 (fun h => c (Int64.lt_iff_toInt_lt.2 h))
    rw [if_neg c]
    by_cases d : b < y.toInt64
    · have := Int64.lt_iff_toInt_lt.1 d
      rw [Int32.toInt_toInt64] at this
      rw [if_pos d, if_neg (by omega)]
    · have h2 : y.toInt ≤ B := by
        rw [← hb, ← Int32.toInt_toInt64 y]
        exact Int.not_lt.1 (fun h => d (Int64.lt_iff_toInt_lt.2 h))
      rw [if_neg d, if_pos ⟨h1, h2⟩]
theorem isMany_E {y : Int32} : wX11_isMany y s = some (if 0 ≤ y.toInt ∧ y.toInt ≤ 40 then 1 else 0) := by
  unfold wX11_isMany
  rw [in64_E (A := 0) (B := 40) rfl rfl, t_sbe]
  by_cases c : 0 ≤ y.toInt ∧ y.toInt ≤ 40
  · rw [if_pos c]
    rfl
  · rw [if_neg c]
    rfl
/-- the class's tally of WORLDS -/
noncomputable def TLY (k1 : Nat) (f : Nat → Int32) (P : Nat → Bool) (n : Nat) (r : wS) : Prop := r.1 k1 1 = Int32.ofNat (cnt P n) ∧ ∀ kd t, kd < 3 → t < 8 → r.1 (k1 + 1) (8 * kd + t) = Int32.ofNat (cnt (fun w => P w && decide (thn f kd w = t)) n)
theorem addOne_E {k1 i : Nat} (hk : k1 = 35 ∨ k1 = 37) (hi : i < 24) : wX7_addOne k1 (Int32.ofNat i) s = some (wupI s (k1 + 1) i (s.1 (k1 + 1) i + 1)) := by
  have hw : wln (k1 + 1) = 24 := by
    rcases hk with h | h <;> rw [h] <;> rfl
  unfold wX7_addOne
  rw [at_o hw (by omega) hi, t_sbe, set_o hw (by omega) hi, t_sbe]
theorem tally_E {k1 h r m : Nat} (hk : k1 = 35 ∨ k1 = 37) (hh : h < 8) (hr : r < 8) (hm : m < 8) : Tot (wX7_add k1 (Int32.ofNat h) (Int32.ofNat r) (Int32.ofNat m) s) (fun u => FK k1 (k1 + 1) s u ∧ u.1 k1 1 = s.1 k1 1 + 1 ∧ ∀ kd t, kd < 3 → t < 8 → u.1 (k1 + 1) (8 * kd + t) = s.1 (k1 + 1) (8 * kd + t) + (if (kd = 0 ∧ t = h) ∨ (kd = 1 ∧ t = r) ∨ (kd = 2 ∧ t = m) then 1 else 0)) := by
  unfold wX7_add wpfI
  rw [slot_o0 hh, t_sbe, addOne_E hk (by omega), t_sbe, slot_o1 hr, t_sbe, addOne_E hk (by omega), t_sbe, slot_o2 hm, t_sbe, addOne_E hk (by omega), t_sbe, t_sbe]
  refine t_some ⟨(FK_I (by omega) (by omega)).trans ((FK_I (by omega) (by omega)).trans ((FK_I (by omega) (by omega)).trans (FK_I (by omega) (by omega)))), ?_, fun kd t hkd ht => ?_⟩
  · rw [upI_at, if_pos rfl, wupI_n (by omega), wupI_n (by omega), wupI_n (by omega)]
  · rw [wupI_n (by omega), upI_at, upI_at, upI_at, upI_at, upI_at, upI_at]
    rw [if_neg (show ¬ 8 * 1 + r = 8 * 0 + h by omega), if_neg (show ¬ 8 * 2 + m = 8 * 1 + r by omega), if_neg (show ¬ 8 * 2 + m = 8 * 0 + h by omega)]
    obtain rfl | rfl | rfl : kd = 0 ∨ kd = 1 ∨ kd = 2 := by omega
    · rw [if_neg (show ¬ 8 * 0 + t = 8 * 2 + m by omega), if_neg (show ¬ 8 * 0 + t = 8 * 1 + r by omega)]
      by_cases c : t = h
      · rw [if_pos (by omega), if_pos (Or.inl ⟨rfl, c⟩), c]
      · rw [if_neg (by omega), if_neg (by omega), Int32.add_zero]
    · rw [if_neg (show ¬ 8 * 1 + t = 8 * 2 + m by omega), if_neg (show ¬ 8 * 1 + t = 8 * 0 + h by omega)]
      by_cases c : t = r
      · rw [if_pos (by omega), if_pos (Or.inr (Or.inl ⟨rfl, c⟩)), c]
      · rw [if_neg (by omega), if_neg (by omega), Int32.add_zero]
    · rw [if_neg (show ¬ 8 * 2 + t = 8 * 1 + r by omega), if_neg (show ¬ 8 * 2 + t = 8 * 0 + h by omega)]
      by_cases c : t = m
      · rw [if_pos (by omega), if_pos (Or.inr (Or.inr ⟨rfl, c⟩)), c]
      · rw [if_neg (by omega), if_neg (by omega), Int32.add_zero]
/-- of one MAN or of all -/
noncomputable def mnb (f : Nat → Int32) (man : Int32) (w : Nat) : Bool := decide (man = -1) || decide (Int32.ofNat (thn f 2 w) = man)
theorem fillKept_E (q : QS l x s) {k1 : Nat} (hk1 : k1 = 35 ∨ k1 = 37) {g : Nat → Nat} (hg : ∀ w, w < nW (s.1 163) → s.1 33 w = Int32.ofNat (g w) ∧ g w ≤ 100) {k : Nat} (hk : k ≤ 100) {man : Int32} : Tot (wX10_fillKept k1 (Int32.ofNat k) man s) (fun r => FK k1 (k1 + 1) s r ∧ TLY k1 (s.1 163) (fun w => decide (g w ≤ k) && mnb (s.1 163) man w) (nW (s.1 163)) r) := by
  have cf := q.2.2.2.2.2
  have w5 := cf.w.1
  have c0 := (cf 0 (by decide)).2.2
  have c1 := (cf 1 (by decide)).2.2
  have c2 := (cf 2 (by decide)).2.2
  have hw : wln (k1 + 1) = 24 := by
    rcases hk1 with h | h <;> rw [h] <;> rfl
  unfold wX10_fillKept wX7_clear
  obtain ⟨s2, e2, f2, z2⟩ := empty_E (s := s) (k := k1 + 1) (n := 24) hw (by omega)
  rw [e2, t_sbe]
  unfold wpfI
  rw [t_sbe, t_sbe]
  have f3 : FK k1 (k1 + 1) s (wupI s2 k1 1 0) := (f2.mono (by omega) (by omega)).trans (FK_I (by omega) (by omega))
  refine t_bind (P := fun r => FK k1 (k1 + 1) s r ∧ TLY k1 (s.1 163) (fun w => decide (g w ≤ k) && mnb (s.1 163) man w) (nW (s.1 163)) r) ?_ (fun r h => t_some h)
  refine world3 cf (I := fun w r => FK k1 (k1 + 1) s r ∧ TLY k1 (s.1 163) (fun w => decide (g w ≤ k) && mnb (s.1 163) man w) w r) (A2 := fun h r => wX10_fillKept_h48 k1 (Int32.ofNat k) man (Int32.ofNat h) (Int32.ofNat r)) (A1 := fun h => wX10_fillKept_h29 k1 (Int32.ofNat k) man (Int32.ofNat h)) (A0 := wX10_fillKept_h10 k1 (Int32.ofNat k) man) ?_ ?_ ?_ ?_ ?_ ?_ ⟨f3, ?_, fun kd t hkd ht => ?_⟩
  · intro h r n m t hh hr hm it
    obtain ⟨fk, y1, y2⟩ := it
    obtain ⟨wl, t0, t1, t2⟩ := thn_w hh hr hm
    generalize ew : (h * nk (s.1 163) 1 + r) * nk (s.1 163) 2 + m = w at *
    obtain ⟨g1, g2⟩ := hg w wl
    have r33 : t.1 33 w = Int32.ofNat (g w) := by rw [fk.1 33 (by omega), g1]
    -- not counted
    have no : (decide (g w ≤ k) && mnb (s.1 163) man w) = false → TLY k1 (s.1 163) (fun w => decide (g w ≤ k) && mnb (s.1 163) man w) (w + 1) t := fun d => by
      refine ⟨?_, fun kd u hkd hu => ?_⟩
      · rw [y1, cnt_f (n := w) d]
      · rw [y2 kd u hkd hu, cnt_f (n := w) (by dsimp only; rw [d, Bool.false_and])]
    rw [wX10_fillKept_h48, many_r2 q (fk.1 16 (by omega)), t_sbe, if_pos ((o_lt (by omega) (by omega)).2 hm), at_o (n := 512) rfl (by omega) (by omega), t_sbe, r33]
    unfold wX10_fillKept_j98 wX10_fillKept_j88 wX10_fillKept_j98
    by_cases c : g w ≤ k
    · rw [if_neg (fun d => by have := (o_lt (by omega) (by omega)).1 d; omega)]
      -- counted
      have yes : mnb (s.1 163) man w = true → ∃ s', ((wX7_add k1 (Int32.ofNat h) (Int32.ofNat r) (Int32.ofNat m) t).bind fun s18 => wX10_fillKept_h48 k1 (Int32.ofNat k) man (Int32.ofNat h) (Int32.ofNat r) n (Int32.ofNat (w + 1)) (Int32.ofNat (m + 1)) s18) = wX10_fillKept_h48 k1 (Int32.ofNat k) man (Int32.ofNat h) (Int32.ofNat r) n (Int32.ofNat (w + 1)) (Int32.ofNat (m + 1)) s' ∧ FK k1 (k1 + 1) s s' ∧ TLY k1 (s.1 163) (fun w => decide (g w ≤ k) && mnb (s.1 163) man w) (w + 1) s' := fun d => by
        obtain ⟨u, eu, fu, a1, a2⟩ := tally_E (s := t) hk1 (show h < 8 by omega) (show r < 8 by omega) (show m < 8 by omega)
        rw [eu, t_sbe]
        have b : (decide (g w ≤ k) && mnb (s.1 163) man w) = true := by rw [decide_eq_true c, d]; rfl
        refine ⟨u, rfl, fk.trans fu, ?_, fun kd v hkd hv => ?_⟩
        · rw [a1, y1, o_1, cnt_t (n := w) b]
        · have e : cnt (fun w => (decide (g w ≤ k) && mnb (s.1 163) man w) && decide (thn (s.1 163) kd w = v)) (w + 1) = cnt (fun w => (decide (g w ≤ k) && mnb (s.1 163) man w) && decide (thn (s.1 163) kd w = v)) w + ((decide (g w ≤ k) && mnb (s.1 163) man w) && decide (thn (s.1 163) kd w = v)).toNat := rfl
          rw [a2 kd v hkd hv, y2 kd v hkd hv, e, b, Bool.true_and]
          obtain rfl | rfl | rfl : kd = 0 ∨ kd = 1 ∨ kd = 2 := by omega
          · rw [t0]
            by_cases z : v = h
            · rw [if_pos (Or.inl ⟨rfl, z⟩), decide_eq_true z.symm]
              exact o_1
            · rw [if_neg (by omega), decide_eq_false (fun q => z q.symm)]
              exact o_z
          · rw [t1]
            by_cases z : v = r
            · rw [if_pos (Or.inr (Or.inl ⟨rfl, z⟩)), decide_eq_true z.symm]
              exact o_1
            · rw [if_neg (by omega), decide_eq_false (fun q => z q.symm)]
              exact o_z
          · rw [t2]
            by_cases z : v = m
            · rw [if_pos (Or.inr (Or.inr ⟨rfl, z⟩)), decide_eq_true z.symm]
              exact o_1
            · rw [if_neg (by omega), decide_eq_false (fun q => z q.symm)]
              exact o_z
      rw [o_1, o_1]
      by_cases d : man = -1
      · rw [if_pos d]
        exact yes (by unfold mnb; rw [decide_eq_true d, Bool.true_or])
      · rw [if_neg d]
        by_cases d2 : Int32.ofNat m = man
        · rw [if_pos d2]
          exact yes (by unfold mnb; rw [t2, decide_eq_true d2, Bool.or_true])
        · rw [if_neg d2]
          exact ⟨t, rfl, fk, no (by unfold mnb; rw [t2, decide_eq_false d, decide_eq_false d2]; exact Bool.and_false _)⟩
    · rw [if_pos ((o_lt (by omega) (by omega)).2 (by omega)), o_1, o_1]
      exact ⟨t, rfl, fk, no (by rw [decide_eq_false c, Bool.false_and])⟩
  · intro h r n w t it
    rw [wX10_fillKept_h48, many_r2 q (it.1.1 16 (by omega)), t_sbe, if_neg (fun c => by have := (o_lt (by omega) (by omega)).1 c; omega)]
  · intro h r n w w' t t' hh hr it e
    rw [wX10_fillKept_h29, many_r1 q (it.1.1 16 (by omega)), t_sbe, if_pos ((o_lt (by omega) (by omega)).2 hr), e, t_sbe, o_1]
  · intro h n w t it
    rw [wX10_fillKept_h29, many_r1 q (it.1.1 16 (by omega)), t_sbe, if_neg (fun c => by have := (o_lt (by omega) (by omega)).1 c; omega)]
  · intro h n w w' t t' hh it e
    rw [wX10_fillKept_h10, many_r0 q (it.1.1 16 (by omega)), t_sbe, if_pos ((o_lt (by omega) (by omega)).2 hh), e, t_sbe, o_1]
  · intro n w t it
    rw [wX10_fillKept_h10, many_r0 q (it.1.1 16 (by omega)), t_sbe, if_neg (fun c => by have := (o_lt (by omega) (by omega)).1 c; omega)]
  · rw [upI_at, if_pos rfl]
    rfl
  · rw [wupI_n (by omega), z2 _ (by omega)]
    rfl
theorem TLY.cg {k1 n : Nat} {P Q : Nat → Bool} (h : ∀ w, w < n → P w = Q w) (t : TLY k1 f P n r) : TLY k1 f Q n r := ⟨by rw [t.1, cnt_cg h], fun kd u hk hu => by rw [t.2 kd u hk hu, cnt_cg (fun w hw => by rw [h w hw])]⟩
theorem TLY.wi {k1 n : Nat} (hk : k1 = 35 ∨ k1 = 37) {P : Nat → Bool} (t : TLY k1 f P n r) {kd u : Nat} (hkd : kd < 3) (hu : u < 8) : wX7_with k1 (Int32.ofNat kd) (Int32.ofNat u) r = some (Int32.ofNat (cnt (fun w => P w && decide (thn f kd w = u)) n)) := by
  have hw : wln (k1 + 1) = 24 := by
    rcases hk with h | h <;> rw [h] <;> rfl
  unfold wX7_with
  rw [slot_o hkd hu, t_sbe, at_o hw (by omega) (by omega), t_sbe, t.2 kd u hkd hu]
theorem TLY.fk {k1 n a b : Nat} {P : Nat → Bool} {u : wS} (t : TLY k1 f P n r) (h : FK a b r u) (o : k1 + 1 < a ∨ b < k1) : TLY k1 f P n u := ⟨by rw [h.1 k1 (by omega)]; exact t.1, fun kd v hk hv => by rw [h.1 (k1 + 1) (by omega)]; exact t.2 kd v hk hv⟩
/-- what the class makes of a LAW and k -/
noncomputable def KK (l : Nat) (x : lC) (k : Nat) (s : wS) : Prop := QS l x s ∧ (∀ w, w < nW (s.1 163) → s.1 33 w = Int32.ofNat (wrg x (s.1 163) (-1) w)) ∧ TLY 35 (s.1 163) (kpt x (s.1 163) (-1) k) (nW (s.1 163)) s
theorem withKept_E (g : JB s) (x1 x2 : Int32) : (∃ s2, wX10_lawWithKept x1 x2 s = some (none, s2) ∧ (wX11_canAsk x1 s2 = some 0 ∨ (wX11_canAsk x1 s2 = some 1 ∧ wX11_isMany x2 s2 = some 0))) ∨ (∃ l k s2 x, KK l x k s2 ∧ x1 = Int32.ofNat l ∧ x2 = Int32.ofNat k ∧ k ≤ 40 ∧ wX10_lawWithKept x1 x2 s = some (some (44 + 10 * l), s2) ∧ (∀ u, QS l x u → wX11_canAsk x1 u = some 1) ∧ (∀ u, wX11_isMany x2 u = some 1)) := by
  unfold wX10_lawWithKept
  rcases ask_E g x1 with ⟨e, c⟩ | ⟨l, s2, x, q, hx1, e, hf, c⟩
  · left
    rw [e, t_sbe]
    exact ⟨s, rfl, Or.inl c⟩
  · rw [e, t_sbe]
    dsimp only [Option.elim]
    rw [isOutside_E]
    by_cases d : 0 ≤ x2.toInt ∧ x2.toInt < (41 : Int32).toInt
    · right
      have e41 : (41 : Int32).toInt = 41 := rfl
      have ek := t_cln d.1
      have w40 := fun w => wrg_le (x := x) (f := s2.1 163) (but := -1) (w := w) q.f3.2
      obtain ⟨v, ev, hv⟩ := first_v q.1
      obtain ⟨s3, e3, f3, z3⟩ := countFalse_E q (v := v) (wit := -1) (but := -1)
      have q3 := f3.qs (by omega) (by omega) q
      have hf3 : s3.1 163 = s2.1 163 := f3.f (by omega)
      have z3' : ∀ w, w < nW (s3.1 163) → s3.1 33 w = Int32.ofNat (wrg x (s3.1 163) (-1) w) ∧ wrg x (s3.1 163) (-1) w ≤ 100 := fun w hw => by
        rw [hf3] at hw ⊢
        exact ⟨(z3 w hw).trans (congrArg Int32.ofNat (fan_wrg q.f3.1 q.f3.2 hv)), by have := w40 w; omega⟩
      obtain ⟨s4, e4, f4, t4⟩ := fillKept_E q3 (k1 := 35) (Or.inl rfl) z3' (k := x2.toNatClampNeg) (by omega) (man := -1)
      have hf4 : s4.1 163 = s3.1 163 := f4.f (by omega)
      rw [t_oc d.1] at e4
      refine ⟨l, x2.toNatClampNeg, s4, x, ⟨f4.qs (by omega) (by omega) q3, fun w hw => ?_, ?_⟩, hx1, (t_oc d.1).symm, by omega, ?_, c, fun u => ?_⟩
      · rw [hf4] at hw ⊢
        rw [f4.1 33 (by omega)]
        exact (z3' w hw).1
      · rw [hf4]
        refine t4.cg (fun w _ => ?_)
        unfold mnb kpt
        rw [decide_eq_true (rfl : (-1 : Int32) = -1), Bool.true_or, Bool.and_true]
      · rw [if_pos d, t_sbe, qi0, ev, t_sbe, e3, t_sbe, e4, t_sbe]
      · rw [isMany_E, if_pos (by omega)]
    · left
      have e41 : (41 : Int32).toInt = 41 := rfl
      exact ⟨s2, by rw [if_neg d, t_sbe, qi1], Or.inr ⟨c s2 q, by rw [isMany_E, if_neg (by omega)]⟩⟩
theorem isW2_E (q : QS l x s) (w : Int32) : (∃ v : Nat, w = Int32.ofNat v ∧ v < nW (s.1 163) ∧ wX10_isOutside w (Int32.ofNat (nW (s.1 163))) s = some 0 ∧ ∀ u : wS, u.1 163 = s.1 163 → wX11_isWorld w u = some 1) ∨ (wX10_isOutside w (Int32.ofNat (nW (s.1 163))) s = some 1 ∧ ∀ u : wS, u.1 163 = s.1 163 → wX11_isWorld w u = some 0) := by
  have cf := q.2.2.2.2.2
  have w5 := cf.w.1
  have eN : (Int32.ofNat (nW (s.1 163))).toInt = nW (s.1 163) := t_on (by omega)
  have ew : (Int32.ofNat (nW (s.1 163))).toInt = (s.1 163 0).toInt * (s.1 163 1).toInt * (s.1 163 2).toInt := by
    rw [eN, cf.n (kd := 0) (by decide), cf.n (kd := 1) (by decide), cf.n (kd := 2) (by decide)]
    unfold nW
    rw [Int.natCast_mul, Int.natCast_mul]
  rw [isOutside_E, eN]
  by_cases c : 0 ≤ w.toInt ∧ w.toInt < (nW (s.1 163) : Int)
  · left
    have e := t_cln c.1
    exact ⟨w.toNatClampNeg, (t_oc c.1).symm, by omega, by rw [if_pos c], fun u hu => by rw [isWorld_E q.1 ew hu, eN, if_pos c]⟩
  · right
    exact ⟨by rw [if_neg c], fun u hu => by rw [isWorld_E q.1 ew hu, eN, if_neg c]⟩
theorem op_wrong {x1 x2 : Int32} (g : JB s) : ∃ v s1 v2 s2, wX10_wrong x1 x2 s = some (v, s1) ∧ wX11_wrong x1 x2 s1 = some (v2, s2) ∧ v = v2 := by
  unfold wX10_wrong wX11_wrong
  rcases ask_E g x1 with ⟨e, c⟩ | ⟨l, s2, x, q, hx1, e, hf, c⟩
  · rw [e, t_sbe]
    refine ⟨-1, s, -1, s, rfl, ?_, rfl⟩
    rw [c, t_sbe, qi0]
  · rw [e, t_sbe]
    dsimp only [Option.elim]
    rw [(nworlds_E q).1, t_sbe]
    rcases isW2_E q x2 with ⟨w, hw, wl, d1, d2⟩ | ⟨d1, d2⟩
    · have w5 := q.2.2.2.2.2.w.1
      obtain ⟨v, ev, hv⟩ := first_v q.1
      obtain ⟨s3, e3, f3, z3⟩ := countFalse_E q (v := v) (wit := -1) (but := -1)
      have q3 := f3.qs (by omega) (by omega) q
      have hf3 : s3.1 163 = s2.1 163 := f3.f (by omega)
      obtain ⟨r, er, rc⟩ := q3.rc
      rw [hf3] at rc
      have d3 := d2 s3 hf3
      rw [d1, t_sbe, qi0, ev, t_sbe, e3, t_sbe]
      subst hw
      rw [at_o (n := 512) rfl (by omega) (by omega), t_sbe, z3 w wl]
      refine ⟨_, s3, _, r, rfl, ?_, congrArg Int32.ofNat (fan_wrg q.f3.1 q.f3.2 hv)⟩
      rw [c s3 q3, t_sbe, qi1, d3, t_sbe, qi1, hx1, er, t_sbe, wrongIn_E rc wl, t_sbe]
    · rw [d1, t_sbe, qi1]
      refine ⟨_, _, -1, s2, rfl, ?_, rfl⟩
      rw [c s2 q, t_sbe, qi1, d2 s2 rfl, t_sbe, qi0]
theorem op_kept {x1 x2 : Int32} (g : JB s) : ∃ v s1 v2 s2, wX10_kept x1 x2 s = some (v, s1) ∧ wX11_kept x1 x2 s1 = some (v2, s2) ∧ v = v2 := by
  unfold wX10_kept wX11_kept
  rcases withKept_E g x1 x2 with ⟨s2, e, c⟩ | ⟨l, k, s2, x, ⟨q, z, t⟩, hx1, hx2, h40, e, c, m⟩
  · rw [e, t_sbe]
    refine ⟨-1, s2, -1, s2, rfl, ?_, rfl⟩
    rcases c with c | ⟨c, m⟩
    · rw [c, t_sbe, qi0]
    · rw [c, t_sbe, qi1, m, t_sbe, qi0]
  · rw [e, t_sbe]
    dsimp only [Option.elim]
    obtain ⟨⟨n, r⟩, er, en, rc, kr⟩ := keeps_E q (k := k) (by omega) (but := -1)
    dsimp only at en rc kr
    refine ⟨_, s2, n, r, rfl, ?_, t.1.trans en.symm⟩
    rw [c s2 q, t_sbe, qi1, m s2, t_sbe, qi1, hx1, hx2, er]
    rfl
end KP
end
section
/-! Questions over KEPT WORLDS: may, looks, cleared, sure. -/
theorem cnt_add {p q r : Nat → Bool} : ∀ {n : Nat}, (∀ i, i < n → (p i).toNat = (q i).toNat + (r i).toNat) → cnt p n = cnt q n + cnt r n := by
  intro n
  induction n with
  | zero => intro _; rfl
  | succ n ih =>
    intro h
    have a := ih (fun i hi => h i (by omega))
    have b := h n (by omega)
    show cnt p n + (p n).toNat = cnt q n + (q n).toNat + (cnt r n + (r n).toNat)
    omega
theorem TH.o {f : Nat → Int32} (cf : CFt f) {y z : Int32} (h : TH f y z) : ∃ kd t, y = Int32.ofNat kd ∧ z = Int32.ofNat t ∧ kd < 3 ∧ t < nk f kd ∧ t < 8 := by
  obtain ⟨h1, h2, h3⟩ := h
  have e1 := t_cln h1.1
  have e2 := t_cln h2
  have k3 : y.toNatClampNeg < 3 := by omega
  have n := cf.n k3
  have n8 := (cf _ k3).2.2
  exact ⟨y.toNatClampNeg, z.toNatClampNeg, (t_oc h1.1).symm, (t_oc h2).symm, k3, by omega, by omega⟩
/-- ints by their bits -/
theorem bit_ext {a b : Int32} (h : ∀ k, k < 32 → bit a k = bit b k) : a = b := Int32.toBitVec_inj.1 (BitVec.eq_of_getLsbD_eq (fun k hk => h k hk))
theorem bt_and {a b : Int32} {k : Nat} : bit (a &&& b) k = (bit a k && bit b k) := by
  unfold bit
  rw [Int32.toBitVec_and, BitVec.getLsbD_and]
theorem bt_not {a : Int32} {k : Nat} (h : k < 32) : bit (a ^^^ (-1)) k = !bit a k := by
  have e : ∀ k, k < 32 → bit (-1) k = true := by decide +kernel
  have e2 : bit (a ^^^ (-1)) k = (bit a k ^^ bit (-1) k) := by
    unfold bit
    rw [Int32.toBitVec_xor, BitVec.getLsbD_xor]
  rw [e2, e k h, Bool.xor_true]
theorem bt_all {n k : Nat} (hn : n ≤ 8) (hk : k < 32) : bit ((1 <<< (Int32.ofNat n &&& 31)) - 1) k = decide (k < n) := by
  have : ∀ n, n < 9 → ∀ k, k < 32 → bit ((1 <<< (Int32.ofNat n &&& 31)) - 1) k = decide (k < n) := by decide +kernel
  exact this n (by omega) k hk
section QU
variable {s : wS} {x : lC} {l : Nat} {f : Nat → Int32} {r : wS}
theorem withAny_E {k1 n kd : Nat} {P : Nat → Bool} {th : Int32} (hk : k1 = 35 ∨ k1 = 37) (t : TLY k1 f P n r) (hn : n ≤ 512) (hkd : kd < 3) (h8 : ∀ w, w < n → thn f kd w < 8) : wX7_withAny k1 (Int32.ofNat kd) th r = some (Int32.ofNat (cnt (fun w => P w && bit th (thn f kd w)) n)) := by
  unfold wX7_withAny
  have e : wX7_withAny_h5 k1 (Int32.ofNat kd) th r wFuel 0 0 = some (Int32.ofNat (cnt (fun w => P w && bit th (thn f kd w)) n)) := by
    refine loop_P (L := fun n (p : Int32 × Int32) => wX7_withAny_h5 k1 (Int32.ofNat kd) th r n p.1 p.2) (N := 8) (I := fun j p => p.1 = Int32.ofNat (cnt (fun w => P w && (bit th (thn f kd w) && decide (thn f kd w < j))) n) ∧ p.2 = Int32.ofNat j) (x := (0, 0)) (by omega) ⟨?_, rfl⟩ (fun m j p hj hI => ?_) (fun m p hI => ?_)
    · rw [cnt_0 (fun w _ => by rw [decide_eq_false (Nat.not_lt_zero _), Bool.and_false, Bool.and_false])]
      rfl
    · obtain ⟨a, b⟩ := p
      obtain ⟨ea, eb⟩ := hI
      dsimp only at ea eb ⊢
      subst ea eb
      have two : ∀ w, decide (thn f kd w < j + 1) = (decide (thn f kd w < j) || decide (thn f kd w = j)) := fun w => by
        rw [← Bool.decide_or]
        exact decide_eq_decide.2 (by omega)
      rw [wX7_withAny_h5, if_pos (show Int32.ofNat j < 8 from (o_lt (a := j) (b := 8) (by omega) (by omega)).2 hj)]
      unfold wX7_withAny_j32
      by_cases c : bit th j = true
      · rw [if_pos ((bt_t (by omega)).2 c), t.wi hk hkd hj, t_sbe, o_add, o_1]
        refine ⟨(_, _), rfl, congrArg Int32.ofNat (cnt_add (fun w hw => ?_)).symm, rfl⟩
        rw [two w]
        by_cases d : thn f kd w = j
        · rw [d, c, decide_eq_true rfl, decide_eq_false (Nat.lt_irrefl _)]
          cases P w <;> rfl
        · rw [decide_eq_false d]
          cases P w <;> cases bit th (thn f kd w) <;> cases decide (thn f kd w < j) <;> rfl
      · rw [if_neg (fun h => c ((bt_t (by omega)).1 h)), o_1]
        refine ⟨(_, _), rfl, congrArg Int32.ofNat (cnt_cg (fun w hw => ?_)), rfl⟩
        rw [two w]
        by_cases d : thn f kd w = j
        · rw [d, Bool.eq_false_iff.2 c]
          rfl
        · rw [decide_eq_false d, Bool.or_false]
    · obtain ⟨a, b⟩ := p
      obtain ⟨ea, eb⟩ := hI
      dsimp only at ea eb ⊢
      subst ea eb
      rw [wX7_withAny_h5, if_neg (by decide)]
      exact congrArg some (congrArg Int32.ofNat (cnt_cg (fun w hw => by rw [decide_eq_true (h8 w hw), Bool.and_true])))
  rw [e, t_sbe]
theorem keptWith_E (c : RCH x f r) {K : Nat → Bool} (kr : KWR f K r (nW f)) {kd t : Nat} (hk : kd < 3) (ht : t < 100) : wX11_keptWith (Int32.ofNat kd) (Int32.ofNat t) r = some (Int32.ofNat (cnt (fun w => K w && decide (thn f kd w = t)) (nW f))) := by
  have w5 := c.2.1.w.1
  have n8 := (c.2.1 kd hk).2.2
  unfold wX11_keptWith
  have e : wX11_keptWith_h5 (Int32.ofNat kd) (Int32.ofNat t) r wFuel 0 0 = some (Int32.ofNat (cnt (fun w => K w && decide (thn f kd w = t)) (nW f))) := by
    refine loop_P (L := fun n (p : Int32 × Int32) => wX11_keptWith_h5 (Int32.ofNat kd) (Int32.ofNat t) r n p.1 p.2) (N := nW f) (I := fun w p => p.1 = Int32.ofNat (cnt (fun w => K w && decide (thn f kd w = t)) w) ∧ p.2 = Int32.ofNat w) (x := (0, 0)) (by omega) ⟨rfl, rfl⟩ (fun n w p hw hI => ?_) (fun n p hI => ?_)
    · obtain ⟨a, b⟩ := p
      obtain ⟨ea, eb⟩ := hI
      dsimp only at ea eb ⊢
      subst ea eb
      have tl := thn_lt c.2.1 hk hw
      rw [wX11_keptWith_h5, c.nw, t_sbe, if_pos ((o_lt (by omega) (by omega)).2 hw), ldI_o (by omega) (by omega), t_sbe, kr w hw]
      unfold wX11_keptWith_j40 wX11_keptWith_j41
      cases kk : K w
      · rw [b_f, qi0, o_z, o_1]
        exact ⟨(_, _), rfl, congrArg Int32.ofNat (cnt_f (n := w) (by rw [kk, Bool.false_and])).symm, rfl⟩
      · rw [if_pos rfl, qi1, thingOf_E c.1 c.2.1 hk hw, t_sbe]
        by_cases d : thn f kd w = t
        · rw [if_pos (by rw [d]), o_1, o_1]
          exact ⟨(_, _), rfl, congrArg Int32.ofNat (cnt_t (n := w) (by rw [kk, decide_eq_true d]; rfl)).symm, rfl⟩
        · rw [if_neg (fun h => d ((o_eq (by omega) (by omega)).1 h)), o_z, o_1]
          exact ⟨(_, _), rfl, congrArg Int32.ofNat (cnt_f (n := w) (by rw [kk, decide_eq_false d]; rfl)).symm, rfl⟩
    · obtain ⟨a, b⟩ := p
      obtain ⟨ea, eb⟩ := hI
      dsimp only at ea eb ⊢
      subst ea eb
      rw [wX11_keptWith_h5, c.nw, t_sbe, if_neg (fun c => by have := (o_lt (by omega) (by omega)).1 c; omega)]
  rw [e, t_sbe]
theorem op_may {x1 x2 x3 x4 : Int32} (g : JB s) : ∃ v s1 v2 s2, wX10_may x1 x2 x3 x4 s = some (v, s1) ∧ wX11_may x1 x2 x3 x4 s1 = some (v2, s2) ∧ v = v2 := by
  unfold wX10_may wX11_may
  rcases withKept_E g x1 x2 with ⟨s2, e, c⟩ | ⟨l, k, s2, x, ⟨q, z, t⟩, hx1, hx2, h40, e, c, m⟩
  · rw [e, t_sbe]
    refine ⟨-1, s2, -1, s2, rfl, ?_, rfl⟩
    rcases c with c | ⟨c, m⟩
    · rw [c, t_sbe, qi0]
    · rw [c, t_sbe, qi1, m, t_sbe, qi0]
  · rw [e, t_sbe]
    dsimp only [Option.elim]
    rcases has_E q.1 x3 x4 with ⟨th, a1, a2⟩ | ⟨-, a1, a2⟩
    · obtain ⟨kd, u, h3, h4, k3, u1, u8⟩ := th.o q.2.2.2.2.2
      obtain ⟨⟨n, r⟩, er, en, rc, kr⟩ := keeps_E q (k := k) (by omega) (but := -1)
      dsimp only at en rc kr
      rw [a1, t_sbe, qi1]
      subst h3 h4
      rw [t.wi (Or.inl rfl) k3 u8, t_sbe]
      refine ⟨_, s2, _, r, rfl, ?_, rfl⟩
      rw [c s2 q, t_sbe, qi1, m s2, t_sbe, qi1, a2, t_sbe, qi1, hx1, hx2, er, t_sbe]
      dsimp only
      rw [keptWith_E rc kr k3 (by omega), t_sbe]
    · rw [a1, t_sbe, qi0]
      refine ⟨_, _, -1, s2, rfl, ?_, rfl⟩
      rw [c s2 q, t_sbe, qi1, m s2, t_sbe, qi1, a2, t_sbe, qi0]
theorem op_looks {x1 x2 x3 : Int32} (g : JB s) : ∃ v s1 v2 s2, wX10_looks x1 x2 x3 s = some (v, s1) ∧ wX11_looks x1 x2 x3 s1 = some (v2, s2) ∧ v = v2 := by
  unfold wX10_looks wX11_looks
  rcases withKept_E g x1 x2 with ⟨s2, e, c⟩ | ⟨l, k, s2, x, ⟨q, z, t⟩, hx1, hx2, h40, e, c, m⟩
  · rw [e, t_sbe]
    refine ⟨-1, s2, -1, s2, rfl, ?_, rfl⟩
    rcases c with c | ⟨c, m⟩
    · rw [c, t_sbe, qi0]
    · rw [c, t_sbe, qi1, m, t_sbe, qi0]
  · rw [e, t_sbe]
    dsimp only [Option.elim]
    rcases hasAns_E q.1 x3 with ⟨a, xa, ha, b1, b2⟩ | ⟨-, b1, b2⟩
    · have cf := q.2.2.2.2.2
      have w5 := cf.w.1
      have c40 := q.f3
      have hx3 : x3 = Int32.ofNat a := Int32.toInt_inj.1 (by rw [xa, t_on (by omega)])
      obtain ⟨⟨n, r⟩, er, en, rc, kr⟩ := keeps_E q (k := k) (by omega) (but := -1)
      dsimp only at en rc kr
      obtain ⟨k3, o1, o2, ek, -⟩ := q.1.af a ha
      have n8 := (cf _ k3).2.2
      have an : a < nk (s2.1 163) 3 := by
        have := t_cln c40.1
        have e2 : nk (s2.1 163) 3 = (s2.1 163 3).toNatClampNeg := rfl
        omega
      rw [b1, t_sbe, qi1, (ans_E q.1 ha xa).2.1, t_sbe, hx3, nearThings_E q.1 q.2.1 q.2.2.2.2.1 cf ha, t_sbe, ek, withAny_E (Or.inl rfl) t w5 k3 (fun w hw => by have := thn_lt cf k3 hw; omega), t_sbe, t.1, o_sub (cnt_mono (fun w hw p => by rw [Bool.and_eq_true] at p; exact p.1))]
      rw [hx3] at b2
      have lo : wX11_looks_h39 (Int32.ofNat a) r wFuel 0 0 = some (Int32.ofNat (cnt (fun w => kpt x (s2.1 163) (-1) k w && !trw x (s2.1 163) a w) (nW (s2.1 163)))) := by
        refine loop_P (L := fun n (p : Int32 × Int32) => wX11_looks_h39 (Int32.ofNat a) r n p.1 p.2) (N := nW (s2.1 163)) (I := fun w p => p.1 = Int32.ofNat (cnt (fun w => kpt x (s2.1 163) (-1) k w && !trw x (s2.1 163) a w) w) ∧ p.2 = Int32.ofNat w) (x := (0, 0)) (by omega) ⟨rfl, rfl⟩ (fun n w p hw hI => ?_) (fun n p hI => ?_)
        · obtain ⟨u, v⟩ := p
          obtain ⟨ea, eb⟩ := hI
          dsimp only at ea eb ⊢
          subst ea eb
          rw [wX11_looks_h39, rc.nw, t_sbe, if_pos ((o_lt (by omega) (by omega)).2 hw), ldI_o (by omega) (by omega), t_sbe, kr w hw]
          unfold wX11_looks_j74 wX11_looks_j75
          cases kk : kpt x (s2.1 163) (-1) k w
          · rw [b_f, qi0, o_z, o_1]
            exact ⟨(_, _), rfl, congrArg Int32.ofNat (cnt_f (n := w) (by rw [kk, Bool.false_and])).symm, rfl⟩
          · rw [if_pos rfl, qi1, rc.tr an hw, t_sbe]
            cases tr : trw x (s2.1 163) a w
            · rw [b_f, qi0, o_1, o_1]
              exact ⟨(_, _), rfl, congrArg Int32.ofNat (cnt_t (n := w) (by rw [kk, tr]; rfl)).symm, rfl⟩
            · rw [if_pos rfl, qi1, o_z, o_1]
              exact ⟨(_, _), rfl, congrArg Int32.ofNat (cnt_f (n := w) (by rw [kk, tr]; rfl)).symm, rfl⟩
        · obtain ⟨u, v⟩ := p
          obtain ⟨ea, eb⟩ := hI
          dsimp only at ea eb ⊢
          subst ea eb
          rw [wX11_looks_h39, rc.nw, t_sbe, if_neg (fun c => by have := (o_lt (by omega) (by omega)).1 c; omega)]
      refine ⟨_, s2, Int32.ofNat (cnt (fun w => kpt x (s2.1 163) (-1) k w && !trw x (s2.1 163) a w) (nW (s2.1 163))), r, rfl, ?_, congrArg Int32.ofNat ?_⟩
      · rw [c s2 q, t_sbe, qi1, m s2, t_sbe, qi1, b2, t_sbe, qi1, hx1, hx2, er, t_sbe]
        dsimp only
        rw [lo, t_sbe]
      · have := cnt_add (p := kpt x (s2.1 163) (-1) k) (q := fun w => kpt x (s2.1 163) (-1) k w && bit (nb2 (FVx x (s2.1 163) (Int32.ofNat (akd (s2.1 163) a))) (aone (s2.1 163) a) (aoth (s2.1 163) a) (nk (s2.1 163) (akd (s2.1 163) a))) (thn (s2.1 163) (akd (s2.1 163) a) w)) (r := fun w => kpt x (s2.1 163) (-1) k w && !trw x (s2.1 163) a w) (n := nW (s2.1 163)) (fun w hw => by
          rw [near_bt q ha (thn_lt cf k3 hw), trw_a]
          cases kpt x (s2.1 163) (-1) k w <;> cases tra x (s2.1 163) a (thn (s2.1 163) (akd (s2.1 163) a) w) <;> rfl)
        omega
    · rw [b1, t_sbe, qi0]
      refine ⟨_, _, -1, s2, rfl, ?_, rfl⟩
      rw [c s2 q, t_sbe, qi1, m s2, t_sbe, qi1, b2, t_sbe, qi0]
/-- the things that some WORLD has -/
theorem thingsOf_E {k1 n kd : Nat} {P : Nat → Bool} (hk : k1 = 35 ∨ k1 = 37) (t : TLY k1 f P n r) (hn : n ≤ 512) (hkd : kd < 3) : Tot (wX7_thingsOf k1 (Int32.ofNat kd) r) (fun v => ∀ b, b < 32 → bit v b = (decide (b < 8) && decide (0 < cnt (fun w => P w && decide (thn f kd w = b)) n))) := by
  unfold wX7_thingsOf
  refine t_bind (P := fun v => ∀ b, b < 32 → bit v b = (decide (b < 8) && decide (0 < cnt (fun w => P w && decide (thn f kd w = b)) n))) ?_ (fun r h => t_some h)
  refine loop_N (L := fun n (p : Int32 × Int32) => wX7_thingsOf_h4 k1 (Int32.ofNat kd) r n p.1 p.2) (N := 8) (I := fun j p => (∀ b, b < 32 → bit p.1 b = (decide (b < j) && decide (0 < cnt (fun w => P w && decide (thn f kd w = b)) n))) ∧ p.2 = Int32.ofNat j) (x := (0, 0)) (by omega) ⟨fun b _ => ?_, rfl⟩ (fun m j p hj hI => ?_) (fun m p hI => ?_)
  · rw [decide_eq_false (Nat.not_lt_zero _), Bool.false_and]
    exact bt_0
  · obtain ⟨a, b⟩ := p
    obtain ⟨ea, eb⟩ := hI
    dsimp only at ea eb ⊢
    subst eb
    have cn := cnt_le (p := fun w => P w && decide (thn f kd w = j)) n
    rw [wX7_thingsOf_h4, if_pos (show Int32.ofNat j < 8 from (o_lt (a := j) (b := 8) (by omega) (by omega)).2 hj), t.wi hk hkd hj, t_sbe]
    unfold wX7_thingsOf_j25
    by_cases c : 0 < cnt (fun w => P w && decide (thn f kd w = j)) n
    · rw [if_pos (show (0 : Int32) < Int32.ofNat _ from (o_lt (a := 0) (by omega) (by omega)).2 c), o_1]
      refine ⟨(_, _), rfl, fun b hb => ?_, rfl⟩
      show bit (a ||| (1 <<< (Int32.ofNat j &&& 31))) b = _
      rw [bt_or, ea b hb, bt_1 (by omega) hb]
      by_cases d : b = j
      · rw [d, decide_eq_true c, decide_eq_true rfl, decide_eq_true (Nat.lt_succ_self j), Bool.or_true]
        rfl
      · rw [decide_eq_false d, Bool.or_false, decide_eq_decide.2 (show b < j ↔ b < j + 1 by omega)]
    · rw [if_neg (show ¬ (0 : Int32) < Int32.ofNat _ from fun h => c ((o_lt (a := 0) (by omega) (by omega)).1 h)), o_1]
      refine ⟨(_, _), rfl, fun b hb => ?_, rfl⟩
      show bit a b = _
      rw [ea b hb]
      by_cases d : b = j
      · rw [d, decide_eq_false c, Bool.and_false, Bool.and_false]
      · rw [decide_eq_decide.2 (show b < j ↔ b < j + 1 by omega)]
  · obtain ⟨a, b⟩ := p
    obtain ⟨ea, eb⟩ := hI
    dsimp only at ea eb ⊢
    subst eb
    rw [wX7_thingsOf_h4, if_neg (by decide)]
    exact t_some ea
theorem op_cleared {x1 x2 : Int32} (g : JB s) : ∃ v s1 v2 s2, wX10_cleared x1 x2 s = some (v, s1) ∧ wX11_cleared x1 x2 s1 = some (v2, s2) ∧ v = v2 := by
  unfold wX10_cleared wX11_cleared
  rcases withKept_E g x1 x2 with ⟨s2, e, c⟩ | ⟨l, k, s2, x, ⟨q, z, t⟩, hx1, hx2, h40, e, c, m⟩
  · rw [e, t_sbe]
    refine ⟨-1, s2, -1, s2, rfl, ?_, rfl⟩
    rcases c with c | ⟨c, m⟩
    · rw [c, t_sbe, qi0]
    · rw [c, t_sbe, qi1, m, t_sbe, qi0]
  · rw [e, t_sbe]
    dsimp only [Option.elim]
    have cf := q.2.2.2.2.2
    have w5 := cf.w.1
    have n8 := (cf 2 (by decide)).2.2
    obtain ⟨⟨n, r⟩, er, en, rc, kr⟩ := keeps_E q (k := k) (by omega) (but := -1)
    dsimp only at en rc kr
    obtain ⟨tv, et, bt⟩ := thingsOf_E (Or.inl rfl) t w5 (show 2 < 3 by decide)
    have et : wX7_thingsOf 35 2 s2 = some tv := et
    have mb : wX0_bitsOf 15 2 s2 = some ((1 <<< (Int32.ofNat (nk (s2.1 163) 2) &&& 31)) - 1) := by
      unfold wX0_bitsOf
      rw [many_r2 q rfl, t_sbe]
    have lo : Tot (wX11_cleared_h30 r wFuel 0 0) (fun v => ∀ b, b < 32 → bit v b = (decide (b < nk (s2.1 163) 2) && decide (cnt (fun w => kpt x (s2.1 163) (-1) k w && decide (thn (s2.1 163) 2 w = b)) (nW (s2.1 163)) = 0))) := by
      refine loop_N (L := fun n (p : Int32 × Int32) => wX11_cleared_h30 r n p.1 p.2) (N := nk (s2.1 163) 2) (I := fun j p => (∀ b, b < 32 → bit p.1 b = (decide (b < j) && decide (cnt (fun w => kpt x (s2.1 163) (-1) k w && decide (thn (s2.1 163) 2 w = b)) (nW (s2.1 163)) = 0))) ∧ p.2 = Int32.ofNat j) (x := (0, 0)) (by omega) ⟨fun b _ => ?_, rfl⟩ (fun n j p hj hI => ?_) (fun n p hI => ?_)
      · rw [decide_eq_false (Nat.not_lt_zero _), Bool.false_and]
        exact bt_0
      · obtain ⟨a, b⟩ := p
        obtain ⟨ea, eb⟩ := hI
        dsimp only at ea eb ⊢
        subst eb
        have cn := cnt_le (p := fun w => kpt x (s2.1 163) (-1) k w && decide (thn (s2.1 163) 2 w = j)) (nW (s2.1 163))
        have kw : wX11_keptWith 2 (Int32.ofNat j) r = _ := keptWith_E rc kr (show 2 < 3 by decide) (show j < 100 by omega)
        rw [wX11_cleared_h30, rc.1, (cf 2 (by decide)).1, if_pos ((o_lt (by omega) (by omega)).2 hj), kw, t_sbe]
        unfold wX11_cleared_j60
        by_cases d : cnt (fun w => kpt x (s2.1 163) (-1) k w && decide (thn (s2.1 163) 2 w = j)) (nW (s2.1 163)) = 0
        · rw [if_pos (by rw [d]; rfl), o_1]
          refine ⟨(_, _), rfl, fun b hb => ?_, rfl⟩
          show bit (a ||| (1 <<< (Int32.ofNat j &&& 31))) b = _
          rw [bt_or, ea b hb, bt_1 (by omega) hb]
          by_cases u : b = j
          · rw [u, decide_eq_true d, decide_eq_true rfl, decide_eq_true (Nat.lt_succ_self j), Bool.or_true]
            rfl
          · rw [decide_eq_false u, Bool.or_false, decide_eq_decide.2 (show b < j ↔ b < j + 1 by omega)]
        · rw [if_neg (show ¬ Int32.ofNat _ = 0 from fun h => d ((o_eq (b := 0) (by omega) (by omega)).1 h)), o_1]
          refine ⟨(_, _), rfl, fun b hb => ?_, rfl⟩
          show bit (a ||| 0) b = _
          rw [bt_or, bt_0, Bool.or_false, ea b hb]
          by_cases u : b = j
          · rw [u, decide_eq_false d, Bool.and_false, Bool.and_false]
          · rw [decide_eq_decide.2 (show b < j ↔ b < j + 1 by omega)]
      · obtain ⟨a, b⟩ := p
        obtain ⟨ea, eb⟩ := hI
        dsimp only at ea eb ⊢
        subst eb
        rw [wX11_cleared_h30, rc.1, (cf 2 (by decide)).1, if_neg (fun c => by have := (o_lt (by omega) (by omega)).1 c; omega)]
        exact t_some ea
    obtain ⟨rv, el, bl⟩ := lo
    rw [mb, t_sbe, et, t_sbe]
    refine ⟨_, s2, rv, r, rfl, ?_, bit_ext (fun b hb => ?_)⟩
    · rw [c s2 q, t_sbe, qi1, m s2, t_sbe, qi1, hx1, hx2, er, t_sbe]
      dsimp only
      rw [el, t_sbe]
    · rw [bt_and, bt_all n8 hb, bt_not hb, bt b hb, bl b hb]
      by_cases u : b < nk (s2.1 163) 2
      · rw [decide_eq_true u, decide_eq_true (show b < 8 by omega), Bool.true_and, Bool.true_and, Bool.true_and]
        by_cases d : cnt (fun w => kpt x (s2.1 163) (-1) k w && decide (thn (s2.1 163) 2 w = b)) (nW (s2.1 163)) = 0
        · rw [decide_eq_true d, d]
          rfl
        · rw [decide_eq_false d, decide_eq_true (by omega)]
          rfl
      · rw [decide_eq_false u, Bool.false_and, Bool.false_and]
/-- the bits of few -/
theorem low8 {v : Int32} (h : ∀ b, 8 ≤ b → b < 32 → bit v b = false) : ∃ n, n < 256 ∧ v = Int32.ofNat n := by
  have e : v.toBitVec.toNat < 2 ^ 8 := Nat.lt_pow_two_of_testBit _ (fun i hi => by
    by_cases c : i < 32
    · exact h i hi c
    · exact BitVec.getLsbD_of_ge v.toBitVec i (by omega))
  exact ⟨v.toBitVec.toNat, e, Int32.toBitVec_inj.1 (BitVec.eq_of_toNat_eq (by
    rw [Int32.toBitVec_ofNat', BitVec.toNat_ofNat, Nat.mod_eq_of_lt (by omega)]))⟩
/-- how many bits; the least one -/
noncomputable def wZ : wS := (fun _ _ => 0, fun _ _ => 0)
noncomputable def bc (y : Int32) : Int32 := (wJ6_bitCount_0f7a4 y wZ).getD 0
theorem bc_E {y : Int32} : wJ6_bitCount_0f7a4 y s = some (bc y) := rfl
theorem ntz_E {y : Int32} : wJ6_numberOfTrailingZeros_0f7a4 y s = wJ6_numberOfTrailingZeros_0f7a4 y wZ := rfl
theorem one_8 : ∀ n, n < 256 → (bc (Int32.ofNat n) = 1 → ∃ t, t < 8 ∧ n = 2 ^ t) := by decide +kernel
theorem one_8t : ∀ t, t < 8 → bc (Int32.ofNat (2 ^ t)) = 1 ∧ wJ6_numberOfTrailingZeros_0f7a4 (Int32.ofNat (2 ^ t)) wZ = some (Int32.ofNat t) := by decide +kernel
theorem bt_2 : ∀ t, t < 8 → ∀ b, b < 32 → bit (Int32.ofNat (2 ^ t)) b = decide (b = t) := by decide +kernel
theorem op_sure {x1 x2 x3 : Int32} (g : JB s) : ∃ v s1 v2 s2, wX10_sure x1 x2 x3 s = some (v, s1) ∧ wX11_sure x1 x2 x3 s1 = some (v2, s2) ∧ v = v2 := by
  unfold wX10_sure wX11_sure
  rcases withKept_E g x1 x2 with ⟨s2, e, c⟩ | ⟨l, k, s2, x, ⟨q, z, t⟩, hx1, hx2, h40, e, c, m⟩
  · rw [e, t_sbe]
    refine ⟨-1, s2, -1, s2, rfl, ?_, rfl⟩
    rcases c with c | ⟨c, m⟩
    · rw [c, t_sbe, qi0]
    · rw [c, t_sbe, qi1, m, t_sbe, qi0]
  · rw [e, t_sbe]
    dsimp only [Option.elim]
    have cf := q.2.2.2.2.2
    have w5 := cf.w.1
    have n0 := cf.n (kd := 0) (by decide)
    have n01 := (cf 0 (by decide)).2.1
    have kd_E : wX11_isKind x3 s2 = some (if 0 ≤ x3.toInt ∧ x3.toInt ≤ 2 then 1 else 0) := by
      unfold wX11_isKind
      rw [isCourt_E, if_pos (by omega), t_sbe, qi1, in64_E (A := 0) (B := 2) rfl rfl, t_sbe]
      by_cases d : 0 ≤ x3.toInt ∧ x3.toInt ≤ 2
      · rw [if_pos d, qi1]
      · rw [if_neg d, qi0]
    have e3 : (3 : Int32).toInt = 3 := rfl
    rw [isOutside_E]
    by_cases d : 0 ≤ x3.toInt ∧ x3.toInt ≤ 2
    · obtain ⟨hk, k3⟩ := kd_ofNat d
      generalize x3.toNatClampNeg = kd at hk k3
      subst hk
      have n8 := (cf kd k3).2.2
      obtain ⟨⟨n, r⟩, er, en, rc, kr⟩ := keeps_E q (k := k) (by omega) (but := -1)
      dsimp only at en rc kr
      obtain ⟨tv, et, bt⟩ := thingsOf_E (Or.inl rfl) t w5 k3
      have N5 := cnt_le (p := kpt x (s2.1 163) (-1) k) (nW (s2.1 163))
      -- of the KIND's things, and of the others of KEPT WORLDS
      have part : ∀ u, cnt (kpt x (s2.1 163) (-1) k) (nW (s2.1 163)) = cnt (fun w => kpt x (s2.1 163) (-1) k w && decide (thn (s2.1 163) kd w = u)) (nW (s2.1 163)) + cnt (fun w => kpt x (s2.1 163) (-1) k w && !decide (thn (s2.1 163) kd w = u)) (nW (s2.1 163)) := fun u => cnt_add (fun w _ => by
        cases kpt x (s2.1 163) (-1) k w <;> cases decide (thn (s2.1 163) kd w = u) <;> rfl)
      have guard : wX10_isOutside (Int32.ofNat kd) 3 s2 = some 0 := by
        rw [isOutside_E, if_pos ⟨d.1, by omega⟩]
      rw [if_pos ⟨d.1, by omega⟩, t_sbe, qi0, et, t_sbe, bc_E, t_sbe]
      have ref : ∀ R, wX11_sure_h37 (Int32.ofNat kd) n r wFuel 0 = some R → (wX11_canAsk x1 s2).bind (fun t1 => if t1 = 0 then (some ((-1), s2)) else ((wX11_isMany x2 s2).bind fun t4 => if t4 = 0 then (some ((-1), s2)) else ((wX11_isKind (Int32.ofNat kd) s2).bind fun t7 => if t7 = 0 then (some ((-1), s2)) else ((wX11_keeps x1 x2 (-1) s2).bind fun (t10, s11) => (wX11_sure_h37 (Int32.ofNat kd) t10 s11 wFuel 0).bind fun z19 => (match z19 with | .inl () => some (((Int8.ofInt (-2)).toInt32), s11) | .inr t25 => some (t25, s11)))))) = (match R with | .inl () => some (((Int8.ofInt (-2)).toInt32), r) | .inr t25 => some (t25, r)) := fun R hR => by
        rw [c s2 q, t_sbe, qi1, m s2, t_sbe, qi1, kd_E, if_pos d, t_sbe, qi1, hx1, hx2, er, t_sbe]
        dsimp only
        rw [hR, t_sbe]
      have turn : ∀ n' i, i < nk (s2.1 163) kd → ¬ cnt (fun w => kpt x (s2.1 163) (-1) k w && decide (thn (s2.1 163) kd w = i)) (nW (s2.1 163)) = cnt (kpt x (s2.1 163) (-1) k) (nW (s2.1 163)) → 0 < cnt (kpt x (s2.1 163) (-1) k) (nW (s2.1 163)) → wX11_sure_h37 (Int32.ofNat kd) n r (n' + 1) (Int32.ofNat i) = wX11_sure_h37 (Int32.ofNat kd) n r n' (Int32.ofNat (i + 1)) := fun n' i hi hne hp => by
        have cn := cnt_le (p := fun w => kpt x (s2.1 163) (-1) k w && decide (thn (s2.1 163) kd w = i)) (nW (s2.1 163))
        rw [wX11_sure_h37, ldI_o (by omega) (by omega), t_sbe, rc.1, (cf kd k3).1, if_pos ((o_lt (by omega) (by omega)).2 hi), en, if_pos (show (0 : Int32) < Int32.ofNat _ from (o_lt (a := 0) (by omega) (by omega)).2 hp), keptWith_E rc kr k3 (by omega), t_sbe, if_neg (fun h => hne ((o_eq (by omega) (by omega)).1 h)), o_1]
      by_cases U : ∃ u, u < nk (s2.1 163) kd ∧ 0 < cnt (kpt x (s2.1 163) (-1) k) (nW (s2.1 163)) ∧ cnt (fun w => kpt x (s2.1 163) (-1) k w && decide (thn (s2.1 163) kd w = u)) (nW (s2.1 163)) = cnt (kpt x (s2.1 163) (-1) k) (nW (s2.1 163))
      · obtain ⟨u, hu, hp, hc⟩ := U
        have pu := part u
        have no : ∀ b, ¬ b = u → cnt (fun w => kpt x (s2.1 163) (-1) k w && decide (thn (s2.1 163) kd w = b)) (nW (s2.1 163)) = 0 := fun b hb => by
          have := cnt_mono (p := fun w => kpt x (s2.1 163) (-1) k w && decide (thn (s2.1 163) kd w = b)) (q := fun w => kpt x (s2.1 163) (-1) k w && !decide (thn (s2.1 163) kd w = u)) (n := nW (s2.1 163)) (fun w _ h => by
            rw [Bool.and_eq_true] at h ⊢
            refine ⟨h.1, ?_⟩
            rw [decide_eq_false (fun e => hb ((of_decide_eq_true h.2).symm.trans e))]
            rfl)
          omega
        have hv : tv = Int32.ofNat (2 ^ u) := bit_ext (fun b hb => by
          rw [bt b hb, bt_2 u (by omega) b hb]
          by_cases e : b = u
          · rw [e, decide_eq_true (show u < 8 by omega), decide_eq_true (by omega), decide_eq_true rfl]
            rfl
          · rw [decide_eq_false e, no b e, decide_eq_false (Nat.lt_irrefl 0), Bool.and_false])
        obtain ⟨b1, b2⟩ := one_8t u (by omega)
        have lo : wX11_sure_h37 (Int32.ofNat kd) n r wFuel 0 = some (.inr (Int32.ofNat u)) := by
          refine loop_P (L := fun n' (p : Int32) => wX11_sure_h37 (Int32.ofNat kd) n r n' p) (N := u) (I := fun i p => p = Int32.ofNat i) (x := 0) (by omega) rfl (fun n' i p hi hI => ?_) (fun n' p hI => ?_)
          · subst hI
            refine ⟨_, turn n' i (by omega) ?_ hp, rfl⟩
            rw [no i (by omega)]
            omega
          · subst hI
            have cn := cnt_le (p := fun w => kpt x (s2.1 163) (-1) k w && decide (thn (s2.1 163) kd w = u)) (nW (s2.1 163))
            show wX11_sure_h37 (Int32.ofNat kd) n r (n' + 1) (Int32.ofNat u) = _
            rw [wX11_sure_h37, ldI_o (by omega) (by omega), t_sbe, rc.1, (cf kd k3).1, if_pos ((o_lt (by omega) (by omega)).2 hu), en, if_pos (show (0 : Int32) < Int32.ofNat _ from (o_lt (a := 0) (by omega) (by omega)).2 hp), keptWith_E rc kr k3 (by omega), t_sbe, if_pos (by rw [hc])]
        rw [hv, if_pos b1, ntz_E, b2, t_sbe]
        exact ⟨_, s2, _, r, rfl, ref _ lo, rfl⟩
      · have lo : wX11_sure_h37 (Int32.ofNat kd) n r wFuel 0 = some (.inl ()) := by
          refine tot_eq (loop_T (L := fun n' (p : Int32) => wX11_sure_h37 (Int32.ofNat kd) n r n' p) (N := nk (s2.1 163) kd) (I := fun i p => p = Int32.ofNat i) (Q := fun v => v = .inl ()) (fun n' i p hi hI => ?_) (fun n' p hI => ?_) wFuel 0 0 (Nat.zero_le _) rfl (wF_b (by omega)))
          · subst hI
            by_cases hp : 0 < cnt (kpt x (s2.1 163) (-1) k) (nW (s2.1 163))
            · exact Or.inl ⟨_, turn n' i hi (fun h => U ⟨i, hi, hp, h⟩) hp, rfl⟩
            · right
              show Tot (wX11_sure_h37 (Int32.ofNat kd) n r (n' + 1) (Int32.ofNat i)) _
              rw [wX11_sure_h37, ldI_o (by omega) (by omega), t_sbe, rc.1, (cf kd k3).1, if_pos ((o_lt (by omega) (by omega)).2 hi), en, if_neg (show ¬ (0 : Int32) < Int32.ofNat _ from fun h => hp ((o_lt (a := 0) (by omega) (by omega)).1 h))]
              exact t_some rfl
          · subst hI
            show Tot (wX11_sure_h37 (Int32.ofNat kd) n r (n' + 1) (Int32.ofNat (nk (s2.1 163) kd))) _
            rw [wX11_sure_h37, ldI_o (by omega) (by omega), t_sbe, rc.1, (cf kd k3).1, if_neg (fun c => by have := (o_lt (by omega) (by omega)).1 c; omega)]
            exact t_some rfl
        have nb1 : ¬ bc tv = 1 := fun h1 => by
          obtain ⟨N, hN, hv⟩ := low8 (v := tv) (fun b h8 hb => by rw [bt b hb, decide_eq_false (by omega), Bool.false_and])
          subst hv
          obtain ⟨u, hu, h2⟩ := one_8 N hN h1
          subst h2
          have b0 : ∀ b, b < 8 → (0 < cnt (fun w => kpt x (s2.1 163) (-1) k w && decide (thn (s2.1 163) kd w = b)) (nW (s2.1 163)) ↔ b = u) := fun b hb => by
            have a1 := bt b (by omega)
            rw [bt_2 u hu b (by omega), decide_eq_true hb, Bool.true_and] at a1
            exact (decide_eq_decide.1 a1).symm
          have pu := (b0 u hu).2 rfl
          obtain ⟨w, hw, hK⟩ := cnt_pos pu
          rw [Bool.and_eq_true] at hK
          have hwu := of_decide_eq_true hK.2
          have ul := thn_lt cf k3 hw
          refine U ⟨u, by omega, cnt_some hw hK.1, cnt_cg (fun v hv => ?_)⟩
          cases kv : kpt x (s2.1 163) (-1) k v
          · rfl
          · have vl := thn_lt cf k3 hv
            have := (b0 (thn (s2.1 163) kd v) (by omega)).1 (cnt_some hv (by rw [kv, decide_eq_true rfl]; rfl))
            rw [this, decide_eq_true rfl]
            rfl
        rw [if_neg nb1]
        exact ⟨_, s2, _, r, rfl, ref _ lo, rfl⟩
    · rw [if_neg (by omega), t_sbe, qi1]
      refine ⟨_, _, -1, s2, rfl, ?_, rfl⟩
      rw [c s2 q, t_sbe, qi1, m s2, t_sbe, qi1, kd_E, if_neg d, t_sbe, qi0]
end QU
end
section
/-! alone, mean, old. -/
theorem cnt_n {p : Nat → Bool} {n : Nat} : ∀ {m : Nat}, n ≤ m → cnt p n ≤ cnt p m := by
  intro m
  induction m with
  | zero => intro h; rw [show n = 0 by omega]; exact Nat.le_refl _
  | succ m ih =>
    intro h
    by_cases c : n = m + 1
    · rw [c]
      exact Nat.le_refl _
    · have := ih (by omega)
      show cnt p n ≤ cnt p m + (p m).toNat
      omega
/-- a sum -/
noncomputable def sm (h : Nat → Nat) : Nat → Nat
  | 0 => 0
  | n + 1 => sm h n + h n
theorem sm_s {h : Nat → Nat} {n : Nat} : sm h (n + 1) = sm h n + h n := rfl
theorem sm_add {h g u : Nat → Nat} : ∀ {n : Nat}, (∀ i, i < n → u i = h i + g i) → sm u n = sm h n + sm g n := by
  intro n
  induction n with
  | zero => intro _; rfl
  | succ n ih =>
    intro e
    have a := ih (fun i hi => e i (by omega))
    have b := e n (by omega)
    rw [sm_s, sm_s, sm_s]
    omega
theorem sm_cg {h g : Nat → Nat} : ∀ {n : Nat}, (∀ i, i < n → h i = g i) → sm h n = sm g n := by
  intro n
  induction n with
  | zero => intro _; rfl
  | succ n ih =>
    intro e
    rw [sm_s, sm_s, ih (fun i hi => e i (by omega)), e n (by omega)]
theorem sm_0 {h : Nat → Nat} {n : Nat} (e : ∀ i, i < n → h i = 0) : sm h n = 0 := by
  rw [sm_cg (g := fun _ => 0) e]
  induction n with
  | zero => rfl
  | succ n ih =>
    rw [sm_s]
    exact ih (fun i hi => e i (by omega))
theorem sm_one {V : Nat → Nat} {b : Bool} {t : Nat} : ∀ {n : Nat}, sm (fun r => V r * (b && decide (t = r)).toNat) n = if t < n ∧ b = true then V t else 0 := by
  intro n
  induction n with
  | zero => rw [if_neg (by omega)]; rfl
  | succ n ih =>
    rw [sm_s, ih]
    cases b
    · rw [if_neg (fun h => absurd h.2 (by decide)), if_neg (fun h => absurd h.2 (by decide)), Bool.false_and]
      rfl
    · rw [Bool.true_and]
      by_cases c : t = n
      · rw [if_neg (by omega), if_pos ⟨by omega, rfl⟩, decide_eq_true c, c]
        show 0 + V n * 1 = V n
        omega
      · rw [decide_eq_false c]
        show _ + V n * 0 = _
        by_cases d : t < n
        · rw [if_pos ⟨d, rfl⟩, if_pos ⟨by omega, rfl⟩]
          omega
        · rw [if_neg (by omega), if_neg (by omega)]
          omega
/-- a sum by things, a sum by WORLDS -/
theorem sm_two {V T : Nat → Nat} {K : Nat → Bool} {R : Nat} : ∀ {n : Nat}, (∀ w, w < n → T w < R) → sm (fun r => V r * cnt (fun w => K w && decide (T w = r)) n) R = sm (fun w => if K w = true then V (T w) else 0) n := by
  intro n
  induction n with
  | zero =>
    intro _
    exact sm_0 (fun i _ => Nat.mul_zero _)
  | succ n ih =>
    intro h
    rw [sm_add (u := fun r => V r * cnt (fun w => K w && decide (T w = r)) (n + 1)) (h := fun r => V r * cnt (fun w => K w && decide (T w = r)) n) (g := fun r => V r * (K n && decide (T n = r)).toNat) (fun r _ => Nat.mul_add _ _ _), ih (fun w hw => h w (by omega)), sm_one, sm_s]
    have := h n (by omega)
    by_cases c : K n = true
    · rw [if_pos ⟨this, c⟩, if_pos c]
    · rw [if_neg (fun q => c q.2), if_neg c]
section SU
variable {s : wS} {x : lC} {l : Nat} {f : Nat → Int32} {r : wS}
theorem isWit_E {y : Int32} : wX11_isWitness y s = some (if 0 ≤ y.toInt ∧ y.toInt < 6 then 1 else 0) := by
  unfold wX11_isWitness
  by_cases c : y < 0
  · have := t_lt c
    rw [t_i0] at this
    rw [if_pos c, if_neg (by omega)]
  · have a := t_ge c
    rw [t_i0] at a
    rw [if_neg c]
    by_cases d : y < 6
    · have b := t_lt d
      rw [show (6 : Int32).toInt = 6 from rfl] at b
      rw [if_pos d, if_pos ⟨a, b⟩]
    · have b := t_ge d
      rw [show (6 : Int32).toInt = 6 from rfl] at b
      rw [if_neg d, if_neg (by omega)]
/-- FALSE ones of one WITNESS -/
noncomputable def alo (x : lC) (f : Nat → Int32) (y : Int32) (w a : Nat) : Bool := decide (f (42 + 5 * a) = y) && (lkb f a && !trw x f a w)
theorem op_alone {x1 x2 : Int32} (g : JB s) : ∃ v s1 v2 s2, wX10_alone x1 x2 s = some (v, s1) ∧ wX11_alone x1 x2 s1 = some (v2, s2) ∧ v = v2 := by
  unfold wX10_alone wX11_alone
  rcases ask_E g x1 with ⟨e, c⟩ | ⟨l, s2, x, q, hx1, e, hf, c⟩
  · rw [e, t_sbe]
    refine ⟨-1, s, -1, s, rfl, ?_, rfl⟩
    rw [c, t_sbe, qi0]
  · rw [e, t_sbe]
    dsimp only [Option.elim]
    have e6 : (6 : Int32).toInt = 6 := rfl
    rw [isOutside_E]
    by_cases d : 0 ≤ x2.toInt ∧ x2.toInt < 6
    · have cf := q.2.2.2.2.2
      have w5 := cf.w
      obtain ⟨v, ev, hv⟩ := first_v q.1
      obtain ⟨s3, e3, f3, z3⟩ := countFalse_E q (v := v) (wit := x2) (but := -1)
      have q3 := f3.qs (by omega) (by omega) q
      have hf3 : s3.1 163 = s2.1 163 := f3.f (by omega)
      obtain ⟨r, er, rc⟩ := q3.rc
      rw [hf3] at rc
      obtain ⟨n3, n40⟩ := rc.n3
      have en := t_cln q.f3.1
      have en2 : nk (s2.1 163) 3 = (s2.1 163 3).toNatClampNeg := rfl
      have am : wX10_worldsWithAtMost 0 s3 = _ := atMost_E q3 (r := s3) rfl (g := fun w => fan x (s2.1 163) (selv (s2.1 163) v x2 (-1)) w 40) (fun w hw => by
        rw [hf3] at hw
        exact ⟨z3 w hw, by have := fan_le (x := x) (f := s2.1 163) (P := selv (s2.1 163) v x2 (-1)) (w := w) (n := 40); omega⟩) (k := 0) (by omega)
      rw [hf3] at am
      have inner : ∀ (y3 : Int32) w, w < nW (s2.1 163) → wX11_alone_h42 x2 y3 (Int32.ofNat w) r wFuel 1 0 = some (if cnt (alo x (s2.1 163) x2 w) (nk (s2.1 163) 3) = 0 then 1 else 0) := fun y3 w hw => by
        refine tot_eq (loop_T (L := fun n (p : Int32 × Int32) => wX11_alone_h42 x2 y3 (Int32.ofNat w) r n p.1 p.2) (N := nk (s2.1 163) 3) (I := fun a p => p.1 = (if cnt (alo x (s2.1 163) x2 w) a = 0 then 1 else 0) ∧ p.2 = Int32.ofNat a) (Q := fun v => v = (if cnt (alo x (s2.1 163) x2 w) (nk (s2.1 163) 3) = 0 then 1 else 0)) (fun n a p ha hI => ?_) (fun n p hI => ?_) wFuel 0 (1, 0) (Nat.zero_le _) ⟨rfl, rfl⟩ (wF_b (by omega)))
        · obtain ⟨u, i⟩ := p
          obtain ⟨ea, eb⟩ := hI
          dsimp only at ea eb ⊢
          subst eb
          rw [wX11_alone_h42, rc.1, n3, if_pos ((o_lt (by omega) (by omega)).2 ha)]
          unfold wX11_alone_j89 wX11_alone_j94
          by_cases z : cnt (alo x (s2.1 163) x2 w) a = 0
          · rw [if_pos z] at ea
            subst ea
            rw [qi1, answerOf_E (a := a) (w := 0) (by omega) (t_on (by omega)) (by decide) rfl, t_sbe, rc.1, o_1]
            have one : alo x (s2.1 163) x2 w a = false → (1 : Int32) = (if cnt (alo x (s2.1 163) x2 w) (a + 1) = 0 then 1 else 0) := fun h => by
              rw [cnt_f h, if_pos z]
            left
            by_cases h1 : s2.1 163 (42 + 5 * a + 0) = x2
            · rw [if_pos h1, lkb_E rc.1 (by omega), t_sbe]
              cases lb : lkb (s2.1 163) a
              · rw [b_f, qi0]
                exact ⟨(1, Int32.ofNat (a + 1)), rfl, one (by unfold alo; rw [lb, Bool.false_and, Bool.and_false]), rfl⟩
              · rw [if_pos rfl, qi1, rc.tr ha hw, t_sbe]
                cases tr : trw x (s2.1 163) a w
                · rw [b_f, qi0]
                  refine ⟨(0, Int32.ofNat (a + 1)), rfl, ?_, rfl⟩
                  rw [cnt_t (by unfold alo; rw [decide_eq_true (show s2.1 163 (42 + 5 * a) = x2 from h1), lb, tr]; rfl), if_neg (by omega)]
                · rw [if_pos rfl, qi1]
                  exact ⟨(1, Int32.ofNat (a + 1)), rfl, one (by unfold alo; rw [tr, Bool.not_true, Bool.and_false, Bool.and_false]), rfl⟩
            · rw [if_neg h1]
              exact ⟨(1, Int32.ofNat (a + 1)), rfl, one (by unfold alo; rw [decide_eq_false (show ¬ s2.1 163 (42 + 5 * a) = x2 from h1), Bool.false_and]), rfl⟩
          · right
            rw [if_neg z] at ea
            subst ea
            rw [qi0]
            refine t_some ?_
            have := cnt_n (p := alo x (s2.1 163) x2 w) (n := a) (m := nk (s2.1 163) 3) (by omega)
            rw [if_neg (by omega)]
        · obtain ⟨u, i⟩ := p
          obtain ⟨ea, eb⟩ := hI
          dsimp only at ea eb ⊢
          subst ea eb
          rw [wX11_alone_h42, rc.1, n3, if_neg (fun c => by have := (o_lt (by omega) (by omega)).1 c; omega)]
          exact t_some rfl
      have lo : wX11_alone_h27 x2 r wFuel 0 0 = some (Int32.ofNat (cnt (fun w => decide (cnt (alo x (s2.1 163) x2 w) (nk (s2.1 163) 3) = 0)) (nW (s2.1 163)))) := by
        refine loop_P (L := fun n (p : Int32 × Int32) => wX11_alone_h27 x2 r n p.1 p.2) (N := nW (s2.1 163)) (I := fun w p => p.1 = Int32.ofNat (cnt (fun w => decide (cnt (alo x (s2.1 163) x2 w) (nk (s2.1 163) 3) = 0)) w) ∧ p.2 = Int32.ofNat w) (x := (0, 0)) (by omega) ⟨rfl, rfl⟩ (fun n w p hw hI => ?_) (fun n p hI => ?_)
        · obtain ⟨u, i⟩ := p
          obtain ⟨ea, eb⟩ := hI
          dsimp only at ea eb ⊢
          subst ea eb
          rw [wX11_alone_h27, rc.nw, t_sbe, if_pos ((o_lt (by omega) (by omega)).2 hw), inner _ w hw, t_sbe]
          unfold wX11_alone_j102 wX11_alone_j113
          rw [o_1]
          by_cases z : cnt (alo x (s2.1 163) x2 w) (nk (s2.1 163) 3) = 0
          · rw [if_pos z, qi1, o_1]
            exact ⟨(_, _), rfl, congrArg Int32.ofNat (cnt_t (n := w) (decide_eq_true z)).symm, rfl⟩
          · rw [if_neg z, qi0, o_z]
            exact ⟨(_, _), rfl, congrArg Int32.ofNat (cnt_f (n := w) (decide_eq_false z)).symm, rfl⟩
        · obtain ⟨u, i⟩ := p
          obtain ⟨ea, eb⟩ := hI
          dsimp only at ea eb ⊢
          subst ea eb
          rw [wX11_alone_h27, rc.nw, t_sbe, if_neg (fun c => by have := (o_lt (by omega) (by omega)).1 c; omega)]
      rw [if_pos (by omega), t_sbe, qi0, ev, t_sbe, e3, t_sbe, am, t_sbe]
      refine ⟨_, s3, Int32.ofNat (cnt (fun w => decide (cnt (alo x (s2.1 163) x2 w) (nk (s2.1 163) 3) = 0)) (nW (s2.1 163))), r, rfl, ?_, congrArg Int32.ofNat (cnt_cg (fun w hw => decide_eq_decide.2 ?_))⟩
      · rw [c s3 q3, t_sbe, qi1, isWit_E, if_pos d, t_sbe, qi1, hx1, er, t_sbe, lo, t_sbe]
      · have e : fan x (s2.1 163) (selv (s2.1 163) v x2 (-1)) w 40 = cnt (alo x (s2.1 163) x2 w) (nk (s2.1 163) 3) := by
          unfold fan
          rw [cnt_ext (n := nk (s2.1 163) 3) (by omega) (fun a h1 _ => ?_)]
          · refine cnt_cg (fun a ha => ?_)
            have na : ¬ Int32.ofNat a = -1 := fun h => by
              have := congrArg Int32.toInt h
              rw [t_on (by omega), t_neg1] at this
              omega
            have n2 : ¬ x2 = -1 := fun h => by
              have := congrArg Int32.toInt h
              rw [t_neg1] at this
              omega
            unfold selv alo
            rw [lkv_b hv (by omega), decide_eq_false na, decide_eq_false n2, Bool.false_or, Bool.not_false, Bool.and_true]
            cases lkb (s2.1 163) a <;> cases decide (s2.1 163 (42 + 5 * a) = x2) <;> rfl
          · have : lkv (s2.1 163) v a = false := Bool.eq_false_iff.2 (fun h => by have := lkv_lt h; omega)
            unfold selv
            rw [this, Bool.false_and, Bool.false_and]
        rw [e]
        omega
    · rw [if_neg (by omega), t_sbe, qi1]
      refine ⟨_, _, -1, s2, rfl, ?_, rfl⟩
      rw [c s2 q, t_sbe, qi1, isWit_E, if_neg d, t_sbe, qi0]
theorem op_mean {x1 x2 x3 : Int32} (g : JB s) : ∃ v s1 v2 s2, wX10_mean x1 x2 x3 s = some (v, s1) ∧ wX11_mean x1 x2 x3 s1 = some (v2, s2) ∧ v = v2 := by
  unfold wX10_mean wX11_mean
  rcases withKept_E g x1 x2 with ⟨s2, e, c⟩ | ⟨l, k, s2, x, ⟨q, z, t⟩, hx1, hx2, h40, e, c, m⟩
  · rw [e, t_sbe]
    refine ⟨-1, s2, -1, s2, rfl, ?_, rfl⟩
    rcases c with c | ⟨c, m⟩
    · rw [c, t_sbe, qi0]
    · rw [c, t_sbe, qi1, m, t_sbe, qi0]
  · rw [e, t_sbe]
    dsimp only [Option.elim]
    have e2 : (2 : Int32).toInt = 2 := rfl
    rw [isOutside_E]
    by_cases d : 0 ≤ x3.toInt ∧ x3.toInt ≤ 1
    · have cf := q.2.2.2.2.2
      have w5 := cf.w.1
      have n8 := (cf 1 (by decide)).2.2
      have ek := t_cln d.1
      have hx3 : x3 = Int32.ofNat x3.toNatClampNeg := (t_oc d.1).symm
      generalize x3.toNatClampNeg = b at ek hx3
      have hb : b = 0 ∨ b = 1 := by omega
      have n1 := cf.n (kd := 1) (by decide)
      obtain ⟨hc, -, hx⟩ := q.1.h
      have V0 : ∀ i, i < nk (s2.1 163) 1 → 0 ≤ (s2.1 163 (10 + 2 * i + b)).toInt := fun i hi => by
        have := (hx.2.2.2.2.2.1 (2 * i + b) (by omega)).1
        rw [show 10 + 2 * i + b = 10 + (2 * i + b) by omega]
        exact this
      obtain ⟨⟨n, r⟩, er, en, rc, kr⟩ := keeps_E q (k := k) (by omega) (but := -1)
      dsimp only at en rc kr
      have N5 := cnt_le (p := kpt x (s2.1 163) (-1) k) (nW (s2.1 163))
      have told : ∀ i, i < nk (s2.1 163) 1 → (x3 = 0 → wX0_firstOf 15 1 (Int32.ofNat i) s2 = some (Int32.ofNat (s2.1 163 (10 + 2 * i + b)).toNatClampNeg)) ∧ (¬ x3 = 0 → wX0_secondOf 15 1 (Int32.ofNat i) s2 = some (Int32.ofNat (s2.1 163 (10 + 2 * i + b)).toNatClampNeg)) := fun i hi => by
        obtain ⟨h17, h18⟩ := hc.2.1 i (by omega)
        rw [t_oc (V0 i hi)]
        refine ⟨fun h => ?_, fun h => ?_⟩
        · have b0 : b = 0 := by
            rw [hx3] at h
            exact (o_eq (b := 0) (by omega) (by omega)).1 h
          unfold wX0_firstOf
          rw [slot_o1 (by omega), t_sbe, at_o (k := 15 + 2) (n := 24) rfl (by omega) (by omega), t_sbe, b0, show 8 * 1 + i = 8 + i by omega]
          exact congrArg some h17
        · have b1 : b = 1 := by
            rcases hb with h0 | h1
            · exact absurd (by rw [hx3, h0]; rfl) h
            · exact h1
          unfold wX0_secondOf
          rw [slot_o1 (by omega), t_sbe, at_o (k := 15 + 3) (n := 24) rfl (by omega) (by omega), t_sbe, b1, show 8 * 1 + i = 8 + i by omega]
          exact congrArg some h18
      have l10 : wX10_mean_h42 x3 s2 wFuel 0 0 = some (Int32.ofNat (sm (fun i => (s2.1 163 (10 + 2 * i + b)).toNatClampNeg * cnt (fun w => kpt x (s2.1 163) (-1) k w && decide (thn (s2.1 163) 1 w = i)) (nW (s2.1 163))) (nk (s2.1 163) 1))) := by
        refine loop_P (L := fun n (p : Int32 × Int32) => wX10_mean_h42 x3 s2 n p.1 p.2) (N := nk (s2.1 163) 1) (I := fun i p => p.1 = Int32.ofNat (sm (fun i => (s2.1 163 (10 + 2 * i + b)).toNatClampNeg * cnt (fun w => kpt x (s2.1 163) (-1) k w && decide (thn (s2.1 163) 1 w = i)) (nW (s2.1 163))) i) ∧ p.2 = Int32.ofNat i) (x := (0, 0)) (by omega) ⟨rfl, rfl⟩ (fun n i p hi hI => ?_) (fun n p hI => ?_)
        · obtain ⟨u, v⟩ := p
          obtain ⟨ea, eb⟩ := hI
          dsimp only at ea eb ⊢
          subst ea eb
          have wi : wX7_with 35 1 (Int32.ofNat i) s2 = _ := t.wi (Or.inl rfl) (kd := 1) (by decide) (show i < 8 by omega)
          rw [wX10_mean_h42, many_r1 q rfl, t_sbe, if_pos ((o_lt (by omega) (by omega)).2 hi)]
          unfold wX10_mean_j91
          rw [wi, o_1]
          by_cases h0 : x3 = 0
          · rw [if_pos h0, (told i hi).1 h0, t_sbe, t_sbe, o_mul, o_add]
            exact ⟨(_, _), rfl, rfl, rfl⟩
          · rw [if_neg h0, (told i hi).2 h0, t_sbe, t_sbe, o_mul, o_add]
            exact ⟨(_, _), rfl, rfl, rfl⟩
        · obtain ⟨u, v⟩ := p
          obtain ⟨ea, eb⟩ := hI
          dsimp only at ea eb ⊢
          subst ea eb
          rw [wX10_mean_h42, many_r1 q rfl, t_sbe, if_neg (fun c => by have := (o_lt (by omega) (by omega)).1 c; omega)]
      have l11 : wX11_mean_h42 x3 n r wFuel 0 0 = some (Int32.ofNat (sm (fun w => if kpt x (s2.1 163) (-1) k w = true then (s2.1 163 (10 + 2 * thn (s2.1 163) 1 w + b)).toNatClampNeg else 0) (nW (s2.1 163)))) := by
        refine loop_P (L := fun n' (p : Int32 × Int32) => wX11_mean_h42 x3 n r n' p.1 p.2) (N := nW (s2.1 163)) (I := fun w p => p.1 = Int32.ofNat (sm (fun w => if kpt x (s2.1 163) (-1) k w = true then (s2.1 163 (10 + 2 * thn (s2.1 163) 1 w + b)).toNatClampNeg else 0) w) ∧ p.2 = Int32.ofNat w) (x := (0, 0)) (by omega) ⟨rfl, rfl⟩ (fun n' w p hw hI => ?_) (fun n' p hI => ?_)
        · obtain ⟨u, v⟩ := p
          obtain ⟨ea, eb⟩ := hI
          dsimp only at ea eb ⊢
          subst ea eb
          have tl := thn_lt cf (kd := 1) (by decide) hw
          have th : wX11_thingOf (Int32.ofNat w) 1 r = some (Int32.ofNat (thn (s2.1 163) 1 w)) := thingOf_E rc.1 cf (kd := 1) (by decide) hw
          rw [wX11_mean_h42, rc.nw, t_sbe, if_pos ((o_lt (by omega) (by omega)).2 hw), ldI_o (by omega) (by omega), t_sbe, kr w hw, sm_s]
          unfold wX11_mean_j86
          rw [o_1]
          cases kk : kpt x (s2.1 163) (-1) k w
          · rw [b_f, qi0]
            exact ⟨(_, _), rfl, o_add (b := 0), rfl⟩
          · have ix : (10 + (2 * Int32.ofNat (thn (s2.1 163) 1 w))) + x3 = Int32.ofNat (10 + 2 * thn (s2.1 163) 1 w + b) := by
              rw [hx3]
              show (Int32.ofNat 10 + (Int32.ofNat 2 * Int32.ofNat _)) + Int32.ofNat b = _
              rw [o_mul, o_add, o_add]
            rw [if_pos rfl, qi1, th, t_sbe, ix, ldI_o (by omega) (by omega), t_sbe, rc.1, if_pos rfl]
            refine ⟨(_, _), rfl, ?_, rfl⟩
            show _ + s2.1 163 (10 + 2 * thn (s2.1 163) 1 w + b) = _
            rw [← o_add, t_oc (V0 _ tl)]
        · obtain ⟨u, v⟩ := p
          obtain ⟨ea, eb⟩ := hI
          dsimp only at ea eb ⊢
          subst ea eb
          rw [wX11_mean_h42, rc.nw, t_sbe, if_neg (fun c => by have := (o_lt (by omega) (by omega)).1 c; omega)]
      rw [sm_two (V := fun i => (s2.1 163 (10 + 2 * i + b)).toNatClampNeg) (T := thn (s2.1 163) 1) (K := kpt x (s2.1 163) (-1) k) (fun w hw => thn_lt cf (by decide) hw)] at l10
      have ref : ∀ R, (if n = 0 then some (((Int8.ofInt (-2)).toInt32), r) else ((wdvI (Int32.ofNat (sm (fun w => if kpt x (s2.1 163) (-1) k w = true then (s2.1 163 (10 + 2 * thn (s2.1 163) 1 w + b)).toNatClampNeg else 0) (nW (s2.1 163)))) n).bind fun t28 => some (t28, r))) = R → ((wX11_canAsk x1 s2).bind fun t1 => if t1 = 0 then (some ((-1), s2)) else ((wX11_isMany x2 s2).bind fun t4 => if t4 = 0 then (some ((-1), s2)) else ((wX11_in ((x3 : Int32).toInt64) 0 1 s2).bind fun t7 => if t7 = 0 then (some ((-1), s2)) else ((wX11_keeps x1 x2 (-1) s2).bind fun (t10, s11) => (wX11_mean_h42 x3 t10 s11 wFuel 0 0).bind fun t22 => if t10 = 0 then (some (((Int8.ofInt (-2)).toInt32), s11)) else ((wdvI t22 t10).bind fun t28 => some (t28, s11)))))) = R := fun R hR => by
        rw [c s2 q, t_sbe, qi1, m s2, t_sbe, qi1, in64_E (A := 0) (B := 1) rfl rfl, if_pos d, t_sbe, qi1, hx1, hx2, er, t_sbe]
        dsimp only
        rw [l11, t_sbe]
        exact hR
      rw [if_pos (by omega), t_sbe, qi0, t.1, l10, t_sbe]
      by_cases p : 0 < cnt (kpt x (s2.1 163) (-1) k) (nW (s2.1 163))
      · have n0 : ¬ Int32.ofNat (cnt (kpt x (s2.1 163) (-1) k) (nW (s2.1 163))) = 0 := fun h => by
          have := (o_eq (b := 0) (by omega) (by omega)).1 h
          omega
        rw [if_pos (show (0 : Int32) < Int32.ofNat _ from (o_lt (a := 0) (by omega) (by omega)).2 p)]
        unfold wdvI at ref ⊢
        rw [if_neg n0, t_sbe]
        refine ⟨_, s2, _, r, rfl, ref _ ?_, rfl⟩
        rw [en, if_neg n0, if_neg n0, t_sbe]
      · rw [if_neg (show ¬ (0 : Int32) < Int32.ofNat _ from fun h => p ((o_lt (a := 0) (by omega) (by omega)).1 h))]
        refine ⟨_, s2, _, r, rfl, ref _ ?_, rfl⟩
        rw [en, show cnt (kpt x (s2.1 163) (-1) k) (nW (s2.1 163)) = 0 by omega]
        exact if_pos rfl
    · rw [if_neg (by omega), t_sbe, qi1]
      refine ⟨_, _, -1, s2, rfl, ?_, rfl⟩
      rw [c s2 q, t_sbe, qi1, m s2, t_sbe, qi1, in64_E (A := 0) (B := 1) rfl rfl, if_neg d, t_sbe, qi0]
end SU
end
section
/-! filled; quarrel. -/
theorem bit_z {v : Int32} : v = 0 ↔ ∀ b, b < 32 → bit v b = false := by
  refine ⟨fun h b _ => by rw [h]; exact bt_0, fun h => bit_ext (fun b hb => by rw [h b hb, bt_0])⟩
section PA
variable {s : wS} {x : lC} {l : Nat} {f : Nat → Int32} {r : wS}
/-- the things from which p is not FARTHER than q, as bits -/
theorem near_b {x : lC} {f : Nat → Int32} {kd p q n : Nat} (hn : n ≤ 8) {b : Nat} (hb : b < 32) : bit (nb2 (FVx x f (Int32.ofNat kd)) p q n) b = (decide (b < n) && !decide (FVx x f (Int32.ofNat kd) q b < FVx x f (Int32.ofNat kd) p b)) := nb2_bt hn b hb
/-- p is not FARTHER than q from what some KEPT WORLD has -/
noncomputable def fil (x : lC) (f : Nat → Int32) (K : Nat → Bool) (kd p q n : Nat) : Nat := cnt (fun w => K w && !decide (FVx x f (Int32.ofNat kd) q (thn f kd w) < FVx x f (Int32.ofNat kd) p (thn f kd w))) n
theorem fil_b {x : lC} {f : Nat → Int32} (cf : CFt f) {K : Nat → Bool} {kd p q : Nat} (hk : kd < 3) {v : Int32} (bt : ∀ b, b < 32 → bit v b = (decide (b < 8) && decide (0 < cnt (fun w => K w && decide (thn f kd w = b)) (nW f)))) : (nb2 (FVx x f (Int32.ofNat kd)) p q (nk f kd) &&& v) = 0 ↔ fil x f K kd p q (nW f) = 0 := by
  have n8 := (cf kd hk).2.2
  rw [bit_z]
  refine ⟨fun h => cnt_0 (fun w hw => ?_), fun h b hb => ?_⟩
  · have tl := thn_lt cf hk hw
    have a := h (thn f kd w) (by omega)
    rw [bt_and, near_b n8 (by omega), bt _ (by omega), decide_eq_true tl, decide_eq_true (show thn f kd w < 8 by omega), Bool.true_and, Bool.true_and] at a
    cases kk : K w
    · rfl
    · rw [decide_eq_true (cnt_some (i := w) hw (by rw [kk, decide_eq_true (rfl : thn f kd w = thn f kd w)]; rfl)), Bool.and_true] at a
      rw [a]
      rfl
  · rw [bt_and, near_b n8 hb, bt b hb]
    by_cases z : 0 < cnt (fun w => K w && decide (thn f kd w = b)) (nW f)
    · obtain ⟨w, hw, e⟩ := cnt_pos z
      rw [Bool.and_eq_true] at e
      have eb := of_decide_eq_true e.2
      have a : (K w && !decide (FVx x f (Int32.ofNat kd) q (thn f kd w) < FVx x f (Int32.ofNat kd) p (thn f kd w))) = false := by
        refine Bool.eq_false_iff.2 (fun h' => ?_)
        have := cnt_some (p := fun w => K w && !decide (FVx x f (Int32.ofNat kd) q (thn f kd w) < FVx x f (Int32.ofNat kd) p (thn f kd w))) hw h'
        unfold fil at h
        omega
      rw [e.1, Bool.true_and, eb] at a
      rw [a, Bool.and_false, Bool.false_and]
    · rw [decide_eq_false z, Bool.and_false, Bool.and_false]
theorem op_filled {x1 x2 x3 : Int32} (g : JB s) : ∃ v s1 v2 s2, wX10_filled x1 x2 x3 s = some (v, s1) ∧ wX11_filled x1 x2 x3 s1 = some (v2, s2) ∧ v = v2 := by
  unfold wX10_filled wX11_filled
  rcases ask_E g x1 with ⟨e, c⟩ | ⟨l, s2, x, q, hx1, e, hf, c⟩
  · rw [e, t_sbe]
    refine ⟨-1, s, -1, s, rfl, ?_, rfl⟩
    rw [c, t_sbe, qi0]
  · rw [e, t_sbe]
    dsimp only [Option.elim]
    have e41 : (41 : Int32).toInt = 41 := rfl
    have cf := q.2.2.2.2.2
    have w5 := cf.w
    rw [isOutside_E]
    by_cases d2 : 0 ≤ x2.toInt ∧ x2.toInt ≤ 40
    · rw [if_pos (show 0 ≤ x2.toInt ∧ x2.toInt < (41 : Int32).toInt by omega), t_sbe, qi0]
      rcases hasAns_E q.1 x3 with ⟨a, xa, ha, b1, b2⟩ | ⟨-, b1, b2⟩
      · have ek := t_cln d2.1
        have hx2 : x2 = Int32.ofNat x2.toNatClampNeg := (t_oc d2.1).symm
        generalize x2.toNatClampNeg = k at ek hx2
        have c40 := q.f3
        have hx3 : x3 = Int32.ofNat a := Int32.toInt_inj.1 (by rw [xa, t_on (by omega)])
        have w40 := fun w => wrg_le (x := x) (f := s2.1 163) (but := x3) (w := w) q.f3.2
        obtain ⟨v, ev, hv⟩ := first_v q.1
        obtain ⟨s3, e3, f3, z3⟩ := countFalse_E q (v := v) (wit := -1) (but := x3)
        have q3 := f3.qs (by omega) (by omega) q
        have hf3 : s3.1 163 = s2.1 163 := f3.f (by omega)
        obtain ⟨s4, e4, f4, t4⟩ := fillKept_E q3 (k1 := 35) (Or.inl rfl) (g := wrg x (s2.1 163) x3) (fun w hw => by
          rw [hf3] at hw
          exact ⟨(z3 w hw).trans (congrArg Int32.ofNat (fan_wrg q.f3.1 q.f3.2 hv)), by have := w40 w; omega⟩) (k := k) (by omega) (man := -1)
        have q4 := f4.qs (by omega) (by omega) q3
        have hf4 : s4.1 163 = s2.1 163 := (f4.f (by omega)).trans hf3
        rw [hf3] at t4
        have t : TLY 35 (s2.1 163) (kpt x (s2.1 163) x3 k) (nW (s2.1 163)) s4 := t4.cg (fun w _ => by
          unfold mnb kpt
          rw [decide_eq_true (rfl : (-1 : Int32) = -1), Bool.true_or, Bool.and_true])
        obtain ⟨⟨n, r⟩, er, en, rc, kr⟩ := keeps_E q4 (k := k) (by omega) (but := x3)
        dsimp only at en rc kr
        rw [hf4] at rc kr
        obtain ⟨k3, o1, o2, ekd, -⟩ := q.1.af a ha
        have n8 := (cf _ k3).2.2
        have ha4 : (a : Int) < (s4.1 163 3).toInt := by rw [hf4]; exact ha
        have kdE := (ans_E q4.1 ha4 (t_on (n := a) (by omega))).2.1
        rw [hf4, ekd] at kdE
        have kd11 : wX11_answerOf x3 1 r = some (Int32.ofNat (akd (s2.1 163) a)) := by
          rw [answerOf_E (a := a) (w := 1) (by omega) xa (by decide) rfl, rc.1, ekd]
        have many4 := many_r q (r := s4) (by rw [f4.1 16 (by omega), f3.1 16 (by omega)]) k3
        have nof := fun p' q' (hp : p' < nk (s2.1 163) (akd (s2.1 163) a)) (hq : q' < nk (s2.1 163) (akd (s2.1 163) a)) => nearOf_E q.2.1 q4.2.2.2.2.1 q4.2.2.2.2.2 (p := p') (q := q') k3 (by rw [hf4]; exact hp) (by rw [hf4]; exact hq)
        rw [hf4] at nof
        generalize akd (s2.1 163) a = kd at *
        obtain ⟨tv, et, bt⟩ := thingsOf_E (Or.inl rfl) t w5.1 k3
        have zz := fun p' q' => fil_b (x := x) cf (p := p') (q := q') k3 bt
        -- one row of pairs, both sides
        have in10 : ∀ (i u : Nat), i < nk (s2.1 163) kd → wX10_filled_h113 (44 + 10 * l) (Int32.ofNat kd) tv (Int32.ofNat (nk (s2.1 163) kd)) (Int32.ofNat i) s4 wFuel (Int32.ofNat u) 0 = some (Int32.ofNat (u + cnt (fun j => !decide (i = j) && !decide (fil x (s2.1 163) (kpt x (s2.1 163) x3 k) kd i j (nW (s2.1 163)) = 0)) (nk (s2.1 163) kd))) := fun i u hi => by
          refine loop_P (L := fun n (p : Int32 × Int32) => wX10_filled_h113 (44 + 10 * l) (Int32.ofNat kd) tv (Int32.ofNat (nk (s2.1 163) kd)) (Int32.ofNat i) s4 n p.1 p.2) (N := nk (s2.1 163) kd) (I := fun j p => p.1 = Int32.ofNat (u + cnt (fun j => !decide (i = j) && !decide (fil x (s2.1 163) (kpt x (s2.1 163) x3 k) kd i j (nW (s2.1 163)) = 0)) j) ∧ p.2 = Int32.ofNat j) (x := (Int32.ofNat u, 0)) (by omega) ⟨rfl, rfl⟩ (fun n j p hj hI => ?_) (fun n p hI => ?_)
          · obtain ⟨y, b⟩ := p
            obtain ⟨ea, eb⟩ := hI
            dsimp only at ea eb ⊢
            subst ea eb
            rw [wX10_filled_h113, if_pos ((o_lt (by omega) (by omega)).2 hj)]
            unfold wX10_filled_j147
            rw [o_1]
            by_cases y : i = j
            · rw [if_pos (by rw [y])]
              exact ⟨(_, _), rfl, congrArg (fun z => Int32.ofNat (u + z)) (cnt_f (n := j) (by rw [decide_eq_true y]; rfl)).symm, rfl⟩
            · rw [if_neg (fun h => y ((o_eq (by omega) (by omega)).1 h)), nof i j hi hj, t_sbe]
              by_cases z : fil x (s2.1 163) (kpt x (s2.1 163) x3 k) kd i j (nW (s2.1 163)) = 0
              · rw [if_pos ((zz i j).2 z)]
                exact ⟨(_, _), rfl, congrArg (fun z => Int32.ofNat (u + z)) (cnt_f (n := j) (by rw [decide_eq_true z, Bool.not_true, Bool.and_false])).symm, rfl⟩
              · rw [if_neg (fun h => z ((zz i j).1 h)), o_1]
                exact ⟨(_, _), rfl, congrArg (fun z => Int32.ofNat (u + z)) (cnt_t (n := j) (by rw [decide_eq_false y, decide_eq_false z]; rfl)).symm, rfl⟩
          · obtain ⟨y, b⟩ := p
            obtain ⟨ea, eb⟩ := hI
            dsimp only at ea eb ⊢
            subst ea eb
            rw [wX10_filled_h113, if_neg (fun c => by have := (o_lt (by omega) (by omega)).1 c; omega)]
        have l10 : wX10_filled_h103 (44 + 10 * l) (Int32.ofNat kd) tv (Int32.ofNat (nk (s2.1 163) kd)) s4 wFuel 0 0 = some (Int32.ofNat (sm (fun i => cnt (fun j => !decide (i = j) && !decide (fil x (s2.1 163) (kpt x (s2.1 163) x3 k) kd i j (nW (s2.1 163)) = 0)) (nk (s2.1 163) kd)) (nk (s2.1 163) kd))) := by
          refine loop_P (L := fun n (p : Int32 × Int32) => wX10_filled_h103 (44 + 10 * l) (Int32.ofNat kd) tv (Int32.ofNat (nk (s2.1 163) kd)) s4 n p.1 p.2) (N := nk (s2.1 163) kd) (I := fun i p => p.1 = Int32.ofNat (sm (fun i => cnt (fun j => !decide (i = j) && !decide (fil x (s2.1 163) (kpt x (s2.1 163) x3 k) kd i j (nW (s2.1 163)) = 0)) (nk (s2.1 163) kd)) i) ∧ p.2 = Int32.ofNat i) (x := (0, 0)) (by omega) ⟨rfl, rfl⟩ (fun n i p hi hI => ?_) (fun n p hI => ?_)
          · obtain ⟨y, b⟩ := p
            obtain ⟨ea, eb⟩ := hI
            dsimp only at ea eb ⊢
            subst ea eb
            rw [wX10_filled_h103, if_pos ((o_lt (by omega) (by omega)).2 hi), in10 i _ hi, t_sbe, o_1]
            exact ⟨(_, _), rfl, rfl, rfl⟩
          · obtain ⟨y, b⟩ := p
            obtain ⟨ea, eb⟩ := hI
            dsimp only at ea eb ⊢
            subst ea eb
            rw [wX10_filled_h103, if_neg (fun c => by have := (o_lt (by omega) (by omega)).1 c; omega)]
        -- the reference: is there such a WORLD?
        have some11 : ∀ (y5 : Int32) (i j : Nat), i < nk (s2.1 163) kd → j < nk (s2.1 163) kd → wX11_filled_h80 (Int32.ofNat kd) y5 (Int32.ofNat i) (Int32.ofNat j) r wFuel 0 0 = some (if (!decide (i = j) && !decide (fil x (s2.1 163) (kpt x (s2.1 163) x3 k) kd i j (nW (s2.1 163)) = 0)) = true then 1 else 0) := fun y5 i j hi hj => by
          refine tot_eq (loop_T (L := fun n (p : Int32 × Int32) => wX11_filled_h80 (Int32.ofNat kd) y5 (Int32.ofNat i) (Int32.ofNat j) r n p.1 p.2) (N := nW (s2.1 163)) (I := fun w p => p.1 = (if (!decide (i = j) && !decide (fil x (s2.1 163) (kpt x (s2.1 163) x3 k) kd i j w = 0)) = true then 1 else 0) ∧ p.2 = Int32.ofNat w) (Q := fun v => v = (if (!decide (i = j) && !decide (fil x (s2.1 163) (kpt x (s2.1 163) x3 k) kd i j (nW (s2.1 163)) = 0)) = true then 1 else 0)) (fun n w p hw hI => ?_) (fun n p hI => ?_) wFuel 0 (0, 0) (Nat.zero_le _) ⟨?_, rfl⟩ (wF_b (by omega)))
          · obtain ⟨y, b⟩ := p
            obtain ⟨ea, eb⟩ := hI
            dsimp only at ea eb ⊢
            subst eb
            rw [wX11_filled_h80, rc.nw, t_sbe, if_pos ((o_lt (by omega) (by omega)).2 hw)]
            by_cases y2 : i = j
            · right
              rw [if_pos (by rw [y2])]
              refine t_some ?_
              rw [ea, decide_eq_true y2]
              rfl
            · rw [if_neg (fun h => y2 ((o_eq (by omega) (by omega)).1 h))]
              rw [decide_eq_false y2, Bool.not_false, Bool.true_and] at ea ⊢
              by_cases z : fil x (s2.1 163) (kpt x (s2.1 163) x3 k) kd i j w = 0
              · rw [decide_eq_true z] at ea
                subst ea
                left
                have kz : (kpt x (s2.1 163) x3 k w && !decide (FVx x (s2.1 163) (Int32.ofNat kd) j (thn (s2.1 163) kd w) < FVx x (s2.1 163) (Int32.ofNat kd) i (thn (s2.1 163) kd w))) = false → fil x (s2.1 163) (kpt x (s2.1 163) x3 k) kd i j (w + 1) = 0 := fun h => (cnt_f (n := w) h).trans z
                unfold wX11_filled_j130 wX11_filled_j131
                rw [show (!true) = false from rfl, b_f, qi0, ldI_o (by omega) (by omega), t_sbe, kr w hw, o_1]
                cases kk : kpt x (s2.1 163) x3 k w
                · rw [b_f, qi0]
                  exact ⟨(0, Int32.ofNat (w + 1)), rfl, by rw [kz (by rw [kk, Bool.false_and])]; rfl, rfl⟩
                · rw [if_pos rfl, qi1, isNearer_E rc.1 cf rc.2.2.2.2 k3 hi hj hw, t_sbe]
                  by_cases y3 : FVx x (s2.1 163) (Int32.ofNat kd) j (thn (s2.1 163) kd w) < FVx x (s2.1 163) (Int32.ofNat kd) i (thn (s2.1 163) kd w)
                  · rw [if_pos y3, qi0]
                    exact ⟨(0, Int32.ofNat (w + 1)), rfl, by rw [kz (by rw [decide_eq_true y3, Bool.not_true, Bool.and_false])]; rfl, rfl⟩
                  · rw [if_neg y3, qi1]
                    have : fil x (s2.1 163) (kpt x (s2.1 163) x3 k) kd i j (w + 1) = fil x (s2.1 163) (kpt x (s2.1 163) x3 k) kd i j w + 1 := cnt_t (n := w) (by rw [kk, decide_eq_false y3]; rfl)
                    exact ⟨(1, Int32.ofNat (w + 1)), rfl, by rw [decide_eq_false (show ¬ fil x (s2.1 163) (kpt x (s2.1 163) x3 k) kd i j (w + 1) = 0 by omega)]; rfl, rfl⟩
              · right
                rw [decide_eq_false z] at ea
                have ea : y = 1 := ea
                subst ea
                have := cnt_n (p := fun w => kpt x (s2.1 163) x3 k w && !decide (FVx x (s2.1 163) (Int32.ofNat kd) j (thn (s2.1 163) kd w) < FVx x (s2.1 163) (Int32.ofNat kd) i (thn (s2.1 163) kd w))) (n := w) (m := nW (s2.1 163)) (by omega)
                have nz : ¬ fil x (s2.1 163) (kpt x (s2.1 163) x3 k) kd i j (nW (s2.1 163)) = 0 := by
                  unfold fil at z ⊢
                  omega
                rw [qi1]
                refine t_some ?_
                rw [decide_eq_false nz]
                rfl
          · obtain ⟨y, b⟩ := p
            obtain ⟨ea, eb⟩ := hI
            dsimp only at ea eb ⊢
            subst ea eb
            rw [wX11_filled_h80, rc.nw, t_sbe, if_neg (fun c => by have := (o_lt (by omega) (by omega)).1 c; omega)]
            exact t_some rfl
          · rw [show fil x (s2.1 163) (kpt x (s2.1 163) x3 k) kd i j 0 = 0 from rfl, decide_eq_true (rfl : 0 = 0), Bool.not_true, Bool.and_false]
            rfl
        have in11 : ∀ (i u : Nat), i < nk (s2.1 163) kd → wX11_filled_h62 (Int32.ofNat kd) (Int32.ofNat i) r wFuel (Int32.ofNat u) 0 = some (Int32.ofNat (u + cnt (fun j => !decide (i = j) && !decide (fil x (s2.1 163) (kpt x (s2.1 163) x3 k) kd i j (nW (s2.1 163)) = 0)) (nk (s2.1 163) kd))) := fun i u hi => by
          refine loop_P (L := fun n (p : Int32 × Int32) => wX11_filled_h62 (Int32.ofNat kd) (Int32.ofNat i) r n p.1 p.2) (N := nk (s2.1 163) kd) (I := fun j p => p.1 = Int32.ofNat (u + cnt (fun j => !decide (i = j) && !decide (fil x (s2.1 163) (kpt x (s2.1 163) x3 k) kd i j (nW (s2.1 163)) = 0)) j) ∧ p.2 = Int32.ofNat j) (x := (Int32.ofNat u, 0)) (by omega) ⟨rfl, rfl⟩ (fun n j p hj hI => ?_) (fun n p hI => ?_)
          · obtain ⟨y, b⟩ := p
            obtain ⟨ea, eb⟩ := hI
            dsimp only at ea eb ⊢
            subst ea eb
            rw [wX11_filled_h62, ldI_o (by omega) (by omega), t_sbe, rc.1, (cf kd k3).1, if_pos ((o_lt (by omega) (by omega)).2 hj), some11 _ i j hi hj, t_sbe]
            unfold wX11_filled_j139 wX11_filled_j151
            rw [o_1]
            cases z : (!decide (i = j) && !decide (fil x (s2.1 163) (kpt x (s2.1 163) x3 k) kd i j (nW (s2.1 163)) = 0))
            · rw [b_f, qi0, o_z]
              exact ⟨(_, _), rfl, congrArg (fun z => Int32.ofNat (u + z)) (cnt_f (n := j) z).symm, rfl⟩
            · rw [if_pos rfl, qi1, o_1]
              exact ⟨(_, _), rfl, congrArg (fun z => Int32.ofNat (u + z)) (cnt_t (n := j) z).symm, rfl⟩
          · obtain ⟨y, b⟩ := p
            obtain ⟨ea, eb⟩ := hI
            dsimp only at ea eb ⊢
            subst ea eb
            rw [wX11_filled_h62, ldI_o (by omega) (by omega), t_sbe, rc.1, (cf kd k3).1, if_neg (fun c => by have := (o_lt (by omega) (by omega)).1 c; omega)]
        have l11 : wX11_filled_h47 (Int32.ofNat kd) r wFuel 0 0 = some (Int32.ofNat (sm (fun i => cnt (fun j => !decide (i = j) && !decide (fil x (s2.1 163) (kpt x (s2.1 163) x3 k) kd i j (nW (s2.1 163)) = 0)) (nk (s2.1 163) kd)) (nk (s2.1 163) kd))) := by
          refine loop_P (L := fun n (p : Int32 × Int32) => wX11_filled_h47 (Int32.ofNat kd) r n p.1 p.2) (N := nk (s2.1 163) kd) (I := fun i p => p.1 = Int32.ofNat (sm (fun i => cnt (fun j => !decide (i = j) && !decide (fil x (s2.1 163) (kpt x (s2.1 163) x3 k) kd i j (nW (s2.1 163)) = 0)) (nk (s2.1 163) kd)) i) ∧ p.2 = Int32.ofNat i) (x := (0, 0)) (by omega) ⟨rfl, rfl⟩ (fun n i p hi hI => ?_) (fun n p hI => ?_)
          · obtain ⟨y, b⟩ := p
            obtain ⟨ea, eb⟩ := hI
            dsimp only at ea eb ⊢
            subst ea eb
            rw [wX11_filled_h47, ldI_o (by omega) (by omega), t_sbe, rc.1, (cf kd k3).1, if_pos ((o_lt (by omega) (by omega)).2 hi), in11 i _ hi, t_sbe, o_1]
            exact ⟨(_, _), rfl, rfl, rfl⟩
          · obtain ⟨y, b⟩ := p
            obtain ⟨ea, eb⟩ := hI
            dsimp only at ea eb ⊢
            subst ea eb
            rw [wX11_filled_h47, ldI_o (by omega) (by omega), t_sbe, rc.1, (cf kd k3).1, if_neg (fun c => by have := (o_lt (by omega) (by omega)).1 c; omega)]
        have b4 : wX11_isAnswer x3 s4 = some 1 := by
          rcases hasAns_E q4.1 x3 with ⟨_, _, _, _, h⟩ | ⟨h, -⟩
          · exact h
          · exact absurd ⟨by omega, by rw [hf4]; omega⟩ h
        rw [b1, t_sbe, qi1, ev, t_sbe, e3, t_sbe, hx2, e4, t_sbe]
        rw [hx3] at kd11 er b4 ⊢
        rw [kdE, t_sbe, et, t_sbe, many4, t_sbe, l10, t_sbe]
        refine ⟨_, s4, _, r, rfl, ?_, rfl⟩
        rw [c s4 q4, t_sbe, qi1, isMany_E, if_pos (by rw [t_on (by omega)]; omega), t_sbe, qi1, b4, t_sbe, qi1, hx1, er, t_sbe]
        dsimp only
        rw [kd11, t_sbe, l11, t_sbe]
      · rw [b1, t_sbe, qi0]
        refine ⟨_, _, -1, s2, rfl, ?_, rfl⟩
        rw [c s2 q, t_sbe, qi1, isMany_E, if_pos d2, t_sbe, qi1, b2, t_sbe, qi0]
    · rw [if_neg (by omega), t_sbe, qi1]
      refine ⟨_, _, -1, s2, rfl, ?_, rfl⟩
      rw [c s2 q, t_sbe, qi1, isMany_E, if_neg d2, t_sbe, qi0]
end PA
end
section
/-! The first that is so; things as bits; quarrel. -/
/-- the first from i on, k of them looked at -/
noncomputable def fnd (p : Nat → Bool) : Nat → Nat → Option Nat
  | 0, _ => none
  | k + 1, i => if p i = true then some i else fnd p k (i + 1)
theorem fnd_s {p : Nat → Bool} {k i : Nat} : fnd p (k + 1) i = if p i = true then some i else fnd p k (i + 1) := rfl
theorem fnd_no {p : Nat → Bool} : ∀ {k i : Nat}, (∀ j, i ≤ j → j < i + k → p j = false) → fnd p k i = none := by
  intro k
  induction k with
  | zero => intro i _; rfl
  | succ k ih =>
    intro i h
    rw [fnd_s, h i (Nat.le_refl _) (by omega), b_f]
    exact ih (fun j h1 h2 => h j (by omega) (by omega))
theorem fnd_ex {p : Nat → Bool} : ∀ {k i : Nat}, ((fnd p k i).isSome = true ↔ ∃ j, i ≤ j ∧ j < i + k ∧ p j = true) := by
  intro k
  induction k with
  | zero => intro i; exact iff_of_false (show ¬ (none : Option Nat).isSome = true from by decide) (fun ⟨j, h1, h2, _⟩ => by omega)
  | succ k ih =>
    intro i
    rw [fnd_s]
    cases c : p i
    · rw [b_f, ih]
      refine ⟨fun ⟨j, h1, h2, h3⟩ => ⟨j, by omega, by omega, h3⟩, fun ⟨j, h1, h2, h3⟩ => ⟨j, ?_, by omega, h3⟩⟩
      by_cases e : j = i
      · rw [e, c] at h3
        cases h3
      · omega
    · rw [if_pos rfl]
      exact iff_of_true rfl ⟨i, Nat.le_refl _, by omega, c⟩
theorem fnd_lt {p : Nat → Bool} : ∀ {k i j : Nat}, fnd p k i = some j → i ≤ j ∧ j < i + k ∧ p j = true := by
  intro k
  induction k with
  | zero => intro i j h; cases h
  | succ k ih =>
    intro i j h
    rw [fnd_s] at h
    cases c : p i
    · rw [c, b_f] at h
      obtain ⟨h1, h2, h3⟩ := ih h
      exact ⟨by omega, by omega, h3⟩
    · rw [c, if_pos rfl] at h
      cases h
      exact ⟨Nat.le_refl _, by omega, c⟩
theorem fnd_go {p q : Nat → Bool} {n m : Nat} (hm : n ≤ m) (hp : ∀ j, n ≤ j → j < m → p j = false) : ∀ {k i : Nat}, k = m - i → i ≤ n → (∀ j, i ≤ j → j < n → p j = q j) → fnd p k i = fnd q (n - i) i := by
  intro k
  induction k with
  | zero =>
    intro i hk hi _
    rw [show n - i = 0 by omega]
    rfl
  | succ k ih =>
    intro i hk hi h
    by_cases c : i = n
    · rw [show n - i = 0 by omega]
      exact fnd_no (fun j h1 h2 => hp j (by omega) (by omega))
    · rw [show n - i = (n - (i + 1)) + 1 by omega, fnd_s, fnd_s, h i (Nat.le_refl _) (by omega), ih (by omega) (by omega) (fun j h1 h2 => h j (by omega) h2)]
theorem loop_F {β : Type} {L : Nat → Int32 → Option (Unit ⊕ β)} {p : Nat → Bool} {r : Nat → β} {N : Nat} (hN : N ≤ 1000) (h1 : ∀ n i, i < N → p i = true → L (n + 1) (Int32.ofNat i) = some (.inr (r i))) (h2 : ∀ n i, i < N → p i = false → L (n + 1) (Int32.ofNat i) = L n (Int32.ofNat (i + 1))) (h3 : ∀ n, L (n + 1) (Int32.ofNat N) = some (.inl ())) : ∀ {n i : Nat}, i ≤ N → N - i < n → L n (Int32.ofNat i) = some (match fnd p (N - i) i with | none => .inl () | some j => .inr (r j)) := by
  intro n
  induction n with
  | zero => intro i _ h; omega
  | succ n ih =>
    intro i hi hn
    by_cases c : i = N
    · rw [c, h3, show N - N = 0 by omega]
      rfl
    · rw [show N - i = (N - (i + 1)) + 1 by omega, fnd_s]
      cases e : p i
      · rw [h2 n i (by omega) e, b_f]
        exact ih (by omega) (by omega)
      · rw [h1 n i (by omega) e, if_pos rfl]
theorem wF_k {a : Nat} (h : a ≤ 1000) : a < wFuel := by
  have e : wFuel = 1099511627776 := rfl
  omega
theorem bt_shl {v : Int32} {k b : Nat} (hk : k < 32) (hb : b < 32) : bit (v <<< (Int32.ofNat k &&& 31)) b = (decide (k ≤ b) && bit v (b - k)) := by
  unfold bit
  rw [Int32.toBitVec_shiftLeft, sh_31 hk]
  show (v.toBitVec <<< (BitVec.ofNat 32 k).toNat).getLsbD b = _
  rw [BitVec.toNat_ofNat, Nat.mod_eq_of_lt (by omega), BitVec.getLsbD_shiftLeft, decide_eq_true hb, Bool.true_and, ← decide_not]
  exact congrArg (· && _) (decide_eq_decide.2 Nat.not_lt)
theorem bt_shr2 {v : Int32} {k b : Nat} (hk : k < 32) (hb : k + b < 32) : bit (v >>> (Int32.ofNat k &&& 31)) b = bit v (k + b) := by
  unfold bit
  rw [bt_shr hk, BitVec.getLsbD_sshiftRight]
  simp only [show ¬ 32 ≤ b by omega, decide_false, Bool.not_false, Bool.true_and, if_pos hb]
theorem bt_255 {b : Nat} (hb : b < 32) : bit 255 b = decide (b < 8) := by
  have : ∀ b, b < 32 → bit 255 b = decide (b < 8) := by decide +kernel
  exact this b hb
section QR
variable {s : wS} {x : lC} {l : Nat} {f : Nat → Int32} {r : wS}
theorem bitsOf_E (q : QS l x s) (h : r.1 16 = s.1 16) {kd : Nat} (hk : kd < 3) : Tot (wX0_bitsOf 15 (Int32.ofNat kd) r) (fun v => ∀ b, b < 32 → bit v b = decide (b < nk (s.1 163) kd)) := by
  have n8 := (q.2.2.2.2.2 kd hk).2.2
  unfold wX0_bitsOf
  rw [many_r q h hk, t_sbe]
  exact t_some (fun b hb => bt_all n8 hb)
/-- all things as bits -/
theorem bitsAll_E (q : QS l x s) (h : r.1 16 = s.1 16) : Tot (wX0_bitsOfAll 15 r) (fun v => ∀ b, b < 32 → bit v b = (decide (b < 24) && decide (b % 8 < nk (s.1 163) (b / 8)))) := by
  have cf := q.2.2.2.2.2
  have c0 := (cf 0 (by decide)).2.2
  have c1 := (cf 1 (by decide)).2.2
  have c2 := (cf 2 (by decide)).2.2
  obtain ⟨v0, e0, b0⟩ := bitsOf_E q h (kd := 0) (by decide)
  obtain ⟨v1, e1, b1⟩ := bitsOf_E q h (kd := 1) (by decide)
  obtain ⟨v2, e2, b2⟩ := bitsOf_E q h (kd := 2) (by decide)
  have e0 : wX0_bitsOf 15 0 r = some v0 := e0
  have e1 : wX0_bitsOf 15 1 r = some v1 := e1
  have e2 : wX0_bitsOf 15 2 r = some v2 := e2
  have s1 : wX10_slot 1 0 r = some (Int32.ofNat 8) := rfl
  have s2 : wX10_slot 2 0 r = some (Int32.ofNat 16) := rfl
  unfold wX0_bitsOfAll
  rw [e0, t_sbe, e1, t_sbe, s1, t_sbe, e2, t_sbe, s2, t_sbe]
  refine t_some (fun b hb => ?_)
  rw [bt_or, bt_or, bt_shl (by omega) hb, bt_shl (by omega) hb, b0 b hb, b1 (b - 8) (by omega), b2 (b - 16) (by omega), ← Bool.decide_and, ← Bool.decide_and, ← Bool.decide_and, ← Bool.decide_or, ← Bool.decide_or]
  refine decide_eq_decide.2 ?_
  obtain h | h | h | h : b / 8 = 0 ∨ b / 8 = 1 ∨ b / 8 = 2 ∨ b / 8 = 3 := by omega
  · rw [h]
    omega
  · rw [h]
    omega
  · rw [h]
    omega
  · omega
/-- a thing with which an ANSWER may be TRUE -/
noncomputable def ttb (x : lC) (f : Nat → Int32) (a kd t : Nat) : Bool := decide (t < nk f kd) && (!decide (akd f a = kd) || tra x f a t)
theorem trueThings_E (q : QS l x s) {a : Nat} (ha : a < nk (s.1 163) 3) : Tot (wX10_trueThings (44 + 10 * l) (Int32.ofNat a) s) (fun v => ∀ b, b < 32 → bit v b = (decide (b < 24) && ttb x (s.1 163) a (b / 8) (b % 8))) := by
  have cf := q.2.2.2.2.2
  have en := t_cln q.f3.1
  have en2 : nk (s.1 163) 3 = (s.1 163 3).toNatClampNeg := rfl
  have f40 := q.f3.2
  have ha' : (a : Int) < (s.1 163 3).toInt := by omega
  obtain ⟨k3, o1, o2, ek, -⟩ := q.1.af a ha'
  have n8 := (cf _ k3).2.2
  obtain ⟨v, ev, bv⟩ := bitsAll_E q (r := s) rfl
  have sl : wX10_slot (Int32.ofNat (akd (s.1 163) a)) 0 s = some (Int32.ofNat (8 * akd (s.1 163) a)) := slot_o (t := 0) k3 (by decide)
  unfold wX10_trueThings
  rw [(ans_E q.1 ha' (t_on (n := a) (by omega))).2.1, t_sbe, ek, sl, t_sbe, ev, t_sbe, nearThings_E q.1 q.2.1 q.2.2.2.2.1 cf ha', t_sbe]
  refine t_some (fun b hb => ?_)
  rw [bt_or, bt_and, bt_not hb, bt_shl (by omega) hb, bt_shl (by omega) hb, bv b hb, bt_255 (by omega), near_b n8 (by omega)]
  show _ = (decide (b < 24) && (decide (b % 8 < nk (s.1 163) (b / 8)) && (!decide (akd (s.1 163) a = b / 8) || tra x (s.1 163) a (b % 8))))
  by_cases c : akd (s.1 163) a = b / 8
  · have e : b - 8 * akd (s.1 163) a = b % 8 := by omega
    have l1 : 8 * akd (s.1 163) a ≤ b := by omega
    rw [e, decide_eq_true l1, decide_eq_true (show b % 8 < 8 by omega), decide_eq_true c, decide_eq_true (show b < 24 by omega), ← c]
    cases decide (b % 8 < nk (s.1 163) (akd (s.1 163) a)) <;> rfl
  · rw [decide_eq_false c]
    by_cases l1 : 8 * akd (s.1 163) a ≤ b
    · rw [decide_eq_true l1, decide_eq_false (show ¬ b - 8 * akd (s.1 163) a < 8 by omega), decide_eq_false (show ¬ b - 8 * akd (s.1 163) a < nk (s.1 163) (akd (s.1 163) a) by omega)]
      cases decide (b < 24) <;> cases decide (b % 8 < nk (s.1 163) (b / 8)) <;> rfl
    · rw [decide_eq_false l1]
      cases decide (b < 24) <;> cases decide (b % 8 < nk (s.1 163) (b / 8)) <;> rfl
/-- is there a thing of each KIND? -/
noncomputable def hwb (v : Int32) : Prop := ∀ kd, kd < 3 → ∃ t, t < 8 ∧ bit v (8 * kd + t) = true
theorem low_z {v : Int32} {k : Nat} (hk : k ≤ 16) : ((v >>> (Int32.ofNat k &&& 31)) &&& 255) = 0 ↔ ¬ ∃ t, t < 8 ∧ bit v (k + t) = true := by
  rw [bit_z]
  refine ⟨fun h ⟨t, h1, h2⟩ => ?_, fun h b hb => ?_⟩
  · have := h t (by omega)
    rw [bt_and, bt_255 (by omega), decide_eq_true h1, bt_shr2 (by omega) (by omega), h2] at this
    cases this
  · rw [bt_and, bt_255 hb]
    by_cases c : b < 8
    · rw [decide_eq_true c, Bool.and_true, bt_shr2 (by omega) (by omega)]
      exact Bool.eq_false_iff.2 (fun e => h ⟨b, c, e⟩)
    · rw [decide_eq_false c, Bool.and_false]
theorem low_z0 {v : Int32} : (v &&& 255) = 0 ↔ ¬ ∃ t, t < 8 ∧ bit v (0 + t) = true := by
  rw [bit_z]
  refine ⟨fun h ⟨t, h1, h2⟩ => ?_, fun h b hb => ?_⟩
  · have := h t (by omega)
    rw [Nat.zero_add] at h2
    rw [bt_and, bt_255 (by omega), decide_eq_true h1, h2] at this
    cases this
  · rw [bt_and, bt_255 hb]
    by_cases c : b < 8
    · rw [decide_eq_true c, Bool.and_true]
      exact Bool.eq_false_iff.2 (fun e => h ⟨b, c, by rw [Nat.zero_add]; exact e⟩)
    · rw [decide_eq_false c, Bool.and_false]
theorem hasWorld_E {v : Int32} : (hwb v ∧ wX10_hasWorld v s = some 1) ∨ (¬ hwb v ∧ wX10_hasWorld v s = some 0) := by
  have s1 : wX10_slot 1 0 s = some (Int32.ofNat 8) := rfl
  have s2 : wX10_slot 2 0 s = some (Int32.ofNat 16) := rfl
  unfold wX10_hasWorld
  by_cases c0 : ∃ t, t < 8 ∧ bit v (0 + t) = true
  · rw [if_neg (fun h => low_z0.1 h c0), s1, t_sbe]
    by_cases c1 : ∃ t, t < 8 ∧ bit v (8 + t) = true
    · rw [if_neg (fun h => (low_z (by omega)).1 h c1), s2, t_sbe]
      by_cases c2 : ∃ t, t < 8 ∧ bit v (16 + t) = true
      · rw [if_neg (fun h => (low_z (by omega)).1 h c2)]
        refine Or.inl ⟨fun kd hk => ?_, rfl⟩
        obtain rfl | rfl | rfl : kd = 0 ∨ kd = 1 ∨ kd = 2 := by omega
        · exact c0
        · exact c1
        · exact c2
      · rw [if_pos ((low_z (by omega)).2 c2)]
        exact Or.inr ⟨fun h => c2 (h 2 (by decide)), rfl⟩
    · rw [if_pos ((low_z (by omega)).2 c1)]
      exact Or.inr ⟨fun h => c1 (h 1 (by decide)), rfl⟩
  · rw [if_pos (low_z0.2 c0)]
    exact Or.inr ⟨fun h => c0 (h 0 (by decide)), rfl⟩
/-- both TRUE in some WORLD -/
noncomputable def tog (x : lC) (f : Nat → Int32) (a b : Nat) : Bool := (fnd (fun w => trw x f a w && trw x f b w) (nW f) 0).isSome
theorem tog_hw (cf : CFt f) {a b : Nat} (ka : akd f a < 3) (kb : akd f b < 3) {u v : Int32} (hu : ∀ k, k < 32 → bit u k = (decide (k < 24) && ttb x f a (k / 8) (k % 8))) (hv : ∀ k, k < 32 → bit v k = (decide (k < 24) && ttb x f b (k / 8) (k % 8))) : hwb (u &&& v) ↔ tog x f a b = true := by
  have ex : ∀ kd t, kd < 3 → t < 8 → bit (u &&& v) (8 * kd + t) = (ttb x f a kd t && ttb x f b kd t) := fun kd t hk ht => by
    rw [bt_and, hu _ (by omega), hv _ (by omega), decide_eq_true (show 8 * kd + t < 24 by omega), show (8 * kd + t) / 8 = kd by omega, show (8 * kd + t) % 8 = t by omega, Bool.true_and, Bool.true_and]
  unfold tog
  rw [fnd_ex]
  refine ⟨fun h => ?_, fun ⟨w, _, hw, e⟩ kd hk => ?_⟩
  · have get : ∀ kd, kd < 3 → ∃ t, t < nk f kd ∧ (akd f a = kd → tra x f a t = true) ∧ (akd f b = kd → tra x f b t = true) := fun kd hk => by
      obtain ⟨t, ht, e⟩ := h kd hk
      rw [ex kd t hk ht, Bool.and_eq_true] at e
      obtain ⟨e1, e2⟩ := e
      unfold ttb at e1 e2
      rw [Bool.and_eq_true] at e1 e2
      refine ⟨t, of_decide_eq_true e1.1, fun q => ?_, fun q => ?_⟩
      · have := e1.2
        rw [decide_eq_true q, Bool.not_true, Bool.false_or] at this
        exact this
      · have := e2.2
        rw [decide_eq_true q, Bool.not_true, Bool.false_or] at this
        exact this
    obtain ⟨t0, l0, a0, b0⟩ := get 0 (by decide)
    obtain ⟨t1, l1, a1, b1⟩ := get 1 (by decide)
    obtain ⟨t2, l2, a2, b2⟩ := get 2 (by decide)
    obtain ⟨wl, w0, w1, w2⟩ := thn_w l0 l1 l2
    refine ⟨_, Nat.zero_le _, by rw [Nat.zero_add]; exact wl, ?_⟩
    rw [Bool.and_eq_true, trw_a, trw_a]
    constructor
    · obtain k | k | k : akd f a = 0 ∨ akd f a = 1 ∨ akd f a = 2 := by omega
      · rw [k, w0]
        exact a0 k
      · rw [k, w1]
        exact a1 k
      · rw [k, w2]
        exact a2 k
    · obtain k | k | k : akd f b = 0 ∨ akd f b = 1 ∨ akd f b = 2 := by omega
      · rw [k, w0]
        exact b0 k
      · rw [k, w1]
        exact b1 k
      · rw [k, w2]
        exact b2 k
  · rw [Nat.zero_add] at hw
    have tl := thn_lt cf hk hw
    have n8 := (cf kd hk).2.2
    rw [Bool.and_eq_true, trw_a, trw_a] at e
    refine ⟨thn f kd w, by omega, ?_⟩
    rw [ex kd _ hk (by omega)]
    unfold ttb
    rw [decide_eq_true tl, Bool.true_and, Bool.true_and, Bool.and_eq_true]
    constructor
    · by_cases c : akd f a = kd
      · rw [decide_eq_true c, ← c, e.1]
        rfl
      · rw [decide_eq_false c]
        rfl
    · by_cases c : akd f b = kd
      · rw [decide_eq_true c, ← c, e.2]
        rfl
      · rw [decide_eq_false c]
        rfl
theorem tog11_E (c : RCH x f r) {a b : Nat} (ha : a < nk f 3) (hb : b < nk f 3) : wX11_areTrueTogether (Int32.ofNat a) (Int32.ofNat b) r = some (if tog x f a b = true then 1 else 0) := by
  have w5 := c.2.1.w.1
  unfold wX11_areTrueTogether
  have e : wX11_areTrueTogether_h2 (Int32.ofNat a) (Int32.ofNat b) r wFuel (Int32.ofNat 0) = _ := loop_F (L := wX11_areTrueTogether_h2 (Int32.ofNat a) (Int32.ofNat b) r) (p := fun w => trw x f a w && trw x f b w) (r := fun _ => ()) (N := nW f) (by omega) (fun n w hw h => ?_) (fun n w hw h => ?_) (fun n => ?_) (Nat.zero_le _) (wF_k (by omega))
  · rw [show (0 : Int32) = Int32.ofNat 0 from rfl, e, t_sbe]
    unfold tog
    rw [Nat.sub_zero]
    cases fnd (fun w => trw x f a w && trw x f b w) (nW f) 0 <;> rfl
  · rw [Bool.and_eq_true] at h
    rw [wX11_areTrueTogether_h2, c.nw, t_sbe, if_pos ((o_lt (by omega) (by omega)).2 hw), c.tr ha hw, t_sbe, h.1, if_pos rfl, qi1, c.tr hb hw, t_sbe, h.2, if_pos rfl, qi1]
  · rw [wX11_areTrueTogether_h2, c.nw, t_sbe, if_pos ((o_lt (by omega) (by omega)).2 hw), c.tr ha hw, t_sbe]
    unfold wX11_areTrueTogether_j30
    rw [o_1]
    cases ta : trw x f a w
    · rw [b_f, qi0]
    · rw [ta, Bool.true_and] at h
      rw [if_pos rfl, qi1, c.tr hb hw, t_sbe, h, b_f, qi0]
  · rw [wX11_areTrueTogether_h2, c.nw, t_sbe, if_neg (fun c => by have := (o_lt (by omega) (by omega)).1 c; omega)]
/-- they QUARREL -/
noncomputable def qua (x : lC) (f : Nat → Int32) (a b : Nat) : Bool := lkb f a && (lkb f b && !tog x f a b)
theorem op_quarrel {x1 : Int32} (g : JB s) : ∃ v s1 v2 s2, wX10_quarrel x1 s = some (v, s1) ∧ wX11_quarrel x1 s1 = some (v2, s2) ∧ v = v2 := by
  unfold wX10_quarrel wX11_quarrel
  rcases ask_E g x1 with ⟨e, c⟩ | ⟨l, s2, x, q, hx1, e, hf, c⟩
  · rw [e, t_sbe]
    refine ⟨-1, s, -1, s, rfl, ?_, rfl⟩
    rw [c, t_sbe, qi0]
  · rw [e, t_sbe]
    dsimp only [Option.elim]
    have cf := q.2.2.2.2.2
    obtain ⟨r, er, rc⟩ := q.rc
    obtain ⟨n3, n40⟩ := rc.n3
    have en := t_cln q.f3.1
    have en2 : nk (s2.1 163) 3 = (s2.1 163 3).toNatClampNeg := rfl
    obtain ⟨v, ev, hv⟩ := first_v q.1
    have lkN : ∀ a, nk (s2.1 163) 3 ≤ a → lkv (s2.1 163) v a = false := fun a h => Bool.eq_false_iff.2 (fun h => by have := lkv_lt h; omega)
    -- what the class's pair is
    have pr : ∀ (L : Int32 → Option (Unit ⊕ Int32)) a b, a < 40 → b < 40 → (((wX2_first 14 s2).bind fun t7 => (wX2_isLookedAt 14 (Int32.ofNat a) t7 s2).bind fun t9 => if t9 = 0 then (wX10_quarrel_j73 L (44 + 10 * l) (Int32.ofNat a) (Int32.ofNat b) s2) else ((wX2_first 14 s2).bind fun t20 => (wX2_isLookedAt 14 (Int32.ofNat b) t20 s2).bind fun t22 => if t22 = 0 then (wX10_quarrel_j73 L (44 + 10 * l) (Int32.ofNat a) (Int32.ofNat b) s2) else (wX10_quarrel_j74 L (44 + 10 * l) (Int32.ofNat a) (Int32.ofNat b) 1 s2))) = if (lkv (s2.1 163) v a && (lkv (s2.1 163) v b && !tog x (s2.1 163) a b)) = true then some (.inr (Int32.ofNat b)) else L (Int32.ofNat (b + 1))) := fun L a b ha hb => by
      unfold wX10_quarrel_j73 wX10_quarrel_j74 wX10_quarrel_j109
      rw [ev, t_sbe, lkv_E q.1 ha, t_sbe, o_1]
      cases la : lkv (s2.1 163) v a
      · rw [b_f, qi0, qi0, Bool.false_and, b_f]
      · rw [if_pos rfl, qi1, t_sbe, lkv_E q.1 hb, t_sbe, Bool.true_and]
        cases lb : lkv (s2.1 163) v b
        · rw [b_f, qi0, qi0, Bool.false_and, b_f]
        · have la' := lkv_lt la
          have lb' := lkv_lt lb
          obtain ⟨ua, ea, ba⟩ := trueThings_E q (a := a) (by omega)
          obtain ⟨ub, eb, bb⟩ := trueThings_E q (a := b) (by omega)
          have tg := tog_hw (x := x) cf (q.1.af a la').1 (q.1.af b lb').1 ba bb
          rw [if_pos rfl, qi1, qi1, ea, t_sbe, eb, t_sbe, Bool.true_and]
          rcases hasWorld_E (v := ua &&& ub) (s := s2) with ⟨h1, h2⟩ | ⟨h1, h2⟩
          · rw [h2, t_sbe, qi1, tg.1 h1, Bool.not_true, b_f]
          · rw [h2, t_sbe, qi0, Bool.eq_false_iff.2 (fun h => h1 (tg.2 h)), Bool.not_false, if_pos rfl]
    have r10 : ∀ a, a < 40 → wX10_quarrel_h25 (44 + 10 * l) (Int32.ofNat a) s2 wFuel (Int32.ofNat (a + 1)) = some (match fnd (fun b => lkv (s2.1 163) v a && (lkv (s2.1 163) v b && !tog x (s2.1 163) a b)) (40 - (a + 1)) (a + 1) with | none => .inl () | some j => .inr (Int32.ofNat j)) := fun a ha => by
      refine loop_F (L := wX10_quarrel_h25 (44 + 10 * l) (Int32.ofNat a) s2) (N := 40) (by omega) (fun n b hb h => ?_) (fun n b hb h => ?_) (fun n => ?_) (by omega) (wF_k (by omega))
      · rw [wX10_quarrel_h25, if_pos (show Int32.ofNat b < 40 from (o_lt (a := b) (b := 40) (by omega) (by omega)).2 hb), pr _ a b ha hb, if_pos h]
      · rw [wX10_quarrel_h25, if_pos (show Int32.ofNat b < 40 from (o_lt (a := b) (b := 40) (by omega) (by omega)).2 hb), pr _ a b ha hb, if_neg (by rw [h]; decide)]
      · rw [wX10_quarrel_h25, if_neg (by decide)]
    have r11 : ∀ a, a < nk (s2.1 163) 3 → wX11_quarrel_h31 (Int32.ofNat a) r wFuel (Int32.ofNat (a + 1)) = some (match fnd (qua x (s2.1 163) a) (nk (s2.1 163) 3 - (a + 1)) (a + 1) with | none => .inl () | some j => .inr (Int32.ofNat j)) := fun a ha => by
      refine loop_F (L := wX11_quarrel_h31 (Int32.ofNat a) r) (N := nk (s2.1 163) 3) (by omega) (fun n b hb h => ?_) (fun n b hb h => ?_) (fun n => ?_) (by omega) (wF_k (by omega))
      · unfold qua at h
        rw [Bool.and_eq_true, Bool.and_eq_true] at h
        rw [wX11_quarrel_h31, rc.1, n3, if_pos ((o_lt (by omega) (by omega)).2 hb), lkb_E rc.1 (by omega), t_sbe, h.1, if_pos rfl, qi1, lkb_E rc.1 (by omega), t_sbe, h.2.1, if_pos rfl, qi1, tog11_E rc ha hb, t_sbe]
        have t : tog x (s2.1 163) a b = false := by
          have := h.2.2
          cases e : tog x (s2.1 163) a b
          · rfl
          · rw [e] at this
            cases this
        rw [t, b_f, qi0]
      · unfold qua at h
        rw [wX11_quarrel_h31, rc.1, n3, if_pos ((o_lt (by omega) (by omega)).2 hb), lkb_E rc.1 (by omega), t_sbe]
        unfold wX11_quarrel_j73
        rw [o_1]
        cases la : lkb (s2.1 163) a
        · rw [b_f, qi0]
        · rw [if_pos rfl, qi1, lkb_E rc.1 (by omega), t_sbe]
          cases lb : lkb (s2.1 163) b
          · rw [b_f, qi0]
          · rw [la, lb, Bool.true_and, Bool.true_and] at h
            have t : tog x (s2.1 163) a b = true := by
              cases e : tog x (s2.1 163) a b
              · rw [e] at h
                cases h
              · rfl
            rw [if_pos rfl, qi1, tog11_E rc ha hb, t_sbe, t, if_pos rfl, qi1]
      · rw [wX11_quarrel_h31, rc.1, n3, if_neg (fun c => by have := (o_lt (by omega) (by omega)).1 c; omega)]
    -- the rows are alike
    have rows : ∀ a, a < nk (s2.1 163) 3 → fnd (fun b => lkv (s2.1 163) v a && (lkv (s2.1 163) v b && !tog x (s2.1 163) a b)) (40 - (a + 1)) (a + 1) = fnd (qua x (s2.1 163) a) (nk (s2.1 163) 3 - (a + 1)) (a + 1) := fun a ha => fnd_go (n := nk (s2.1 163) 3) (m := 40) n40 (fun b h1 h2 => by rw [lkN b h1, Bool.false_and, Bool.and_false]) rfl (by omega) (fun b h1 h2 => by
      unfold qua
      rw [lkv_b hv (by omega), lkv_b hv (by omega)])
    have l10 : wX10_quarrel_h14 (44 + 10 * l) s2 wFuel (Int32.ofNat 0) = _ := loop_F (L := wX10_quarrel_h14 (44 + 10 * l) s2) (N := 40) (p := fun a => (fnd (fun b => lkv (s2.1 163) v a && (lkv (s2.1 163) v b && !tog x (s2.1 163) a b)) (40 - (a + 1)) (a + 1)).isSome) (r := fun a => (Int32.ofNat a, Int32.ofNat ((fnd (fun b => lkv (s2.1 163) v a && (lkv (s2.1 163) v b && !tog x (s2.1 163) a b)) (40 - (a + 1)) (a + 1)).getD 0))) (by omega) (fun n a ha h => by
      rw [wX10_quarrel_h14, if_pos (show Int32.ofNat a < 40 from (o_lt (a := a) (b := 40) (by omega) (by omega)).2 ha), o_1, r10 a ha, t_sbe]
      cases z : fnd (fun b => lkv (s2.1 163) v a && (lkv (s2.1 163) v b && !tog x (s2.1 163) a b)) (40 - (a + 1)) (a + 1)
      · rw [z] at h
        cases h
      · rfl) (fun n a ha h => by
      rw [wX10_quarrel_h14, if_pos (show Int32.ofNat a < 40 from (o_lt (a := a) (b := 40) (by omega) (by omega)).2 ha), o_1, r10 a ha, t_sbe]
      cases z : fnd (fun b => lkv (s2.1 163) v a && (lkv (s2.1 163) v b && !tog x (s2.1 163) a b)) (40 - (a + 1)) (a + 1)
      · rfl
      · rw [z] at h
        cases h) (fun n => by rw [wX10_quarrel_h14, if_neg (by decide)]) (Nat.zero_le _) (wF_k (by omega))
    have l11 : wX11_quarrel_h17 r wFuel (Int32.ofNat 0) = _ := loop_F (L := wX11_quarrel_h17 r) (N := nk (s2.1 163) 3) (p := fun a => (fnd (qua x (s2.1 163) a) (nk (s2.1 163) 3 - (a + 1)) (a + 1)).isSome) (r := fun a => (Int32.ofNat a, Int32.ofNat ((fnd (qua x (s2.1 163) a) (nk (s2.1 163) 3 - (a + 1)) (a + 1)).getD 0))) (by omega) (fun n a ha h => by
      rw [wX11_quarrel_h17, rc.1, n3, if_pos ((o_lt (by omega) (by omega)).2 ha), o_1, r11 a ha, t_sbe]
      cases z : fnd (qua x (s2.1 163) a) (nk (s2.1 163) 3 - (a + 1)) (a + 1)
      · rw [z] at h
        cases h
      · rfl) (fun n a ha h => by
      rw [wX11_quarrel_h17, rc.1, n3, if_pos ((o_lt (by omega) (by omega)).2 ha), o_1, r11 a ha, t_sbe]
      cases z : fnd (qua x (s2.1 163) a) (nk (s2.1 163) 3 - (a + 1)) (a + 1)
      · rfl
      · rw [z] at h
        cases h) (fun n => by rw [wX11_quarrel_h17, rc.1, n3, if_neg (fun c => by have := (o_lt (by omega) (by omega)).1 c; omega)]) (Nat.zero_le _) (wF_k (by omega))
    have all := fnd_go (p := fun a => (fnd (fun b => lkv (s2.1 163) v a && (lkv (s2.1 163) v b && !tog x (s2.1 163) a b)) (40 - (a + 1)) (a + 1)).isSome) (q := fun a => (fnd (qua x (s2.1 163) a) (nk (s2.1 163) 3 - (a + 1)) (a + 1)).isSome) (n := nk (s2.1 163) 3) (m := 40) n40 (fun a h1 h2 => by
      rw [fnd_no (fun b _ _ => by rw [lkN a h1, Bool.false_and])]
      rfl) (k := 40 - 0) (i := 0) rfl (Nat.zero_le _) (fun a h1 h2 => by
      rw [rows a h2])
    rw [all] at l10
    rw [show (0 : Int32) = Int32.ofNat 0 from rfl, l10, t_sbe]
    have ref : ∀ R, (match (match fnd (fun a => (fnd (qua x (s2.1 163) a) (nk (s2.1 163) 3 - (a + 1)) (a + 1)).isSome) (nk (s2.1 163) 3 - 0) 0 with | none => (.inl () : Unit ⊕ (Int32 × Int32)) | some j => .inr (Int32.ofNat j, Int32.ofNat ((fnd (qua x (s2.1 163) j) (nk (s2.1 163) 3 - (j + 1)) (j + 1)).getD 0))) with | .inl () => some (((Int8.ofInt (-2)).toInt32), r) | .inr (t29, t30) => some (((64 * t29) + t30), r)) = R → ((wX11_canAsk x1 s2).bind fun t1 => if t1 = Int32.ofNat 0 then (some ((-1), s2)) else ((wX11_reaches x1 s2).bind fun s5 => (wX11_quarrel_h17 s5 wFuel (Int32.ofNat 0)).bind fun z25 => (match z25 with | .inl () => some (((Int8.ofInt (-2)).toInt32), s5) | .inr (t29, t30) => some (((64 * t29) + t30), s5)))) = R := fun R hR => by
      rw [c s2 q, t_sbe, if_neg (by decide), hx1, er, t_sbe, l11, t_sbe]
      exact hR
    cases z : fnd (fun a => (fnd (qua x (s2.1 163) a) (nk (s2.1 163) 3 - (a + 1)) (a + 1)).isSome) (nk (s2.1 163) 3 - 0) 0 with
    | none =>
      rw [z] at ref
      exact ⟨_, s2, _, r, rfl, ref _ rfl, rfl⟩
    | some j =>
      rw [z] at ref
      have hj := fnd_lt z
      refine ⟨_, s2, _, r, rfl, ref _ rfl, ?_⟩
      rw [rows j (by omega)]
end QR
end
section
/-! liars. -/
theorem pos_s {p : Nat → Bool} {n : Nat} : decide (0 < cnt p (n + 1)) = (decide (0 < cnt p n) || p n) := by
  cases h : p n
  · rw [cnt_f h, Bool.or_false]
  · rw [cnt_t h, Bool.or_true, decide_eq_true (Nat.succ_pos _)]
theorem low6 {v : Int32} (h : ∀ b, 6 ≤ b → b < 32 → bit v b = false) : ∃ n, n < 64 ∧ v = Int32.ofNat n := by
  have e : v.toBitVec.toNat < 2 ^ 6 := Nat.lt_pow_two_of_testBit _ (fun i hi => by
    by_cases c : i < 32
    · exact h i hi c
    · exact BitVec.getLsbD_of_ge v.toBitVec i (by omega))
  exact ⟨v.toBitVec.toNat, e, Int32.toBitVec_inj.1 (BitVec.eq_of_toNat_eq (by
    rw [Int32.toBitVec_ofNat', BitVec.toNat_ofNat, Nat.mod_eq_of_lt (by omega)]))⟩
/-- of an ANSWER: the WITNESS -/
noncomputable def awt (f : Nat → Int32) (a : Nat) : Nat := (f (42 + 5 * a)).toNatClampNeg
theorem bits_Z {s : wS} : ∀ (n : Nat) {y : Int32} {z : Int64}, wX11_bits_h4 s n y z = wX11_bits_h4 wZ n y z := by
  intro n
  induction n with
  | zero => intro y z; rfl
  | succ n ih =>
    intro y z
    rw [wX11_bits_h4, wX11_bits_h4, ih]
theorem bits_64 : ∀ n, n < 64 → wX11_bits (Int32.ofNat n).toInt64 wZ = some (bc (Int32.ofNat n)) := by decide +kernel
theorem bc_64 : ∀ n, n < 64 → ∃ c, c < 7 ∧ bc (Int32.ofNat n) = Int32.ofNat c := by decide +kernel
section LI
variable {s : wS} {x : lC} {l : Nat} {f : Nat → Int32} {r : wS}
theorem bits_E {n : Nat} (h : n < 64) : wX11_bits (Int32.ofNat n).toInt64 s = some (bc (Int32.ofNat n)) := by
  rw [← bits_64 n h]
  unfold wX11_bits
  rw [bits_Z]
/-- the lesser set -/
noncomputable def lss (a b : Int32) : Bool := decide (bc a < bc b) || (decide (bc a = bc b) && decide (a < b))
theorem lesser_E {m n : Nat} (hm : m < 64) (hn : n < 64) : wX10_isLesserSet (Int32.ofNat m) (Int32.ofNat n) s = some (if lss (Int32.ofNat m) (Int32.ofNat n) = true then 1 else 0) := by
  obtain ⟨c, hc, ec⟩ := bc_64 m hm
  obtain ⟨d, hd, ed⟩ := bc_64 n hn
  unfold wX10_isLesserSet wX10_isLesserSet_j23 lss
  rw [bc_E, t_sbe, bc_E, t_sbe, ec, ed]
  have e : (Int32.ofNat c - Int32.ofNat d).toInt = (c : Int) - d := by rw [t_sub (by rw [t_on (by omega), t_on (by omega)]; omega) (by rw [t_on (by omega), t_on (by omega)]; omega), t_on (by omega), t_on (by omega)]
  by_cases h1 : c < d
  · rw [if_pos (Int32.lt_iff_toInt_lt.2 (by rw [e, t_i0]; omega)), decide_eq_true ((o_lt (by omega) (by omega)).2 h1)]
    rfl
  · rw [if_neg (fun h => by have := t_lt h; rw [e, t_i0] at this; omega), decide_eq_false (fun h => h1 ((o_lt (by omega) (by omega)).1 h)), Bool.false_or]
    by_cases h2 : c = d
    · rw [if_pos (Int32.toInt_inj.1 (by rw [e, t_i0]; omega)), decide_eq_true (by rw [h2]), Bool.true_and]
      by_cases h3 : Int32.ofNat m < Int32.ofNat n
      · rw [if_pos h3, decide_eq_true h3]
        rfl
      · rw [if_neg h3, decide_eq_false h3]
        rfl
    · rw [if_neg (fun h => by have := congrArg Int32.toInt h; rw [e, t_i0] at this; omega), decide_eq_false (fun h => h2 ((o_eq (by omega) (by omega)).1 h))]
      rfl
/-- WITNESSES with something FALSE in a WORLD, as bits -/
noncomputable def lsb (x : lC) (f : Nat → Int32) (w : Nat) : Nat → Int32
  | 0 => 0
  | n + 1 => if (lkb f n && !trw x f n w) = true then lsb x f w n ||| (1 <<< (f (42 + 5 * n) &&& 31)) else lsb x f w n
theorem lsb_s {w n : Nat} : lsb x f w (n + 1) = if (lkb f n && !trw x f n w) = true then lsb x f w n ||| (1 <<< (f (42 + 5 * n) &&& 31)) else lsb x f w n := rfl
theorem lsb_b (hw : ∀ a : Nat, (a : Int) < (f 3).toInt → f (42 + 5 * a) = Int32.ofNat (awt f a) ∧ awt f a < 6) {w : Nat} : ∀ {n : Nat}, (n : Int) ≤ (f 3).toInt → ∀ b, b < 32 → bit (lsb x f w n) b = decide (0 < cnt (fun a => (lkb f a && !trw x f a w) && decide (awt f a = b)) n) := by
  intro n
  induction n with
  | zero =>
    intro _ b _
    show bit 0 b = _
    rw [bt_0]
    rfl
  | succ n ih =>
    intro hn b hb
    obtain ⟨h1, h2⟩ := hw n (by omega)
    rw [lsb_s, pos_s, ← ih (by omega) b hb]
    cases c : (lkb f n && !trw x f n w)
    · rw [b_f, Bool.false_and, Bool.or_false]
    · rw [if_pos rfl, Bool.true_and, h1, bt_or, bt_1 (by omega) hb]
      rw [decide_eq_decide.2 (show b = awt f n ↔ awt f n = b from ⟨Eq.symm, Eq.symm⟩)]
theorem lsb_64 (hw : ∀ a : Nat, (a : Int) < (f 3).toInt → f (42 + 5 * a) = Int32.ofNat (awt f a) ∧ awt f a < 6) {w n : Nat} (hn : (n : Int) ≤ (f 3).toInt) : ∃ m, m < 64 ∧ lsb x f w n = Int32.ofNat m := low6 (fun b h6 hb => by
  rw [lsb_b hw hn b hb, cnt_0 (fun a ha => ?_)]
  · rfl
  · have := (hw a (by omega)).2
    rw [decide_eq_false (show ¬ awt f a = b by omega), Bool.and_false])
/-- the least of the first so many WORLDS -/
noncomputable def lbs (x : lC) (f : Nat → Int32) (N : Nat) : Nat → Int32
  | 0 => -1
  | w + 1 => if (decide (lbs x f N w = -1) || lss (lsb x f w N) (lbs x f N w)) = true then lsb x f w N else lbs x f N w
theorem lbs_s {N w : Nat} : lbs x f N (w + 1) = if (decide (lbs x f N w = -1) || lss (lsb x f w N) (lbs x f N w)) = true then lsb x f w N else lbs x f N w := rfl
theorem lbs_64 {N : Nat} (h : ∀ w, ∃ m, m < 64 ∧ lsb x f w N = Int32.ofNat m) : ∀ w, lbs x f N w = -1 ∨ ∃ m, m < 64 ∧ lbs x f N w = Int32.ofNat m := by
  intro w
  induction w with
  | zero => exact Or.inl rfl
  | succ w ih =>
    rw [lbs_s]
    cases c : (decide (lbs x f N w = -1) || lss (lsb x f w N) (lbs x f N w))
    · rw [b_f]
      exact ih
    · rw [if_pos rfl]
      exact Or.inr (h w)
/-- of a thing: WITNESSES as bits, marked so far -/
theorem markOne_E (q : QS l x s) {kd : Nat} (hk : kd < 3) {k1 : Nat} {i0 : Int32} {a : Nat} (ha : (a : Int) < (s.1 163 3).toInt) (hi0 : i0.toInt = a) {near : Int32} : Tot (wX10_markLiars_h56 k1 i0 (Int32.ofNat kd) near wFuel 0 s) (fun r => FK 32 32 s r ∧ ∀ i, i < 24 → r.1 32 i = if 8 * kd ≤ i ∧ i < 8 * kd + nk (s.1 163) kd ∧ bit near (i - 8 * kd) = false then s.1 32 i ||| (1 <<< (s.1 163 (42 + 5 * a) &&& 31)) else s.1 32 i) := by
  have cf := q.2.2.2.2.2
  have n8 := (cf kd hk).2.2
  refine loop_N (L := fun n (p : Int32 × wS) => wX10_markLiars_h56 k1 i0 (Int32.ofNat kd) near n p.1 p.2) (N := nk (s.1 163) kd) (I := fun j p => p.1 = Int32.ofNat j ∧ FK 32 32 s p.2 ∧ ∀ i, i < 24 → p.2.1 32 i = if 8 * kd ≤ i ∧ i < 8 * kd + j ∧ bit near (i - 8 * kd) = false then s.1 32 i ||| (1 <<< (s.1 163 (42 + 5 * a) &&& 31)) else s.1 32 i) (x := (0, s)) (by omega) ⟨rfl, FK.refl, fun i _ => (if_neg (by omega)).symm⟩ (fun m j p hj hI => ?_) (fun m p hI => ?_)
  · obtain ⟨y, r⟩ := p
    obtain ⟨e, fk, z⟩ := hI
    dsimp only at e fk z ⊢
    subst e
    have qr := fk.qs (by omega) (by omega) q
    have hf : r.1 163 = s.1 163 := fk.f (by omega)
    rw [wX10_markLiars_h56, many_r q (fk.1 16 (by omega)) hk, t_sbe, if_pos ((o_lt (by omega) (by omega)).2 hj)]
    unfold wX10_markLiars_j126
    by_cases c : bit near j = false
    · rw [if_pos ((bt_z (by omega)).2 c), slot_o hk (by omega), t_sbe, at_o (n := 24) rfl (by omega) (by omega), t_sbe, (ans_E qr.1 (by rw [hf]; exact ha) hi0).1, t_sbe, t_sbe, set_o (n := 24) rfl (by omega) (by omega), t_sbe, o_1, hf]
      refine ⟨(Int32.ofNat (j + 1), wupI r 32 (8 * kd + j) (r.1 32 (8 * kd + j) ||| (1 <<< (s.1 163 (42 + 5 * a) &&& 31)))), rfl, rfl, fk.trans (FK_I (Nat.le_refl _) (Nat.le_refl _)), fun i hi => ?_⟩
      show (wupI r 32 (8 * kd + j) (r.1 32 (8 * kd + j) ||| (1 <<< (s.1 163 (42 + 5 * a) &&& 31)))).1 32 i = _
      rw [upI_at]
      by_cases d : i = 8 * kd + j
      · subst d
        rw [if_pos rfl, z _ hi, if_neg (by omega), if_pos ⟨by omega, by omega, by rw [show 8 * kd + j - 8 * kd = j by omega]; exact c⟩]
      · rw [if_neg d, z i hi]
        by_cases u : 8 * kd ≤ i ∧ i < 8 * kd + j ∧ bit near (i - 8 * kd) = false
        · rw [if_pos u, if_pos ⟨u.1, by omega, u.2.2⟩]
        · rw [if_neg u, if_neg (fun u' => u ⟨u'.1, by omega, u'.2.2⟩)]
    · rw [if_neg (fun h => c ((bt_z (by omega)).1 h)), o_1]
      refine ⟨(Int32.ofNat (j + 1), r), rfl, rfl, fk, fun i hi => ?_⟩
      show r.1 32 i = _
      rw [z i hi]
      by_cases d : i = 8 * kd + j
      · subst d
        rw [if_neg (by omega), if_neg (fun u => c (by rw [show 8 * kd + j - 8 * kd = j by omega] at u; exact u.2.2))]
      · by_cases u : 8 * kd ≤ i ∧ i < 8 * kd + j ∧ bit near (i - 8 * kd) = false
        · rw [if_pos u, if_pos ⟨u.1, by omega, u.2.2⟩]
        · rw [if_neg u, if_neg (fun u' => u ⟨u'.1, by omega, u'.2.2⟩)]
  · obtain ⟨y, r⟩ := p
    obtain ⟨e, fk, z⟩ := hI
    dsimp only at e fk z ⊢
    subst e
    rw [wX10_markLiars_h56, many_r q (fk.1 16 (by omega)) hk, t_sbe, if_neg (fun c => by have := (o_lt (by omega) (by omega)).1 c; omega)]
    exact t_some ⟨fk, z⟩
/-- how many of a WITNESS are FALSE with a thing -/
noncomputable def lia (x : lC) (f : Nat → Int32) (P : Nat → Bool) (kd t b n : Nat) : Nat := cnt (fun a => P a && (decide (akd f a = kd) && (!tra x f a t && decide (awt f a = b)))) n
theorem lia_s {P : Nat → Bool} {kd t b n : Nat} : decide (0 < lia x f P kd t b (n + 1)) = (decide (0 < lia x f P kd t b n) || (P n && (decide (akd f n = kd) && (!tra x f n t && decide (awt f n = b))))) := pos_s
theorem marks_E (q : QS l x s) (hw : ∀ a : Nat, (a : Int) < (s.1 163 3).toInt → s.1 163 (42 + 5 * a) = Int32.ofNat (awt (s.1 163) a) ∧ awt (s.1 163) a < 6) {v : Int32} (ev : wX2_first 14 s = some v) : Tot (wX10_markLiars (44 + 10 * l) s) (fun r => FK 32 32 s r ∧ ∀ kd t, kd < 3 → t < nk (s.1 163) kd → ∀ b, b < 32 → bit (r.1 32 (8 * kd + t)) b = decide (0 < lia x (s.1 163) (lkv (s.1 163) v) kd t b 40)) := by
  have cf := q.2.2.2.2.2
  unfold wX10_markLiars
  obtain ⟨s2, e2, f2, z2⟩ := empty_E (s := s) (k := 32) (n := 24) rfl (by omega)
  rw [e2, t_sbe]
  refine t_bind (P := fun r => FK 32 32 s r ∧ ∀ kd t, kd < 3 → t < nk (s.1 163) kd → ∀ b, b < 32 → bit (r.1 32 (8 * kd + t)) b = decide (0 < lia x (s.1 163) (lkv (s.1 163) v) kd t b 40)) ?_ (fun r h => t_some h)
  refine loop_N (L := fun n (p : Int32 × wS) => wX10_markLiars_h9 (44 + 10 * l) n p.1 p.2) (N := 40) (I := fun j p => p.1 = Int32.ofNat j ∧ FK 32 32 s p.2 ∧ ∀ kd t, kd < 3 → t < nk (s.1 163) kd → ∀ b, b < 32 → bit (p.2.1 32 (8 * kd + t)) b = decide (0 < lia x (s.1 163) (lkv (s.1 163) v) kd t b j)) (x := (0, s2)) (by omega) ⟨rfl, f2, fun kd t hk ht b _ => ?_⟩ (fun m j p hj hI => ?_) (fun m p hI => ?_)
  · have n8 := (cf kd hk).2.2
    show bit (s2.1 32 (8 * kd + t)) b = _
    rw [z2 _ (by omega), bt_0]
    rfl
  · obtain ⟨y, r⟩ := p
    obtain ⟨e, fk, z⟩ := hI
    dsimp only at e fk z ⊢
    subst e
    have qr := fk.qs (by omega) (by omega) q
    have hf : r.1 163 = s.1 163 := fk.f (by omega)
    have lk := lkv_E qr.1 (v := v) hj
    rw [hf] at lk
    have fv : wX2_first 14 r = some v := by
      rw [← ev]
      unfold wX2_first
      rw [fk.1 14 (by omega)]
    rw [wX10_markLiars_h9, if_pos (show Int32.ofNat j < 40 from (o_lt (a := j) (b := 40) (by omega) (by omega)).2 hj), fv, t_sbe, lk, t_sbe]
    unfold wX10_markLiars_j132
    rw [o_1]
    cases c : lkv (s.1 163) v j
    · rw [b_f, qi0]
      refine ⟨(Int32.ofNat (j + 1), r), rfl, rfl, fk, fun kd t hk ht b hb => ?_⟩
      show bit (r.1 32 (8 * kd + t)) b = _
      rw [z kd t hk ht b hb, lia_s, c, Bool.false_and, Bool.or_false]
    · have ha : (j : Int) < (s.1 163 3).toInt := lkv_lt c
      have har : (j : Int) < (r.1 163 3).toInt := by rw [hf]; exact ha
      obtain ⟨k3, o1, o2, ek, -⟩ := q.1.af j ha
      have n8 := (cf _ k3).2.2
      have nt := nearThings_E qr.1 q.2.1 qr.2.2.2.2.1 qr.2.2.2.2.2 har
      rw [hf] at nt
      obtain ⟨w1, w6⟩ := hw j ha
      obtain ⟨r2, er, fk2, z2⟩ := markOne_E qr (k1 := 44 + 10 * l) (i0 := Int32.ofNat j) (near := nb2 (FVx x (s.1 163) (Int32.ofNat (akd (s.1 163) j))) (aone (s.1 163) j) (aoth (s.1 163) j) (nk (s.1 163) (akd (s.1 163) j))) k3 har (t_on (by omega))
      rw [if_pos rfl, qi1, (ans_E qr.1 har (t_on (by omega))).2.1, hf, t_sbe, nt, t_sbe, ek, er, t_sbe]
      rw [hf] at z2
      refine ⟨(Int32.ofNat (j + 1), r2), rfl, rfl, fk.trans fk2, fun kd t hk ht b hb => ?_⟩
      have n8' := (cf kd hk).2.2
      show bit (r2.1 32 (8 * kd + t)) b = _
      rw [z2 _ (by omega), lia_s, c, Bool.true_and]
      by_cases kk : akd (s.1 163) j = kd
      · subst kk
        rw [show 8 * akd (s.1 163) j + t - 8 * akd (s.1 163) j = t by omega, near_bt q ha ht, decide_eq_true (rfl : akd (s.1 163) j = akd (s.1 163) j), Bool.true_and]
        cases tr : tra x (s.1 163) j t
        · rw [if_pos ⟨by omega, by omega, rfl⟩, w1, bt_or, bt_1 (by omega) hb, z _ t hk ht b hb, Bool.not_false, Bool.true_and]
          rw [decide_eq_decide.2 (show b = awt (s.1 163) j ↔ awt (s.1 163) j = b from ⟨Eq.symm, Eq.symm⟩)]
        · rw [if_neg (fun u => by have := u.2.2; cases this), z _ t hk ht b hb, Bool.not_true, Bool.false_and, Bool.or_false]
      · rw [if_neg (by omega), z kd t hk ht b hb, decide_eq_false kk, Bool.false_and, Bool.or_false]
  · obtain ⟨y, r⟩ := p
    obtain ⟨e, fk, z⟩ := hI
    dsimp only at e fk z ⊢
    subst e
    rw [wX10_markLiars_h9, if_neg (by decide)]
    exact t_some ⟨fk, z⟩
theorem lia_3 {P : Nat → Bool} {w b : Nat} : ∀ {n : Nat}, (∀ a, a < n → P a = true → akd f a < 3) → (decide (0 < lia x f P 0 (thn f 0 w) b n) || decide (0 < lia x f P 1 (thn f 1 w) b n) || decide (0 < lia x f P 2 (thn f 2 w) b n)) = decide (0 < cnt (fun a => (P a && !trw x f a w) && decide (awt f a = b)) n) := by
  intro n
  induction n with
  | zero => intro _; rfl
  | succ n ih =>
    intro h
    have i := ih (fun a ha => h a (by omega))
    rw [lia_s, lia_s, lia_s, pos_s, ← i, trw_a]
    cases p : P n
    · rw [Bool.false_and, Bool.false_and, Bool.false_and, Bool.false_and, Bool.false_and, Bool.or_false, Bool.or_false, Bool.or_false, Bool.or_false]
    · have k := h n (by omega) p
      rw [Bool.true_and, Bool.true_and, Bool.true_and, Bool.true_and]
      obtain k | k | k : akd f n = 0 ∨ akd f n = 1 ∨ akd f n = 2 := by omega
      · rw [k, show decide (0 = 0) = true from rfl, show decide (0 = 1) = false from rfl, show decide (0 = 2) = false from rfl]
        cases decide (0 < lia x f P 0 (thn f 0 w) b n) <;> cases decide (0 < lia x f P 1 (thn f 1 w) b n) <;> cases decide (0 < lia x f P 2 (thn f 2 w) b n) <;> cases tra x f n (thn f 0 w) <;> cases decide (awt f n = b) <;> rfl
      · rw [k, show decide (1 = 0) = false from rfl, show decide (1 = 1) = true from rfl, show decide (1 = 2) = false from rfl]
        cases decide (0 < lia x f P 0 (thn f 0 w) b n) <;> cases decide (0 < lia x f P 1 (thn f 1 w) b n) <;> cases decide (0 < lia x f P 2 (thn f 2 w) b n) <;> cases tra x f n (thn f 1 w) <;> cases decide (awt f n = b) <;> rfl
      · rw [k, show decide (2 = 0) = false from rfl, show decide (2 = 1) = false from rfl, show decide (2 = 2) = true from rfl]
        cases decide (0 < lia x f P 0 (thn f 0 w) b n) <;> cases decide (0 < lia x f P 1 (thn f 1 w) b n) <;> cases decide (0 < lia x f P 2 (thn f 2 w) b n) <;> cases tra x f n (thn f 2 w) <;> cases decide (awt f n = b) <;> rfl
theorem op_liars {x1 : Int32} (g : JB s) : ∃ v s1 v2 s2, wX10_liars x1 s = some (v, s1) ∧ wX11_liars x1 s1 = some (v2, s2) ∧ v = v2 := by
  unfold wX10_liars wX11_liars
  rcases ask_E g x1 with ⟨e, c⟩ | ⟨l, s2, x, q, hx1, e, hf, c⟩
  · rw [e, t_sbe]
    refine ⟨-1, s, -1, s, rfl, ?_, rfl⟩
    rw [c, t_sbe, qi0]
  · rw [e, t_sbe]
    dsimp only [Option.elim]
    have cf := q.2.2.2.2.2
    have w5 := cf.w
    have en := t_cln q.f3.1
    have en2 : nk (s2.1 163) 3 = (s2.1 163 3).toNatClampNeg := rfl
    have hw : ∀ a : Nat, (a : Int) < (s2.1 163 3).toInt → s2.1 163 (42 + 5 * a) = Int32.ofNat (awt (s2.1 163) a) ∧ awt (s2.1 163) a < 6 := fun a ha => by
      have h := (q.1.h.2.2.2.2.1 a ha).1
      have e := t_cln h.1
      exact ⟨(t_oc h.1).symm, by unfold awt; omega⟩
    obtain ⟨v, ev, hv⟩ := first_v q.1
    obtain ⟨s3, e3, f3, z3⟩ := marks_E q hw ev
    have q3 := f3.qs (by omega) (by omega) q
    have hf3 : s3.1 163 = s2.1 163 := f3.f (by omega)
    obtain ⟨r, er, rc⟩ := q3.rc
    rw [hf3] at rc
    obtain ⟨n3, n40⟩ := rc.n3
    have l64 := fun w => lsb_64 (x := x) (f := s2.1 163) hw (w := w) (n := nk (s2.1 163) 3) (by omega)
    have b64 := lbs_64 (x := x) (f := s2.1 163) (N := nk (s2.1 163) 3) l64
    -- the class's set of a WORLD
    have in10 : ∀ (y3 : Int32) w, w < nW (s2.1 163) → wX10_liars_h43 y3 (Int32.ofNat w) s3 wFuel 0 0 = some (lsb x (s2.1 163) w (nk (s2.1 163) 3)) := fun y3 w hw' => by
      have th := fun kd (hk : kd < 3) => thingIn_E q3.1 q3.2.2.2.2.2 hk (w := w) (by rw [hf3]; exact hw')
      rw [hf3] at th
      have tl := fun kd (hk : kd < 3) => thn_lt cf hk hw'
      have n8 := fun kd (hk : kd < 3) => (cf kd hk).2.2
      have st : ∀ n (u : Int32) kd, kd < 3 → wX10_liars_h43 y3 (Int32.ofNat w) s3 (n + 1) u (Int32.ofNat kd) = wX10_liars_h43 y3 (Int32.ofNat w) s3 n (u ||| s3.1 32 (8 * kd + thn (s2.1 163) kd w)) (Int32.ofNat (kd + 1)) := fun n u kd hk => by
        have t1 := tl kd hk
        have t2 := n8 kd hk
        rw [wX10_liars_h43, if_pos (show Int32.ofNat kd < 3 from (o_lt (a := kd) (b := 3) (by omega) (by omega)).2 hk), th kd hk, t_sbe, slot_o hk (by omega), t_sbe, at_o (n := 24) rfl (by omega) (by omega), t_sbe, o_1]
      have f3' : wFuel = (wFuel - 4) + 1 + 1 + 1 + 1 := by
        have e : wFuel = 1099511627776 := rfl
        omega
      rw [f3', show wX10_liars_h43 y3 (Int32.ofNat w) s3 (wFuel - 4 + 1 + 1 + 1 + 1) 0 0 = wX10_liars_h43 y3 (Int32.ofNat w) s3 (wFuel - 4 + 1 + 1 + 1 + 1) 0 (Int32.ofNat 0) from rfl, st _ _ 0 (by decide), st _ _ 1 (by decide), st _ _ 2 (by decide), wX10_liars_h43, if_neg (by decide)]
      refine congrArg some (bit_ext (fun b hb => ?_))
      rw [bt_or, bt_or, bt_or, bt_0, Bool.false_or, z3 0 _ (by decide) (tl 0 (by decide)) b hb, z3 1 _ (by decide) (tl 1 (by decide)) b hb, z3 2 _ (by decide) (tl 2 (by decide)) b hb, lia_3 (fun a _ p => (q.1.af a (lkv_lt p)).1), lsb_b hw (by omega) b hb]
      rw [cnt_ext (n := nk (s2.1 163) 3) (by omega) (fun a h1 _ => ?_)]
      · rw [cnt_cg (fun a ha => ?_)]
        rw [lkv_b hv (by omega)]
      · have : lkv (s2.1 163) v a = false := Bool.eq_false_iff.2 (fun h => by have := lkv_lt h; omega)
        rw [this, Bool.false_and, Bool.false_and]
    have in11 : ∀ (y2 : Int32) w, w < nW (s2.1 163) → wX11_liars_h33 y2 (Int32.ofNat w) r wFuel 0 0 = some (lsb x (s2.1 163) w (nk (s2.1 163) 3)) := fun y2 w hw' => by
      refine loop_P (L := fun n (p : Int32 × Int32) => wX11_liars_h33 y2 (Int32.ofNat w) r n p.1 p.2) (N := nk (s2.1 163) 3) (I := fun a p => p.1 = lsb x (s2.1 163) w a ∧ p.2 = Int32.ofNat a) (x := (0, 0)) (by omega) ⟨rfl, rfl⟩ (fun n a p ha hI => ?_) (fun n p hI => ?_)
      · obtain ⟨u, i⟩ := p
        obtain ⟨ea, eb⟩ := hI
        dsimp only at ea eb ⊢
        subst ea eb
        rw [wX11_liars_h33, rc.1, n3, if_pos ((o_lt (by omega) (by omega)).2 ha), lkb_E rc.1 (by omega), t_sbe, lsb_s]
        unfold wX11_liars_j77 wX11_liars_j78
        rw [o_1]
        cases lb : lkb (s2.1 163) a
        · rw [b_f, qi0, Bool.false_and, b_f]
          exact ⟨(_, _), rfl, Int32.or_zero, rfl⟩
        · rw [if_pos rfl, qi1, rc.tr ha hw', t_sbe, Bool.true_and]
          cases tr : trw x (s2.1 163) a w
          · rw [b_f, qi0, answerOf_E (a := a) (w := 0) (by omega) (t_on (by omega)) (by decide) rfl, t_sbe, rc.1, Bool.not_false, if_pos rfl]
            exact ⟨(_, _), rfl, rfl, rfl⟩
          · rw [if_pos rfl, qi1, Bool.not_true, b_f]
            exact ⟨(_, _), rfl, Int32.or_zero, rfl⟩
      · obtain ⟨u, i⟩ := p
        obtain ⟨ea, eb⟩ := hI
        dsimp only at ea eb ⊢
        subst ea eb
        rw [wX11_liars_h33, rc.1, n3, if_neg (fun c => by have := (o_lt (by omega) (by omega)).1 c; omega)]
    have l10 : wX10_liars_h22 s3 wFuel (-1) 0 = some (lbs x (s2.1 163) (nk (s2.1 163) 3) (nW (s2.1 163))) := by
      refine loop_P (L := fun n (p : Int32 × Int32) => wX10_liars_h22 s3 n p.1 p.2) (N := nW (s2.1 163)) (I := fun w p => p.1 = lbs x (s2.1 163) (nk (s2.1 163) 3) w ∧ p.2 = Int32.ofNat w) (x := (-1, 0)) (by omega) ⟨rfl, rfl⟩ (fun n w p hw' hI => ?_) (fun n p hI => ?_)
      · obtain ⟨u, i⟩ := p
        obtain ⟨ea, eb⟩ := hI
        dsimp only at ea eb ⊢
        subst ea eb
        obtain ⟨m, hm, em⟩ := l64 w
        rw [wX10_liars_h22, nworlds_r q (f3.1 16 (by omega)), t_sbe, if_pos ((o_lt (by omega) (by omega)).2 hw'), in10 _ w hw', t_sbe, lbs_s]
        unfold wX10_liars_j100 wX10_liars_j103
        rw [o_1]
        by_cases z : lbs x (s2.1 163) (nk (s2.1 163) 3) w = -1
        · rw [if_pos z, decide_eq_true z, Bool.true_or, if_pos rfl]
          exact ⟨(_, _), rfl, rfl, rfl⟩
        · obtain ⟨m2, hm2, em2⟩ := (b64 w).resolve_left z
          rw [if_neg z, decide_eq_false z, Bool.false_or, em, em2, lesser_E hm hm2, t_sbe]
          cases d : lss (Int32.ofNat m) (Int32.ofNat m2)
          · rw [b_f, qi0, b_f]
            exact ⟨(_, _), rfl, rfl, rfl⟩
          · rw [if_pos rfl, qi1, if_pos rfl]
            exact ⟨(_, _), rfl, rfl, rfl⟩
      · obtain ⟨u, i⟩ := p
        obtain ⟨ea, eb⟩ := hI
        dsimp only at ea eb ⊢
        subst ea eb
        rw [wX10_liars_h22, nworlds_r q (f3.1 16 (by omega)), t_sbe, if_neg (fun c => by have := (o_lt (by omega) (by omega)).1 c; omega)]
    have l11 : wX11_liars_h19 r wFuel (-1) 0 = some (lbs x (s2.1 163) (nk (s2.1 163) 3) (nW (s2.1 163))) := by
      refine loop_P (L := fun n (p : Int32 × Int32) => wX11_liars_h19 r n p.1 p.2) (N := nW (s2.1 163)) (I := fun w p => p.1 = lbs x (s2.1 163) (nk (s2.1 163) 3) w ∧ p.2 = Int32.ofNat w) (x := (-1, 0)) (by omega) ⟨rfl, rfl⟩ (fun n w p hw' hI => ?_) (fun n p hI => ?_)
      · obtain ⟨u, i⟩ := p
        obtain ⟨ea, eb⟩ := hI
        dsimp only at ea eb ⊢
        subst ea eb
        obtain ⟨m, hm, em⟩ := l64 w
        rw [wX11_liars_h19, rc.nw, t_sbe, if_pos ((o_lt (by omega) (by omega)).2 hw'), in11 _ w hw', t_sbe, lbs_s]
        unfold wX11_liars_j125 wX11_liars_j128
        rw [o_1]
        by_cases z : lbs x (s2.1 163) (nk (s2.1 163) 3) w = -1
        · rw [if_pos (by rw [z]; decide), decide_eq_true z, Bool.true_or, if_pos rfl]
          exact ⟨(_, _), rfl, rfl, rfl⟩
        · obtain ⟨m2, hm2, em2⟩ := (b64 w).resolve_left z
          rw [decide_eq_false z, Bool.false_or, em, em2, if_neg (show ¬ Int32.ofNat m2 < 0 from fun h => by have := (o_lt (b := 0) (by omega) (by omega)).1 h; omega), bits_E hm, t_sbe, bits_E hm2, t_sbe]
          unfold lss
          by_cases d : bc (Int32.ofNat m) < bc (Int32.ofNat m2)
          · rw [if_pos d, decide_eq_true d, Bool.true_or, if_pos rfl]
            exact ⟨(_, _), rfl, rfl, rfl⟩
          · rw [if_neg d, decide_eq_false d, Bool.false_or, t_sbe, t_sbe]
            by_cases d2 : bc (Int32.ofNat m) = bc (Int32.ofNat m2)
            · rw [if_pos d2, decide_eq_true d2, Bool.true_and]
              by_cases d3 : Int32.ofNat m < Int32.ofNat m2
              · rw [if_pos d3, decide_eq_true d3, if_pos rfl]
                exact ⟨(_, _), rfl, rfl, rfl⟩
              · rw [if_neg d3, decide_eq_false d3, b_f]
                exact ⟨(_, _), rfl, rfl, rfl⟩
            · rw [if_neg d2, decide_eq_false d2, Bool.false_and, b_f]
              exact ⟨(_, _), rfl, rfl, rfl⟩
      · obtain ⟨u, i⟩ := p
        obtain ⟨ea, eb⟩ := hI
        dsimp only at ea eb ⊢
        subst ea eb
        rw [wX11_liars_h19, rc.nw, t_sbe, if_neg (fun c => by have := (o_lt (by omega) (by omega)).1 c; omega)]
    rw [e3, t_sbe, l10, t_sbe]
    refine ⟨_, s3, _, r, rfl, ?_, rfl⟩
    rw [c s3 q3, t_sbe, qi1, hx1, er, t_sbe, l11, t_sbe]
end LI
end
section
/-! proof. -/
/-- the first twelve of these -/
noncomputable def lwg (P : Nat → Bool) : Nat → List Nat
  | 0 => []
  | n + 1 => if P n = true ∧ (lwg P n).length < 12 then lwg P n ++ [n] else lwg P n
theorem lwg_s {P : Nat → Bool} {n : Nat} : lwg P (n + 1) = if P n = true ∧ (lwg P n).length < 12 then lwg P n ++ [n] else lwg P n := rfl
theorem lwg_12 {P : Nat → Bool} : ∀ {n : Nat}, (lwg P n).length ≤ 12 := by
  intro n
  induction n with
  | zero => exact Nat.zero_le _
  | succ n ih =>
    rw [lwg_s]
    by_cases c : P n = true ∧ (lwg P n).length < 12
    · rw [if_pos c, List.length_append]
      have := c.2
      show (lwg P n).length + 1 ≤ 12
      omega
    · rw [if_neg c]
      exact ih
theorem lwg_full {P : Nat → Bool} {n : Nat} (h : ¬ (lwg P n).length < 12) : ∀ {m : Nat}, n ≤ m → lwg P m = lwg P n := by
  intro m
  induction m with
  | zero => intro hm; rw [show n = 0 by omega]
  | succ m ih =>
    intro hm
    by_cases c : n = m + 1
    · rw [c]
    · have e := ih (by omega)
      rw [lwg_s, if_neg (fun q => h (by rw [← e]; exact q.2)), e]
theorem lwg_cg {P Q : Nat → Bool} : ∀ {n : Nat}, (∀ i, i < n → P i = Q i) → lwg P n = lwg Q n := by
  intro n
  induction n with
  | zero => intro _; rfl
  | succ n ih =>
    intro h
    rw [lwg_s, lwg_s, ih (fun i hi => h i (by omega)), h n (by omega)]
theorem lwg_ext {P : Nat → Bool} {n : Nat} : ∀ {m : Nat}, n ≤ m → (∀ i, n ≤ i → i < m → P i = false) → lwg P m = lwg P n := by
  intro m
  induction m with
  | zero => intro hm _; rw [show n = 0 by omega]
  | succ m ih =>
    intro hm h
    by_cases c : n = m + 1
    · rw [c]
    · rw [lwg_s, if_neg (fun q => by rw [h m (by omega) (by omega)] at q; exact absurd q.1 (by decide))]
      exact ih (by omega) (fun i h1 h2 => h i h1 (by omega))
theorem lwg_m {P : Nat → Bool} {a : Nat} : ∀ {n : Nat}, a ∈ lwg P n → a < n ∧ P a = true := by
  intro n
  induction n with
  | zero => intro h; cases h
  | succ n ih =>
    intro h
    rw [lwg_s] at h
    by_cases c : P n = true ∧ (lwg P n).length < 12
    · rw [if_pos c] at h
      rcases List.mem_append.1 h with h | h
      · obtain ⟨h1, h2⟩ := ih h
        exact ⟨by omega, h2⟩
      · rw [List.mem_singleton] at h
        rw [h]
        exact ⟨Nat.lt_succ_self n, c.1⟩
    · rw [if_neg c] at h
      obtain ⟨h1, h2⟩ := ih h
      exact ⟨by omega, h2⟩
theorem app_1 {T : List Nat} {u i a : Nat} (h : (T ++ [u])[i]? = some a) : (i < T.length ∧ T[i]? = some a) ∨ (i = T.length ∧ a = u) := by
  by_cases c : i < T.length
  · rw [List.getElem?_append_left c] at h
    exact Or.inl ⟨c, h⟩
  · rw [List.getElem?_append_right (by omega)] at h
    by_cases d : i - T.length = 0
    · rw [d] at h
      exact Or.inr ⟨by omega, (Option.some.inj h).symm⟩
    · rw [List.getElem?_eq_none (by show 1 ≤ i - T.length; omega)] at h
      cases h
theorem bc_4096 : ∀ a, a < 64 → ∀ b, b < 64 → wX11_bits (Int32.ofNat (64 * a + b)).toInt64 wZ = some (bc (Int32.ofNat (64 * a + b))) := by decide +kernel
theorem sh_12 : ∀ m, m < 13 → (1 : Int32) <<< (Int32.ofNat m &&& 31) = Int32.ofNat (2 ^ m) := by decide +kernel
theorem p_12 : ∀ m, m < 13 → 2 ^ m ≤ 4096 := by decide
section PF
variable {s : wS} {x : lC} {l : Nat} {f : Nat → Int32} {r : wS}
theorem bits12_E {n : Nat} (h : n < 4096) : wX11_bits (Int32.ofNat n).toInt64 s = some (bc (Int32.ofNat n)) := by
  have := bc_4096 (n / 64) (by omega) (n % 64) (by omega)
  rw [show 64 * (n / 64) + n % 64 = n by omega] at this
  rw [← this]
  unfold wX11_bits
  rw [bits_Z]
/-- with a thing, all of a set may be TRUE; all of it is TRUE in a WORLD -/
noncomputable def tlb (x : lC) (f : Nat → Int32) (T : List Nat) (y : Int32) (kd t : Nat) : Nat → Bool
  | 0 => true
  | j + 1 => tlb x f T y kd t j && (!bit y j || ttb x f (T.getD j 0) kd t)
noncomputable def twb (x : lC) (f : Nat → Int32) (T : List Nat) (y : Int32) (w : Nat) : Nat → Bool
  | 0 => true
  | j + 1 => twb x f T y w j && (!bit y j || trw x f (T.getD j 0) w)
theorem ttb_w (cf : CFt f) {a w : Nat} (ka : akd f a < 3) (hw : w < nW f) : (∀ kd, kd < 3 → ttb x f a kd (thn f kd w) = true) ↔ trw x f a w = true := by
  refine ⟨fun h => ?_, fun h kd hk => ?_⟩
  · have := h _ ka
    unfold ttb at this
    rw [decide_eq_true (rfl : akd f a = akd f a), Bool.not_true, Bool.false_or, Bool.and_eq_true] at this
    exact this.2
  · have tl := thn_lt cf hk hw
    unfold ttb
    rw [decide_eq_true tl, Bool.true_and]
    by_cases c : akd f a = kd
    · rw [decide_eq_true c, ← c, ← trw_a, h]
      rfl
    · rw [decide_eq_false c]
      rfl
theorem tlb_w (cf : CFt f) {T : List Nat} (hT : ∀ a, a ∈ T → akd f a < 3) {y : Int32} {w : Nat} (hw : w < nW f) : ∀ {m : Nat}, m ≤ T.length → ((∀ kd, kd < 3 → tlb x f T y kd (thn f kd w) m = true) ↔ twb x f T y w m = true) := by
  intro m
  induction m with
  | zero => intro _; exact iff_of_true (fun _ _ => rfl) rfl
  | succ m ih =>
    intro hm
    have ka : akd f (T.getD m 0) < 3 := hT _ (by
      rw [List.getD_eq_getElem?_getD, List.getElem?_eq_getElem (by omega)]
      exact List.getElem_mem _)
    have i := ih (by omega)
    have one := ttb_w (x := x) cf ka hw
    have e1 : ∀ kd, tlb x f T y kd (thn f kd w) (m + 1) = (tlb x f T y kd (thn f kd w) m && (!bit y m || ttb x f (T.getD m 0) kd (thn f kd w))) := fun _ => rfl
    have e2 : twb x f T y w (m + 1) = (twb x f T y w m && (!bit y m || trw x f (T.getD m 0) w)) := rfl
    rw [e2]
    refine ⟨fun h => ?_, fun h kd hk => ?_⟩
    · rw [Bool.and_eq_true]
      refine ⟨i.1 (fun kd hk => ?_), ?_⟩
      · have := h kd hk
        rw [e1, Bool.and_eq_true] at this
        exact this.1
      · cases b : bit y m
        · rfl
        · rw [Bool.not_true, Bool.false_or]
          refine one.1 (fun kd hk => ?_)
          have := h kd hk
          rw [e1, b, Bool.and_eq_true, Bool.not_true, Bool.false_or] at this
          exact this.2
    · rw [Bool.and_eq_true] at h
      rw [e1, Bool.and_eq_true]
      refine ⟨i.2 h.1 kd hk, ?_⟩
      cases b : bit y m
      · rfl
      · have := h.2
        rw [b, Bool.not_true, Bool.false_or] at this
        rw [Bool.not_true, Bool.false_or]
        exact one.2 this kd hk
theorem tlb_lt {T : List Nat} {y : Int32} {kd t m : Nat} (j : Nat) (hj : j < m) (hb : bit y j = true) (h : tlb x f T y kd t m = true) : t < nk f kd := by
  induction m with
  | zero => omega
  | succ m ih =>
    have e1 : tlb x f T y kd t (m + 1) = (tlb x f T y kd t m && (!bit y m || ttb x f (T.getD m 0) kd t)) := rfl
    rw [e1, Bool.and_eq_true] at h
    by_cases c : j = m
    · have := h.2
      rw [← c, hb, Bool.not_true, Bool.false_or] at this
      unfold ttb at this
      rw [Bool.and_eq_true] at this
      exact of_decide_eq_true this.1
    · exact ih (by omega) h.1
/-- it proves the MAN -/
noncomputable def PRV (x : lC) (f : Nat → Int32) (T : List Nat) (y : Int32) (M : Nat) : Prop := (∃ w, w < nW f ∧ twb x f T y w T.length = true) ∧ ∀ w, w < nW f → twb x f T y w T.length = true → thn f 2 w = M
/-- the class's rows of the first twelve -/
noncomputable def TRW (x : lC) (f : Nat → Int32) (T : List Nat) (r : wS) : Prop := ∀ j a, T[j]? = some a → ∀ b, b < 32 → bit (r.1 39 j) b = (decide (b < 24) && ttb x f a (b / 8) (b % 8))
theorem gather_E (q : QS l x s) : Tot (wX10_gatherProof (44 + 10 * l) s) (fun v => v.1 = Int32.ofNat (lwg (lkb (s.1 163)) (nk (s.1 163) 3)).length ∧ FK 39 39 s v.2 ∧ TRW x (s.1 163) (lwg (lkb (s.1 163)) (nk (s.1 163) 3)) v.2) := by
  have cf := q.2.2.2.2.2
  have en := t_cln q.f3.1
  have en2 : nk (s.1 163) 3 = (s.1 163 3).toNatClampNeg := rfl
  have f40 := q.f3.2
  obtain ⟨v, ev, hv⟩ := first_v q.1
  have all : lwg (lkv (s.1 163) v) 40 = lwg (lkb (s.1 163)) (nk (s.1 163) 3) := by
    rw [lwg_ext (n := nk (s.1 163) 3) (by omega) (fun i h1 _ => Bool.eq_false_iff.2 (fun h => by have := lkv_lt h; omega))]
    exact lwg_cg (fun i hi => lkv_b hv (by omega))
  rw [← all]
  unfold wX10_gatherProof
  refine t_bind (P := fun v' => v'.1 = Int32.ofNat (lwg (lkv (s.1 163) v) 40).length ∧ FK 39 39 s v'.2 ∧ TRW x (s.1 163) (lwg (lkv (s.1 163) v) 40) v'.2) ?_ (fun r h => t_some h)
  refine loop_T (L := fun n (p : Int32 × Int32 × wS) => wX10_gatherProof_h4 (44 + 10 * l) n p.1 p.2.1 p.2.2) (N := 40) (I := fun i p => p.1 = Int32.ofNat (lwg (lkv (s.1 163) v) i).length ∧ p.2.1 = Int32.ofNat i ∧ FK 39 39 s p.2.2 ∧ TRW x (s.1 163) (lwg (lkv (s.1 163) v) i) p.2.2) (fun n i p hi hI => ?_) (fun n p hI => ?_) wFuel 0 (0, 0, s) (Nat.zero_le _) ⟨rfl, rfl, FK.refl, fun j a h => by cases h⟩ (wF_b (by omega))
  · obtain ⟨a, b, r⟩ := p
    obtain ⟨ea, eb, fk, tr⟩ := hI
    dsimp only at ea eb fk tr ⊢
    subst ea eb
    have l12 := lwg_12 (P := lkv (s.1 163) v) (n := i)
    rw [wX10_gatherProof_h4, if_pos (show Int32.ofNat i < 40 from (o_lt (a := i) (b := 40) (by omega) (by omega)).2 hi)]
    by_cases c : (lwg (lkv (s.1 163) v) i).length < 12
    · left
      have qr := fk.qs (by omega) (by omega) q
      have hf : r.1 163 = s.1 163 := fk.f (by omega)
      have lk := lkv_E qr.1 (v := v) hi
      rw [hf] at lk
      have fv : wX2_first 14 r = some v := by
        rw [← ev]
        unfold wX2_first
        rw [fk.1 14 (by omega)]
      rw [if_pos (show Int32.ofNat _ < 12 from (o_lt (b := 12) (by omega) (by omega)).2 c), fv, t_sbe, lk, t_sbe]
      unfold wX10_gatherProof_j51
      rw [o_1]
      cases d : lkv (s.1 163) v i
      · rw [b_f, qi0]
        have e : lwg (lkv (s.1 163) v) (i + 1) = lwg (lkv (s.1 163) v) i := by rw [lwg_s, if_neg (fun q => by rw [d] at q; exact absurd q.1 (by decide))]
        exact ⟨(Int32.ofNat (lwg (lkv (s.1 163) v) i).length, Int32.ofNat (i + 1), r), rfl, by rw [e], rfl, fk, by rw [e]; exact tr⟩
      · have e : lwg (lkv (s.1 163) v) (i + 1) = lwg (lkv (s.1 163) v) i ++ [i] := by rw [lwg_s, if_pos ⟨d, c⟩]
        have la := lkv_lt d
        obtain ⟨u, eu, bu⟩ := trueThings_E qr (a := i) (by rw [hf]; omega)
        rw [hf] at bu
        rw [if_pos rfl, qi1, eu, t_sbe, set_o (n := 12) rfl (by omega) c, t_sbe, o_1]
        refine ⟨(Int32.ofNat ((lwg (lkv (s.1 163) v) i).length + 1), Int32.ofNat (i + 1), wupI r 39 (lwg (lkv (s.1 163) v) i).length u), rfl, ?_, rfl, fk.trans (FK_I (Nat.le_refl _) (Nat.le_refl _)), fun j a h => ?_⟩
        · rw [e, List.length_append]
          rfl
        · rw [e] at h
          show ∀ b, b < 32 → bit ((wupI r 39 (lwg (lkv (s.1 163) v) i).length u).1 39 j) b = _
          rw [upI_at]
          rcases app_1 h with ⟨h1, h2⟩ | ⟨h1, h2⟩
          · rw [if_neg (by omega)]
            exact tr j a h2
          · rw [if_pos h1, h2]
            exact bu
    · right
      rw [if_neg (show ¬ Int32.ofNat _ < 12 from fun h => c ((o_lt (b := 12) (by omega) (by omega)).1 h))]
      have e := lwg_full c (m := 40) (by omega)
      exact t_some ⟨by rw [e], fk, by rw [e]; exact tr⟩
  · obtain ⟨a, b, r⟩ := p
    obtain ⟨ea, eb, fk, tr⟩ := hI
    dsimp only at ea eb fk tr ⊢
    subst ea eb
    rw [wX10_gatherProof_h4, if_neg (by decide)]
    exact t_some ⟨rfl, fk, tr⟩
theorem getD_T {T : List Nat} {j : Nat} (h : j < T.length) : T[j]? = some (T.getD j 0) := by
  rw [List.getD_eq_getElem?_getD, List.getElem?_eq_getElem h]
  rfl
theorem proves10_E (q : QS l x s) {T : List Nat} (hT : ∀ a, a ∈ T → akd (s.1 163) a < 3) (h12 : T.length ≤ 12) (tr : TRW x (s.1 163) T s) {y : Int32} {M : Nat} (hM : M < nk (s.1 163) 2) : (PRV x (s.1 163) T y M ∧ wX10_provesMan y (Int32.ofNat T.length) (Int32.ofNat M) s = some 1) ∨ (¬ PRV x (s.1 163) T y M ∧ wX10_provesMan y (Int32.ofNat T.length) (Int32.ofNat M) s = some 0) := by
  have cf := q.2.2.2.2.2
  have n8 := fun kd (hk : kd < 3) => (cf kd hk).2.2
  obtain ⟨u, eu, bu⟩ := bitsAll_E q (r := s) rfl
  have lo : Tot (wX10_provesMan_h15 y (Int32.ofNat T.length) (Int32.ofNat M) s wFuel u 0) (fun v => ∀ b, b < 32 → bit v b = ((decide (b < 24) && decide (b % 8 < nk (s.1 163) (b / 8))) && tlb x (s.1 163) T y (b / 8) (b % 8) T.length)) := by
    refine loop_N (L := fun n (p : Int32 × Int32) => wX10_provesMan_h15 y (Int32.ofNat T.length) (Int32.ofNat M) s n p.1 p.2) (N := T.length) (I := fun j p => (∀ b, b < 32 → bit p.1 b = ((decide (b < 24) && decide (b % 8 < nk (s.1 163) (b / 8))) && tlb x (s.1 163) T y (b / 8) (b % 8) j)) ∧ p.2 = Int32.ofNat j) (x := (u, 0)) (by omega) ⟨fun b hb => ?_, rfl⟩ (fun n j p hj hI => ?_) (fun n p hI => ?_)
    · show bit u b = _
      rw [bu b hb]
      exact (Bool.and_true _).symm
    · obtain ⟨a, i⟩ := p
      obtain ⟨ea, eb⟩ := hI
      dsimp only at ea eb ⊢
      subst eb
      have e1 : ∀ kd t, tlb x (s.1 163) T y kd t (j + 1) = (tlb x (s.1 163) T y kd t j && (!bit y j || ttb x (s.1 163) (T.getD j 0) kd t)) := fun _ _ => rfl
      rw [wX10_provesMan_h15, if_pos ((o_lt (by omega) (by omega)).2 hj)]
      unfold wX10_provesMan_j45
      by_cases c : bit y j = true
      · rw [if_pos ((bt_t (by omega)).2 c), at_o (n := 12) rfl (by omega) (by omega), t_sbe, o_1]
        refine ⟨(_, _), rfl, fun b hb => ?_, rfl⟩
        show bit (a &&& s.1 39 j) b = _
        rw [bt_and, ea b hb, tr j _ (getD_T hj) b hb, e1, c, Bool.not_true, Bool.false_or]
        cases decide (b < 24) <;> cases decide (b % 8 < nk (s.1 163) (b / 8)) <;> cases tlb x (s.1 163) T y (b / 8) (b % 8) j <;> cases ttb x (s.1 163) (T.getD j 0) (b / 8) (b % 8) <;> rfl
      · rw [if_neg (fun h => c ((bt_t (by omega)).1 h)), o_1]
        refine ⟨(_, _), rfl, fun b hb => ?_, rfl⟩
        show bit a b = _
        rw [ea b hb, e1, Bool.eq_false_iff.2 c, Bool.not_false, Bool.true_or, Bool.and_true]
    · obtain ⟨a, i⟩ := p
      obtain ⟨ea, eb⟩ := hI
      dsimp only at ea eb ⊢
      subst eb
      rw [wX10_provesMan_h15, if_neg (fun c => by have := (o_lt (by omega) (by omega)).1 c; omega)]
      exact t_some ea
  obtain ⟨v, evv, bv⟩ := lo
  -- what is in
  have mem : ∀ kd t, kd < 3 → t < 8 → (bit v (8 * kd + t) = true ↔ t < nk (s.1 163) kd ∧ tlb x (s.1 163) T y kd t T.length = true) := fun kd t hk ht => by
    rw [bv _ (by omega), decide_eq_true (show 8 * kd + t < 24 by omega), show (8 * kd + t) / 8 = kd by omega, show (8 * kd + t) % 8 = t by omega, Bool.true_and, Bool.and_eq_true, decide_eq_true_iff]
  have s2 : wX10_slot 2 0 s = some (Int32.ofNat 16) := rfl
  have M8 := n8 2 (by decide)
  have right : hwb v → ((v >>> (Int32.ofNat 16 &&& 31)) = (1 <<< (Int32.ofNat M &&& 31)) ↔ ∀ t, t < 8 → (bit v (16 + t) = true ↔ t = M)) := fun _ => by
    refine ⟨fun h t ht => ?_, fun h => bit_ext (fun b hb => ?_)⟩
    · have a := bt_shr2 (v := v) (k := 16) (b := t) (by omega) (by omega)
      rw [h, bt_1 (by omega) (by omega)] at a
      rw [← a]
      exact decide_eq_true_iff
    · rw [bt_1 (by omega) hb]
      by_cases c : b < 8
      · rw [bt_shr2 (by omega) (by omega)]
        have := h b c
        by_cases d : b = M
        · rw [this.2 d, decide_eq_true d]
        · rw [Bool.eq_false_iff.2 (fun q => d (this.1 q)), decide_eq_false d]
      · rw [decide_eq_false (show ¬ b = M by omega)]
        by_cases d : 16 + b < 32
        · rw [bt_shr2 (by omega) d, bv _ d, decide_eq_false (show ¬ 16 + b < 24 by omega), Bool.false_and, Bool.false_and]
        · have z31 : v.toBitVec.msb = false := by
            rw [BitVec.msb_eq_getLsbD_last]
            have := bv 31 (by omega)
            rw [decide_eq_false (show ¬ 31 < 24 by omega), Bool.false_and, Bool.false_and] at this
            exact this
          unfold bit
          rw [bt_shr (by omega), BitVec.getLsbD_sshiftRight, z31]
          simp only [if_neg d, Bool.and_false]
  unfold wX10_provesMan
  rw [eu, t_sbe, evv, t_sbe]
  rcases hasWorld_E (v := v) (s := s) with ⟨h1, h2⟩ | ⟨h1, h2⟩
  · rw [h2, t_sbe, qi1, s2, t_sbe]
    have get : ∀ kd, kd < 3 → ∃ t, t < nk (s.1 163) kd ∧ tlb x (s.1 163) T y kd t T.length = true := fun kd hk => by
      obtain ⟨t, ht, e⟩ := h1 kd hk
      exact ⟨t, (mem kd t hk ht).1 e⟩
    obtain ⟨t0, l0, a0⟩ := get 0 (by decide)
    obtain ⟨t1, l1, a1⟩ := get 1 (by decide)
    obtain ⟨t2, l2, a2⟩ := get 2 (by decide)
    have mk : ∀ t, t < nk (s.1 163) 2 → tlb x (s.1 163) T y 2 t T.length = true → ∃ w, w < nW (s.1 163) ∧ twb x (s.1 163) T y w T.length = true ∧ thn (s.1 163) 2 w = t := fun t hl ha => by
      obtain ⟨wl, w0, w1, w2⟩ := thn_w l0 l1 hl
      refine ⟨_, wl, (tlb_w cf hT wl (Nat.le_refl _)).1 (fun kd hk => ?_), w2⟩
      obtain rfl | rfl | rfl : kd = 0 ∨ kd = 1 ∨ kd = 2 := by omega
      · rw [w0]
        exact a0
      · rw [w1]
        exact a1
      · rw [w2]
        exact ha
    by_cases c : ∀ t, t < 8 → (bit v (16 + t) = true ↔ t = M)
    · left
      rw [if_pos ((right h1).2 c)]
      refine ⟨⟨?_, fun w hw hb => ?_⟩, rfl⟩
      · obtain ⟨w, hw, hb, -⟩ := mk t2 l2 a2
        exact ⟨w, hw, hb⟩
      · have tl := thn_lt cf (kd := 2) (by decide) hw
        have := (tlb_w (x := x) cf hT (y := y) hw (Nat.le_refl _)).2 hb 2 (by decide)
        exact (c _ (by omega)).1 ((mem 2 _ (by decide) (by omega)).2 ⟨tl, this⟩)
    · right
      rw [if_neg (fun h => c ((right h1).1 h))]
      refine ⟨fun ⟨_, h⟩ => c (fun t ht => ⟨fun e => ?_, fun e => ?_⟩), rfl⟩
      · obtain ⟨hl, ha⟩ := (mem 2 t (by decide) ht).1 e
        obtain ⟨w, hw, hb, hw2⟩ := mk t hl ha
        rw [← hw2]
        exact h w hw hb
      · obtain ⟨w, hw, hb, hw2⟩ := mk t2 l2 a2
        have e2 : t2 = t := by
          rw [e, ← hw2]
          exact h w hw hb
        rw [← e2]
        exact (mem 2 t2 (by decide) (by omega)).2 ⟨l2, a2⟩
  · right
    rw [h2, t_sbe, qi0]
    refine ⟨fun ⟨⟨w, hw, hb⟩, _⟩ => h1 (fun kd hk => ?_), rfl⟩
    have tl := thn_lt cf hk hw
    have n8' := n8 kd hk
    exact ⟨thn (s.1 163) kd w, by omega, (mem kd _ hk (by omega)).2 ⟨tl, (tlb_w (x := x) cf hT (y := y) hw (Nat.le_refl _)).2 hb kd hk⟩⟩
/-- the reference's row: which of them are TRUE in a WORLD -/
noncomputable def TRU (x : lC) (f : Nat → Int32) (T : List Nat) (r : wS) : Prop := ∀ w, w < nW f → ∀ j, j < 32 → bit (r.1 166 w) j = (match T[j]? with
  | some a => trw x f a w
  | none => false)
theorem twelve_E (c : RCH x f s) : Tot (wX11_twelve s) (fun v => v.1 = Int32.ofNat (lwg (lkb f) (nk f 3)).length ∧ RCH x f v.2 ∧ TRU x f (lwg (lkb f) (nk f 3)) v.2) := by
  have cf := c.2.1
  have w5 := cf.w.1
  obtain ⟨n3, n40⟩ := c.n3
  have clr : Tot (wX11_twelve_h4 0 wFuel 0 s) (fun r => RCH x f r ∧ ∀ w, w < nW f → r.1 166 w = 0) := by
    refine loop_N (L := fun n (p : Int32 × wS) => wX11_twelve_h4 0 n p.1 p.2) (N := nW f) (I := fun w p => p.1 = Int32.ofNat w ∧ RCH x f p.2 ∧ ∀ v, v < w → p.2.1 166 v = 0) (x := (0, s)) (by omega) ⟨rfl, c, fun v h => absurd h (by omega)⟩ (fun n w p hw hI => ?_) (fun n p hI => ?_)
    · obtain ⟨a, u⟩ := p
      obtain ⟨ea, cu, z⟩ := hI
      dsimp only at ea cu z ⊢
      subst ea
      rw [wX11_twelve_h4, cu.nw, t_sbe, if_pos ((o_lt (by omega) (by omega)).2 hw), stI_o (by omega) (by omega), t_sbe, o_1]
      refine ⟨(Int32.ofNat (w + 1), wupI u 166 w 0), rfl, rfl, cu.go (wupI_n (by decide)) rfl, fun v hv => ?_⟩
      show (wupI u 166 w 0).1 166 v = 0
      rw [upI_at]
      by_cases d : v = w
      · rw [if_pos d]
      · rw [if_neg d]
        exact z v (by omega)
    · obtain ⟨a, u⟩ := p
      obtain ⟨ea, cu, z⟩ := hI
      dsimp only at ea cu z ⊢
      subst ea
      rw [wX11_twelve_h4, cu.nw, t_sbe, if_neg (fun c => by have := (o_lt (by omega) (by omega)).1 c; omega)]
      exact t_some ⟨cu, z⟩
  obtain ⟨s6, e6, c6, z6⟩ := clr
  unfold wX11_twelve
  rw [e6, t_sbe]
  refine t_bind (P := fun v => v.1 = Int32.ofNat (lwg (lkb f) (nk f 3)).length ∧ RCH x f v.2 ∧ TRU x f (lwg (lkb f) (nk f 3)) v.2) ?_ (fun r h => t_some h)
  refine loop_T (L := fun n (p : Int32 × Int32 × wS) => wX11_twelve_h27 n p.1 p.2.1 p.2.2) (N := nk f 3) (I := fun i p => p.1 = Int32.ofNat (lwg (lkb f) i).length ∧ p.2.1 = Int32.ofNat i ∧ RCH x f p.2.2 ∧ TRU x f (lwg (lkb f) i) p.2.2) (fun n i p hi hI => ?_) (fun n p hI => ?_) wFuel 0 (0, 0, s6) (Nat.zero_le _) ⟨rfl, rfl, c6, fun w hw j _ => by rw [z6 w hw, bt_0]; rfl⟩ (wF_b (by omega))
  · obtain ⟨a, b, r⟩ := p
    obtain ⟨ea, eb, cr, tr⟩ := hI
    dsimp only at ea eb cr tr ⊢
    subst ea eb
    have l12 := lwg_12 (P := lkb f) (n := i)
    rw [wX11_twelve_h27, cr.1, n3, if_pos ((o_lt (by omega) (by omega)).2 hi)]
    by_cases d : (lwg (lkb f) i).length < 12
    · left
      rw [if_pos (show Int32.ofNat _ < 12 from (o_lt (b := 12) (by omega) (by omega)).2 d), lkb_E cr.1 (by omega), t_sbe]
      unfold wX11_twelve_j98
      rw [o_1]
      cases lb : lkb f i
      · rw [b_f, qi0]
        have e : lwg (lkb f) (i + 1) = lwg (lkb f) i := by rw [lwg_s, if_neg (fun q => by rw [lb] at q; exact absurd q.1 (by decide))]
        exact ⟨(Int32.ofNat (lwg (lkb f) i).length, Int32.ofNat (i + 1), r), rfl, by rw [e], rfl, cr, by rw [e]; exact tr⟩
      · have e : lwg (lkb f) (i + 1) = lwg (lkb f) i ++ [i] := by rw [lwg_s, if_pos ⟨lb, d⟩]
        have nw : ∀ w, w < nW f → ∀ v : Int32, (∀ j, j < 32 → bit v j = (trw x f i w && decide (j = (lwg (lkb f) i).length))) → ∀ j, j < 32 → (bit (r.1 166 w) j || bit v j) = (match (lwg (lkb f) i ++ [i])[j]? with | some a => trw x f a w | none => false) := fun w hw v hv j hj => by
          rw [tr w hw j hj, hv j hj]
          by_cases c1 : j < (lwg (lkb f) i).length
          · rw [List.getElem?_append_left c1, decide_eq_false (by omega), Bool.and_false, Bool.or_false]
          · rw [List.getElem?_append_right (by omega), List.getElem?_eq_none (by omega)]
            by_cases c2 : j = (lwg (lkb f) i).length
            · rw [decide_eq_true c2, show j - (lwg (lkb f) i).length = 0 by omega, Bool.and_true]
              rfl
            · rw [decide_eq_false c2, List.getElem?_eq_none (by show 1 ≤ j - (lwg (lkb f) i).length; omega), Bool.and_false]
              rfl
        have lo : Tot (wX11_twelve_h56 (Int32.ofNat (lwg (lkb f) i).length) (Int32.ofNat i) wFuel 0 r) (fun u => RCH x f u ∧ TRU x f (lwg (lkb f) i ++ [i]) u) := by
          refine loop_N (L := fun n (p : Int32 × wS) => wX11_twelve_h56 (Int32.ofNat (lwg (lkb f) i).length) (Int32.ofNat i) n p.1 p.2) (N := nW f) (I := fun w p => p.1 = Int32.ofNat w ∧ RCH x f p.2 ∧ ∀ v, v < nW f → (v < w → ∀ j, j < 32 → bit (p.2.1 166 v) j = (match (lwg (lkb f) i ++ [i])[j]? with | some a => trw x f a v | none => false)) ∧ (w ≤ v → p.2.1 166 v = r.1 166 v)) (x := (0, r)) (by omega) ⟨rfl, cr, fun v hv => ⟨fun h => absurd h (by omega), fun _ => rfl⟩⟩ (fun n w p hw hI => ?_) (fun n p hI => ?_)
          · obtain ⟨a, u⟩ := p
            obtain ⟨ea, cu, z⟩ := hI
            dsimp only at ea cu z ⊢
            subst ea
            have up : ∀ y : Int32, (∀ j, j < 32 → bit y j = (trw x f i w && decide (j = (lwg (lkb f) i).length))) → ∀ v, v < nW f → (v < w + 1 → ∀ j, j < 32 → bit ((wupI u 166 w (r.1 166 w ||| y)).1 166 v) j = (match (lwg (lkb f) i ++ [i])[j]? with | some a => trw x f a v | none => false)) ∧ (w + 1 ≤ v → (wupI u 166 w (r.1 166 w ||| y)).1 166 v = r.1 166 v) := fun y hy v hv => by
              rw [upI_at]
              by_cases c1 : v = w
              · rw [if_pos c1, c1]
                exact ⟨fun _ j hj => by rw [bt_or]; exact nw w hw y hy j hj, fun h => absurd h (by omega)⟩
              · rw [if_neg c1]
                exact ⟨fun h => (z v hv).1 (by omega), fun h => (z v hv).2 (by omega)⟩
            rw [wX11_twelve_h56, cu.nw, t_sbe, if_pos ((o_lt (by omega) (by omega)).2 hw), ldI_o (by omega) (by omega), t_sbe, (z w hw).2 (Nat.le_refl _), cu.tr hi hw, t_sbe]
            unfold wX11_twelve_j87
            rw [o_1]
            cases tw : trw x f i w
            · rw [b_f, qi0, stI_o (by omega) (by omega), t_sbe]
              exact ⟨(_, wupI u 166 w (r.1 166 w ||| 0)), rfl, rfl, cu.go (wupI_n (by decide)) rfl, up 0 (fun j _ => by rw [bt_0, tw, Bool.false_and])⟩
            · rw [if_pos rfl, qi1, stI_o (by omega) (by omega), t_sbe]
              exact ⟨(_, wupI u 166 w (r.1 166 w ||| (1 <<< (Int32.ofNat (lwg (lkb f) i).length &&& 31)))), rfl, rfl, cu.go (wupI_n (by decide)) rfl, up _ (fun j hj => by rw [bt_1 (by omega) hj, tw, Bool.true_and])⟩
          · obtain ⟨a, u⟩ := p
            obtain ⟨ea, cu, z⟩ := hI
            dsimp only at ea cu z ⊢
            subst ea
            rw [wX11_twelve_h56, cu.nw, t_sbe, if_neg (fun c => by have := (o_lt (by omega) (by omega)).1 c; omega)]
            exact t_some ⟨cu, fun w hw => (z w hw).1 hw⟩
        obtain ⟨u, eu, cu, tu⟩ := lo
        rw [if_pos rfl, qi1, eu, t_sbe, o_1]
        refine ⟨(Int32.ofNat ((lwg (lkb f) i).length + 1), Int32.ofNat (i + 1), u), rfl, ?_, rfl, cu, by rw [e]; exact tu⟩
        rw [e, List.length_append]
        rfl
    · right
      rw [if_neg (show ¬ Int32.ofNat _ < 12 from fun h => d ((o_lt (b := 12) (by omega) (by omega)).1 h))]
      have e := lwg_full d (m := nk f 3) (by omega)
      exact t_some ⟨by rw [e], cr, by rw [e]; exact tr⟩
  · obtain ⟨a, b, r⟩ := p
    obtain ⟨ea, eb, cr, tr⟩ := hI
    dsimp only at ea eb cr tr ⊢
    subst ea eb
    rw [wX11_twelve_h27, cr.1, n3, if_neg (fun c => by have := (o_lt (by omega) (by omega)).1 c; omega)]
    exact t_some ⟨rfl, cr, tr⟩
theorem sub_b {T : List Nat} {y v : Int32} {w : Nat} (hy : ∀ j, j < 32 → bit y j = true → j < T.length) (hv : ∀ j, j < 32 → bit v j = (match T[j]? with | some a => trw x f a w | none => false)) (h12 : T.length ≤ 12) : (v &&& y) = y ↔ twb x f T y w T.length = true := by
  have go : ∀ m, m ≤ T.length → (twb x f T y w m = true ↔ ∀ j, j < m → bit y j = true → trw x f (T.getD j 0) w = true) := by
    intro m
    induction m with
    | zero => intro _; exact iff_of_true rfl (fun j hj => by omega)
    | succ m ih =>
      intro hm
      have e2 : twb x f T y w (m + 1) = (twb x f T y w m && (!bit y m || trw x f (T.getD m 0) w)) := rfl
      rw [e2, Bool.and_eq_true, ih (by omega)]
      refine ⟨fun ⟨h1, h2⟩ j hj hb => ?_, fun h => ⟨fun j hj hb => h j (by omega) hb, ?_⟩⟩
      · by_cases c : j = m
        · rw [← c, hb, Bool.not_true, Bool.false_or] at h2
          exact h2
        · exact h1 j (by omega) hb
      · cases b : bit y m
        · rfl
        · rw [h m (by omega) b]
          rfl
  rw [go _ (Nat.le_refl _)]
  refine ⟨fun h j hj hb => ?_, fun h => bit_ext (fun j hj => ?_)⟩
  · have := congrArg (fun z => bit z j) h
    rw [bt_and, hv j (by omega), getD_T hj, hb, Bool.and_true] at this
    exact this
  · rw [bt_and]
    cases b : bit y j
    · exact Bool.and_false _
    · have jl := hy j hj b
      rw [Bool.and_true, hv j hj, getD_T jl]
      exact h j jl b
theorem proves11_E (c : RCH x f r) {T : List Nat} (h12 : T.length ≤ 12) (tr : TRU x f T r) {y : Int32} (hy : ∀ j, j < 32 → bit y j = true → j < T.length) {M : Nat} (hM : M < 8) : (PRV x f T y M ∧ wX11_proves y (Int32.ofNat M) r = some 1) ∨ (¬ PRV x f T y M ∧ wX11_proves y (Int32.ofNat M) r = some 0) := by
  have cf := c.2.1
  have w5 := cf.w.1
  have n8 := (cf 2 (by decide)).2.2
  unfold wX11_proves
  by_cases bad : ∃ w, w < nW f ∧ twb x f T y w T.length = true ∧ ¬ thn f 2 w = M
  · right
    refine ⟨fun ⟨_, h⟩ => ?_, ?_⟩
    · obtain ⟨w, hw, h1, h2⟩ := bad
      exact h2 (h w hw h1)
    · obtain ⟨z, ez, hz⟩ : Tot (wX11_proves_h5 y (Int32.ofNat M) r wFuel 0 0) (fun v => v = .inr ()) := by
        refine loop_T (L := fun n (p : Int32 × Int32) => wX11_proves_h5 y (Int32.ofNat M) r n p.1 p.2) (N := nW f) (I := fun w p => p.2 = Int32.ofNat w ∧ ∀ v, v < w → twb x f T y v T.length = true → thn f 2 v = M) (fun n w p hw hI => ?_) (fun n p hI => ?_) wFuel 0 (0, 0) (Nat.zero_le _) ⟨rfl, fun v h => absurd h (by omega)⟩ (wF_b (by omega))
        · obtain ⟨a, i⟩ := p
          obtain ⟨eb, z⟩ := hI
          dsimp only at eb z ⊢
          subst eb
          have th : wX11_thingOf (Int32.ofNat w) 2 r = some (Int32.ofNat (thn f 2 w)) := thingOf_E c.1 cf (kd := 2) (by decide) hw
          have tl := thn_lt cf (kd := 2) (by decide) hw
          have sb := sub_b (x := x) (f := f) hy (tr w hw) h12
          rw [wX11_proves_h5, c.nw, t_sbe, if_pos ((o_lt (by omega) (by omega)).2 hw), ldI_o (by omega) (by omega), t_sbe]
          unfold wX11_proves_j45
          rw [o_1]
          by_cases d : (r.1 166 w &&& y) = y
          · rw [if_pos d, th, t_sbe]
            by_cases d2 : thn f 2 w = M
            · rw [if_pos (by rw [d2])]
              exact Or.inl ⟨(_, _), rfl, rfl, fun v hv hb => by
                by_cases q : v = w
                · rw [q, d2]
                · exact z v (by omega) hb⟩
            · rw [if_neg (fun h => d2 ((o_eq (by omega) (by omega)).1 h))]
              exact Or.inr (t_some rfl)
          · rw [if_neg d]
            exact Or.inl ⟨(_, _), rfl, rfl, fun v hv hb => by
              by_cases q : v = w
              · rw [q] at hb
                exact absurd (sb.2 hb) d
              · exact z v (by omega) hb⟩
        · obtain ⟨a, i⟩ := p
          obtain ⟨eb, z⟩ := hI
          obtain ⟨w, hw, h1, h2⟩ := bad
          exact absurd (z w hw h1) h2
      rw [ez, t_sbe, hz]
  · have good : ∀ w, w < nW f → twb x f T y w T.length = true → thn f 2 w = M := fun w hw h => Classical.byContradiction (fun q => bad ⟨w, hw, h, q⟩)
    have lo : wX11_proves_h5 y (Int32.ofNat M) r wFuel 0 0 = some (.inl (if 0 < cnt (fun w => twb x f T y w T.length) (nW f) then 1 else 0)) := by
      refine loop_P (L := fun n (p : Int32 × Int32) => wX11_proves_h5 y (Int32.ofNat M) r n p.1 p.2) (N := nW f) (I := fun w p => p.1 = (if 0 < cnt (fun w => twb x f T y w T.length) w then 1 else 0) ∧ p.2 = Int32.ofNat w) (x := (0, 0)) (by omega) ⟨rfl, rfl⟩ (fun n w p hw hI => ?_) (fun n p hI => ?_)
      · obtain ⟨a, i⟩ := p
        obtain ⟨ea, eb⟩ := hI
        dsimp only at ea eb ⊢
        subst eb
        have th : wX11_thingOf (Int32.ofNat w) 2 r = some (Int32.ofNat (thn f 2 w)) := thingOf_E c.1 cf (kd := 2) (by decide) hw
        have sb := sub_b (x := x) (f := f) hy (tr w hw) h12
        rw [wX11_proves_h5, c.nw, t_sbe, if_pos ((o_lt (by omega) (by omega)).2 hw), ldI_o (by omega) (by omega), t_sbe]
        unfold wX11_proves_j45
        rw [o_1]
        by_cases d : (r.1 166 w &&& y) = y
        · have tb := sb.1 d
          rw [if_pos d, th, t_sbe, if_pos (by rw [good w hw tb])]
          exact ⟨(1, _), rfl, by rw [if_pos (by rw [cnt_t (n := w) tb]; omega)], rfl⟩
        · have tb : twb x f T y w T.length = false := Bool.eq_false_iff.2 (fun h => d (sb.2 h))
          rw [if_neg d]
          exact ⟨(a, _), rfl, by rw [cnt_f (n := w) tb]; exact ea, rfl⟩
      · obtain ⟨a, i⟩ := p
        obtain ⟨ea, eb⟩ := hI
        dsimp only at ea eb ⊢
        subst ea eb
        rw [wX11_proves_h5, c.nw, t_sbe, if_neg (fun c => by have := (o_lt (by omega) (by omega)).1 c; omega)]
    rw [lo, t_sbe]
    by_cases z : 0 < cnt (fun w => twb x f T y w T.length) (nW f)
    · left
      rw [if_pos z]
      obtain ⟨w, hw, h⟩ := cnt_pos z
      exact ⟨⟨⟨w, hw, h⟩, good⟩, rfl⟩
    · right
      rw [if_neg z]
      exact ⟨fun ⟨⟨w, hw, h⟩, _⟩ => z (cnt_some hw h), rfl⟩
/-- the least set so far -/
noncomputable def pbs (x : lC) (f : Nat → Int32) (T : List Nat) (M : Nat) : Nat → Option Nat
  | 0 => none
  | n + 1 => @ite _ ((match pbs x f T M n with
      | none => true
      | some b => decide (bc (Int32.ofNat n) < bc (Int32.ofNat b))) = true ∧ PRV x f T (Int32.ofNat n) M) (Classical.propDecidable _) (some n) (pbs x f T M n)
theorem pbs_t {T : List Nat} {M n : Nat} (h : pbs x f T M n = none ∨ ∃ b, pbs x f T M n = some b ∧ bc (Int32.ofNat n) < bc (Int32.ofNat b)) (p : PRV x f T (Int32.ofNat n) M) : pbs x f T M (n + 1) = some n := by
  refine if_pos ⟨?_, p⟩
  rcases h with h | ⟨b, h, hb⟩
  · rw [h]
  · rw [h]
    exact decide_eq_true hb
theorem pbs_p {T : List Nat} {M n : Nat} (p : ¬ PRV x f T (Int32.ofNat n) M) : pbs x f T M (n + 1) = pbs x f T M n := if_neg (fun h => p h.2)
theorem pbs_c {T : List Nat} {M n b : Nat} (h : pbs x f T M n = some b) (hb : ¬ bc (Int32.ofNat n) < bc (Int32.ofNat b)) : pbs x f T M (n + 1) = pbs x f T M n := by
  refine if_neg (fun q => hb ?_)
  have := q.1
  rw [h] at this
  exact of_decide_eq_true this
theorem pbs_lt {T : List Nat} {M b : Nat} : ∀ {n : Nat}, pbs x f T M n = some b → b < n := by
  intro n
  induction n with
  | zero => intro h; cases h
  | succ n ih =>
    intro h
    by_cases c : pbs x f T M (n + 1) = pbs x f T M n
    · rw [c] at h
      have := ih h
      omega
    · have e : pbs x f T M (n + 1) = some n := by
        by_cases p : PRV x f T (Int32.ofNat n) M
        · cases e : pbs x f T M n with
          | none => exact pbs_t (Or.inl e) p
          | some b' =>
            by_cases d : bc (Int32.ofNat n) < bc (Int32.ofNat b')
            · exact pbs_t (Or.inr ⟨b', e, d⟩) p
            · exact absurd (pbs_c e d) c
        · exact absurd (pbs_p p) c
      rw [e] at h
      cases h
      exact Nat.lt_succ_self _
theorem bit_ge {n m j : Nat} (hn : n < 2 ^ m) (hj : m ≤ j) : bit (Int32.ofNat n) j = false := by
  unfold bit
  rw [Int32.toBitVec_ofNat', BitVec.getLsbD_ofNat, Nat.testBit_lt_two_pow (Nat.lt_of_lt_of_le hn (Nat.pow_le_pow_right (by decide) hj)), Bool.and_false]
/-- a set or -2 -/
noncomputable def vps (o : Option Nat) : Int32 := match o with
  | none => (Int8.ofInt (-2)).toInt32
  | some b => Int32.ofNat b
theorem op_proof {x1 x2 : Int32} (g : JB s) : ∃ v s1 v2 s2, wX10_proof x1 x2 s = some (v, s1) ∧ wX11_proof x1 x2 s1 = some (v2, s2) ∧ v = v2 := by
  unfold wX10_proof wX11_proof
  rcases ask_E g x1 with ⟨e, c⟩ | ⟨l, s2, x, q, hx1, e, hf, c⟩
  · rw [e, t_sbe]
    refine ⟨-1, s, -1, s, rfl, ?_, rfl⟩
    rw [c, t_sbe, qi0]
  · rw [e, t_sbe]
    dsimp only [Option.elim]
    have cf := q.2.2.2.2.2
    rcases has_E q.1 2 x2 with ⟨th, a1, a2⟩ | ⟨-, a1, a2⟩
    · obtain ⟨kd, M, h2', h4, k3, u1, u8⟩ := th.o cf
      have kd2 : kd = 2 := by
        have := (o_eq (a := 2) (b := kd) (by omega) (by omega)).1 h2'
        omega
      subst kd2
      obtain ⟨⟨m1, s3⟩, e3, hm, f3, tw⟩ := gather_E q
      dsimp only at hm f3 tw
      subst hm
      have q3 := f3.qs (by omega) (by omega) q
      have hf3 : s3.1 163 = s2.1 163 := f3.f (by omega)
      obtain ⟨r, er, rc⟩ := q3.rc
      obtain ⟨⟨m2, r2⟩, e2, hm2, rc2, tu⟩ := twelve_E rc
      dsimp only at hm2 rc2 tu
      rw [hf3] at hm2 rc2 tu
      subst hm2
      have l12 := lwg_12 (P := lkb (s2.1 163)) (n := nk (s2.1 163) 3)
      have en := t_cln q.f3.1
      have en2 : nk (s2.1 163) 3 = (s2.1 163 3).toNatClampNeg := rfl
      have hT : ∀ a, a ∈ lwg (lkb (s2.1 163)) (nk (s2.1 163) 3) → akd (s2.1 163) a < 3 := fun a h => (q.1.af a (by have := (lwg_m h).1; omega)).1
      generalize lwg (lkb (s2.1 163)) (nk (s2.1 163) 3) = T at *
      have sh := sh_12 T.length (by omega)
      have p4 := p_12 T.length (by omega)
      have m2e : ∀ b : Nat, b < 4096 → ¬ Int32.ofNat b = (Int8.ofInt (-2)).toInt32 := fun b hb h => by
        have := congrArg Int32.toInt h
        rw [t_on (by omega), show ((Int8.ofInt (-2)).toInt32).toInt = -2 from rfl] at this
        omega
      have pr10 := fun y => proves10_E (s := s3) (x := x) q3 (T := T) (by rw [hf3]; exact hT) l12 (by rw [hf3]; exact tw) (y := y) (M := M) (by rw [hf3]; exact u1)
      rw [hf3] at pr10
      have l10 : wX10_proof_h41 (Int32.ofNat M) (Int32.ofNat T.length) s3 wFuel ((Int8.ofInt (-2)).toInt32) 0 = some (vps (pbs x (s2.1 163) T M (2 ^ T.length))) := by
        refine loop_P (L := fun n (p : Int32 × Int32) => wX10_proof_h41 (Int32.ofNat M) (Int32.ofNat T.length) s3 n p.1 p.2) (N := 2 ^ T.length) (I := fun n p => p.1 = vps (pbs x (s2.1 163) T M n) ∧ p.2 = Int32.ofNat n) (x := ((Int8.ofInt (-2)).toInt32, 0)) (by omega) ⟨rfl, rfl⟩ (fun k n p hn hI => ?_) (fun k p hI => ?_)
        · obtain ⟨a, i⟩ := p
          obtain ⟨ea, eb⟩ := hI
          dsimp only at ea eb ⊢
          subst ea eb
          rw [wX10_proof_h41, sh, if_pos ((o_lt (by omega) (by omega)).2 hn)]
          unfold wX10_proof_j70 wX10_proof_j75 wX10_proof_j98
          rw [qi1, o_1, bc_E, t_sbe]
          -- it is tried
          have try_ : (pbs x (s2.1 163) T M n = none ∨ ∃ b, pbs x (s2.1 163) T M n = some b ∧ bc (Int32.ofNat n) < bc (Int32.ofNat b)) → ∃ x' : Int32 × Int32, ((wX10_provesMan (Int32.ofNat n) (Int32.ofNat T.length) (Int32.ofNat M) s3).bind fun t14 => if t14 = 0 then wX10_proof_h41 (Int32.ofNat M) (Int32.ofNat T.length) s3 k (vps (pbs x (s2.1 163) T M n)) (Int32.ofNat (n + 1)) else wX10_proof_h41 (Int32.ofNat M) (Int32.ofNat T.length) s3 k (Int32.ofNat n) (Int32.ofNat (n + 1))) = wX10_proof_h41 (Int32.ofNat M) (Int32.ofNat T.length) s3 k x'.1 x'.2 ∧ x'.1 = vps (pbs x (s2.1 163) T M (n + 1)) ∧ x'.2 = Int32.ofNat (n + 1) := fun h => by
            rcases pr10 (Int32.ofNat n) with ⟨p1, p2⟩ | ⟨p1, p2⟩
            · rw [p2, t_sbe, qi1]
              exact ⟨(_, _), rfl, by rw [pbs_t h p1]; rfl, rfl⟩
            · rw [p2, t_sbe, qi0]
              exact ⟨(vps (pbs x (s2.1 163) T M n), _), rfl, by rw [pbs_p p1], rfl⟩
          cases ep : pbs x (s2.1 163) T M n with
          | none =>
            rw [ep] at try_
            rw [if_pos (show vps none = (Int8.ofInt (-2)).toInt32 from rfl)]
            exact try_ (Or.inl rfl)
          | some b =>
            have bl := pbs_lt ep
            rw [if_neg (show ¬ vps (some b) = (Int8.ofInt (-2)).toInt32 from m2e b (by omega)), show vps (some b) = Int32.ofNat b from rfl, bc_E, t_sbe]
            by_cases d : bc (Int32.ofNat n) < bc (Int32.ofNat b)
            · rw [if_pos d]
              rw [ep] at try_
              exact try_ (Or.inr ⟨b, rfl, d⟩)
            · rw [if_neg d, qi0]
              exact ⟨(Int32.ofNat b, _), rfl, by rw [pbs_c ep d, ep]; rfl, rfl⟩
        · obtain ⟨a, i⟩ := p
          obtain ⟨ea, eb⟩ := hI
          dsimp only at ea eb ⊢
          subst ea eb
          rw [wX10_proof_h41, sh, if_neg (fun c => by have := (o_lt (by omega) (by omega)).1 c; omega)]
      have l11 : wX11_proof_h36 (Int32.ofNat M) (Int32.ofNat T.length) r2 wFuel ((Int8.ofInt (-2)).toInt32) 0 = some (vps (pbs x (s2.1 163) T M (2 ^ T.length))) := by
        refine loop_P (L := fun n (p : Int32 × Int32) => wX11_proof_h36 (Int32.ofNat M) (Int32.ofNat T.length) r2 n p.1 p.2) (N := 2 ^ T.length) (I := fun n p => p.1 = vps (pbs x (s2.1 163) T M n) ∧ p.2 = Int32.ofNat n) (x := ((Int8.ofInt (-2)).toInt32, 0)) (by omega) ⟨rfl, rfl⟩ (fun k n p hn hI => ?_) (fun k p hI => ?_)
        · obtain ⟨a, i⟩ := p
          obtain ⟨ea, eb⟩ := hI
          dsimp only at ea eb ⊢
          subst ea eb
          have pr := proves11_E rc2 l12 tu (y := Int32.ofNat n) (fun j _ hb => Nat.lt_of_not_le (fun h => by rw [bit_ge hn h] at hb; cases hb)) u8
          rw [wX11_proof_h36, sh, if_pos ((o_lt (by omega) (by omega)).2 hn)]
          unfold wX11_proof_j64 wX11_proof_j78
          rw [o_1]
          have try_ : (pbs x (s2.1 163) T M n = none ∨ ∃ b, pbs x (s2.1 163) T M n = some b ∧ bc (Int32.ofNat n) < bc (Int32.ofNat b)) → ∃ x' : Int32 × Int32, ((wX11_proves (Int32.ofNat n) (Int32.ofNat M) r2).bind fun t14 => if t14 = 0 then wX11_proof_h36 (Int32.ofNat M) (Int32.ofNat T.length) r2 k (vps (pbs x (s2.1 163) T M n)) (Int32.ofNat (n + 1)) else wX11_proof_h36 (Int32.ofNat M) (Int32.ofNat T.length) r2 k (Int32.ofNat n) (Int32.ofNat (n + 1))) = wX11_proof_h36 (Int32.ofNat M) (Int32.ofNat T.length) r2 k x'.1 x'.2 ∧ x'.1 = vps (pbs x (s2.1 163) T M (n + 1)) ∧ x'.2 = Int32.ofNat (n + 1) := fun h => by
            rcases pr with ⟨p1, p2⟩ | ⟨p1, p2⟩
            · rw [p2, t_sbe, qi1]
              exact ⟨(_, _), rfl, by rw [pbs_t h p1]; rfl, rfl⟩
            · rw [p2, t_sbe, qi0]
              exact ⟨(vps (pbs x (s2.1 163) T M n), _), rfl, by rw [pbs_p p1], rfl⟩
          cases ep : pbs x (s2.1 163) T M n with
          | none =>
            rw [ep] at try_
            rw [if_pos (show vps none < 0 by decide)]
            exact try_ (Or.inl rfl)
          | some b =>
            have bl := pbs_lt ep
            rw [if_neg (show ¬ vps (some b) < 0 from fun h => by have := (o_lt (a := b) (b := 0) (by omega) (by omega)).1 h; omega), show vps (some b) = Int32.ofNat b from rfl, bits12_E (by omega), t_sbe, bits12_E (by omega), t_sbe]
            by_cases d : bc (Int32.ofNat n) < bc (Int32.ofNat b)
            · rw [if_pos d]
              rw [ep] at try_
              exact try_ (Or.inr ⟨b, rfl, d⟩)
            · rw [if_neg d]
              exact ⟨(Int32.ofNat b, _), rfl, by rw [pbs_c ep d, ep]; rfl, rfl⟩
        · obtain ⟨a, i⟩ := p
          obtain ⟨ea, eb⟩ := hI
          dsimp only at ea eb ⊢
          subst ea eb
          rw [wX11_proof_h36, sh, if_neg (fun c => by have := (o_lt (by omega) (by omega)).1 c; omega)]
      have a2' : wX11_isThing 2 x2 s3 = some 1 := by
        rcases has_E q3.1 2 x2 with ⟨_, _, h⟩ | ⟨h, _⟩
        · exact h
        · exact absurd (by rw [hf3]; exact th) h
      rw [a1, t_sbe, qi1, e3, t_sbe]
      dsimp only
      subst h4
      rw [l10, t_sbe]
      refine ⟨_, s3, _, r2, rfl, ?_, rfl⟩
      rw [c s3 q3, t_sbe, qi1, a2', t_sbe, qi1, hx1, er, t_sbe, e2, t_sbe]
      dsimp only
      rw [l11, t_sbe]
    · rw [a1, t_sbe, qi0]
      refine ⟨_, _, -1, s2, rfl, ?_, rfl⟩
      rw [c s2 q, t_sbe, qi1, a2, t_sbe, qi0]
end PF
end
