/-! Bits; a WORLD's things; an ANSWER is TRUE: the class. -/
/-- bit k -/
noncomputable def bit (x : Int32) (k : Nat) : Bool := x.toBitVec.getLsbD k
theorem sh_31 {k : Nat} (h : k < 32) : (Int32.ofNat k &&& 31).toBitVec.smod 32 = BitVec.ofNat 32 k := by
  have : ∀ k, k < 32 → (Int32.ofNat k &&& 31).toBitVec.smod 32 = BitVec.ofNat 32 k := by decide +kernel
  exact this k h
theorem bt_or {x y : Int32} {k : Nat} : bit (x ||| y) k = (bit x k || bit y k) := by
  unfold bit
  rw [Int32.toBitVec_or, BitVec.getLsbD_or]
theorem bt_1 {j k : Nat} (hj : j < 32) (hk : k < 32) : bit (1 <<< (Int32.ofNat j &&& 31)) k = decide (k = j) := by
  have : ∀ j, j < 32 → ∀ k, k < 32 → bit (1 <<< (Int32.ofNat j &&& 31)) k = decide (k = j) := by decide +kernel
  exact this j hj k hk
theorem bt_shr {x : Int32} {k : Nat} (h : k < 32) : (x >>> (Int32.ofNat k &&& 31)).toBitVec = x.toBitVec.sshiftRight k := by
  rw [Int32.toBitVec_shiftRight, sh_31 h]
  show x.toBitVec.sshiftRight (BitVec.ofNat 32 k).toNat = _
  rw [BitVec.toNat_ofNat, Nat.mod_eq_of_lt (by omega)]
theorem bt_and1 {x : Int32} {k : Nat} (h : k < 32) : ((x >>> (Int32.ofNat k &&& 31)) &&& 1) = if bit x k = true then 1 else 0 := by
  apply Int32.toBitVec_inj.1
  rw [Int32.toBitVec_and, bt_shr h]
  show x.toBitVec.sshiftRight k &&& 1#32 = _
  rw [BitVec.and_one_eq_setWidth_ofBool_getLsbD]
  have e : (x.toBitVec.sshiftRight k).getLsbD 0 = bit x k := by
    unfold bit
    rw [BitVec.getLsbD_sshiftRight]
    simp [h]
  rw [e]
  cases bit x k
  · rfl
  · rfl
theorem bt_t {x : Int32} {k : Nat} (h : k < 32) : ((x >>> (Int32.ofNat k &&& 31)) &&& 1) = 1 ↔ bit x k = true := by
  rw [bt_and1 h]
  cases bit x k
  · exact iff_of_false (by decide) (by decide)
  · exact iff_of_true (by decide) rfl
theorem bt_z {x : Int32} {k : Nat} (h : k < 32) : ((x >>> (Int32.ofNat k &&& 31)) &&& 1) = 0 ↔ bit x k = false := by
  rw [bt_and1 h]
  cases bit x k
  · exact iff_of_true (by decide) rfl
  · exact iff_of_false (by decide) (by decide)
theorem bt_0 {k : Nat} : bit 0 k = false := by
  unfold bit
  exact BitVec.getLsbD_zero
theorem nb2_bt {F : Nat → Nat → Int64} {p q : Nat} : ∀ {n : Nat}, n ≤ 8 → ∀ c, c < 32 → bit (nb2 F p q n) c = (decide (c < n) && !decide (F q c < F p c)) := by
  intro n
  induction n with
  | zero =>
    intro _ c _
    show bit 0 c = _
    rw [bt_0]
    rfl
  | succ n ih =>
    intro h c hc
    show bit (if F q n < F p n then nb2 F p q n else (nb2 F p q n ||| (1 <<< (Int32.ofNat n &&& 31)))) c = _
    by_cases k : F q n < F p n
    · rw [if_pos k, ih (by omega) c hc]
      by_cases e : c = n
      · rw [e, decide_eq_true k, Bool.not_true, Bool.and_false, Bool.and_false]
      · rw [decide_eq_decide.2 (show c < n ↔ c < n + 1 by omega)]
    · rw [if_neg k, bt_or, ih (by omega) c hc, bt_1 (by omega) hc]
      by_cases e : c = n
      · rw [e, decide_eq_true (rfl : n = n), Bool.or_true, decide_eq_true (show n < n + 1 by omega), decide_eq_false k]
        rfl
      · rw [decide_eq_false e, Bool.or_false, decide_eq_decide.2 (show c < n ↔ c < n + 1 by omega)]
/-- how many things of a KIND -/
noncomputable def nk (f : Nat → Int32) (kd : Nat) : Nat := (f kd).toNatClampNeg
/-- a COURT is told -/
noncomputable def CFt (f : Nat → Int32) : Prop := ∀ kd, kd < 3 → f kd = Int32.ofNat (nk f kd) ∧ 1 ≤ nk f kd ∧ nk f kd ≤ 8
/-- a WORLD's thing -/
noncomputable def thn (f : Nat → Int32) (kd w : Nat) : Nat := if kd = 2 then w % nk f 2 else if kd = 1 then w / nk f 2 % nk f 1 else w / nk f 2 / nk f 1
/-- how many WORLDS -/
noncomputable def nW (f : Nat → Int32) : Nat := nk f 0 * nk f 1 * nk f 2
theorem CFt.n {f : Nat → Int32} (h : CFt f) {kd : Nat} (k : kd < 3) : (f kd).toInt = nk f kd := by
  rw [(h kd k).1, t_on (by have := (h kd k).2.2; omega)]
theorem CFt.w {f : Nat → Int32} (h : CFt f) : nW f ≤ 512 ∧ 1 ≤ nW f := by
  have h0 := (h 0 (by decide)).2
  have h1 := (h 1 (by decide)).2
  have h2 := (h 2 (by decide)).2
  unfold nW
  have a : nk f 0 * nk f 1 ≤ 8 * 8 := Nat.mul_le_mul h0.2 h1.2
  have b : nk f 0 * nk f 1 * nk f 2 ≤ 8 * 8 * 8 := Nat.mul_le_mul a h2.2
  have c : 1 * 1 ≤ nk f 0 * nk f 1 := Nat.mul_le_mul h0.1 h1.1
  have d : 1 * 1 * 1 ≤ nk f 0 * nk f 1 * nk f 2 := Nat.mul_le_mul c h2.1
  omega
theorem thn_lt {f : Nat → Int32} (h : CFt f) {kd w : Nat} (k : kd < 3) (hw : w < nW f) : thn f kd w < nk f kd := by
  have h1 := (h 1 (by decide)).2
  have h2 := (h 2 (by decide)).2
  unfold thn
  obtain rfl | rfl | rfl : kd = 0 ∨ kd = 1 ∨ kd = 2 := by omega
  · rw [if_neg (by decide), if_neg (by decide)]
    refine Nat.div_lt_of_lt_mul (Nat.div_lt_of_lt_mul ?_)
    unfold nW at hw
    rw [Nat.mul_comm (nk f 1), Nat.mul_comm (nk f 2)]
    exact hw
  · rw [if_neg (by decide), if_pos rfl]
    exact Nat.mod_lt _ (by omega)
  · rw [if_pos rfl]
    exact Nat.mod_lt _ (by omega)
theorem dv_E {a b : Nat} (ha : a ≤ 1000) (hb : 1 ≤ b) (hb2 : b ≤ 1000) : wdvI (Int32.ofNat a) (Int32.ofNat b) = some (Int32.ofNat (a / b)) := by
  have ea : (Int32.ofNat a).toInt = a := t_on (by omega)
  have eb : (Int32.ofNat b).toInt = b := t_on (by omega)
  have hd : a / b ≤ a := Nat.div_le_self _ _
  unfold wdvI
  rw [if_neg (fun e => by have := congrArg Int32.toInt e; rw [eb, t_i0] at this; omega)]
  refine congrArg some (Int32.toInt_inj.1 ?_)
  rw [t_div (by omega) (by omega), ea, eb, t_on (by omega)]
  rfl
theorem rm_E {a b : Nat} (ha : a ≤ 1000) (hb : 1 ≤ b) (hb2 : b ≤ 1000) : wrmI (Int32.ofNat a) (Int32.ofNat b) = some (Int32.ofNat (a % b)) := by
  have ea : (Int32.ofNat a).toInt = a := t_on (by omega)
  have eb : (Int32.ofNat b).toInt = b := t_on (by omega)
  have hd : a % b ≤ a := Nat.mod_le _ _
  unfold wrmI
  rw [if_neg (fun e => by have := congrArg Int32.toInt e; rw [eb, t_i0] at this; omega)]
  refine congrArg some (Int32.toInt_inj.1 ?_)
  rw [t_rem (by omega) (by omega), ea, eb, t_on (by omega)]
  rfl
section NEAR
variable {s : wS} {x : lC} {l : Nat}
theorem JA.cf (g : JA s) (h : 0 < (s.1 163 0).toInt) : CFt (s.1 163) := by
  obtain ⟨c0, c1, c2, c3, -⟩ := g.c
  have c3 := c3 h
  intro kd k
  unfold nk
  obtain rfl | rfl | rfl : kd = 0 ∨ kd = 1 ∨ kd = 2 := by omega
  · have := t_cln c0.1
    exact ⟨(t_oc c0.1).symm, by omega, by omega⟩
  · have := t_cln c1.1
    exact ⟨(t_oc c1.1).symm, by omega, by omega⟩
  · have := t_cln c2.1
    exact ⟨(t_oc c2.1).symm, by omega, by omega⟩
/-- the class's WORLD -/
theorem thingIn_E (g : JA s) (cf : CFt (s.1 163)) {kd w : Nat} (hk : kd < 3) (hw : w < nW (s.1 163)) : wX0_thingIn 15 (Int32.ofNat w) (Int32.ofNat kd) s = some (Int32.ofNat (thn (s.1 163) kd w)) := by
  have w5 := cf.w.1
  have h1 := cf 1 (by decide)
  have h2 := cf 2 (by decide)
  have m1 := many_E g 1 (by decide)
  have m2 := many_E g 2 (by decide)
  have p1 : (0 : Int32) < s.1 163 1 := Int32.lt_iff_toInt_lt.2 (by rw [cf.n (by decide), t_i0]; omega)
  have p2 : (0 : Int32) < s.1 163 2 := Int32.lt_iff_toInt_lt.2 (by rw [cf.n (by decide), t_i0]; omega)
  have d1 : w / nk (s.1 163) 2 ≤ w := Nat.div_le_self _ _
  unfold wX0_thingIn
  rw [wld_E (by decide) (by decide), t_sbe, wld_E (by decide) (by decide), t_sbe, show (2 : Int32).toNatClampNeg = 2 from rfl, show (1 : Int32).toNatClampNeg = 1 from rfl, m1, m2, if_pos p2, if_pos p1]
  rw [h1.1, h2.1]
  unfold thn
  obtain rfl | rfl | rfl : kd = 0 ∨ kd = 1 ∨ kd = 2 := by omega
  · rw [if_pos (show Int32.ofNat 0 = 0 from rfl), dv_E (by omega) (by omega) (by omega), t_sbe, dv_E (by omega) (by omega) (by omega), if_neg (show ¬ 0 = 2 by decide), if_neg (show ¬ 0 = 1 by decide)]
    rfl
  · rw [if_neg (show ¬ Int32.ofNat 1 = 0 by decide), if_pos (show Int32.ofNat 1 = 1 from rfl), dv_E (by omega) (by omega) (by omega), t_sbe, rm_E (by omega) (by omega) (by omega), if_neg (show ¬ 1 = 2 by decide), if_pos (show 1 = 1 from rfl)]
    rfl
  · rw [if_neg (show ¬ Int32.ofNat 2 = 0 by decide), if_neg (show ¬ Int32.ofNat 2 = 1 by decide), rm_E (by omega) (by omega) (by omega), if_pos (show 2 = 2 from rfl)]
    rfl
theorem thingOf_E {f : Nat → Int32} (hf : s.1 163 = f) (cf : CFt f) {kd w : Nat} (hk : kd < 3) (hw : w < nW f) : wX11_thingOf (Int32.ofNat w) (Int32.ofNat kd) s = some (Int32.ofNat (thn f kd w)) := by
  have w5 := cf.w.1
  have h1 := cf 1 (by decide)
  have h2 := cf 2 (by decide)
  have d1 : w / nk f 2 ≤ w := Nat.div_le_self _ _
  unfold wX11_thingOf
  rw [hf, h1.1, h2.1]
  unfold thn
  obtain rfl | rfl | rfl : kd = 0 ∨ kd = 1 ∨ kd = 2 := by omega
  · rw [if_neg (show ¬ Int32.ofNat 0 = 2 by decide), if_neg (show ¬ Int32.ofNat 0 = 1 by decide), dv_E (by omega) (by omega) (by omega), t_sbe, dv_E (by omega) (by omega) (by omega), if_neg (show ¬ 0 = 2 by decide), if_neg (show ¬ 0 = 1 by decide)]
    rfl
  · rw [if_neg (show ¬ Int32.ofNat 1 = 2 by decide), if_pos (show Int32.ofNat 1 = 1 from rfl), dv_E (by omega) (by omega) (by omega), t_sbe, rm_E (by omega) (by omega) (by omega), if_neg (show ¬ 1 = 2 by decide), if_pos (show 1 = 1 from rfl)]
    rfl
  · rw [if_pos (show Int32.ofNat 2 = 2 from rfl), rm_E (by omega) (by omega) (by omega), if_pos (show 2 = 2 from rfl)]
    rfl
/-- of an ANSWER: KIND, one, other -/
noncomputable def akd (f : Nat → Int32) (a : Nat) : Nat := (f (42 + 5 * a + 1)).toNatClampNeg
noncomputable def aone (f : Nat → Int32) (a : Nat) : Nat := (f (42 + 5 * a + 2)).toNatClampNeg
noncomputable def aoth (f : Nat → Int32) (a : Nat) : Nat := (f (42 + 5 * a + 3)).toNatClampNeg
/-- the ANSWERS are of the COURT -/
noncomputable def AF (f : Nat → Int32) : Prop := ∀ a : Nat, (a : Int) < (f 3).toInt → akd f a < 3 ∧ aone f a < nk f (akd f a) ∧ aoth f a < nk f (akd f a) ∧ f (42 + 5 * a + 1) = Int32.ofNat (akd f a) ∧ f (42 + 5 * a + 2) = Int32.ofNat (aone f a) ∧ f (42 + 5 * a + 3) = Int32.ofNat (aoth f a)
theorem JA.af (g : JA s) : AF (s.1 163) := by
  obtain ⟨c0, c1, c2, c3, c4, c5, c6, -⟩ := g.c
  intro a ha
  obtain ⟨q1, q2, q3⟩ := c6 a ha
  rw [show 43 + 5 * a = 42 + 5 * a + 1 by omega] at q1 q2 q3
  rw [show 44 + 5 * a = 42 + 5 * a + 2 by omega] at q2
  rw [show 45 + 5 * a = 42 + 5 * a + 3 by omega] at q3
  unfold akd aone aoth nk
  have e1 := t_cln q1.1
  have e2 := t_cln q2.1
  have e3 := t_cln q3.1
  have e4 := t_cln (show 0 ≤ (s.1 163 (s.1 163 (42 + 5 * a + 1)).toNatClampNeg).toInt by omega)
  exact ⟨by omega, by omega, by omega, (t_oc q1.1).symm, (t_oc q2.1).symm, (t_oc q3.1).symm⟩
/-- an ANSWER is TRUE in a WORLD -/
noncomputable def trw (x : lC) (f : Nat → Int32) (a w : Nat) : Bool := !decide (FVx x f (Int32.ofNat (akd f a)) (aoth f a) (thn f (akd f a) w) < FVx x f (Int32.ofNat (akd f a)) (aone f a) (thn f (akd f a) w))
theorem FVx_c {x : lC} {f : Nat → Int32} {kd : Int32} {a b : Nat} : FVx x f kd a b = FVx x f kd a b := rfl
/-- the near bits of a pair -/
theorem nearOf_E (hl : l < 6) (t : TBL l x s) (cf : CFt (s.1 163)) {kd p q : Nat} (hk : kd < 3) (hp : p < nk (s.1 163) kd) (hq : q < nk (s.1 163) kd) : wX3_nearOf (44 + 10 * l) (Int32.ofNat kd) (Int32.ofNat p) (Int32.ofNat q) s = some (nb2 (FVx x (s.1 163) (Int32.ofNat kd)) p q (nk (s.1 163) kd)) := by
  obtain ⟨e0, n1, n8⟩ := cf kd hk
  have ek : (Int32.ofNat kd).toNatClampNeg = kd := t_nc (by omega)
  have eki : (Int32.ofNat kd).toInt = kd := t_on (by omega)
  have t2 := (t kd hk (nk (s.1 163) kd) (by rw [ek]; exact e0) n8 p q hp hq).2
  obtain ⟨c, ct, c1, c2⟩ := cell_E (s := s) (kd := Int32.ofNat kd) (by omega) (rfl : Int32.ofNat p = Int32.ofNat p) (by omega) (rfl : Int32.ofNat q = Int32.ofNat q) (by omega)
  unfold wX3_nearOf
  rw [ct, t_sbe, at_E (n := 192) (wln_9 hl) (by decide) (by omega) (by omega), t_sbe, c2]
  exact congrArg some t2
theorem nearThings_E (g : JA s) (hl : l < 6) (t : TBL l x s) (cf : CFt (s.1 163)) {a : Nat} (ha : (a : Int) < (s.1 163 3).toInt) : wX10_nearThings (44 + 10 * l) (Int32.ofNat a) s = some (nb2 (FVx x (s.1 163) (Int32.ofNat (akd (s.1 163) a))) (aone (s.1 163) a) (aoth (s.1 163) a) (nk (s.1 163) (akd (s.1 163) a))) := by
  have c3 := g.c.2.2.2.2.1
  obtain ⟨h1, h2, h3, h4, h5, h6⟩ := g.af a ha
  obtain ⟨-, e20, e21, e22, -⟩ := ans_E g ha (t_on (n := a) (by omega))
  unfold wX10_nearThings
  rw [e20, t_sbe, e21, t_sbe, e22, t_sbe, h4, h5, h6, nearOf_E hl t cf h1 h2 h3]
  rfl
theorem isTrue10_E (g : JA s) (hl : l < 6) (t : TBL l x s) (cf : CFt (s.1 163)) {a w : Nat} (ha : (a : Int) < (s.1 163 3).toInt) (hw : w < nW (s.1 163)) : wX10_isTrue (44 + 10 * l) (Int32.ofNat a) (Int32.ofNat w) s = some (if trw x (s.1 163) a w = true then 1 else 0) := by
  have c3 := g.c.2.2.2.2.1
  obtain ⟨h1, h2, h3, h4, h5, h6⟩ := g.af a ha
  obtain ⟨-, e20, -⟩ := ans_E g ha (t_on (n := a) (by omega))
  have n8 := (cf _ h1).2.2
  have tl := thn_lt cf h1 hw
  unfold wX10_isTrue
  rw [e20, t_sbe, h4, thingIn_E g cf h1 hw, t_sbe, nearThings_E g hl t cf ha, t_sbe]
  have b := nb2_bt (F := FVx x (s.1 163) (Int32.ofNat (akd (s.1 163) a))) (p := aone (s.1 163) a) (q := aoth (s.1 163) a) n8 (thn (s.1 163) (akd (s.1 163) a) w) (by omega)
  rw [decide_eq_true tl, Bool.true_and] at b
  by_cases k : trw x (s.1 163) a w = true
  · rw [if_pos k, if_pos ((bt_t (by omega)).2 (b.trans k))]
  · rw [if_neg k, if_neg (fun q => k (b.symm.trans ((bt_t (by omega)).1 q)))]
end NEAR
