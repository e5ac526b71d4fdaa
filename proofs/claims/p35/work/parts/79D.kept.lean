/-! The reference counts the FALSE ones; KEPT WORLDS on both sides; wrong, kept, may. -/
theorem b_f {α : Type} {a b : α} : (if false = true then a else b) = b := rfl
/-- is looked at -/
noncomputable def lkb (f : Nat → Int32) (a : Nat) : Bool := decide (f (42 + 5 * a + 4) = 0) && (decide (f 4 = -1) || decide ((a : Int) < (f 4).toInt))
theorem lkb_E {f : Nat → Int32} {r : wS} (hf : r.1 163 = f) {a : Nat} (ha : a < 40) : wX11_isLookedAt (Int32.ofNat a) r = some (if lkb f a = true then 1 else 0) := by
  have ea : (Int32.ofNat a).toInt = a := t_on (by omega)
  unfold wX11_isLookedAt wX11_isLookedAt_j29 lkb
  rw [answerOf_E (a := a) (w := 4) ha ea (by decide) rfl, t_sbe, hf]
  by_cases z : f (42 + 5 * a + 4) = 0
  · rw [if_pos z, decide_eq_true z, Bool.true_and]
    by_cases c : f 4 = -1
    · rw [if_pos c, decide_eq_true c]
      rfl
    · rw [if_neg c, decide_eq_false c, Bool.false_or]
      by_cases d : Int32.ofNat a < f 4
      · have := t_lt d
        rw [if_pos d, decide_eq_true (show (a : Int) < (f 4).toInt by omega)]
        rfl
      · have := t_ge d
        rw [if_neg d, decide_eq_false (show ¬ (a : Int) < (f 4).toInt by omega)]
        rfl
  · rw [if_neg z, decide_eq_false z]
    rfl
/-- what the class calls the first of them -/
noncomputable def FV1 (f : Nat → Int32) (v : Int32) : Prop := ∀ a : Nat, (a : Int) < (f 3).toInt → ((a : Int) < v.toInt ↔ (f 4 = -1 ∨ (a : Int) < (f 4).toInt))
theorem lkv_b {f : Nat → Int32} {v : Int32} (hv : FV1 f v) {a : Nat} (ha : (a : Int) < (f 3).toInt) : lkv f v a = lkb f a := by
  unfold lkv lkb
  rw [decide_eq_true ha, Bool.true_and, decide_eq_decide.2 (hv a ha), Bool.decide_or, Bool.and_comm]
/-- what is FALSE of those that are looked at, one left out -/
noncomputable def wrg (x : lC) (f : Nat → Int32) (but : Int32) (w : Nat) : Nat := fan x f (fun a => lkb f a && !decide (Int32.ofNat a = but)) w (nk f 3)
theorem wrg_le {x : lC} {f : Nat → Int32} {but : Int32} {w : Nat} (h : (f 3).toInt ≤ 40) : wrg x f but w ≤ 40 := by
  have := fan_le (x := x) (f := f) (P := fun a => lkb f a && !decide (Int32.ofNat a = but)) (w := w) (n := nk f 3)
  have e : nk f 3 = (f 3).toNatClampNeg := rfl
  unfold wrg
  by_cases c : 0 ≤ (f 3).toInt
  · have := t_cln c
    omega
  · have : (f 3).toNatClampNeg = 0 := by
      unfold Int32.toNatClampNeg
      omega
    omega
theorem fan_wrg {x : lC} {f : Nat → Int32} {v but : Int32} (h0 : 0 ≤ (f 3).toInt) (h40 : (f 3).toInt ≤ 40) (hv : FV1 f v) {w : Nat} : fan x f (selv f v (-1) but) w 40 = wrg x f but w := by
  have e := t_cln h0
  have e2 : nk f 3 = (f 3).toNatClampNeg := rfl
  unfold wrg fan
  rw [cnt_ext (n := nk f 3) (by omega) (fun a h1 _ => ?_)]
  · refine cnt_cg (fun a ha => ?_)
    have hl : (a : Int) < (f 3).toInt := by omega
    unfold selv
    rw [lkv_b hv hl, decide_eq_true (rfl : (-1 : Int32) = -1), Bool.true_or, Bool.true_and]
  · have : lkv f v a = false := Bool.eq_false_iff.2 (fun h => by have := lkv_lt h; omega)
    unfold selv
    rw [this, Bool.false_and, Bool.false_and]
/-- the reference's state, once it has reached -/
noncomputable def RCH (x : lC) (f : Nat → Int32) (r : wS) : Prop := r.1 163 = f ∧ CFt f ∧ AF f ∧ (0 ≤ (f 3).toInt ∧ (f 3).toInt ≤ 40) ∧ FR x f r
section KP
variable {s : wS} {x : lC} {l : Nat} {f : Nat → Int32} {r : wS}
theorem RCH.go (c : RCH x f r) {t : wS} (h1 : t.1 163 = r.1 163) (h2 : t.2 = r.2) : RCH x f t := ⟨h1.trans c.1, c.2.1, c.2.2.1, c.2.2.2.1, fun kd a b hk ha hb hT => by rw [h2]; exact c.2.2.2.2 kd a b hk ha hb hT⟩
theorem RCH.n3 (c : RCH x f r) : f 3 = Int32.ofNat (nk f 3) ∧ nk f 3 ≤ 40 := by
  have e := t_cln c.2.2.2.1.1
  have e2 : nk f 3 = (f 3).toNatClampNeg := rfl
  have := c.2.2.2.1.2
  exact ⟨(t_oc c.2.2.2.1.1).symm, by omega⟩
theorem QS.f3 (q : QS l x s) : 0 ≤ (s.1 163 3).toInt ∧ (s.1 163 3).toInt ≤ 40 := q.1.c.2.2.2.2.1
theorem QS.rc (q : QS l x s) : ∃ r, wX11_reaches (Int32.ofNat l) s = some r ∧ RCH x (s.1 163) r := by
  obtain ⟨r, er, rf, d⟩ := reaches_E q
  exact ⟨r, er, rf.f, q.2.2.2.2.2, q.1.af, q.f3, d⟩
theorem RCH.tr (c : RCH x f r) {a w : Nat} (ha : a < nk f 3) (hw : w < nW f) : wX11_isTrue (Int32.ofNat a) (Int32.ofNat w) r = some (if trw x f a w = true then 1 else 0) := by
  have e := t_cln c.2.2.2.1.1
  have e2 : nk f 3 = (f 3).toNatClampNeg := rfl
  exact isTrue11_E c.1 c.2.1 c.2.2.1 c.2.2.2.1.2 c.2.2.2.2 (by omega) hw
theorem worlds11 (hf : r.1 163 = f) (cf : CFt f) : wX11_worlds r = some (Int32.ofNat (nW f)) := by
  have h0 := (cf 0 (by decide)).1
  have h1 := (cf 1 (by decide)).1
  have h2 := (cf 2 (by decide)).1
  unfold wX11_worlds nW
  rw [hf, h0, h1, h2, o_mul, o_mul]
theorem RCH.nw (c : RCH x f r) : wX11_worlds r = some (Int32.ofNat (nW f)) := worlds11 c.1 c.2.1
theorem wrongIn_E (c : RCH x f r) {but : Int32} {w : Nat} (hw : w < nW f) : wX11_wrongIn (Int32.ofNat w) but r = some (Int32.ofNat (wrg x f but w)) := by
  obtain ⟨n3, n40⟩ := c.n3
  unfold wX11_wrongIn
  have e : wX11_wrongIn_h5 (Int32.ofNat w) but r wFuel 0 0 = some (Int32.ofNat (wrg x f but w)) := by
    refine loop_P (L := fun n (p : Int32 × Int32) => wX11_wrongIn_h5 (Int32.ofNat w) but r n p.1 p.2) (N := nk f 3) (I := fun a p => p.1 = Int32.ofNat (fan x f (fun a => lkb f a && !decide (Int32.ofNat a = but)) w a) ∧ p.2 = Int32.ofNat a) (x := (0, 0)) (by omega) ⟨rfl, rfl⟩ (fun n a p ha hI => ?_) (fun n p hI => ?_)
    · obtain ⟨u, v⟩ := p
      obtain ⟨ea, eb⟩ := hI
      dsimp only at ea eb ⊢
      subst ea eb
      rw [wX11_wrongIn_h5, c.1, n3, if_pos ((o_lt (by omega) (by omega)).2 ha)]
      unfold wX11_wrongIn_j46 wX11_wrongIn_j47
      rw [o_1, fan_s]
      by_cases d : Int32.ofNat a = but
      · rw [if_pos d, decide_eq_true d, Bool.not_true, Bool.and_false, Bool.false_and]
        exact ⟨(_, _), rfl, o_add (b := 0), rfl⟩
      · rw [if_neg d, lkb_E c.1 (by omega), t_sbe, decide_eq_false d, Bool.not_false, Bool.and_true]
        cases lb : lkb f a
        · rw [b_f, qi0, Bool.false_and]
          exact ⟨(_, _), rfl, o_add (b := 0), rfl⟩
        · rw [if_pos rfl, qi1, c.tr ha hw, t_sbe, Bool.true_and]
          cases tr : trw x f a w
          · rw [b_f, qi0]
            exact ⟨(_, _), rfl, o_add (b := 1), rfl⟩
          · rw [if_pos rfl, qi1]
            exact ⟨(_, _), rfl, o_add (b := 0), rfl⟩
    · obtain ⟨u, v⟩ := p
      obtain ⟨ea, eb⟩ := hI
      dsimp only at ea eb ⊢
      subst ea eb
      rw [wX11_wrongIn_h5, c.1, n3, if_neg (fun c => by have := (o_lt (by omega) (by omega)).1 c; omega)]
      rfl
  rw [e, t_sbe]
/-- is KEPT -/
noncomputable def kpt (x : lC) (f : Nat → Int32) (but : Int32) (k w : Nat) : Bool := decide (wrg x f but w ≤ k)
theorem stZ_o {k n i : Nat} {v : Int32} {s : wS} (h : i < n) (hn : n ≤ 2400) : wstZ s k n (Int32.ofNat i) v = some (wupI s k i (vp_nar .boolean v)) := by
  unfold wstZ
  rw [if_neg (t_ix (by rw [t_on (by omega)]; omega) (by rw [t_on (by omega)]; omega)), t_nc (by omega)]
/-- the row of KEPT WORLDS -/
noncomputable def KWR (f : Nat → Int32) (K : Nat → Bool) (r : wS) (n : Nat) : Prop := ∀ w, w < n → r.1 165 w = if K w = true then 1 else 0
theorem keeps_E (q : QS l x s) {k : Nat} (hk : k ≤ 100) {but : Int32} : Tot (wX11_keeps (Int32.ofNat l) (Int32.ofNat k) but s) (fun p => p.1 = Int32.ofNat (cnt (kpt x (s.1 163) but k) (nW (s.1 163))) ∧ RCH x (s.1 163) p.2 ∧ KWR (s.1 163) (kpt x (s.1 163) but k) p.2 (nW (s.1 163))) := by
  have w5 := q.2.2.2.2.2.w.1
  obtain ⟨r0, er, c0⟩ := q.rc
  unfold wX11_keeps
  rw [er, t_sbe]
  refine t_bind (P := fun p => p.1 = Int32.ofNat (cnt (kpt x (s.1 163) but k) (nW (s.1 163))) ∧ RCH x (s.1 163) p.2 ∧ KWR (s.1 163) (kpt x (s.1 163) but k) p.2 (nW (s.1 163))) ?_ (fun p h => t_some h)
  refine loop_N (L := fun n (p : Int32 × Int32 × wS) => wX11_keeps_h11 (Int32.ofNat k) but n p.1 p.2.1 p.2.2) (N := nW (s.1 163)) (I := fun w p => p.1 = Int32.ofNat (cnt (kpt x (s.1 163) but k) w) ∧ p.2.1 = Int32.ofNat w ∧ RCH x (s.1 163) p.2.2 ∧ KWR (s.1 163) (kpt x (s.1 163) but k) p.2.2 w) (x := (0, 0, r0)) (by omega) ⟨rfl, rfl, c0, fun w h => absurd h (by omega)⟩ (fun n w p hw hI => ?_) (fun n p hI => ?_)
  · obtain ⟨a, b, r⟩ := p
    obtain ⟨ea, eb, c, z⟩ := hI
    dsimp only at ea eb c z ⊢
    subst ea eb
    have w40 := wrg_le (x := x) (f := s.1 163) (but := but) (w := w) q.f3.2
    rw [wX11_keeps_h11, c.nw, t_sbe, if_pos ((o_lt (by omega) (by omega)).2 hw), wrongIn_E c hw, t_sbe]
    unfold wX11_keeps_j42 wX11_keeps_j60
    have kr : ∀ v : Int32, v = (if kpt x (s.1 163) but k w = true then 1 else 0) → KWR (s.1 163) (kpt x (s.1 163) but k) (wupI r 165 w v) (w + 1) := fun v hv u hu => by
      rw [upI_at]
      by_cases d : u = w
      · rw [if_pos d, d]
        exact hv
      · rw [if_neg d]
        exact z u (by omega)
    by_cases d : wrg x (s.1 163) but w ≤ k
    · have kt : kpt x (s.1 163) but k w = true := decide_eq_true d
      rw [if_neg (fun d => by have := (o_lt (by omega) (by omega)).1 d; omega), stZ_o (by omega) (by omega), t_sbe, ldI_o (by omega) (by omega), t_sbe, upI_at, if_pos rfl, show vp_nar .boolean 1 = 1 from rfl, qi1, o_1, o_1]
      exact ⟨(_, _, _), rfl, congrArg Int32.ofNat (cnt_t kt).symm, rfl, c.go (wupI_n (by decide)) rfl, kr 1 (by rw [kt]; rfl)⟩
    · have kt : kpt x (s.1 163) but k w = false := decide_eq_false d
      rw [if_pos ((o_lt (by omega) (by omega)).2 (by omega)), stZ_o (by omega) (by omega), t_sbe, ldI_o (by omega) (by omega), t_sbe, upI_at, if_pos rfl, show vp_nar .boolean 0 = 0 from rfl, qi0, o_z, o_1]
      exact ⟨(_, _, _), rfl, congrArg Int32.ofNat (cnt_f kt).symm, rfl, c.go (wupI_n (by decide)) rfl, kr 0 (by rw [kt]; rfl)⟩
  · obtain ⟨a, b, r⟩ := p
    obtain ⟨ea, eb, c, z⟩ := hI
    dsimp only at ea eb c z ⊢
    subst ea eb
    rw [wX11_keeps_h11, c.nw, t_sbe, if_neg (fun c => by have := (o_lt (by omega) (by omega)).1 c; omega)]
    exact t_some ⟨rfl, c, z⟩
theorem in64_E {y : Int32} {a b : Int64} {A B : Int} (ha : a.toInt = A) (hb : b.toInt = B) : wX11_in y.toInt64 a b s = some (if A ≤ y.toInt ∧ y.toInt ≤ B then 1 else 0) := by
  unfold wX11_in
  by_cases c : y.toInt64 < a
  · have := Int64.lt_iff_toInt_lt.1 c
    rw [Int32.toInt_toInt64] at this
    rw [if_pos c, if_neg (by omega)]
  · have h1 : A ≤ y.toInt := by
      rw [← ha, ← Int32.toInt_toInt64 y]
      exact Int.not_lt.1 (fun h => c (Int64.lt_iff_toInt_lt.2 h))
    rw [if_neg c]
    by_cases d : b < y.toInt64
    · have := Int64.lt_iff_toInt_lt.1 d
      rw [Int32.toInt_toInt64] at this
      rw [if_pos d, if_neg (by omega)]
    · have h2 : y.toInt ≤ B := by
        rw [← hb, ← Int32.toInt_toInt64 y]
        exact Int.not_lt.1 (fun h => d (Int64.lt_iff_toInt_lt.2 h))
      rw [if_neg d, if_pos ⟨h1, h2⟩]
theorem isMany_E {y : Int32} : wX11_isMany y s = some (if 0 ≤ y.toInt ∧ y.toInt ≤ 40 then 1 else 0) := by
  unfold wX11_isMany
  rw [in64_E (A := 0) (B := 40) rfl rfl, t_sbe]
  by_cases c : 0 ≤ y.toInt ∧ y.toInt ≤ 40
  · rw [if_pos c]
    rfl
  · rw [if_neg c]
    rfl
/-- the class's tally of WORLDS -/
noncomputable def TLY (k1 : Nat) (f : Nat → Int32) (P : Nat → Bool) (n : Nat) (r : wS) : Prop := r.1 k1 1 = Int32.ofNat (cnt P n) ∧ ∀ kd t, kd < 3 → t < 8 → r.1 (k1 + 1) (8 * kd + t) = Int32.ofNat (cnt (fun w => P w && decide (thn f kd w = t)) n)
theorem addOne_E {k1 i : Nat} (hk : k1 = 35 ∨ k1 = 37) (hi : i < 24) : wX7_addOne k1 (Int32.ofNat i) s = some (wupI s (k1 + 1) i (s.1 (k1 + 1) i + 1)) := by
  have hw : wln (k1 + 1) = 24 := by
    rcases hk with h | h <;> rw [h] <;> rfl
  unfold wX7_addOne
  rw [at_o hw (by omega) hi, t_sbe, set_o hw (by omega) hi, t_sbe]
theorem tally_E {k1 h r m : Nat} (hk : k1 = 35 ∨ k1 = 37) (hh : h < 8) (hr : r < 8) (hm : m < 8) : Tot (wX7_add k1 (Int32.ofNat h) (Int32.ofNat r) (Int32.ofNat m) s) (fun u => FK k1 (k1 + 1) s u ∧ u.1 k1 1 = s.1 k1 1 + 1 ∧ ∀ kd t, kd < 3 → t < 8 → u.1 (k1 + 1) (8 * kd + t) = s.1 (k1 + 1) (8 * kd + t) + (if (kd = 0 ∧ t = h) ∨ (kd = 1 ∧ t = r) ∨ (kd = 2 ∧ t = m) then 1 else 0)) := by
  unfold wX7_add wpfI
  rw [slot_o0 hh, t_sbe, addOne_E hk (by omega), t_sbe, slot_o1 hr, t_sbe, addOne_E hk (by omega), t_sbe, slot_o2 hm, t_sbe, addOne_E hk (by omega), t_sbe, t_sbe]
  refine t_some ⟨(FK_I (by omega) (by omega)).trans ((FK_I (by omega) (by omega)).trans ((FK_I (by omega) (by omega)).trans (FK_I (by omega) (by omega)))), ?_, fun kd t hkd ht => ?_⟩
  · rw [upI_at, if_pos rfl, wupI_n (by omega), wupI_n (by omega), wupI_n (by omega)]
  · rw [wupI_n (by omega), upI_at, upI_at, upI_at, upI_at, upI_at, upI_at]
    rw [if_neg (show ¬ 8 * 1 + r = 8 * 0 + h by omega), if_neg (show ¬ 8 * 2 + m = 8 * 1 + r by omega), if_neg (show ¬ 8 * 2 + m = 8 * 0 + h by omega)]
    obtain rfl | rfl | rfl : kd = 0 ∨ kd = 1 ∨ kd = 2 := by omega
    · rw [if_neg (show ¬ 8 * 0 + t = 8 * 2 + m by omega), if_neg (show ¬ 8 * 0 + t = 8 * 1 + r by omega)]
      by_cases c : t = h
      · rw [if_pos (by omega), if_pos (Or.inl ⟨rfl, c⟩), c]
      · rw [if_neg (by omega), if_neg (by omega), Int32.add_zero]
    · rw [if_neg (show ¬ 8 * 1 + t = 8 * 2 + m by omega), if_neg (show ¬ 8 * 1 + t = 8 * 0 + h by omega)]
      by_cases c : t = r
      · rw [if_pos (by omega), if_pos (Or.inr (Or.inl ⟨rfl, c⟩)), c]
      · rw [if_neg (by omega), if_neg (by omega), Int32.add_zero]
    · rw [if_neg (show ¬ 8 * 2 + t = 8 * 1 + r by omega), if_neg (show ¬ 8 * 2 + t = 8 * 0 + h by omega)]
      by_cases c : t = m
      · rw [if_pos (by omega), if_pos (Or.inr (Or.inr ⟨rfl, c⟩)), c]
      · rw [if_neg (by omega), if_neg (by omega), Int32.add_zero]
/-- of one MAN or of all -/
noncomputable def mnb (f : Nat → Int32) (man : Int32) (w : Nat) : Bool := decide (man = -1) || decide (Int32.ofNat (thn f 2 w) = man)
theorem fillKept_E (q : QS l x s) {k1 : Nat} (hk1 : k1 = 35 ∨ k1 = 37) {g : Nat → Nat} (hg : ∀ w, w < nW (s.1 163) → s.1 33 w = Int32.ofNat (g w) ∧ g w ≤ 100) {k : Nat} (hk : k ≤ 100) {man : Int32} : Tot (wX10_fillKept k1 (Int32.ofNat k) man s) (fun r => FK k1 (k1 + 1) s r ∧ TLY k1 (s.1 163) (fun w => decide (g w ≤ k) && mnb (s.1 163) man w) (nW (s.1 163)) r) := by
  have cf := q.2.2.2.2.2
  have w5 := cf.w.1
  have c0 := (cf 0 (by decide)).2.2
  have c1 := (cf 1 (by decide)).2.2
  have c2 := (cf 2 (by decide)).2.2
  have hw : wln (k1 + 1) = 24 := by
    rcases hk1 with h | h <;> rw [h] <;> rfl
  unfold wX10_fillKept wX7_clear
  obtain ⟨s2, e2, f2, z2⟩ := empty_E (s := s) (k := k1 + 1) (n := 24) hw (by omega)
  rw [e2, t_sbe]
  unfold wpfI
  rw [t_sbe, t_sbe]
  have f3 : FK k1 (k1 + 1) s (wupI s2 k1 1 0) := (f2.mono (by omega) (by omega)).trans (FK_I (by omega) (by omega))
  refine t_bind (P := fun r => FK k1 (k1 + 1) s r ∧ TLY k1 (s.1 163) (fun w => decide (g w ≤ k) && mnb (s.1 163) man w) (nW (s.1 163)) r) ?_ (fun r h => t_some h)
  refine world3 cf (I := fun w r => FK k1 (k1 + 1) s r ∧ TLY k1 (s.1 163) (fun w => decide (g w ≤ k) && mnb (s.1 163) man w) w r) (A2 := fun h r => wX10_fillKept_h48 k1 (Int32.ofNat k) man (Int32.ofNat h) (Int32.ofNat r)) (A1 := fun h => wX10_fillKept_h29 k1 (Int32.ofNat k) man (Int32.ofNat h)) (A0 := wX10_fillKept_h10 k1 (Int32.ofNat k) man) ?_ ?_ ?_ ?_ ?_ ?_ ⟨f3, ?_, fun kd t hkd ht => ?_⟩
  · intro h r n m t hh hr hm it
    obtain ⟨fk, y1, y2⟩ := it
    obtain ⟨wl, t0, t1, t2⟩ := thn_w hh hr hm
    generalize ew : (h * nk (s.1 163) 1 + r) * nk (s.1 163) 2 + m = w at *
    obtain ⟨g1, g2⟩ := hg w wl
    have r33 : t.1 33 w = Int32.ofNat (g w) := by rw [fk.1 33 (by omega), g1]
    -- not counted
    have no : (decide (g w ≤ k) && mnb (s.1 163) man w) = false → TLY k1 (s.1 163) (fun w => decide (g w ≤ k) && mnb (s.1 163) man w) (w + 1) t := fun d => by
      refine ⟨?_, fun kd u hkd hu => ?_⟩
      · rw [y1, cnt_f (n := w) d]
      · rw [y2 kd u hkd hu, cnt_f (n := w) (by dsimp only; rw [d, Bool.false_and])]
    rw [wX10_fillKept_h48, many_r2 q (fk.1 16 (by omega)), t_sbe, if_pos ((o_lt (by omega) (by omega)).2 hm), at_o (n := 512) rfl (by omega) (by omega), t_sbe, r33]
    unfold wX10_fillKept_j98 wX10_fillKept_j88 wX10_fillKept_j98
    by_cases c : g w ≤ k
    · rw [if_neg (fun d => by have := (o_lt (by omega) (by omega)).1 d; omega)]
      -- counted
      have yes : mnb (s.1 163) man w = true → ∃ s', ((wX7_add k1 (Int32.ofNat h) (Int32.ofNat r) (Int32.ofNat m) t).bind fun s18 => wX10_fillKept_h48 k1 (Int32.ofNat k) man (Int32.ofNat h) (Int32.ofNat r) n (Int32.ofNat (w + 1)) (Int32.ofNat (m + 1)) s18) = wX10_fillKept_h48 k1 (Int32.ofNat k) man (Int32.ofNat h) (Int32.ofNat r) n (Int32.ofNat (w + 1)) (Int32.ofNat (m + 1)) s' ∧ FK k1 (k1 + 1) s s' ∧ TLY k1 (s.1 163) (fun w => decide (g w ≤ k) && mnb (s.1 163) man w) (w + 1) s' := fun d => by
        obtain ⟨u, eu, fu, a1, a2⟩ := tally_E (s := t) hk1 (show h < 8 by omega) (show r < 8 by omega) (show m < 8 by omega)
        rw [eu, t_sbe]
        have b : (decide (g w ≤ k) && mnb (s.1 163) man w) = true := by rw [decide_eq_true c, d]; rfl
        refine ⟨u, rfl, fk.trans fu, ?_, fun kd v hkd hv => ?_⟩
        · rw [a1, y1, o_1, cnt_t (n := w) b]
        · have e : cnt (fun w => (decide (g w ≤ k) && mnb (s.1 163) man w) && decide (thn (s.1 163) kd w = v)) (w + 1) = cnt (fun w => (decide (g w ≤ k) && mnb (s.1 163) man w) && decide (thn (s.1 163) kd w = v)) w + ((decide (g w ≤ k) && mnb (s.1 163) man w) && decide (thn (s.1 163) kd w = v)).toNat := rfl
          rw [a2 kd v hkd hv, y2 kd v hkd hv, e, b, Bool.true_and]
          obtain rfl | rfl | rfl : kd = 0 ∨ kd = 1 ∨ kd = 2 := by omega
          · rw [t0]
            by_cases z : v = h
            · rw [if_pos (Or.inl ⟨rfl, z⟩), decide_eq_true z.symm]
              exact o_1
            · rw [if_neg (by omega), decide_eq_false (fun q => z q.symm)]
              exact o_z
          · rw [t1]
            by_cases z : v = r
            · rw [if_pos (Or.inr (Or.inl ⟨rfl, z⟩)), decide_eq_true z.symm]
              exact o_1
            · rw [if_neg (by omega), decide_eq_false (fun q => z q.symm)]
              exact o_z
          · rw [t2]
            by_cases z : v = m
            · rw [if_pos (Or.inr (Or.inr ⟨rfl, z⟩)), decide_eq_true z.symm]
              exact o_1
            · rw [if_neg (by omega), decide_eq_false (fun q => z q.symm)]
              exact o_z
      rw [o_1, o_1]
      by_cases d : man = -1
      · rw [if_pos d]
        exact yes (by unfold mnb; rw [decide_eq_true d, Bool.true_or])
      · rw [if_neg d]
        by_cases d2 : Int32.ofNat m = man
        · rw [if_pos d2]
          exact yes (by unfold mnb; rw [t2, decide_eq_true d2, Bool.or_true])
        · rw [if_neg d2]
          exact ⟨t, rfl, fk, no (by unfold mnb; rw [t2, decide_eq_false d, decide_eq_false d2]; exact Bool.and_false _)⟩
    · rw [if_pos ((o_lt (by omega) (by omega)).2 (by omega)), o_1, o_1]
      exact ⟨t, rfl, fk, no (by rw [decide_eq_false c, Bool.false_and])⟩
  · intro h r n w t it
    rw [wX10_fillKept_h48, many_r2 q (it.1.1 16 (by omega)), t_sbe, if_neg (fun c => by have := (o_lt (by omega) (by omega)).1 c; omega)]
  · intro h r n w w' t t' hh hr it e
    rw [wX10_fillKept_h29, many_r1 q (it.1.1 16 (by omega)), t_sbe, if_pos ((o_lt (by omega) (by omega)).2 hr), e, t_sbe, o_1]
  · intro h n w t it
    rw [wX10_fillKept_h29, many_r1 q (it.1.1 16 (by omega)), t_sbe, if_neg (fun c => by have := (o_lt (by omega) (by omega)).1 c; omega)]
  · intro h n w w' t t' hh it e
    rw [wX10_fillKept_h10, many_r0 q (it.1.1 16 (by omega)), t_sbe, if_pos ((o_lt (by omega) (by omega)).2 hh), e, t_sbe, o_1]
  · intro n w t it
    rw [wX10_fillKept_h10, many_r0 q (it.1.1 16 (by omega)), t_sbe, if_neg (fun c => by have := (o_lt (by omega) (by omega)).1 c; omega)]
  · rw [upI_at, if_pos rfl]
    rfl
  · rw [wupI_n (by omega), z2 _ (by omega)]
    rfl
theorem TLY.cg {k1 n : Nat} {P Q : Nat → Bool} (h : ∀ w, w < n → P w = Q w) (t : TLY k1 f P n r) : TLY k1 f Q n r := ⟨by rw [t.1, cnt_cg h], fun kd u hk hu => by rw [t.2 kd u hk hu, cnt_cg (fun w hw => by rw [h w hw])]⟩
theorem TLY.wi {k1 n : Nat} (hk : k1 = 35 ∨ k1 = 37) {P : Nat → Bool} (t : TLY k1 f P n r) {kd u : Nat} (hkd : kd < 3) (hu : u < 8) : wX7_with k1 (Int32.ofNat kd) (Int32.ofNat u) r = some (Int32.ofNat (cnt (fun w => P w && decide (thn f kd w = u)) n)) := by
  have hw : wln (k1 + 1) = 24 := by
    rcases hk with h | h <;> rw [h] <;> rfl
  unfold wX7_with
  rw [slot_o hkd hu, t_sbe, at_o hw (by omega) (by omega), t_sbe, t.2 kd u hkd hu]
theorem TLY.fk {k1 n a b : Nat} {P : Nat → Bool} {u : wS} (t : TLY k1 f P n r) (h : FK a b r u) (o : k1 + 1 < a ∨ b < k1) : TLY k1 f P n u := ⟨by rw [h.1 k1 (by omega)]; exact t.1, fun kd v hk hv => by rw [h.1 (k1 + 1) (by omega)]; exact t.2 kd v hk hv⟩
/-- what the class makes of a LAW and k -/
noncomputable def KK (l : Nat) (x : lC) (k : Nat) (s : wS) : Prop := QS l x s ∧ (∀ w, w < nW (s.1 163) → s.1 33 w = Int32.ofNat (wrg x (s.1 163) (-1) w)) ∧ TLY 35 (s.1 163) (kpt x (s.1 163) (-1) k) (nW (s.1 163)) s
theorem withKept_E (g : JB s) (x1 x2 : Int32) : (∃ s2, wX10_lawWithKept x1 x2 s = some (none, s2) ∧ (wX11_canAsk x1 s2 = some 0 ∨ (wX11_canAsk x1 s2 = some 1 ∧ wX11_isMany x2 s2 = some 0))) ∨ (∃ l k s2 x, KK l x k s2 ∧ x1 = Int32.ofNat l ∧ x2 = Int32.ofNat k ∧ k ≤ 40 ∧ wX10_lawWithKept x1 x2 s = some (some (44 + 10 * l), s2) ∧ (∀ u, QS l x u → wX11_canAsk x1 u = some 1) ∧ (∀ u, wX11_isMany x2 u = some 1)) := by
  unfold wX10_lawWithKept
  rcases ask_E g x1 with ⟨e, c⟩ | ⟨l, s2, x, q, hx1, e, hf, c⟩
  · left
    rw [e, t_sbe]
    exact ⟨s, rfl, Or.inl c⟩
  · rw [e, t_sbe]
    dsimp only [Option.elim]
    rw [isOutside_E]
    by_cases d : 0 ≤ x2.toInt ∧ x2.toInt < (41 : Int32).toInt
    · right
      have e41 : (41 : Int32).toInt = 41 := rfl
      have ek := t_cln d.1
      have w40 := fun w => wrg_le (x := x) (f := s2.1 163) (but := -1) (w := w) q.f3.2
      obtain ⟨v, ev, hv⟩ := first_v q.1
      obtain ⟨s3, e3, f3, z3⟩ := countFalse_E q (v := v) (wit := -1) (but := -1)
      have q3 := f3.qs (by omega) (by omega) q
      have hf3 : s3.1 163 = s2.1 163 := f3.f (by omega)
      have z3' : ∀ w, w < nW (s3.1 163) → s3.1 33 w = Int32.ofNat (wrg x (s3.1 163) (-1) w) ∧ wrg x (s3.1 163) (-1) w ≤ 100 := fun w hw => by
        rw [hf3] at hw ⊢
        exact ⟨(z3 w hw).trans (congrArg Int32.ofNat (fan_wrg q.f3.1 q.f3.2 hv)), by have := w40 w; omega⟩
      obtain ⟨s4, e4, f4, t4⟩ := fillKept_E q3 (k1 := 35) (Or.inl rfl) z3' (k := x2.toNatClampNeg) (by omega) (man := -1)
      have hf4 : s4.1 163 = s3.1 163 := f4.f (by omega)
      rw [t_oc d.1] at e4
      refine ⟨l, x2.toNatClampNeg, s4, x, ⟨f4.qs (by omega) (by omega) q3, fun w hw => ?_, ?_⟩, hx1, (t_oc d.1).symm, by omega, ?_, c, fun u => ?_⟩
      · rw [hf4] at hw ⊢
        rw [f4.1 33 (by omega)]
        exact (z3' w hw).1
      · rw [hf4]
        refine t4.cg (fun w _ => ?_)
        unfold mnb kpt
        rw [decide_eq_true (rfl : (-1 : Int32) = -1), Bool.true_or, Bool.and_true]
      · rw [if_pos d, t_sbe, qi0, ev, t_sbe, e3, t_sbe, e4, t_sbe]
      · rw [isMany_E, if_pos (by omega)]
    · left
      have e41 : (41 : Int32).toInt = 41 := rfl
      exact ⟨s2, by rw [if_neg d, t_sbe, qi1], Or.inr ⟨c s2 q, by rw [isMany_E, if_neg (by omega)]⟩⟩
theorem isW2_E (q : QS l x s) (w : Int32) : (∃ v : Nat, w = Int32.ofNat v ∧ v < nW (s.1 163) ∧ wX10_isOutside w (Int32.ofNat (nW (s.1 163))) s = some 0 ∧ ∀ u : wS, u.1 163 = s.1 163 → wX11_isWorld w u = some 1) ∨ (wX10_isOutside w (Int32.ofNat (nW (s.1 163))) s = some 1 ∧ ∀ u : wS, u.1 163 = s.1 163 → wX11_isWorld w u = some 0) := by
  have cf := q.2.2.2.2.2
  have w5 := cf.w.1
  have eN : (Int32.ofNat (nW (s.1 163))).toInt = nW (s.1 163) := t_on (by omega)
  have ew : (Int32.ofNat (nW (s.1 163))).toInt = (s.1 163 0).toInt * (s.1 163 1).toInt * (s.1 163 2).toInt := by
    rw [eN, cf.n (kd := 0) (by decide), cf.n (kd := 1) (by decide), cf.n (kd := 2) (by decide)]
    unfold nW
    rw [Int.natCast_mul, Int.natCast_mul]
  rw [isOutside_E, eN]
  by_cases c : 0 ≤ w.toInt ∧ w.toInt < (nW (s.1 163) : Int)
  · left
    have e := t_cln c.1
    exact ⟨w.toNatClampNeg, (t_oc c.1).symm, by omega, by rw [if_pos c], fun u hu => by rw [isWorld_E q.1 ew hu, eN, if_pos c]⟩
  · right
    exact ⟨by rw [if_neg c], fun u hu => by rw [isWorld_E q.1 ew hu, eN, if_neg c]⟩
theorem op_wrong {x1 x2 : Int32} (g : JB s) : ∃ v s1 v2 s2, wX10_wrong x1 x2 s = some (v, s1) ∧ wX11_wrong x1 x2 s1 = some (v2, s2) ∧ v = v2 := by
  unfold wX10_wrong wX11_wrong
  rcases ask_E g x1 with ⟨e, c⟩ | ⟨l, s2, x, q, hx1, e, hf, c⟩
  · rw [e, t_sbe]
    refine ⟨-1, s, -1, s, rfl, ?_, rfl⟩
    rw [c, t_sbe, qi0]
  · rw [e, t_sbe]
    dsimp only [Option.elim]
    rw [(nworlds_E q).1, t_sbe]
    rcases isW2_E q x2 with ⟨w, hw, wl, d1, d2⟩ | ⟨d1, d2⟩
    · have w5 := q.2.2.2.2.2.w.1
      obtain ⟨v, ev, hv⟩ := first_v q.1
      obtain ⟨s3, e3, f3, z3⟩ := countFalse_E q (v := v) (wit := -1) (but := -1)
      have q3 := f3.qs (by omega) (by omega) q
      have hf3 : s3.1 163 = s2.1 163 := f3.f (by omega)
      obtain ⟨r, er, rc⟩ := q3.rc
      rw [hf3] at rc
      have d3 := d2 s3 hf3
      rw [d1, t_sbe, qi0, ev, t_sbe, e3, t_sbe]
      subst hw
      rw [at_o (n := 512) rfl (by omega) (by omega), t_sbe, z3 w wl]
      refine ⟨_, s3, _, r, rfl, ?_, congrArg Int32.ofNat (fan_wrg q.f3.1 q.f3.2 hv)⟩
      rw [c s3 q3, t_sbe, qi1, d3, t_sbe, qi1, hx1, er, t_sbe, wrongIn_E rc wl, t_sbe]
    · rw [d1, t_sbe, qi1]
      refine ⟨_, _, -1, s2, rfl, ?_, rfl⟩
      rw [c s2 q, t_sbe, qi1, d2 s2 rfl, t_sbe, qi0]
theorem op_kept {x1 x2 : Int32} (g : JB s) : ∃ v s1 v2 s2, wX10_kept x1 x2 s = some (v, s1) ∧ wX11_kept x1 x2 s1 = some (v2, s2) ∧ v = v2 := by
  unfold wX10_kept wX11_kept
  rcases withKept_E g x1 x2 with ⟨s2, e, c⟩ | ⟨l, k, s2, x, ⟨q, z, t⟩, hx1, hx2, h40, e, c, m⟩
  · rw [e, t_sbe]
    refine ⟨-1, s2, -1, s2, rfl, ?_, rfl⟩
    rcases c with c | ⟨c, m⟩
    · rw [c, t_sbe, qi0]
    · rw [c, t_sbe, qi1, m, t_sbe, qi0]
  · rw [e, t_sbe]
    dsimp only [Option.elim]
    obtain ⟨⟨n, r⟩, er, en, rc, kr⟩ := keeps_E q (k := k) (by omega) (but := -1)
    dsimp only at en rc kr
    refine ⟨_, s2, n, r, rfl, ?_, t.1.trans en.symm⟩
    rw [c s2 q, t_sbe, qi1, m s2, t_sbe, qi1, hx1, hx2, er]
    rfl
end KP
