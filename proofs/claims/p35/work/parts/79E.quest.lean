/-! Questions over KEPT WORLDS: may, looks, cleared, sure. -/
theorem cnt_add {p q r : Nat → Bool} : ∀ {n : Nat}, (∀ i, i < n → (p i).toNat = (q i).toNat + (r i).toNat) → cnt p n = cnt q n + cnt r n := by
  intro n
  induction n with
  | zero => intro _; rfl
  | succ n ih =>
    intro h
    have a := ih (fun i hi => h i (by omega))
    have b := h n (by omega)
    show cnt p n + (p n).toNat = cnt q n + (q n).toNat + (cnt r n + (r n).toNat)
    omega
theorem TH.o {f : Nat → Int32} (cf : CFt f) {y z : Int32} (h : TH f y z) : ∃ kd t, y = Int32.ofNat kd ∧ z = Int32.ofNat t ∧ kd < 3 ∧ t < nk f kd ∧ t < 8 := by
  obtain ⟨h1, h2, h3⟩ := h
  have e1 := t_cln h1.1
  have e2 := t_cln h2
  have k3 : y.toNatClampNeg < 3 := by omega
  have n := cf.n k3
  have n8 := (cf _ k3).2.2
  exact ⟨y.toNatClampNeg, z.toNatClampNeg, (t_oc h1.1).symm, (t_oc h2).symm, k3, by omega, by omega⟩
/-- ints by their bits -/
theorem bit_ext {a b : Int32} (h : ∀ k, k < 32 → bit a k = bit b k) : a = b := Int32.toBitVec_inj.1 (BitVec.eq_of_getLsbD_eq (fun k hk => h k hk))
theorem bt_and {a b : Int32} {k : Nat} : bit (a &&& b) k = (bit a k && bit b k) := by
  unfold bit
  rw [Int32.toBitVec_and, BitVec.getLsbD_and]
theorem bt_not {a : Int32} {k : Nat} (h : k < 32) : bit (a ^^^ (-1)) k = !bit a k := by
  have e : ∀ k, k < 32 → bit (-1) k = true := by decide +kernel
  have e2 : bit (a ^^^ (-1)) k = (bit a k ^^ bit (-1) k) := by
    unfold bit
    rw [Int32.toBitVec_xor, BitVec.getLsbD_xor]
  rw [e2, e k h, Bool.xor_true]
theorem bt_all {n k : Nat} (hn : n ≤ 8) (hk : k < 32) : bit ((1 <<< (Int32.ofNat n &&& 31)) - 1) k = decide (k < n) := by
  have : ∀ n, n < 9 → ∀ k, k < 32 → bit ((1 <<< (Int32.ofNat n &&& 31)) - 1) k = decide (k < n) := by decide +kernel
  exact this n (by omega) k hk
section QU
variable {s : wS} {x : lC} {l : Nat} {f : Nat → Int32} {r : wS}
theorem withAny_E {k1 n kd : Nat} {P : Nat → Bool} {th : Int32} (hk : k1 = 35 ∨ k1 = 37) (t : TLY k1 f P n r) (hn : n ≤ 512) (hkd : kd < 3) (h8 : ∀ w, w < n → thn f kd w < 8) : wX7_withAny k1 (Int32.ofNat kd) th r = some (Int32.ofNat (cnt (fun w => P w && bit th (thn f kd w)) n)) := by
  unfold wX7_withAny
  have e : wX7_withAny_h5 k1 (Int32.ofNat kd) th r wFuel 0 0 = some (Int32.ofNat (cnt (fun w => P w && bit th (thn f kd w)) n)) := by
    refine loop_P (L := fun n (p : Int32 × Int32) => wX7_withAny_h5 k1 (Int32.ofNat kd) th r n p.1 p.2) (N := 8) (I := fun j p => p.1 = Int32.ofNat (cnt (fun w => P w && (bit th (thn f kd w) && decide (thn f kd w < j))) n) ∧ p.2 = Int32.ofNat j) (x := (0, 0)) (by omega) ⟨?_, rfl⟩ (fun m j p hj hI => ?_) (fun m p hI => ?_)
    · rw [cnt_0 (fun w _ => by rw [decide_eq_false (Nat.not_lt_zero _), Bool.and_false, Bool.and_false])]
      rfl
    · obtain ⟨a, b⟩ := p
      obtain ⟨ea, eb⟩ := hI
      dsimp only at ea eb ⊢
      subst ea eb
      have two : ∀ w, decide (thn f kd w < j + 1) = (decide (thn f kd w < j) || decide (thn f kd w = j)) := fun w => by
        rw [← Bool.decide_or]
        exact decide_eq_decide.2 (by omega)
      rw [wX7_withAny_h5, if_pos (show Int32.ofNat j < 8 from (o_lt (a := j) (b := 8) (by omega) (by omega)).2 hj)]
      unfold wX7_withAny_j32
      by_cases c : bit th j = true
      · rw [if_pos ((bt_t (by omega)).2 c), t.wi hk hkd hj, t_sbe, o_add, o_1]
        refine ⟨(_, _), rfl, congrArg Int32.ofNat (cnt_add (fun w hw => ?_)).symm, rfl⟩
        rw [two w]
        by_cases d : thn f kd w = j
        · rw [d, c, decide_eq_true rfl, decide_eq_false (Nat.lt_irrefl _)]
          cases P w <;> rfl
        · rw [decide_eq_false d]
          cases P w <;> cases bit th (thn f kd w) <;> cases decide (thn f kd w < j) <;> rfl
      · rw [if_neg (fun h => c ((bt_t (by omega)).1 h)), o_1]
        refine ⟨(_, _), rfl, congrArg Int32.ofNat (cnt_cg (fun w hw => ?_)), rfl⟩
        rw [two w]
        by_cases d : thn f kd w = j
        · rw [d, Bool.eq_false_iff.2 c]
          rfl
        · rw [decide_eq_false d, Bool.or_false]
    · obtain ⟨a, b⟩ := p
      obtain ⟨ea, eb⟩ := hI
      dsimp only at ea eb ⊢
      subst ea eb
      rw [wX7_withAny_h5, if_neg (by decide)]
      exact congrArg some (congrArg Int32.ofNat (cnt_cg (fun w hw => by rw [decide_eq_true (h8 w hw), Bool.and_true])))
  rw [e, t_sbe]
theorem keptWith_E (c : RCH x f r) {K : Nat → Bool} (kr : KWR f K r (nW f)) {kd t : Nat} (hk : kd < 3) (ht : t < 100) : wX11_keptWith (Int32.ofNat kd) (Int32.ofNat t) r = some (Int32.ofNat (cnt (fun w => K w && decide (thn f kd w = t)) (nW f))) := by
  have w5 := c.2.1.w.1
  have n8 := (c.2.1 kd hk).2.2
  unfold wX11_keptWith
  have e : wX11_keptWith_h5 (Int32.ofNat kd) (Int32.ofNat t) r wFuel 0 0 = some (Int32.ofNat (cnt (fun w => K w && decide (thn f kd w = t)) (nW f))) := by
    refine loop_P (L := fun n (p : Int32 × Int32) => wX11_keptWith_h5 (Int32.ofNat kd) (Int32.ofNat t) r n p.1 p.2) (N := nW f) (I := fun w p => p.1 = Int32.ofNat (cnt (fun w => K w && decide (thn f kd w = t)) w) ∧ p.2 = Int32.ofNat w) (x := (0, 0)) (by omega) ⟨rfl, rfl⟩ (fun n w p hw hI => ?_) (fun n p hI => ?_)
    · obtain ⟨a, b⟩ := p
      obtain ⟨ea, eb⟩ := hI
      dsimp only at ea eb ⊢
      subst ea eb
      have tl := thn_lt c.2.1 hk hw
      rw [wX11_keptWith_h5, c.nw, t_sbe, if_pos ((o_lt (by omega) (by omega)).2 hw), ldI_o (by omega) (by omega), t_sbe, kr w hw]
      unfold wX11_keptWith_j40 wX11_keptWith_j41
      cases kk : K w
      · rw [b_f, qi0, o_z, o_1]
        exact ⟨(_, _), rfl, congrArg Int32.ofNat (cnt_f (n := w) (by rw [kk, Bool.false_and])).symm, rfl⟩
      · rw [if_pos rfl, qi1, thingOf_E c.1 c.2.1 hk hw, t_sbe]
        by_cases d : thn f kd w = t
        · rw [if_pos (by rw [d]), o_1, o_1]
          exact ⟨(_, _), rfl, congrArg Int32.ofNat (cnt_t (n := w) (by rw [kk, decide_eq_true d]; rfl)).symm, rfl⟩
        · rw [if_neg (fun h => d ((o_eq (by omega) (by omega)).1 h)), o_z, o_1]
          exact ⟨(_, _), rfl, congrArg Int32.ofNat (cnt_f (n := w) (by rw [kk, decide_eq_false d]; rfl)).symm, rfl⟩
    · obtain ⟨a, b⟩ := p
      obtain ⟨ea, eb⟩ := hI
      dsimp only at ea eb ⊢
      subst ea eb
      rw [wX11_keptWith_h5, c.nw, t_sbe, if_neg (fun c => by have := (o_lt (by omega) (by omega)).1 c; omega)]
  rw [e, t_sbe]
theorem op_may {x1 x2 x3 x4 : Int32} (g : JB s) : ∃ v s1 v2 s2, wX10_may x1 x2 x3 x4 s = some (v, s1) ∧ wX11_may x1 x2 x3 x4 s1 = some (v2, s2) ∧ v = v2 := by
  unfold wX10_may wX11_may
  rcases withKept_E g x1 x2 with ⟨s2, e, c⟩ | ⟨l, k, s2, x, ⟨q, z, t⟩, hx1, hx2, h40, e, c, m⟩
  · rw [e, t_sbe]
    refine ⟨-1, s2, -1, s2, rfl, ?_, rfl⟩
    rcases c with c | ⟨c, m⟩
    · rw [c, t_sbe, qi0]
    · rw [c, t_sbe, qi1, m, t_sbe, qi0]
  · rw [e, t_sbe]
    dsimp only [Option.elim]
    rcases has_E q.1 x3 x4 with ⟨th, a1, a2⟩ | ⟨-, a1, a2⟩
    · obtain ⟨kd, u, h3, h4, k3, u1, u8⟩ := th.o q.2.2.2.2.2
      obtain ⟨⟨n, r⟩, er, en, rc, kr⟩ := keeps_E q (k := k) (by omega) (but := -1)
      dsimp only at en rc kr
      rw [a1, t_sbe, qi1]
      subst h3 h4
      rw [t.wi (Or.inl rfl) k3 u8, t_sbe]
      refine ⟨_, s2, _, r, rfl, ?_, rfl⟩
      rw [c s2 q, t_sbe, qi1, m s2, t_sbe, qi1, a2, t_sbe, qi1, hx1, hx2, er, t_sbe]
      dsimp only
      rw [keptWith_E rc kr k3 (by omega), t_sbe]
    · rw [a1, t_sbe, qi0]
      refine ⟨_, _, -1, s2, rfl, ?_, rfl⟩
      rw [c s2 q, t_sbe, qi1, m s2, t_sbe, qi1, a2, t_sbe, qi0]
theorem op_looks {x1 x2 x3 : Int32} (g : JB s) : ∃ v s1 v2 s2, wX10_looks x1 x2 x3 s = some (v, s1) ∧ wX11_looks x1 x2 x3 s1 = some (v2, s2) ∧ v = v2 := by
  unfold wX10_looks wX11_looks
  rcases withKept_E g x1 x2 with ⟨s2, e, c⟩ | ⟨l, k, s2, x, ⟨q, z, t⟩, hx1, hx2, h40, e, c, m⟩
  · rw [e, t_sbe]
    refine ⟨-1, s2, -1, s2, rfl, ?_, rfl⟩
    rcases c with c | ⟨c, m⟩
    · rw [c, t_sbe, qi0]
    · rw [c, t_sbe, qi1, m, t_sbe, qi0]
  · rw [e, t_sbe]
    dsimp only [Option.elim]
    rcases hasAns_E q.1 x3 with ⟨a, xa, ha, b1, b2⟩ | ⟨-, b1, b2⟩
    · have cf := q.2.2.2.2.2
      have w5 := cf.w.1
      have c40 := q.f3
      have hx3 : x3 = Int32.ofNat a := Int32.toInt_inj.1 (by rw [xa, t_on (by omega)])
      obtain ⟨⟨n, r⟩, er, en, rc, kr⟩ := keeps_E q (k := k) (by omega) (but := -1)
      dsimp only at en rc kr
      obtain ⟨k3, o1, o2, ek, -⟩ := q.1.af a ha
      have n8 := (cf _ k3).2.2
      have an : a < nk (s2.1 163) 3 := by
        have := t_cln c40.1
        have e2 : nk (s2.1 163) 3 = (s2.1 163 3).toNatClampNeg := rfl
        omega
      rw [b1, t_sbe, qi1, (ans_E q.1 ha xa).2.1, t_sbe, hx3, nearThings_E q.1 q.2.1 q.2.2.2.2.1 cf ha, t_sbe, ek, withAny_E (Or.inl rfl) t w5 k3 (fun w hw => by have := thn_lt cf k3 hw; omega), t_sbe, t.1, o_sub (cnt_mono (fun w hw p => by rw [Bool.and_eq_true] at p; exact p.1))]
      rw [hx3] at b2
      have lo : wX11_looks_h39 (Int32.ofNat a) r wFuel 0 0 = some (Int32.ofNat (cnt (fun w => kpt x (s2.1 163) (-1) k w && !trw x (s2.1 163) a w) (nW (s2.1 163)))) := by
        refine loop_P (L := fun n (p : Int32 × Int32) => wX11_looks_h39 (Int32.ofNat a) r n p.1 p.2) (N := nW (s2.1 163)) (I := fun w p => p.1 = Int32.ofNat (cnt (fun w => kpt x (s2.1 163) (-1) k w && !trw x (s2.1 163) a w) w) ∧ p.2 = Int32.ofNat w) (x := (0, 0)) (by omega) ⟨rfl, rfl⟩ (fun n w p hw hI => ?_) (fun n p hI => ?_)
        · obtain ⟨u, v⟩ := p
          obtain ⟨ea, eb⟩ := hI
          dsimp only at ea eb ⊢
          subst ea eb
          rw [wX11_looks_h39, rc.nw, t_sbe, if_pos ((o_lt (by omega) (by omega)).2 hw), ldI_o (by omega) (by omega), t_sbe, kr w hw]
          unfold wX11_looks_j74 wX11_looks_j75
          cases kk : kpt x (s2.1 163) (-1) k w
          · rw [b_f, qi0, o_z, o_1]
            exact ⟨(_, _), rfl, congrArg Int32.ofNat (cnt_f (n := w) (by rw [kk, Bool.false_and])).symm, rfl⟩
          · rw [if_pos rfl, qi1, rc.tr an hw, t_sbe]
            cases tr : trw x (s2.1 163) a w
            · rw [b_f, qi0, o_1, o_1]
              exact ⟨(_, _), rfl, congrArg Int32.ofNat (cnt_t (n := w) (by rw [kk, tr]; rfl)).symm, rfl⟩
            · rw [if_pos rfl, qi1, o_z, o_1]
              exact ⟨(_, _), rfl, congrArg Int32.ofNat (cnt_f (n := w) (by rw [kk, tr]; rfl)).symm, rfl⟩
        · obtain ⟨u, v⟩ := p
          obtain ⟨ea, eb⟩ := hI
          dsimp only at ea eb ⊢
          subst ea eb
          rw [wX11_looks_h39, rc.nw, t_sbe, if_neg (fun c => by have := (o_lt (by omega) (by omega)).1 c; omega)]
      refine ⟨_, s2, Int32.ofNat (cnt (fun w => kpt x (s2.1 163) (-1) k w && !trw x (s2.1 163) a w) (nW (s2.1 163))), r, rfl, ?_, congrArg Int32.ofNat ?_⟩
      · rw [c s2 q, t_sbe, qi1, m s2, t_sbe, qi1, b2, t_sbe, qi1, hx1, hx2, er, t_sbe]
        dsimp only
        rw [lo, t_sbe]
      · have := cnt_add (p := kpt x (s2.1 163) (-1) k) (q := fun w => kpt x (s2.1 163) (-1) k w && bit (nb2 (FVx x (s2.1 163) (Int32.ofNat (akd (s2.1 163) a))) (aone (s2.1 163) a) (aoth (s2.1 163) a) (nk (s2.1 163) (akd (s2.1 163) a))) (thn (s2.1 163) (akd (s2.1 163) a) w)) (r := fun w => kpt x (s2.1 163) (-1) k w && !trw x (s2.1 163) a w) (n := nW (s2.1 163)) (fun w hw => by
          rw [near_bt q ha (thn_lt cf k3 hw), trw_a]
          cases kpt x (s2.1 163) (-1) k w <;> cases tra x (s2.1 163) a (thn (s2.1 163) (akd (s2.1 163) a) w) <;> rfl)
        omega
    · rw [b1, t_sbe, qi0]
      refine ⟨_, _, -1, s2, rfl, ?_, rfl⟩
      rw [c s2 q, t_sbe, qi1, m s2, t_sbe, qi1, b2, t_sbe, qi0]
/-- the things that some WORLD has -/
theorem thingsOf_E {k1 n kd : Nat} {P : Nat → Bool} (hk : k1 = 35 ∨ k1 = 37) (t : TLY k1 f P n r) (hn : n ≤ 512) (hkd : kd < 3) : Tot (wX7_thingsOf k1 (Int32.ofNat kd) r) (fun v => ∀ b, b < 32 → bit v b = (decide (b < 8) && decide (0 < cnt (fun w => P w && decide (thn f kd w = b)) n))) := by
  unfold wX7_thingsOf
  refine t_bind (P := fun v => ∀ b, b < 32 → bit v b = (decide (b < 8) && decide (0 < cnt (fun w => P w && decide (thn f kd w = b)) n))) ?_ (fun r h => t_some h)
  refine loop_N (L := fun n (p : Int32 × Int32) => wX7_thingsOf_h4 k1 (Int32.ofNat kd) r n p.1 p.2) (N := 8) (I := fun j p => (∀ b, b < 32 → bit p.1 b = (decide (b < j) && decide (0 < cnt (fun w => P w && decide (thn f kd w = b)) n))) ∧ p.2 = Int32.ofNat j) (x := (0, 0)) (by omega) ⟨fun b _ => ?_, rfl⟩ (fun m j p hj hI => ?_) (fun m p hI => ?_)
  · rw [decide_eq_false (Nat.not_lt_zero _), Bool.false_and]
    exact bt_0
  · obtain ⟨a, b⟩ := p
    obtain ⟨ea, eb⟩ := hI
    dsimp only at ea eb ⊢
    subst eb
    have cn := cnt_le (p := fun w => P w && decide (thn f kd w = j)) n
    rw [wX7_thingsOf_h4, if_pos (show Int32.ofNat j < 8 from (o_lt (a := j) (b := 8) (by omega) (by omega)).2 hj), t.wi hk hkd hj, t_sbe]
    unfold wX7_thingsOf_j25
    by_cases c : 0 < cnt (fun w => P w && decide (thn f kd w = j)) n
    · rw [if_pos (show (0 : Int32) < Int32.ofNat _ from (o_lt (a := 0) (by omega) (by omega)).2 c), o_1]
      refine ⟨(_, _), rfl, fun b hb => ?_, rfl⟩
      show bit (a ||| (1 <<< (Int32.ofNat j &&& 31))) b = _
      rw [bt_or, ea b hb, bt_1 (by omega) hb]
      by_cases d : b = j
      · rw [d, decide_eq_true c, decide_eq_true rfl, decide_eq_true (Nat.lt_succ_self j), Bool.or_true]
        rfl
      · rw [decide_eq_false d, Bool.or_false, decide_eq_decide.2 (show b < j ↔ b < j + 1 by omega)]
    · rw [if_neg (show ¬ (0 : Int32) < Int32.ofNat _ from fun h => c ((o_lt (a := 0) (by omega) (by omega)).1 h)), o_1]
      refine ⟨(_, _), rfl, fun b hb => ?_, rfl⟩
      show bit a b = _
      rw [ea b hb]
      by_cases d : b = j
      · rw [d, decide_eq_false c, Bool.and_false, Bool.and_false]
      · rw [decide_eq_decide.2 (show b < j ↔ b < j + 1 by omega)]
  · obtain ⟨a, b⟩ := p
    obtain ⟨ea, eb⟩ := hI
    dsimp only at ea eb ⊢
    subst eb
    rw [wX7_thingsOf_h4, if_neg (by decide)]
    exact t_some ea
theorem op_cleared {x1 x2 : Int32} (g : JB s) : ∃ v s1 v2 s2, wX10_cleared x1 x2 s = some (v, s1) ∧ wX11_cleared x1 x2 s1 = some (v2, s2) ∧ v = v2 := by
  unfold wX10_cleared wX11_cleared
  rcases withKept_E g x1 x2 with ⟨s2, e, c⟩ | ⟨l, k, s2, x, ⟨q, z, t⟩, hx1, hx2, h40, e, c, m⟩
  · rw [e, t_sbe]
    refine ⟨-1, s2, -1, s2, rfl, ?_, rfl⟩
    rcases c with c | ⟨c, m⟩
    · rw [c, t_sbe, qi0]
    · rw [c, t_sbe, qi1, m, t_sbe, qi0]
  · rw [e, t_sbe]
    dsimp only [Option.elim]
    have cf := q.2.2.2.2.2
    have w5 := cf.w.1
    have n8 := (cf 2 (by decide)).2.2
    obtain ⟨⟨n, r⟩, er, en, rc, kr⟩ := keeps_E q (k := k) (by omega) (but := -1)
    dsimp only at en rc kr
    obtain ⟨tv, et, bt⟩ := thingsOf_E (Or.inl rfl) t w5 (show 2 < 3 by decide)
    have et : wX7_thingsOf 35 2 s2 = some tv := et
    have mb : wX0_bitsOf 15 2 s2 = some ((1 <<< (Int32.ofNat (nk (s2.1 163) 2) &&& 31)) - 1) := by
      unfold wX0_bitsOf
      rw [many_r2 q rfl, t_sbe]
    have lo : Tot (wX11_cleared_h30 r wFuel 0 0) (fun v => ∀ b, b < 32 → bit v b = (decide (b < nk (s2.1 163) 2) && decide (cnt (fun w => kpt x (s2.1 163) (-1) k w && decide (thn (s2.1 163) 2 w = b)) (nW (s2.1 163)) = 0))) := by
      refine loop_N (L := fun n (p : Int32 × Int32) => wX11_cleared_h30 r n p.1 p.2) (N := nk (s2.1 163) 2) (I := fun j p => (∀ b, b < 32 → bit p.1 b = (decide (b < j) && decide (cnt (fun w => kpt x (s2.1 163) (-1) k w && decide (thn (s2.1 163) 2 w = b)) (nW (s2.1 163)) = 0))) ∧ p.2 = Int32.ofNat j) (x := (0, 0)) (by omega) ⟨fun b _ => ?_, rfl⟩ (fun n j p hj hI => ?_) (fun n p hI => ?_)
      · rw [decide_eq_false (Nat.not_lt_zero _), Bool.false_and]
        exact bt_0
      · obtain ⟨a, b⟩ := p
        obtain ⟨ea, eb⟩ := hI
        dsimp only at ea eb ⊢
        subst eb
        have cn := cnt_le (p := fun w => kpt x (s2.1 163) (-1) k w && decide (thn (s2.1 163) 2 w = j)) (nW (s2.1 163))
        have kw : wX11_keptWith 2 (Int32.ofNat j) r = _ := keptWith_E rc kr (show 2 < 3 by decide) (show j < 100 by omega)
        rw [wX11_cleared_h30, rc.1, (cf 2 (by decide)).1, if_pos ((o_lt (by omega) (by omega)).2 hj), kw, t_sbe]
        unfold wX11_cleared_j60
        by_cases d : cnt (fun w => kpt x (s2.1 163) (-1) k w && decide (thn (s2.1 163) 2 w = j)) (nW (s2.1 163)) = 0
        · rw [if_pos (by rw [d]; rfl), o_1]
          refine ⟨(_, _), rfl, fun b hb => ?_, rfl⟩
          show bit (a ||| (1 <<< (Int32.ofNat j &&& 31))) b = _
          rw [bt_or, ea b hb, bt_1 (by omega) hb]
          by_cases u : b = j
          · rw [u, decide_eq_true d, decide_eq_true rfl, decide_eq_true (Nat.lt_succ_self j), Bool.or_true]
            rfl
          · rw [decide_eq_false u, Bool.or_false, decide_eq_decide.2 (show b < j ↔ b < j + 1 by omega)]
        · rw [if_neg (show ¬ Int32.ofNat _ = 0 from fun h => d ((o_eq (b := 0) (by omega) (by omega)).1 h)), o_1]
          refine ⟨(_, _), rfl, fun b hb => ?_, rfl⟩
          show bit (a ||| 0) b = _
          rw [bt_or, bt_0, Bool.or_false, ea b hb]
          by_cases u : b = j
          · rw [u, decide_eq_false d, Bool.and_false, Bool.and_false]
          · rw [decide_eq_decide.2 (show b < j ↔ b < j + 1 by omega)]
      · obtain ⟨a, b⟩ := p
        obtain ⟨ea, eb⟩ := hI
        dsimp only at ea eb ⊢
        subst eb
        rw [wX11_cleared_h30, rc.1, (cf 2 (by decide)).1, if_neg (fun c => by have := (o_lt (by omega) (by omega)).1 c; omega)]
        exact t_some ea
    obtain ⟨rv, el, bl⟩ := lo
    rw [mb, t_sbe, et, t_sbe]
    refine ⟨_, s2, rv, r, rfl, ?_, bit_ext (fun b hb => ?_)⟩
    · rw [c s2 q, t_sbe, qi1, m s2, t_sbe, qi1, hx1, hx2, er, t_sbe]
      dsimp only
      rw [el, t_sbe]
    · rw [bt_and, bt_all n8 hb, bt_not hb, bt b hb, bl b hb]
      by_cases u : b < nk (s2.1 163) 2
      · rw [decide_eq_true u, decide_eq_true (show b < 8 by omega), Bool.true_and, Bool.true_and, Bool.true_and]
        by_cases d : cnt (fun w => kpt x (s2.1 163) (-1) k w && decide (thn (s2.1 163) 2 w = b)) (nW (s2.1 163)) = 0
        · rw [decide_eq_true d, d]
          rfl
        · rw [decide_eq_false d, decide_eq_true (by omega)]
          rfl
      · rw [decide_eq_false u, Bool.false_and, Bool.false_and]
/-- the bits of few -/
theorem low8 {v : Int32} (h : ∀ b, 8 ≤ b → b < 32 → bit v b = false) : ∃ n, n < 256 ∧ v = Int32.ofNat n := by
  have e : v.toBitVec.toNat < 2 ^ 8 := Nat.lt_pow_two_of_testBit _ (fun i hi => by
    by_cases c : i < 32
    · exact h i hi c
    · exact BitVec.getLsbD_of_ge v.toBitVec i (by omega))
  exact ⟨v.toBitVec.toNat, e, Int32.toBitVec_inj.1 (BitVec.eq_of_toNat_eq (by
    rw [Int32.toBitVec_ofNat', BitVec.toNat_ofNat, Nat.mod_eq_of_lt (by omega)]))⟩
/-- how many bits; the least one -/
noncomputable def wZ : wS := (fun _ _ => 0, fun _ _ => 0)
noncomputable def bc (y : Int32) : Int32 := (wJ6_bitCount_0f7a4 y wZ).getD 0
theorem bc_E {y : Int32} : wJ6_bitCount_0f7a4 y s = some (bc y) := rfl
theorem ntz_E {y : Int32} : wJ6_numberOfTrailingZeros_0f7a4 y s = wJ6_numberOfTrailingZeros_0f7a4 y wZ := rfl
theorem one_8 : ∀ n, n < 256 → (bc (Int32.ofNat n) = 1 → ∃ t, t < 8 ∧ n = 2 ^ t) := by decide +kernel
theorem one_8t : ∀ t, t < 8 → bc (Int32.ofNat (2 ^ t)) = 1 ∧ wJ6_numberOfTrailingZeros_0f7a4 (Int32.ofNat (2 ^ t)) wZ = some (Int32.ofNat t) := by decide +kernel
theorem bt_2 : ∀ t, t < 8 → ∀ b, b < 32 → bit (Int32.ofNat (2 ^ t)) b = decide (b = t) := by decide +kernel
theorem op_sure {x1 x2 x3 : Int32} (g : JB s) : ∃ v s1 v2 s2, wX10_sure x1 x2 x3 s = some (v, s1) ∧ wX11_sure x1 x2 x3 s1 = some (v2, s2) ∧ v = v2 := by
  unfold wX10_sure wX11_sure
  rcases withKept_E g x1 x2 with ⟨s2, e, c⟩ | ⟨l, k, s2, x, ⟨q, z, t⟩, hx1, hx2, h40, e, c, m⟩
  · rw [e, t_sbe]
    refine ⟨-1, s2, -1, s2, rfl, ?_, rfl⟩
    rcases c with c | ⟨c, m⟩
    · rw [c, t_sbe, qi0]
    · rw [c, t_sbe, qi1, m, t_sbe, qi0]
  · rw [e, t_sbe]
    dsimp only [Option.elim]
    have cf := q.2.2.2.2.2
    have w5 := cf.w.1
    have n0 := cf.n (kd := 0) (by decide)
    have n01 := (cf 0 (by decide)).2.1
    have kd_E : wX11_isKind x3 s2 = some (if 0 ≤ x3.toInt ∧ x3.toInt ≤ 2 then 1 else 0) := by
      unfold wX11_isKind
      rw [isCourt_E, if_pos (by omega), t_sbe, qi1, in64_E (A := 0) (B := 2) rfl rfl, t_sbe]
      by_cases d : 0 ≤ x3.toInt ∧ x3.toInt ≤ 2
      · rw [if_pos d, qi1]
      · rw [if_neg d, qi0]
    have e3 : (3 : Int32).toInt = 3 := rfl
    rw [isOutside_E]
    by_cases d : 0 ≤ x3.toInt ∧ x3.toInt ≤ 2
    · obtain ⟨hk, k3⟩ := kd_ofNat d
      generalize x3.toNatClampNeg = kd at hk k3
      subst hk
      have n8 := (cf kd k3).2.2
      obtain ⟨⟨n, r⟩, er, en, rc, kr⟩ := keeps_E q (k := k) (by omega) (but := -1)
      dsimp only at en rc kr
      obtain ⟨tv, et, bt⟩ := thingsOf_E (Or.inl rfl) t w5 k3
      have N5 := cnt_le (p := kpt x (s2.1 163) (-1) k) (nW (s2.1 163))
      -- of the KIND's things, and of the others of KEPT WORLDS
      have part : ∀ u, cnt (kpt x (s2.1 163) (-1) k) (nW (s2.1 163)) = cnt (fun w => kpt x (s2.1 163) (-1) k w && decide (thn (s2.1 163) kd w = u)) (nW (s2.1 163)) + cnt (fun w => kpt x (s2.1 163) (-1) k w && !decide (thn (s2.1 163) kd w = u)) (nW (s2.1 163)) := fun u => cnt_add (fun w _ => by
        cases kpt x (s2.1 163) (-1) k w <;> cases decide (thn (s2.1 163) kd w = u) <;> rfl)
      have guard : wX10_isOutside (Int32.ofNat kd) 3 s2 = some 0 := by
        rw [isOutside_E, if_pos ⟨d.1, by omega⟩]
      rw [if_pos ⟨d.1, by omega⟩, t_sbe, qi0, et, t_sbe, bc_E, t_sbe]
      have ref : ∀ R, wX11_sure_h37 (Int32.ofNat kd) n r wFuel 0 = some R → (wX11_canAsk x1 s2).bind (fun t1 => if t1 = 0 then (some ((-1), s2)) else ((wX11_isMany x2 s2).bind fun t4 => if t4 = 0 then (some ((-1), s2)) else ((wX11_isKind (Int32.ofNat kd) s2).bind fun t7 => if t7 = 0 then (some ((-1), s2)) else ((wX11_keeps x1 x2 (-1) s2).bind fun (t10, s11) => (wX11_sure_h37 (Int32.ofNat kd) t10 s11 wFuel 0).bind fun z19 => (match z19 with | .inl () => some (((Int8.ofInt (-2)).toInt32), s11) | .inr t25 => some (t25, s11)))))) = (match R with | .inl () => some (((Int8.ofInt (-2)).toInt32), r) | .inr t25 => some (t25, r)) := fun R hR => by
        rw [c s2 q, t_sbe, qi1, m s2, t_sbe, qi1, kd_E, if_pos d, t_sbe, qi1, hx1, hx2, er, t_sbe]
        dsimp only
        rw [hR, t_sbe]
      have turn : ∀ n' i, i < nk (s2.1 163) kd → ¬ cnt (fun w => kpt x (s2.1 163) (-1) k w && decide (thn (s2.1 163) kd w = i)) (nW (s2.1 163)) = cnt (kpt x (s2.1 163) (-1) k) (nW (s2.1 163)) → 0 < cnt (kpt x (s2.1 163) (-1) k) (nW (s2.1 163)) → wX11_sure_h37 (Int32.ofNat kd) n r (n' + 1) (Int32.ofNat i) = wX11_sure_h37 (Int32.ofNat kd) n r n' (Int32.ofNat (i + 1)) := fun n' i hi hne hp => by
        have cn := cnt_le (p := fun w => kpt x (s2.1 163) (-1) k w && decide (thn (s2.1 163) kd w = i)) (nW (s2.1 163))
        rw [wX11_sure_h37, ldI_o (by omega) (by omega), t_sbe, rc.1, (cf kd k3).1, if_pos ((o_lt (by omega) (by omega)).2 hi), en, if_pos (show (0 : Int32) < Int32.ofNat _ from (o_lt (a := 0) (by omega) (by omega)).2 hp), keptWith_E rc kr k3 (by omega), t_sbe, if_neg (fun h => hne ((o_eq (by omega) (by omega)).1 h)), o_1]
      by_cases U : ∃ u, u < nk (s2.1 163) kd ∧ 0 < cnt (kpt x (s2.1 163) (-1) k) (nW (s2.1 163)) ∧ cnt (fun w => kpt x (s2.1 163) (-1) k w && decide (thn (s2.1 163) kd w = u)) (nW (s2.1 163)) = cnt (kpt x (s2.1 163) (-1) k) (nW (s2.1 163))
      · obtain ⟨u, hu, hp, hc⟩ := U
        have pu := part u
        have no : ∀ b, ¬ b = u → cnt (fun w => kpt x (s2.1 163) (-1) k w && decide (thn (s2.1 163) kd w = b)) (nW (s2.1 163)) = 0 := fun b hb => by
          have := cnt_mono (p := fun w => kpt x (s2.1 163) (-1) k w && decide (thn (s2.1 163) kd w = b)) (q := fun w => kpt x (s2.1 163) (-1) k w && !decide (thn (s2.1 163) kd w = u)) (n := nW (s2.1 163)) (fun w _ h => by
            rw [Bool.and_eq_true] at h ⊢
            refine ⟨h.1, ?_⟩
            rw [decide_eq_false (fun e => hb ((of_decide_eq_true h.2).symm.trans e))]
            rfl)
          omega
        have hv : tv = Int32.ofNat (2 ^ u) := bit_ext (fun b hb => by
          rw [bt b hb, bt_2 u (by omega) b hb]
          by_cases e : b = u
          · rw [e, decide_eq_true (show u < 8 by omega), decide_eq_true (by omega), decide_eq_true rfl]
            rfl
          · rw [decide_eq_false e, no b e, decide_eq_false (Nat.lt_irrefl 0), Bool.and_false])
        obtain ⟨b1, b2⟩ := one_8t u (by omega)
        have lo : wX11_sure_h37 (Int32.ofNat kd) n r wFuel 0 = some (.inr (Int32.ofNat u)) := by
          refine loop_P (L := fun n' (p : Int32) => wX11_sure_h37 (Int32.ofNat kd) n r n' p) (N := u) (I := fun i p => p = Int32.ofNat i) (x := 0) (by omega) rfl (fun n' i p hi hI => ?_) (fun n' p hI => ?_)
          · subst hI
            refine ⟨_, turn n' i (by omega) ?_ hp, rfl⟩
            rw [no i (by omega)]
            omega
          · subst hI
            have cn := cnt_le (p := fun w => kpt x (s2.1 163) (-1) k w && decide (thn (s2.1 163) kd w = u)) (nW (s2.1 163))
            show wX11_sure_h37 (Int32.ofNat kd) n r (n' + 1) (Int32.ofNat u) = _
            rw [wX11_sure_h37, ldI_o (by omega) (by omega), t_sbe, rc.1, (cf kd k3).1, if_pos ((o_lt (by omega) (by omega)).2 hu), en, if_pos (show (0 : Int32) < Int32.ofNat _ from (o_lt (a := 0) (by omega) (by omega)).2 hp), keptWith_E rc kr k3 (by omega), t_sbe, if_pos (by rw [hc])]
        rw [hv, if_pos b1, ntz_E, b2, t_sbe]
        exact ⟨_, s2, _, r, rfl, ref _ lo, rfl⟩
      · have lo : wX11_sure_h37 (Int32.ofNat kd) n r wFuel 0 = some (.inl ()) := by
          refine tot_eq (loop_T (L := fun n' (p : Int32) => wX11_sure_h37 (Int32.ofNat kd) n r n' p) (N := nk (s2.1 163) kd) (I := fun i p => p = Int32.ofNat i) (Q := fun v => v = .inl ()) (fun n' i p hi hI => ?_) (fun n' p hI => ?_) wFuel 0 0 (Nat.zero_le _) rfl (wF_b (by omega)))
          · subst hI
            by_cases hp : 0 < cnt (kpt x (s2.1 163) (-1) k) (nW (s2.1 163))
            · exact Or.inl ⟨_, turn n' i hi (fun h => U ⟨i, hi, hp, h⟩) hp, rfl⟩
            · right
              show Tot (wX11_sure_h37 (Int32.ofNat kd) n r (n' + 1) (Int32.ofNat i)) _
              rw [wX11_sure_h37, ldI_o (by omega) (by omega), t_sbe, rc.1, (cf kd k3).1, if_pos ((o_lt (by omega) (by omega)).2 hi), en, if_neg (show ¬ (0 : Int32) < Int32.ofNat _ from fun h => hp ((o_lt (a := 0) (by omega) (by omega)).1 h))]
              exact t_some rfl
          · subst hI
            show Tot (wX11_sure_h37 (Int32.ofNat kd) n r (n' + 1) (Int32.ofNat (nk (s2.1 163) kd))) _
            rw [wX11_sure_h37, ldI_o (by omega) (by omega), t_sbe, rc.1, (cf kd k3).1, if_neg (fun c => by have := (o_lt (by omega) (by omega)).1 c; omega)]
            exact t_some rfl
        have nb1 : ¬ bc tv = 1 := fun h1 => by
          obtain ⟨N, hN, hv⟩ := low8 (v := tv) (fun b h8 hb => by rw [bt b hb, decide_eq_false (by omega), Bool.false_and])
          subst hv
          obtain ⟨u, hu, h2⟩ := one_8 N hN h1
          subst h2
          have b0 : ∀ b, b < 8 → (0 < cnt (fun w => kpt x (s2.1 163) (-1) k w && decide (thn (s2.1 163) kd w = b)) (nW (s2.1 163)) ↔ b = u) := fun b hb => by
            have a1 := bt b (by omega)
            rw [bt_2 u hu b (by omega), decide_eq_true hb, Bool.true_and] at a1
            exact (decide_eq_decide.1 a1).symm
          have pu := (b0 u hu).2 rfl
          obtain ⟨w, hw, hK⟩ := cnt_pos pu
          rw [Bool.and_eq_true] at hK
          have hwu := of_decide_eq_true hK.2
          have ul := thn_lt cf k3 hw
          refine U ⟨u, by omega, cnt_some hw hK.1, cnt_cg (fun v hv => ?_)⟩
          cases kv : kpt x (s2.1 163) (-1) k v
          · rfl
          · have vl := thn_lt cf k3 hv
            have := (b0 (thn (s2.1 163) kd v) (by omega)).1 (cnt_some hv (by rw [kv, decide_eq_true rfl]; rfl))
            rw [this, decide_eq_true rfl]
            rfl
        rw [if_neg nb1]
        exact ⟨_, s2, _, r, rfl, ref _ lo, rfl⟩
    · rw [if_neg (by omega), t_sbe, qi1]
      refine ⟨_, _, -1, s2, rfl, ?_, rfl⟩
      rw [c s2 q, t_sbe, qi1, m s2, t_sbe, qi1, kd_E, if_neg d, t_sbe, qi0]
end QU
