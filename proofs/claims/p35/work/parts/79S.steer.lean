/-! steered. -/
section ST
variable {s : wS} {x : lC} {l : Nat} {f : Nat → Int32} {r : wS}
/-- LEFT, as a WORLD answers -/
noncomputable def lfw (x : lC) (f : Nat → Int32) (P : Nat → Bool) (W : Nat) (t : Nat × Nat × Nat) : Nat := if nrb x f t.1 t.2.1 t.2.2 W = true then lf1 x f P t else lf2 x f P t
theorem lfw_le {P : Nat → Bool} {W : Nat} {t : Nat × Nat × Nat} : lfw x f P W t ≤ nW f := by
  obtain ⟨b1, b2⟩ := lf_le (x := x) (f := f) (P := P) (t := t)
  unfold lfw
  split <;> omega
/-- the one that steers, of the first so many -/
noncomputable def stp (A B : Nat → Nat) : Nat → Option (Nat × Nat × Nat)
  | 0 => none
  | i + 1 => if B i = 0 then stp A B i else match stp A B i with
    | none => some (i, A i, B i)
    | some u => if u.2.1 * B i < A i * u.2.2 then some (i, A i, B i) else some u
theorem stp_0 {A B : Nat → Nat} {i : Nat} (h : B i = 0) : stp A B (i + 1) = stp A B i := if_pos h
theorem stp_n {A B : Nat → Nat} {i : Nat} (h : ¬ B i = 0) (e : stp A B i = none) : stp A B (i + 1) = some (i, A i, B i) := by
  show (if B i = 0 then stp A B i else match stp A B i with
    | none => some (i, A i, B i)
    | some u => if u.2.1 * B i < A i * u.2.2 then some (i, A i, B i) else some u) = _
  rw [if_neg h, e]
theorem stp_s {A B : Nat → Nat} {i : Nat} {u : Nat × Nat × Nat} (h : ¬ B i = 0) (e : stp A B i = some u) : stp A B (i + 1) = if u.2.1 * B i < A i * u.2.2 then some (i, A i, B i) else some u := by
  show (if B i = 0 then stp A B i else match stp A B i with
    | none => some (i, A i, B i)
    | some u => if u.2.1 * B i < A i * u.2.2 then some (i, A i, B i) else some u) = _
  rw [if_neg h, e]
theorem stp_b {A B : Nat → Nat} {M : Nat} (hA : ∀ i, A i ≤ M) (hB : ∀ i, B i ≤ M) : ∀ {n : Nat} {u : Nat × Nat × Nat}, stp A B n = some u → u.1 < n ∧ u.2.1 ≤ M ∧ u.2.2 ≤ M := by
  intro n
  induction n with
  | zero => intro u h; cases h
  | succ n ih =>
    intro u h
    by_cases z : B n = 0
    · rw [stp_0 z] at h
      obtain ⟨h1, h2, h3⟩ := ih h
      exact ⟨by omega, h2, h3⟩
    · cases e : stp A B n with
      | none =>
        rw [stp_n z e] at h
        cases h
        exact ⟨Nat.lt_succ_self n, hA n, hB n⟩
      | some w =>
        obtain ⟨h1, h2, h3⟩ := ih e
        rw [stp_s z e] at h
        by_cases c : w.2.1 * B n < A n * w.2.2
        · rw [if_pos c] at h
          cases h
          exact ⟨Nat.lt_succ_self n, hA n, hB n⟩
        · rw [if_neg c] at h
          cases h
          exact ⟨by omega, h2, h3⟩
theorem leftAs_E (q : QS l x s) (p : PTB s (pal (nk (s.1 163)) 3)) {k1 : Nat} (hk : k1 = 35 ∨ k1 = 37) {P : Nat → Bool} (t1 : TLY k1 (s.1 163) P (nW (s.1 163)) s) {i W : Nat} (hW : W < nW (s.1 163)) {t : Nat × Nat × Nat} (h : (pal (nk (s.1 163)) 3)[i]? = some t) : wX5_leftAsIn (44 + 10 * l) k1 (Int32.ofNat i) 15 (Int32.ofNat W) s = some (Int32.ofNat (lfw x (s.1 163) P W t)) := by
  have cf := q.2.2.2.2.2
  have w5 := cf.w.1
  obtain ⟨v1, v2, v3⟩ := PV_of h
  have n8 := (cf t.1 v1).2.2
  obtain ⟨a1, -, -, b1, b2⟩ := near10_E q p h
  have tW := thn_lt cf v1 hW
  have t8 : ∀ w, w < nW (s.1 163) → thn (s.1 163) t.1 w < 8 := fun w hw => by
    have := thn_lt cf v1 hw
    omega
  unfold wX5_leftAsIn wX5_nearAsIn lfw
  rw [a1, t_sbe, b1, t_sbe, t_sbe, thingIn_E q.1 cf v1 hW, t_sbe]
  by_cases d : nrb x (s.1 163) t.1 t.2.1 t.2.2 W = true
  · rw [if_pos ((bt_t (by omega)).2 ((nrb_b cf v1 hW).trans d)), t_sbe, withAny_E hk t1 w5 v1 t8, t_sbe, if_pos d]
    exact congrArg some (congrArg Int32.ofNat (cnt_cg (fun w hw => by rw [nrb_b cf v1 hw])))
  · rw [if_neg (fun h => d ((nrb_b cf v1 hW).symm.trans ((bt_t (by omega)).1 h))), b2, t_sbe, t_sbe, withAny_E hk t1 w5 v1 t8, t_sbe, if_neg d]
    exact congrArg some (congrArg Int32.ofNat (cnt_cg (fun w hw => by rw [nrb_b cf v1 hw])))
/-- what a row of turns ends with -/
noncomputable def SR10 (o : Option (Nat × Nat × Nat)) (v : Int32 × Int32 × Int32) : Prop := match o with
  | none => v.1 = -1
  | some u => v = (Int32.ofNat u.1, Int32.ofNat u.2.1, Int32.ofNat u.2.2)
noncomputable def SR11 (o : Option (Nat × Nat × Nat)) (v : Int32 × Int32 × Int32) : Prop := match o with
  | none => v.1 < 0
  | some u => v = (Int32.ofNat u.1, Int32.ofNat u.2.1, Int32.ofNat u.2.2)
theorem steer10_E {N : Nat} (hN : N ≤ 84) (p1 : s.1 28 3 = Int32.ofNat N) {A B : Nat → Nat} (hA : ∀ i, A i ≤ 512) (hB : ∀ i, B i ≤ 512) {k : Nat} {y3 y5 : Int32} (both : ∀ i, i < N → wX5_leftAsIn k 35 (Int32.ofNat i) 15 y3 s = some (Int32.ofNat (B i)) ∧ wX5_leftAsIn k 37 (Int32.ofNat i) 15 y3 s = some (Int32.ofNat (A i))) : Tot (wX10_steered_h80 y3 y5 k s wFuel (-1) 0 0 0) (SR10 (stp A B N)) := by
  refine loop_N (L := fun n (p : Int32 × Int32 × Int32 × Int32) => wX10_steered_h80 y3 y5 k s n p.1 p.2.1 p.2.2.1 p.2.2.2) (N := N) (I := fun i p => SR10 (stp A B i) (p.1, p.2.1, p.2.2.1) ∧ p.2.2.2 = Int32.ofNat i) (x := (-1, 0, 0, 0)) (by omega) ⟨rfl, rfl⟩ (fun n i p' hi hI => ?_) (fun n p' hI => ?_)
  · obtain ⟨a, b, cc, d⟩ := p'
    obtain ⟨ea, eb⟩ := hI
    dsimp only at ea eb ⊢
    subst eb
    obtain ⟨b35, b37⟩ := both i hi
    have hA := hA i
    have hB := hB i
    rw [wX10_steered_h80, p1, if_pos ((o_lt (by omega) (by omega)).2 hi), b35, t_sbe, b37, t_sbe]
    unfold wX10_steered_j166 wX10_steered_j178
    rw [o_1]
    by_cases z0 : B i = 0
    · rw [if_neg (show ¬ (0 : Int32) < Int32.ofNat _ from fun h => by have := (o_lt (a := 0) (by omega) (by omega)).1 h; omega)]
      exact ⟨(a, b, cc, Int32.ofNat (i + 1)), rfl, by rw [stp_0 (A := A) z0]; exact ea, rfl⟩
    · rw [if_pos (show (0 : Int32) < Int32.ofNat _ from (o_lt (a := 0) (by omega) (by omega)).2 (by omega))]
      cases es : stp A B i with
      | none =>
        rw [es] at ea
        have ea : a = -1 := ea
        rw [if_pos ea]
        exact ⟨(Int32.ofNat i, Int32.ofNat (A i), Int32.ofNat (B i), Int32.ofNat (i + 1)), rfl, by rw [stp_n z0 es]; rfl, rfl⟩
      | some u =>
        rw [es] at ea
        have ea : (a, b, cc) = (Int32.ofNat u.1, Int32.ofNat u.2.1, Int32.ofNat u.2.2) := ea
        obtain ⟨ea1, ea⟩ := Prod.mk.inj ea
        obtain ⟨ea2, ea3⟩ := Prod.mk.inj ea
        obtain ⟨s1, s2', s3'⟩ := stp_b (M := 512) (A := A) (B := B) (by assumption) (by assumption) es
        have na : ¬ a = -1 := fun h => by
          rw [ea1] at h
          have := congrArg Int32.toInt h
          rw [t_on (by omega), t_neg1] at this
          omega
        have m1 : u.2.1 * B i ≤ 512 * 512 := Nat.mul_le_mul s2' (by omega)
        have m2 : A i * u.2.2 ≤ 512 * 512 := Nat.mul_le_mul (by omega) s3'
        rw [if_neg na, ea2, ea3, o_mul, o_mul]
        by_cases y : u.2.1 * B i < A i * u.2.2
        · rw [if_pos ((o_lt (by omega) (by omega)).2 y)]
          exact ⟨(Int32.ofNat i, Int32.ofNat (A i), Int32.ofNat (B i), Int32.ofNat (i + 1)), rfl, by rw [stp_s z0 es, if_pos y]; rfl, rfl⟩
        · rw [if_neg (fun h => y ((o_lt (by omega) (by omega)).1 h))]
          exact ⟨(a, Int32.ofNat u.2.1, Int32.ofNat u.2.2, Int32.ofNat (i + 1)), rfl, by rw [stp_s z0 es, if_neg y, ea1]; rfl, rfl⟩
  · obtain ⟨a, b, cc, d⟩ := p'
    obtain ⟨ea, eb⟩ := hI
    dsimp only at ea eb ⊢
    subst eb
    rw [wX10_steered_h80, p1, if_neg (fun c => by have := (o_lt (by omega) (by omega)).1 c; omega)]
    exact t_some ea
theorem steer11_E {N : Nat} (hN : N ≤ 84) (p1 : s.1 152 33 = Int32.ofNat N) {A B : Nat → Nat} (hA : ∀ i, A i ≤ 512) (hB : ∀ i, B i ≤ 512) {y3 y4 y5 : Int32} (H : ∀ i, i < N → ∀ (qq : Int32 → Int32 → Int32 → Int32 → Option (Int32 × Int32 × Int32)) (a b cc : Int32), ((wX11_leaves (Int32.ofNat i) 0 y3 s).bind fun t23 => if t23 = 0 then (wX11_steered_j98 qq y3 y4 y5 a b cc (Int32.ofNat i) 1 s) else (wX11_steered_j98 qq y3 y4 y5 a b cc (Int32.ofNat i) 0 s)) = if Int32.ofNat (B i) = 0 then qq a b cc (Int32.ofNat (i + 1)) else if a < 0 then qq (Int32.ofNat i) (Int32.ofNat (A i)) (Int32.ofNat (B i)) (Int32.ofNat (i + 1)) else if b * Int32.ofNat (B i) < Int32.ofNat (A i) * cc then qq (Int32.ofNat i) (Int32.ofNat (A i)) (Int32.ofNat (B i)) (Int32.ofNat (i + 1)) else qq a b cc (Int32.ofNat (i + 1))) : Tot (wX11_steered_h73 y3 y4 y5 s wFuel ((Int8.ofInt (-2)).toInt32) 0 1 0) (SR11 (stp A B N)) := by
  refine loop_N (L := fun n (p : Int32 × Int32 × Int32 × Int32) => wX11_steered_h73 y3 y4 y5 s n p.1 p.2.1 p.2.2.1 p.2.2.2) (N := N) (I := fun i p => SR11 (stp A B i) (p.1, p.2.1, p.2.2.1) ∧ p.2.2.2 = Int32.ofNat i) (x := ((Int8.ofInt (-2)).toInt32, 0, 1, 0)) (by omega) ⟨by show (Int8.ofInt (-2)).toInt32 < 0; decide, rfl⟩ (fun n i p' hi hI => ?_) (fun n p' hI => ?_)
  · obtain ⟨a, b, cc, d⟩ := p'
    obtain ⟨ea, eb⟩ := hI
    dsimp only at ea eb ⊢
    subst eb
    have hA := hA i
    have hB := hB i
    rw [wX11_steered_h73, p1, if_pos ((o_lt (by omega) (by omega)).2 hi), H i hi]
    by_cases z0 : B i = 0
    · rw [if_pos (show Int32.ofNat _ = 0 by rw [z0]; rfl)]
      exact ⟨(a, b, cc, Int32.ofNat (i + 1)), rfl, by rw [stp_0 (A := A) z0]; exact ea, rfl⟩
    · rw [if_neg (show ¬ Int32.ofNat _ = 0 from fun h => z0 ((o_eq (b := 0) (by omega) (by omega)).1 h))]
      cases es : stp A B i with
      | none =>
        rw [es] at ea
        have ea : a < 0 := ea
        rw [if_pos ea]
        exact ⟨(Int32.ofNat i, Int32.ofNat (A i), Int32.ofNat (B i), Int32.ofNat (i + 1)), rfl, by rw [stp_n z0 es]; rfl, rfl⟩
      | some u =>
        rw [es] at ea
        have ea : (a, b, cc) = (Int32.ofNat u.1, Int32.ofNat u.2.1, Int32.ofNat u.2.2) := ea
        obtain ⟨ea1, ea⟩ := Prod.mk.inj ea
        obtain ⟨ea2, ea3⟩ := Prod.mk.inj ea
        obtain ⟨s1, s2', s3'⟩ := stp_b (M := 512) (A := A) (B := B) (by assumption) (by assumption) es
        have na : ¬ a < 0 := fun h => by
          rw [ea1] at h
          have := (o_lt (b := 0) (by omega) (by omega)).1 h
          omega
        have m1 : u.2.1 * B i ≤ 512 * 512 := Nat.mul_le_mul s2' (by omega)
        have m2 : A i * u.2.2 ≤ 512 * 512 := Nat.mul_le_mul (by omega) s3'
        rw [if_neg na, ea2, ea3, o_mul, o_mul]
        by_cases y : u.2.1 * B i < A i * u.2.2
        · rw [if_pos ((o_lt (by omega) (by omega)).2 y)]
          exact ⟨(Int32.ofNat i, Int32.ofNat (A i), Int32.ofNat (B i), Int32.ofNat (i + 1)), rfl, by rw [stp_s z0 es, if_pos y]; rfl, rfl⟩
        · rw [if_neg (fun h => y ((o_lt (by omega) (by omega)).1 h))]
          exact ⟨(a, Int32.ofNat u.2.1, Int32.ofNat u.2.2, Int32.ofNat (i + 1)), rfl, by rw [stp_s z0 es, if_neg y, ea1]; rfl, rfl⟩
  · obtain ⟨a, b, cc, d⟩ := p'
    obtain ⟨ea, eb⟩ := hI
    dsimp only at ea eb ⊢
    subst eb
    rw [wX11_steered_h73, p1, if_neg (fun c => by have := (o_lt (by omega) (by omega)).1 c; omega)]
    exact t_some ea
/-- the reference counts what is left, and with the MAN -/
theorem left11_E (c : RCH x f r) (pu : PU r (pal (nk f) 3)) {K : Nat → Bool} (kr : KWR f K r (nW f)) {M W : Nat} (hM : M < 8) {y3 y5 y6 y7 y8 : Int32} {by_ : Bool} {i : Nat} (hi : i < (pal (nk f) 3).length) : wX11_steered_h109 y3 (Int32.ofNat M) y5 y6 y7 y8 (Int32.ofNat i) (if by_ = true then 0 else 1) r wFuel 0 0 0 = some (Int32.ofNat (if by_ = true then lf1 x f (fun w => K w && decide (thn f 2 w = M)) (nth (pal (nk f) 3) i) else lf2 x f (fun w => K w && decide (thn f 2 w = M)) (nth (pal (nk f) 3) i)), Int32.ofNat (if by_ = true then lf1 x f K (nth (pal (nk f) 3) i) else lf2 x f K (nth (pal (nk f) 3) i))) := by
  have cf := c.2.1
  have w5 := cf.w.1
  have l84 := pal_84 cf
  have lv : ∃ N : Nat → Bool, (∀ w, w < nW f → wX11_leaves (Int32.ofNat i) (if by_ = true then 0 else 1) (Int32.ofNat w) r = some (if N w = true then 1 else 0)) ∧ ∀ P : Nat → Bool, (if by_ = true then lf1 x f P (nth (pal (nk f) 3) i) else lf2 x f P (nth (pal (nk f) 3) i)) = cnt (fun w => P w && N w) (nW f) := by
    cases by_
    · refine ⟨fun w => nrb x f (nth (pal (nk f) 3) i).1 (nth (pal (nk f) 3) i).2.2 (nth (pal (nk f) 3) i).2.1 w, fun w hw => ?_, fun P => rfl⟩
      rw [b_f]
      exact (leaves_E c pu (nth_E hi) hw).2
    · refine ⟨fun w => nrb x f (nth (pal (nk f) 3) i).1 (nth (pal (nk f) 3) i).2.1 (nth (pal (nk f) 3) i).2.2 w, fun w hw => ?_, fun P => rfl⟩
      rw [if_pos rfl]
      exact (leaves_E c pu (nth_E hi) hw).1
  obtain ⟨N, hN, hc⟩ := lv
  rw [hc, hc]
  generalize (if by_ = true then (0 : Int32) else 1) = y at *
  refine loop_P (L := fun n (p : Int32 × Int32 × Int32) => wX11_steered_h109 y3 (Int32.ofNat M) y5 y6 y7 y8 (Int32.ofNat i) y r n p.1 p.2.1 p.2.2) (N := nW f) (I := fun w p => p.1 = Int32.ofNat (cnt (fun w => (K w && decide (thn f 2 w = M)) && N w) w) ∧ p.2.1 = Int32.ofNat (cnt (fun w => K w && N w) w) ∧ p.2.2 = Int32.ofNat w) (x := (0, 0, 0)) (by omega) ⟨rfl, rfl, rfl⟩ (fun n w p' hw hI => ?_) (fun n p' hI => ?_)
  · obtain ⟨a, b, cc⟩ := p'
    obtain ⟨ea, eb, ec⟩ := hI
    dsimp only at ea eb ec ⊢
    subst ea eb ec
    have tl := thn_lt cf (kd := 2) (by decide) hw
    have n8 := (cf 2 (by decide)).2.2
    have thE : wX11_thingOf (Int32.ofNat w) 2 r = some (Int32.ofNat (thn f 2 w)) := thingOf_E c.1 cf (kd := 2) (by decide) hw
    rw [wX11_steered_h109, c.nw, t_sbe, if_pos ((o_lt (by omega) (by omega)).2 hw), ldI_o (by omega) (by omega), t_sbe, kr w hw]
    unfold wX11_steered_j166 wX11_steered_j169
    cases kk : K w
    · rw [b_f, qi0, o_1]
      exact ⟨(_, _, _), rfl, congrArg Int32.ofNat (cnt_f (n := w) (by rw [kk, Bool.false_and, Bool.false_and])).symm, congrArg Int32.ofNat (cnt_f (n := w) (by rw [kk, Bool.false_and])).symm, rfl⟩
    · rw [if_pos rfl, qi1, hN w hw, t_sbe]
      cases nn : N w
      · rw [b_f, qi0, o_1]
        exact ⟨(_, _, _), rfl, congrArg Int32.ofNat (cnt_f (n := w) (by rw [nn, Bool.and_false])).symm, congrArg Int32.ofNat (cnt_f (n := w) (by rw [nn, Bool.and_false])).symm, rfl⟩
      · rw [if_pos rfl, qi1, thE, t_sbe, o_1, o_1]
        by_cases y3 : thn f 2 w = M
        · rw [if_pos (by rw [y3]), o_1]
          exact ⟨(_, _, _), rfl, congrArg Int32.ofNat (cnt_t (n := w) (by rw [kk, nn, decide_eq_true y3]; rfl)).symm, congrArg Int32.ofNat (cnt_t (n := w) (by rw [kk, nn]; rfl)).symm, rfl⟩
        · rw [if_neg (fun h => y3 ((o_eq (by omega) (by omega)).1 h)), o_z, o_1]
          exact ⟨(_, _, _), rfl, congrArg Int32.ofNat (cnt_f (n := w) (by rw [decide_eq_false y3, Bool.and_false, Bool.false_and])).symm, congrArg Int32.ofNat (cnt_t (n := w) (by rw [kk, nn]; rfl)).symm, rfl⟩
  · obtain ⟨a, b, cc⟩ := p'
    obtain ⟨ea, eb, ec⟩ := hI
    dsimp only at ea eb ec ⊢
    subst ea eb ec
    rw [wX11_steered_h109, c.nw, t_sbe, if_neg (fun c => by have := (o_lt (by omega) (by omega)).1 c; omega)]
theorem turn11_E (c : RCH x f r) (pu : PU r (pal (nk f) 3)) {K : Nat → Bool} (kr : KWR f K r (nW f)) {M W : Nat} (hM : M < 8) (hW : W < nW f) {y5 : Int32} {i : Nat} (hi : i < (pal (nk f) 3).length) (qq : Int32 → Int32 → Int32 → Int32 → Option (Int32 × Int32 × Int32)) (a b cc : Int32) : ((wX11_leaves (Int32.ofNat i) 0 (Int32.ofNat W) r).bind fun t23 => if t23 = 0 then (wX11_steered_j98 qq (Int32.ofNat W) (Int32.ofNat M) y5 a b cc (Int32.ofNat i) 1 r) else (wX11_steered_j98 qq (Int32.ofNat W) (Int32.ofNat M) y5 a b cc (Int32.ofNat i) 0 r)) = if Int32.ofNat (lfw x f K W (nth (pal (nk f) 3) i)) = 0 then qq a b cc (Int32.ofNat (i + 1)) else if a < 0 then qq (Int32.ofNat i) (Int32.ofNat (lfw x f (fun w => K w && decide (thn f 2 w = M)) W (nth (pal (nk f) 3) i))) (Int32.ofNat (lfw x f K W (nth (pal (nk f) 3) i))) (Int32.ofNat (i + 1)) else if b * Int32.ofNat (lfw x f K W (nth (pal (nk f) 3) i)) < Int32.ofNat (lfw x f (fun w => K w && decide (thn f 2 w = M)) W (nth (pal (nk f) 3) i)) * cc then qq (Int32.ofNat i) (Int32.ofNat (lfw x f (fun w => K w && decide (thn f 2 w = M)) W (nth (pal (nk f) 3) i))) (Int32.ofNat (lfw x f K W (nth (pal (nk f) 3) i))) (Int32.ofNat (i + 1)) else qq a b cc (Int32.ofNat (i + 1)) := by
  have ln := fun by_ => left11_E (by_ := by_) c pu kr (y3 := Int32.ofNat W) (y5 := y5) (y6 := a) (y7 := b) (y8 := cc) hM hi (W := W)
  rw [(leaves_E c pu (nth_E hi) hW).1, t_sbe]
  unfold wX11_steered_j98 wX11_steered_j201 wX11_steered_j213 lfw
  rw [o_1]
  cases nr : nrb x f (nth (pal (nk f) 3) i).1 (nth (pal (nk f) 3) i).2.1 (nth (pal (nk f) 3) i).2.2 W
  · have l0 := ln false
    rw [b_f, b_f, b_f] at l0
    rw [b_f, qi0, l0, t_sbe, b_f, b_f]
  · have l1 := ln true
    rw [if_pos rfl, if_pos rfl, if_pos rfl] at l1
    rw [if_pos rfl, qi1, l1, t_sbe, if_pos rfl, if_pos rfl]
theorem op_steered {x1 x2 x3 x4 x5 : Int32} (g : JP s) : ∃ v s1 v2 s2, wX10_steered x1 x2 x3 x4 x5 s = some (v, s1) ∧ wX11_steered x1 x2 x3 x4 x5 s1 = some (v2, s2) ∧ v = v2 := by
  unfold wX10_steered wX11_steered
  rcases withKeptP_E g x1 x2 with ⟨s2, e, c⟩ | ⟨l, k, s2, x, ⟨q, z, t⟩, hx1, hx2, h40, e, c, m, p⟩
  · rw [e, t_sbe]
    refine ⟨-1, s2, -1, s2, rfl, ?_, rfl⟩
    rcases c with c | ⟨c, m⟩
    · rw [c, t_sbe, qi0]
    · rw [c, t_sbe, qi1, m, t_sbe, qi0]
  · rw [e, t_sbe]
    dsimp only [Option.elim]
    have e5 : (5 : Int32).toInt = 5 := rfl
    have cf := q.2.2.2.2.2
    have w5 := cf.w.1
    have l84 := pal_84 cf
    rw [(nworlds_E q).1, t_sbe]
    rcases isW2_E q x3 with ⟨W, hw, wl, d1, d2⟩ | ⟨d1, d2⟩
    · rw [d1, t_sbe, qi0]
      rcases has_E q.1 2 x4 with ⟨th, a1, a2⟩ | ⟨-, a1, a2⟩
      · obtain ⟨kd, M, h2', h4, k3, u1, u8⟩ := th.o cf
        have kd2 : kd = 2 := by
          have := (o_eq (a := 2) (b := kd) (by omega) (by omega)).1 h2'
          omega
        subst kd2
        rw [a1, t_sbe, qi1, isOutside_E]
        by_cases d5 : 0 ≤ x5.toInt ∧ x5.toInt ≤ 4
        · have w40 := fun w => wrg_le (x := x) (f := s2.1 163) (but := -1) (w := w) q.f3.2
          obtain ⟨s3, e3, f3, t3⟩ := fillKept_E q (k1 := 37) (Or.inr rfl) (g := wrg x (s2.1 163) (-1)) (fun w hw => ⟨z w hw, by have := w40 w; omega⟩) (k := k) (by omega) (man := x4)
          have q3 := f3.qs (by omega) (by omega) q
          have hf3 : s3.1 163 = s2.1 163 := f3.f (by omega)
          have p3 : PTB s3 (pal (nk (s3.1 163)) 3) := by
            rw [hf3]
            exact p.fk (fun k _ h2 => f3.1 k (by omega))
          have t35 : TLY 35 (s3.1 163) (kpt x (s3.1 163) (-1) k) (nW (s3.1 163)) s3 := by
            rw [hf3]
            exact t.fk f3 (Or.inl (by omega))
          have t37 : TLY 37 (s3.1 163) (fun w => kpt x (s3.1 163) (-1) k w && decide (thn (s3.1 163) 2 w = M)) (nW (s3.1 163)) s3 := by
            rw [hf3]
            refine t3.cg (fun w hw => ?_)
            have tl := thn_lt cf (kd := 2) (by decide) hw
            have n8 := (cf 2 (by decide)).2.2
            have nm : ¬ x4 = -1 := fun h => by
              rw [h4] at h
              have := congrArg Int32.toInt h
              rw [t_on (by omega), t_neg1] at this
              omega
            unfold mnb kpt
            rw [decide_eq_false nm, Bool.false_or, h4, decide_eq_decide.2 (o_eq (a := thn (s2.1 163) 2 w) (b := M) (by omega) (by omega))]
          have lA := fun t => lfw_le (x := x) (f := s2.1 163) (P := fun w => kpt x (s2.1 163) (-1) k w && decide (thn (s2.1 163) 2 w = M)) (W := W) (t := t)
          have lB := fun t => lfw_le (x := x) (f := s2.1 163) (P := kpt x (s2.1 163) (-1) k) (W := W) (t := t)
          have both : ∀ i, i < (pal (nk (s2.1 163)) 3).length → wX5_leftAsIn (44 + 10 * l) 35 (Int32.ofNat i) 15 (Int32.ofNat W) s3 = some (Int32.ofNat (lfw x (s2.1 163) (kpt x (s2.1 163) (-1) k) W (nth (pal (nk (s2.1 163)) 3) i))) ∧ wX5_leftAsIn (44 + 10 * l) 37 (Int32.ofNat i) 15 (Int32.ofNat W) s3 = some (Int32.ofNat (lfw x (s2.1 163) (fun w => kpt x (s2.1 163) (-1) k w && decide (thn (s2.1 163) 2 w = M)) W (nth (pal (nk (s2.1 163)) 3) i))) := fun i hi => by
            have a := leftAs_E q3 p3 (Or.inl rfl) t35 (W := W) (by rw [hf3]; exact wl) (i := i) (t := nth (pal (nk (s2.1 163)) 3) i) (by rw [hf3]; exact nth_E hi)
            have b := leftAs_E q3 p3 (Or.inr rfl) t37 (W := W) (by rw [hf3]; exact wl) (i := i) (t := nth (pal (nk (s2.1 163)) 3) i) (by rw [hf3]; exact nth_E hi)
            rw [hf3] at a b
            exact ⟨a, b⟩
          obtain ⟨A, hA⟩ : ∃ A : Nat → Nat, ∀ i, A i = lfw x (s2.1 163) (fun w => kpt x (s2.1 163) (-1) k w && decide (thn (s2.1 163) 2 w = M)) W (nth (pal (nk (s2.1 163)) 3) i) := ⟨_, fun _ => rfl⟩
          obtain ⟨B, hB⟩ : ∃ B : Nat → Nat, ∀ i, B i = lfw x (s2.1 163) (kpt x (s2.1 163) (-1) k) W (nth (pal (nk (s2.1 163)) 3) i) := ⟨_, fun _ => rfl⟩
          have A5 : ∀ i, A i ≤ 512 := fun i => by rw [hA]; exact Nat.le_trans (lA _) w5
          have B5 : ∀ i, B i ≤ 512 := fun i => by rw [hB]; exact Nat.le_trans (lB _) w5
          have p31 : s3.1 28 3 = Int32.ofNat (pal (nk (s2.1 163)) 3).length := by
            have := p3.1
            rw [hf3] at this
            exact this
          have l10 := steer10_E l84 p31 A5 B5 (k := 44 + 10 * l) (y3 := Int32.ofNat W) (y5 := x5) (fun i hi => by rw [hA, hB]; exact both i hi)
          have sb := fun u => stp_b (A := A) (B := B) A5 B5 (n := (pal (nk (s2.1 163)) 3).length) (u := u)
          -- the reference
          obtain ⟨⟨n, r⟩, er, en, rc, kr⟩ := keeps_E q3 (k := k) (by omega) (but := -1)
          dsimp only at en rc kr
          rw [hf3] at rc kr
          obtain ⟨r1, e1, gk, pu⟩ := gathers_E rc.1 cf
          have rc1 := gk.rc rc
          have kr1 := gk.kw (f := s2.1 163) kr
          have l11 := steer11_E l84 pu.1 A5 B5 (y3 := Int32.ofNat W) (y4 := Int32.ofNat M) (y5 := x5) (fun i hi qq a b cc => by rw [hA, hB]; exact turn11_E rc1 pu kr1 u8 wl hi qq a b cc)
          obtain ⟨⟨o1, o2, o3⟩, eo, ho⟩ := l10
          obtain ⟨⟨n1, n2, n3⟩, eno, hn⟩ := l11
          have a2' : wX11_isThing 2 x4 s3 = some 1 := by
            rcases has_E q3.1 2 x4 with ⟨_, _, h⟩ | ⟨h, _⟩
            · exact h
            · exact absurd (by rw [hf3]; exact th) h
          have ref : ∀ R, (if n1 < 0 then (some (((Int8.ofInt (-2)).toInt32), r1)) else (if x5 < 3 then ((wldI r1 168 252 ((3 * n1) + x5)).bind fun t62 => some (t62, r1)) else (if x5 = 3 then (some (n2, r1)) else (some (n3, r1))))) = R → ((wX11_canAsk x1 s3).bind fun t1 => if t1 = 0 then (some ((-1), s3)) else ((wX11_isMany x2 s3).bind fun t4 => if t4 = 0 then (some ((-1), s3)) else ((wX11_isWorld x3 s3).bind fun t7 => if t7 = 0 then (some ((-1), s3)) else ((wX11_isThing 2 x4 s3).bind fun t10 => if t10 = 0 then (some ((-1), s3)) else ((wX11_in ((x5 : Int32).toInt64) 0 4 s3).bind fun t13 => if t13 = 0 then (some ((-1), s3)) else ((wX11_keeps x1 x2 (-1) s3).bind fun (t16, s17) => (wX11_gathers s17).bind fun s20 => (wX11_steered_h73 x3 x4 x5 s20 wFuel ((Int8.ofInt (-2)).toInt32) 0 1 0).bind fun (t48, t49, t50) => if t48 < 0 then (some (((Int8.ofInt (-2)).toInt32), s20)) else (if x5 < 3 then ((wldI s20 168 252 ((3 * t48) + x5)).bind fun t62 => some (t62, s20)) else (if x5 = 3 then (some (t49, s20)) else (some (t50, s20)))))))))) = R := fun R hR => by
            rw [c s3 q3, t_sbe, qi1, m s3, t_sbe, qi1, d2 s3 hf3, t_sbe, qi1, a2', t_sbe, qi1, in64_E (A := 0) (B := 4) rfl rfl, if_pos d5, t_sbe, qi1, hx1, hx2, er, t_sbe]
            dsimp only
            rw [e1, t_sbe, hw, h4, eno, t_sbe]
            exact hR
          rw [if_pos (show 0 ≤ x5.toInt ∧ x5.toInt < (5 : Int32).toInt by omega), t_sbe, qi0]
          rw [← hx2] at e3
          rw [e3, t_sbe]
          rw [← hw] at eo
          rw [eo, t_sbe]
          dsimp only
          cases es : stp A B (pal (nk (s2.1 163)) 3).length with
          | none =>
            rw [es] at ho hn
            have ho : o1 = -1 := ho
            have hn : n1 < 0 := hn
            rw [if_pos ho]
            exact ⟨_, s3, _, r1, rfl, ref _ (if_pos hn), rfl⟩
          | some u =>
            rw [es] at ho hn
            have ho : (o1, o2, o3) = (Int32.ofNat u.1, Int32.ofNat u.2.1, Int32.ofNat u.2.2) := ho
            have hn : (n1, n2, n3) = (Int32.ofNat u.1, Int32.ofNat u.2.1, Int32.ofNat u.2.2) := hn
            obtain ⟨rfl, h'⟩ := Prod.mk.inj ho
            obtain ⟨rfl, rfl⟩ := Prod.mk.inj h'
            obtain ⟨rfl, h'⟩ := Prod.mk.inj hn
            obtain ⟨rfl, rfl⟩ := Prod.mk.inj h'
            obtain ⟨b1, b2, b3⟩ := sb u es
            have nB : ¬ Int32.ofNat u.1 = -1 := fun h => by
              have := congrArg Int32.toInt h
              rw [t_on (by omega), t_neg1] at this
              omega
            have nB0 : ¬ Int32.ofNat u.1 < 0 := fun h => by
              have := (o_lt (b := 0) (by omega) (by omega)).1 h
              omega
            obtain ⟨h29, h30, h31, -, -⟩ := near10_E q3 p3 (i := u.1) (t := nth (pal (nk (s2.1 163)) 3) u.1) (by rw [hf3]; exact nth_E b1)
            obtain ⟨v1, v2, v3⟩ := pu.2 u.1 _ (nth_E b1)
            have i0 : (3 : Int32) * Int32.ofNat u.1 = Int32.ofNat (3 * u.1) := o_mul (a := 3)
            have ek := t_cln d5.1
            have hx5 : x5 = Int32.ofNat x5.toNatClampNeg := (t_oc d5.1).symm
            generalize x5.toNatClampNeg = w at ek hx5
            rw [if_neg nB]
            rw [if_neg nB0] at ref
            unfold wX5_told
            obtain h | h | h | h | h : w = 0 ∨ w = 1 ∨ w = 2 ∨ w = 3 ∨ w = 4 := by omega
            · have h4 : x5 = 0 := by rw [hx5, h]; rfl
              rw [if_pos h4, h29, t_sbe, t_sbe]
              refine ⟨_, s3, _, r1, rfl, ref _ ?_, rfl⟩
              rw [if_pos (show x5 < 3 by rw [h4]; decide), hx5, h, i0, o_add, ldI_o (by omega) (by omega), t_sbe]
              show some (r1.1 168 (3 * u.1), r1) = _
              rw [v1]
            · have h4 : x5 = 1 := by rw [hx5, h]; rfl
              rw [if_neg (by rw [h4]; decide), if_pos h4, h30, t_sbe, t_sbe]
              refine ⟨_, s3, _, r1, rfl, ref _ ?_, rfl⟩
              rw [if_pos (show x5 < 3 by rw [h4]; decide), hx5, h, i0, o_add, ldI_o (by omega) (by omega), t_sbe, v2]
            · have h4 : x5 = 2 := by rw [hx5, h]; rfl
              rw [if_neg (by rw [h4]; decide), if_neg (by rw [h4]; decide), if_pos h4, h31, t_sbe, t_sbe]
              refine ⟨_, s3, _, r1, rfl, ref _ ?_, rfl⟩
              rw [if_pos (show x5 < 3 by rw [h4]; decide), hx5, h, i0, o_add, ldI_o (by omega) (by omega), t_sbe, v3]
            · have h4 : x5 = 3 := by rw [hx5, h]; rfl
              rw [if_neg (by rw [h4]; decide), if_neg (by rw [h4]; decide), if_neg (by rw [h4]; decide), if_pos h4, t_sbe]
              refine ⟨_, s3, _, r1, rfl, ref _ ?_, rfl⟩
              rw [if_neg (show ¬ x5 < 3 by rw [h4]; decide), if_pos h4]
            · have h4 : x5 = 4 := by rw [hx5, h]; rfl
              rw [if_neg (by rw [h4]; decide), if_neg (by rw [h4]; decide), if_neg (by rw [h4]; decide), if_neg (by rw [h4]; decide), t_sbe]
              refine ⟨_, s3, _, r1, rfl, ref _ ?_, rfl⟩
              rw [if_neg (show ¬ x5 < 3 by rw [h4]; decide), if_neg (by rw [h4]; decide)]
        · rw [if_neg (by omega), t_sbe, qi1]
          refine ⟨_, _, -1, s2, rfl, ?_, rfl⟩
          rw [c s2 q, t_sbe, qi1, m s2, t_sbe, qi1, d2 s2 rfl, t_sbe, qi1, a2, t_sbe, qi1, in64_E (A := 0) (B := 4) rfl rfl, if_neg d5, t_sbe, qi0]
      · rw [a1, t_sbe, qi0]
        refine ⟨_, _, -1, s2, rfl, ?_, rfl⟩
        rw [c s2 q, t_sbe, qi1, m s2, t_sbe, qi1, d2 s2 rfl, t_sbe, qi1, a2, t_sbe, qi0]
    · rw [d1, t_sbe, qi1]
      refine ⟨_, _, -1, s2, rfl, ?_, rfl⟩
      rw [c s2 q, t_sbe, qi1, m s2, t_sbe, qi1, d2 s2 rfl, t_sbe, qi0]
end ST
