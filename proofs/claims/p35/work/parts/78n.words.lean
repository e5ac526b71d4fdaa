/-! The words of a LAW: the same on both sides. -/
/-- how far apart -/
noncomputable def ap (x y : Int32) : Int32 := if x < y then y - x else x - y
theorem ap_abs {x y : Int32} (hx : 0 ≤ x.toInt ∧ x.toInt ≤ 99) (hy : 0 ≤ y.toInt ∧ y.toInt ≤ 99) : wabs (x - y) = ap x y := by
  have e : (x - y).toInt = x.toInt - y.toInt := t_sub (by omega) (by omega)
  have e2 : (y - x).toInt = y.toInt - x.toInt := t_sub (by omega) (by omega)
  unfold wabs ap
  by_cases c : x < y
  · have := t_lt c
    rw [if_pos c, if_neg (fun q => by have := Int32.le_iff_toInt_le.1 q; rw [t_i0] at this; omega)]
    exact Int32.toInt_inj.1 (by rw [t_sub (by rw [t_i0]; omega) (by rw [t_i0]; omega), t_i0]; omega)
  · have := t_ge c
    rw [if_neg c, if_pos (Int32.le_iff_toInt_le.2 (by rw [t_i0]; omega))]
noncomputable def WD (f : Nat → Int32) (kd : Int32) (a b : Nat) (j : Nat) : Int64 :=
  if j = 0 then (Int32.ofNat a).toInt64 else if j = 1 then (Int32.ofNat b).toInt64 else if j = 2 then (ap (Int32.ofNat a) (Int32.ofNat b)).toInt64
  else if j = 3 then (if kd = 1 then (ap (f (10 + 2 * a)) (f (10 + 2 * b))).toInt64 else 0)
  else if j = 4 then (if kd = 1 then (ap (f (10 + 2 * a + 1)) (f (10 + 2 * b + 1))).toInt64 else 0)
  else if j = 5 then (if kd = 2 then (f (26 + 2 * a)).toInt64 else 0)
  else if j = 6 then (if kd = 2 then (ap (f (26 + 2 * a)) (f (26 + 2 * b))).toInt64 else 0)
  else (if kd = 2 then (if f (26 + 2 * a + 1) = f (26 + 2 * b + 1) then 1 else 0) else 0)
noncomputable abbrev W8 (s : wS) (k : Nat) (v0 v1 v2 v3 v4 v5 v6 v7 : Int64) : wS := wupL (wupL (wupL (wupL (wupL (wupL (wupL (wupL s k 0 v0) k 1 v1) k 2 v2) k 3 v3) k 4 v4) k 5 v5) k 6 v6) k 7 v7
theorem W8_at {s : wS} {k : Nat} {v0 v1 v2 v3 v4 v5 v6 v7 : Int64} {j : Nat} (h : j < 8) : (W8 s k v0 v1 v2 v3 v4 v5 v6 v7).2 k j = if j = 0 then v0 else if j = 1 then v1 else if j = 2 then v2 else if j = 3 then v3 else if j = 4 then v4 else if j = 5 then v5 else if j = 6 then v6 else v7 := by
  rw [wupL_k, wupL_k, wupL_k, wupL_k, wupL_k, wupL_k, wupL_k, wupL_k]
  match j, h with
  | 0, _ => rfl
  | 1, _ => rfl
  | 2, _ => rfl
  | 3, _ => rfl
  | 4, _ => rfl
  | 5, _ => rfl
  | 6, _ => rfl
  | 7, _ => rfl
theorem W8_n {s : wS} {k i : Nat} {v0 v1 v2 v3 v4 v5 v6 v7 : Int64} (h : i ≠ k) : (W8 s k v0 v1 v2 v3 v4 v5 v6 v7).2 i = s.2 i := by
  rw [wupL_n h, wupL_n h, wupL_n h, wupL_n h, wupL_n h, wupL_n h, wupL_n h, wupL_n h]
section WORDS
variable {s : wS} {k0 : Nat}
theorem setWord_E {c x : Int32} {j : Nat} (h : (c - 23).toInt = j) (hj : j < 8) : wX3_setWord k0 c x s = some (wupL s (k0 + 6) j x.toInt64) := by
  unfold wX3_setWord
  have n : (c - 23).toNatClampNeg = j := by unfold Int32.toNatClampNeg; omega
  rw [if_neg (fun q => by have := t_lt q; rw [t_i0] at this; omega), if_pos (Int32.lt_iff_toInt_lt.2 (by rw [show (8 : Int32).toInt = 8 from rfl]; omega)), wstL_E (by omega) (by omega), n]
  rfl
theorem firstOf_s {k : Nat} {x y : Int32} {s' : wS} (h : s'.1 = s.1) : wX0_firstOf k x y s' = wX0_firstOf k x y s := by
  unfold wX0_firstOf wX10_at wX10_slot wldI
  rw [h]
theorem slot_0 {x : Int32} (h0 : 0 ≤ x.toInt) (h1 : x.toInt < 8) : ((0 : Int32) * 8 + x).toInt = x.toInt := by
  rw [show (0 : Int32) * 8 = 0 from rfl, Int32.zero_add]
theorem first_0 {x : Int32} (h0 : 0 ≤ x.toInt) (h1 : x.toInt < 8) : wX0_firstOf 15 0 x s = some (s.1 17 x.toNatClampNeg) ∧ wX0_secondOf 15 0 x s = some (s.1 18 x.toNatClampNeg) := by
  have e := slot_0 h0 h1
  have en : ((0 : Int32) * 8 + x).toNatClampNeg = x.toNatClampNeg := by unfold Int32.toNatClampNeg; omega
  unfold wX0_firstOf wX0_secondOf wX10_slot
  rw [t_sbe, t_sbe, at_E (n := 24) rfl (by omega) (by omega) (by omega), at_E (n := 24) rfl (by omega) (by omega) (by omega), en]
  exact ⟨rfl, rfl⟩
/-- numbers of things -/
theorem th_ix (g : JA s) {kd x : Int32} (h : TH (s.1 163) kd x) : x.toNatClampNeg < 8 ∧ x = Int32.ofNat x.toNatClampNeg ∧ x.toInt = x.toNatClampNeg ∧ x.toInt < 8 := by
  obtain ⟨k, y0, y1⟩ := h
  obtain ⟨c0, c1, c2, -⟩ := g.c
  have : (s.1 163 kd.toNatClampNeg).toInt ≤ 8 := by
    rcases (kind_3 k).2 with r | r | r <;> rw [r]
    · exact c0.2
    · exact c1.2
    · exact c2.2
  have e := t_cln y0
  exact ⟨by omega, (t_oc y0).symm, e.symm, by omega⟩
theorem num_99 (g : JA s) {x : Int32} (h : TH (s.1 163) 1 x) : (0 ≤ (s.1 163 (10 + 2 * x.toNatClampNeg)).toInt ∧ (s.1 163 (10 + 2 * x.toNatClampNeg)).toInt ≤ 99) ∧ (0 ≤ (s.1 163 (10 + 2 * x.toNatClampNeg + 1)).toInt ∧ (s.1 163 (10 + 2 * x.toNatClampNeg + 1)).toInt ≤ 99) := by
  obtain ⟨-, y0, y1⟩ := h
  have y1 : x.toInt < (s.1 163 1).toInt := y1
  have e := t_cln y0
  have q := g.h.2.2.2.2.2.2.2.1
  exact ⟨q (2 * x.toNatClampNeg) (by omega), q (2 * x.toNatClampNeg + 1) (by omega)⟩
theorem num_99' (g : JA s) {x : Int32} (h : TH (s.1 163) 2 x) : (0 ≤ (s.1 163 (26 + 2 * x.toNatClampNeg)).toInt ∧ (s.1 163 (26 + 2 * x.toNatClampNeg)).toInt ≤ 99) ∧ (0 ≤ (s.1 163 (26 + 2 * x.toNatClampNeg + 1)).toInt ∧ (s.1 163 (26 + 2 * x.toNatClampNeg + 1)).toInt ≤ 99) := by
  obtain ⟨-, y0, y1⟩ := h
  have y1 : x.toInt < (s.1 163 2).toInt := y1
  have e := t_cln y0
  have q := g.h.2.2.2.2.2.2.2.2
  exact ⟨q (2 * x.toNatClampNeg) (by omega), q (2 * x.toNatClampNeg + 1) (by omega)⟩
theorem sw1_E {x2 x3 x4 x5 x6 : Int32} (hkd : ¬ x2 = 2) : wX3_setWords_j48 k0 15 x2 x3 x4 x5 x6 1 s = some (W8 s (k0 + 6) x3.toInt64 x4.toInt64 (wabs (x3 - x4)).toInt64 x5.toInt64 x6.toInt64 0 0 0) := by
  unfold wX3_setWords_j48 wX3_setWords_j60 wX3_setWords_j104 wX3_setWords_j121 wX3_setWords_j142 wX3_setWords_j159 wX3_setWords_j179 wX3_setWords_j180
  rw [if_neg hkd, setWord_E (j := 0) rfl (by decide), t_sbe, setWord_E (j := 1) rfl (by decide), t_sbe, setWord_E (j := 2) rfl (by decide), t_sbe, qi1, setWord_E (j := 3) rfl (by decide), t_sbe, qi1, setWord_E (j := 4) rfl (by decide), t_sbe, qi0, setWord_E (j := 5) rfl (by decide), t_sbe, qi0, setWord_E (j := 6) rfl (by decide), t_sbe, qi0, setWord_E (j := 7) rfl (by decide), t_sbe]
  rfl
theorem sw0_E {x2 x3 x4 x5 x6 : Int32} (hkd : ¬ x2 = 2) : wX3_setWords_j48 k0 15 x2 x3 x4 x5 x6 0 s = some (W8 s (k0 + 6) x3.toInt64 x4.toInt64 (wabs (x3 - x4)).toInt64 0 0 0 0 0) := by
  unfold wX3_setWords_j48 wX3_setWords_j60 wX3_setWords_j104 wX3_setWords_j121 wX3_setWords_j142 wX3_setWords_j159 wX3_setWords_j179 wX3_setWords_j180
  rw [if_neg hkd, setWord_E (j := 0) rfl (by decide), t_sbe, setWord_E (j := 1) rfl (by decide), t_sbe, setWord_E (j := 2) rfl (by decide), t_sbe, qi0, setWord_E (j := 3) rfl (by decide), t_sbe, qi0, setWord_E (j := 4) rfl (by decide), t_sbe, qi0, setWord_E (j := 5) rfl (by decide), t_sbe, qi0, setWord_E (j := 6) rfl (by decide), t_sbe, qi0, setWord_E (j := 7) rfl (by decide), t_sbe]
  rfl
theorem sw2_E {x3 x4 x5 x6 p : Int32} (hp : wX0_firstOf 15 2 x3 s = some p) : wX3_setWords_j48 k0 15 2 x3 x4 x5 x6 0 s = some (W8 s (k0 + 6) x3.toInt64 x4.toInt64 (wabs (x3 - x4)).toInt64 0 0 p.toInt64 x5.toInt64 (if x6 = 0 then 1 else 0)) := by
  unfold wX3_setWords_j48 wX3_setWords_j60 wX3_setWords_j104 wX3_setWords_j121 wX3_setWords_j142 wX3_setWords_j159 wX3_setWords_j179 wX3_setWords_j180
  rw [if_pos rfl, setWord_E (j := 0) rfl (by decide), t_sbe, setWord_E (j := 1) rfl (by decide), t_sbe, setWord_E (j := 2) rfl (by decide), t_sbe, qi0, setWord_E (j := 3) rfl (by decide), t_sbe, qi0, setWord_E (j := 4) rfl (by decide), t_sbe, qi1, firstOf_s (s := s) (s' := wupL (wupL (wupL (wupL (wupL s (k0 + 6) 0 x3.toInt64) (k0 + 6) 1 x4.toInt64) (k0 + 6) 2 (wabs (x3 - x4)).toInt64) (k0 + 6) 3 (Int32.toInt64 0)) (k0 + 6) 4 (Int32.toInt64 0)) rfl, hp, t_sbe, setWord_E (j := 5) rfl (by decide), t_sbe, qi1, setWord_E (j := 6) rfl (by decide), t_sbe, qi1]
  by_cases c : x6 = 0
  · rw [if_pos c, if_pos c, setWord_E (j := 7) rfl (by decide), t_sbe]; rfl
  · rw [if_neg c, if_neg c, setWord_E (j := 7) rfl (by decide), t_sbe]; rfl
theorem abs_0 {x y : Int32} (hx : 0 ≤ x.toInt ∧ x.toInt ≤ 99) (hy : 0 ≤ y.toInt ∧ y.toInt ≤ 99) : wabs (x - y) = 0 ↔ x = y := by
  rw [ap_abs hx hy]
  unfold ap
  have e : (x - y).toInt = x.toInt - y.toInt := t_sub (by omega) (by omega)
  have e2 : (y - x).toInt = y.toInt - x.toInt := t_sub (by omega) (by omega)
  by_cases c : x < y
  · have := t_lt c
    rw [if_pos c]
    constructor
    · intro q
      have := congrArg Int32.toInt q
      rw [e2, t_i0] at this
      omega
    · intro q
      rw [q] at this
      omega
  · rw [if_neg c]
    constructor
    · intro q
      have := congrArg Int32.toInt q
      rw [e, t_i0] at this
      exact Int32.toInt_inj.1 (by omega)
    · intro q
      rw [q]
      exact Int32.toInt_inj.1 (by rw [t_sub (by omega) (by omega), t_i0]; omega)
theorem wn01 {α : Type} {a b : α} : (if (0 : Int32) = 1 then a else b) = b := if_neg (by decide)
theorem wn02 {α : Type} {a b : α} : (if (0 : Int32) = 2 then a else b) = b := if_neg (by decide)
theorem wn11 {α : Type} {a b : α} : (if (1 : Int32) = 1 then a else b) = a := if_pos rfl
theorem wn12 {α : Type} {a b : α} : (if (1 : Int32) = 2 then a else b) = b := if_neg (by decide)
theorem wn21 {α : Type} {a b : α} : (if (2 : Int32) = 1 then a else b) = b := if_neg (by decide)
theorem wn22 {α : Type} {a b : α} : (if (2 : Int32) = 2 then a else b) = a := if_pos rfl
/-- the class's words -/
theorem setWords_E (g : JA s) {kd x y : Int32} (hx : TH (s.1 163) kd x) (hy : TH (s.1 163) kd y) : Tot (wX3_setWords k0 15 kd x y s) (fun r => r.1 = s.1 ∧ (∀ k, k ≠ k0 + 6 → r.2 k = s.2 k) ∧ ∀ j, j < 8 → r.2 (k0 + 6) j = WD (s.1 163) kd x.toNatClampNeg y.toNatClampNeg j) := by
  obtain ⟨x8, xo, xi, xl⟩ := th_ix g hx
  obtain ⟨y8, yo, yi, yl⟩ := th_ix g hy
  have a3 : ap x y = ap (Int32.ofNat x.toNatClampNeg) (Int32.ofNat y.toNatClampNeg) := by rw [← xo, ← yo]
  have ab : wabs (x - y) = ap x y := ap_abs ⟨hx.2.1, by omega⟩ ⟨hy.2.1, by omega⟩
  unfold wX3_setWords
  rcases (kind_3 hx.1).2 with rfl | rfl | rfl
  · obtain ⟨p1, p2⟩ := first_0 (s := s) hx.2.1 xl
    obtain ⟨q1, q2⟩ := first_0 (s := s) hy.2.1 yl
    rw [p1, t_sbe, q1, t_sbe, p2, t_sbe, q2, t_sbe, if_neg (by decide), sw0_E (by decide)]
    refine t_some ⟨rfl, fun k hk => W8_n hk, fun j hj => ?_⟩
    rw [W8_at hj]
    unfold WD
    rw [← xo, ← yo, ab, wn01, wn01, wn02, wn02, wn02]
  · obtain ⟨p1, p2⟩ := first_E g hx (Or.inl rfl)
    obtain ⟨q1, q2⟩ := first_E g hy (Or.inl rfl)
    rw [if_pos rfl] at p1 p2 q1 q2
    obtain ⟨n1, n2⟩ := num_99 g hx
    obtain ⟨m1, m2⟩ := num_99 g hy
    rw [p1, t_sbe, q1, t_sbe, p2, t_sbe, q2, t_sbe, if_pos rfl, sw1_E (by decide)]
    refine t_some ⟨rfl, fun k hk => W8_n hk, fun j hj => ?_⟩
    rw [W8_at hj]
    unfold WD
    rw [← xo, ← yo, ab, ap_abs n1 m1, ap_abs n2 m2, wn11, wn11, wn12, wn12, wn12]
  · obtain ⟨p1, p2⟩ := first_E g hx (Or.inr rfl)
    obtain ⟨q1, q2⟩ := first_E g hy (Or.inr rfl)
    rw [if_neg (by decide)] at p1 p2 q1 q2
    obtain ⟨n1, n2⟩ := num_99' g hx
    obtain ⟨m1, m2⟩ := num_99' g hy
    rw [p1, t_sbe, q1, t_sbe, p2, t_sbe, q2, t_sbe, if_neg (by decide), sw2_E p1]
    refine t_some ⟨rfl, fun k hk => W8_n hk, fun j hj => ?_⟩
    rw [W8_at hj]
    unfold WD
    rw [← xo, ← yo, ab, ap_abs n1 m1, wn21, wn21, wn22, wn22, wn22]
    by_cases c : wabs (s.1 163 (26 + 2 * x.toNatClampNeg + 1) - s.1 163 (26 + 2 * y.toNatClampNeg + 1)) = 0
    · rw [if_pos c, if_pos ((abs_0 n2 m2).1 c)]
    · rw [if_neg c, if_neg (fun q => c ((abs_0 n2 m2).2 q))]
end WORDS
