/-! strike, only, seed, verdict: both sides alike. -/
section MUT2
variable {s : wS}
/-- the COURT's part is left as it was -/
theorem hc_go {f f' : Nat → Int32} {t : wS} (h : HC 14 f s) (x : HX f) (q : qC f) (e : ∀ k, 16 ≤ k → k ≤ 18 → t.1 k = s.1 k) (r : ∀ j, j ≤ 2 ∨ (10 ≤ j ∧ j ≤ 41) → f' j = f j) : HC 14 f' t ∧ (f' 0 = 0 → f' 1 = 0 ∧ f' 2 = 0) ∧ (∀ i : Nat, (i : Int) < 2 * (f' 1).toInt → 0 ≤ (f' (10 + i)).toInt ∧ (f' (10 + i)).toInt ≤ 99) ∧ (∀ i : Nat, (i : Int) < 2 * (f' 2).toInt → 0 ≤ (f' (26 + i)).toInt ∧ (f' (26 + i)).toInt ≤ 99) := by
  have q1 := q.2.1.2
  have q2 := q.2.2.1.2
  have r0 := r 0 (by omega)
  have r1 := r 1 (by omega)
  have r2 := r 2 (by omega)
  obtain ⟨⟨d0, d1, d2⟩, d3, d4⟩ := h
  obtain ⟨x0, -, -, -, -, x5, x6⟩ := x
  have e2 := e (14 + 2) (by decide) (by decide)
  have e3 := e (14 + 3) (by decide) (by decide)
  have e4 := e (14 + 4) (by decide) (by decide)
  refine ⟨⟨⟨?_, ?_, ?_⟩, fun i hi => ?_, fun i hi => ?_⟩, fun h0 => ?_, fun i hi => ?_, fun i hi => ?_⟩
  · rw [e2, r0]; exact d0
  · rw [e2, r1]; exact d1
  · rw [e2, r2]; exact d2
  · rw [r1] at hi
    rw [e3, e4, r _ (by omega), r _ (by omega)]
    exact d3 i hi
  · rw [r2] at hi
    rw [e3, e4, r _ (by omega), r _ (by omega)]
    exact d4 i hi
  · rw [r0] at h0
    rw [r1, r2]
    exact x0 h0
  · rw [r1] at hi
    rw [r _ (by omega)]
    exact x5 i hi
  · rw [r2] at hi
    rw [r _ (by omega)]
    exact x6 i hi
/-- the ANSWERS' part is left as it was -/
theorem ha_go {f f' : Nat → Int32} {t : wS} (h : HA 14 f s) (x : HX f) (q : qC f) (e6 : t.1 14 6 = s.1 14 6) (e : ∀ k, 19 ≤ k → k ≤ 23 → t.1 k = s.1 k) (r3 : f' 3 = f 3) (r : ∀ j, 42 ≤ j → j ≤ 241 → f' j = f j) : t.1 14 6 = f' 3 ∧ (∀ a : Nat, (a : Int) < (f' 3).toInt → t.1 (14 + 5) a = f' (42 + 5 * a) ∧ t.1 (14 + 6) a = f' (42 + 5 * a + 1) ∧ t.1 (14 + 7) a = f' (42 + 5 * a + 2) ∧ t.1 (14 + 8) a = f' (42 + 5 * a + 3) ∧ t.1 (14 + 9) a = f' (42 + 5 * a + 4)) ∧ (∀ a : Nat, (a : Int) < (f' 3).toInt → (0 ≤ (f' (42 + 5 * a)).toInt ∧ (f' (42 + 5 * a)).toInt ≤ 5) ∧ (f' (42 + 5 * a + 4) = 0 ∨ f' (42 + 5 * a + 4) = 1)) ∧ (∀ w : Int32, cw f' w (f' 3).toNatClampNeg ≤ 9) := by
  have q3 := q.2.2.2.2.1
  obtain ⟨⟨h6, -⟩, hA, -⟩ := h
  obtain ⟨-, -, xA, xw, -⟩ := x
  have n3 := t_cln q3.1
  refine ⟨by rw [e6, r3]; exact h6, fun a ha => ?_, fun a ha => ?_, fun w => ?_⟩
  · rw [r3] at ha
    rw [e (14 + 5) (by decide) (by decide), e (14 + 6) (by decide) (by decide), e (14 + 7) (by decide) (by decide), e (14 + 8) (by decide) (by decide), e (14 + 9) (by decide) (by decide), r _ (by omega) (by omega), r _ (by omega) (by omega), r _ (by omega) (by omega), r _ (by omega) (by omega), r _ (by omega) (by omega)]
    exact hA a ha
  · rw [r3] at ha
    rw [r _ (by omega) (by omega), r _ (by omega) (by omega)]
    exact xA a ha
  · rw [r3, cw_congr (f := f) (fun a ha => r _ (by omega) (by omega))]
    exact xw w
/-- the VERDICTS' part is left as it was -/
theorem hv_go {f f' : Nat → Int32} {t : wS} (h : HA 14 f s) (x : HX f) (q : qC f) (e10 : t.1 14 10 = s.1 14 10) (e : ∀ k, 24 ≤ k → k ≤ 25 → t.1 k = s.1 k) (r5 : f' 5 = f 5) (r : ∀ j, 242 ≤ j → j ≤ 261 → f' j = f j) (rc : ∀ j, j ≤ 2 → f' j = f j) : t.1 14 10 = f' 5 ∧ (∀ v : Nat, (v : Int) < (f' 5).toInt → t.1 (14 + 10) v = f' (242 + 2 * v) ∧ t.1 (14 + 11) v = f' (242 + 2 * v + 1)) ∧ (∀ v : Nat, (v : Int) < (f' 5).toInt → 0 ≤ (f' (242 + 2 * v)).toInt ∧ (f' (242 + 2 * v)).toInt < (f' 0).toInt * (f' 1).toInt * (f' 2).toInt) := by
  have q5 := q.2.2.2.2.2.1
  obtain ⟨⟨-, -, h10, -⟩, -, hV⟩ := h
  obtain ⟨-, -, -, -, xv, -⟩ := x
  refine ⟨by rw [e10, r5]; exact h10, fun a ha => ?_, fun a ha => ?_⟩
  · rw [r5] at ha
    rw [e (14 + 10) (by decide) (by decide), e (14 + 11) (by decide) (by decide), r _ (by omega) (by omega), r _ (by omega) (by omega)]
    exact hV a ha
  · rw [r5] at ha
    rw [r _ (by omega) (by omega), rc 0 (by decide), rc 1 (by decide), rc 2 (by decide)]
    exact xv a ha
theorem op_strike {x1 x2 : Int32} (g : JA s) (hx2 : x2 = 0 ∨ x2 = 1) : ∃ v s1 v2 s2, wX10_strike x1 x2 s = some (v, s1) ∧ wX11_strike x1 x2 s1 = some (v2, s2) ∧ v = v2 ∧ JA s2 := by
  have c3 := g.c.2.2.2.2.1
  rcases hasAns_E g x1 with ⟨a, hx, ha, h1, h2⟩ | ⟨h, h1, h2⟩
  · have ea := (ans_E g ha hx).2.2.2.2
    have zf := (g.h.2.2.2.2.1 a ha).2
    have xn : x1.toNatClampNeg = a := by unfold Int32.toNatClampNeg; omega
    by_cases c : s.1 163 (42 + 5 * a + 4) = x2
    · refine ⟨0, s, 0, s, ?_, ?_, rfl, g⟩
      · unfold wX10_strike
        rw [h1, t_sbe, qi1, ea, t_sbe, if_pos c]
      · unfold wX11_strike wX11_strike_j23
        rw [h2, t_sbe, qi1, answerOf_E (a := a) (w := 4) (by omega) hx (by decide) rfl, t_sbe, c]
        rcases hx2 with r | r <;> rw [r] <;> rfl
    · have e1 : wX10_strike x1 x2 s = some (1, wupI s 23 a x2) := by
        unfold wX10_strike wX2_setStruck
        rw [h1, t_sbe, qi1, ea, t_sbe, if_neg c, isOutside_E, if_pos ⟨by omega, by rw [show (40 : Int32).toInt = 40 from rfl]; omega⟩, t_sbe, qi0, wstZ_E (by omega) (by omega), t_sbe, t_sbe, xn]
        rcases hx2 with r | r <;> rw [r] <;> rfl
      have i1 : INV (wupI s 23 a x2) := by
        obtain ⟨r, er, p1⟩ := wX10_strike_T (x1 := x1) (x2 := x2) (s := s)
        rw [e1] at er
        obtain rfl := Option.some.inj er
        exact INV_C p1 g.inv (by rw [p1 0 6 rfl]; exact g.inv.1) rfl (fun _ => rfl) ⟨rfl, rfl, rfl, rfl⟩ (fun _ => ⟨rfl, rfl, rfl, rfl, rfl, rfl⟩) rfl rfl
      have u163 : (wupI s 23 a x2).1 163 = s.1 163 := wupI_n (by decide)
      have h2' : wX11_isAnswer x1 (wupI s 23 a x2) = some 1 := by
        unfold wX11_isAnswer at *
        rw [u163]
        exact h2
      have e42 : (42 : Int32).toInt = 42 := rfl
      have e5 : (5 : Int32).toInt = 5 := rfl
      have e4 : (4 : Int32).toInt = 4 := rfl
      have q1 : (5 * x1).toInt = 5 * a := by rw [t_mul (by rw [e5]; omega) (by rw [e5]; omega), e5, hx]
      have q2 : (42 + 5 * x1).toInt = 42 + 5 * a := by rw [t_add (by omega) (by omega), q1, e42]
      have q3 : (42 + 5 * x1 + 4).toInt = 42 + 5 * a + 4 := by rw [t_add (by omega) (by omega), q2, e4]
      have q3n : (42 + 5 * x1 + 4).toNatClampNeg = 42 + 5 * a + 4 := by unfold Int32.toNatClampNeg; omega
      have e2 : wX11_strike x1 x2 (wupI s 23 a x2) = some (1, wupI (wupI s 23 a x2) 163 (42 + 5 * a + 4) x2) := by
        unfold wX11_strike wX11_strike_j23 wX11_strike_j50
        rw [h2', t_sbe, qi1, answerOf_E (a := a) (w := 4) (by omega) hx (by decide) rfl, t_sbe, u163]
        rcases zf with z | z
        · rw [z, if_neg (by decide), if_neg (by rw [← z]; exact c)]
          rcases hx2 with r | r
          · exact absurd (z.trans r.symm) c
          · rw [r, if_neg (by decide), wst_E (by omega) (by omega), t_sbe, q3n]
        · rw [z, if_pos rfl, if_neg (by rw [← z]; exact c)]
          rcases hx2 with r | r
          · rw [r, if_pos rfl, wst_E (by omega) (by omega), t_sbe, q3n]
          · exact absurd (z.trans r.symm) c
      have ri : RI (wupI (wupI s 23 a x2) 163 (42 + 5 * a + 4) x2) := by
        obtain ⟨r, er, p2, -⟩ := wX11_strike_T (x1 := x1) (x2 := x2) (s := wupI s 23 a x2) i1.2.1
        rw [e2] at er
        obtain rfl := Option.some.inj er
        exact p2
      refine ⟨_, _, _, _, e1, e2, rfl, JA_hear g ((wA_I (bHe_c (by omega))).trans (wA_I (by unfold bHe; rfl))) ri ?_⟩
      have w : ∀ k, k ≠ 163 → k ≠ 23 → (wupI (wupI s 23 a x2) 163 (42 + 5 * a + 4) x2).1 k = s.1 k := fun k k1 k2 => by rw [wupI_n k1, wupI_n k2]
      have w23 : (wupI (wupI s 23 a x2) 163 (42 + 5 * a + 4) x2).1 23 = upd (s.1 23) a x2 := by rw [wupI_n (by decide), wupI_k]
      have f : (wupI (wupI s 23 a x2) 163 (42 + 5 * a + 4) x2).1 163 = upd (s.1 163) (42 + 5 * a + 4) x2 := by rw [wupI_k, u163]
      rw [f]
      have ff : ∀ j, j ≠ 42 + 5 * a + 4 → upd (s.1 163) (42 + 5 * a + 4) x2 j = s.1 163 j := fun j hj => updI_n hj
      have fs : upd (s.1 163) (42 + 5 * a + 4) x2 (42 + 5 * a + 4) = x2 := updI_s
      have r3 := ff 3 (by omega)
      have r4 := ff 4 (by omega)
      have r6 := ff 6 (by omega)
      generalize wupI (wupI s 23 a x2) 163 (42 + 5 * a + 4) x2 = t at *
      generalize upd (s.1 163) (42 + 5 * a + 4) x2 = f' at *
      obtain ⟨C, x0, x5, x6⟩ := hc_go (f' := f') (t := t) g.h.1 g.h.2.2 g.c (fun k k1 k2 => w k (by omega) (by omega)) (fun j hj => ff j (by omega))
      obtain ⟨v10, V, xv⟩ := hv_go (f' := f') (t := t) g.h.2.1 g.h.2.2 g.c (by rw [w 14 (by decide) (by decide)]) (fun k k1 k2 => w k (by omega) (by omega)) (ff 5 (by omega)) (fun j h1 h2 => ff j (by omega)) (fun j h1 => ff j (by omega))
      obtain ⟨⟨d6, d7, -, d11⟩, hA, -⟩ := g.h.2.1
      obtain ⟨-, x4, xA, xw, -⟩ := g.h.2.2
      refine ⟨C, ⟨⟨?_, ?_, v10, ?_⟩, fun b hb => ?_, V⟩, x0, ?_, fun b hb => ?_, fun b => ?_, xv, x5, x6⟩
      · rw [w 14 (by decide) (by decide), r3]; exact d6
      · rw [w 14 (by decide) (by decide), r4]; exact d7
      · rw [w 14 (by decide) (by decide), r6]; exact d11
      · rw [r3] at hb
        rw [w (14 + 5) (by decide) (by decide), w (14 + 6) (by decide) (by decide), w (14 + 7) (by decide) (by decide), w (14 + 8) (by decide) (by decide), w23, ff (42 + 5 * b) (by omega), ff (42 + 5 * b + 1) (by omega), ff (42 + 5 * b + 2) (by omega), ff (42 + 5 * b + 3) (by omega)]
        obtain ⟨b1, b2, b3, b4, b5⟩ := hA b hb
        refine ⟨b1, b2, b3, b4, ?_⟩
        by_cases k : b = a
        · rw [k, fs, updI_s]
        · rw [updI_n k, ff _ (by omega)]; exact b5
      · rw [r4]; exact x4
      · rw [r3] at hb
        rw [ff (42 + 5 * b) (by omega)]
        refine ⟨(xA b hb).1, ?_⟩
        by_cases k : b = a
        · rw [k, fs]; exact hx2
        · rw [ff _ (by omega)]; exact (xA b hb).2
      · rw [r3, cw_congr (f := s.1 163) (fun a' ha' => ff _ (by omega))]
        exact xw b
  · refine ⟨0, s, 0, s, ?_, ?_, rfl, g⟩
    · unfold wX10_strike
      rw [h1, t_sbe, qi0]
    · unfold wX11_strike
      rw [h2, t_sbe, qi0]
theorem op_only {x1 : Int32} (g : JA s) : ∃ v s1 v2 s2, wX10_only x1 s = some (v, s1) ∧ wX11_only x1 s1 = some (v2, s2) ∧ v = v2 ∧ JA s2 := by
  have hin : ∀ u : wS, wX11_in (x1.toInt64) (-1) 40 u = some (if (-1) ≤ x1.toInt ∧ x1.toInt ≤ 40 then 1 else 0) := fun u => in_I (s := u) (lo := -1) (hi := 40)
  by_cases c : (-1) ≤ x1.toInt ∧ x1.toInt ≤ 40
  · have e1 : wX10_only x1 s = some (s.1 14 7, wupI s 14 7 x1) := by
      unfold wX10_only
      rw [if_neg (fun q => by have := t_lt q; rw [show (-1 : Int32).toInt = -1 from rfl] at this; omega), if_neg (fun q => by have := t_lt q; rw [show (40 : Int32).toInt = 40 from rfl] at this; omega)]
      rfl
    have i1 : INV (wupI s 14 7 x1) := by
      obtain ⟨r, er, p1⟩ := wX10_only_T (x1 := x1) (s := s)
      rw [e1] at er
      obtain rfl := Option.some.inj er
      exact INV_C p1 g.inv (by rw [p1 0 6 rfl]; exact g.inv.1) rfl (fun _ => rfl) ⟨rfl, rfl, rfl, rfl⟩ (fun _ => ⟨rfl, rfl, rfl, rfl, rfl, rfl⟩) rfl rfl
    have u163 : (wupI s 14 7 x1).1 163 = s.1 163 := wupI_n (by decide)
    have e2 : wX11_only x1 (wupI s 14 7 x1) = some (s.1 163 4, wupI (wupI s 14 7 x1) 163 4 x1) := by
      unfold wX11_only
      rw [hin, if_pos c, t_sbe, qi1, wst_E (by decide) (by decide), t_sbe, u163]
      rfl
    have ri : RI (wupI (wupI s 14 7 x1) 163 4 x1) := by
      obtain ⟨r, er, p2, -⟩ := wX11_only_T (x1 := x1) (s := wupI s 14 7 x1) i1.2.1
      rw [e2] at er
      obtain rfl := Option.some.inj er
      exact p2
    obtain ⟨⟨d6, d7, d10, d11⟩, -⟩ := g.h.2.1
    refine ⟨_, _, _, _, e1, e2, d7, JA_hear g ((wA_I (bHe_c (by omega))).trans (wA_I (by unfold bHe; rfl))) ri ?_⟩
    have w : ∀ k, k ≠ 163 → k ≠ 14 → (wupI (wupI s 14 7 x1) 163 4 x1).1 k = s.1 k := fun k k1 k2 => by rw [wupI_n k1, wupI_n k2]
    have w14 : (wupI (wupI s 14 7 x1) 163 4 x1).1 14 = upd (s.1 14) 7 x1 := by rw [wupI_n (by decide), wupI_k]
    have f : (wupI (wupI s 14 7 x1) 163 4 x1).1 163 = upd (s.1 163) 4 x1 := by rw [wupI_k, u163]
    rw [f]
    have ff : ∀ j, j ≠ 4 → upd (s.1 163) 4 x1 j = s.1 163 j := fun j hj => updI_n hj
    have fs : upd (s.1 163) 4 x1 4 = x1 := updI_s
    have r6 := ff 6 (by omega)
    generalize wupI (wupI s 14 7 x1) 163 4 x1 = t at *
    generalize upd (s.1 163) 4 x1 = f' at *
    obtain ⟨C, x0, x5, x6⟩ := hc_go (f' := f') (t := t) g.h.1 g.h.2.2 g.c (fun k k1 k2 => w k (by omega) (by omega)) (fun j hj => ff j (by omega))
    obtain ⟨v10, V, xv⟩ := hv_go (f' := f') (t := t) g.h.2.1 g.h.2.2 g.c (by rw [w14]; exact updI_n (by decide)) (fun k k1 k2 => w k (by omega) (by omega)) (ff 5 (by omega)) (fun j h1 h2 => ff j (by omega)) (fun j h1 => ff j (by omega))
    obtain ⟨v6, A, xA, xw⟩ := ha_go (f' := f') (t := t) g.h.2.1 g.h.2.2 g.c (by rw [w14]; exact updI_n (by decide)) (fun k k1 k2 => w k (by omega) (by omega)) (ff 3 (by omega)) (fun j h1 h2 => ff j (by omega))
    refine ⟨C, ⟨⟨v6, ?_, v10, ?_⟩, A, V⟩, x0, ?_, xA, xw, xv, x5, x6⟩
    · rw [w14, updI_s, fs]
    · rw [w14, r6]; exact (updI_n (by decide)).trans d11
    · rw [fs]; exact c
  · refine ⟨(Int8.ofInt (-2)).toInt32, s, (Int8.ofInt (-2)).toInt32, s, ?_, ?_, rfl, g⟩
    · unfold wX10_only
      by_cases d : x1 < -1
      · rw [if_pos d]
      · have := t_ge d
        rw [show (-1 : Int32).toInt = -1 from rfl] at this
        rw [if_neg d, if_pos (Int32.lt_iff_toInt_lt.2 (by rw [show (40 : Int32).toInt = 40 from rfl]; omega))]
    · unfold wX11_only
      rw [hin, if_neg c, t_sbe, qi0]
theorem op_seed {x1 : Int32} (g : JA s) : ∃ v s1 v2 s2, wX10_seed x1 s = some (v, s1) ∧ wX11_seed x1 s1 = some (v2, s2) ∧ v = v2 ∧ JA s2 := by
  by_cases c : x1 < 0
  · refine ⟨-1, s, -1, s, ?_, ?_, rfl, g⟩
    · unfold wX10_seed; rw [if_pos c]
    · unfold wX11_seed; rw [if_pos c]
  · have e1 : wX10_seed x1 s = some (s.1 14 11, wupI s 14 11 x1) := by
      unfold wX10_seed
      rw [if_neg c]
      rfl
    have r1 : RI (wupI s 14 11 x1) := by
      obtain ⟨r, er, p1⟩ := wX10_seed_T (x1 := x1) (s := s)
      rw [e1] at er
      obtain rfl := Option.some.inj er
      exact (RI_taped p1.1 g.1 (fun _ => rfl) (fun _ => rfl) (fun _ => rfl) (fun _ => rfl) rfl (fun _ => rfl) (fun _ => rfl) (by rw [p1.1 152 1 rfl]; exact g.1.2.1)).1
    have u163 : (wupI s 14 11 x1).1 163 = s.1 163 := wupI_n (by decide)
    have e2 : wX11_seed x1 (wupI s 14 11 x1) = some (s.1 163 6, wupI (wupI s 14 11 x1) 163 6 x1) := by
      unfold wX11_seed
      rw [if_neg c, wst_E (by decide) (by decide), t_sbe, u163]
      rfl
    have ri : RI (wupI (wupI s 14 11 x1) 163 6 x1) := by
      obtain ⟨r, er, p2, -⟩ := wX11_seed_T (x1 := x1) (s := wupI s 14 11 x1) r1
      rw [e2] at er
      obtain rfl := Option.some.inj er
      exact p2
    obtain ⟨⟨d6, d7, d10, d11⟩, -⟩ := g.h.2.1
    refine ⟨_, _, _, _, e1, e2, d11, JA_hear g ((wA_I (bHe_c (by omega))).trans (wA_I (by unfold bHe; rfl))) ri ?_⟩
    have w : ∀ k, k ≠ 163 → k ≠ 14 → (wupI (wupI s 14 11 x1) 163 6 x1).1 k = s.1 k := fun k k1 k2 => by rw [wupI_n k1, wupI_n k2]
    have w14 : (wupI (wupI s 14 11 x1) 163 6 x1).1 14 = upd (s.1 14) 11 x1 := by rw [wupI_n (by decide), wupI_k]
    have f : (wupI (wupI s 14 11 x1) 163 6 x1).1 163 = upd (s.1 163) 6 x1 := by rw [wupI_k, u163]
    rw [f]
    have ff : ∀ j, j ≠ 6 → upd (s.1 163) 6 x1 j = s.1 163 j := fun j hj => updI_n hj
    have fs : upd (s.1 163) 6 x1 6 = x1 := updI_s
    have r4 := ff 4 (by omega)
    generalize wupI (wupI s 14 11 x1) 163 6 x1 = t at *
    generalize upd (s.1 163) 6 x1 = f' at *
    obtain ⟨C, x0, x5, x6⟩ := hc_go (f' := f') (t := t) g.h.1 g.h.2.2 g.c (fun k k1 k2 => w k (by omega) (by omega)) (fun j hj => ff j (by omega))
    obtain ⟨v10, V, xv⟩ := hv_go (f' := f') (t := t) g.h.2.1 g.h.2.2 g.c (by rw [w14]; exact updI_n (by decide)) (fun k k1 k2 => w k (by omega) (by omega)) (ff 5 (by omega)) (fun j h1 h2 => ff j (by omega)) (fun j h1 => ff j (by omega))
    obtain ⟨v6, A, xA, xw⟩ := ha_go (f' := f') (t := t) g.h.2.1 g.h.2.2 g.c (by rw [w14]; exact updI_n (by decide)) (fun k k1 k2 => w k (by omega) (by omega)) (ff 3 (by omega)) (fun j h1 h2 => ff j (by omega))
    refine ⟨C, ⟨⟨v6, ?_, v10, ?_⟩, A, V⟩, x0, ?_, xA, xw, xv, x5, x6⟩
    · rw [w14, r4]; exact (updI_n (by decide)).trans d7
    · rw [w14, updI_s, fs]
    · rw [r4]; exact g.h.2.2.2.1
end MUT2
