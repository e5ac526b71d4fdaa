/-! Single calls about the hearing: both sides answer the same. -/
section OPS
variable {s : wS}
theorem many_E (g : JA s) : ∀ n, n < 3 → s.1 16 n = s.1 163 n := by
  intro n hn
  obtain ⟨h0, h1, h2⟩ := g.h.1.1
  match n, hn with
  | 0, _ => exact h0
  | 1, _ => exact h1
  | 2, _ => exact h2
theorem kind_3 {x : Int32} (h : 0 ≤ x.toInt ∧ x.toInt ≤ 2) : x.toNatClampNeg < 3 ∧ (x = 0 ∨ x = 1 ∨ x = 2) := by
  refine ⟨by unfold Int32.toNatClampNeg; omega, ?_⟩
  have : x.toInt = 0 ∨ x.toInt = 1 ∨ x.toInt = 2 := by omega
  rcases this with r | r | r
  · exact Or.inl (Int32.toInt_inj.1 r)
  · exact Or.inr (Or.inl (Int32.toInt_inj.1 r))
  · exact Or.inr (Or.inr (Int32.toInt_inj.1 r))
theorem has_E (g : JA s) (x y : Int32) : (TH (s.1 163) x y ∧ wX0_has 15 x y s = some 1 ∧ wX11_isThing x y s = some 1) ∨ (¬ TH (s.1 163) x y ∧ wX0_has 15 x y s = some 0 ∧ wX11_isThing x y s = some 0) := by
  have e3 : (3 : Int32).toInt = 3 := rfl
  obtain ⟨c0, c1, c2, c3, -⟩ := g.c
  have hx0 := g.h.2.2.1
  unfold wX0_has wX11_isThing TH
  rw [isOutside_E, isKind_E]
  by_cases k : 0 ≤ x.toInt ∧ x.toInt ≤ 2
  · obtain ⟨k3, -⟩ := kind_3 k
    rw [if_pos (by omega), t_sbe, if_pos rfl, wld_E (by omega) (by omega), t_sbe, isOutside_E]
    have em : s.1 (15 + 1) x.toNatClampNeg = s.1 163 x.toNatClampNeg := many_E g _ k3
    rw [em]
    by_cases m : 0 ≤ y.toInt ∧ y.toInt < (s.1 163 x.toNatClampNeg).toInt
    · have told : 0 < (s.1 163 0).toInt := by
        by_cases q : (s.1 163 0).toInt = 0
        · exfalso
          obtain ⟨z1, z2⟩ := hx0 (Int32.toInt_inj.1 q)
          have : s.1 163 x.toNatClampNeg = 0 := by
            rcases (kind_3 k).2 with r | r | r <;> rw [r]
            · exact Int32.toInt_inj.1 q
            · exact z1
            · exact z2
          rw [this, t_i0] at m
          omega
        · omega
      rw [if_pos m, t_sbe, if_pos rfl, if_pos ⟨told, k⟩, t_sbe, if_neg (by decide), if_neg (fun q => by have := t_lt q; rw [t_i0] at this; omega), wld_E (by omega) (by omega), t_sbe, if_pos (Int32.lt_iff_toInt_lt.2 m.2)]
      exact Or.inl ⟨⟨k, m⟩, rfl, rfl⟩
    · right
      refine ⟨fun q => m q.2, ?_, ?_⟩
      · rw [if_neg m, t_sbe, if_neg (by decide)]
      · by_cases told : 0 < (s.1 163 0).toInt
        · rw [if_pos ⟨told, k⟩, t_sbe, if_neg (by decide)]
          by_cases y0 : y < 0
          · rw [if_pos y0]
          · have := t_ge y0
            rw [t_i0] at this
            rw [if_neg y0, wld_E (by omega) (by omega), t_sbe, if_neg (fun q => by have := t_lt q; omega)]
        · rw [if_neg (fun q => told q.1), t_sbe, if_pos rfl]
  · right
    refine ⟨fun q => k q.1, ?_, ?_⟩
    · rw [if_neg (by omega), t_sbe, if_neg (by decide)]
    · rw [if_neg (fun q => k q.2), t_sbe, if_pos rfl]
/-- x and y of a ROAD, years and kin of a MAN -/
theorem first_E (g : JA s) {x y : Int32} (h : TH (s.1 163) x y) (hx : x = 1 ∨ x = 2) : wX0_firstOf 15 x y s = some (s.1 163 ((if x = 1 then 10 else 26) + 2 * y.toNatClampNeg)) ∧ wX0_secondOf 15 x y s = some (s.1 163 ((if x = 1 then 10 else 26) + 2 * y.toNatClampNeg + 1)) := by
  obtain ⟨c0, c1, c2, -⟩ := g.c
  obtain ⟨-, hr, hm⟩ := g.h.1
  obtain ⟨-, y0, y1⟩ := h
  have yc := t_cln y0
  have e8 : (8 : Int32).toInt = 8 := rfl
  unfold wX0_firstOf wX0_secondOf wX10_slot
  rw [t_sbe, t_sbe]
  rcases hx with rfl | rfl
  · have f : (s.1 163 (Int32.toNatClampNeg 1)).toInt = (s.1 163 1).toInt := rfl
    rw [f] at y1
    have q : (1 * 8 + y).toInt = 8 + y.toInt := by
      rw [show (1 : Int32) * 8 = 8 from rfl, t_add (by omega) (by omega), e8]
    have qn : (1 * 8 + y).toNatClampNeg = 8 + y.toNatClampNeg := by unfold Int32.toNatClampNeg at *; omega
    rw [if_pos rfl, at_E (n := 24) rfl (by omega) (by omega) (by omega), at_E (n := 24) rfl (by omega) (by omega) (by omega), t_sbe, t_sbe, qn]
    have := hr y.toNatClampNeg (by omega)
    exact ⟨congrArg some this.1, congrArg some this.2⟩
  · have f : (s.1 163 (Int32.toNatClampNeg 2)).toInt = (s.1 163 2).toInt := rfl
    rw [f] at y1
    have q : (2 * 8 + y).toInt = 16 + y.toInt := by
      rw [show (2 : Int32) * 8 = 16 from rfl, t_add (by rw [show (16 : Int32).toInt = 16 from rfl]; omega) (by rw [show (16 : Int32).toInt = 16 from rfl]; omega)]
      rfl
    have qn : (2 * 8 + y).toNatClampNeg = 16 + y.toNatClampNeg := by unfold Int32.toNatClampNeg at *; omega
    rw [if_neg (by decide), at_E (n := 24) rfl (by omega) (by omega) (by omega), at_E (n := 24) rfl (by omega) (by omega) (by omega), t_sbe, t_sbe, qn]
    have := hm y.toNatClampNeg (by omega)
    exact ⟨congrArg some this.1, congrArg some this.2⟩
theorem j65_E {d x y : Int32} {m : Nat} (hd : d.toInt = m) (hm : m ≤ 30) (hx0 : 0 ≤ x.toInt) (hx : x.toInt < 8) (hy0 : 0 ≤ y.toInt) (hy : y.toInt ≤ 1) : wX11_thing_j65 x y d s = some (s.1 163 (m + 2 * x.toNatClampNeg + y.toNatClampNeg)) := by
  unfold wX11_thing_j65
  have q1 := t_2p (x := x) hx0 (by omega)
  have q2 : (d + 2 * x).toInt = m + 2 * x.toInt := by rw [t_add (by omega) (by omega), q1, hd]
  have q3 : (d + 2 * x + y).toInt = m + 2 * x.toInt + y.toInt := by rw [t_add (by omega) (by omega), q2]
  rw [wld_E (by omega) (by omega), t_sbe]
  have : (d + 2 * x + y).toNatClampNeg = m + 2 * x.toNatClampNeg + y.toNatClampNeg := by unfold Int32.toNatClampNeg; omega
  rw [this]
theorem op_thing {x1 x2 x3 : Int32} (g : JA s) : ∃ v, wX10_thing x1 x2 x3 s = some v ∧ wX11_thing x1 x2 x3 s = some v := by
  have e3 : (3 : Int32).toInt = 3 := rfl
  have e2 : (2 : Int32).toInt = 2 := rfl
  obtain ⟨c0, c1, c2, -⟩ := g.c
  unfold wX10_thing wX11_thing
  rw [isOutside_E, isKind_E]
  by_cases k : 0 ≤ x1.toInt ∧ x1.toInt ≤ 2
  · obtain ⟨k3, k4⟩ := kind_3 k
    rw [if_pos (by omega), t_sbe, qi0, isTold15_E g]
    by_cases told : 0 < (s.1 163 0).toInt
    · rw [if_pos told, t_sbe, qi1, if_pos (⟨told, k⟩ : 0 < (s.1 163 0).toInt ∧ 0 ≤ x1.toInt ∧ x1.toInt ≤ 2), t_sbe, qi1, in_02]
      by_cases c : x3 = 2
      · subst c
        rw [if_pos (rfl : (2 : Int32) = 2), if_pos (⟨by decide, by decide⟩ : 0 ≤ (2 : Int32).toInt ∧ (2 : Int32).toInt ≤ 2), t_sbe, qi1, if_pos (rfl : (2 : Int32) = 2)]
        unfold wX0_manyOf
        rw [at_E (n := 3) rfl (by omega) (by omega) (by omega), t_sbe, t_sbe, wld_E (by omega) (by omega), t_sbe]
        refine ⟨_, rfl, ?_⟩
        exact congrArg some (many_E g _ k3).symm
      · have x3n := t_nq c
        rw [e2] at x3n
        rw [if_neg c, isOutside_E]
        by_cases d : 0 ≤ x3.toInt ∧ x3.toInt < 2
        · rw [if_pos (show 0 ≤ x3.toInt ∧ x3.toInt < (2 : Int32).toInt by omega), t_sbe, qi0, if_pos (show 0 ≤ x3.toInt ∧ x3.toInt ≤ 2 by omega), t_sbe, qi1, if_neg c]
          by_cases x10 : x1 = 0
          · rw [if_pos x10, if_pos x10]
            exact ⟨_, rfl, rfl⟩
          · rw [if_neg x10, if_neg x10]
            rcases has_E g x1 x2 with ⟨h, h1, h2⟩ | ⟨h, h1, h2⟩
            · rw [h1, t_sbe, qi1, h2, t_sbe, qi1]
              obtain ⟨f1, f2⟩ := first_E g h (k4.resolve_left x10)
              obtain ⟨-, y0, y1⟩ := h
              have y8 : x2.toInt < 8 := by
                have : (s.1 163 x1.toNatClampNeg).toInt ≤ 8 := by
                  rcases k4 with r | r | r <;> rw [r]
                  · exact c0.2
                  · exact c1.2
                  · exact c2.2
                omega
              have j10 := j65_E (s := s) (d := 10) (m := 10) (x := x2) (y := x3) rfl (by omega) y0 y8 d.1 (by omega)
              have j26 := j65_E (s := s) (d := 26) (m := 26) (x := x2) (y := x3) rfl (by omega) y0 y8 d.1 (by omega)
              have both : (if x1 = 1 then wX11_thing_j65 x2 x3 10 s else wX11_thing_j65 x2 x3 26 s) = some (s.1 163 ((if x1 = 1 then 10 else 26) + 2 * x2.toNatClampNeg + x3.toNatClampNeg)) := by
                by_cases q : x1 = 1
                · rw [if_pos q, if_pos q, j10]
                · rw [if_neg q, if_neg q, j26]
              rw [both]
              by_cases x30 : x3 = 0
              · rw [if_pos x30, f1, t_sbe, x30]
                exact ⟨_, rfl, rfl⟩
              · have x31 : x3 = 1 := Int32.toInt_inj.1 (by
                  have := t_nq x30
                  rw [t_i0] at this
                  show _ = (1 : Int)
                  omega)
                rw [if_neg x30, f2, t_sbe, x31]
                exact ⟨_, rfl, rfl⟩
            · rw [h1, t_sbe, qi0, h2, t_sbe, qi0]
              exact ⟨_, rfl, rfl⟩
        · rw [if_neg (show ¬ (0 ≤ x3.toInt ∧ x3.toInt < (2 : Int32).toInt) by omega), t_sbe, qi1, if_neg (show ¬ (0 ≤ x3.toInt ∧ x3.toInt ≤ 2) by omega), t_sbe, qi0]
          exact ⟨_, rfl, rfl⟩
    · rw [if_neg told, t_sbe, qi0, if_neg (fun q : 0 < (s.1 163 0).toInt ∧ 0 ≤ x1.toInt ∧ x1.toInt ≤ 2 => told q.1), t_sbe, qi0]
      exact ⟨_, rfl, rfl⟩
  · rw [if_neg (show ¬ (0 ≤ x1.toInt ∧ x1.toInt < (3 : Int32).toInt) by omega), t_sbe, qi1, if_neg (fun q : 0 < (s.1 163 0).toInt ∧ 0 ≤ x1.toInt ∧ x1.toInt ≤ 2 => k q.2), t_sbe, qi0]
    exact ⟨_, rfl, rfl⟩
/-- what an ANSWER has -/
theorem ans_E (g : JA s) {a : Nat} {x : Int32} (ha : (a : Int) < (s.1 163 3).toInt) (hx : x.toInt = a) : wX10_at 19 x s = some (s.1 163 (42 + 5 * a)) ∧ wX10_at 20 x s = some (s.1 163 (42 + 5 * a + 1)) ∧ wX10_at 21 x s = some (s.1 163 (42 + 5 * a + 2)) ∧ wX10_at 22 x s = some (s.1 163 (42 + 5 * a + 3)) ∧ wX2_isStruck 14 x s = some (s.1 163 (42 + 5 * a + 4)) := by
  obtain ⟨-, -, -, -, c3, -⟩ := g.c
  obtain ⟨h1, h2, h3, h4, h5⟩ := g.h.2.1.2.1 a ha
  have hz := (g.h.2.2.2.2.1 a ha).2
  have xn : x.toNatClampNeg = a := by unfold Int32.toNatClampNeg; omega
  refine ⟨?_, ?_, ?_, ?_, ?_⟩
  · rw [at_E (n := 40) rfl (by omega) (by omega) (by omega), xn]; exact congrArg some h1
  · rw [at_E (n := 40) rfl (by omega) (by omega) (by omega), xn]; exact congrArg some h2
  · rw [at_E (n := 40) rfl (by omega) (by omega) (by omega), xn]; exact congrArg some h3
  · rw [at_E (n := 40) rfl (by omega) (by omega) (by omega), xn]; exact congrArg some h4
  · unfold wX2_isStruck
    rw [isOutside_E, if_pos ⟨by omega, by rw [show (40 : Int32).toInt = 40 from rfl]; omega⟩, t_sbe, if_pos rfl, wld_E (by omega) (by omega), t_sbe, xn]
    have e : s.1 (14 + 9) a = s.1 163 (42 + 5 * a + 4) := h5
    rw [e]
    rcases hz with r | r <;> rw [r] <;> rfl
theorem answerOf_E {a w : Nat} {x y : Int32} (ha : a < 40) (hx : x.toInt = a) (hw : w ≤ 4) (hy : y.toInt = w) : wX11_answerOf x y s = some (s.1 163 (42 + 5 * a + w)) := by
  have e5 : (5 : Int32).toInt = 5 := rfl
  have e42 : (42 : Int32).toInt = 42 := rfl
  have q1 : (5 * x).toInt = 5 * a := by rw [t_mul (by rw [e5]; omega) (by rw [e5]; omega), e5, hx]
  have q2 : (42 + 5 * x).toInt = 42 + 5 * a := by rw [t_add (by omega) (by omega), q1, e42]
  have q3 : (42 + 5 * x + y).toInt = 42 + 5 * a + w := by rw [t_add (by omega) (by omega), q2, hy]
  unfold wX11_answerOf
  rw [wld_E (by omega) (by omega), t_sbe]
  have : (42 + 5 * x + y).toNatClampNeg = 42 + 5 * a + w := by unfold Int32.toNatClampNeg; omega
  rw [this]
/-- there is such an ANSWER -/
theorem hasAns_E (g : JA s) (x : Int32) : (∃ a : Nat, x.toInt = a ∧ (a : Int) < (s.1 163 3).toInt ∧ wX2_hasAnswer 14 x s = some 1 ∧ wX11_isAnswer x s = some 1) ∨ (¬ (0 ≤ x.toInt ∧ x.toInt < (s.1 163 3).toInt) ∧ wX2_hasAnswer 14 x s = some 0 ∧ wX11_isAnswer x s = some 0) := by
  have h6 : s.1 14 6 = s.1 163 3 := g.h.2.1.1.1
  unfold wX2_hasAnswer wX11_isAnswer
  rw [isOutside_E, h6]
  by_cases c : 0 ≤ x.toInt ∧ x.toInt < (s.1 163 3).toInt
  · left
    refine ⟨x.toNatClampNeg, (t_cln c.1).symm, by rw [t_cln c.1]; exact c.2, ?_, ?_⟩
    · rw [if_pos c, t_sbe, if_pos rfl]
    · rw [if_neg (fun q => by have := t_lt q; rw [t_i0] at this; omega), if_pos (Int32.lt_iff_toInt_lt.2 c.2)]
  · right
    refine ⟨c, ?_, ?_⟩
    · rw [if_neg c, t_sbe, if_neg (by decide)]
    · by_cases d : x < 0
      · rw [if_pos d]
      · have := t_ge d
        rw [t_i0] at this
        rw [if_neg d, if_neg (fun q => c ⟨by omega, t_lt q⟩)]
theorem op_answers {x1 x2 : Int32} (g : JA s) : ∃ v, wX10_answers x1 x2 s = some v ∧ wX11_answers x1 x2 s = some v := by
  obtain ⟨-, -, -, -, c3, -⟩ := g.c
  have hin : wX11_in (x2.toInt64) 0 4 s = some (if 0 ≤ x2.toInt ∧ x2.toInt ≤ 4 then 1 else 0) := in_I (lo := 0) (hi := 4)
  unfold wX10_answers wX11_answers
  rcases hasAns_E g x1 with ⟨a, hx, ha, h1, h2⟩ | ⟨h, h1, h2⟩
  · rw [h1, t_sbe, qi1, h2, t_sbe, qi1, hin]
    obtain ⟨a0, a1, a2, a3, a4⟩ := ans_E g ha hx
    have n : ∀ (c : Int32), x2 = c → 0 ≤ c.toInt → c.toInt ≤ 4 → ((some (if 0 ≤ x2.toInt ∧ x2.toInt ≤ 4 then (1 : Int32) else 0)).bind fun t4 => if t4 = 0 then (some (-1)) else ((wX11_answerOf x1 x2 s).bind fun t7 => some t7)) = some (s.1 163 (42 + 5 * a + c.toNatClampNeg)) := by
      intro c hc c0 c4
      rw [hc, if_pos ⟨c0, c4⟩, t_sbe, qi1, answerOf_E (a := a) (w := c.toNatClampNeg) (by omega) hx (by unfold Int32.toNatClampNeg; omega) (t_cln c0).symm]
      rfl
    by_cases c0 : x2 = 0
    · rw [if_pos c0, a0, n 0 c0 (by decide) (by decide)]
      exact ⟨_, rfl, rfl⟩
    · rw [if_neg c0]
      by_cases c1 : x2 = 1
      · rw [if_pos c1, a1, n 1 c1 (by decide) (by decide)]
        exact ⟨_, rfl, rfl⟩
      · rw [if_neg c1]
        by_cases c2 : x2 = 2
        · rw [if_pos c2, a2, n 2 c2 (by decide) (by decide)]
          exact ⟨_, rfl, rfl⟩
        · rw [if_neg c2]
          by_cases c3 : x2 = 3
          · rw [if_pos c3, a3, n 3 c3 (by decide) (by decide)]
            exact ⟨_, rfl, rfl⟩
          · rw [if_neg c3]
            by_cases c4 : x2 = 4
            · rw [if_pos c4, a4, n 4 c4 (by decide) (by decide), t_sbe]
              refine ⟨s.1 163 (42 + 5 * a + 4), ?_, rfl⟩
              rcases (g.h.2.2.2.2.1 a ha).2 with r | r <;> rw [r] <;> rfl
            · rw [if_neg c4, if_neg (fun q => by
                have k0 := t_nq c0
                have k1 := t_nq c1
                have k2 := t_nq c2
                have k3 := t_nq c3
                have k4 := t_nq c4
                rw [t_i0] at k0
                rw [show (1 : Int32).toInt = 1 from rfl] at k1
                rw [show (2 : Int32).toInt = 2 from rfl] at k2
                rw [show (3 : Int32).toInt = 3 from rfl] at k3
                rw [show (4 : Int32).toInt = 4 from rfl] at k4
                omega), t_sbe, qi0]
              exact ⟨_, rfl, rfl⟩
  · rw [h1, t_sbe, qi0, h2, t_sbe, qi0]
    exact ⟨_, rfl, rfl⟩
end OPS
