/-! A LAW in use; far. -/
/-- what is between the calls, with the tables -/
noncomputable def TBS (s : wS) : Prop := ∀ l : Nat, (l : Int) < (s.1 152 2).toInt → s.1 (44 + 10 * l) 12 = 0 ∨ ∃ x, LK2 l x s ∧ TBL l x s
noncomputable def JB (s : wS) : Prop := JA s ∧ TBS s
section USE
variable {s : wS}
/-- the LAW is there and a COURT is told -/
noncomputable def UL (s : wS) (x1 : Int32) : Prop := 0 < (s.1 163 0).toInt ∧ 0 ≤ x1.toInt ∧ x1.toInt < (s.1 152 2).toInt
theorem lawInUse_E (g : JB s) (x1 : Int32) : (¬ UL s x1 ∧ wX10_lawInUse x1 s = some (none, s)) ∨ (UL s x1 ∧ ∃ l s2 x, l < 6 ∧ x1 = Int32.ofNat l ∧ (l : Int) < (s.1 152 2).toInt ∧ wX10_lawInUse x1 s = some (some (44 + 10 * l), s2) ∧ MG (44 + 10 * l) s s2 ∧ LK2 l x s2 ∧ TBL l x s2 ∧ ¬ s2.1 (44 + 10 * l) 12 = 0) := by
  obtain ⟨ja, tb⟩ := g
  have c6 := ja.1.1.2.1
  unfold wX10_lawInUse UL
  rw [isTold15_E ja]
  by_cases told : 0 < (s.1 163 0).toInt
  · rw [if_pos told, t_sbe, qi1, isOutside_E, ja.2.1]
    by_cases k : 0 ≤ x1.toInt ∧ x1.toInt < (s.1 152 2).toInt
    · right
      refine ⟨⟨told, k⟩, x1.toNatClampNeg, ?_⟩
      have xc := t_cln k.1
      have hl6 : x1.toNatClampNeg < 6 := by omega
      obtain ⟨k2, hk, hk3, rfl⟩ := t_ldR3 (i := x1) k.1 (by omega)
      rw [if_pos k, t_sbe, qi0, isOutside_E, if_pos ⟨k.1, by rw [show (6 : Int32).toInt = 6 from rfl]; omega⟩, t_sbe, qi0, hk, t_sbe]
      by_cases z : s.1 (44 + 10 * x1.toNatClampNeg) 12 = 0
      · obtain ⟨x, lk⟩ := ja.lk (l := x1.toNatClampNeg) (by omega)
        obtain ⟨r, er, m, fl, t⟩ := measure_E hl6 ja lk
        rw [if_pos z, er, t_sbe]
        exact ⟨r, x, hl6, (t_oc k.1).symm, by omega, rfl, m, m.lk hl6 lk, t, fl⟩
      · rcases tb x1.toNatClampNeg (by omega) with q | ⟨x, lk, t⟩
        · exact absurd q z
        · rw [if_neg z]
          exact ⟨s, x, hl6, (t_oc k.1).symm, by omega, rfl, MG.refl, lk, t, z⟩
    · left
      refine ⟨fun q => k q.2, ?_⟩
      rw [if_neg k, t_sbe, qi1]
  · left
    refine ⟨fun q => told q.1, ?_⟩
    rw [if_neg told, t_sbe, qi0]
theorem isLaw_E {x1 : Int32} : wX11_isLaw x1 s = some (if 0 ≤ x1.toInt ∧ x1.toInt < (s.1 152 2).toInt then 1 else 0) := by
  unfold wX11_isLaw
  by_cases c : x1 < 0
  · have := t_lt c
    rw [t_i0] at this
    rw [if_pos c, if_neg (by omega)]
  · have a := t_ge c
    rw [t_i0] at a
    rw [if_neg c]
    by_cases d : x1 < s.1 152 2
    · rw [if_pos d, if_pos ⟨a, t_lt d⟩]
    · rw [if_neg d, if_neg (fun q => d (Int32.lt_iff_toInt_lt.2 q.2))]
theorem th_0 (g : JA s) (h : ¬ 0 < (s.1 163 0).toInt) {x y : Int32} : ¬ TH (s.1 163) x y := by
  rintro ⟨k, y0, y1⟩
  obtain ⟨c0, -⟩ := g.c
  have z : s.1 163 0 = 0 := Int32.toInt_inj.1 (by rw [t_i0]; omega)
  obtain ⟨z1, z2⟩ := g.h.2.2.1 z
  have : s.1 163 x.toNatClampNeg = 0 := by
    rcases (kind_3 k).2 with r | r | r <;> rw [r]
    · exact z
    · exact z1
    · exact z2
  rw [this, t_i0] at y1
  omega
/-- one of the three kinds as a number -/
theorem kd_ofNat {kd : Int32} (h : 0 ≤ kd.toInt ∧ kd.toInt ≤ 2) : kd = Int32.ofNat kd.toNatClampNeg ∧ kd.toNatClampNeg < 3 := ⟨(t_oc h.1).symm, (kind_3 h).1⟩
theorem TBL.far {l : Nat} {x : lC} (g : JA s) (t : TBL l x s) {kd a b : Int32} (ha : TH (s.1 163) kd a) (hb : TH (s.1 163) kd b) : s.2 (44 + 10 * l + 8) (64 * kd.toNatClampNeg + 8 * a.toNatClampNeg + b.toNatClampNeg) = FVx x (s.1 163) kd a.toNatClampNeg b.toNatClampNeg := by
  obtain ⟨M, -, hM, hM8⟩ := many_V g ha.1
  obtain ⟨k1, k2⟩ := kd_ofNat ha.1
  have t := t kd.toNatClampNeg k2
  rw [← k1] at t
  have eM : (Int32.ofNat M).toInt = M := t_on (by omega)
  have a1 := ha.2.2
  have b1 := hb.2.2
  rw [hM, eM] at a1 b1
  have ac := t_cln ha.2.1
  have bc := t_cln hb.2.1
  exact (t M hM hM8 _ _ (by omega) (by omega)).1
theorem op_far {x1 x2 x3 x4 : Int32} (g : JB s) : ∃ v s1 v2 s2, wX10_far x1 x2 x3 x4 s = some (v, s1) ∧ wX11_far x1 x2 x3 x4 s1 = some (v2, s2) ∧ v = v2 := by
  unfold wX10_far wX11_far
  rcases lawInUse_E g x1 with ⟨no, e⟩ | ⟨us, l, s2, x, hl6, hx1, hlc, e, m, lk, t, fl⟩
  · rw [e, t_sbe]
    refine ⟨-1000000000000, s, -1000000000000, s, rfl, ?_, rfl⟩
    rw [isLaw_E]
    by_cases k : 0 ≤ x1.toInt ∧ x1.toInt < (s.1 152 2).toInt
    · rw [if_pos k, t_sbe, qi1]
      have nt : ¬ 0 < (s.1 163 0).toInt := fun q => no ⟨q, k⟩
      rcases has_E g.1 x2 x3 with ⟨a, -, -⟩ | ⟨-, -, a⟩
      · exact absurd a (th_0 g.1 nt)
      · rw [a, t_sbe, qi0]
    · rw [if_neg k, t_sbe, qi0]
  · rw [e, t_sbe]
    have g2 : JA s2 := m.ja hl6 g.1
    have c2 : s2.1 152 2 = s.1 152 2 := m.1 152 2 (by omega) (by omega)
    show ∃ v s1 v2 s3, ((wX0_has 15 x2 x3 s2).bind fun t5 => if t5 = 0 then (some ((-1000000000000), s2)) else ((wX0_has 15 x2 x4 s2).bind fun t8 => if t8 = 0 then (some ((-1000000000000), s2)) else ((wX3_farOf (44 + 10 * l) x2 x3 x4 s2).bind fun t11 => some (t11, s2)))) = some (v, s1) ∧ _
    rcases has_E g2 x2 x3 with ⟨a, a1, a2⟩ | ⟨-, a1, a2⟩
    · rw [a1, t_sbe, qi1]
      rcases has_E g2 x2 x4 with ⟨b, b1, b2⟩ | ⟨-, b1, b2⟩
      · obtain ⟨x38, xo3, -, -⟩ := th_ix g2 a
        obtain ⟨x48, xo4, -, -⟩ := th_ix g2 b
        rw [b1, t_sbe, qi1, farOf_E a.1 xo3 x38 xo4 x48, t_sbe, TBL.far g2 t a b]
        obtain ⟨⟨v, s3⟩, ev, hv, -⟩ := farR_E g2 (by rw [c2]; exact hlc) lk hx1 a b
        refine ⟨_, s2, v, s3, rfl, ?_, hv.symm⟩
        rw [isLaw_E, if_pos ⟨us.2.1, by rw [c2]; exact us.2.2⟩, t_sbe, qi1, a2, t_sbe, qi1, b2, t_sbe, qi1, ev]
        rfl
      · rw [b1, t_sbe, qi0]
        refine ⟨_, _, -1000000000000, s2, rfl, ?_, rfl⟩
        rw [isLaw_E, if_pos ⟨us.2.1, by rw [c2]; exact us.2.2⟩, t_sbe, qi1, a2, t_sbe, qi1, b2, t_sbe, qi0]
    · rw [a1, t_sbe, qi0]
      refine ⟨_, _, -1000000000000, s2, rfl, ?_, rfl⟩
      rw [isLaw_E, if_pos ⟨us.2.1, by rw [c2]; exact us.2.2⟩, t_sbe, qi1, a2, t_sbe, qi0]
end USE
