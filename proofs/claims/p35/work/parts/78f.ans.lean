/-! answer: both sides take it down, or none. -/
section ANS
variable {s : wS}
theorem cw_congr {f f' : Nat → Int32} {w : Int32} : ∀ {n : Nat}, (∀ a, a < n → f' (42 + 5 * a) = f (42 + 5 * a)) → cw f' w n = cw f w n := by
  intro n
  induction n with
  | zero => intro _; rfl
  | succ n ih =>
    intro h
    show cw f' w n + _ = cw f w n + _
    rw [ih (fun a ha => h a (by omega)), h n (by omega)]
theorem cw_le {f : Nat → Int32} {w : Int32} : ∀ {n : Nat}, cw f w n ≤ n := by
  intro n
  induction n with
  | zero => exact Nat.le_refl _
  | succ n ih =>
    show cw f w n + (if f (42 + 5 * n) = w then 1 else 0) ≤ n + 1
    by_cases c : f (42 + 5 * n) = w
    · rw [if_pos c]; omega
    · rw [if_neg c]; omega
theorem still_h4_E (g : JA s) {x1 : Int32} {N : Nat} (hN : s.1 163 3 = Int32.ofNat N) (h40 : N ≤ 40) : ∀ (n : Nat) {i : Nat} {x2 x3 : Int32}, x3 = Int32.ofNat i → i ≤ N → x2 = Int32.ofNat (cw (s.1 163) x1 i) → N - i < n → wX2_mayStillGive_h4 14 x1 s n x2 x3 = some (Int32.ofNat (cw (s.1 163) x1 N)) := by
  intro n
  induction n with
  | zero => intro i x2 x3 _ _ _ hm; exact absurd hm (by omega)
  | succ n ih =>
    intro i x2 x3 h3 hi h2 hm
    have h6 : s.1 14 6 = s.1 163 3 := g.h.2.1.1.1
    have e3 : x3.toInt = i := by rw [h3, t_on (by omega)]
    have eN : (Int32.ofNat N).toInt = N := t_on (by omega)
    rw [wX2_mayStillGive_h4, h6, hN]
    by_cases c : x3 < Int32.ofNat N
    · have hc := t_lt c
      rw [e3, eN] at hc
      rw [if_pos c]
      have := (ans_E g (a := i) (x := x3) (by rw [hN, eN]; omega) e3).1
      rw [this, t_sbe]
      have e1 : x3 + 1 = Int32.ofNat (i + 1) := Int32.toInt_inj.1 (by rw [t_p1 (by omega) (by omega), t_on (by omega), e3]; rfl)
      have cl := cw_le (f := s.1 163) (w := x1) (n := i)
      unfold wX2_mayStillGive_j27
      by_cases cx : s.1 163 (42 + 5 * i) = x1
      · have c1 : cw (s.1 163) x1 (i + 1) = cw (s.1 163) x1 i + 1 := by
          show cw (s.1 163) x1 i + (if s.1 163 (42 + 5 * i) = x1 then 1 else 0) = _
          rw [if_pos cx]
        rw [if_pos cx]
        refine ih e1 (by omega) ?_ (by omega)
        rw [c1, h2]
        exact Int32.toInt_inj.1 (by rw [t_p1 (by rw [t_on (by omega)]; omega) (by rw [t_on (by omega)]; omega), t_on (by omega), t_on (by omega)]; rfl)
      · have c1 : cw (s.1 163) x1 (i + 1) = cw (s.1 163) x1 i := by
          show cw (s.1 163) x1 i + (if s.1 163 (42 + 5 * i) = x1 then 1 else 0) = _
          rw [if_neg cx, Nat.add_zero]
        rw [if_neg cx]
        exact ih e1 (by omega) (by rw [c1]; exact h2) (by omega)
    · have hc := t_ge c
      rw [e3, eN] at hc
      obtain rfl : i = N := by omega
      rw [if_neg c, h2]
theorem by_h4_E {x1 : Int32} {N : Nat} (hN : s.1 163 3 = Int32.ofNat N) (h40 : N ≤ 40) : ∀ (n : Nat) {i : Nat} {x2 x3 : Int32}, x3 = Int32.ofNat i → i ≤ N → x2 = Int32.ofNat (cw (s.1 163) x1 i) → N - i < n → wX11_answersBy_h4 x1 s n x2 x3 = some (Int32.ofNat (cw (s.1 163) x1 N)) := by
  intro n
  induction n with
  | zero => intro i x2 x3 _ _ _ hm; exact absurd hm (by omega)
  | succ n ih =>
    intro i x2 x3 h3 hi h2 hm
    have e3 : x3.toInt = i := by rw [h3, t_on (by omega)]
    have eN : (Int32.ofNat N).toInt = N := t_on (by omega)
    rw [wX11_answersBy_h4, hN]
    by_cases c : x3 < Int32.ofNat N
    · have hc := t_lt c
      rw [e3, eN] at hc
      rw [if_pos c, answerOf_E (a := i) (w := 0) (by omega) e3 (by decide) rfl, t_sbe, Nat.add_zero]
      have e1 : x3 + 1 = Int32.ofNat (i + 1) := Int32.toInt_inj.1 (by rw [t_p1 (by omega) (by omega), t_on (by omega), e3]; rfl)
      have cl := cw_le (f := s.1 163) (w := x1) (n := i)
      unfold wX11_answersBy_j30
      by_cases cx : s.1 163 (42 + 5 * i) = x1
      · have c1 : cw (s.1 163) x1 (i + 1) = cw (s.1 163) x1 i + 1 := by
          show cw (s.1 163) x1 i + (if s.1 163 (42 + 5 * i) = x1 then 1 else 0) = _
          rw [if_pos cx]
        rw [if_pos cx]
        refine ih e1 (by omega) ?_ (by omega)
        rw [c1, h2]
        exact Int32.toInt_inj.1 (by rw [t_p1 (by rw [t_on (by omega)]; omega) (by rw [t_on (by omega)]; omega), t_on (by omega), t_on (by omega)]; rfl)
      · have c1 : cw (s.1 163) x1 (i + 1) = cw (s.1 163) x1 i := by
          show cw (s.1 163) x1 i + (if s.1 163 (42 + 5 * i) = x1 then 1 else 0) = _
          rw [if_neg cx, Nat.add_zero]
        rw [if_neg cx, Int32.add_zero]
        exact ih e1 (by omega) (by rw [c1]; exact h2) (by omega)
    · have hc := t_ge c
      rw [e3, eN] at hc
      obtain rfl : i = N := by omega
      rw [if_neg c, h2]
theorem JA.said (g : JA s) : ∃ N : Nat, s.1 163 3 = Int32.ofNat N ∧ N ≤ 40 ∧ (s.1 163 3).toNatClampNeg = N := by
  obtain ⟨-, -, -, -, c3, -⟩ := g.c
  refine ⟨(s.1 163 3).toNatClampNeg, (t_oc c3.1).symm, ?_, rfl⟩
  have := t_cln c3.1
  omega
/-- how many he may still give -/
theorem still_E (g : JA s) {x1 : Int32} {N : Nat} (hN : s.1 163 3 = Int32.ofNat N) (h40 : N ≤ 40) : Tot (wX2_mayStillGive 14 x1 s) (fun t => 0 < t ↔ (cw (s.1 163) x1 N < 9 ∧ N < 40)) := by
  have h6 : s.1 14 6 = s.1 163 3 := g.h.2.1.1.1
  have cl := cw_le (f := s.1 163) (w := x1) (n := N)
  unfold wX2_mayStillGive
  rw [still_h4_E g hN h40 wFuel (i := 0) (x1 := x1) (x2 := 0) (x3 := 0) rfl (Nat.zero_le _) rfl (by
    have e : wFuel = 1099511627776 := rfl
    omega), t_sbe, h6, hN]
  have q1 : (9 - Int32.ofNat (cw (s.1 163) x1 N)).toInt = 9 - (cw (s.1 163) x1 N : Int) := by
    rw [t_sub (by rw [t_on (by omega), show (9 : Int32).toInt = 9 from rfl]; omega) (by rw [t_on (by omega), show (9 : Int32).toInt = 9 from rfl]; omega), t_on (by omega)]
    rfl
  have q2 : (40 - Int32.ofNat N).toInt = 40 - (N : Int) := by
    rw [t_sub (by rw [t_on (by omega), show (40 : Int32).toInt = 40 from rfl]; omega) (by rw [t_on (by omega), show (40 : Int32).toInt = 40 from rfl]; omega), t_on (by omega)]
    rfl
  refine t_some ?_
  unfold wmin
  rw [Int32.lt_iff_toInt_lt, t_i0]
  by_cases c : 40 - Int32.ofNat N < 9 - Int32.ofNat (cw (s.1 163) x1 N)
  · have := t_lt c
    rw [if_pos c, q2]
    omega
  · have := t_ge c
    rw [if_neg c, q1]
    omega
theorem by_E {x1 : Int32} {N : Nat} (hN : s.1 163 3 = Int32.ofNat N) (h40 : N ≤ 40) : wX11_answersBy x1 s = some (Int32.ofNat (cw (s.1 163) x1 N)) := by
  unfold wX11_answersBy
  rw [by_h4_E hN h40 wFuel (i := 0) (x1 := x1) (x2 := 0) (x3 := 0) rfl (Nat.zero_le _) rfl (by
    have e : wFuel = 1099511627776 := rfl
    omega)]
  rfl
/-- the ANSWER is taken -/
noncomputable def OKa (f : Nat → Int32) (N : Nat) (x1 x2 x3 x4 : Int32) : Prop := (0 ≤ x1.toInt ∧ x1.toInt ≤ 5) ∧ (cw f x1 N < 9 ∧ N < 40) ∧ TH f x2 x3 ∧ TH f x2 x4 ∧ ¬ x3 = x4
/-- the class's state then -/
noncomputable abbrev an1 (s : wS) (N : Nat) (x1 x2 x3 x4 : Int32) : wS := wupI (wupI (wupI (wupI (wupI (wupI s 19 N x1) 20 N x2) 21 N x3) 22 N x4) 23 N 0) 14 6 (Int32.ofNat (N + 1))
noncomputable abbrev an2 (s : wS) (N : Nat) (x1 x2 x3 x4 : Int32) : wS := wupI (wupI (wupI (wupI (wupI (wupI s 163 (42 + 5 * N) x1) 163 (42 + 5 * N + 1) x2) 163 (42 + 5 * N + 2) x3) 163 (42 + 5 * N + 3) x4) 163 (42 + 5 * N + 4) 0) 163 3 (Int32.ofNat (N + 1))
theorem wstZ_E {k n : Nat} {i v : Int32} {s : wS} (h0 : 0 ≤ i.toInt) (h1 : i.toInt < n) : wstZ s k n i v = some (wupI s k i.toNatClampNeg (vp_nar .boolean v)) := by
  unfold wstZ
  rw [if_neg (t_ix h0 h1)]
theorem narZ_0 : vp_nar .boolean 0 = 0 := by decide
theorem narZ_1 : vp_nar .boolean 1 = 1 := by decide
theorem cls_answer (g : JA s) {x1 x2 x3 x4 : Int32} {N : Nat} (hN : s.1 163 3 = Int32.ofNat N) (h40 : N ≤ 40) : (OKa (s.1 163) N x1 x2 x3 x4 ∧ wX10_answer x1 x2 x3 x4 s = some (Int32.ofNat N, an1 s N x1 x2 x3 x4)) ∨ (¬ OKa (s.1 163) N x1 x2 x3 x4 ∧ wX10_answer x1 x2 x3 x4 s = some (-1, s)) := by
  have h6 : s.1 14 6 = Int32.ofNat N := g.h.2.1.1.1.trans hN
  have e6 : (6 : Int32).toInt = 6 := rfl
  have eN : (Int32.ofNat N).toInt = N := t_on (by omega)
  have enN : (Int32.ofNat N).toNatClampNeg = N := t_nc (by omega)
  unfold wX10_answer OKa
  rw [isOutside_E]
  by_cases k : 0 ≤ x1.toInt ∧ x1.toInt ≤ 5
  · rw [if_pos (by omega), t_sbe, qi0]
    obtain ⟨t, et, ht⟩ := still_E g (x1 := x1) hN h40
    rw [et, t_sbe]
    by_cases m : cw (s.1 163) x1 N < 9 ∧ N < 40
    · rw [if_pos (ht.2 m)]
      rcases has_E g x2 x3 with ⟨a, a1, -⟩ | ⟨a, a1, -⟩
      · rw [a1, t_sbe, qi1]
        rcases has_E g x2 x4 with ⟨b, b1, -⟩ | ⟨b, b1, -⟩
        · rw [b1, t_sbe, qi1]
          by_cases c : x3 = x4
          · rw [if_pos c]
            exact Or.inr ⟨fun q => q.2.2.2.2 c, rfl⟩
          · rw [if_neg c]
            refine Or.inl ⟨⟨k, m, a, b, c⟩, ?_⟩
            unfold wX2_takeDown
            rw [h6, isOutside_E, if_pos ⟨by omega, by rw [show (40 : Int32).toInt = 40 from rfl]; omega⟩, t_sbe, qi0, wst_E (by omega) (by omega), t_sbe, enN, wupI_n (by decide), h6, wst_E (by omega) (by omega), t_sbe, enN, wupI_n (by decide), wupI_n (by decide), h6, wst_E (by omega) (by omega), t_sbe, enN, wupI_n (by decide), wupI_n (by decide), wupI_n (by decide), h6, wst_E (by omega) (by omega), t_sbe, enN, wupI_n (by decide), wupI_n (by decide), wupI_n (by decide), wupI_n (by decide), h6, wstZ_E (by omega) (by omega), t_sbe, enN, wupI_n (by decide), wupI_n (by decide), wupI_n (by decide), wupI_n (by decide), wupI_n (by decide), h6, narZ_0]
            have e1 : Int32.ofNat N + 1 = Int32.ofNat (N + 1) := Int32.toInt_inj.1 (by rw [t_p1 (by omega) (by omega), eN, t_on (by omega)]; rfl)
            rw [e1]
            show some ((an1 s N x1 x2 x3 x4).1 14 6 - 1, an1 s N x1 x2 x3 x4) = _
            rw [wup_same]
            have e2 : Int32.ofNat (N + 1) - 1 = Int32.ofNat N := Int32.toInt_inj.1 (by
              rw [t_sub (by rw [t_on (by omega), show (1 : Int32).toInt = 1 from rfl]; omega) (by rw [t_on (by omega), show (1 : Int32).toInt = 1 from rfl]; omega), t_on (by omega), eN, show (1 : Int32).toInt = 1 from rfl]
              omega)
            rw [e2]
        · rw [b1, t_sbe, qi0]
          exact Or.inr ⟨fun q => b q.2.2.2.1, rfl⟩
      · rw [a1, t_sbe, qi0]
        exact Or.inr ⟨fun q => a q.2.2.1, rfl⟩
    · rw [if_neg (fun q => m (ht.1 q))]
      exact Or.inr ⟨fun q => m q.2.1, rfl⟩
  · rw [if_neg (by omega), t_sbe, qi1]
    exact Or.inr ⟨fun q => k q.1, rfl⟩
theorem isWitness_E {x : Int32} : wX11_isWitness x s = some (if 0 ≤ x.toInt ∧ x.toInt ≤ 5 then 1 else 0) := by
  unfold wX11_isWitness
  by_cases c : x < 0
  · have := t_lt c
    rw [t_i0] at this
    rw [if_pos c, if_neg (by omega)]
  · have a := t_ge c
    rw [t_i0] at a
    rw [if_neg c]
    by_cases d : x < 6
    · have b := t_lt d
      rw [show (6 : Int32).toInt = 6 from rfl] at b
      rw [if_pos d, if_pos (by omega)]
    · have b := t_ge d
      rw [show (6 : Int32).toInt = 6 from rfl] at b
      rw [if_neg d, if_neg (by omega)]
theorem ref_answer (g : JA s) {x1 x2 x3 x4 : Int32} {N : Nat} (hN : s.1 163 3 = Int32.ofNat N) (h40 : N ≤ 40) : (OKa (s.1 163) N x1 x2 x3 x4 ∧ ∀ u : wS, u.1 163 = s.1 163 → wX11_answer x1 x2 x3 x4 u = some (Int32.ofNat N, an2 u N x1 x2 x3 x4)) ∨ (¬ OKa (s.1 163) N x1 x2 x3 x4 ∧ wX11_answer x1 x2 x3 x4 s = some (-1, s)) := by
  have eN : (Int32.ofNat N).toInt = N := t_on (by omega)
  have enN : (Int32.ofNat N).toNatClampNeg = N := t_nc (by omega)
  have c9 : cw (s.1 163) x1 N ≤ 9 := by
    have := g.h.2.2.2.2.2.1 x1
    rw [hN, enN] at this
    exact this
  have cl := cw_le (f := s.1 163) (w := x1) (n := N)
  by_cases ok : OKa (s.1 163) N x1 x2 x3 x4
  · refine Or.inl ⟨ok, fun u hu => ?_⟩
    obtain ⟨k, ⟨m1, m2⟩, a, b, c⟩ := ok
    have th : ∀ x y, TH (s.1 163) x y → wX11_isThing x y u = some 1 := by
      intro x y h
      rcases has_E g x y with ⟨_, _, h2⟩ | ⟨n, _, _⟩
      · unfold wX11_isThing wX11_isKind wX11_isCourt wldI at *
        rw [hu]
        exact h2
      · exact absurd h n
    have hNu : u.1 163 3 = Int32.ofNat N := by rw [hu]; exact hN
    unfold wX11_answer
    rw [hNu, if_neg (fun e => by have := congrArg Int32.toInt e; rw [eN, show (40 : Int32).toInt = 40 from rfl] at this; omega), isWitness_E, if_pos k, t_sbe, qi1, th _ _ a, t_sbe, qi1, th _ _ b, t_sbe, qi1, if_neg c, by_E hNu h40, t_sbe, hu, if_neg (fun e => by have := congrArg Int32.toInt e; rw [t_on (by omega), show (9 : Int32).toInt = 9 from rfl] at this; omega)]
    have e5 : (5 : Int32).toInt = 5 := rfl
    have e42 : (42 : Int32).toInt = 42 := rfl
    have q1 : (5 * Int32.ofNat N).toInt = 5 * N := by rw [t_mul (by rw [e5, eN]; omega) (by rw [e5, eN]; omega), e5, eN]
    have q2 : (42 + 5 * Int32.ofNat N).toInt = 42 + 5 * N := by rw [t_add (by omega) (by omega), q1, e42]
    have q2n : (42 + 5 * Int32.ofNat N).toNatClampNeg = 42 + 5 * N := by unfold Int32.toNatClampNeg; omega
    have q3 : ∀ (d : Int32) (j : Nat), d.toInt = j → j ≤ 4 → (42 + 5 * Int32.ofNat N + d).toInt = 42 + 5 * N + j ∧ (42 + 5 * Int32.ofNat N + d).toNatClampNeg = 42 + 5 * N + j := fun d j hd hj => by
      have : (42 + 5 * Int32.ofNat N + d).toInt = 42 + 5 * N + j := by rw [t_add (by omega) (by omega), q2, hd]
      exact ⟨this, by unfold Int32.toNatClampNeg; omega⟩
    obtain ⟨i1, n1⟩ := q3 1 1 rfl (by decide)
    obtain ⟨i2, n2⟩ := q3 2 2 rfl (by decide)
    obtain ⟨i3, n3⟩ := q3 3 3 rfl (by decide)
    obtain ⟨i4, n4⟩ := q3 4 4 rfl (by decide)
    rw [wst_E (by omega) (by omega), t_sbe, q2n, wst_E (by omega) (by omega), t_sbe, n1, wst_E (by omega) (by omega), t_sbe, n2, wst_E (by omega) (by omega), t_sbe, n3, wst_E (by omega) (by omega), t_sbe, n4, wst_E (by decide) (by decide), t_sbe]
    have z3 : (wupI (wupI (wupI (wupI (wupI u 163 (42 + 5 * N) x1) 163 (42 + 5 * N + 1) x2) 163 (42 + 5 * N + 2) x3) 163 (42 + 5 * N + 3) x4) 163 (42 + 5 * N + 4) 0).1 163 3 = Int32.ofNat N := by
      rw [wup_nb (by omega), wup_nb (by omega), wup_nb (by omega), wup_nb (by omega), wup_nb (by omega)]
      exact hNu
    rw [z3]
    have e1 : Int32.ofNat N + 1 = Int32.ofNat (N + 1) := Int32.toInt_inj.1 (by rw [t_p1 (by omega) (by omega), eN, t_on (by omega)]; rfl)
    rw [e1, show Int32.toNatClampNeg 3 = 3 from rfl, wup_same]
    have e2 : Int32.ofNat (N + 1) - 1 = Int32.ofNat N := Int32.toInt_inj.1 (by
      rw [t_sub (by rw [t_on (by omega), show (1 : Int32).toInt = 1 from rfl]; omega) (by rw [t_on (by omega), show (1 : Int32).toInt = 1 from rfl]; omega), t_on (by omega), eN, show (1 : Int32).toInt = 1 from rfl]
      omega)
    rw [e2]
  · refine Or.inr ⟨ok, ?_⟩
    unfold wX11_answer
    rw [hN]
    by_cases c40 : Int32.ofNat N = 40
    · rw [if_pos c40]
    · have n40 := t_nq c40
      rw [eN, show (40 : Int32).toInt = 40 from rfl] at n40
      rw [if_neg c40, isWitness_E]
      by_cases k : 0 ≤ x1.toInt ∧ x1.toInt ≤ 5
      · rw [if_pos k, t_sbe, qi1]
        rcases has_E g x2 x3 with ⟨a, -, a1⟩ | ⟨a, -, a1⟩
        · rw [a1, t_sbe, qi1]
          rcases has_E g x2 x4 with ⟨b, -, b1⟩ | ⟨b, -, b1⟩
          · rw [b1, t_sbe, qi1]
            by_cases c : x3 = x4
            · rw [if_pos c]
            · rw [if_neg c, by_E hN h40, t_sbe]
              have : cw (s.1 163) x1 N = 9 := by
                by_cases q : cw (s.1 163) x1 N = 9
                · exact q
                · exact absurd ⟨k, ⟨by omega, by omega⟩, a, b, c⟩ ok
              rw [this, if_pos (show Int32.ofNat 9 = 9 from rfl)]
          · rw [b1, t_sbe, qi0]
        · rw [a1, t_sbe, qi0]
      · rw [if_neg k, t_sbe, qi0]
/-- the row with the ANSWER more -/
theorem an2_r {u : wS} {N : Nat} {x1 x2 x3 x4 : Int32} (hN : N < 40) : (an2 u N x1 x2 x3 x4).1 163 3 = Int32.ofNat (N + 1) ∧ (an2 u N x1 x2 x3 x4).1 163 (42 + 5 * N) = x1 ∧ (an2 u N x1 x2 x3 x4).1 163 (42 + 5 * N + 1) = x2 ∧ (an2 u N x1 x2 x3 x4).1 163 (42 + 5 * N + 2) = x3 ∧ (an2 u N x1 x2 x3 x4).1 163 (42 + 5 * N + 3) = x4 ∧ (an2 u N x1 x2 x3 x4).1 163 (42 + 5 * N + 4) = 0 ∧ ∀ j, j ≠ 3 → ¬ (42 + 5 * N ≤ j ∧ j ≤ 42 + 5 * N + 4) → (an2 u N x1 x2 x3 x4).1 163 j = u.1 163 j := by
  refine ⟨wup_same, ?_, ?_, ?_, ?_, ?_, fun j h1 h2 => ?_⟩
  · rw [wup_nb (by omega), wup_nb (by omega), wup_nb (by omega), wup_nb (by omega), wup_nb (by omega), wup_same]
  · rw [wup_nb (by omega), wup_nb (by omega), wup_nb (by omega), wup_nb (by omega), wup_same]
  · rw [wup_nb (by omega), wup_nb (by omega), wup_nb (by omega), wup_same]
  · rw [wup_nb (by omega), wup_nb (by omega), wup_same]
  · rw [wup_nb (by omega), wup_same]
  · rw [wup_nb (by omega), wup_nb (by omega), wup_nb (by omega), wup_nb (by omega), wup_nb (by omega), wup_nb (by omega)]
theorem bHe_c {k b : Nat} (h : 14 ≤ k ∧ k ≤ 25) : bHe k b = true := by
  simp only [bHe, Bool.or_eq_true, Bool.and_eq_true, Nat.ble_eq]
  omega
theorem op_answer {x1 x2 x3 x4 : Int32} (g : JA s) : ∃ v s1 v2 s2, wX10_answer x1 x2 x3 x4 s = some (v, s1) ∧ wX11_answer x1 x2 x3 x4 s1 = some (v2, s2) ∧ v = v2 ∧ JA s2 := by
  obtain ⟨N, hN, h40, hNn⟩ := g.said
  have eN : (Int32.ofNat N).toInt = N := t_on (by omega)
  rcases cls_answer g (x1 := x1) (x2 := x2) (x3 := x3) (x4 := x4) hN h40 with ⟨ok, e1⟩ | ⟨no, e1⟩
  · rcases ref_answer g (x1 := x1) (x2 := x2) (x3 := x3) (x4 := x4) hN h40 with ⟨-, e2⟩ | ⟨no, -⟩
    · have u163 : (an1 s N x1 x2 x3 x4).1 163 = s.1 163 := by
        rw [wupI_n (by decide), wupI_n (by decide), wupI_n (by decide), wupI_n (by decide), wupI_n (by decide), wupI_n (by decide)]
      have e2 := e2 (an1 s N x1 x2 x3 x4) u163
      refine ⟨_, _, _, _, e1, e2, rfl, ?_⟩
      obtain ⟨k, ⟨m1, m2⟩, a, b, c⟩ := ok
      obtain ⟨r3, r0, r1, r2, r3', r4, rj⟩ := an2_r (u := an1 s N x1 x2 x3 x4) (x1 := x1) (x2 := x2) (x3 := x3) (x4 := x4) m2
      rw [u163] at rj
      have a1 : wA bHe s (an1 s N x1 x2 x3 x4) := (((((wA_I (bHe_c (by omega))).trans (wA_I (bHe_c (by omega)))).trans (wA_I (bHe_c (by omega)))).trans (wA_I (bHe_c (by omega)))).trans (wA_I (bHe_c (by omega)))).trans (wA_I (bHe_c (by omega)))
      have h163 : ∀ b, bHe 163 b = true := fun b => by unfold bHe; rfl
      have a2 : wA bHe (an1 s N x1 x2 x3 x4) (an2 (an1 s N x1 x2 x3 x4) N x1 x2 x3 x4) := (((((wA_I (h163 _)).trans (wA_I (h163 _))).trans (wA_I (h163 _))).trans (wA_I (h163 _))).trans (wA_I (h163 _))).trans (wA_I (h163 _))
      have i1 : INV (an1 s N x1 x2 x3 x4) := by
        obtain ⟨r, er, p1⟩ := wX10_answer_T (x1 := x1) (x2 := x2) (x3 := x3) (x4 := x4) (s := s)
        rw [e1] at er
        obtain rfl := Option.some.inj er
        exact INV_C p1 g.inv (by rw [p1 0 6 rfl]; exact g.inv.1) rfl (fun _ => rfl) ⟨rfl, rfl, rfl, rfl⟩ (fun _ => ⟨rfl, rfl, rfl, rfl, rfl, rfl⟩) rfl rfl
      have ri : RI (an2 (an1 s N x1 x2 x3 x4) N x1 x2 x3 x4) := by
        obtain ⟨r, er, p2, -⟩ := wX11_answer_T (x1 := x1) (x2 := x2) (x3 := x3) (x4 := x4) (s := an1 s N x1 x2 x3 x4) i1.2.1
        rw [e2] at er
        obtain rfl := Option.some.inj er
        exact p2
      refine JA_hear g (a1.trans a2) ri ?_
      -- the class's cells in the end
      have w : ∀ k, k ≠ 163 → (an2 (an1 s N x1 x2 x3 x4) N x1 x2 x3 x4).1 k = (an1 s N x1 x2 x3 x4).1 k := fun k hk => by
        rw [wupI_n hk, wupI_n hk, wupI_n hk, wupI_n hk, wupI_n hk, wupI_n hk]
      have c19 : (an1 s N x1 x2 x3 x4).1 19 = upd (s.1 19) N x1 := by rw [wupI_n (by decide), wupI_n (by decide), wupI_n (by decide), wupI_n (by decide), wupI_n (by decide), wupI_k]
      have c20 : (an1 s N x1 x2 x3 x4).1 20 = upd (s.1 20) N x2 := by rw [wupI_n (by decide), wupI_n (by decide), wupI_n (by decide), wupI_n (by decide), wupI_k, wupI_n (by decide)]
      have c21 : (an1 s N x1 x2 x3 x4).1 21 = upd (s.1 21) N x3 := by rw [wupI_n (by decide), wupI_n (by decide), wupI_n (by decide), wupI_k, wupI_n (by decide), wupI_n (by decide)]
      have c22 : (an1 s N x1 x2 x3 x4).1 22 = upd (s.1 22) N x4 := by rw [wupI_n (by decide), wupI_n (by decide), wupI_k, wupI_n (by decide), wupI_n (by decide), wupI_n (by decide)]
      have c23 : (an1 s N x1 x2 x3 x4).1 23 = upd (s.1 23) N 0 := by rw [wupI_n (by decide), wupI_k, wupI_n (by decide), wupI_n (by decide), wupI_n (by decide), wupI_n (by decide)]
      have c14 : ∀ b, b ≠ 6 → (an1 s N x1 x2 x3 x4).1 14 b = s.1 14 b := fun b hb => by rw [wup_nb hb, wupI_n (by decide), wupI_n (by decide), wupI_n (by decide), wupI_n (by decide), wupI_n (by decide)]
      have cc : ∀ k, k ≠ 14 → ¬ (19 ≤ k ∧ k ≤ 23) → (an1 s N x1 x2 x3 x4).1 k = s.1 k := fun k h1 h2 => by rw [wupI_n h1, wupI_n (by omega), wupI_n (by omega), wupI_n (by omega), wupI_n (by omega), wupI_n (by omega)]
      obtain ⟨⟨⟨d0, d1, d2⟩, d3, d4⟩, ⟨⟨d5, d6, d7, d8⟩, d9, d10⟩, ⟨d11, d12, d13, d14, d15, d16, d17⟩⟩ := g.h
      have qc := g.c
      generalize an2 (an1 s N x1 x2 x3 x4) N x1 x2 x3 x4 = t at *
      have j0 := rj 0 (by decide) (by omega)
      have j1 := rj 1 (by decide) (by omega)
      have j2 := rj 2 (by decide) (by omega)
      have j4 := rj 4 (by decide) (by omega)
      have j5 := rj 5 (by decide) (by omega)
      have j6 := rj 6 (by decide) (by omega)
      have old : ∀ a' : Nat, a' < N → ∀ j, j ≤ 4 → t.1 163 (42 + 5 * a' + j) = s.1 163 (42 + 5 * a' + j) := fun a' ha' j hj => rj _ (by omega) (by omega)
      have old0 : ∀ a' : Nat, a' < N → t.1 163 (42 + 5 * a') = s.1 163 (42 + 5 * a') := fun a' ha' => rj _ (by omega) (by omega)
      have b1 : (t.1 163 1).toInt ≤ 8 := by rw [j1]; exact qc.2.1.2
      have b2 : (t.1 163 2).toInt ≤ 8 := by rw [j2]; exact qc.2.2.1.2
      have b5 : (t.1 163 5).toInt ≤ 10 := by rw [j5]; exact qc.2.2.2.2.2.1.2
      have b1' := qc.2.1.2
      have b2' := qc.2.2.1.2
      have b5' := qc.2.2.2.2.2.1.2
      refine ⟨⟨⟨?_, ?_, ?_⟩, fun i hi => ?_, fun i hi => ?_⟩, ⟨⟨?_, ?_, ?_, ?_⟩, fun a' ha' => ?_, fun v hv => ?_⟩, ⟨fun h0 => ?_, ?_, fun a' ha' => ?_, fun w' => ?_, fun v hv => ?_, fun i hi => ?_, fun i hi => ?_⟩⟩
      · rw [w _ (by decide), cc _ (by decide) (by decide), j0]; exact d0
      · rw [w _ (by decide), cc _ (by decide) (by decide), j1]; exact d1
      · rw [w _ (by decide), cc _ (by decide) (by decide), j2]; exact d2
      · rw [w (14 + 3) (by decide), w (14 + 4) (by decide), cc (14 + 3) (by decide) (by decide), cc (14 + 4) (by decide) (by decide), rj _ (by omega) (by omega), rj _ (by omega) (by omega)]
        rw [j1] at hi
        exact d3 i hi
      · rw [w (14 + 3) (by decide), w (14 + 4) (by decide), cc (14 + 3) (by decide) (by decide), cc (14 + 4) (by decide) (by decide), rj _ (by omega) (by omega), rj _ (by omega) (by omega)]
        rw [j2] at hi
        exact d4 i hi
      · rw [w _ (by decide), wup_same, r3]
      · rw [w _ (by decide), c14 7 (by decide), j4]; exact d6
      · rw [w _ (by decide), c14 10 (by decide), j5]; exact d7
      · rw [w _ (by decide), c14 11 (by decide), j6]; exact d8
      · rw [r3, t_on (by omega)] at ha'
        rw [w (14 + 5) (by decide), w (14 + 6) (by decide), w (14 + 7) (by decide), w (14 + 8) (by decide), w (14 + 9) (by decide), c19, c20, c21, c22, c23]
        by_cases q : a' = N
        · subst q
          rw [updI_s, updI_s, updI_s, updI_s, updI_s, r0, r1, r2, r3', r4]
          exact ⟨rfl, rfl, rfl, rfl, rfl⟩
        · rw [updI_n q, updI_n q, updI_n q, updI_n q, updI_n q, old0 a' (by omega), old a' (by omega) 1 (by decide), old a' (by omega) 2 (by decide), old a' (by omega) 3 (by decide), old a' (by omega) 4 (by decide)]
          exact d9 a' (by rw [hN, eN]; omega)
      · rw [w (14 + 10) (by decide), w (14 + 11) (by decide), cc (14 + 10) (by decide) (by decide), cc (14 + 11) (by decide) (by decide), rj _ (by omega) (by omega), rj _ (by omega) (by omega)]
        rw [j5] at hv
        exact d10 v hv
      · rw [j0] at h0
        rw [j1, j2]
        exact d11 h0
      · rw [j4]; exact d12
      · rw [r3, t_on (by omega)] at ha'
        by_cases q : a' = N
        · subst q
          rw [r0, r4]
          exact ⟨k, Or.inl rfl⟩
        · rw [old0 a' (by omega), old a' (by omega) 4 (by decide)]
          exact d13 a' (by rw [hN, eN]; omega)
      · rw [r3, t_nc (by omega)]
        show cw (t.1 163) w' N + (if t.1 163 (42 + 5 * N) = w' then 1 else 0) ≤ 9
        rw [cw_congr (f := s.1 163) (fun a' ha' => old0 a' ha'), r0]
        have := d14 w'
        rw [hNn] at this
        by_cases q : x1 = w'
        · rw [if_pos q, ← q]; omega
        · rw [if_neg q]; omega
      · rw [j5] at hv
        rw [rj _ (by omega) (by omega), j0, j1, j2]
        exact d15 v hv
      · rw [j1] at hi
        rw [rj _ (by omega) (by omega)]
        exact d16 i hi
      · rw [j2] at hi
        rw [rj _ (by omega) (by omega)]
        exact d17 i hi
    · exact absurd ok no
  · rcases ref_answer g (x1 := x1) (x2 := x2) (x3 := x3) (x4 := x4) hN h40 with ⟨ok, -⟩ | ⟨-, e2⟩
    · exact absurd ok no
    · exact ⟨_, _, _, _, e1, e2, rfl, g⟩
end ANS
