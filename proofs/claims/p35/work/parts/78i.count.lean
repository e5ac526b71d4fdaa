/-! count: both sides alike; which ANSWERS are looked at. -/
section CNT
variable {s : wS}
/-- an ANSWER is looked at -/
noncomputable def lok (f : Nat → Int32) (a : Nat) : Prop := f (42 + 5 * a + 4) = 0 ∧ (f 4 = -1 ∨ (a : Int) < (f 4).toInt)
theorem first_v (g : JA s) : ∃ v, wX2_first 14 s = some v ∧ ∀ a : Nat, (a : Int) < (s.1 163 3).toInt → ((a : Int) < v.toInt ↔ (s.1 163 4 = -1 ∨ (a : Int) < (s.1 163 4).toInt)) := by
  obtain ⟨⟨d6, d7, -⟩, -⟩ := g.h.2.1
  unfold wX2_first
  rw [d6, d7]
  by_cases c : s.1 163 4 = -1
  · rw [if_pos c]
    exact ⟨_, rfl, fun a ha => ⟨fun _ => Or.inl c, fun _ => ha⟩⟩
  · rw [if_neg c]
    refine ⟨_, rfl, fun a ha => ?_⟩
    unfold wmin
    by_cases d : s.1 163 3 < s.1 163 4
    · have := t_lt d
      rw [if_pos d]
      exact ⟨fun _ => Or.inr (by omega), fun _ => ha⟩
    · rw [if_neg d]
      exact ⟨fun q => Or.inr q, fun q => q.resolve_left c⟩
theorem looked10_E (g : JA s) {v : Int32} (hv : ∀ a : Nat, (a : Int) < (s.1 163 3).toInt → ((a : Int) < v.toInt ↔ (s.1 163 4 = -1 ∨ (a : Int) < (s.1 163 4).toInt))) {a : Nat} {x : Int32} (ha : (a : Int) < (s.1 163 3).toInt) (hx : x.toInt = a) : (lok (s.1 163) a ∧ wX2_isLookedAt 14 x v s = some 1) ∨ (¬ lok (s.1 163) a ∧ wX2_isLookedAt 14 x v s = some 0) := by
  have ea := (ans_E g ha hx).2.2.2.2
  have zf := (g.h.2.2.2.2.1 a ha).2
  unfold wX2_isLookedAt lok
  have hb : wX2_hasAnswer 14 x s = some 1 := by
    rcases hasAns_E g x with ⟨_, _, _, h, _⟩ | ⟨h, _⟩
    · exact h
    · exact absurd ⟨by omega, by omega⟩ h
  by_cases c : x < v
  · have := t_lt c
    rw [if_pos c, hb, t_sbe, qi1, ea, t_sbe]
    rcases zf with z | z
    · rw [z, if_pos rfl]
      exact Or.inl ⟨⟨rfl, (hv a ha).1 (by omega)⟩, rfl⟩
    · rw [z, if_neg (by decide)]
      exact Or.inr ⟨fun q => absurd q.1 (by decide), rfl⟩
  · have := t_ge c
    rw [if_neg c]
    exact Or.inr ⟨fun q => absurd ((hv a ha).2 q.2) (by omega), rfl⟩
theorem looked11_E (g : JA s) {a : Nat} {x : Int32} (ha : (a : Int) < (s.1 163 3).toInt) (hx : x.toInt = a) : (lok (s.1 163) a ∧ wX11_isLookedAt x s = some 1) ∨ (¬ lok (s.1 163) a ∧ wX11_isLookedAt x s = some 0) := by
  have q3 := g.c.2.2.2.2.1
  have zf := (g.h.2.2.2.2.1 a ha).2
  unfold wX11_isLookedAt lok wX11_isLookedAt_j29
  rw [answerOf_E (a := a) (w := 4) (by omega) hx (by decide) rfl, t_sbe]
  rcases zf with z | z
  · rw [z, if_pos rfl]
    by_cases c : s.1 163 4 = -1
    · rw [if_pos c]
      exact Or.inl ⟨⟨rfl, Or.inl c⟩, rfl⟩
    · rw [if_neg c]
      by_cases d : x < s.1 163 4
      · have := t_lt d
        rw [if_pos d]
        exact Or.inl ⟨⟨rfl, Or.inr (by omega)⟩, rfl⟩
      · have := t_ge d
        rw [if_neg d]
        exact Or.inr ⟨fun q => by
          rcases q.2 with q | q
          · exact c q
          · omega, rfl⟩
  · rw [z, if_neg (by decide)]
    exact Or.inr ⟨fun q => absurd q.1 (by decide), rfl⟩
/-- how many struck, how many looked at -/
noncomputable def nst (f : Nat → Int32) : Nat → Int32
  | 0 => 0
  | n + 1 => nst f n + f (42 + 5 * n + 4)
noncomputable def nlk (f : Nat → Int32) : Nat → Int32
  | 0 => 0
  | n + 1 => nlk f n + (@ite Int32 (lok f n) (Classical.propDecidable _) 1 0)
theorem nlk_p {f : Nat → Int32} {n : Nat} (h : lok f n) : nlk f (n + 1) = nlk f n + 1 := by
  show nlk f n + (@ite Int32 (lok f n) (Classical.propDecidable _) 1 0) = _
  rw [if_pos h]
theorem nlk_n {f : Nat → Int32} {n : Nat} (h : ¬ lok f n) : nlk f (n + 1) = nlk f n := by
  show nlk f n + (@ite Int32 (lok f n) (Classical.propDecidable _) 1 0) = _
  rw [if_neg h, Int32.add_zero]
theorem loop_x {x3 : Int32} {i : Nat} (h3 : x3 = Int32.ofNat i) (hi : i ≤ 40) : x3.toInt = i ∧ x3 + 1 = Int32.ofNat (i + 1) := by
  have e3 : x3.toInt = i := by rw [h3, t_on (by omega)]
  exact ⟨e3, Int32.toInt_inj.1 (by rw [t_p1 (by omega) (by omega), t_on (by omega), e3]; rfl)⟩
theorem struck10_E (g : JA s) {N : Nat} (hN : s.1 163 3 = Int32.ofNat N) (h40 : N ≤ 40) : ∀ (n : Nat) {i : Nat} {x1 x2 : Int32}, x2 = Int32.ofNat i → i ≤ N → x1 = nst (s.1 163) i → N - i < n → wX2_struckOnes_h4 14 s n x1 x2 = some (nst (s.1 163) N) := by
  intro n
  induction n with
  | zero => intro i x2 x3 _ _ _ hm; exact absurd hm (by omega)
  | succ n ih =>
    intro i x1 x2 h3 hi h2 hm
    have h6 : s.1 14 6 = s.1 163 3 := g.h.2.1.1.1
    obtain ⟨e3, e1⟩ := loop_x h3 (by omega)
    have eN : (Int32.ofNat N).toInt = N := t_on (by omega)
    rw [wX2_struckOnes_h4, h6, hN]
    by_cases c : x2 < Int32.ofNat N
    · have hc := t_lt c
      rw [e3, eN] at hc
      have hh : (i : Int) < (s.1 163 3).toInt := by rw [hN, eN]; omega
      rw [if_pos c, (ans_E g hh e3).2.2.2.2, t_sbe]
      unfold wX2_struckOnes_j23
      rcases (g.h.2.2.2.2.1 i hh).2 with z | z
      · rw [z, if_pos rfl]
        refine ih e1 (by omega) ?_ (by omega)
        show x1 = nst (s.1 163) i + s.1 163 (42 + 5 * i + 4)
        rw [z, h2, Int32.add_zero]
      · rw [z, if_neg (by decide)]
        refine ih e1 (by omega) ?_ (by omega)
        show x1 + 1 = nst (s.1 163) i + s.1 163 (42 + 5 * i + 4)
        rw [z, h2]
    · have hc := t_ge c
      rw [e3, eN] at hc
      obtain rfl : i = N := by omega
      rw [if_neg c, h2]
theorem struck11_E {N : Nat} (hN : s.1 163 3 = Int32.ofNat N) (h40 : N ≤ 40) : ∀ (n : Nat) {i : Nat} {x1 x2 : Int32}, x2 = Int32.ofNat i → i ≤ N → x1 = nst (s.1 163) i → N - i < n → wX11_count_h77 s n x1 x2 = some (nst (s.1 163) N) := by
  intro n
  induction n with
  | zero => intro i x2 x3 _ _ _ hm; exact absurd hm (by omega)
  | succ n ih =>
    intro i x1 x2 h3 hi h2 hm
    obtain ⟨e3, e1⟩ := loop_x h3 (by omega)
    have eN : (Int32.ofNat N).toInt = N := t_on (by omega)
    rw [wX11_count_h77, hN]
    by_cases c : x2 < Int32.ofNat N
    · have hc := t_lt c
      rw [e3, eN] at hc
      rw [if_pos c, answerOf_E (a := i) (w := 4) (by omega) e3 (by decide) rfl, t_sbe]
      refine ih e1 (by omega) ?_ (by omega)
      rw [h2]
      rfl
    · have hc := t_ge c
      rw [e3, eN] at hc
      obtain rfl : i = N := by omega
      rw [if_neg c, h2]
theorem lookeds10_E (g : JA s) {N : Nat} (hN : s.1 163 3 = Int32.ofNat N) (h40 : N ≤ 40) : ∀ (n : Nat) {i : Nat} {x1 x2 : Int32}, x2 = Int32.ofNat i → i ≤ N → x1 = nlk (s.1 163) i → N - i < n → wX2_lookedAtOnes_h4 14 s n x1 x2 = some (nlk (s.1 163) N) := by
  intro n
  induction n with
  | zero => intro i x2 x3 _ _ _ hm; exact absurd hm (by omega)
  | succ n ih =>
    intro i x1 x2 h3 hi h2 hm
    have h6 : s.1 14 6 = s.1 163 3 := g.h.2.1.1.1
    obtain ⟨e3, e1⟩ := loop_x h3 (by omega)
    have eN : (Int32.ofNat N).toInt = N := t_on (by omega)
    rw [wX2_lookedAtOnes_h4, h6, hN]
    by_cases c : x2 < Int32.ofNat N
    · have hc := t_lt c
      rw [e3, eN] at hc
      have hh : (i : Int) < (s.1 163 3).toInt := by rw [hN, eN]; omega
      obtain ⟨v, ev, hv⟩ := first_v g
      rw [if_pos c, ev, t_sbe]
      unfold wX2_lookedAtOnes_j27
      rcases looked10_E g hv hh e3 with ⟨l, e⟩ | ⟨l, e⟩
      · rw [e, t_sbe, qi1]
        exact ih e1 (by omega) (by rw [nlk_p l, h2]) (by omega)
      · rw [e, t_sbe, qi0]
        exact ih e1 (by omega) (by rw [nlk_n l, h2]) (by omega)
    · have hc := t_ge c
      rw [e3, eN] at hc
      obtain rfl : i = N := by omega
      rw [if_neg c, h2]
theorem lookeds11_E (g : JA s) {N : Nat} (hN : s.1 163 3 = Int32.ofNat N) (h40 : N ≤ 40) : ∀ (n : Nat) {i : Nat} {x1 x2 : Int32}, x2 = Int32.ofNat i → i ≤ N → x1 = nlk (s.1 163) i → N - i < n → wX11_count_h106 s n x1 x2 = some (nlk (s.1 163) N) := by
  intro n
  induction n with
  | zero => intro i x2 x3 _ _ _ hm; exact absurd hm (by omega)
  | succ n ih =>
    intro i x1 x2 h3 hi h2 hm
    obtain ⟨e3, e1⟩ := loop_x h3 (by omega)
    have eN : (Int32.ofNat N).toInt = N := t_on (by omega)
    rw [wX11_count_h106, hN]
    by_cases c : x2 < Int32.ofNat N
    · have hc := t_lt c
      rw [e3, eN] at hc
      have hh : (i : Int) < (s.1 163 3).toInt := by rw [hN, eN]; omega
      rw [if_pos c]
      unfold wX11_count_j130
      rcases looked11_E g hh e3 with ⟨l, e⟩ | ⟨l, e⟩
      · rw [e, t_sbe, qi1]
        exact ih e1 (by omega) (by rw [nlk_p l, h2]) (by omega)
      · rw [e, t_sbe, qi0]
        exact ih e1 (by omega) (by rw [nlk_n l, h2, Int32.add_zero]) (by omega)
    · have hc := t_ge c
      rw [e3, eN] at hc
      obtain rfl : i = N := by omega
      rw [if_neg c, h2]
theorem op_count {x1 : Int32} (g : JA s) : ∃ v, wX10_count x1 s = some v ∧ wX11_count x1 s = some v := by
  obtain ⟨N, hN, h40, -⟩ := g.said
  obtain ⟨⟨d6, d7, d10, d11⟩, -⟩ := g.h.2.1
  have m := many_E g
  have wf : N - 0 < wFuel := by
    have e : wFuel = 1099511627776 := rfl
    omega
  unfold wX10_count wX11_count wX10_count_j56 wX11_count_j56 wX0_manyOf
  by_cases c0 : x1 = 0
  · rw [if_pos c0, if_pos c0, c0, at_E (n := 3) rfl (by decide) (by decide) (by decide), wld_E (by decide) (by decide)]
    exact ⟨_, rfl, congrArg some (m 0 (by decide)).symm⟩
  rw [if_neg c0, if_neg c0]
  by_cases c1 : x1 = 1
  · rw [if_pos c1, if_pos c1, c1, at_E (n := 3) rfl (by decide) (by decide) (by decide), wld_E (by decide) (by decide)]
    exact ⟨_, rfl, congrArg some (m 1 (by decide)).symm⟩
  rw [if_neg c1, if_neg c1]
  by_cases c2 : x1 = 2
  · rw [if_pos c2, if_pos c2, c2, at_E (n := 3) rfl (by decide) (by decide) (by decide), wld_E (by decide) (by decide)]
    exact ⟨_, rfl, congrArg some (m 2 (by decide)).symm⟩
  rw [if_neg c2, if_neg c2]
  by_cases c3 : x1 = 3
  · rw [if_pos c3, if_pos c3]
    exact ⟨_, rfl, congrArg some g.2.1.symm⟩
  rw [if_neg c3, if_neg c3]
  by_cases c4 : x1 = 4
  · rw [if_pos c4, if_pos c4]
    exact ⟨_, rfl, congrArg some d6.symm⟩
  rw [if_neg c4, if_neg c4]
  by_cases c5 : x1 = 5
  · rw [if_pos c5, if_pos c5]
    unfold wX2_struckOnes
    rw [struck10_E g hN h40 wFuel (i := 0) (x1 := 0) (x2 := 0) rfl (Nat.zero_le _) rfl wf, struck11_E hN h40 wFuel (i := 0) (x1 := 0) (x2 := 0) rfl (Nat.zero_le _) rfl wf]
    exact ⟨_, rfl, rfl⟩
  rw [if_neg c5, if_neg c5]
  by_cases c6 : x1 = 6
  · rw [if_pos c6, if_pos c6]
    unfold wX2_lookedAtOnes
    rw [lookeds10_E g hN h40 wFuel (i := 0) (x1 := 0) (x2 := 0) rfl (Nat.zero_le _) rfl wf, lookeds11_E g hN h40 wFuel (i := 0) (x1 := 0) (x2 := 0) rfl (Nat.zero_le _) rfl wf]
    exact ⟨_, rfl, rfl⟩
  rw [if_neg c6, if_neg c6]
  by_cases c7 : x1 = 7
  · rw [if_pos c7, if_pos c7]
    exact ⟨_, rfl, congrArg some d10.symm⟩
  rw [if_neg c7, if_neg c7]
  by_cases c8 : x1 = 8
  · rw [if_pos c8, if_pos c8]
    exact ⟨_, rfl, congrArg some d11.symm⟩
  rw [if_neg c8, if_neg c8]
  by_cases c9 : x1 = 9
  · rw [if_pos c9, if_pos c9]
    exact ⟨_, rfl, congrArg some g.2.2.1.1.symm⟩
  rw [if_neg c9, if_neg c9]
  exact ⟨_, rfl, rfl⟩
end CNT
