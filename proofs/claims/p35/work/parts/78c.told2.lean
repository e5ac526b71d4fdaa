/-! COURT and LAW are told alike. -/
theorem RLf.pos {l : Nat} {x : lC} {s s' : wS} (h : RLf l x s) (hl : x.2.2.1.length ≤ 400) (h5 : s'.1 155 l = s.1 155 l) (h4 : ∀ j, j < 400 → s'.1 154 (400 * l + j) = s.1 154 (400 * l + j)) (h7 : s'.1 157 l = s.1 157 l) (h6 : ∀ j, j < 60 → s'.1 156 (60 * l + j) = s.1 156 (60 * l + j)) : RLf l x s' := by
  obtain ⟨⟨g1, g2⟩, ⟨g3, g3'⟩, g4⟩ := h
  refine ⟨⟨by rw [h5]; exact g1, fun i v hv => ?_⟩, ⟨by rw [h7]; exact g3, g3'⟩, fun i y hy => ?_⟩
  · have := (List.getElem?_eq_some_iff.1 hv).1
    rw [h4 i (by omega)]
    exact g2 i v hv
  · have := (List.getElem?_eq_some_iff.1 hy).1
    have e : ∀ j, j < 5 → s'.1 156 (60 * l + 5 * i + j) = s.1 156 (60 * l + 5 * i + j) := fun j hj => by
      have := h6 (5 * i + j) (by omega)
      rw [← Nat.add_assoc] at this
      exact this
    have e0 := e 0 (by decide)
    rw [Nat.add_zero] at e0
    rw [e0, e 1 (by decide), e 2 (by decide), e 3 (by decide), e 4 (by decide)]
    exact g4 i y hy
theorem bN_155 {t b : Nat} (h : b ≠ t) : bN t 155 b = false := by
  unfold bN bL bE
  rw [nq_false h]
  rfl
theorem op_court {s : wS} (g : JA s) : ∃ v s1 v2 s2, wX10_court s = some (v, s1) ∧ wX11_court s1 = some (v2, s2) ∧ v = v2 ∧ JA s2 := by
  obtain ⟨gR, g2, ⟨gT1, gT2, gT3⟩, gB, g5, g6, g7⟩ := id g
  obtain ⟨⟨v, s1⟩, e1, ⟨pK, t11, t2, x11, S, P, N, E, K, tk, h1⟩, aN⟩ := t_and (wX10_court_E (R := s.1 158) (M := s.1 159) gT2.1 gT2.2) (court_N gT2.1 gT2.2)
  dsimp only at pK t11 t2 x11 h1 aN
  have i1 : INV s1 := INV_C pK g.inv (by rw [pK 0 6 rfl]; exact g.inv.1) rfl (fun _ => rfl) ⟨rfl, rfl, rfl, rfl⟩ (fun _ => ⟨rfl, rfl, rfl, rfl, rfl, rfl⟩) rfl rfl
  have y153 : s1.1 153 = s.1 153 := funext fun b => pK 153 b rfl
  have y158 : s1.1 158 = s.1 158 := funext fun b => pK 158 b rfl
  have y159 : s1.1 159 = s.1 159 := funext fun b => pK 159 b rfl
  have y163 : s1.1 163 = s.1 163 := funext fun b => pK 163 b rfl
  have rg : RG s s1 := ⟨y153.trans gT3.symm, (pK 152 1 rfl).trans gT1.symm, gT2, gB⟩
  obtain ⟨⟨v2, s2⟩, e2, ⟨aS, z1, h2⟩, r2, -, XR2⟩ := t_and (wX11_court_E rg tk i1.2.1) (wX11_court_T i1.2.1)
  dsimp only at aS z1 h2 r2 XR2
  rw [y158, y159, y163] at h2
  have bs : ∀ k, k < 152 → s2.1 k = s1.1 k := fun k hk => funext fun b => aS k b (by
    unfold bNs bN bL bE bF
    rw [nq_false (show k ≠ 154 by omega), nq_false (show k ≠ 155 by omega), nq_false (show k ≠ 152 by omega), nq_false (show k ≠ 156 by omega), nq_false (show k ≠ 157 by omega), nb_false (show k < 158 by omega), nq_false (show k ≠ 163 by omega)]
    rfl)
  have w153 : s2.1 153 = s1.1 153 := funext fun b => aS 153 b (by
    unfold bNs bN bL bE bF
    rfl)
  have w2 : s2.1 152 2 = s.1 152 2 := (aS 152 2 (by unfold bNs; rw [bN_2]; rfl)).trans (pK 152 2 rfl)
  have ta : TA s2 := by
    refine ⟨?_, ?_, ?_⟩
    · rw [bs 1 (by decide), t11, z1]
    · rw [bs 1 (by decide), t11]; exact ⟨by decide, by decide⟩
    · rw [bs 2 (by decide), t2, w153, y153]; exact gT3
  have bc : ∀ k b, bCo k b = false → s2.1 k b = (if k < 152 then s.1 k b else s2.1 k b) := fun k b hk => by
    by_cases c : k < 152
    · rw [if_pos c, bs k c]; exact aN k b hk
    · rw [if_neg c]
  have imgs : ∀ k : Nat, k < 4 → (s2.1 27 k = 0 ↔ s2.1 171 k = 0) ∧ (¬ s2.1 171 k = 0 → HR (104 + 12 * k) (fun i => s2.1 170 (262 * k + i)) s2) := by
    have cI : ∀ k, 104 ≤ k → k ≤ 151 → s2.1 k = s.1 k := fun k h1 h2 => by
      rw [bs k (by omega)]
      exact funext fun b => aN k b (by
        unfold bCo
        rw [nq_false (show k ≠ 1 by omega), nb_false (show k > 12 by omega), nq_false (show k ≠ 14 by omega), nb_false (show k > 18 by omega), nb_false (show k > 31 by omega), nb_false (show k > 103 by omega), Bool.and_false, Bool.and_false, Bool.and_false, Bool.and_false]
        rfl)
    intro k hk
    have x170 : s2.1 170 = s.1 170 := by rw [XR2.2.1]; exact funext fun b => pK 170 b rfl
    have x171 : s2.1 171 = s.1 171 := by rw [XR2.2.2]; exact funext fun b => pK 171 b rfl
    have x27 : s2.1 27 = s.1 27 := by rw [bs 27 (by decide)]; exact funext fun b => aN 27 b rfl
    rw [x27, x171, x170]
    refine ⟨(g6 k hk).1, fun h => ((g6 k hk).2 h).go ?_ (fun j h1 h2 => cI _ (by omega) (by omega))⟩
    rw [cI (104 + 12 * k) (by omega) (by omega)]
    exact ⟨rfl, rfl, rfl, rfl⟩
  have lws : ∀ l : Nat, (l : Int) < (s2.1 152 2).toInt → LAWR l s2 := by
    intro l hl
    rw [w2] at hl
    have hl6 : l < 6 := by have := gR.1.2.1; omega
    obtain ⟨x, x1, x2⟩ := g7 l hl
    refine ⟨x, x1.go ?_ ?_ (fun j h1 h2 => ?_), x2.pos x1.1.2.1 ?_ (fun j hj => ?_) ?_ (fun j hj => ?_)⟩
    · rw [bs _ (by omega)]
      have : ∀ l, l < 6 → bCo (44 + 10 * l) 1 = false := by decide +kernel
      exact aN _ _ (this l hl6)
    · rw [bs _ (by omega)]
      have : ∀ l, l < 6 → bCo (44 + 10 * l) 6 = false := by decide +kernel
      exact aN _ _ (this l hl6)
    · rw [bs _ (by omega)]
      exact funext fun b => aN _ b (by
        have hk : (44 + 10 * l + j - 44) % 10 = j := by omega
        unfold bCo
        rw [hk, nq_false (show 44 + 10 * l + j ≠ 1 by omega), nb_false (show 44 + 10 * l + j > 12 by omega), nq_false (show 44 + 10 * l + j ≠ 14 by omega), nb_false (show 44 + 10 * l + j > 18 by omega), nb_false (show 44 + 10 * l + j > 31 by omega), nq_false (show j ≠ 0 by omega)]
        simp only [Bool.false_and, Bool.false_or, Bool.and_false, Bool.or_false])
    · rw [aS 155 l (by unfold bNs; rw [bN_155 (by omega)]; rfl)]; exact pK 155 l rfl
    · rw [aS 154 _ (by unfold bNs; rw [bN_154 (by omega)]; rfl)]; exact pK 154 _ rfl
    · rw [aS 157 l (by unfold bNs; rw [bN_157 (by omega)]; rfl)]; exact pK 157 l rfl
    · rw [aS 156 _ (by unfold bNs; rw [bN_156 (by omega)]; rfl)]; exact pK 156 _ rfl
  have byr : BYR s2 := by unfold BYR; rw [bs 2 (by decide), t2]; exact gB
  have cnt : s2.1 0 6 = s2.1 152 2 := by rw [w2, bs 0 (by decide), aN 0 6 rfl]; exact g2
  rcases h1 with ⟨e, E1, q1, fr⟩ | ⟨c', E1, co, q1⟩
  · rcases h2 with ⟨e', E2, q2, f2⟩ | ⟨c'', E2, -, -⟩
    · obtain rfl := Sum.inl.inj (E1.det E2)
      refine ⟨v, s1, v2, s2, e1, e2, by rw [q1, q2], r2, cnt, ta, byr, ?_, imgs, lws⟩
      rw [f2]
      have ch : ∀ k, 14 ≤ k → k ≤ 27 → s2.1 k = s.1 k := fun k h1 h2 => by
        rw [bs k (by omega)]
        funext b
        have := fr k b (by
          unfold bR bRa
          rw [nb_false (show k > 12 by omega), nb_false (show k < 28 by omega), nb_false (show k < 165 by omega), nq_false (show k ≠ 152 by omega), Bool.and_false]
          rfl)
        rw [wupI_n (by omega)] at this
        exact this
      refine g5.go ?_ (fun j h1 h2 => ch _ (by omega) (by omega))
      rw [ch 14 (by decide) (by decide)]
      exact ⟨rfl, rfl, rfl, rfl⟩
    · cases E1.det E2
  · rcases h2 with ⟨e', E2, -, -⟩ | ⟨c'', E2, cs, q2⟩
    · cases E1.det E2
    · obtain rfl := Sum.inr.inj (E1.det E2)
      refine ⟨v, s1, v2, s2, e1, e2, by rw [q1, q2], r2, cnt, ta, byr, ?_, imgs, lws⟩
      obtain ⟨n, hn⟩ := E1
      obtain ⟨n1, n2, n3⟩ := cst_99 n (fun i hi => absurd hi (by show ¬ i < 2 * 0; omega)) (fun i hi => absurd hi (by show ¬ i < 2 * 0; omega)) hn
      obtain ⟨⟨c1, c2, c3⟩, c4, c5, ⟨c6, c7, c8⟩, ⟨c9, c9'⟩, c10⟩ := co
      obtain ⟨⟨d1, d2, d3⟩, ⟨d4, d5, d6, d7⟩, d8, d9⟩ := cs
      have er : (Int32.ofNat c'.2.2.1).toInt = c'.2.2.1 := t_on (by omega)
      have em : (Int32.ofNat c'.2.2.2.1).toInt = c'.2.2.2.1 := t_on (by omega)
      have hb : ∀ k, k < 152 → s2.1 k = s1.1 k := bs
      refine ⟨⟨⟨?_, ?_, ?_⟩, fun i hi => ?_, fun i hi => ?_⟩, ⟨⟨?_, ?_, ?_, ?_⟩, fun a ha => ?_, fun a ha => ?_⟩, ⟨fun h0 => ?_, ?_, fun a ha => ?_, fun w => ?_, fun a ha => ?_, fun i hi => ?_, fun i hi => ?_⟩⟩
      · rw [hb 16 (by decide), c1, d1]
      · rw [hb 16 (by decide), c2, d2]
      · rw [hb 16 (by decide), c3, d3]
      · rw [d2, er] at hi
        rw [hb 17 (by decide), hb 18 (by decide), (c4 i (by omega)).1, (c4 i (by omega)).2, d8 _ (by omega), show 10 + 2 * i + 1 = 10 + (2 * i + 1) by omega, d8 _ (by omega)]
        exact ⟨rfl, rfl⟩
      · rw [d3, em] at hi
        rw [hb 17 (by decide), hb 18 (by decide), (c5 i (by omega)).1, (c5 i (by omega)).2, d9 _ (by omega), show 26 + 2 * i + 1 = 26 + (2 * i + 1) by omega, d9 _ (by omega)]
        exact ⟨rfl, rfl⟩
      · rw [hb 14 (by decide), c6, d4]
      · rw [hb 14 (by decide), c7, d5]
      · rw [hb 14 (by decide), c8, d6]
      · rw [hb 14 (by decide), x11, d7]
        exact g5.2.1.1.2.2.2
      · rw [d4, t_i0] at ha; omega
      · rw [d6, t_i0] at ha; omega
      · exfalso
        rw [d1] at h0
        by_cases q : c'.2.1 = 0
        · rw [if_pos q] at h0; exact absurd h0 (by decide)
        · rw [if_neg q] at h0; exact q h0
      · rw [d5]; exact ⟨by decide, by decide⟩
      · rw [d4, t_i0] at ha; omega
      · rw [d4]; exact Nat.zero_le _
      · rw [d6, t_i0] at ha; omega
      · rw [d2, er] at hi
        rw [d8 i (by omega)]
        exact n1 i (by omega)
      · rw [d3, em] at hi
        rw [d9 i (by omega)]
        exact n2 i (by omega)
theorem op_law {s : wS} (g : JA s) : ∃ v s1 v2 s2, wX10_law s = some (v, s1) ∧ wX11_law s1 = some (v2, s2) ∧ v = v2 ∧ JA s2 := by
  obtain ⟨gR, g2, ⟨gT1, gT2, gT3⟩, gB, g5, g6, g7⟩ := id g
  have hL := gR.1.2.1
  by_cases c6 : s.1 152 2 = 6
  · refine ⟨-1, s, -1, s, ?_, ?_, rfl, g⟩
    · unfold wX10_law
      rw [g2, c6, if_neg (by decide)]
    · unfold wX11_law
      rw [if_pos c6]
  · have n6 := t_nq c6
    rw [show (6 : Int32).toInt = 6 from rfl] at n6
    obtain ⟨l, hl⟩ : ∃ l : Nat, s.1 152 2 = Int32.ofNat l ∧ l < 6 := ⟨(s.1 152 2).toNatClampNeg, (t_oc hL.1).symm, by unfold Int32.toNatClampNeg; omega⟩
    obtain ⟨hl, hl6⟩ := hl
    have el : (Int32.ofNat l).toInt = l := t_on (by omega)
    obtain ⟨⟨v, s1⟩, e1, ⟨aL, t11, S, P, N, E, K, tk, hE, h1⟩, pK, -⟩ := t_and (wX10_law_E hl6 (g2.trans hl) gT2.1 gT2.2) (wX10_law_T g.inv.1)
    dsimp only at aL t11 h1 pK
    have i1 : INV s1 := INV_C pK g.inv (by
      obtain ⟨r, e, -, p⟩ := wX10_law_T g.inv.1
      rw [e1] at e
      rw [← Option.some.inj e] at p
      exact p) rfl (fun _ => rfl) ⟨rfl, rfl, rfl, rfl⟩ (fun _ => ⟨rfl, rfl, rfl, rfl, rfl, rfl⟩) rfl rfl
    have y : ∀ k, 104 ≤ k → s1.1 k = s.1 k := fun k hk => funext fun b => aL k b (bLw_n (by omega) (by omega) (by omega) (by omega) (by omega))
    have rg : RG s s1 := ⟨(y 153 (by decide)).trans gT3.symm, by rw [y 152 (by decide)]; exact gT1.symm, gT2, gB⟩
    obtain ⟨⟨v2, s2⟩, e2, ⟨aS, z1, h2⟩, r2, -, XR2⟩ := t_and (wX11_law_E hl6 (by rw [y 152 (by decide)]; exact hl) rg tk hE i1.2.1) (wX11_law_T i1.2.1)
    dsimp only at aS z1 h2 r2 XR2
    have bs : ∀ k, k < 152 → s2.1 k = s1.1 k := fun k hk => funext fun b => aS k b (by
      unfold bNl bN bL bE bF
      rw [nq_false (show k ≠ 154 by omega), nq_false (show k ≠ 155 by omega), nq_false (show k ≠ 152 by omega), nq_false (show k ≠ 156 by omega), nq_false (show k ≠ 157 by omega), nb_false (show k < 158 by omega)]
      rfl)
    have w153 : s2.1 153 = s1.1 153 := funext fun b => aS 153 b (by
      unfold bNl bN bL bE bF
      rfl)
    have w163 : s2.1 163 = s.1 163 := by
      rw [← y 163 (by decide)]
      exact funext fun b => aS 163 b (by unfold bNl; rw [bN_163]; rfl)
    have t2 : s1.1 2 = s.1 2 := funext fun b => aL 2 b (bLw_n (by decide) (by decide) (by omega) (by omega) (by omega))
    have ta : TA s2 := by
      refine ⟨?_, ?_, ?_⟩
      · rw [bs 1 (by decide), t11, z1]
      · rw [bs 1 (by decide), t11]; exact ⟨by decide, by decide⟩
      · rw [bs 2 (by decide), t2, w153, y 153 (by decide)]; exact gT3
    have byr : BYR s2 := by unfold BYR; rw [bs 2 (by decide), t2]; exact gB
    have ch : ∀ k, (14 ≤ k ∧ k ≤ 27) ∨ (104 ≤ k ∧ k ≤ 151) → s2.1 k = s.1 k := fun k hk => by
      rw [bs k (by omega)]
      exact funext fun b => aL k b (bLw_n (by omega) (by omega) (by omega) (by omega) (by omega))
    have hear : HR 14 (s2.1 163) s2 := by
      rw [w163]
      refine g5.go ?_ (fun j h1 h2 => ch _ (by omega))
      rw [ch 14 (by omega)]
      exact ⟨rfl, rfl, rfl, rfl⟩
    have imgs : ∀ k : Nat, k < 4 → (s2.1 27 k = 0 ↔ s2.1 171 k = 0) ∧ (¬ s2.1 171 k = 0 → HR (104 + 12 * k) (fun i => s2.1 170 (262 * k + i)) s2) := by
      intro k hk
      have x170 : s2.1 170 = s.1 170 := by rw [XR2.2.1, y 170 (by decide)]
      have x171 : s2.1 171 = s.1 171 := by rw [XR2.2.2, y 171 (by decide)]
      rw [ch 27 (by omega), x171, x170]
      refine ⟨(g6 k hk).1, fun h => ((g6 k hk).2 h).go ?_ (fun j h1 h2 => ch _ (by omega))⟩
      rw [ch (104 + 12 * k) (by omega)]
      exact ⟨rfl, rfl, rfl, rfl⟩
    have old : ∀ l' : Nat, l' < l → LAWR l' s2 := by
      intro l' hl'
      obtain ⟨x, x1, x2⟩ := g7 l' (by rw [hl, el]; omega)
      refine ⟨x, x1.go ?_ ?_ (fun j h1 h2 => ?_), x2.pos x1.1.2.1 ?_ (fun j hj => ?_) ?_ (fun j hj => ?_)⟩
      · rw [bs _ (by omega)]; exact aL _ _ (bLw_n (by omega) (by omega) (by omega) (by omega) (by omega))
      · rw [bs _ (by omega)]; exact aL _ _ (bLw_n (by omega) (by omega) (by omega) (by omega) (by omega))
      · rw [bs _ (by omega)]; exact funext fun b => aL _ _ (bLw_n (by omega) (by omega) (by omega) (by omega) (by omega))
      · rw [aS 155 l' (by unfold bNl; rw [bN_155 (by omega)]; rfl), y 155 (by decide)]
      · rw [aS 154 _ (by unfold bNl; rw [bN_154 (by omega)]; rfl), y 154 (by decide)]
      · rw [aS 157 l' (by unfold bNl; rw [bN_157 (by omega)]; rfl), y 157 (by decide)]
      · rw [aS 156 _ (by unfold bNl; rw [bN_156 (by omega)]; rfl), y 156 (by decide)]
    rcases h1 with ⟨e, E1, q1, f1⟩ | ⟨c', E1, q1, f1, cl, m0⟩
    · rcases h2 with ⟨e', E2, q2, f2⟩ | ⟨c'', E2, -, -, -⟩
      · obtain rfl := Sum.inl.inj (E1.det E2)
        refine ⟨v, s1, v2, s2, e1, e2, by rw [q1, q2], r2, ?_, ta, byr, hear, imgs, fun l' hl' => ?_⟩
        · rw [f2, y 152 (by decide), bs 0 (by decide), f1]; exact g2
        · rw [f2, y 152 (by decide), hl, el] at hl'
          exact old l' (by omega)
      · cases E1.det E2
    · rcases h2 with ⟨e', E2, -, -⟩ | ⟨c'', E2, q2, f2, rl⟩
      · cases E1.det E2
      · obtain rfl := Sum.inr.inj (E1.det E2)
        refine ⟨v, s1, v2, s2, e1, e2, by rw [q1, q2], r2, ?_, ta, byr, hear, imgs, fun l' hl' => ?_⟩
        · rw [f2, bs 0 (by decide), f1]
        · rw [f2, t_on (by omega)] at hl'
          by_cases c : l' = l
          · subst c
            refine ⟨c', cl.go ?_ ?_ (fun j h1 h2 => bs _ (by omega)), rl⟩
            · rw [bs _ (by omega)]
            · rw [bs _ (by omega)]
          · exact old l' (by omega)
