/-! What is told, and the images: the tables stay right. -/
theorem cIA_h16 : ∀ (n : Nat) {x1 : Int32} {s : wS}, 0 ≤ x1.toInt → x1.toInt ≤ 6 → PK (wX10_courtIsAnother_h16 n x1 s) (fun r => ∀ l : Nat, l < 6 → (x1.toInt ≤ l ∨ s.1 (44 + 10 * l) 12 = 0) → r.1 (44 + 10 * l) 12 = 0) := by
  intro n
  induction n with
  | zero =>
    intro x1 s _ _
    rw [wX10_courtIsAnother_h16]
    exact pk_none
  | succ n ih =>
    intro x1 s h0 h6
    rw [wX10_courtIsAnother_h16]
    refine pk_ite (fun c => ?_) (fun c => ?_)
    · have hc := t_lt c
      rw [show (6 : Int32).toInt = 6 from rfl] at hc
      refine pk_bind pk_any (fun k5 _ => ?_)
      refine pk_bind pk_ldR13 (fun k6 h => ?_)
      have e : wpfZ s k6 12 0 = some (wupI s k6 12 0) := rfl
      rw [e, t_sbe]
      unfold wX10_courtIsAnother_j44
      have p1 : (x1 + 1).toInt = x1.toInt + 1 := t_p1 h0 (by omega)
      refine pk_mono (ih (by omega) (by omega)) (fun r hr l hl q => hr l hl ?_)
      have xn := t_cln h0
      by_cases k : x1.toInt = l
      · right
        have : k6 = 44 + 10 * l := by omega
        rw [this]
        exact wup_same
      · rcases q with q | q
        · left
          omega
        · right
          rw [wupI_n (by omega)]
          exact q
    · have hc := t_ge c
      rw [show (6 : Int32).toInt = 6 from rfl] at hc
      refine pk_some (fun l hl q => ?_)
      rcases q with q | q
      · omega
      · exact q
theorem cIA_K {s : wS} : PK (wX10_courtIsAnother s) (fun r => ∀ l : Nat, l < 6 → r.1 (44 + 10 * l) 12 = 0) := by
  unfold wX10_courtIsAnother
  refine pk_bind pk_any (fun s2 _ => ?_)
  refine pk_bind (cIA_h16 _ (by decide) (by decide)) (fun s9 h => pk_some (fun l hl => h l hl (Or.inl ?_)))
  rw [t_i0]
  omega
theorem court_K {s : wS} : PK (wX10_court s) (fun r => (∀ l : Nat, l < 6 → r.2.1 (44 + 10 * l) 12 = 0) ∨ KT s r.2) := by
  unfold wX10_court
  refine pk_bind (wX9_cut_KT KT.refl) (fun s2 g1 => ?_)
  refine pk_bind (kt_pfI rfl g1) (fun s4 g2 => ?_)
  refine pk_bind (wX1_read_KT (fun _ => rfl) (fun _ => rfl) (fun _ => rfl) g2) (fun s6 g3 => ?_)
  refine pk_ite (fun _ => ?_) (fun _ => pk_some (Or.inr g3))
  refine pk_bind pk_any (fun s10 _ => ?_)
  refine pk_bind cIA_K (fun s13 h => ?_)
  exact pk_bind pk_any (fun t15 _ => pk_some (Or.inl h))
theorem back_K {x1 : Int32} {s : wS} : PK (wX10_back x1 s) (fun r => (∀ l : Nat, l < 6 → r.2.1 (44 + 10 * l) 12 = 0) ∨ KT s r.2) := by
  unfold wX10_back
  refine pk_bind pk_any (fun t1 _ => ?_)
  refine pk_ite (fun _ => ?_) (fun _ => pk_some (Or.inr KT.refl))
  refine pk_bind pk_any (fun t4 _ => ?_)
  refine pk_ite (fun _ => pk_some (Or.inr KT.refl)) (fun _ => ?_)
  refine pk_bind pk_any (fun k6 _ => ?_)
  refine pk_bind pk_any (fun k7 _ => ?_)
  refine pk_bind pk_any (fun s9 _ => ?_)
  exact pk_bind cIA_K (fun s12 h => pk_some (Or.inl h))
section TOPS
variable {s : wS}
theorem told_C {s1 s2 : wS} (g : JB s) (k1 : (∀ l : Nat, l < 6 → s1.1 (44 + 10 * l) 12 = 0) ∨ KT s s1) (k2 : KT s1 s2) (g2 : JA s2) : JB s2 := by
  rcases k1 with z | k1
  · refine ⟨g2, fun l hl => Or.inl ?_⟩
    have := g2.1.1.2.1.2
    rw [k2.1 _ _ (bK_tab (by omega) (by omega))]
    exact z l (by omega)
  · exact told_B g k1 k2 g2
theorem op_feed_B {x1 x2 x3 x4 x5 : Int32} (g : JB s) : ∃ v s1 v2 s2, wX10_feed x1 x2 x3 x4 x5 s = some (v, s1) ∧ wX11_feed x1 x2 x3 x4 x5 s1 = some (v2, s2) ∧ v = v2 ∧ JB s2 := by
  obtain ⟨v, s1, v2, s2, e1, e2, hv, g2⟩ := op_feed (x1 := x1) (x2 := x2) (x3 := x3) (x4 := x4) (x5 := x5) g.1
  exact ⟨v, s1, v2, s2, e1, e2, hv, told_B g ((wX10_feed_KT KT.refl).get e1) ((wX11_feed_KT KT.refl).get e2) g2⟩
theorem op_end_B {x1 : Int32} (g : JB s) : ∃ v s1 v2 s2, wX10_end x1 s = some (v, s1) ∧ wX11_end x1 s1 = some (v2, s2) ∧ v = v2 ∧ JB s2 := by
  obtain ⟨v, s1, v2, s2, e1, e2, hv, g2⟩ := op_end (x1 := x1) g.1
  exact ⟨v, s1, v2, s2, e1, e2, hv, told_B g ((wX10_end_KT KT.refl).get e1) ((wX11_end_KT KT.refl).get e2) g2⟩
theorem op_answer_B {x1 x2 x3 x4 : Int32} (g : JB s) : ∃ v s1 v2 s2, wX10_answer x1 x2 x3 x4 s = some (v, s1) ∧ wX11_answer x1 x2 x3 x4 s1 = some (v2, s2) ∧ v = v2 ∧ JB s2 := by
  obtain ⟨v, s1, v2, s2, e1, e2, hv, g2⟩ := op_answer (x1 := x1) (x2 := x2) (x3 := x3) (x4 := x4) g.1
  exact ⟨v, s1, v2, s2, e1, e2, hv, told_B g ((wX10_answer_KT KT.refl).get e1) ((wX11_answer_KT KT.refl).get e2) g2⟩
theorem op_strike_B {x1 x2 : Int32} (g : JB s) (hx2 : x2 = 0 ∨ x2 = 1) : ∃ v s1 v2 s2, wX10_strike x1 x2 s = some (v, s1) ∧ wX11_strike x1 x2 s1 = some (v2, s2) ∧ v = v2 ∧ JB s2 := by
  obtain ⟨v, s1, v2, s2, e1, e2, hv, g2⟩ := op_strike (x1 := x1) g.1 hx2
  exact ⟨v, s1, v2, s2, e1, e2, hv, told_B g ((wX10_strike_KT KT.refl).get e1) ((wX11_strike_KT KT.refl).get e2) g2⟩
theorem op_only_B {x1 : Int32} (g : JB s) : ∃ v s1 v2 s2, wX10_only x1 s = some (v, s1) ∧ wX11_only x1 s1 = some (v2, s2) ∧ v = v2 ∧ JB s2 := by
  obtain ⟨v, s1, v2, s2, e1, e2, hv, g2⟩ := op_only (x1 := x1) g.1
  exact ⟨v, s1, v2, s2, e1, e2, hv, told_B g ((wX10_only_KT KT.refl).get e1) ((wX11_only_KT KT.refl).get e2) g2⟩
theorem op_seed_B {x1 : Int32} (g : JB s) : ∃ v s1 v2 s2, wX10_seed x1 s = some (v, s1) ∧ wX11_seed x1 s1 = some (v2, s2) ∧ v = v2 ∧ JB s2 := by
  obtain ⟨v, s1, v2, s2, e1, e2, hv, g2⟩ := op_seed (x1 := x1) g.1
  exact ⟨v, s1, v2, s2, e1, e2, hv, told_B g ((wX10_seed_KT KT.refl).get e1) ((wX11_seed_KT KT.refl).get e2) g2⟩
theorem op_verdict_B {x1 : Int32} (g : JB s) : ∃ v s1 v2 s2, wX10_verdict x1 s = some (v, s1) ∧ wX11_verdict x1 s1 = some (v2, s2) ∧ v = v2 ∧ JB s2 := by
  obtain ⟨v, s1, v2, s2, e1, e2, hv, g2⟩ := op_verdict (x1 := x1) g.1
  exact ⟨v, s1, v2, s2, e1, e2, hv, told_B g ((wX10_verdict_KT KT.refl).get e1) ((wX11_verdict_KT KT.refl).get e2) g2⟩
theorem op_image_B {x1 : Int32} (g : JB s) : ∃ v s1 v2 s2, wX10_image x1 s = some (v, s1) ∧ wX11_image x1 s1 = some (v2, s2) ∧ v = v2 ∧ JB s2 := by
  obtain ⟨v, s1, v2, s2, e1, e2, hv, g2⟩ := op_image (x1 := x1) g.1
  exact ⟨v, s1, v2, s2, e1, e2, hv, told_B g ((wX10_image_KT KT.refl).get e1) ((wX11_image_KT KT.refl).get e2) g2⟩
theorem op_back_B {x1 : Int32} (g : JB s) : ∃ v s1 v2 s2, wX10_back x1 s = some (v, s1) ∧ wX11_back x1 s1 = some (v2, s2) ∧ v = v2 ∧ JB s2 := by
  obtain ⟨v, s1, v2, s2, e1, e2, hv, g2⟩ := op_back (x1 := x1) g.1
  exact ⟨v, s1, v2, s2, e1, e2, hv, told_C g (back_K.get e1) ((wX11_back_KT KT.refl).get e2) g2⟩
theorem op_court_B (g : JB s) : ∃ v s1 v2 s2, wX10_court s = some (v, s1) ∧ wX11_court s1 = some (v2, s2) ∧ v = v2 ∧ JB s2 := by
  obtain ⟨v, s1, v2, s2, e1, e2, hv, g2⟩ := op_court g.1
  exact ⟨v, s1, v2, s2, e1, e2, hv, told_C g (court_K.get e1) ((wX11_court_KT KT.refl).get e2) g2⟩
theorem op_law_B (g : JB s) : ∃ v s1 v2 s2, wX10_law s = some (v, s1) ∧ wX11_law s1 = some (v2, s2) ∧ v = v2 ∧ JB s2 := by
  obtain ⟨v, s1, v2, s2, e1, e2, hv, g2⟩ := op_law g.1
  refine ⟨v, s1, v2, s2, e1, e2, hv, g2, ?_⟩
  have k2 : KT s1 s2 := (wX11_law_KT KT.refl).get e2
  have kl : KLo s s1 := (wX10_law_KL KLo.refl).get e1
  obtain ⟨gR, c0, ⟨gT1, gT2, gT3⟩, -⟩ := id g.1
  have hL := gR.1.2.1
  have hL2 := g2.1.1.2.1
  have c2 := g2.2.1
  rw [k2.1 0 6 rfl] at c2
  by_cases c6 : s.1 152 2 = 6
  · have e : wX10_law s = some (-1, s) := by
      unfold wX10_law
      rw [c0, c6, if_neg (by decide)]
    rw [e] at e1
    obtain ⟨-, rfl⟩ := Prod.mk.inj (Option.some.inj e1)
    exact (told_B g KT.refl k2 g2).2
  · have n6 := t_nq c6
    rw [show (6 : Int32).toInt = 6 from rfl] at n6
    obtain ⟨l, hl, hl6⟩ : ∃ l : Nat, s.1 152 2 = Int32.ofNat l ∧ l < 6 := ⟨(s.1 152 2).toNatClampNeg, (t_oc hL.1).symm, by unfold Int32.toNatClampNeg; omega⟩
    have el : (Int32.ofNat l).toInt = l := t_on (by omega)
    obtain ⟨⟨v', s1'⟩, e1', aL, t11, S, P, N, E, K, tk, hE, h1⟩ := wX10_law_E hl6 (c0.trans hl) gT2.1 gT2.2
    rw [e1] at e1'
    obtain ⟨rfl, rfl⟩ := Prod.mk.inj (Option.some.inj e1')
    dsimp only at aL h1
    have old : ∀ l' : Nat, l' < l → l' < 6 → s2.1 (44 + 10 * l') 12 = 0 ∨ ((l' : Int) < (s.1 152 2).toInt ∧ (∀ k, 16 ≤ k → k ≤ 18 → s2.1 k = s.1 k) ∧ (∀ k, 44 + 10 * l' ≤ k → k ≤ 44 + 10 * l' + 9 → s2.1 k = s.1 k) ∧ s2.2 (44 + 10 * l' + 8) = s.2 (44 + 10 * l' + 8)) := fun l' h' h6 => by
      refine Or.inr ⟨by rw [hl, el]; omega, fun k p1 p2 => funext fun b => ?_, fun k p1 p2 => funext fun b => ?_, ?_⟩
      · rw [k2.1 k b (bK_hc p1 p2)]
        exact aL k b (bLw_n (by omega) (by omega) (by omega) (by omega) (by omega))
      · rw [k2.1 k b (bK_tab (by omega) (by omega))]
        exact aL k b (bLw_n (by omega) (by omega) (by omega) (by omega) (by omega))
      · rw [k2.2]
        exact congrFun kl _
    refine TBS_told g g2 (fun l' hl' => ?_)
    rw [← c2] at hl'
    rcases h1 with ⟨e, -, -, f1⟩ | ⟨c', -, -, f1, -, m0⟩
    · rw [f1, c0, hl, el] at hl'
      exact old l' (by omega) (by omega)
    · rw [f1, t_on (by omega)] at hl'
      by_cases q : l' = l
      · left
        rw [q, k2.1 _ _ (bK_tab (by omega) (by omega))]
        exact m0
      · exact old l' (by omega) (by omega)
end TOPS
