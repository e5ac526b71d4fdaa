/-! The PAIRS are right between all calls. -/
theorem Tot.get {α : Type} {z : Option α} {Q : α → Prop} {a : α} (h : Tot z Q) (e : z = some a) : Q a := by
  obtain ⟨b, eb, hb⟩ := h
  rw [e] at eb
  cases eb
  exact hb
theorem Tot.pk {α : Type} {z : Option α} {Q : α → Prop} (h : Tot z Q) : PK z Q := fun _ e => h.get e
section JP
variable {s : wS} {x : lC} {l : Nat} {f : Nat → Int32} {r : wS}
/-- the class's PAIRS are those of its COURT -/
noncomputable def PRS (s : wS) : Prop := PTB s (pal (nk (s.1 16)) 3)
noncomputable def JP (s : wS) : Prop := JB s ∧ PRS s
theorem PRS.go (p : PRS s) (h : ∀ k, k = 16 ∨ (28 ≤ k ∧ k ≤ 31) → r.1 k = s.1 k) : PRS r := by
  unfold PRS
  rw [h 16 (Or.inl rfl)]
  exact PTB.fk p (fun k h1 h2 => h k (Or.inr ⟨h1, h2⟩))
theorem bQ_pr {k b : Nat} (h : k = 16 ∨ (28 ≤ k ∧ k ≤ 31)) : bQ k b = false := by
  obtain rfl | rfl | rfl | rfl | rfl : k = 16 ∨ k = 28 ∨ k = 29 ∨ k = 30 ∨ k = 31 := by omega
  all_goals rfl
theorem PRS.q (p : PRS s) (a : wA bQ s r) : PRS r := p.go (fun k h => funext fun b => a k b (bQ_pr h))
theorem PRS.p (p : PRS s) (a : wA bP s r) : PRS r := p.q (a.mono bP_le_bQ)
theorem PRS.kt (p : PRS s) (a : KT s r) : PRS r := p.go (fun k h => funext fun b => by
  rcases h with h | h
  · exact a.1 k b (bK_hc (by omega) (by omega))
  · exact a.1 k b (bK_pr h.1 h.2))
theorem PRS.pt (p : PRS s) (g : JA s) : PTB s (pal (nk (s.1 163)) 3) := by
  have e : pal (nk (s.1 163)) 3 = pal (nk (s.1 16)) 3 := pal_cg (fun j hj => by
    unfold nk
    rw [many_E g j hj])
  rw [e]
  exact p
theorem cIA_low : ∀ (n : Nat) {x1 : Int32} {s : wS}, 0 ≤ x1.toInt → PK (wX10_courtIsAnother_h16 n x1 s) (fun r => ∀ k, k < 44 → r.1 k = s.1 k) := by
  intro n
  induction n with
  | zero =>
    intro x1 s _
    rw [wX10_courtIsAnother_h16]
    exact pk_none
  | succ n ih =>
    intro x1 s h0
    rw [wX10_courtIsAnother_h16]
    refine pk_ite (fun c => ?_) (fun c => pk_some (fun _ _ => rfl))
    have hc := t_lt c
    rw [show (6 : Int32).toInt = 6 from rfl] at hc
    refine pk_bind pk_any (fun k5 _ => ?_)
    refine pk_bind pk_ldR13 (fun k6 h => ?_)
    have e : wpfZ s k6 12 0 = some (wupI s k6 12 0) := rfl
    rw [e, t_sbe]
    unfold wX10_courtIsAnother_j44
    have p1 : (x1 + 1).toInt = x1.toInt + 1 := t_p1 h0 (by omega)
    exact pk_mono (ih (by omega)) (fun r hr k hk => (hr k hk).trans (wupI_n (by omega)))
theorem cIA_P : PK (wX10_courtIsAnother s) (fun r => r.1 16 = s.1 16 ∧ ((∀ kd, kd < 3 → 0 ≤ (s.1 16 kd).toInt ∧ (s.1 16 kd).toInt ≤ 8) → PRS r)) := by
  intro r e
  have a := Tot.get wX10_courtIsAnother_Yp e
  have r16 : r.1 16 = s.1 16 := funext fun b => a 16 b rfl
  refine ⟨r16, fun h => ?_⟩
  have g16 : ∀ kd, kd < 3 → s.1 16 kd = Int32.ofNat (nk (s.1 16) kd) ∧ nk (s.1 16) kd ≤ 8 := fun kd hk => by
    have e := t_cln (h kd hk).1
    have := (h kd hk).2
    exact ⟨(t_oc (h kd hk).1).symm, by unfold nk; omega⟩
  obtain ⟨s2, e2, f2, p2⟩ := fill_E g16
  unfold wX10_courtIsAnother at e
  rw [e2, t_sbe] at e
  cases h16 : wX10_courtIsAnother_h16 wFuel 0 s2 with
  | none =>
    rw [h16] at e
    cases e
  | some s9 =>
    rw [h16, t_sbe] at e
    cases e
    have lo := (cIA_low wFuel (by decide)).get h16
    unfold PRS
    rw [r16]
    exact p2.fk (fun k _ h2 => lo k (by omega))
theorem court_P : PK (wX10_court s) (fun r => KT s r.2 ∨ ((∀ kd, kd < 3 → 0 ≤ (r.2.1 16 kd).toInt ∧ (r.2.1 16 kd).toInt ≤ 8) → PRS r.2)) := by
  unfold wX10_court
  refine pk_bind (wX9_cut_KT KT.refl) (fun s2 g1 => ?_)
  refine pk_bind (kt_pfI rfl g1) (fun s4 g2 => ?_)
  refine pk_bind (wX1_read_KT (fun _ => rfl) (fun _ => rfl) (fun _ => rfl) g2) (fun s6 g3 => ?_)
  refine pk_ite (fun _ => ?_) (fun _ => pk_some (Or.inl g3))
  refine pk_bind pk_any (fun s10 _ => ?_)
  refine pk_bind cIA_P (fun s13 h => ?_)
  exact pk_bind pk_any (fun t15 _ => pk_some (Or.inr (fun q => h.2 (fun kd hk => by rw [← h.1]; exact q kd hk))))
theorem back_P {x1 : Int32} : PK (wX10_back x1 s) (fun r => KT s r.2 ∨ ((∀ kd, kd < 3 → 0 ≤ (r.2.1 16 kd).toInt ∧ (r.2.1 16 kd).toInt ≤ 8) → PRS r.2)) := by
  unfold wX10_back
  refine pk_bind pk_any (fun t1 _ => ?_)
  refine pk_ite (fun _ => ?_) (fun _ => pk_some (Or.inl KT.refl))
  refine pk_bind pk_any (fun t4 _ => ?_)
  refine pk_ite (fun _ => pk_some (Or.inl KT.refl)) (fun _ => ?_)
  refine pk_bind pk_any (fun k6 _ => ?_)
  refine pk_bind pk_any (fun k7 _ => ?_)
  refine pk_bind pk_any (fun s9 _ => ?_)
  exact pk_bind cIA_P (fun s12 h => pk_some (Or.inr (fun q => h.2 (fun kd hk => by rw [← h.1]; exact q kd hk))))
theorem told_P {s1 s2 : wS} (p : PRS s) (k1 : KT s s1 ∨ ((∀ kd, kd < 3 → 0 ≤ (s1.1 16 kd).toInt ∧ (s1.1 16 kd).toInt ≤ 8) → PRS s1)) (k2 : KT s1 s2) (g2 : JA s2) : PRS s2 := by
  rcases k1 with k1 | k1
  · exact (p.kt k1).kt k2
  · refine (k1 (fun kd hk => ?_)).kt k2
    have c := g2.c
    have e : s1.1 16 kd = s2.1 163 kd := by
      rw [← many_E g2 kd hk]
      exact (k2.1 16 kd (bK_hc (by decide) (by decide))).symm
    rw [e]
    obtain rfl | rfl | rfl : kd = 0 ∨ kd = 1 ∨ kd = 2 := by omega
    · exact c.1
    · exact c.2.1
    · exact c.2.2.1
theorem op_feed_C {x1 x2 x3 x4 x5 : Int32} (g : JP s) : ∃ v s1 v2 s2, wX10_feed x1 x2 x3 x4 x5 s = some (v, s1) ∧ wX11_feed x1 x2 x3 x4 x5 s1 = some (v2, s2) ∧ v = v2 ∧ JP s2 := by
  obtain ⟨v, s1, v2, s2, e1, e2, hv, g2⟩ := op_feed_B (x1 := x1) (x2 := x2) (x3 := x3) (x4 := x4) (x5 := x5) g.1
  exact ⟨v, s1, v2, s2, e1, e2, hv, g2, told_P g.2 (Or.inl ((wX10_feed_KT KT.refl).get e1)) ((wX11_feed_KT KT.refl).get e2) g2.1⟩
theorem op_end_C {x1 : Int32} (g : JP s) : ∃ v s1 v2 s2, wX10_end x1 s = some (v, s1) ∧ wX11_end x1 s1 = some (v2, s2) ∧ v = v2 ∧ JP s2 := by
  obtain ⟨v, s1, v2, s2, e1, e2, hv, g2⟩ := op_end_B (x1 := x1) g.1
  exact ⟨v, s1, v2, s2, e1, e2, hv, g2, told_P g.2 (Or.inl ((wX10_end_KT KT.refl).get e1)) ((wX11_end_KT KT.refl).get e2) g2.1⟩
theorem op_answer_C {x1 x2 x3 x4 : Int32} (g : JP s) : ∃ v s1 v2 s2, wX10_answer x1 x2 x3 x4 s = some (v, s1) ∧ wX11_answer x1 x2 x3 x4 s1 = some (v2, s2) ∧ v = v2 ∧ JP s2 := by
  obtain ⟨v, s1, v2, s2, e1, e2, hv, g2⟩ := op_answer_B (x1 := x1) (x2 := x2) (x3 := x3) (x4 := x4) g.1
  exact ⟨v, s1, v2, s2, e1, e2, hv, g2, told_P g.2 (Or.inl ((wX10_answer_KT KT.refl).get e1)) ((wX11_answer_KT KT.refl).get e2) g2.1⟩
theorem op_strike_C {x1 x2 : Int32} (g : JP s) (hx2 : x2 = 0 ∨ x2 = 1) : ∃ v s1 v2 s2, wX10_strike x1 x2 s = some (v, s1) ∧ wX11_strike x1 x2 s1 = some (v2, s2) ∧ v = v2 ∧ JP s2 := by
  obtain ⟨v, s1, v2, s2, e1, e2, hv, g2⟩ := op_strike_B (x1 := x1) g.1 hx2
  exact ⟨v, s1, v2, s2, e1, e2, hv, g2, told_P g.2 (Or.inl ((wX10_strike_KT KT.refl).get e1)) ((wX11_strike_KT KT.refl).get e2) g2.1⟩
theorem op_only_C {x1 : Int32} (g : JP s) : ∃ v s1 v2 s2, wX10_only x1 s = some (v, s1) ∧ wX11_only x1 s1 = some (v2, s2) ∧ v = v2 ∧ JP s2 := by
  obtain ⟨v, s1, v2, s2, e1, e2, hv, g2⟩ := op_only_B (x1 := x1) g.1
  exact ⟨v, s1, v2, s2, e1, e2, hv, g2, told_P g.2 (Or.inl ((wX10_only_KT KT.refl).get e1)) ((wX11_only_KT KT.refl).get e2) g2.1⟩
theorem op_seed_C {x1 : Int32} (g : JP s) : ∃ v s1 v2 s2, wX10_seed x1 s = some (v, s1) ∧ wX11_seed x1 s1 = some (v2, s2) ∧ v = v2 ∧ JP s2 := by
  obtain ⟨v, s1, v2, s2, e1, e2, hv, g2⟩ := op_seed_B (x1 := x1) g.1
  exact ⟨v, s1, v2, s2, e1, e2, hv, g2, told_P g.2 (Or.inl ((wX10_seed_KT KT.refl).get e1)) ((wX11_seed_KT KT.refl).get e2) g2.1⟩
theorem op_verdict_C {x1 : Int32} (g : JP s) : ∃ v s1 v2 s2, wX10_verdict x1 s = some (v, s1) ∧ wX11_verdict x1 s1 = some (v2, s2) ∧ v = v2 ∧ JP s2 := by
  obtain ⟨v, s1, v2, s2, e1, e2, hv, g2⟩ := op_verdict_B (x1 := x1) g.1
  exact ⟨v, s1, v2, s2, e1, e2, hv, g2, told_P g.2 (Or.inl ((wX10_verdict_KT KT.refl).get e1)) ((wX11_verdict_KT KT.refl).get e2) g2.1⟩
theorem op_image_C {x1 : Int32} (g : JP s) : ∃ v s1 v2 s2, wX10_image x1 s = some (v, s1) ∧ wX11_image x1 s1 = some (v2, s2) ∧ v = v2 ∧ JP s2 := by
  obtain ⟨v, s1, v2, s2, e1, e2, hv, g2⟩ := op_image_B (x1 := x1) g.1
  exact ⟨v, s1, v2, s2, e1, e2, hv, g2, told_P g.2 (Or.inl ((wX10_image_KT KT.refl).get e1)) ((wX11_image_KT KT.refl).get e2) g2.1⟩
theorem op_back_C {x1 : Int32} (g : JP s) : ∃ v s1 v2 s2, wX10_back x1 s = some (v, s1) ∧ wX11_back x1 s1 = some (v2, s2) ∧ v = v2 ∧ JP s2 := by
  obtain ⟨v, s1, v2, s2, e1, e2, hv, g2⟩ := op_back_B (x1 := x1) g.1
  exact ⟨v, s1, v2, s2, e1, e2, hv, g2, told_P g.2 (back_P.get e1) ((wX11_back_KT KT.refl).get e2) g2.1⟩
theorem op_court_C (g : JP s) : ∃ v s1 v2 s2, wX10_court s = some (v, s1) ∧ wX11_court s1 = some (v2, s2) ∧ v = v2 ∧ JP s2 := by
  obtain ⟨v, s1, v2, s2, e1, e2, hv, g2⟩ := op_court_B g.1
  exact ⟨v, s1, v2, s2, e1, e2, hv, g2, told_P g.2 (court_P.get e1) ((wX11_court_KT KT.refl).get e2) g2.1⟩
theorem op_law_C (g : JP s) : ∃ v s1 v2 s2, wX10_law s = some (v, s1) ∧ wX11_law s1 = some (v2, s2) ∧ v = v2 ∧ JP s2 := by
  obtain ⟨v, s1, v2, s2, e1, e2, hv, g2⟩ := op_law_B g.1
  refine ⟨v, s1, v2, s2, e1, e2, hv, g2, ?_⟩
  have k2 : KT s1 s2 := (wX11_law_KT KT.refl).get e2
  obtain ⟨gR, c0, ⟨gT1, gT2, gT3⟩, -⟩ := id g.1.1
  have hL := gR.1.2.1
  by_cases c6 : s.1 152 2 = 6
  · have e : wX10_law s = some (-1, s) := by
      unfold wX10_law
      rw [c0, c6, if_neg (by decide)]
    rw [e] at e1
    obtain ⟨-, rfl⟩ := Prod.mk.inj (Option.some.inj e1)
    exact g.2.kt k2
  · have n6 := t_nq c6
    rw [show (6 : Int32).toInt = 6 from rfl] at n6
    obtain ⟨l, hl, hl6⟩ : ∃ l : Nat, s.1 152 2 = Int32.ofNat l ∧ l < 6 := ⟨(s.1 152 2).toNatClampNeg, (t_oc hL.1).symm, by unfold Int32.toNatClampNeg; omega⟩
    obtain ⟨⟨v', s1'⟩, e1', aL, -⟩ := wX10_law_E hl6 (c0.trans hl) gT2.1 gT2.2
    rw [e1] at e1'
    obtain ⟨rfl, rfl⟩ := Prod.mk.inj (Option.some.inj e1')
    dsimp only at aL
    exact (g.2.go (fun k h => funext fun b => aL k b (bLw_n (by omega) (by omega) (by omega) (by omega) (by omega)))).kt k2
/-- with the PAIRS -/
theorem withKeptP_E (g : JP s) (x1 x2 : Int32) : (∃ s2, wX10_lawWithKept x1 x2 s = some (none, s2) ∧ (wX11_canAsk x1 s2 = some 0 ∨ (wX11_canAsk x1 s2 = some 1 ∧ wX11_isMany x2 s2 = some 0))) ∨ (∃ l k s2 x, KK l x k s2 ∧ x1 = Int32.ofNat l ∧ x2 = Int32.ofNat k ∧ k ≤ 40 ∧ wX10_lawWithKept x1 x2 s = some (some (44 + 10 * l), s2) ∧ (∀ u, QS l x u → wX11_canAsk x1 u = some 1) ∧ (∀ u, wX11_isMany x2 u = some 1) ∧ PTB s2 (pal (nk (s2.1 163)) 3)) := by
  rcases withKept_E g.1 x1 x2 with h | ⟨l, k, s2, x, kk, hx1, hx2, h40, e, c, m⟩
  · exact Or.inl h
  · exact Or.inr ⟨l, k, s2, x, kk, hx1, hx2, h40, e, c, m, (g.2.q (Tot.get wX10_lawWithKept_T e).2).pt kk.1.1⟩
end JP
