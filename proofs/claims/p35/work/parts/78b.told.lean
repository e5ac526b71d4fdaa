/-! What is told, on both sides: TAPE, COURT, LAW. -/
/-- only the TAPES were written -/
noncomputable def bTa (k b : Nat) : Bool := Nat.beq k 2 || (Nat.beq k 153 || ((Nat.beq k 1 && Nat.beq b 1) || (Nat.beq k 152 && Nat.beq b 1)))
theorem JA_tape {s s' : wS} (g : JA s) (a : wA bTa s s') (ri : RI s') (ta : TA s') (by' : BYR s') : JA s' := by
  obtain ⟨-, g2, -, -, g5, g6, g7⟩ := g
  have z : ∀ k, (∀ b, bTa k b = false) → s'.1 k = s.1 k := fun k h => funext fun b => a k b (h b)
  have zz : ∀ k, k ≠ 1 → k ≠ 2 → k ≠ 152 → k ≠ 153 → s'.1 k = s.1 k := fun k h1 h2 h3 h4 => z k (fun b => by
    unfold bTa
    rw [nq_false h1, nq_false h2, nq_false h3, nq_false h4]
    rfl)
  have z152 : s'.1 152 2 = s.1 152 2 := a 152 2 rfl
  refine ⟨ri, by rw [a 0 6 rfl, z152]; exact g2, ta, by', ?_, fun k hk => ?_, fun l hl => ?_⟩
  · rw [zz 163 (by decide) (by decide) (by decide) (by decide)]
    exact g5.go ⟨a 14 6 rfl, a 14 7 rfl, a 14 10 rfl, a 14 11 rfl⟩ (fun j h1 h2 => zz _ (by omega) (by omega) (by omega) (by omega))
  · rw [zz 27 (by decide) (by decide) (by decide) (by decide), zz 171 (by decide) (by decide) (by decide) (by decide), zz 170 (by decide) (by decide) (by decide) (by decide)]
    refine ⟨(g6 k hk).1, fun h => ((g6 k hk).2 h).go ?_ (fun j h1 h2 => zz _ (by omega) (by omega) (by omega) (by omega))⟩
    rw [zz (104 + 12 * k) (by omega) (by omega) (by omega) (by omega)]
    exact ⟨rfl, rfl, rfl, rfl⟩
  · rw [z152] at hl
    obtain ⟨x, x1, x2⟩ := g7 l hl
    have hl6 : l < 6 := by have := ri.1.2.1; rw [z152] at this; omega
    refine ⟨x, x1.go ?_ ?_ (fun j h1 h2 => zz _ (by omega) (by omega) (by omega) (by omega)), x2.keep (zz 155 (by decide) (by decide) (by decide) (by decide)) (zz 154 (by decide) (by decide) (by decide) (by decide)) (zz 157 (by decide) (by decide) (by decide) (by decide)) (zz 156 (by decide) (by decide) (by decide) (by decide))⟩
    · rw [zz (44 + 10 * l) (by omega) (by omega) (by omega) (by omega)]
    · rw [zz (44 + 10 * l) (by omega) (by omega) (by omega) (by omega)]
theorem nar_r (x : Int32) : -128 ≤ (vp_nar .byte x).toInt ∧ (vp_nar .byte x).toInt ≤ 127 := by
  rw [vp_nar_byte]
  have e : (x.toInt8.toInt32).toInt = x.toInt8.toInt := Int8.toInt_toInt32 _
  rw [e]
  have a := Int8.le_toInt x.toInt8
  have b := Int8.toInt_lt x.toInt8
  omega
theorem pw_r {x : Int32} : ∀ {m : Nat} {h : Int32} {p : Nat} {f : Nat → Int32}, (∀ i, -128 ≤ (f i).toInt ∧ (f i).toInt ≤ 127) → ∀ i, -128 ≤ (pw x m h p f i).toInt ∧ (pw x m h p f i).toInt ≤ 127 := by
  intro m
  induction m with
  | zero => intro h p f g; exact g
  | succ m ih =>
    intro h p f g
    refine ih (fun i => ?_)
    by_cases c : i = p
    · rw [c, updI_s]; exact nar_r _
    · rw [updI_n c]; exact g i
theorem op_feed {x1 x2 x3 x4 x5 : Int32} {s : wS} (g : JA s) : ∃ v s1 v2 s2, wX10_feed x1 x2 x3 x4 x5 s = some (v, s1) ∧ wX11_feed x1 x2 x3 x4 x5 s1 = some (v2, s2) ∧ v = v2 ∧ JA s2 := by
  obtain ⟨⟨v, s1⟩, e1, a1, h1⟩ := wX10_feed_E (x1 := x1) (x2 := x2) (x3 := x3) (x4 := x4) (x5 := x5) g.2.2.1.2.1.1 g.2.2.1.2.1.2
  dsimp only at a1 h1
  have i1 : INV s1 := INV_C a1 g.inv (by rw [a1 0 6 rfl]; exact g.inv.1) rfl (fun _ => rfl) ⟨rfl, rfl, rfl, rfl⟩ (fun _ => ⟨rfl, rfl, rfl, rfl, rfl, rfl⟩) rfl rfl
  obtain ⟨⟨v2, s2⟩, ⟨e2, r2, -⟩, a2, h2⟩ : ∃ r : Int32 × wS, (wX11_feed x1 x2 x3 x4 x5 s1 = some r ∧ RI r.2 ∧ (wA bX s1 r.2 ∧ XR s1 r.2)) ∧ wA (fun k b => Nat.beq k 153 || (Nat.beq k 152 && Nat.beq b 1)) s1 r.2 ∧ True := by
    obtain ⟨r, e, p⟩ := wX11_feed_T (x1 := x1) (x2 := x2) (x3 := x3) (x4 := x4) (x5 := x5) (s := s1) i1.2.1
    have zT : s1.1 152 1 = s.1 152 1 := a1 152 1 rfl
    obtain ⟨r', e', q, -⟩ := wX11_feed_E (x1 := x1) (x2 := x2) (x3 := x3) (x4 := x4) (x5 := x5) (s := s1) (by rw [zT, ← g.2.2.1.1]; exact g.2.2.1.2.1.1) (by rw [zT, ← g.2.2.1.1]; exact g.2.2.1.2.1.2)
    rw [e] at e'
    rw [← Option.some.inj e'] at q
    exact ⟨r, ⟨e, p⟩, q, trivial⟩
  dsimp only at r2 a2
  obtain ⟨hv, ta⟩ := feed_both g.2.2.1 e1 e2
  refine ⟨v, s1, v2, s2, e1, e2, hv, JA_tape g ((a1.mono (fun k b h => ?_)).trans (a2.mono (fun k b h => ?_))) r2 ta ?_⟩
  · simp only [bTa, Bool.or_eq_true, Bool.and_eq_true, Nat.beq_eq] at *
    omega
  · simp only [bTa, Bool.or_eq_true, Bool.and_eq_true, Nat.beq_eq] at *
    omega
  · intro i
    rw [a2 2 i rfl]
    rcases h1 with ⟨-, e⟩ | ⟨-, -, -, e⟩
    · rw [(Prod.mk.inj e).2]; exact g.2.2.2.1 i
    · rw [e]
      unfold p5
      exact pw_r (pw_r (pw_r (pw_r (pw_r g.2.2.2.1)))) i
theorem op_end {x1 : Int32} {s : wS} (g : JA s) : ∃ v s1 v2 s2, wX10_end x1 s = some (v, s1) ∧ wX11_end x1 s1 = some (v2, s2) ∧ v = v2 ∧ JA s2 := by
  obtain ⟨⟨v, s1⟩, e1, p1⟩ := wX10_end_T (x1 := x1) (s := s)
  dsimp only at p1
  have i1 : INV s1 := INV_C p1 g.inv (by rw [p1 0 6 rfl]; exact g.inv.1) rfl (fun _ => rfl) ⟨rfl, rfl, rfl, rfl⟩ (fun _ => ⟨rfl, rfl, rfl, rfl, rfl, rfl⟩) rfl rfl
  obtain ⟨⟨v2, s2⟩, e2, r2, -⟩ := wX11_end_T (x1 := x1) (s := s1) i1.2.1
  dsimp only at r2
  obtain ⟨hv, ta⟩ := end_both g.2.2.1 e1 e2
  have a1 : wA bTa s s1 := by
    unfold wX10_end at e1
    rcases gif e1 with ⟨c, e⟩ | ⟨c, e⟩
    · obtain ⟨-, rfl⟩ := gi2 e; exact wA.refl
    · rcases gif e with ⟨c1, e⟩ | ⟨c1, e⟩
      · obtain ⟨-, rfl⟩ := gi2 e; exact wA.refl
      · obtain ⟨s3, e3, e⟩ := gb e
        obtain rfl := Option.some.inj e3
        obtain ⟨-, rfl⟩ := gi2 e
        exact wA_I rfl
  have a2 : wA bTa s1 s2 := by
    unfold wX11_end at e2
    rcases gif e2 with ⟨c, e⟩ | ⟨c, e⟩
    · obtain ⟨-, rfl⟩ := gi2 e; exact wA.refl
    · rcases gif e with ⟨c1, e⟩ | ⟨c1, e⟩
      · obtain ⟨-, rfl⟩ := gi2 e; exact wA.refl
      · obtain ⟨s3, e3, e⟩ := gb e
        obtain rfl := Option.some.inj e3
        obtain ⟨-, rfl⟩ := gi2 e
        exact wA_I rfl
  have z2 : s2.1 2 = s.1 2 := by
    have b1 : s1.1 2 = s.1 2 := by
      unfold wX10_end at e1
      rcases gif e1 with ⟨c, e⟩ | ⟨c, e⟩
      · obtain ⟨-, rfl⟩ := gi2 e; rfl
      · rcases gif e with ⟨c1, e⟩ | ⟨c1, e⟩
        · obtain ⟨-, rfl⟩ := gi2 e; rfl
        · obtain ⟨s3, e3, e⟩ := gb e
          obtain rfl := Option.some.inj e3
          obtain ⟨-, rfl⟩ := gi2 e
          rw [wupI_n (by decide)]
    have b2 : s2.1 2 = s1.1 2 := by
      unfold wX11_end at e2
      rcases gif e2 with ⟨c, e⟩ | ⟨c, e⟩
      · obtain ⟨-, rfl⟩ := gi2 e; rfl
      · rcases gif e with ⟨c1, e⟩ | ⟨c1, e⟩
        · obtain ⟨-, rfl⟩ := gi2 e; rfl
        · obtain ⟨s3, e3, e⟩ := gb e
          obtain rfl := Option.some.inj e3
          obtain ⟨-, rfl⟩ := gi2 e
          rw [wupI_n (by decide)]
    rw [b2, b1]
  exact ⟨v, s1, v2, s2, e1, e2, hv, JA_tape g (a1.trans a2) r2 ta (by unfold BYR; rw [z2]; exact g.2.2.2.1)⟩
/-- what a class's COURT writes -/
noncomputable def bCo (k b : Nat) : Bool := (Nat.beq k 1 && Nat.beq b 1) || ((Nat.ble 3 k && Nat.ble k 12) || ((Nat.beq k 14 && Nat.blt b 11) || ((Nat.ble 15 k && Nat.ble k 18) || ((Nat.ble 28 k && Nat.ble k 31) || (Nat.ble 44 k && Nat.ble k 103 && Nat.beq ((k - 44) % 10) 0 && Nat.beq b 12)))))
theorem court_N {s : wS} (hT0 : 0 ≤ (s.1 1 1).toInt) (hT : (s.1 1 1).toInt ≤ 400) : Tot (wX10_court s) (fun q => wA bCo s q.2) := by
  unfold wX10_court
  refine t_bind (wX9_cut_E hT0 hT) (fun s2 h2 => ?_)
  refine t_bind (t_pfI (B := bCo) rfl) (fun s4 h4 => t_bind wX1_read_Y (fun s6 h6 => ?_))
  have a2 : wA bCo s s2 := h2.1.mono (fun k b h => by
    simp only [bTk, bCo, Bool.or_eq_true, Bool.and_eq_true, Nat.beq_eq, Nat.ble_eq] at *
    omega)
  have a6 : wA bCo s4 s6 := h6.mono (fun k b h => by
    simp only [bY, bCo, Bool.or_eq_true, Bool.and_eq_true, Nat.beq_eq, Nat.ble_eq] at *
    omega)
  refine t_ite (fun _ => ?_) (fun _ => t_some ((a2.trans h4.1).trans a6))
  refine t_bind open_E (fun s10 h10 => t_bind wX10_courtIsAnother_Yp (fun s13 h13 => ?_))
  have a10 : wA bCo s6 s10 := h10.1.mono (fun k b h => by
    simp only [bCo, Bool.or_eq_true, Bool.and_eq_true, Nat.beq_eq, Nat.ble_eq, Nat.blt_eq] at *
    omega)
  have a13 : wA bCo s10 s13 := h13.mono (fun k b h => by
    simp only [bYp, bCo, Bool.or_eq_true, Bool.and_eq_true, Nat.beq_eq, Nat.ble_eq] at *
    omega)
  exact t_bind (wX0_worlds_T rfl) (fun t15 _ => t_some ((((a2.trans h4.1).trans a6).trans a10).trans a13))
theorem num_b {S P N : Nat → Int32} {k : Nat} {lo hi : Int32} (h : num S P N k lo hi = none) (l0 : 0 ≤ lo.toInt) (h1 : hi.toInt ≤ 99) : 0 ≤ (N k).toInt ∧ (N k).toInt ≤ 99 := by
  obtain ⟨-, a, b⟩ := num_i h
  omega
/-- numbers told are from 0 to 99 -/
noncomputable def c99 (n : Nat) (R : Nat → Int32) : Prop := ∀ i, i < 2 * n → 0 ≤ (R i).toInt ∧ (R i).toInt ≤ 99
theorem c99.app {n : Nat} {R : Nat → Int32} {x y : Int32} (h : c99 n R) (hx : 0 ≤ x.toInt ∧ x.toInt ≤ 99) (hy : 0 ≤ y.toInt ∧ y.toInt ≤ 99) : c99 (n + 1) (upd (upd R (2 * n) x) (2 * n + 1) y) := by
  intro i hi
  by_cases c : i = 2 * n + 1
  · rw [c, updI_s]; exact hy
  · rw [updI_n c]
    by_cases d : i = 2 * n
    · rw [d, updI_s]; exact hx
    · rw [updI_n d]; exact h i (by omega)
theorem ccl_99 {S P N : Nat → Int32} {k : Nat} {h : Int32} {r m : Nat} {R M : Nat → Int32} {c' : cC} (hR : c99 r R) (hM : c99 m M) (h1 : ccl S P N k h r m R M = .inr c') : c99 c'.2.2.1 c'.2.2.2.2.1 ∧ c99 c'.2.2.2.1 c'.2.2.2.2.2 := by
  unfold ccl at h1
  by_cases c15 : S k = 15
  · rw [if_pos c15] at h1
    by_cases ch : h = 0
    · rw [if_pos ch] at h1
      rcases pre_num (S := S) (P := P) (N := N) (k := k + 1) (lo := 1) (hi := 8) with ⟨e', n1⟩ | n1
      · rw [n1] at h1; cases h1
      · rw [n1] at h1
        rw [← Sum.inr.inj h1]
        exact ⟨hR, hM⟩
    · rw [if_neg ch] at h1; cases h1
  · rw [if_neg c15] at h1
    by_cases c17 : S k = 17
    · rw [if_pos c17] at h1
      by_cases cr : r = 8
      · rw [if_pos cr] at h1; cases h1
      · rw [if_neg cr] at h1
        rcases pre_num (S := S) (P := P) (N := N) (k := k + 1) (lo := 0) (hi := 99) with ⟨e', n1⟩ | n1
        · rw [n1] at h1; cases h1
        · rw [n1] at h1
          dsimp only at h1
          rcases pre_num (S := S) (P := P) (N := N) (k := k + 2) (lo := 0) (hi := 99) with ⟨e', n2⟩ | n2
          · rw [n2] at h1; cases h1
          · rw [n2] at h1
            rw [← Sum.inr.inj h1]
            exact ⟨hR.app (num_b n1 (by decide) (by decide)) (num_b n2 (by decide) (by decide)), hM⟩
    · rw [if_neg c17] at h1
      by_cases c18 : S k = 18
      · rw [if_pos c18] at h1
        by_cases cr : m = 8
        · rw [if_pos cr] at h1; cases h1
        · rw [if_neg cr] at h1
          rcases pre_num (S := S) (P := P) (N := N) (k := k + 1) (lo := 0) (hi := 99) with ⟨e', n1⟩ | n1
          · rw [n1] at h1; cases h1
          · rw [n1] at h1
            dsimp only at h1
            rcases pre_num (S := S) (P := P) (N := N) (k := k + 2) (lo := 0) (hi := 9) with ⟨e', n2⟩ | n2
            · rw [n2] at h1; cases h1
            · rw [n2] at h1
              rw [← Sum.inr.inj h1]
              exact ⟨hR, hM.app (num_b n1 (by decide) (by decide)) (num_b n2 (by decide) (by decide))⟩
      · rw [if_neg c18] at h1; cases h1
theorem cst_99 {S P N : Nat → Int32} : ∀ (n : Nat) {c c' : cC}, c99 c.2.2.1 c.2.2.2.2.1 → c99 c.2.2.2.1 c.2.2.2.2.2 → mrun (cst S P N) n c = some (.inr c') → c99 c'.2.2.1 c'.2.2.2.2.1 ∧ c99 c'.2.2.2.1 c'.2.2.2.2.2 ∧ ¬ (c'.2.2.1 = 0 ∨ c'.2.2.2.1 = 0) := by
  intro n
  induction n with
  | zero => intro c c' _ _ h; cases h
  | succ n ih =>
    intro c c' hR hM h
    unfold mrun at h
    cases e : cst S P N c with
    | inl d =>
      rw [e] at h
      unfold cst at e
      cases e2 : ccl S P N c.1 c.2.1 c.2.2.1 c.2.2.2.1 c.2.2.2.2.1 c.2.2.2.2.2 with
      | inl x => rw [e2] at e; cases e
      | inr y =>
        obtain ⟨q1, q2⟩ := ccl_99 hR hM e2
        rw [e2] at e
        dsimp only at e
        by_cases c3 : S y.1 = 3
        · rw [if_pos c3] at e
          obtain rfl := Sum.inl.inj e
          exact ih (c := (y.1 + 1, y.2)) q1 q2 h
        · rw [if_neg c3] at e
          by_cases c0 : S y.1 = 0
          · rw [if_pos c0] at e
            by_cases ct : y.2.2.1 = 0 ∨ y.2.2.2.1 = 0
            · rw [if_pos ct] at e; cases e
            · rw [if_neg ct] at e; cases e
          · rw [if_neg c0] at e; cases e
    | inr d =>
      rw [e] at h
      obtain rfl := Option.some.inj h
      unfold cst at e
      cases e2 : ccl S P N c.1 c.2.1 c.2.2.1 c.2.2.2.1 c.2.2.2.2.1 c.2.2.2.2.2 with
      | inl x => rw [e2] at e; cases e
      | inr y =>
        obtain ⟨q1, q2⟩ := ccl_99 hR hM e2
        rw [e2] at e
        dsimp only at e
        by_cases c3 : S y.1 = 3
        · rw [if_pos c3] at e; cases e
        · rw [if_neg c3] at e
          by_cases c0 : S y.1 = 0
          · rw [if_pos c0] at e
            by_cases ct : y.2.2.1 = 0 ∨ y.2.2.2.1 = 0
            · rw [if_pos ct] at e; cases e
            · rw [if_neg ct] at e
              obtain rfl := Sum.inr.inj (Sum.inr.inj e)
              exact ⟨q1, q2, ct⟩
          · rw [if_neg c0] at e; cases e
