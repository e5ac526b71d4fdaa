section
/-! What holds between the calls: both sides were told the same. -/
/-- the COURTS are alike -/
noncomputable def HC (k0 : Nat) (f : Nat → Int32) (s : wS) : Prop := (s.1 (k0 + 2) 0 = f 0 ∧ s.1 (k0 + 2) 1 = f 1 ∧ s.1 (k0 + 2) 2 = f 2) ∧ (∀ i : Nat, (i : Int) < (f 1).toInt → s.1 (k0 + 3) (8 + i) = f (10 + 2 * i) ∧ s.1 (k0 + 4) (8 + i) = f (10 + 2 * i + 1)) ∧ (∀ i : Nat, (i : Int) < (f 2).toInt → s.1 (k0 + 3) (16 + i) = f (26 + 2 * i) ∧ s.1 (k0 + 4) (16 + i) = f (26 + 2 * i + 1))
/-- ANSWERS and VERDICTS are alike -/
noncomputable def HA (k0 : Nat) (f : Nat → Int32) (s : wS) : Prop := (s.1 k0 6 = f 3 ∧ s.1 k0 7 = f 4 ∧ s.1 k0 10 = f 5 ∧ s.1 k0 11 = f 6) ∧ (∀ a : Nat, (a : Int) < (f 3).toInt → s.1 (k0 + 5) a = f (42 + 5 * a) ∧ s.1 (k0 + 6) a = f (42 + 5 * a + 1) ∧ s.1 (k0 + 7) a = f (42 + 5 * a + 2) ∧ s.1 (k0 + 8) a = f (42 + 5 * a + 3) ∧ s.1 (k0 + 9) a = f (42 + 5 * a + 4)) ∧ (∀ v : Nat, (v : Int) < (f 5).toInt → s.1 (k0 + 10) v = f (242 + 2 * v) ∧ s.1 (k0 + 11) v = f (242 + 2 * v + 1))
/-- how many ANSWERS of a WITNESS -/
noncomputable def cw (f : Nat → Int32) (w : Int32) : Nat → Nat
  | 0 => 0
  | n + 1 => cw f w n + (if f (42 + 5 * n) = w then 1 else 0)
/-- what is told is as it must be -/
noncomputable def HX (f : Nat → Int32) : Prop := (f 0 = 0 → f 1 = 0 ∧ f 2 = 0) ∧ (-1 ≤ (f 4).toInt ∧ (f 4).toInt ≤ 40) ∧ (∀ a : Nat, (a : Int) < (f 3).toInt → (0 ≤ (f (42 + 5 * a)).toInt ∧ (f (42 + 5 * a)).toInt ≤ 5) ∧ (f (42 + 5 * a + 4) = 0 ∨ f (42 + 5 * a + 4) = 1)) ∧ (∀ w : Int32, cw f w (f 3).toNatClampNeg ≤ 9) ∧ (∀ v : Nat, (v : Int) < (f 5).toInt → 0 ≤ (f (242 + 2 * v)).toInt ∧ (f (242 + 2 * v)).toInt < (f 0).toInt * (f 1).toInt * (f 2).toInt) ∧ (∀ i : Nat, (i : Int) < 2 * (f 1).toInt → 0 ≤ (f (10 + i)).toInt ∧ (f (10 + i)).toInt ≤ 99) ∧ (∀ i : Nat, (i : Int) < 2 * (f 2).toInt → 0 ≤ (f (26 + i)).toInt ∧ (f (26 + i)).toInt ≤ 99)
/-- a hearing and its row -/
noncomputable def HR (k0 : Nat) (f : Nat → Int32) (s : wS) : Prop := HC k0 f s ∧ HA k0 f s ∧ HX f
/-- a LAW is the same on both sides -/
noncomputable def LAWR (l : Nat) (s : wS) : Prop := ∃ x : lC, CLc (44 + 10 * l) x s ∧ RLf l x s
/-- the TAPE's bytes -/
noncomputable def BYR (s : wS) : Prop := ∀ i, -128 ≤ (s.1 2 i).toInt ∧ (s.1 2 i).toInt ≤ 127
noncomputable def JA (s : wS) : Prop := RI s ∧ (s.1 0 6 = s.1 152 2) ∧ TA s ∧ BYR s ∧ HR 14 (s.1 163) s ∧ (∀ k : Nat, k < 4 → (s.1 27 k = 0 ↔ s.1 171 k = 0) ∧ (¬ s.1 171 k = 0 → HR (104 + 12 * k) (fun i => s.1 170 (262 * k + i)) s)) ∧ (∀ l : Nat, (l : Int) < (s.1 152 2).toInt → LAWR l s)
theorem JA.inv {s : wS} (g : JA s) : INV s := by
  obtain ⟨g1, g2, g3, g4, g5, g6, g7⟩ := g
  refine ⟨by rw [g2]; exact g1.1.2.1, g1, g5.2.1.1.2.2.2, fun k hk => ⟨(g6 k hk).1, fun h => ((g6 k hk).2 h).2.1.1.2.2.2⟩⟩
theorem HR.go {k0 : Nat} {f : Nat → Int32} {s s' : wS} (h : HR k0 f s) (h0 : s'.1 k0 6 = s.1 k0 6 ∧ s'.1 k0 7 = s.1 k0 7 ∧ s'.1 k0 10 = s.1 k0 10 ∧ s'.1 k0 11 = s.1 k0 11) (ho : ∀ j, 2 ≤ j → j ≤ 11 → s'.1 (k0 + j) = s.1 (k0 + j)) : HR k0 f s' := by
  unfold HR HC HA
  rw [h0.1, h0.2.1, h0.2.2.1, h0.2.2.2, ho 2 (by decide) (by decide), ho 3 (by decide) (by decide), ho 4 (by decide) (by decide), ho 5 (by decide) (by decide), ho 6 (by decide) (by decide), ho 7 (by decide) (by decide), ho 8 (by decide) (by decide), ho 9 (by decide) (by decide), ho 10 (by decide) (by decide), ho 11 (by decide) (by decide)]
  exact h
theorem RLf.keep {l : Nat} {x : lC} {s s' : wS} (h : RLf l x s) (h5 : s'.1 155 = s.1 155) (h4 : s'.1 154 = s.1 154) (h7 : s'.1 157 = s.1 157) (h6 : s'.1 156 = s.1 156) : RLf l x s' := h.go (by rw [h5]) h4 (by rw [h7]) h6
/-- what neither side reads of what was told -/
noncomputable def bO2 (k b : Nat) : Bool := (Nat.ble 3 k && Nat.ble k 12) || ((Nat.ble 28 k && Nat.ble k 43) || ((Nat.ble 44 k && Nat.ble k 103 && (Nat.ble 6 ((k - 44) % 10) || (Nat.beq ((k - 44) % 10) 0 && (Nat.beq b 9 || Nat.beq b 12)))) || (((Nat.ble 158 k && Nat.ble k 162) || (Nat.ble 164 k && Nat.ble k 169)) || (Nat.beq k 152 && (Nat.ble 3 b)))))
theorem JA_go {s s' : wS} (g : JA s) (a : wA bO2 s s') : JA s' := by
  obtain ⟨⟨⟨gC, gL, gW⟩, gT, gI⟩, g2, g3, g4, g5, g6, g7⟩ := g
  have z : ∀ k, (∀ b, bO2 k b = false) → s'.1 k = s.1 k := fun k h => funext fun b => a k b (h b)
  have z1 : s'.1 1 1 = s.1 1 1 := a 1 1 rfl
  have z2 := z 2 (fun _ => rfl)
  have z06 : s'.1 0 6 = s.1 0 6 := a 0 6 rfl
  have z152 : s'.1 152 2 = s.1 152 2 := a 152 2 rfl
  have zT : s'.1 152 1 = s.1 152 1 := a 152 1 rfl
  have z153 := z 153 (fun _ => rfl)
  have z154 := z 154 (fun _ => rfl)
  have z155 := z 155 (fun _ => rfl)
  have z156 := z 156 (fun _ => rfl)
  have z157 := z 157 (fun _ => rfl)
  have z163 := z 163 (fun _ => rfl)
  have z170 := z 170 (fun _ => rfl)
  have z171 := z 171 (fun _ => rfl)
  have z27 := z 27 (fun _ => rfl)
  have hi : ∀ k : Nat, (14 ≤ k ∧ k ≤ 27) ∨ (104 ≤ k ∧ k ≤ 151) → s'.1 k = s.1 k := fun k hk => z k (fun b => by
    unfold bO2
    rcases hk with hk | hk
    · rw [nb_false (show k > 12 by omega) |> fun e => (show (Nat.ble 3 k && Nat.ble k 12) = false by rw [e, Bool.and_false]), nb_false (show k < 28 by omega), nb_false (show k < 44 by omega), nb_false (show k < 158 by omega), nb_false (show k < 164 by omega), nq_false (show k ≠ 152 by omega)]
      rfl
    · rw [nb_false (show k > 12 by omega) |> fun e => (show (Nat.ble 3 k && Nat.ble k 12) = false by rw [e, Bool.and_false]), nb_false (show k > 43 by omega), nb_false (show k > 103 by omega), nb_false (show k < 158 by omega), nb_false (show k < 164 by omega), nq_false (show k ≠ 152 by omega), Bool.and_false, Bool.and_false]
      rfl)
  refine ⟨⟨⟨?_, ?_, ?_⟩, ?_, ?_⟩, by rw [z06, z152]; exact g2, ⟨by rw [z1, zT]; exact g3.1, by rw [z1]; exact g3.2.1, by rw [z2, z153]; exact g3.2.2⟩, by unfold BYR; rw [z2]; exact g4, by rw [z163]; exact g5.go ⟨by rw [hi 14 (by omega)], by rw [hi 14 (by omega)], by rw [hi 14 (by omega)], by rw [hi 14 (by omega)]⟩ (fun j h1 h2 => hi _ (by omega)), fun k hk => ?_, fun l hl => ?_⟩
  · rw [z163]; exact gC
  · rw [z152]; exact gL
  · intro l hl
    rw [z152] at hl
    have := gW l hl
    unfold qLW at *
    rw [z154, z156, z157]
    exact this
  · rw [zT]; exact gT
  · exact IM_eq z170 z171 gI
  · rw [z27, z171, z170]
    refine ⟨(g6 k hk).1, fun h => ((g6 k hk).2 h).go ⟨by rw [hi _ (by omega)], by rw [hi _ (by omega)], by rw [hi _ (by omega)], by rw [hi _ (by omega)]⟩ (fun j h1 h2 => hi _ (by omega))⟩
  · rw [z152] at hl
    obtain ⟨x, x1, x2⟩ := g7 l hl
    have hl6 : l < 6 := by have := gL.2; omega
    refine ⟨x, x1.go (a _ _ ?_) (a _ _ ?_) (fun j h1 h2 => z _ (fun b => ?_)), x2.keep z155 z154 z157 z156⟩
    · have : ∀ l, l < 6 → bO2 (44 + 10 * l) 1 = false := by decide +kernel
      exact this l hl6
    · have : ∀ l, l < 6 → bO2 (44 + 10 * l) 6 = false := by decide +kernel
      exact this l hl6
    · have hk : (44 + 10 * l + j - 44) % 10 = j := by omega
      have hq : 44 + 10 * l + j ≤ 103 := by omega
      unfold bO2
      rw [hk, nb_false (show 44 + 10 * l + j > 12 by omega), Bool.and_false, nb_false (show 44 + 10 * l + j > 43 by omega), Bool.and_false, nb_false (show j < 6 by omega), nq_false (show j ≠ 0 by omega), nb_false (show 44 + 10 * l + j < 158 by omega), nb_false (show 44 + 10 * l + j < 164 by omega), nq_false (show 44 + 10 * l + j ≠ 152 by omega)]
      simp only [Bool.false_and, Bool.false_or, Bool.and_false, Bool.or_false]
theorem bQ_le_bO2 : ∀ k b, bQ k b = true → bO2 k b = true := by
  intro k b h
  simp only [bQ, bQa, bO2, Bool.or_eq_true, Bool.and_eq_true, Nat.ble_eq, Nat.beq_eq] at *
  omega
theorem JA_Q {s s' : wS} (h : wA bQ s s') (g : JA s) : JA s' := JA_go g (h.mono bQ_le_bO2)
theorem JA_P {s s' : wS} (h : wA bP s s') (g : JA s) : JA s' := JA_Q (h.mono bP_le_bQ) g
end
section
/-! What is told, on both sides: TAPE, COURT, LAW. -/
/-- only the TAPES were written -/
noncomputable def bTa (k b : Nat) : Bool := Nat.beq k 2 || (Nat.beq k 153 || ((Nat.beq k 1 && Nat.beq b 1) || (Nat.beq k 152 && Nat.beq b 1)))
theorem JA_tape {s s' : wS} (g : JA s) (a : wA bTa s s') (ri : RI s') (ta : TA s') (by' : BYR s') : JA s' := by
  obtain ⟨-, g2, -, -, g5, g6, g7⟩ := g
  have z : ∀ k, (∀ b, bTa k b = false) → s'.1 k = s.1 k := fun k h => funext fun b => a k b (h b)
  have zz : ∀ k, k ≠ 1 → k ≠ 2 → k ≠ 152 → k ≠ 153 → s'.1 k = s.1 k := fun k h1 h2 h3 h4 => z k (fun b => by
    unfold bTa
    rw [nq_false h1, nq_false h2, nq_false h3, nq_false h4]
    rfl)
  have z152 : s'.1 152 2 = s.1 152 2 := a 152 2 rfl
  refine ⟨ri, by rw [a 0 6 rfl, z152]; exact g2, ta, by', ?_, fun k hk => ?_, fun l hl => ?_⟩
  · rw [zz 163 (by decide) (by decide) (by decide) (by decide)]
    exact g5.go ⟨a 14 6 rfl, a 14 7 rfl, a 14 10 rfl, a 14 11 rfl⟩ (fun j h1 h2 => zz _ (by omega) (by omega) (by omega) (by omega))
  · rw [zz 27 (by decide) (by decide) (by decide) (by decide), zz 171 (by decide) (by decide) (by decide) (by decide), zz 170 (by decide) (by decide) (by decide) (by decide)]
    refine ⟨(g6 k hk).1, fun h => ((g6 k hk).2 h).go ?_ (fun j h1 h2 => zz _ (by omega) (by omega) (by omega) (by omega))⟩
    rw [zz (104 + 12 * k) (by omega) (by omega) (by omega) (by omega)]
    exact ⟨rfl, rfl, rfl, rfl⟩
  · rw [z152] at hl
    obtain ⟨x, x1, x2⟩ := g7 l hl
    have hl6 : l < 6 := by have := ri.1.2.1; rw [z152] at this; omega
    refine ⟨x, x1.go ?_ ?_ (fun j h1 h2 => zz _ (by omega) (by omega) (by omega) (by omega)), x2.keep (zz 155 (by decide) (by decide) (by decide) (by decide)) (zz 154 (by decide) (by decide) (by decide) (by decide)) (zz 157 (by decide) (by decide) (by decide) (by decide)) (zz 156 (by decide) (by decide) (by decide) (by decide))⟩
    · rw [zz (44 + 10 * l) (by omega) (by omega) (by omega) (by omega)]
    · rw [zz (44 + 10 * l) (by omega) (by omega) (by omega) (by omega)]
theorem nar_r (x : Int32) : -128 ≤ (vp_nar .byte x).toInt ∧ (vp_nar .byte x).toInt ≤ 127 := by
  rw [vp_nar_byte]
  have e : (x.toInt8.toInt32).toInt = x.toInt8.toInt := Int8.toInt_toInt32 _
  rw [e]
  have a := Int8.le_toInt x.toInt8
  have b := Int8.toInt_lt x.toInt8
  omega
theorem pw_r {x : Int32} : ∀ {m : Nat} {h : Int32} {p : Nat} {f : Nat → Int32}, (∀ i, -128 ≤ (f i).toInt ∧ (f i).toInt ≤ 127) → ∀ i, -128 ≤ (pw x m h p f i).toInt ∧ (pw x m h p f i).toInt ≤ 127 := by
  intro m
  induction m with
  | zero => intro h p f g; exact g
  | succ m ih =>
    intro h p f g
    refine ih (fun i => ?_)
    by_cases c : i = p
    · rw [c, updI_s]; exact nar_r _
    · rw [updI_n c]; exact g i
theorem op_feed {x1 x2 x3 x4 x5 : Int32} {s : wS} (g : JA s) : ∃ v s1 v2 s2, wX10_feed x1 x2 x3 x4 x5 s = some (v, s1) ∧ wX11_feed x1 x2 x3 x4 x5 s1 = some (v2, s2) ∧ v = v2 ∧ JA s2 := by
  obtain ⟨⟨v, s1⟩, e1, a1, h1⟩ := wX10_feed_E (x1 := x1) (x2 := x2) (x3 := x3) (x4 := x4) (x5 := x5) g.2.2.1.2.1.1 g.2.2.1.2.1.2
  dsimp only at a1 h1
  have i1 : INV s1 := INV_C a1 g.inv (by rw [a1 0 6 rfl]; exact g.inv.1) rfl (fun _ => rfl) ⟨rfl, rfl, rfl, rfl⟩ (fun _ => ⟨rfl, rfl, rfl, rfl, rfl, rfl⟩) rfl rfl
  obtain ⟨⟨v2, s2⟩, ⟨e2, r2, -⟩, a2, h2⟩ : ∃ r : Int32 × wS, (wX11_feed x1 x2 x3 x4 x5 s1 = some r ∧ RI r.2 ∧ (wA bX s1 r.2 ∧ XR s1 r.2)) ∧ wA (fun k b => Nat.beq k 153 || (Nat.beq k 152 && Nat.beq b 1)) s1 r.2 ∧ True := by
    obtain ⟨r, e, p⟩ := wX11_feed_T (x1 := x1) (x2 := x2) (x3 := x3) (x4 := x4) (x5 := x5) (s := s1) i1.2.1
    have zT : s1.1 152 1 = s.1 152 1 := a1 152 1 rfl
    obtain ⟨r', e', q, -⟩ := wX11_feed_E (x1 := x1) (x2 := x2) (x3 := x3) (x4 := x4) (x5 := x5) (s := s1) (by rw [zT, ← g.2.2.1.1]; exact g.2.2.1.2.1.1) (by rw [zT, ← g.2.2.1.1]; exact g.2.2.1.2.1.2)
    rw [e] at e'
    rw [← Option.some.inj e'] at q
    exact ⟨r, ⟨e, p⟩, q, trivial⟩
  dsimp only at r2 a2
  obtain ⟨hv, ta⟩ := feed_both g.2.2.1 e1 e2
  refine ⟨v, s1, v2, s2, e1, e2, hv, JA_tape g ((a1.mono (fun k b h => ?_)).trans (a2.mono (fun k b h => ?_))) r2 ta ?_⟩
  · simp only [bTa, Bool.or_eq_true, Bool.and_eq_true, Nat.beq_eq] at *
    omega
  · simp only [bTa, Bool.or_eq_true, Bool.and_eq_true, Nat.beq_eq] at *
    omega
  · intro i
    rw [a2 2 i rfl]
    rcases h1 with ⟨-, e⟩ | ⟨-, -, -, e⟩
    · rw [(Prod.mk.inj e).2]; exact g.2.2.2.1 i
    · rw [e]
      unfold p5
      exact pw_r (pw_r (pw_r (pw_r (pw_r g.2.2.2.1)))) i
theorem op_end {x1 : Int32} {s : wS} (g : JA s) : ∃ v s1 v2 s2, wX10_end x1 s = some (v, s1) ∧ wX11_end x1 s1 = some (v2, s2) ∧ v = v2 ∧ JA s2 := by
  obtain ⟨⟨v, s1⟩, e1, p1⟩ := wX10_end_T (x1 := x1) (s := s)
  dsimp only at p1
  have i1 : INV s1 := INV_C p1 g.inv (by rw [p1 0 6 rfl]; exact g.inv.1) rfl (fun _ => rfl) ⟨rfl, rfl, rfl, rfl⟩ (fun _ => ⟨rfl, rfl, rfl, rfl, rfl, rfl⟩) rfl rfl
  obtain ⟨⟨v2, s2⟩, e2, r2, -⟩ := wX11_end_T (x1 := x1) (s := s1) i1.2.1
  dsimp only at r2
  obtain ⟨hv, ta⟩ := end_both g.2.2.1 e1 e2
  have a1 : wA bTa s s1 := by
    unfold wX10_end at e1
    rcases gif e1 with ⟨c, e⟩ | ⟨c, e⟩
    · obtain ⟨-, rfl⟩ := gi2 e; exact wA.refl
    · rcases gif e with ⟨c1, e⟩ | ⟨c1, e⟩
      · obtain ⟨-, rfl⟩ := gi2 e; exact wA.refl
      · obtain ⟨s3, e3, e⟩ := gb e
        obtain rfl := Option.some.inj e3
        obtain ⟨-, rfl⟩ := gi2 e
        exact wA_I rfl
  have a2 : wA bTa s1 s2 := by
    unfold wX11_end at e2
    rcases gif e2 with ⟨c, e⟩ | ⟨c, e⟩
    · obtain ⟨-, rfl⟩ := gi2 e; exact wA.refl
    · rcases gif e with ⟨c1, e⟩ | ⟨c1, e⟩
      · obtain ⟨-, rfl⟩ := gi2 e; exact wA.refl
      · obtain ⟨s3, e3, e⟩ := gb e
        obtain rfl := Option.some.inj e3
        obtain ⟨-, rfl⟩ := gi2 e
        exact wA_I rfl
  have z2 : s2.1 2 = s.1 2 := by
    have b1 : s1.1 2 = s.1 2 := by
      unfold wX10_end at e1
      rcases gif e1 with ⟨c, e⟩ | ⟨c, e⟩
      · obtain ⟨-, rfl⟩ := gi2 e; rfl
      · rcases gif e with ⟨c1, e⟩ | ⟨c1, e⟩
        · obtain ⟨-, rfl⟩ := gi2 e; rfl
        · obtain ⟨s3, e3, e⟩ := gb e
          obtain rfl := Option.some.inj e3
          obtain ⟨-, rfl⟩ := gi2 e
          rw [wupI_n (by decide)]
    have b2 : s2.1 2 = s1.1 2 := by
      unfold wX11_end at e2
      rcases gif e2 with ⟨c, e⟩ | ⟨c, e⟩
      · obtain ⟨-, rfl⟩ := gi2 e; rfl
      · rcases gif e with ⟨c1, e⟩ | ⟨c1, e⟩
        · obtain ⟨-, rfl⟩ := gi2 e; rfl
        · obtain ⟨s3, e3, e⟩ := gb e
          obtain rfl := Option.some.inj e3
          obtain ⟨-, rfl⟩ := gi2 e
          rw [wupI_n (by decide)]
    rw [b2, b1]
  exact ⟨v, s1, v2, s2, e1, e2, hv, JA_tape g (a1.trans a2) r2 ta (by unfold BYR; rw [z2]; exact g.2.2.2.1)⟩
/-- what a class's COURT writes -/
noncomputable def bCo (k b : Nat) : Bool := (Nat.beq k 1 && Nat.beq b 1) || ((Nat.ble 3 k && Nat.ble k 12) || ((Nat.beq k 14 && Nat.blt b 11) || ((Nat.ble 15 k && Nat.ble k 18) || ((Nat.ble 28 k && Nat.ble k 31) || (Nat.ble 44 k && Nat.ble k 103 && Nat.beq ((k - 44) % 10) 0 && Nat.beq b 12)))))
theorem court_N {s : wS} (hT0 : 0 ≤ (s.1 1 1).toInt) (hT : (s.1 1 1).toInt ≤ 400) : Tot (wX10_court s) (fun q => wA bCo s q.2) := by
  unfold wX10_court
  refine t_bind (wX9_cut_E hT0 hT) (fun s2 h2 => ?_)
  refine t_bind (t_pfI (B := bCo) rfl) (fun s4 h4 => t_bind wX1_read_Y (fun s6 h6 => ?_))
  have a2 : wA bCo s s2 := h2.1.mono (fun k b h => by
    simp only [bTk, bCo, Bool.or_eq_true, Bool.and_eq_true, Nat.beq_eq, Nat.ble_eq] at *
    omega)
  have a6 : wA bCo s4 s6 := h6.mono (fun k b h => by
    simp only [bY, bCo, Bool.or_eq_true, Bool.and_eq_true, Nat.beq_eq, Nat.ble_eq] at *
    omega)
  refine t_ite (fun _ => ?_) (fun _ => t_some ((a2.trans h4.1).trans a6))
  refine t_bind open_E (fun s10 h10 => t_bind wX10_courtIsAnother_Yp (fun s13 h13 => ?_))
  have a10 : wA bCo s6 s10 := h10.1.mono (fun k b h => by
    simp only [bCo, Bool.or_eq_true, Bool.and_eq_true, Nat.beq_eq, Nat.ble_eq, Nat.blt_eq] at *
    omega)
  have a13 : wA bCo s10 s13 := h13.mono (fun k b h => by
    simp only [bYp, bCo, Bool.or_eq_true, Bool.and_eq_true, Nat.beq_eq, Nat.ble_eq] at *
    omega)
  exact t_bind (wX0_worlds_T rfl) (fun t15 _ => t_some ((((a2.trans h4.1).trans a6).trans a10).trans a13))
theorem num_b {S P N : Nat → Int32} {k : Nat} {lo hi : Int32} (h : num S P N k lo hi = none) (l0 : 0 ≤ lo.toInt) (h1 : hi.toInt ≤ 99) : 0 ≤ (N k).toInt ∧ (N k).toInt ≤ 99 := by
  obtain ⟨-, a, b⟩ := num_i h
  omega
/-- numbers told are from 0 to 99 -/
noncomputable def c99 (n : Nat) (R : Nat → Int32) : Prop := ∀ i, i < 2 * n → 0 ≤ (R i).toInt ∧ (R i).toInt ≤ 99
theorem c99.app {n : Nat} {R : Nat → Int32} {x y : Int32} (h : c99 n R) (hx : 0 ≤ x.toInt ∧ x.toInt ≤ 99) (hy : 0 ≤ y.toInt ∧ y.toInt ≤ 99) : c99 (n + 1) (upd (upd R (2 * n) x) (2 * n + 1) y) := by
  intro i hi
  by_cases c : i = 2 * n + 1
  · rw [c, updI_s]; exact hy
  · rw [updI_n c]
    by_cases d : i = 2 * n
    · rw [d, updI_s]; exact hx
    · rw [updI_n d]; exact h i (by omega)
theorem ccl_99 {S P N : Nat → Int32} {k : Nat} {h : Int32} {r m : Nat} {R M : Nat → Int32} {c' : cC} (hR : c99 r R) (hM : c99 m M) (h1 : ccl S P N k h r m R M = .inr c') : c99 c'.2.2.1 c'.2.2.2.2.1 ∧ c99 c'.2.2.2.1 c'.2.2.2.2.2 := by
  unfold ccl at h1
  by_cases c15 : S k = 15
  · rw [if_pos c15] at h1
    by_cases ch : h = 0
    · rw [if_pos ch] at h1
      rcases pre_num (S := S) (P := P) (N := N) (k := k + 1) (lo := 1) (hi := 8) with ⟨e', n1⟩ | n1
      · rw [n1] at h1; cases h1
      · rw [n1] at h1
        rw [← Sum.inr.inj h1]
        exact ⟨hR, hM⟩
    · rw [if_neg ch] at h1; cases h1
  · rw [if_neg c15] at h1
    by_cases c17 : S k = 17
    · rw [if_pos c17] at h1
      by_cases cr : r = 8
      · rw [if_pos cr] at h1; cases h1
      · rw [if_neg cr] at h1
        rcases pre_num (S := S) (P := P) (N := N) (k := k + 1) (lo := 0) (hi := 99) with ⟨e', n1⟩ | n1
        · rw [n1] at h1; cases h1
        · rw [n1] at h1
          dsimp only at h1
          rcases pre_num (S := S) (P := P) (N := N) (k := k + 2) (lo := 0) (hi := 99) with ⟨e', n2⟩ | n2
          · rw [n2] at h1; cases h1
          · rw [n2] at h1
            rw [← Sum.inr.inj h1]
            exact ⟨hR.app (num_b n1 (by decide) (by decide)) (num_b n2 (by decide) (by decide)), hM⟩
    · rw [if_neg c17] at h1
      by_cases c18 : S k = 18
      · rw [if_pos c18] at h1
        by_cases cr : m = 8
        · rw [if_pos cr] at h1; cases h1
        · rw [if_neg cr] at h1
          rcases pre_num (S := S) (P := P) (N := N) (k := k + 1) (lo := 0) (hi := 99) with ⟨e', n1⟩ | n1
          · rw [n1] at h1; cases h1
          · rw [n1] at h1
            dsimp only at h1
            rcases pre_num (S := S) (P := P) (N := N) (k := k + 2) (lo := 0) (hi := 9) with ⟨e', n2⟩ | n2
            · rw [n2] at h1; cases h1
            · rw [n2] at h1
              rw [← Sum.inr.inj h1]
              exact ⟨hR, hM.app (num_b n1 (by decide) (by decide)) (num_b n2 (by decide) (by decide))⟩
      · rw [if_neg c18] at h1; cases h1
theorem cst_99 {S P N : Nat → Int32} : ∀ (n : Nat) {c c' : cC}, c99 c.2.2.1 c.2.2.2.2.1 → c99 c.2.2.2.1 c.2.2.2.2.2 → mrun (cst S P N) n c = some (.inr c') → c99 c'.2.2.1 c'.2.2.2.2.1 ∧ c99 c'.2.2.2.1 c'.2.2.2.2.2 ∧ ¬ (c'.2.2.1 = 0 ∨ c'.2.2.2.1 = 0) := by
  intro n
  induction n with
  | zero => intro c c' _ _ h; cases h
  | succ n ih =>
    intro c c' hR hM h
    unfold mrun at h
    cases e : cst S P N c with
    | inl d =>
      rw [e] at h
      unfold cst at e
      cases e2 : ccl S P N c.1 c.2.1 c.2.2.1 c.2.2.2.1 c.2.2.2.2.1 c.2.2.2.2.2 with
      | inl x => rw [e2] at e; cases e
      | inr y =>
        obtain ⟨q1, q2⟩ := ccl_99 hR hM e2
        rw [e2] at e
        dsimp only at e
        by_cases c3 : S y.1 = 3
        · rw [if_pos c3] at e
          obtain rfl := Sum.inl.inj e
          exact ih (c := (y.1 + 1, y.2)) q1 q2 h
        · rw [if_neg c3] at e
          by_cases c0 : S y.1 = 0
          · rw [if_pos c0] at e
            by_cases ct : y.2.2.1 = 0 ∨ y.2.2.2.1 = 0
            · rw [if_pos ct] at e; cases e
            · rw [if_neg ct] at e; cases e
          · rw [if_neg c0] at e; cases e
    | inr d =>
      rw [e] at h
      obtain rfl := Option.some.inj h
      unfold cst at e
      cases e2 : ccl S P N c.1 c.2.1 c.2.2.1 c.2.2.2.1 c.2.2.2.2.1 c.2.2.2.2.2 with
      | inl x => rw [e2] at e; cases e
      | inr y =>
        obtain ⟨q1, q2⟩ := ccl_99 hR hM e2
        rw [e2] at e
        dsimp only at e
        by_cases c3 : S y.1 = 3
        · rw [if_pos c3] at e; cases e
        · rw [if_neg c3] at e
          by_cases c0 : S y.1 = 0
          · rw [if_pos c0] at e
            by_cases ct : y.2.2.1 = 0 ∨ y.2.2.2.1 = 0
            · rw [if_pos ct] at e; cases e
            · rw [if_neg ct] at e
              obtain rfl := Sum.inr.inj (Sum.inr.inj e)
              exact ⟨q1, q2, ct⟩
          · rw [if_neg c0] at e; cases e
end
section
/-! COURT and LAW are told alike. -/
theorem RLf.pos {l : Nat} {x : lC} {s s' : wS} (h : RLf l x s) (hl : x.2.2.1.length ≤ 400) (h5 : s'.1 155 l = s.1 155 l) (h4 : ∀ j, j < 400 → s'.1 154 (400 * l + j) = s.1 154 (400 * l + j)) (h7 : s'.1 157 l = s.1 157 l) (h6 : ∀ j, j < 60 → s'.1 156 (60 * l + j) = s.1 156 (60 * l + j)) : RLf l x s' := by
  obtain ⟨⟨g1, g2⟩, ⟨g3, g3'⟩, g4⟩ := h
  refine ⟨⟨by rw [h5]; exact g1, fun i v hv => ?_⟩, ⟨by rw [h7]; exact g3, g3'⟩, fun i y hy => ?_⟩
  · have := (List.getElem?_eq_some_iff.1 hv).1
    rw [h4 i (by omega)]
    exact g2 i v hv
  · have := (List.getElem?_eq_some_iff.1 hy).1
    have e : ∀ j, j < 5 → s'.1 156 (60 * l + 5 * i + j) = s.1 156 (60 * l + 5 * i + j) := fun j hj => by
      have := h6 (5 * i + j) (by omega)
      rw [← Nat.add_assoc] at this
      exact this
    have e0 := e 0 (by decide)
    rw [Nat.add_zero] at e0
    rw [e0, e 1 (by decide), e 2 (by decide), e 3 (by decide), e 4 (by decide)]
    exact g4 i y hy
theorem bN_155 {t b : Nat} (h : b ≠ t) : bN t 155 b = false := by
  unfold bN bL bE
  rw [nq_false h]
  rfl
theorem op_court {s : wS} (g : JA s) : ∃ v s1 v2 s2, wX10_court s = some (v, s1) ∧ wX11_court s1 = some (v2, s2) ∧ v = v2 ∧ JA s2 := by
  obtain ⟨gR, g2, ⟨gT1, gT2, gT3⟩, gB, g5, g6, g7⟩ := id g
  obtain ⟨⟨v, s1⟩, e1, ⟨pK, t11, t2, x11, S, P, N, E, K, tk, h1⟩, aN⟩ := t_and (wX10_court_E (R := s.1 158) (M := s.1 159) gT2.1 gT2.2) (court_N gT2.1 gT2.2)
  dsimp only at pK t11 t2 x11 h1 aN
  have i1 : INV s1 := INV_C pK g.inv (by rw [pK 0 6 rfl]; exact g.inv.1) rfl (fun _ => rfl) ⟨rfl, rfl, rfl, rfl⟩ (fun _ => ⟨rfl, rfl, rfl, rfl, rfl, rfl⟩) rfl rfl
  have y153 : s1.1 153 = s.1 153 := funext fun b => pK 153 b rfl
  have y158 : s1.1 158 = s.1 158 := funext fun b => pK 158 b rfl
  have y159 : s1.1 159 = s.1 159 := funext fun b => pK 159 b rfl
  have y163 : s1.1 163 = s.1 163 := funext fun b => pK 163 b rfl
  have rg : RG s s1 := ⟨y153.trans gT3.symm, (pK 152 1 rfl).trans gT1.symm, gT2, gB⟩
  obtain ⟨⟨v2, s2⟩, e2, ⟨aS, z1, h2⟩, r2, -, XR2⟩ := t_and (wX11_court_E rg tk i1.2.1) (wX11_court_T i1.2.1)
  dsimp only at aS z1 h2 r2 XR2
  rw [y158, y159, y163] at h2
  have bs : ∀ k, k < 152 → s2.1 k = s1.1 k := fun k hk => funext fun b => aS k b (by
    unfold bNs bN bL bE bF
    rw [nq_false (show k ≠ 154 by omega), nq_false (show k ≠ 155 by omega), nq_false (show k ≠ 152 by omega), nq_false (show k ≠ 156 by omega), nq_false (show k ≠ 157 by omega), nb_false (show k < 158 by omega), nq_false (show k ≠ 163 by omega)]
    rfl)
  have w153 : s2.1 153 = s1.1 153 := funext fun b => aS 153 b (by
    unfold bNs bN bL bE bF
    rfl)
  have w2 : s2.1 152 2 = s.1 152 2 := (aS 152 2 (by unfold bNs; rw [bN_2]; rfl)).trans (pK 152 2 rfl)
  have ta : TA s2 := by
    refine ⟨?_, ?_, ?_⟩
    · rw [bs 1 (by decide), t11, z1]
    · rw [bs 1 (by decide), t11]; exact ⟨by decide, by decide⟩
    · rw [bs 2 (by decide), t2, w153, y153]; exact gT3
  have bc : ∀ k b, bCo k b = false → s2.1 k b = (if k < 152 then s.1 k b else s2.1 k b) := fun k b hk => by
    by_cases c : k < 152
    · rw [if_pos c, bs k c]; exact aN k b hk
    · rw [if_neg c]
  have imgs : ∀ k : Nat, k < 4 → (s2.1 27 k = 0 ↔ s2.1 171 k = 0) ∧ (¬ s2.1 171 k = 0 → HR (104 + 12 * k) (fun i => s2.1 170 (262 * k + i)) s2) := by
    have cI : ∀ k, 104 ≤ k → k ≤ 151 → s2.1 k = s.1 k := fun k h1 h2 => by
      rw [bs k (by omega)]
      exact funext fun b => aN k b (by
        unfold bCo
        rw [nq_false (show k ≠ 1 by omega), nb_false (show k > 12 by omega), nq_false (show k ≠ 14 by omega), nb_false (show k > 18 by omega), nb_false (show k > 31 by omega), nb_false (show k > 103 by omega), Bool.and_false, Bool.and_false, Bool.and_false, Bool.and_false]
        rfl)
    intro k hk
    have x170 : s2.1 170 = s.1 170 := by rw [XR2.2.1]; exact funext fun b => pK 170 b rfl
    have x171 : s2.1 171 = s.1 171 := by rw [XR2.2.2]; exact funext fun b => pK 171 b rfl
    have x27 : s2.1 27 = s.1 27 := by rw [bs 27 (by decide)]; exact funext fun b => aN 27 b rfl
    rw [x27, x171, x170]
    refine ⟨(g6 k hk).1, fun h => ((g6 k hk).2 h).go ?_ (fun j h1 h2 => cI _ (by omega) (by omega))⟩
    rw [cI (104 + 12 * k) (by omega) (by omega)]
    exact ⟨rfl, rfl, rfl, rfl⟩
  have lws : ∀ l : Nat, (l : Int) < (s2.1 152 2).toInt → LAWR l s2 := by
    intro l hl
    rw [w2] at hl
    have hl6 : l < 6 := by have := gR.1.2.1; omega
    obtain ⟨x, x1, x2⟩ := g7 l hl
    refine ⟨x, x1.go ?_ ?_ (fun j h1 h2 => ?_), x2.pos x1.1.2.1 ?_ (fun j hj => ?_) ?_ (fun j hj => ?_)⟩
    · rw [bs _ (by omega)]
      have : ∀ l, l < 6 → bCo (44 + 10 * l) 1 = false := by decide +kernel
      exact aN _ _ (this l hl6)
    · rw [bs _ (by omega)]
      have : ∀ l, l < 6 → bCo (44 + 10 * l) 6 = false := by decide +kernel
      exact aN _ _ (this l hl6)
    · rw [bs _ (by omega)]
      exact funext fun b => aN _ b (by
        have hk : (44 + 10 * l + j - 44) % 10 = j := by omega
        unfold bCo
        rw [hk, nq_false (show 44 + 10 * l + j ≠ 1 by omega), nb_false (show 44 + 10 * l + j > 12 by omega), nq_false (show 44 + 10 * l + j ≠ 14 by omega), nb_false (show 44 + 10 * l + j > 18 by omega), nb_false (show 44 + 10 * l + j > 31 by omega), nq_false (show j ≠ 0 by omega)]
        simp only [Bool.false_and, Bool.false_or, Bool.and_false, Bool.or_false])
    · rw [aS 155 l (by unfold bNs; rw [bN_155 (by omega)]; rfl)]; exact pK 155 l rfl
    · rw [aS 154 _ (by unfold bNs; rw [bN_154 (by omega)]; rfl)]; exact pK 154 _ rfl
    · rw [aS 157 l (by unfold bNs; rw [bN_157 (by omega)]; rfl)]; exact pK 157 l rfl
    · rw [aS 156 _ (by unfold bNs; rw [bN_156 (by omega)]; rfl)]; exact pK 156 _ rfl
  have byr : BYR s2 := by unfold BYR; rw [bs 2 (by decide), t2]; exact gB
  have cnt : s2.1 0 6 = s2.1 152 2 := by rw [w2, bs 0 (by decide), aN 0 6 rfl]; exact g2
  rcases h1 with ⟨e, E1, q1, fr⟩ | ⟨c', E1, co, q1⟩
  · rcases h2 with ⟨e', E2, q2, f2⟩ | ⟨c'', E2, -, -⟩
    · obtain rfl := Sum.inl.inj (E1.det E2)
      refine ⟨v, s1, v2, s2, e1, e2, by rw [q1, q2], r2, cnt, ta, byr, ?_, imgs, lws⟩
      rw [f2]
      have ch : ∀ k, 14 ≤ k → k ≤ 27 → s2.1 k = s.1 k := fun k h1 h2 => by
        rw [bs k (by omega)]
        funext b
        have := fr k b (by
          unfold bR bRa
          rw [nb_false (show k > 12 by omega), nb_false (show k < 28 by omega), nb_false (show k < 165 by omega), nq_false (show k ≠ 152 by omega), Bool.and_false]
          rfl)
        rw [wupI_n (by omega)] at this
        exact this
      refine g5.go ?_ (fun j h1 h2 => ch _ (by omega) (by omega))
      rw [ch 14 (by decide) (by decide)]
      exact ⟨rfl, rfl, rfl, rfl⟩
    · cases E1.det E2
  · rcases h2 with ⟨e', E2, -, -⟩ | ⟨c'', E2, cs, q2⟩
    · cases E1.det E2
    · obtain rfl := Sum.inr.inj (E1.det E2)
      refine ⟨v, s1, v2, s2, e1, e2, by rw [q1, q2], r2, cnt, ta, byr, ?_, imgs, lws⟩
      obtain ⟨n, hn⟩ := E1
      obtain ⟨n1, n2, n3⟩ := cst_99 n (fun i hi => absurd hi (by show ¬ i < 2 * 0; omega)) (fun i hi => absurd hi (by show ¬ i < 2 * 0; omega)) hn
      obtain ⟨⟨c1, c2, c3⟩, c4, c5, ⟨c6, c7, c8⟩, ⟨c9, c9'⟩, c10⟩ := co
      obtain ⟨⟨d1, d2, d3⟩, ⟨d4, d5, d6, d7⟩, d8, d9⟩ := cs
      have er : (Int32.ofNat c'.2.2.1).toInt = c'.2.2.1 := t_on (by omega)
      have em : (Int32.ofNat c'.2.2.2.1).toInt = c'.2.2.2.1 := t_on (by omega)
      have hb : ∀ k, k < 152 → s2.1 k = s1.1 k := bs
      refine ⟨⟨⟨?_, ?_, ?_⟩, fun i hi => ?_, fun i hi => ?_⟩, ⟨⟨?_, ?_, ?_, ?_⟩, fun a ha => ?_, fun a ha => ?_⟩, ⟨fun h0 => ?_, ?_, fun a ha => ?_, fun w => ?_, fun a ha => ?_, fun i hi => ?_, fun i hi => ?_⟩⟩
      · rw [hb 16 (by decide), c1, d1]
      · rw [hb 16 (by decide), c2, d2]
      · rw [hb 16 (by decide), c3, d3]
      · rw [d2, er] at hi
        rw [hb 17 (by decide), hb 18 (by decide), (c4 i (by omega)).1, (c4 i (by omega)).2, d8 _ (by omega), show 10 + 2 * i + 1 = 10 + (2 * i + 1) by omega, d8 _ (by omega)]
        exact ⟨rfl, rfl⟩
      · rw [d3, em] at hi
        rw [hb 17 (by decide), hb 18 (by decide), (c5 i (by omega)).1, (c5 i (by omega)).2, d9 _ (by omega), show 26 + 2 * i + 1 = 26 + (2 * i + 1) by omega, d9 _ (by omega)]
        exact ⟨rfl, rfl⟩
      · rw [hb 14 (by decide), c6, d4]
      · rw [hb 14 (by decide), c7, d5]
      · rw [hb 14 (by decide), c8, d6]
      · rw [hb 14 (by decide), x11, d7]
        exact g5.2.1.1.2.2.2
      · rw [d4, t_i0] at ha; omega
      · rw [d6, t_i0] at ha; omega
      · exfalso
        rw [d1] at h0
        by_cases q : c'.2.1 = 0
        · rw [if_pos q] at h0; exact absurd h0 (by decide)
        · rw [if_neg q] at h0; exact q h0
      · rw [d5]; exact ⟨by decide, by decide⟩
      · rw [d4, t_i0] at ha; omega
      · rw [d4]; exact Nat.zero_le _
      · rw [d6, t_i0] at ha; omega
      · rw [d2, er] at hi
        rw [d8 i (by omega)]
        exact n1 i (by omega)
      · rw [d3, em] at hi
        rw [d9 i (by omega)]
        exact n2 i (by omega)
theorem op_law {s : wS} (g : JA s) : ∃ v s1 v2 s2, wX10_law s = some (v, s1) ∧ wX11_law s1 = some (v2, s2) ∧ v = v2 ∧ JA s2 := by
  obtain ⟨gR, g2, ⟨gT1, gT2, gT3⟩, gB, g5, g6, g7⟩ := id g
  have hL := gR.1.2.1
  by_cases c6 : s.1 152 2 = 6
  · refine ⟨-1, s, -1, s, ?_, ?_, rfl, g⟩
    · unfold wX10_law
      rw [g2, c6, if_neg (by decide)]
    · unfold wX11_law
      rw [if_pos c6]
  · have n6 := t_nq c6
    rw [show (6 : Int32).toInt = 6 from rfl] at n6
    obtain ⟨l, hl⟩ : ∃ l : Nat, s.1 152 2 = Int32.ofNat l ∧ l < 6 := ⟨(s.1 152 2).toNatClampNeg, (t_oc hL.1).symm, by unfold Int32.toNatClampNeg; omega⟩
    obtain ⟨hl, hl6⟩ := hl
    have el : (Int32.ofNat l).toInt = l := t_on (by omega)
    obtain ⟨⟨v, s1⟩, e1, ⟨aL, t11, S, P, N, E, K, tk, hE, h1⟩, pK, -⟩ := t_and (wX10_law_E hl6 (g2.trans hl) gT2.1 gT2.2) (wX10_law_T g.inv.1)
    dsimp only at aL t11 h1 pK
    have i1 : INV s1 := INV_C pK g.inv (by
      obtain ⟨r, e, -, p⟩ := wX10_law_T g.inv.1
      rw [e1] at e
      rw [← Option.some.inj e] at p
      exact p) rfl (fun _ => rfl) ⟨rfl, rfl, rfl, rfl⟩ (fun _ => ⟨rfl, rfl, rfl, rfl, rfl, rfl⟩) rfl rfl
    have y : ∀ k, 104 ≤ k → s1.1 k = s.1 k := fun k hk => funext fun b => aL k b (bLw_n (by omega) (by omega) (by omega) (by omega) (by omega))
    have rg : RG s s1 := ⟨(y 153 (by decide)).trans gT3.symm, by rw [y 152 (by decide)]; exact gT1.symm, gT2, gB⟩
    obtain ⟨⟨v2, s2⟩, e2, ⟨aS, z1, h2⟩, r2, -, XR2⟩ := t_and (wX11_law_E hl6 (by rw [y 152 (by decide)]; exact hl) rg tk hE i1.2.1) (wX11_law_T i1.2.1)
    dsimp only at aS z1 h2 r2 XR2
    have bs : ∀ k, k < 152 → s2.1 k = s1.1 k := fun k hk => funext fun b => aS k b (by
      unfold bNl bN bL bE bF
      rw [nq_false (show k ≠ 154 by omega), nq_false (show k ≠ 155 by omega), nq_false (show k ≠ 152 by omega), nq_false (show k ≠ 156 by omega), nq_false (show k ≠ 157 by omega), nb_false (show k < 158 by omega)]
      rfl)
    have w153 : s2.1 153 = s1.1 153 := funext fun b => aS 153 b (by
      unfold bNl bN bL bE bF
      rfl)
    have w163 : s2.1 163 = s.1 163 := by
      rw [← y 163 (by decide)]
      exact funext fun b => aS 163 b (by unfold bNl; rw [bN_163]; rfl)
    have t2 : s1.1 2 = s.1 2 := funext fun b => aL 2 b (bLw_n (by decide) (by decide) (by omega) (by omega) (by omega))
    have ta : TA s2 := by
      refine ⟨?_, ?_, ?_⟩
      · rw [bs 1 (by decide), t11, z1]
      · rw [bs 1 (by decide), t11]; exact ⟨by decide, by decide⟩
      · rw [bs 2 (by decide), t2, w153, y 153 (by decide)]; exact gT3
    have byr : BYR s2 := by unfold BYR; rw [bs 2 (by decide), t2]; exact gB
    have ch : ∀ k, (14 ≤ k ∧ k ≤ 27) ∨ (104 ≤ k ∧ k ≤ 151) → s2.1 k = s.1 k := fun k hk => by
      rw [bs k (by omega)]
      exact funext fun b => aL k b (bLw_n (by omega) (by omega) (by omega) (by omega) (by omega))
    have hear : HR 14 (s2.1 163) s2 := by
      rw [w163]
      refine g5.go ?_ (fun j h1 h2 => ch _ (by omega))
      rw [ch 14 (by omega)]
      exact ⟨rfl, rfl, rfl, rfl⟩
    have imgs : ∀ k : Nat, k < 4 → (s2.1 27 k = 0 ↔ s2.1 171 k = 0) ∧ (¬ s2.1 171 k = 0 → HR (104 + 12 * k) (fun i => s2.1 170 (262 * k + i)) s2) := by
      intro k hk
      have x170 : s2.1 170 = s.1 170 := by rw [XR2.2.1, y 170 (by decide)]
      have x171 : s2.1 171 = s.1 171 := by rw [XR2.2.2, y 171 (by decide)]
      rw [ch 27 (by omega), x171, x170]
      refine ⟨(g6 k hk).1, fun h => ((g6 k hk).2 h).go ?_ (fun j h1 h2 => ch _ (by omega))⟩
      rw [ch (104 + 12 * k) (by omega)]
      exact ⟨rfl, rfl, rfl, rfl⟩
    have old : ∀ l' : Nat, l' < l → LAWR l' s2 := by
      intro l' hl'
      obtain ⟨x, x1, x2⟩ := g7 l' (by rw [hl, el]; omega)
      refine ⟨x, x1.go ?_ ?_ (fun j h1 h2 => ?_), x2.pos x1.1.2.1 ?_ (fun j hj => ?_) ?_ (fun j hj => ?_)⟩
      · rw [bs _ (by omega)]; exact aL _ _ (bLw_n (by omega) (by omega) (by omega) (by omega) (by omega))
      · rw [bs _ (by omega)]; exact aL _ _ (bLw_n (by omega) (by omega) (by omega) (by omega) (by omega))
      · rw [bs _ (by omega)]; exact funext fun b => aL _ _ (bLw_n (by omega) (by omega) (by omega) (by omega) (by omega))
      · rw [aS 155 l' (by unfold bNl; rw [bN_155 (by omega)]; rfl), y 155 (by decide)]
      · rw [aS 154 _ (by unfold bNl; rw [bN_154 (by omega)]; rfl), y 154 (by decide)]
      · rw [aS 157 l' (by unfold bNl; rw [bN_157 (by omega)]; rfl), y 157 (by decide)]
      · rw [aS 156 _ (by unfold bNl; rw [bN_156 (by omega)]; rfl), y 156 (by decide)]
    rcases h1 with ⟨e, E1, q1, f1⟩ | ⟨c', E1, q1, f1, cl, m0⟩
    · rcases h2 with ⟨e', E2, q2, f2⟩ | ⟨c'', E2, -, -, -⟩
      · obtain rfl := Sum.inl.inj (E1.det E2)
        refine ⟨v, s1, v2, s2, e1, e2, by rw [q1, q2], r2, ?_, ta, byr, hear, imgs, fun l' hl' => ?_⟩
        · rw [f2, y 152 (by decide), bs 0 (by decide), f1]; exact g2
        · rw [f2, y 152 (by decide), hl, el] at hl'
          exact old l' (by omega)
      · cases E1.det E2
    · rcases h2 with ⟨e', E2, -, -⟩ | ⟨c'', E2, q2, f2, rl⟩
      · cases E1.det E2
      · obtain rfl := Sum.inr.inj (E1.det E2)
        refine ⟨v, s1, v2, s2, e1, e2, by rw [q1, q2], r2, ?_, ta, byr, hear, imgs, fun l' hl' => ?_⟩
        · rw [f2, bs 0 (by decide), f1]
        · rw [f2, t_on (by omega)] at hl'
          by_cases c : l' = l
          · subst c
            refine ⟨c', cl.go ?_ ?_ (fun j h1 h2 => bs _ (by omega)), rl⟩
            · rw [bs _ (by omega)]
            · rw [bs _ (by omega)]
          · exact old l' (by omega)
end
section
/-! The hearing, on both sides. -/
theorem qi1 {α : Type} {a b : α} : (if (1 : Int32) = 0 then a else b) = b := if_neg (by decide)
theorem qi0 {α : Type} {a b : α} : (if (0 : Int32) = 0 then a else b) = a := if_pos rfl
noncomputable def bHe (k b : Nat) : Bool := (Nat.ble 14 k && Nat.ble k 25) || (Nat.beq k 163 || bO2 k b)
theorem bHe_n {k b : Nat} (h1 : ¬ (14 ≤ k ∧ k ≤ 25)) (h2 : k ≠ 163) (h3 : bO2 k b = false) : bHe k b = false := by
  unfold bHe
  rw [h3, nq_false h2]
  cases e : (Nat.ble 14 k && Nat.ble k 25)
  · rfl
  · exfalso
    simp only [Bool.and_eq_true, Nat.ble_eq] at e
    omega
theorem bO2_le_bHe : ∀ k b, bO2 k b = true → bHe k b = true := fun k b h => by unfold bHe; rw [h, Bool.or_true, Bool.or_true]
theorem JA_hear {s s' : wS} (g : JA s) (a : wA bHe s s') (ri : RI s') (hr : HR 14 (s'.1 163) s') : JA s' := by
  -- the hearing put back, the rest is as bO2 says
  obtain ⟨-, g2, g3, g4, -, g6, g7⟩ := g
  have z : ∀ k, (∀ b, bHe k b = false) → s'.1 k = s.1 k := fun k h => funext fun b => a k b (h b)
  have z1 : s'.1 1 1 = s.1 1 1 := a 1 1 rfl
  have z2 := z 2 (fun _ => rfl)
  have z06 : s'.1 0 6 = s.1 0 6 := a 0 6 rfl
  have z152 : s'.1 152 2 = s.1 152 2 := a 152 2 rfl
  have zT : s'.1 152 1 = s.1 152 1 := a 152 1 rfl
  have z153 := z 153 (fun _ => rfl)
  have z154 := z 154 (fun _ => rfl)
  have z155 := z 155 (fun _ => rfl)
  have z156 := z 156 (fun _ => rfl)
  have z157 := z 157 (fun _ => rfl)
  have z170 := z 170 (fun _ => rfl)
  have z171 := z 171 (fun _ => rfl)
  have z27 := z 27 (fun _ => rfl)
  have hi : ∀ k : Nat, 104 ≤ k → k ≤ 151 → s'.1 k = s.1 k := fun k h1 h2 => z k (fun b => bHe_n (by omega) (by omega) (by
    unfold bO2
    rw [nb_false (show k > 12 by omega) |> fun e => (show (Nat.ble 3 k && Nat.ble k 12) = false by rw [e, Bool.and_false]), nb_false (show k > 43 by omega), nb_false (show k > 103 by omega), nb_false (show k < 158 by omega), nb_false (show k < 164 by omega), nq_false (show k ≠ 152 by omega), Bool.and_false, Bool.and_false]
    rfl))
  refine ⟨ri, by rw [z06, z152]; exact g2, ⟨by rw [z1, zT]; exact g3.1, by rw [z1]; exact g3.2.1, by rw [z2, z153]; exact g3.2.2⟩, by unfold BYR; rw [z2]; exact g4, hr, fun k hk => ?_, fun l hl => ?_⟩
  · rw [z27, z171, z170]
    refine ⟨(g6 k hk).1, fun h => ((g6 k hk).2 h).go ⟨by rw [hi _ (by omega) (by omega)], by rw [hi _ (by omega) (by omega)], by rw [hi _ (by omega) (by omega)], by rw [hi _ (by omega) (by omega)]⟩ (fun j h1 h2 => hi _ (by omega) (by omega))⟩
  · rw [z152] at hl
    obtain ⟨x, x1, x2⟩ := g7 l hl
    have hl6 : l < 6 := by have := ri.1.2.1; rw [z152] at this; omega
    refine ⟨x, x1.go (a _ _ ?_) (a _ _ ?_) (fun j h1 h2 => z _ (fun b => bHe_n (by omega) (by omega) ?_)), x2.keep z155 z154 z157 z156⟩
    · have : ∀ l, l < 6 → bHe (44 + 10 * l) 1 = false := by decide +kernel
      exact this l hl6
    · have : ∀ l, l < 6 → bHe (44 + 10 * l) 6 = false := by decide +kernel
      exact this l hl6
    · have hk : (44 + 10 * l + j - 44) % 10 = j := by omega
      unfold bO2
      rw [hk, nb_false (show 44 + 10 * l + j > 12 by omega), Bool.and_false, nb_false (show 44 + 10 * l + j > 43 by omega), Bool.and_false, nb_false (show j < 6 by omega), nq_false (show j ≠ 0 by omega), nb_false (show 44 + 10 * l + j < 158 by omega), nb_false (show 44 + 10 * l + j < 164 by omega), nq_false (show 44 + 10 * l + j ≠ 152 by omega)]
      simp only [Bool.false_and, Bool.false_or, Bool.and_false, Bool.or_false]
section HEAR
variable {s : wS}
theorem JA.c (g : JA s) : qC (s.1 163) := g.1.1.1
theorem JA.h (g : JA s) : HR 14 (s.1 163) s := g.2.2.2.2.1
/-- a COURT is told -/
theorem told_iff (g : JA s) : (0 < (s.1 163 1).toInt ∧ 0 < (s.1 163 2).toInt) ↔ 0 < (s.1 163 0).toInt := by
  obtain ⟨c0, c1, c2, c3, -⟩ := g.c
  have x := g.h.2.2.1
  constructor
  · rintro ⟨a, b⟩
    by_cases q : (s.1 163 0).toInt = 0
    · have e : s.1 163 0 = 0 := Int32.toInt_inj.1 q
      have := x e
      rw [this.1, t_i0] at a
      omega
    · omega
  · exact c3
theorem isTold15_E (g : JA s) : wX0_isTold 15 s = some (if 0 < (s.1 163 0).toInt then 1 else 0) := by
  have hc := g.h.1.1
  have ti := told_iff g
  unfold wX0_isTold
  rw [wld_E (by decide) (by decide), t_sbe]
  have e1 : s.1 (15 + 1) (Int32.toNatClampNeg 1) = s.1 163 1 := hc.2.1
  have e2 : s.1 (15 + 1) (Int32.toNatClampNeg 2) = s.1 163 2 := hc.2.2
  rw [e1]
  by_cases c1 : 0 < s.1 163 1
  · have a := t_lt c1
    rw [t_i0] at a
    rw [if_pos c1, wld_E (by decide) (by decide), t_sbe, e2]
    by_cases c2 : 0 < s.1 163 2
    · have b := t_lt c2
      rw [t_i0] at b
      rw [if_pos c2, if_pos (ti.1 ⟨a, b⟩)]
    · rw [if_neg c2, if_neg (fun q => c2 (Int32.lt_iff_toInt_lt.2 (by rw [t_i0]; exact (ti.2 q).2)))]
  · rw [if_neg c1, if_neg (fun q => c1 (Int32.lt_iff_toInt_lt.2 (by rw [t_i0]; exact (ti.2 q).1)))]
theorem isCourt_E : wX11_isCourt s = some (if 0 < (s.1 163 0).toInt then 1 else 0) := by
  unfold wX11_isCourt
  by_cases c : 0 < s.1 163 0
  · rw [if_pos c, if_pos (by have := t_lt c; rw [t_i0] at this; exact this)]
  · rw [if_neg c, if_neg (by have := t_ge c; rw [t_i0] at this; omega)]
theorem in_I {x lo hi : Int32} : wX11_in (x.toInt64) (lo.toInt64) (hi.toInt64) s = some (if lo.toInt ≤ x.toInt ∧ x.toInt ≤ hi.toInt then 1 else 0) := by
  rw [in_E]
  by_cases c : x < lo ∨ hi < x
  · rw [if_pos c, if_neg (fun q => by
      rcases c with c | c
      · have := t_lt c; omega
      · have := t_lt c; omega)]
  · rw [if_neg c, if_pos ⟨t_ge (fun q => c (Or.inl q)), t_ge (fun q => c (Or.inr q))⟩]
theorem in_02 {x : Int32} : wX11_in (x.toInt64) 0 2 s = some (if 0 ≤ x.toInt ∧ x.toInt ≤ 2 then 1 else 0) := in_I (lo := 0) (hi := 2)
theorem isKind_E {x : Int32} : wX11_isKind x s = some (if 0 < (s.1 163 0).toInt ∧ 0 ≤ x.toInt ∧ x.toInt ≤ 2 then 1 else 0) := by
  unfold wX11_isKind
  rw [isCourt_E, t_sbe]
  by_cases c : 0 < (s.1 163 0).toInt
  · rw [if_pos c, if_neg (by decide), in_02, t_sbe]
    by_cases d : 0 ≤ x.toInt ∧ x.toInt ≤ 2
    · rw [if_pos d, if_neg (by decide), if_pos ⟨c, d⟩]
    · rw [if_neg d, if_pos rfl, if_neg (fun q => d q.2)]
  · rw [if_neg c, if_pos rfl, if_neg (fun q => c q.1)]
/-- there is such a thing -/
noncomputable def TH (f : Nat → Int32) (x y : Int32) : Prop := (0 ≤ x.toInt ∧ x.toInt ≤ 2) ∧ 0 ≤ y.toInt ∧ y.toInt < (f x.toNatClampNeg).toInt
end HEAR
end
section
/-! Single calls about the hearing: both sides answer the same. -/
section OPS
variable {s : wS}
theorem many_E (g : JA s) : ∀ n, n < 3 → s.1 16 n = s.1 163 n := by
  intro n hn
  obtain ⟨h0, h1, h2⟩ := g.h.1.1
  match n, hn with
  | 0, _ => exact h0
  | 1, _ => exact h1
  | 2, _ => exact h2
theorem kind_3 {x : Int32} (h : 0 ≤ x.toInt ∧ x.toInt ≤ 2) : x.toNatClampNeg < 3 ∧ (x = 0 ∨ x = 1 ∨ x = 2) := by
  refine ⟨by unfold Int32.toNatClampNeg; omega, ?_⟩
  have : x.toInt = 0 ∨ x.toInt = 1 ∨ x.toInt = 2 := by omega
  rcases this with r | r | r
  · exact Or.inl (Int32.toInt_inj.1 r)
  · exact Or.inr (Or.inl (Int32.toInt_inj.1 r))
  · exact Or.inr (Or.inr (Int32.toInt_inj.1 r))
theorem has_E (g : JA s) (x y : Int32) : (TH (s.1 163) x y ∧ wX0_has 15 x y s = some 1 ∧ wX11_isThing x y s = some 1) ∨ (¬ TH (s.1 163) x y ∧ wX0_has 15 x y s = some 0 ∧ wX11_isThing x y s = some 0) := by
  have e3 : (3 : Int32).toInt = 3 := rfl
  obtain ⟨c0, c1, c2, c3, -⟩ := g.c
  have hx0 := g.h.2.2.1
  unfold wX0_has wX11_isThing TH
  rw [isOutside_E, isKind_E]
  by_cases k : 0 ≤ x.toInt ∧ x.toInt ≤ 2
  · obtain ⟨k3, -⟩ := kind_3 k
    rw [if_pos (by omega), t_sbe, if_pos rfl, wld_E (by omega) (by omega), t_sbe, isOutside_E]
    have em : s.1 (15 + 1) x.toNatClampNeg = s.1 163 x.toNatClampNeg := many_E g _ k3
    rw [em]
    by_cases m : 0 ≤ y.toInt ∧ y.toInt < (s.1 163 x.toNatClampNeg).toInt
    · have told : 0 < (s.1 163 0).toInt := by
        by_cases q : (s.1 163 0).toInt = 0
        · exfalso
          obtain ⟨z1, z2⟩ := hx0 (Int32.toInt_inj.1 q)
          have : s.1 163 x.toNatClampNeg = 0 := by
            rcases (kind_3 k).2 with r | r | r <;> rw [r]
            · exact Int32.toInt_inj.1 q
            · exact z1
            · exact z2
          rw [this, t_i0] at m
          omega
        · omega
      rw [if_pos m, t_sbe, if_pos rfl, if_pos ⟨told, k⟩, t_sbe, if_neg (by decide), if_neg (fun q => by have := t_lt q; rw [t_i0] at this; omega), wld_E (by omega) (by omega), t_sbe, if_pos (Int32.lt_iff_toInt_lt.2 m.2)]
      exact Or.inl ⟨⟨k, m⟩, rfl, rfl⟩
    · right
      refine ⟨fun q => m q.2, ?_, ?_⟩
      · rw [if_neg m, t_sbe, if_neg (by decide)]
      · by_cases told : 0 < (s.1 163 0).toInt
        · rw [if_pos ⟨told, k⟩, t_sbe, if_neg (by decide)]
          by_cases y0 : y < 0
          · rw [if_pos y0]
          · have := t_ge y0
            rw [t_i0] at this
            rw [if_neg y0, wld_E (by omega) (by omega), t_sbe, if_neg (fun q => by have := t_lt q; omega)]
        · rw [if_neg (fun q => told q.1), t_sbe, if_pos rfl]
  · right
    refine ⟨fun q => k q.1, ?_, ?_⟩
    · rw [if_neg (by omega), t_sbe, if_neg (by decide)]
    · rw [if_neg (fun q => k q.2), t_sbe, if_pos rfl]
/-- x and y of a ROAD, years and kin of a MAN -/
theorem first_E (g : JA s) {x y : Int32} (h : TH (s.1 163) x y) (hx : x = 1 ∨ x = 2) : wX0_firstOf 15 x y s = some (s.1 163 ((if x = 1 then 10 else 26) + 2 * y.toNatClampNeg)) ∧ wX0_secondOf 15 x y s = some (s.1 163 ((if x = 1 then 10 else 26) + 2 * y.toNatClampNeg + 1)) := by
  obtain ⟨c0, c1, c2, -⟩ := g.c
  obtain ⟨-, hr, hm⟩ := g.h.1
  obtain ⟨-, y0, y1⟩ := h
  have yc := t_cln y0
  have e8 : (8 : Int32).toInt = 8 := rfl
  unfold wX0_firstOf wX0_secondOf wX10_slot
  rw [t_sbe, t_sbe]
  rcases hx with rfl | rfl
  · have f : (s.1 163 (Int32.toNatClampNeg 1)).toInt = (s.1 163 1).toInt := rfl
    rw [f] at y1
    have q : (1 * 8 + y).toInt = 8 + y.toInt := by
      rw [show (1 : Int32) * 8 = 8 from rfl, t_add (by omega) (by omega), e8]
    have qn : (1 * 8 + y).toNatClampNeg = 8 + y.toNatClampNeg := by unfold Int32.toNatClampNeg at *; omega
    rw [if_pos rfl, at_E (n := 24) rfl (by omega) (by omega) (by omega), at_E (n := 24) rfl (by omega) (by omega) (by omega), t_sbe, t_sbe, qn]
    have := hr y.toNatClampNeg (by omega)
    exact ⟨congrArg some this.1, congrArg some this.2⟩
  · have f : (s.1 163 (Int32.toNatClampNeg 2)).toInt = (s.1 163 2).toInt := rfl
    rw [f] at y1
    have q : (2 * 8 + y).toInt = 16 + y.toInt := by
      rw [show (2 : Int32) * 8 = 16 from rfl, t_add (by rw [show (16 : Int32).toInt = 16 from rfl]; omega) (by rw [show (16 : Int32).toInt = 16 from rfl]; omega)]
      rfl
    have qn : (2 * 8 + y).toNatClampNeg = 16 + y.toNatClampNeg := by unfold Int32.toNatClampNeg at *; omega
    rw [if_neg (by decide), at_E (n := 24) rfl (by omega) (by omega) (by omega), at_E (n := 24) rfl (by omega) (by omega) (by omega), t_sbe, t_sbe, qn]
    have := hm y.toNatClampNeg (by omega)
    exact ⟨congrArg some this.1, congrArg some this.2⟩
theorem j65_E {d x y : Int32} {m : Nat} (hd : d.toInt = m) (hm : m ≤ 30) (hx0 : 0 ≤ x.toInt) (hx : x.toInt < 8) (hy0 : 0 ≤ y.toInt) (hy : y.toInt ≤ 1) : wX11_thing_j65 x y d s = some (s.1 163 (m + 2 * x.toNatClampNeg + y.toNatClampNeg)) := by
  unfold wX11_thing_j65
  have q1 := t_2p (x := x) hx0 (by omega)
  have q2 : (d + 2 * x).toInt = m + 2 * x.toInt := by rw [t_add (by omega) (by omega), q1, hd]
  have q3 : (d + 2 * x + y).toInt = m + 2 * x.toInt + y.toInt := by rw [t_add (by omega) (by omega), q2]
  rw [wld_E (by omega) (by omega), t_sbe]
  have : (d + 2 * x + y).toNatClampNeg = m + 2 * x.toNatClampNeg + y.toNatClampNeg := by unfold Int32.toNatClampNeg; omega
  rw [this]
theorem op_thing {x1 x2 x3 : Int32} (g : JA s) : ∃ v, wX10_thing x1 x2 x3 s = some v ∧ wX11_thing x1 x2 x3 s = some v := by
  have e3 : (3 : Int32).toInt = 3 := rfl
  have e2 : (2 : Int32).toInt = 2 := rfl
  obtain ⟨c0, c1, c2, -⟩ := g.c
  unfold wX10_thing wX11_thing
  rw [isOutside_E, isKind_E]
  by_cases k : 0 ≤ x1.toInt ∧ x1.toInt ≤ 2
  · obtain ⟨k3, k4⟩ := kind_3 k
    rw [if_pos (by omega), t_sbe, qi0, isTold15_E g]
    by_cases told : 0 < (s.1 163 0).toInt
    · rw [if_pos told, t_sbe, qi1, if_pos (⟨told, k⟩ : 0 < (s.1 163 0).toInt ∧ 0 ≤ x1.toInt ∧ x1.toInt ≤ 2), t_sbe, qi1, in_02]
      by_cases c : x3 = 2
      · subst c
        rw [if_pos (rfl : (2 : Int32) = 2), if_pos (⟨by decide, by decide⟩ : 0 ≤ (2 : Int32).toInt ∧ (2 : Int32).toInt ≤ 2), t_sbe, qi1, if_pos (rfl : (2 : Int32) = 2)]
        unfold wX0_manyOf
        rw [at_E (n := 3) rfl (by omega) (by omega) (by omega), t_sbe, t_sbe, wld_E (by omega) (by omega), t_sbe]
        refine ⟨_, rfl, ?_⟩
        exact congrArg some (many_E g _ k3).symm
      · have x3n := t_nq c
        rw [e2] at x3n
        rw [if_neg c, isOutside_E]
        by_cases d : 0 ≤ x3.toInt ∧ x3.toInt < 2
        · rw [if_pos (show 0 ≤ x3.toInt ∧ x3.toInt < (2 : Int32).toInt by omega), t_sbe, qi0, if_pos (show 0 ≤ x3.toInt ∧ x3.toInt ≤ 2 by omega), t_sbe, qi1, if_neg c]
          by_cases x10 : x1 = 0
          · rw [if_pos x10, if_pos x10]
            exact ⟨_, rfl, rfl⟩
          · rw [if_neg x10, if_neg x10]
            rcases has_E g x1 x2 with ⟨h, h1, h2⟩ | ⟨h, h1, h2⟩
            · rw [h1, t_sbe, qi1, h2, t_sbe, qi1]
              obtain ⟨f1, f2⟩ := first_E g h (k4.resolve_left x10)
              obtain ⟨-, y0, y1⟩ := h
              have y8 : x2.toInt < 8 := by
                have : (s.1 163 x1.toNatClampNeg).toInt ≤ 8 := by
                  rcases k4 with r | r | r <;> rw [r]
                  · exact c0.2
                  · exact c1.2
                  · exact c2.2
                omega
              have j10 := j65_E (s := s) (d := 10) (m := 10) (x := x2) (y := x3) rfl (by omega) y0 y8 d.1 (by omega)
              have j26 := j65_E (s := s) (d := 26) (m := 26) (x := x2) (y := x3) rfl (by omega) y0 y8 d.1 (by omega)
              have both : (if x1 = 1 then wX11_thing_j65 x2 x3 10 s else wX11_thing_j65 x2 x3 26 s) = some (s.1 163 ((if x1 = 1 then 10 else 26) + 2 * x2.toNatClampNeg + x3.toNatClampNeg)) := by
                by_cases q : x1 = 1
                · rw [if_pos q, if_pos q, j10]
                · rw [if_neg q, if_neg q, j26]
              rw [both]
              by_cases x30 : x3 = 0
              · rw [if_pos x30, f1, t_sbe, x30]
                exact ⟨_, rfl, rfl⟩
              · have x31 : x3 = 1 := Int32.toInt_inj.1 (by
                  have := t_nq x30
                  rw [t_i0] at this
                  show _ = (1 : Int)
                  omega)
                rw [if_neg x30, f2, t_sbe, x31]
                exact ⟨_, rfl, rfl⟩
            · rw [h1, t_sbe, qi0, h2, t_sbe, qi0]
              exact ⟨_, rfl, rfl⟩
        · rw [if_neg (show ¬ (0 ≤ x3.toInt ∧ x3.toInt < (2 : Int32).toInt) by omega), t_sbe, qi1, if_neg (show ¬ (0 ≤ x3.toInt ∧ x3.toInt ≤ 2) by omega), t_sbe, qi0]
          exact ⟨_, rfl, rfl⟩
    · rw [if_neg told, t_sbe, qi0, if_neg (fun q : 0 < (s.1 163 0).toInt ∧ 0 ≤ x1.toInt ∧ x1.toInt ≤ 2 => told q.1), t_sbe, qi0]
      exact ⟨_, rfl, rfl⟩
  · rw [if_neg (show ¬ (0 ≤ x1.toInt ∧ x1.toInt < (3 : Int32).toInt) by omega), t_sbe, qi1, if_neg (fun q : 0 < (s.1 163 0).toInt ∧ 0 ≤ x1.toInt ∧ x1.toInt ≤ 2 => k q.2), t_sbe, qi0]
    exact ⟨_, rfl, rfl⟩
/-- what an ANSWER has -/
theorem ans_E (g : JA s) {a : Nat} {x : Int32} (ha : (a : Int) < (s.1 163 3).toInt) (hx : x.toInt = a) : wX10_at 19 x s = some (s.1 163 (42 + 5 * a)) ∧ wX10_at 20 x s = some (s.1 163 (42 + 5 * a + 1)) ∧ wX10_at 21 x s = some (s.1 163 (42 + 5 * a + 2)) ∧ wX10_at 22 x s = some (s.1 163 (42 + 5 * a + 3)) ∧ wX2_isStruck 14 x s = some (s.1 163 (42 + 5 * a + 4)) := by
  obtain ⟨-, -, -, -, c3, -⟩ := g.c
  obtain ⟨h1, h2, h3, h4, h5⟩ := g.h.2.1.2.1 a ha
  have hz := (g.h.2.2.2.2.1 a ha).2
  have xn : x.toNatClampNeg = a := by unfold Int32.toNatClampNeg; omega
  refine ⟨?_, ?_, ?_, ?_, ?_⟩
  · rw [at_E (n := 40) rfl (by omega) (by omega) (by omega), xn]; exact congrArg some h1
  · rw [at_E (n := 40) rfl (by omega) (by omega) (by omega), xn]; exact congrArg some h2
  · rw [at_E (n := 40) rfl (by omega) (by omega) (by omega), xn]; exact congrArg some h3
  · rw [at_E (n := 40) rfl (by omega) (by omega) (by omega), xn]; exact congrArg some h4
  · unfold wX2_isStruck
    rw [isOutside_E, if_pos ⟨by omega, by rw [show (40 : Int32).toInt = 40 from rfl]; omega⟩, t_sbe, if_pos rfl, wld_E (by omega) (by omega), t_sbe, xn]
    have e : s.1 (14 + 9) a = s.1 163 (42 + 5 * a + 4) := h5
    rw [e]
    rcases hz with r | r <;> rw [r] <;> rfl
theorem answerOf_E {a w : Nat} {x y : Int32} (ha : a < 40) (hx : x.toInt = a) (hw : w ≤ 4) (hy : y.toInt = w) : wX11_answerOf x y s = some (s.1 163 (42 + 5 * a + w)) := by
  have e5 : (5 : Int32).toInt = 5 := rfl
  have e42 : (42 : Int32).toInt = 42 := rfl
  have q1 : (5 * x).toInt = 5 * a := by rw [t_mul (by rw [e5]; omega) (by rw [e5]; omega), e5, hx]
  have q2 : (42 + 5 * x).toInt = 42 + 5 * a := by rw [t_add (by omega) (by omega), q1, e42]
  have q3 : (42 + 5 * x + y).toInt = 42 + 5 * a + w := by rw [t_add (by omega) (by omega), q2, hy]
  unfold wX11_answerOf
  rw [wld_E (by omega) (by omega), t_sbe]
  have : (42 + 5 * x + y).toNatClampNeg = 42 + 5 * a + w := by unfold Int32.toNatClampNeg; omega
  rw [this]
/-- there is such an ANSWER -/
theorem hasAns_E (g : JA s) (x : Int32) : (∃ a : Nat, x.toInt = a ∧ (a : Int) < (s.1 163 3).toInt ∧ wX2_hasAnswer 14 x s = some 1 ∧ wX11_isAnswer x s = some 1) ∨ (¬ (0 ≤ x.toInt ∧ x.toInt < (s.1 163 3).toInt) ∧ wX2_hasAnswer 14 x s = some 0 ∧ wX11_isAnswer x s = some 0) := by
  have h6 : s.1 14 6 = s.1 163 3 := g.h.2.1.1.1
  unfold wX2_hasAnswer wX11_isAnswer
  rw [isOutside_E, h6]
  by_cases c : 0 ≤ x.toInt ∧ x.toInt < (s.1 163 3).toInt
  · left
    refine ⟨x.toNatClampNeg, (t_cln c.1).symm, by rw [t_cln c.1]; exact c.2, ?_, ?_⟩
    · rw [if_pos c, t_sbe, if_pos rfl]
    · rw [if_neg (fun q => by have := t_lt q; rw [t_i0] at this; omega), if_pos (Int32.lt_iff_toInt_lt.2 c.2)]
  · right
    refine ⟨c, ?_, ?_⟩
    · rw [if_neg c, t_sbe, if_neg (by decide)]
    · by_cases d : x < 0
      · rw [if_pos d]
      · have := t_ge d
        rw [t_i0] at this
        rw [if_neg d, if_neg (fun q => c ⟨by omega, t_lt q⟩)]
theorem op_answers {x1 x2 : Int32} (g : JA s) : ∃ v, wX10_answers x1 x2 s = some v ∧ wX11_answers x1 x2 s = some v := by
  obtain ⟨-, -, -, -, c3, -⟩ := g.c
  have hin : wX11_in (x2.toInt64) 0 4 s = some (if 0 ≤ x2.toInt ∧ x2.toInt ≤ 4 then 1 else 0) := in_I (lo := 0) (hi := 4)
  unfold wX10_answers wX11_answers
  rcases hasAns_E g x1 with ⟨a, hx, ha, h1, h2⟩ | ⟨h, h1, h2⟩
  · rw [h1, t_sbe, qi1, h2, t_sbe, qi1, hin]
    obtain ⟨a0, a1, a2, a3, a4⟩ := ans_E g ha hx
    have n : ∀ (c : Int32), x2 = c → 0 ≤ c.toInt → c.toInt ≤ 4 → ((some (if 0 ≤ x2.toInt ∧ x2.toInt ≤ 4 then (1 : Int32) else 0)).bind fun t4 => if t4 = 0 then (some (-1)) else ((wX11_answerOf x1 x2 s).bind fun t7 => some t7)) = some (s.1 163 (42 + 5 * a + c.toNatClampNeg)) := by
      intro c hc c0 c4
      rw [hc, if_pos ⟨c0, c4⟩, t_sbe, qi1, answerOf_E (a := a) (w := c.toNatClampNeg) (by omega) hx (by unfold Int32.toNatClampNeg; omega) (t_cln c0).symm]
      rfl
    by_cases c0 : x2 = 0
    · rw [if_pos c0, a0, n 0 c0 (by decide) (by decide)]
      exact ⟨_, rfl, rfl⟩
    · rw [if_neg c0]
      by_cases c1 : x2 = 1
      · rw [if_pos c1, a1, n 1 c1 (by decide) (by decide)]
        exact ⟨_, rfl, rfl⟩
      · rw [if_neg c1]
        by_cases c2 : x2 = 2
        · rw [if_pos c2, a2, n 2 c2 (by decide) (by decide)]
          exact ⟨_, rfl, rfl⟩
        · rw [if_neg c2]
          by_cases c3 : x2 = 3
          · rw [if_pos c3, a3, n 3 c3 (by decide) (by decide)]
            exact ⟨_, rfl, rfl⟩
          · rw [if_neg c3]
            by_cases c4 : x2 = 4
            · rw [if_pos c4, a4, n 4 c4 (by decide) (by decide), t_sbe]
              refine ⟨s.1 163 (42 + 5 * a + 4), ?_, rfl⟩
              rcases (g.h.2.2.2.2.1 a ha).2 with r | r <;> rw [r] <;> rfl
            · rw [if_neg c4, if_neg (fun q => by
                have k0 := t_nq c0
                have k1 := t_nq c1
                have k2 := t_nq c2
                have k3 := t_nq c3
                have k4 := t_nq c4
                rw [t_i0] at k0
                rw [show (1 : Int32).toInt = 1 from rfl] at k1
                rw [show (2 : Int32).toInt = 2 from rfl] at k2
                rw [show (3 : Int32).toInt = 3 from rfl] at k3
                rw [show (4 : Int32).toInt = 4 from rfl] at k4
                omega), t_sbe, qi0]
              exact ⟨_, rfl, rfl⟩
  · rw [h1, t_sbe, qi0, h2, t_sbe, qi0]
    exact ⟨_, rfl, rfl⟩
end OPS
end
section
/-! answer: both sides take it down, or none. -/
section ANS
variable {s : wS}
theorem cw_congr {f f' : Nat → Int32} {w : Int32} : ∀ {n : Nat}, (∀ a, a < n → f' (42 + 5 * a) = f (42 + 5 * a)) → cw f' w n = cw f w n := by
  intro n
  induction n with
  | zero => intro _; rfl
  | succ n ih =>
    intro h
    show cw f' w n + _ = cw f w n + _
    rw [ih (fun a ha => h a (by omega)), h n (by omega)]
theorem cw_le {f : Nat → Int32} {w : Int32} : ∀ {n : Nat}, cw f w n ≤ n := by
  intro n
  induction n with
  | zero => exact Nat.le_refl _
  | succ n ih =>
    show cw f w n + (if f (42 + 5 * n) = w then 1 else 0) ≤ n + 1
    by_cases c : f (42 + 5 * n) = w
    · rw [if_pos c]; omega
    · rw [if_neg c]; omega
theorem still_h4_E (g : JA s) {x1 : Int32} {N : Nat} (hN : s.1 163 3 = Int32.ofNat N) (h40 : N ≤ 40) : ∀ (n : Nat) {i : Nat} {x2 x3 : Int32}, x3 = Int32.ofNat i → i ≤ N → x2 = Int32.ofNat (cw (s.1 163) x1 i) → N - i < n → wX2_mayStillGive_h4 14 x1 s n x2 x3 = some (Int32.ofNat (cw (s.1 163) x1 N)) := by
  intro n
  induction n with
  | zero => intro i x2 x3 _ _ _ hm; exact absurd hm (by omega)
  | succ n ih =>
    intro i x2 x3 h3 hi h2 hm
    have h6 : s.1 14 6 = s.1 163 3 := g.h.2.1.1.1
    have e3 : x3.toInt = i := by rw [h3, t_on (by omega)]
    have eN : (Int32.ofNat N).toInt = N := t_on (by omega)
    rw [wX2_mayStillGive_h4, h6, hN]
    by_cases c : x3 < Int32.ofNat N
    · have hc := t_lt c
      rw [e3, eN] at hc
      rw [if_pos c]
      have := (ans_E g (a := i) (x := x3) (by rw [hN, eN]; omega) e3).1
      rw [this, t_sbe]
      have e1 : x3 + 1 = Int32.ofNat (i + 1) := Int32.toInt_inj.1 (by rw [t_p1 (by omega) (by omega), t_on (by omega), e3]; rfl)
      have cl := cw_le (f := s.1 163) (w := x1) (n := i)
      unfold wX2_mayStillGive_j27
      by_cases cx : s.1 163 (42 + 5 * i) = x1
      · have c1 : cw (s.1 163) x1 (i + 1) = cw (s.1 163) x1 i + 1 := by
          show cw (s.1 163) x1 i + (if s.1 163 (42 + 5 * i) = x1 then 1 else 0) = _
          rw [if_pos cx]
        rw [if_pos cx]
        refine ih e1 (by omega) ?_ (by omega)
        rw [c1, h2]
        exact Int32.toInt_inj.1 (by rw [t_p1 (by rw [t_on (by omega)]; omega) (by rw [t_on (by omega)]; omega), t_on (by omega), t_on (by omega)]; rfl)
      · have c1 : cw (s.1 163) x1 (i + 1) = cw (s.1 163) x1 i := by
          show cw (s.1 163) x1 i + (if s.1 163 (42 + 5 * i) = x1 then 1 else 0) = _
          rw [if_neg cx, Nat.add_zero]
        rw [if_neg cx]
        exact ih e1 (by omega) (by rw [c1]; exact h2) (by omega)
    · have hc := t_ge c
      rw [e3, eN] at hc
      obtain rfl : i = N := by omega
      rw [if_neg c, h2]
theorem by_h4_E {x1 : Int32} {N : Nat} (hN : s.1 163 3 = Int32.ofNat N) (h40 : N ≤ 40) : ∀ (n : Nat) {i : Nat} {x2 x3 : Int32}, x3 = Int32.ofNat i → i ≤ N → x2 = Int32.ofNat (cw (s.1 163) x1 i) → N - i < n → wX11_answersBy_h4 x1 s n x2 x3 = some (Int32.ofNat (cw (s.1 163) x1 N)) := by
  intro n
  induction n with
  | zero => intro i x2 x3 _ _ _ hm; exact absurd hm (by omega)
  | succ n ih =>
    intro i x2 x3 h3 hi h2 hm
    have e3 : x3.toInt = i := by rw [h3, t_on (by omega)]
    have eN : (Int32.ofNat N).toInt = N := t_on (by omega)
    rw [wX11_answersBy_h4, hN]
    by_cases c : x3 < Int32.ofNat N
    · have hc := t_lt c
      rw [e3, eN] at hc
      rw [if_pos c, answerOf_E (a := i) (w := 0) (by omega) e3 (by decide) rfl, t_sbe, Nat.add_zero]
      have e1 : x3 + 1 = Int32.ofNat (i + 1) := Int32.toInt_inj.1 (by rw [t_p1 (by omega) (by omega), t_on (by omega), e3]; rfl)
      have cl := cw_le (f := s.1 163) (w := x1) (n := i)
      unfold wX11_answersBy_j30
      by_cases cx : s.1 163 (42 + 5 * i) = x1
      · have c1 : cw (s.1 163) x1 (i + 1) = cw (s.1 163) x1 i + 1 := by
          show cw (s.1 163) x1 i + (if s.1 163 (42 + 5 * i) = x1 then 1 else 0) = _
          rw [if_pos cx]
        rw [if_pos cx]
        refine ih e1 (by omega) ?_ (by omega)
        rw [c1, h2]
        exact Int32.toInt_inj.1 (by rw [t_p1 (by rw [t_on (by omega)]; omega) (by rw [t_on (by omega)]; omega), t_on (by omega), t_on (by omega)]; rfl)
      · have c1 : cw (s.1 163) x1 (i + 1) = cw (s.1 163) x1 i := by
          show cw (s.1 163) x1 i + (if s.1 163 (42 + 5 * i) = x1 then 1 else 0) = _
          rw [if_neg cx, Nat.add_zero]
        rw [if_neg cx, Int32.add_zero]
        exact ih e1 (by omega) (by rw [c1]; exact h2) (by omega)
    · have hc := t_ge c
      rw [e3, eN] at hc
      obtain rfl : i = N := by omega
      rw [if_neg c, h2]
theorem JA.said (g : JA s) : ∃ N : Nat, s.1 163 3 = Int32.ofNat N ∧ N ≤ 40 ∧ (s.1 163 3).toNatClampNeg = N := by
  obtain ⟨-, -, -, -, c3, -⟩ := g.c
  refine ⟨(s.1 163 3).toNatClampNeg, (t_oc c3.1).symm, ?_, rfl⟩
  have := t_cln c3.1
  omega
/-- how many he may still give -/
theorem still_E (g : JA s) {x1 : Int32} {N : Nat} (hN : s.1 163 3 = Int32.ofNat N) (h40 : N ≤ 40) : Tot (wX2_mayStillGive 14 x1 s) (fun t => 0 < t ↔ (cw (s.1 163) x1 N < 9 ∧ N < 40)) := by
  have h6 : s.1 14 6 = s.1 163 3 := g.h.2.1.1.1
  have cl := cw_le (f := s.1 163) (w := x1) (n := N)
  unfold wX2_mayStillGive
  rw [still_h4_E g hN h40 wFuel (i := 0) (x1 := x1) (x2 := 0) (x3 := 0) rfl (Nat.zero_le _) rfl (by
    have e : wFuel = 1099511627776 := rfl
    omega), t_sbe, h6, hN]
  have q1 : (9 - Int32.ofNat (cw (s.1 163) x1 N)).toInt = 9 - (cw (s.1 163) x1 N : Int) := by
    rw [t_sub (by rw [t_on (by omega), show (9 : Int32).toInt = 9 from rfl]; omega) (by rw [t_on (by omega), show (9 : Int32).toInt = 9 from rfl]; omega), t_on (by omega)]
    rfl
  have q2 : (40 - Int32.ofNat N).toInt = 40 - (N : Int) := by
    rw [t_sub (by rw [t_on (by omega), show (40 : Int32).toInt = 40 from rfl]; omega) (by rw [t_on (by omega), show (40 : Int32).toInt = 40 from rfl]; omega), t_on (by omega)]
    rfl
  refine t_some ?_
  unfold wmin
  rw [Int32.lt_iff_toInt_lt, t_i0]
  by_cases c : 40 - Int32.ofNat N < 9 - Int32.ofNat (cw (s.1 163) x1 N)
  · have := t_lt c
    rw [if_pos c, q2]
    omega
  · have := t_ge c
    rw [if_neg c, q1]
    omega
theorem by_E {x1 : Int32} {N : Nat} (hN : s.1 163 3 = Int32.ofNat N) (h40 : N ≤ 40) : wX11_answersBy x1 s = some (Int32.ofNat (cw (s.1 163) x1 N)) := by
  unfold wX11_answersBy
  rw [by_h4_E hN h40 wFuel (i := 0) (x1 := x1) (x2 := 0) (x3 := 0) rfl (Nat.zero_le _) rfl (by
    have e : wFuel = 1099511627776 := rfl
    omega)]
  rfl
/-- the ANSWER is taken -/
noncomputable def OKa (f : Nat → Int32) (N : Nat) (x1 x2 x3 x4 : Int32) : Prop := (0 ≤ x1.toInt ∧ x1.toInt ≤ 5) ∧ (cw f x1 N < 9 ∧ N < 40) ∧ TH f x2 x3 ∧ TH f x2 x4 ∧ ¬ x3 = x4
/-- the class's state then -/
noncomputable abbrev an1 (s : wS) (N : Nat) (x1 x2 x3 x4 : Int32) : wS := wupI (wupI (wupI (wupI (wupI (wupI s 19 N x1) 20 N x2) 21 N x3) 22 N x4) 23 N 0) 14 6 (Int32.ofNat (N + 1))
noncomputable abbrev an2 (s : wS) (N : Nat) (x1 x2 x3 x4 : Int32) : wS := wupI (wupI (wupI (wupI (wupI (wupI s 163 (42 + 5 * N) x1) 163 (42 + 5 * N + 1) x2) 163 (42 + 5 * N + 2) x3) 163 (42 + 5 * N + 3) x4) 163 (42 + 5 * N + 4) 0) 163 3 (Int32.ofNat (N + 1))
theorem wstZ_E {k n : Nat} {i v : Int32} {s : wS} (h0 : 0 ≤ i.toInt) (h1 : i.toInt < n) : wstZ s k n i v = some (wupI s k i.toNatClampNeg (vp_nar .boolean v)) := by
  unfold wstZ
  rw [if_neg (t_ix h0 h1)]
theorem narZ_0 : vp_nar .boolean 0 = 0 := by decide
theorem narZ_1 : vp_nar .boolean 1 = 1 := by decide
theorem cls_answer (g : JA s) {x1 x2 x3 x4 : Int32} {N : Nat} (hN : s.1 163 3 = Int32.ofNat N) (h40 : N ≤ 40) : (OKa (s.1 163) N x1 x2 x3 x4 ∧ wX10_answer x1 x2 x3 x4 s = some (Int32.ofNat N, an1 s N x1 x2 x3 x4)) ∨ (¬ OKa (s.1 163) N x1 x2 x3 x4 ∧ wX10_answer x1 x2 x3 x4 s = some (-1, s)) := by
  have h6 : s.1 14 6 = Int32.ofNat N := g.h.2.1.1.1.trans hN
  have e6 : (6 : Int32).toInt = 6 := rfl
  have eN : (Int32.ofNat N).toInt = N := t_on (by omega)
  have enN : (Int32.ofNat N).toNatClampNeg = N := t_nc (by omega)
  unfold wX10_answer OKa
  rw [isOutside_E]
  by_cases k : 0 ≤ x1.toInt ∧ x1.toInt ≤ 5
  · rw [if_pos (by omega), t_sbe, qi0]
    obtain ⟨t, et, ht⟩ := still_E g (x1 := x1) hN h40
    rw [et, t_sbe]
    by_cases m : cw (s.1 163) x1 N < 9 ∧ N < 40
    · rw [if_pos (ht.2 m)]
      rcases has_E g x2 x3 with ⟨a, a1, -⟩ | ⟨a, a1, -⟩
      · rw [a1, t_sbe, qi1]
        rcases has_E g x2 x4 with ⟨b, b1, -⟩ | ⟨b, b1, -⟩
        · rw [b1, t_sbe, qi1]
          by_cases c : x3 = x4
          · rw [if_pos c]
            exact Or.inr ⟨fun q => q.2.2.2.2 c, rfl⟩
          · rw [if_neg c]
            refine Or.inl ⟨⟨k, m, a, b, c⟩, ?_⟩
            unfold wX2_takeDown
            rw [h6, isOutside_E, if_pos ⟨by omega, by rw [show (40 : Int32).toInt = 40 from rfl]; omega⟩, t_sbe, qi0, wst_E (by omega) (by omega), t_sbe, enN, wupI_n (by decide), h6, wst_E (by omega) (by omega), t_sbe, enN, wupI_n (by decide), wupI_n (by decide), h6, wst_E (by omega) (by omega), t_sbe, enN, wupI_n (by decide), wupI_n (by decide), wupI_n (by decide), h6, wst_E (by omega) (by omega), t_sbe, enN, wupI_n (by decide), wupI_n (by decide), wupI_n (by decide), wupI_n (by decide), h6, wstZ_E (by omega) (by omega), t_sbe, enN, wupI_n (by decide), wupI_n (by decide), wupI_n (by decide), wupI_n (by decide), wupI_n (by decide), h6, narZ_0]
            have e1 : Int32.ofNat N + 1 = Int32.ofNat (N + 1) := Int32.toInt_inj.1 (by rw [t_p1 (by omega) (by omega), eN, t_on (by omega)]; rfl)
            rw [e1]
            show some ((an1 s N x1 x2 x3 x4).1 14 6 - 1, an1 s N x1 x2 x3 x4) = _
            rw [wup_same]
            have e2 : Int32.ofNat (N + 1) - 1 = Int32.ofNat N := Int32.toInt_inj.1 (by
              rw [t_sub (by rw [t_on (by omega), show (1 : Int32).toInt = 1 from rfl]; omega) (by rw [t_on (by omega), show (1 : Int32).toInt = 1 from rfl]; omega), t_on (by omega), eN, show (1 : Int32).toInt = 1 from rfl]
              omega)
            rw [e2]
        · rw [b1, t_sbe, qi0]
          exact Or.inr ⟨fun q => b q.2.2.2.1, rfl⟩
      · rw [a1, t_sbe, qi0]
        exact Or.inr ⟨fun q => a q.2.2.1, rfl⟩
    · rw [if_neg (fun q => m (ht.1 q))]
      exact Or.inr ⟨fun q => m q.2.1, rfl⟩
  · rw [if_neg (by omega), t_sbe, qi1]
    exact Or.inr ⟨fun q => k q.1, rfl⟩
theorem isWitness_E {x : Int32} : wX11_isWitness x s = some (if 0 ≤ x.toInt ∧ x.toInt ≤ 5 then 1 else 0) := by
  unfold wX11_isWitness
  by_cases c : x < 0
  · have := t_lt c
    rw [t_i0] at this
    rw [if_pos c, if_neg (by omega)]
  · have a := t_ge c
    rw [t_i0] at a
    rw [if_neg c]
    by_cases d : x < 6
    · have b := t_lt d
      rw [show (6 : Int32).toInt = 6 from rfl] at b
      rw [if_pos d, if_pos (by omega)]
    · have b := t_ge d
      rw [show (6 : Int32).toInt = 6 from rfl] at b
      rw [if_neg d, if_neg (by omega)]
theorem ref_answer (g : JA s) {x1 x2 x3 x4 : Int32} {N : Nat} (hN : s.1 163 3 = Int32.ofNat N) (h40 : N ≤ 40) : (OKa (s.1 163) N x1 x2 x3 x4 ∧ ∀ u : wS, u.1 163 = s.1 163 → wX11_answer x1 x2 x3 x4 u = some (Int32.ofNat N, an2 u N x1 x2 x3 x4)) ∨ (¬ OKa (s.1 163) N x1 x2 x3 x4 ∧ wX11_answer x1 x2 x3 x4 s = some (-1, s)) := by
  have eN : (Int32.ofNat N).toInt = N := t_on (by omega)
  have enN : (Int32.ofNat N).toNatClampNeg = N := t_nc (by omega)
  have c9 : cw (s.1 163) x1 N ≤ 9 := by
    have := g.h.2.2.2.2.2.1 x1
    rw [hN, enN] at this
    exact this
  have cl := cw_le (f := s.1 163) (w := x1) (n := N)
  by_cases ok : OKa (s.1 163) N x1 x2 x3 x4
  · refine Or.inl ⟨ok, fun u hu => ?_⟩
    obtain ⟨k, ⟨m1, m2⟩, a, b, c⟩ := ok
    have th : ∀ x y, TH (s.1 163) x y → wX11_isThing x y u = some 1 := by
      intro x y h
      rcases has_E g x y with ⟨_, _, h2⟩ | ⟨n, _, _⟩
      · unfold wX11_isThing wX11_isKind wX11_isCourt wldI at *
        rw [hu]
        exact h2
      · exact absurd h n
    have hNu : u.1 163 3 = Int32.ofNat N := by rw [hu]; exact hN
    unfold wX11_answer
    rw [hNu, if_neg (fun e => by have := congrArg Int32.toInt e; rw [eN, show (40 : Int32).toInt = 40 from rfl] at this; omega), isWitness_E, if_pos k, t_sbe, qi1, th _ _ a, t_sbe, qi1, th _ _ b, t_sbe, qi1, if_neg c, by_E hNu h40, t_sbe, hu, if_neg (fun e => by have := congrArg Int32.toInt e; rw [t_on (by omega), show (9 : Int32).toInt = 9 from rfl] at this; omega)]
    have e5 : (5 : Int32).toInt = 5 := rfl
    have e42 : (42 : Int32).toInt = 42 := rfl
    have q1 : (5 * Int32.ofNat N).toInt = 5 * N := by rw [t_mul (by rw [e5, eN]; omega) (by rw [e5, eN]; omega), e5, eN]
    have q2 : (42 + 5 * Int32.ofNat N).toInt = 42 + 5 * N := by rw [t_add (by omega) (by omega), q1, e42]
    have q2n : (42 + 5 * Int32.ofNat N).toNatClampNeg = 42 + 5 * N := by unfold Int32.toNatClampNeg; omega
    have q3 : ∀ (d : Int32) (j : Nat), d.toInt = j → j ≤ 4 → (42 + 5 * Int32.ofNat N + d).toInt = 42 + 5 * N + j ∧ (42 + 5 * Int32.ofNat N + d).toNatClampNeg = 42 + 5 * N + j := fun d j hd hj => by
      have : (42 + 5 * Int32.ofNat N + d).toInt = 42 + 5 * N + j := by rw [t_add (by omega) (by omega), q2, hd]
      exact ⟨this, by unfold Int32.toNatClampNeg; omega⟩
    obtain ⟨i1, n1⟩ := q3 1 1 rfl (by decide)
    obtain ⟨i2, n2⟩ := q3 2 2 rfl (by decide)
    obtain ⟨i3, n3⟩ := q3 3 3 rfl (by decide)
    obtain ⟨i4, n4⟩ := q3 4 4 rfl (by decide)
    rw [wst_E (by omega) (by omega), t_sbe, q2n, wst_E (by omega) (by omega), t_sbe, n1, wst_E (by omega) (by omega), t_sbe, n2, wst_E (by omega) (by omega), t_sbe, n3, wst_E (by omega) (by omega), t_sbe, n4, wst_E (by decide) (by decide), t_sbe]
    have z3 : (wupI (wupI (wupI (wupI (wupI u 163 (42 + 5 * N) x1) 163 (42 + 5 * N + 1) x2) 163 (42 + 5 * N + 2) x3) 163 (42 + 5 * N + 3) x4) 163 (42 + 5 * N + 4) 0).1 163 3 = Int32.ofNat N := by
      rw [wup_nb (by omega), wup_nb (by omega), wup_nb (by omega), wup_nb (by omega), wup_nb (by omega)]
      exact hNu
    rw [z3]
    have e1 : Int32.ofNat N + 1 = Int32.ofNat (N + 1) := Int32.toInt_inj.1 (by rw [t_p1 (by omega) (by omega), eN, t_on (by omega)]; rfl)
    rw [e1, show Int32.toNatClampNeg 3 = 3 from rfl, wup_same]
    have e2 : Int32.ofNat (N + 1) - 1 = Int32.ofNat N := Int32.toInt_inj.1 (by
      rw [t_sub (by rw [t_on (by omega), show (1 : Int32).toInt = 1 from rfl]; omega) (by rw [t_on (by omega), show (1 : Int32).toInt = 1 from rfl]; omega), t_on (by omega), eN, show (1 : Int32).toInt = 1 from rfl]
      omega)
    rw [e2]
  · refine Or.inr ⟨ok, ?_⟩
    unfold wX11_answer
    rw [hN]
    by_cases c40 : Int32.ofNat N = 40
    · rw [if_pos c40]
    · have n40 := t_nq c40
      rw [eN, show (40 : Int32).toInt = 40 from rfl] at n40
      rw [if_neg c40, isWitness_E]
      by_cases k : 0 ≤ x1.toInt ∧ x1.toInt ≤ 5
      · rw [if_pos k, t_sbe, qi1]
        rcases has_E g x2 x3 with ⟨a, -, a1⟩ | ⟨a, -, a1⟩
        · rw [a1, t_sbe, qi1]
          rcases has_E g x2 x4 with ⟨b, -, b1⟩ | ⟨b, -, b1⟩
          · rw [b1, t_sbe, qi1]
            by_cases c : x3 = x4
            · rw [if_pos c]
            · rw [if_neg c, by_E hN h40, t_sbe]
              have : cw (s.1 163) x1 N = 9 := by
                by_cases q : cw (s.1 163) x1 N = 9
                · exact q
                · exact absurd ⟨k, ⟨by omega, by omega⟩, a, b, c⟩ ok
              rw [this, if_pos (show Int32.ofNat 9 = 9 from rfl)]
          · rw [b1, t_sbe, qi0]
        · rw [a1, t_sbe, qi0]
      · rw [if_neg k, t_sbe, qi0]
/-- the row with the ANSWER more -/
theorem an2_r {u : wS} {N : Nat} {x1 x2 x3 x4 : Int32} (hN : N < 40) : (an2 u N x1 x2 x3 x4).1 163 3 = Int32.ofNat (N + 1) ∧ (an2 u N x1 x2 x3 x4).1 163 (42 + 5 * N) = x1 ∧ (an2 u N x1 x2 x3 x4).1 163 (42 + 5 * N + 1) = x2 ∧ (an2 u N x1 x2 x3 x4).1 163 (42 + 5 * N + 2) = x3 ∧ (an2 u N x1 x2 x3 x4).1 163 (42 + 5 * N + 3) = x4 ∧ (an2 u N x1 x2 x3 x4).1 163 (42 + 5 * N + 4) = 0 ∧ ∀ j, j ≠ 3 → ¬ (42 + 5 * N ≤ j ∧ j ≤ 42 + 5 * N + 4) → (an2 u N x1 x2 x3 x4).1 163 j = u.1 163 j := by
  refine ⟨wup_same, ?_, ?_, ?_, ?_, ?_, fun j h1 h2 => ?_⟩
  · rw [wup_nb (by omega), wup_nb (by omega), wup_nb (by omega), wup_nb (by omega), wup_nb (by omega), wup_same]
  · rw [wup_nb (by omega), wup_nb (by omega), wup_nb (by omega), wup_nb (by omega), wup_same]
  · rw [wup_nb (by omega), wup_nb (by omega), wup_nb (by omega), wup_same]
  · rw [wup_nb (by omega), wup_nb (by omega), wup_same]
  · rw [wup_nb (by omega), wup_same]
  · rw [wup_nb (by omega), wup_nb (by omega), wup_nb (by omega), wup_nb (by omega), wup_nb (by omega), wup_nb (by omega)]
theorem bHe_c {k b : Nat} (h : 14 ≤ k ∧ k ≤ 25) : bHe k b = true := by
  simp only [bHe, Bool.or_eq_true, Bool.and_eq_true, Nat.ble_eq]
  omega
theorem op_answer {x1 x2 x3 x4 : Int32} (g : JA s) : ∃ v s1 v2 s2, wX10_answer x1 x2 x3 x4 s = some (v, s1) ∧ wX11_answer x1 x2 x3 x4 s1 = some (v2, s2) ∧ v = v2 ∧ JA s2 := by
  obtain ⟨N, hN, h40, hNn⟩ := g.said
  have eN : (Int32.ofNat N).toInt = N := t_on (by omega)
  rcases cls_answer g (x1 := x1) (x2 := x2) (x3 := x3) (x4 := x4) hN h40 with ⟨ok, e1⟩ | ⟨no, e1⟩
  · rcases ref_answer g (x1 := x1) (x2 := x2) (x3 := x3) (x4 := x4) hN h40 with ⟨-, e2⟩ | ⟨no, -⟩
    · have u163 : (an1 s N x1 x2 x3 x4).1 163 = s.1 163 := by
        rw [wupI_n (by decide), wupI_n (by decide), wupI_n (by decide), wupI_n (by decide), wupI_n (by decide), wupI_n (by decide)]
      have e2 := e2 (an1 s N x1 x2 x3 x4) u163
      refine ⟨_, _, _, _, e1, e2, rfl, ?_⟩
      obtain ⟨k, ⟨m1, m2⟩, a, b, c⟩ := ok
      obtain ⟨r3, r0, r1, r2, r3', r4, rj⟩ := an2_r (u := an1 s N x1 x2 x3 x4) (x1 := x1) (x2 := x2) (x3 := x3) (x4 := x4) m2
      rw [u163] at rj
      have a1 : wA bHe s (an1 s N x1 x2 x3 x4) := (((((wA_I (bHe_c (by omega))).trans (wA_I (bHe_c (by omega)))).trans (wA_I (bHe_c (by omega)))).trans (wA_I (bHe_c (by omega)))).trans (wA_I (bHe_c (by omega)))).trans (wA_I (bHe_c (by omega)))
      have h163 : ∀ b, bHe 163 b = true := fun b => by unfold bHe; rfl
      have a2 : wA bHe (an1 s N x1 x2 x3 x4) (an2 (an1 s N x1 x2 x3 x4) N x1 x2 x3 x4) := (((((wA_I (h163 _)).trans (wA_I (h163 _))).trans (wA_I (h163 _))).trans (wA_I (h163 _))).trans (wA_I (h163 _))).trans (wA_I (h163 _))
      have i1 : INV (an1 s N x1 x2 x3 x4) := by
        obtain ⟨r, er, p1⟩ := wX10_answer_T (x1 := x1) (x2 := x2) (x3 := x3) (x4 := x4) (s := s)
        rw [e1] at er
        obtain rfl := Option.some.inj er
        exact INV_C p1 g.inv (by rw [p1 0 6 rfl]; exact g.inv.1) rfl (fun _ => rfl) ⟨rfl, rfl, rfl, rfl⟩ (fun _ => ⟨rfl, rfl, rfl, rfl, rfl, rfl⟩) rfl rfl
      have ri : RI (an2 (an1 s N x1 x2 x3 x4) N x1 x2 x3 x4) := by
        obtain ⟨r, er, p2, -⟩ := wX11_answer_T (x1 := x1) (x2 := x2) (x3 := x3) (x4 := x4) (s := an1 s N x1 x2 x3 x4) i1.2.1
        rw [e2] at er
        obtain rfl := Option.some.inj er
        exact p2
      refine JA_hear g (a1.trans a2) ri ?_
      -- the class's cells in the end
      have w : ∀ k, k ≠ 163 → (an2 (an1 s N x1 x2 x3 x4) N x1 x2 x3 x4).1 k = (an1 s N x1 x2 x3 x4).1 k := fun k hk => by
        rw [wupI_n hk, wupI_n hk, wupI_n hk, wupI_n hk, wupI_n hk, wupI_n hk]
      have c19 : (an1 s N x1 x2 x3 x4).1 19 = upd (s.1 19) N x1 := by rw [wupI_n (by decide), wupI_n (by decide), wupI_n (by decide), wupI_n (by decide), wupI_n (by decide), wupI_k]
      have c20 : (an1 s N x1 x2 x3 x4).1 20 = upd (s.1 20) N x2 := by rw [wupI_n (by decide), wupI_n (by decide), wupI_n (by decide), wupI_n (by decide), wupI_k, wupI_n (by decide)]
      have c21 : (an1 s N x1 x2 x3 x4).1 21 = upd (s.1 21) N x3 := by rw [wupI_n (by decide), wupI_n (by decide), wupI_n (by decide), wupI_k, wupI_n (by decide), wupI_n (by decide)]
      have c22 : (an1 s N x1 x2 x3 x4).1 22 = upd (s.1 22) N x4 := by rw [wupI_n (by decide), wupI_n (by decide), wupI_k, wupI_n (by decide), wupI_n (by decide), wupI_n (by decide)]
      have c23 : (an1 s N x1 x2 x3 x4).1 23 = upd (s.1 23) N 0 := by rw [wupI_n (by decide), wupI_k, wupI_n (by decide), wupI_n (by decide), wupI_n (by decide), wupI_n (by decide)]
      have c14 : ∀ b, b ≠ 6 → (an1 s N x1 x2 x3 x4).1 14 b = s.1 14 b := fun b hb => by rw [wup_nb hb, wupI_n (by decide), wupI_n (by decide), wupI_n (by decide), wupI_n (by decide), wupI_n (by decide)]
      have cc : ∀ k, k ≠ 14 → ¬ (19 ≤ k ∧ k ≤ 23) → (an1 s N x1 x2 x3 x4).1 k = s.1 k := fun k h1 h2 => by rw [wupI_n h1, wupI_n (by omega), wupI_n (by omega), wupI_n (by omega), wupI_n (by omega), wupI_n (by omega)]
      obtain ⟨⟨⟨d0, d1, d2⟩, d3, d4⟩, ⟨⟨d5, d6, d7, d8⟩, d9, d10⟩, ⟨d11, d12, d13, d14, d15, d16, d17⟩⟩ := g.h
      have qc := g.c
      generalize an2 (an1 s N x1 x2 x3 x4) N x1 x2 x3 x4 = t at *
      have j0 := rj 0 (by decide) (by omega)
      have j1 := rj 1 (by decide) (by omega)
      have j2 := rj 2 (by decide) (by omega)
      have j4 := rj 4 (by decide) (by omega)
      have j5 := rj 5 (by decide) (by omega)
      have j6 := rj 6 (by decide) (by omega)
      have old : ∀ a' : Nat, a' < N → ∀ j, j ≤ 4 → t.1 163 (42 + 5 * a' + j) = s.1 163 (42 + 5 * a' + j) := fun a' ha' j hj => rj _ (by omega) (by omega)
      have old0 : ∀ a' : Nat, a' < N → t.1 163 (42 + 5 * a') = s.1 163 (42 + 5 * a') := fun a' ha' => rj _ (by omega) (by omega)
      have b1 : (t.1 163 1).toInt ≤ 8 := by rw [j1]; exact qc.2.1.2
      have b2 : (t.1 163 2).toInt ≤ 8 := by rw [j2]; exact qc.2.2.1.2
      have b5 : (t.1 163 5).toInt ≤ 10 := by rw [j5]; exact qc.2.2.2.2.2.1.2
      have b1' := qc.2.1.2
      have b2' := qc.2.2.1.2
      have b5' := qc.2.2.2.2.2.1.2
      refine ⟨⟨⟨?_, ?_, ?_⟩, fun i hi => ?_, fun i hi => ?_⟩, ⟨⟨?_, ?_, ?_, ?_⟩, fun a' ha' => ?_, fun v hv => ?_⟩, ⟨fun h0 => ?_, ?_, fun a' ha' => ?_, fun w' => ?_, fun v hv => ?_, fun i hi => ?_, fun i hi => ?_⟩⟩
      · rw [w _ (by decide), cc _ (by decide) (by decide), j0]; exact d0
      · rw [w _ (by decide), cc _ (by decide) (by decide), j1]; exact d1
      · rw [w _ (by decide), cc _ (by decide) (by decide), j2]; exact d2
      · rw [w (14 + 3) (by decide), w (14 + 4) (by decide), cc (14 + 3) (by decide) (by decide), cc (14 + 4) (by decide) (by decide), rj _ (by omega) (by omega), rj _ (by omega) (by omega)]
        rw [j1] at hi
        exact d3 i hi
      · rw [w (14 + 3) (by decide), w (14 + 4) (by decide), cc (14 + 3) (by decide) (by decide), cc (14 + 4) (by decide) (by decide), rj _ (by omega) (by omega), rj _ (by omega) (by omega)]
        rw [j2] at hi
        exact d4 i hi
      · rw [w _ (by decide), wup_same, r3]
      · rw [w _ (by decide), c14 7 (by decide), j4]; exact d6
      · rw [w _ (by decide), c14 10 (by decide), j5]; exact d7
      · rw [w _ (by decide), c14 11 (by decide), j6]; exact d8
      · rw [r3, t_on (by omega)] at ha'
        rw [w (14 + 5) (by decide), w (14 + 6) (by decide), w (14 + 7) (by decide), w (14 + 8) (by decide), w (14 + 9) (by decide), c19, c20, c21, c22, c23]
        by_cases q : a' = N
        · subst q
          rw [updI_s, updI_s, updI_s, updI_s, updI_s, r0, r1, r2, r3', r4]
          exact ⟨rfl, rfl, rfl, rfl, rfl⟩
        · rw [updI_n q, updI_n q, updI_n q, updI_n q, updI_n q, old0 a' (by omega), old a' (by omega) 1 (by decide), old a' (by omega) 2 (by decide), old a' (by omega) 3 (by decide), old a' (by omega) 4 (by decide)]
          exact d9 a' (by rw [hN, eN]; omega)
      · rw [w (14 + 10) (by decide), w (14 + 11) (by decide), cc (14 + 10) (by decide) (by decide), cc (14 + 11) (by decide) (by decide), rj _ (by omega) (by omega), rj _ (by omega) (by omega)]
        rw [j5] at hv
        exact d10 v hv
      · rw [j0] at h0
        rw [j1, j2]
        exact d11 h0
      · rw [j4]; exact d12
      · rw [r3, t_on (by omega)] at ha'
        by_cases q : a' = N
        · subst q
          rw [r0, r4]
          exact ⟨k, Or.inl rfl⟩
        · rw [old0 a' (by omega), old a' (by omega) 4 (by decide)]
          exact d13 a' (by rw [hN, eN]; omega)
      · rw [r3, t_nc (by omega)]
        show cw (t.1 163) w' N + (if t.1 163 (42 + 5 * N) = w' then 1 else 0) ≤ 9
        rw [cw_congr (f := s.1 163) (fun a' ha' => old0 a' ha'), r0]
        have := d14 w'
        rw [hNn] at this
        by_cases q : x1 = w'
        · rw [if_pos q, ← q]; omega
        · rw [if_neg q]; omega
      · rw [j5] at hv
        rw [rj _ (by omega) (by omega), j0, j1, j2]
        exact d15 v hv
      · rw [j1] at hi
        rw [rj _ (by omega) (by omega)]
        exact d16 i hi
      · rw [j2] at hi
        rw [rj _ (by omega) (by omega)]
        exact d17 i hi
    · exact absurd ok no
  · rcases ref_answer g (x1 := x1) (x2 := x2) (x3 := x3) (x4 := x4) hN h40 with ⟨ok, -⟩ | ⟨-, e2⟩
    · exact absurd ok no
    · exact ⟨_, _, _, _, e1, e2, rfl, g⟩
end ANS
end
section
/-! strike, only, seed, verdict: both sides alike. -/
section MUT2
variable {s : wS}
/-- the COURT's part is left as it was -/
theorem hc_go {f f' : Nat → Int32} {t : wS} (h : HC 14 f s) (x : HX f) (q : qC f) (e : ∀ k, 16 ≤ k → k ≤ 18 → t.1 k = s.1 k) (r : ∀ j, j ≤ 2 ∨ (10 ≤ j ∧ j ≤ 41) → f' j = f j) : HC 14 f' t ∧ (f' 0 = 0 → f' 1 = 0 ∧ f' 2 = 0) ∧ (∀ i : Nat, (i : Int) < 2 * (f' 1).toInt → 0 ≤ (f' (10 + i)).toInt ∧ (f' (10 + i)).toInt ≤ 99) ∧ (∀ i : Nat, (i : Int) < 2 * (f' 2).toInt → 0 ≤ (f' (26 + i)).toInt ∧ (f' (26 + i)).toInt ≤ 99) := by
  have q1 := q.2.1.2
  have q2 := q.2.2.1.2
  have r0 := r 0 (by omega)
  have r1 := r 1 (by omega)
  have r2 := r 2 (by omega)
  obtain ⟨⟨d0, d1, d2⟩, d3, d4⟩ := h
  obtain ⟨x0, -, -, -, -, x5, x6⟩ := x
  have e2 := e (14 + 2) (by decide) (by decide)
  have e3 := e (14 + 3) (by decide) (by decide)
  have e4 := e (14 + 4) (by decide) (by decide)
  refine ⟨⟨⟨?_, ?_, ?_⟩, fun i hi => ?_, fun i hi => ?_⟩, fun h0 => ?_, fun i hi => ?_, fun i hi => ?_⟩
  · rw [e2, r0]; exact d0
  · rw [e2, r1]; exact d1
  · rw [e2, r2]; exact d2
  · rw [r1] at hi
    rw [e3, e4, r _ (by omega), r _ (by omega)]
    exact d3 i hi
  · rw [r2] at hi
    rw [e3, e4, r _ (by omega), r _ (by omega)]
    exact d4 i hi
  · rw [r0] at h0
    rw [r1, r2]
    exact x0 h0
  · rw [r1] at hi
    rw [r _ (by omega)]
    exact x5 i hi
  · rw [r2] at hi
    rw [r _ (by omega)]
    exact x6 i hi
/-- the ANSWERS' part is left as it was -/
theorem ha_go {f f' : Nat → Int32} {t : wS} (h : HA 14 f s) (x : HX f) (q : qC f) (e6 : t.1 14 6 = s.1 14 6) (e : ∀ k, 19 ≤ k → k ≤ 23 → t.1 k = s.1 k) (r3 : f' 3 = f 3) (r : ∀ j, 42 ≤ j → j ≤ 241 → f' j = f j) : t.1 14 6 = f' 3 ∧ (∀ a : Nat, (a : Int) < (f' 3).toInt → t.1 (14 + 5) a = f' (42 + 5 * a) ∧ t.1 (14 + 6) a = f' (42 + 5 * a + 1) ∧ t.1 (14 + 7) a = f' (42 + 5 * a + 2) ∧ t.1 (14 + 8) a = f' (42 + 5 * a + 3) ∧ t.1 (14 + 9) a = f' (42 + 5 * a + 4)) ∧ (∀ a : Nat, (a : Int) < (f' 3).toInt → (0 ≤ (f' (42 + 5 * a)).toInt ∧ (f' (42 + 5 * a)).toInt ≤ 5) ∧ (f' (42 + 5 * a + 4) = 0 ∨ f' (42 + 5 * a + 4) = 1)) ∧ (∀ w : Int32, cw f' w (f' 3).toNatClampNeg ≤ 9) := by
  have q3 := q.2.2.2.2.1
  obtain ⟨⟨h6, -⟩, hA, -⟩ := h
  obtain ⟨-, -, xA, xw, -⟩ := x
  have n3 := t_cln q3.1
  refine ⟨by rw [e6, r3]; exact h6, fun a ha => ?_, fun a ha => ?_, fun w => ?_⟩
  · rw [r3] at ha
    rw [e (14 + 5) (by decide) (by decide), e (14 + 6) (by decide) (by decide), e (14 + 7) (by decide) (by decide), e (14 + 8) (by decide) (by decide), e (14 + 9) (by decide) (by decide), r _ (by omega) (by omega), r _ (by omega) (by omega), r _ (by omega) (by omega), r _ (by omega) (by omega), r _ (by omega) (by omega)]
    exact hA a ha
  · rw [r3] at ha
    rw [r _ (by omega) (by omega), r _ (by omega) (by omega)]
    exact xA a ha
  · rw [r3, cw_congr (f := f) (fun a ha => r _ (by omega) (by omega))]
    exact xw w
/-- the VERDICTS' part is left as it was -/
theorem hv_go {f f' : Nat → Int32} {t : wS} (h : HA 14 f s) (x : HX f) (q : qC f) (e10 : t.1 14 10 = s.1 14 10) (e : ∀ k, 24 ≤ k → k ≤ 25 → t.1 k = s.1 k) (r5 : f' 5 = f 5) (r : ∀ j, 242 ≤ j → j ≤ 261 → f' j = f j) (rc : ∀ j, j ≤ 2 → f' j = f j) : t.1 14 10 = f' 5 ∧ (∀ v : Nat, (v : Int) < (f' 5).toInt → t.1 (14 + 10) v = f' (242 + 2 * v) ∧ t.1 (14 + 11) v = f' (242 + 2 * v + 1)) ∧ (∀ v : Nat, (v : Int) < (f' 5).toInt → 0 ≤ (f' (242 + 2 * v)).toInt ∧ (f' (242 + 2 * v)).toInt < (f' 0).toInt * (f' 1).toInt * (f' 2).toInt) := by
  have q5 := q.2.2.2.2.2.1
  obtain ⟨⟨-, -, h10, -⟩, -, hV⟩ := h
  obtain ⟨-, -, -, -, xv, -⟩ := x
  refine ⟨by rw [e10, r5]; exact h10, fun a ha => ?_, fun a ha => ?_⟩
  · rw [r5] at ha
    rw [e (14 + 10) (by decide) (by decide), e (14 + 11) (by decide) (by decide), r _ (by omega) (by omega), r _ (by omega) (by omega)]
    exact hV a ha
  · rw [r5] at ha
    rw [r _ (by omega) (by omega), rc 0 (by decide), rc 1 (by decide), rc 2 (by decide)]
    exact xv a ha
theorem op_strike {x1 x2 : Int32} (g : JA s) (hx2 : x2 = 0 ∨ x2 = 1) : ∃ v s1 v2 s2, wX10_strike x1 x2 s = some (v, s1) ∧ wX11_strike x1 x2 s1 = some (v2, s2) ∧ v = v2 ∧ JA s2 := by
  have c3 := g.c.2.2.2.2.1
  rcases hasAns_E g x1 with ⟨a, hx, ha, h1, h2⟩ | ⟨h, h1, h2⟩
  · have ea := (ans_E g ha hx).2.2.2.2
    have zf := (g.h.2.2.2.2.1 a ha).2
    have xn : x1.toNatClampNeg = a := by unfold Int32.toNatClampNeg; omega
    by_cases c : s.1 163 (42 + 5 * a + 4) = x2
    · refine ⟨0, s, 0, s, ?_, ?_, rfl, g⟩
      · unfold wX10_strike
        rw [h1, t_sbe, qi1, ea, t_sbe, if_pos c]
      · unfold wX11_strike wX11_strike_j23
        rw [h2, t_sbe, qi1, answerOf_E (a := a) (w := 4) (by omega) hx (by decide) rfl, t_sbe, c]
        rcases hx2 with r | r <;> rw [r] <;> rfl
    · have e1 : wX10_strike x1 x2 s = some (1, wupI s 23 a x2) := by
        unfold wX10_strike wX2_setStruck
        rw [h1, t_sbe, qi1, ea, t_sbe, if_neg c, isOutside_E, if_pos ⟨by omega, by rw [show (40 : Int32).toInt = 40 from rfl]; omega⟩, t_sbe, qi0, wstZ_E (by omega) (by omega), t_sbe, t_sbe, xn]
        rcases hx2 with r | r <;> rw [r] <;> rfl
      have i1 : INV (wupI s 23 a x2) := by
        obtain ⟨r, er, p1⟩ := wX10_strike_T (x1 := x1) (x2 := x2) (s := s)
        rw [e1] at er
        obtain rfl := Option.some.inj er
        exact INV_C p1 g.inv (by rw [p1 0 6 rfl]; exact g.inv.1) rfl (fun _ => rfl) ⟨rfl, rfl, rfl, rfl⟩ (fun _ => ⟨rfl, rfl, rfl, rfl, rfl, rfl⟩) rfl rfl
      have u163 : (wupI s 23 a x2).1 163 = s.1 163 := wupI_n (by decide)
      have h2' : wX11_isAnswer x1 (wupI s 23 a x2) = some 1 := by
        unfold wX11_isAnswer at *
        rw [u163]
        exact h2
      have e42 : (42 : Int32).toInt = 42 := rfl
      have e5 : (5 : Int32).toInt = 5 := rfl
      have e4 : (4 : Int32).toInt = 4 := rfl
      have q1 : (5 * x1).toInt = 5 * a := by rw [t_mul (by rw [e5]; omega) (by rw [e5]; omega), e5, hx]
      have q2 : (42 + 5 * x1).toInt = 42 + 5 * a := by rw [t_add (by omega) (by omega), q1, e42]
      have q3 : (42 + 5 * x1 + 4).toInt = 42 + 5 * a + 4 := by rw [t_add (by omega) (by omega), q2, e4]
      have q3n : (42 + 5 * x1 + 4).toNatClampNeg = 42 + 5 * a + 4 := by unfold Int32.toNatClampNeg; omega
      have e2 : wX11_strike x1 x2 (wupI s 23 a x2) = some (1, wupI (wupI s 23 a x2) 163 (42 + 5 * a + 4) x2) := by
        unfold wX11_strike wX11_strike_j23 wX11_strike_j50
        rw [h2', t_sbe, qi1, answerOf_E (a := a) (w := 4) (by omega) hx (by decide) rfl, t_sbe, u163]
        rcases zf with z | z
        · rw [z, if_neg (by decide), if_neg (by rw [← z]; exact c)]
          rcases hx2 with r | r
          · exact absurd (z.trans r.symm) c
          · rw [r, if_neg (by decide), wst_E (by omega) (by omega), t_sbe, q3n]
        · rw [z, if_pos rfl, if_neg (by rw [← z]; exact c)]
          rcases hx2 with r | r
          · rw [r, if_pos rfl, wst_E (by omega) (by omega), t_sbe, q3n]
          · exact absurd (z.trans r.symm) c
      have ri : RI (wupI (wupI s 23 a x2) 163 (42 + 5 * a + 4) x2) := by
        obtain ⟨r, er, p2, -⟩ := wX11_strike_T (x1 := x1) (x2 := x2) (s := wupI s 23 a x2) i1.2.1
        rw [e2] at er
        obtain rfl := Option.some.inj er
        exact p2
      refine ⟨_, _, _, _, e1, e2, rfl, JA_hear g ((wA_I (bHe_c (by omega))).trans (wA_I (by unfold bHe; rfl))) ri ?_⟩
      have w : ∀ k, k ≠ 163 → k ≠ 23 → (wupI (wupI s 23 a x2) 163 (42 + 5 * a + 4) x2).1 k = s.1 k := fun k k1 k2 => by rw [wupI_n k1, wupI_n k2]
      have w23 : (wupI (wupI s 23 a x2) 163 (42 + 5 * a + 4) x2).1 23 = upd (s.1 23) a x2 := by rw [wupI_n (by decide), wupI_k]
      have f : (wupI (wupI s 23 a x2) 163 (42 + 5 * a + 4) x2).1 163 = upd (s.1 163) (42 + 5 * a + 4) x2 := by rw [wupI_k, u163]
      rw [f]
      have ff : ∀ j, j ≠ 42 + 5 * a + 4 → upd (s.1 163) (42 + 5 * a + 4) x2 j = s.1 163 j := fun j hj => updI_n hj
      have fs : upd (s.1 163) (42 + 5 * a + 4) x2 (42 + 5 * a + 4) = x2 := updI_s
      have r3 := ff 3 (by omega)
      have r4 := ff 4 (by omega)
      have r6 := ff 6 (by omega)
      generalize wupI (wupI s 23 a x2) 163 (42 + 5 * a + 4) x2 = t at *
      generalize upd (s.1 163) (42 + 5 * a + 4) x2 = f' at *
      obtain ⟨C, x0, x5, x6⟩ := hc_go (f' := f') (t := t) g.h.1 g.h.2.2 g.c (fun k k1 k2 => w k (by omega) (by omega)) (fun j hj => ff j (by omega))
      obtain ⟨v10, V, xv⟩ := hv_go (f' := f') (t := t) g.h.2.1 g.h.2.2 g.c (by rw [w 14 (by decide) (by decide)]) (fun k k1 k2 => w k (by omega) (by omega)) (ff 5 (by omega)) (fun j h1 h2 => ff j (by omega)) (fun j h1 => ff j (by omega))
      obtain ⟨⟨d6, d7, -, d11⟩, hA, -⟩ := g.h.2.1
      obtain ⟨-, x4, xA, xw, -⟩ := g.h.2.2
      refine ⟨C, ⟨⟨?_, ?_, v10, ?_⟩, fun b hb => ?_, V⟩, x0, ?_, fun b hb => ?_, fun b => ?_, xv, x5, x6⟩
      · rw [w 14 (by decide) (by decide), r3]; exact d6
      · rw [w 14 (by decide) (by decide), r4]; exact d7
      · rw [w 14 (by decide) (by decide), r6]; exact d11
      · rw [r3] at hb
        rw [w (14 + 5) (by decide) (by decide), w (14 + 6) (by decide) (by decide), w (14 + 7) (by decide) (by decide), w (14 + 8) (by decide) (by decide), w23, ff (42 + 5 * b) (by omega), ff (42 + 5 * b + 1) (by omega), ff (42 + 5 * b + 2) (by omega), ff (42 + 5 * b + 3) (by omega)]
        obtain ⟨b1, b2, b3, b4, b5⟩ := hA b hb
        refine ⟨b1, b2, b3, b4, ?_⟩
        by_cases k : b = a
        · rw [k, fs, updI_s]
        · rw [updI_n k, ff _ (by omega)]; exact b5
      · rw [r4]; exact x4
      · rw [r3] at hb
        rw [ff (42 + 5 * b) (by omega)]
        refine ⟨(xA b hb).1, ?_⟩
        by_cases k : b = a
        · rw [k, fs]; exact hx2
        · rw [ff _ (by omega)]; exact (xA b hb).2
      · rw [r3, cw_congr (f := s.1 163) (fun a' ha' => ff _ (by omega))]
        exact xw b
  · refine ⟨0, s, 0, s, ?_, ?_, rfl, g⟩
    · unfold wX10_strike
      rw [h1, t_sbe, qi0]
    · unfold wX11_strike
      rw [h2, t_sbe, qi0]
theorem op_only {x1 : Int32} (g : JA s) : ∃ v s1 v2 s2, wX10_only x1 s = some (v, s1) ∧ wX11_only x1 s1 = some (v2, s2) ∧ v = v2 ∧ JA s2 := by
  have hin : ∀ u : wS, wX11_in (x1.toInt64) (-1) 40 u = some (if (-1) ≤ x1.toInt ∧ x1.toInt ≤ 40 then 1 else 0) := fun u => in_I (s := u) (lo := -1) (hi := 40)
  by_cases c : (-1) ≤ x1.toInt ∧ x1.toInt ≤ 40
  · have e1 : wX10_only x1 s = some (s.1 14 7, wupI s 14 7 x1) := by
      unfold wX10_only
      rw [if_neg (fun q => by have := t_lt q; rw [show (-1 : Int32).toInt = -1 from rfl] at this; omega), if_neg (fun q => by have := t_lt q; rw [show (40 : Int32).toInt = 40 from rfl] at this; omega)]
      rfl
    have i1 : INV (wupI s 14 7 x1) := by
      obtain ⟨r, er, p1⟩ := wX10_only_T (x1 := x1) (s := s)
      rw [e1] at er
      obtain rfl := Option.some.inj er
      exact INV_C p1 g.inv (by rw [p1 0 6 rfl]; exact g.inv.1) rfl (fun _ => rfl) ⟨rfl, rfl, rfl, rfl⟩ (fun _ => ⟨rfl, rfl, rfl, rfl, rfl, rfl⟩) rfl rfl
    have u163 : (wupI s 14 7 x1).1 163 = s.1 163 := wupI_n (by decide)
    have e2 : wX11_only x1 (wupI s 14 7 x1) = some (s.1 163 4, wupI (wupI s 14 7 x1) 163 4 x1) := by
      unfold wX11_only
      rw [hin, if_pos c, t_sbe, qi1, wst_E (by decide) (by decide), t_sbe, u163]
      rfl
    have ri : RI (wupI (wupI s 14 7 x1) 163 4 x1) := by
      obtain ⟨r, er, p2, -⟩ := wX11_only_T (x1 := x1) (s := wupI s 14 7 x1) i1.2.1
      rw [e2] at er
      obtain rfl := Option.some.inj er
      exact p2
    obtain ⟨⟨d6, d7, d10, d11⟩, -⟩ := g.h.2.1
    refine ⟨_, _, _, _, e1, e2, d7, JA_hear g ((wA_I (bHe_c (by omega))).trans (wA_I (by unfold bHe; rfl))) ri ?_⟩
    have w : ∀ k, k ≠ 163 → k ≠ 14 → (wupI (wupI s 14 7 x1) 163 4 x1).1 k = s.1 k := fun k k1 k2 => by rw [wupI_n k1, wupI_n k2]
    have w14 : (wupI (wupI s 14 7 x1) 163 4 x1).1 14 = upd (s.1 14) 7 x1 := by rw [wupI_n (by decide), wupI_k]
    have f : (wupI (wupI s 14 7 x1) 163 4 x1).1 163 = upd (s.1 163) 4 x1 := by rw [wupI_k, u163]
    rw [f]
    have ff : ∀ j, j ≠ 4 → upd (s.1 163) 4 x1 j = s.1 163 j := fun j hj => updI_n hj
    have fs : upd (s.1 163) 4 x1 4 = x1 := updI_s
    have r6 := ff 6 (by omega)
    generalize wupI (wupI s 14 7 x1) 163 4 x1 = t at *
    generalize upd (s.1 163) 4 x1 = f' at *
    obtain ⟨C, x0, x5, x6⟩ := hc_go (f' := f') (t := t) g.h.1 g.h.2.2 g.c (fun k k1 k2 => w k (by omega) (by omega)) (fun j hj => ff j (by omega))
    obtain ⟨v10, V, xv⟩ := hv_go (f' := f') (t := t) g.h.2.1 g.h.2.2 g.c (by rw [w14]; exact updI_n (by decide)) (fun k k1 k2 => w k (by omega) (by omega)) (ff 5 (by omega)) (fun j h1 h2 => ff j (by omega)) (fun j h1 => ff j (by omega))
    obtain ⟨v6, A, xA, xw⟩ := ha_go (f' := f') (t := t) g.h.2.1 g.h.2.2 g.c (by rw [w14]; exact updI_n (by decide)) (fun k k1 k2 => w k (by omega) (by omega)) (ff 3 (by omega)) (fun j h1 h2 => ff j (by omega))
    refine ⟨C, ⟨⟨v6, ?_, v10, ?_⟩, A, V⟩, x0, ?_, xA, xw, xv, x5, x6⟩
    · rw [w14, updI_s, fs]
    · rw [w14, r6]; exact (updI_n (by decide)).trans d11
    · rw [fs]; exact c
  · refine ⟨(Int8.ofInt (-2)).toInt32, s, (Int8.ofInt (-2)).toInt32, s, ?_, ?_, rfl, g⟩
    · unfold wX10_only
      by_cases d : x1 < -1
      · rw [if_pos d]
      · have := t_ge d
        rw [show (-1 : Int32).toInt = -1 from rfl] at this
        rw [if_neg d, if_pos (Int32.lt_iff_toInt_lt.2 (by rw [show (40 : Int32).toInt = 40 from rfl]; omega))]
    · unfold wX11_only
      rw [hin, if_neg c, t_sbe, qi0]
theorem op_seed {x1 : Int32} (g : JA s) : ∃ v s1 v2 s2, wX10_seed x1 s = some (v, s1) ∧ wX11_seed x1 s1 = some (v2, s2) ∧ v = v2 ∧ JA s2 := by
  by_cases c : x1 < 0
  · refine ⟨-1, s, -1, s, ?_, ?_, rfl, g⟩
    · unfold wX10_seed; rw [if_pos c]
    · unfold wX11_seed; rw [if_pos c]
  · have e1 : wX10_seed x1 s = some (s.1 14 11, wupI s 14 11 x1) := by
      unfold wX10_seed
      rw [if_neg c]
      rfl
    have r1 : RI (wupI s 14 11 x1) := by
      obtain ⟨r, er, p1⟩ := wX10_seed_T (x1 := x1) (s := s)
      rw [e1] at er
      obtain rfl := Option.some.inj er
      exact (RI_taped p1.1 g.1 (fun _ => rfl) (fun _ => rfl) (fun _ => rfl) (fun _ => rfl) rfl (fun _ => rfl) (fun _ => rfl) (by rw [p1.1 152 1 rfl]; exact g.1.2.1)).1
    have u163 : (wupI s 14 11 x1).1 163 = s.1 163 := wupI_n (by decide)
    have e2 : wX11_seed x1 (wupI s 14 11 x1) = some (s.1 163 6, wupI (wupI s 14 11 x1) 163 6 x1) := by
      unfold wX11_seed
      rw [if_neg c, wst_E (by decide) (by decide), t_sbe, u163]
      rfl
    have ri : RI (wupI (wupI s 14 11 x1) 163 6 x1) := by
      obtain ⟨r, er, p2, -⟩ := wX11_seed_T (x1 := x1) (s := wupI s 14 11 x1) r1
      rw [e2] at er
      obtain rfl := Option.some.inj er
      exact p2
    obtain ⟨⟨d6, d7, d10, d11⟩, -⟩ := g.h.2.1
    refine ⟨_, _, _, _, e1, e2, d11, JA_hear g ((wA_I (bHe_c (by omega))).trans (wA_I (by unfold bHe; rfl))) ri ?_⟩
    have w : ∀ k, k ≠ 163 → k ≠ 14 → (wupI (wupI s 14 11 x1) 163 6 x1).1 k = s.1 k := fun k k1 k2 => by rw [wupI_n k1, wupI_n k2]
    have w14 : (wupI (wupI s 14 11 x1) 163 6 x1).1 14 = upd (s.1 14) 11 x1 := by rw [wupI_n (by decide), wupI_k]
    have f : (wupI (wupI s 14 11 x1) 163 6 x1).1 163 = upd (s.1 163) 6 x1 := by rw [wupI_k, u163]
    rw [f]
    have ff : ∀ j, j ≠ 6 → upd (s.1 163) 6 x1 j = s.1 163 j := fun j hj => updI_n hj
    have fs : upd (s.1 163) 6 x1 6 = x1 := updI_s
    have r4 := ff 4 (by omega)
    generalize wupI (wupI s 14 11 x1) 163 6 x1 = t at *
    generalize upd (s.1 163) 6 x1 = f' at *
    obtain ⟨C, x0, x5, x6⟩ := hc_go (f' := f') (t := t) g.h.1 g.h.2.2 g.c (fun k k1 k2 => w k (by omega) (by omega)) (fun j hj => ff j (by omega))
    obtain ⟨v10, V, xv⟩ := hv_go (f' := f') (t := t) g.h.2.1 g.h.2.2 g.c (by rw [w14]; exact updI_n (by decide)) (fun k k1 k2 => w k (by omega) (by omega)) (ff 5 (by omega)) (fun j h1 h2 => ff j (by omega)) (fun j h1 => ff j (by omega))
    obtain ⟨v6, A, xA, xw⟩ := ha_go (f' := f') (t := t) g.h.2.1 g.h.2.2 g.c (by rw [w14]; exact updI_n (by decide)) (fun k k1 k2 => w k (by omega) (by omega)) (ff 3 (by omega)) (fun j h1 h2 => ff j (by omega))
    refine ⟨C, ⟨⟨v6, ?_, v10, ?_⟩, A, V⟩, x0, ?_, xA, xw, xv, x5, x6⟩
    · rw [w14, r4]; exact (updI_n (by decide)).trans d7
    · rw [w14, updI_s, fs]
    · rw [r4]; exact g.h.2.2.2.1
end MUT2
end
section
/-! verdict, count: both sides alike. -/
section VERD
variable {s : wS}
/-- how many WORLDS -/
theorem wws_E (g : JA s) : ∃ w : Int32, wX0_worlds 15 s = some w ∧ (∀ u : wS, u.1 163 = s.1 163 → wX11_worlds u = some w) ∧ w.toInt = (s.1 163 0).toInt * (s.1 163 1).toInt * (s.1 163 2).toInt ∧ 0 ≤ w.toInt ∧ w.toInt ≤ 512 := by
  obtain ⟨c0, c1, c2, -⟩ := g.c
  have m := many_E g
  have q1 : 0 ≤ (s.1 163 0).toInt * (s.1 163 1).toInt ∧ (s.1 163 0).toInt * (s.1 163 1).toInt ≤ 64 := ⟨Int.mul_nonneg c0.1 c1.1, by
    have := Int.mul_le_mul c0.2 c1.2 c1.1 (by decide); exact this⟩
  have q2 : 0 ≤ (s.1 163 0).toInt * (s.1 163 1).toInt * (s.1 163 2).toInt ∧ (s.1 163 0).toInt * (s.1 163 1).toInt * (s.1 163 2).toInt ≤ 512 := ⟨Int.mul_nonneg q1.1 c2.1, by
    have := Int.mul_le_mul q1.2 c2.2 c2.1 (by decide); exact this⟩
  have p1 : (s.1 163 0 * s.1 163 1).toInt = (s.1 163 0).toInt * (s.1 163 1).toInt := t_mul (by omega) (by omega)
  have p2 : (s.1 163 0 * s.1 163 1 * s.1 163 2).toInt = (s.1 163 0).toInt * (s.1 163 1).toInt * (s.1 163 2).toInt := by rw [t_mul (by rw [p1]; omega) (by rw [p1]; omega), p1]
  refine ⟨s.1 163 0 * s.1 163 1 * s.1 163 2, ?_, fun u hu => by unfold wX11_worlds; rw [hu], p2, by omega, by omega⟩
  unfold wX0_worlds
  rw [wld_E (by decide) (by decide), t_sbe, wld_E (by decide) (by decide), t_sbe, wld_E (by decide) (by decide), t_sbe]
  have a0 : s.1 (15 + 1) (Int32.toNatClampNeg 0) = s.1 163 0 := m 0 (by decide)
  have a1 : s.1 (15 + 1) (Int32.toNatClampNeg 1) = s.1 163 1 := m 1 (by decide)
  have a2 : s.1 (15 + 1) (Int32.toNatClampNeg 2) = s.1 163 2 := m 2 (by decide)
  rw [a0, a1, a2]
theorem isWorld_E (g : JA s) {w : Int32} (hw : w.toInt = (s.1 163 0).toInt * (s.1 163 1).toInt * (s.1 163 2).toInt) {x : Int32} {u : wS} (hu : u.1 163 = s.1 163) : wX11_isWorld x u = some (if 0 ≤ x.toInt ∧ x.toInt < w.toInt then 1 else 0) := by
  obtain ⟨w', -, e, h, -⟩ := wws_E g
  obtain rfl : w' = w := Int32.toInt_inj.1 (h.trans hw.symm)
  unfold wX11_isWorld
  by_cases c : x < 0
  · have := t_lt c
    rw [t_i0] at this
    rw [if_pos c, if_neg (by omega)]
  · have a := t_ge c
    rw [t_i0] at a
    rw [if_neg c, e u hu, t_sbe]
    by_cases d : x < w'
    · have := t_lt d
      rw [if_pos d, if_pos (by omega)]
    · have := t_ge d
      rw [if_neg d, if_neg (by omega)]
/-- the verdicts forgotten -/
theorem ver_0 (g : JA s) : ∃ v s1 v2 s2, wX10_verdict (-1) s = some (v, s1) ∧ wX11_verdict (-1) s1 = some (v2, s2) ∧ v = v2 ∧ JA s2 := by
  have e1 : wX10_verdict (-1) s = some (0, wupI s 14 10 0) := by
    unfold wX10_verdict
    rw [if_pos rfl]
    rfl
  have i1 : INV (wupI s 14 10 0) := by
    obtain ⟨r, er, p1⟩ := wX10_verdict_T (x1 := -1) (s := s)
    rw [e1] at er
    obtain rfl := Option.some.inj er
    exact INV_C p1 g.inv (by rw [p1 0 6 rfl]; exact g.inv.1) rfl (fun _ => rfl) ⟨rfl, rfl, rfl, rfl⟩ (fun _ => ⟨rfl, rfl, rfl, rfl, rfl, rfl⟩) rfl rfl
  have u163 : (wupI s 14 10 0).1 163 = s.1 163 := wupI_n (by decide)
  have e2 : wX11_verdict (-1) (wupI s 14 10 0) = some (0, wupI (wupI s 14 10 0) 163 5 0) := by
    unfold wX11_verdict
    rw [if_pos rfl, wst_E (by decide) (by decide), t_sbe]
    rfl
  have ri : RI (wupI (wupI s 14 10 0) 163 5 0) := by
    obtain ⟨r, er, p2, -⟩ := wX11_verdict_T (x1 := -1) (s := wupI s 14 10 0) i1.2.1
    rw [e2] at er
    obtain rfl := Option.some.inj er
    exact p2
  obtain ⟨⟨d6, d7, d10, d11⟩, -⟩ := g.h.2.1
  refine ⟨_, _, _, _, e1, e2, rfl, JA_hear g ((wA_I (bHe_c (by omega))).trans (wA_I (by unfold bHe; rfl))) ri ?_⟩
  have w : ∀ k, k ≠ 163 → k ≠ 14 → (wupI (wupI s 14 10 0) 163 5 0).1 k = s.1 k := fun k k1 k2 => by rw [wupI_n k1, wupI_n k2]
  have w14 : (wupI (wupI s 14 10 0) 163 5 0).1 14 = upd (s.1 14) 10 0 := by rw [wupI_n (by decide), wupI_k]
  have f : (wupI (wupI s 14 10 0) 163 5 0).1 163 = upd (s.1 163) 5 0 := by rw [wupI_k, u163]
  rw [f]
  have ff : ∀ j, j ≠ 5 → upd (s.1 163) 5 0 j = s.1 163 j := fun j hj => updI_n hj
  have fs : upd (s.1 163) 5 0 5 = 0 := updI_s
  have r4 := ff 4 (by omega)
  have r6 := ff 6 (by omega)
  generalize wupI (wupI s 14 10 0) 163 5 0 = t at *
  generalize upd (s.1 163) 5 0 = f' at *
  obtain ⟨C, x0, x5, x6⟩ := hc_go (f' := f') (t := t) g.h.1 g.h.2.2 g.c (fun k k1 k2 => w k (by omega) (by omega)) (fun j hj => ff j (by omega))
  obtain ⟨v6, A, xA, xw⟩ := ha_go (f' := f') (t := t) g.h.2.1 g.h.2.2 g.c (by rw [w14]; exact updI_n (by decide)) (fun k k1 k2 => w k (by omega) (by omega)) (ff 3 (by omega)) (fun j h1 h2 => ff j (by omega))
  refine ⟨C, ⟨⟨v6, ?_, ?_, ?_⟩, A, fun v hv => ?_⟩, x0, ?_, xA, xw, fun v hv => ?_, x5, x6⟩
  · rw [w14, r4]; exact (updI_n (by decide)).trans d7
  · rw [w14, updI_s, fs]
  · rw [w14, r6]; exact (updI_n (by decide)).trans d11
  · rw [fs, t_i0] at hv; exact absurd hv (by omega)
  · rw [r4]; exact g.h.2.2.2.1
  · rw [fs, t_i0] at hv; exact absurd hv (by omega)
/-- one verdict more -/
noncomputable abbrev ve1 (s : wS) (V : Nat) (x N : Int32) : wS := wupI (wupI (wupI s 24 V x) 25 V N) 14 10 (Int32.ofNat (V + 1))
noncomputable abbrev ve2 (s : wS) (V : Nat) (x N : Int32) : wS := wupI (wupI (wupI s 163 (242 + 2 * V) x) 163 (242 + 2 * V + 1) N) 163 5 (Int32.ofNat (V + 1))
theorem ver_1 (g : JA s) {x1 : Int32} {V : Nat} (hV : s.1 163 5 = Int32.ofNat V) (h10 : V < 10) (h0 : 0 ≤ x1.toInt) (h1 : x1.toInt < (s.1 163 0).toInt * (s.1 163 1).toInt * (s.1 163 2).toInt) (hn : ¬ x1 = -1) : ∃ v s1 v2 s2, wX10_verdict x1 s = some (v, s1) ∧ wX11_verdict x1 s1 = some (v2, s2) ∧ v = v2 ∧ JA s2 := by
  obtain ⟨W, w1, w2, w3, w4, w5⟩ := wws_E g
  obtain ⟨⟨d6, d7, d10, d11⟩, -, hVV⟩ := g.h.2.1
  have eV : (Int32.ofNat V).toInt = V := t_on (by omega)
  have enV : (Int32.ofNat V).toNatClampNeg = V := t_nc (by omega)
  have h14 : s.1 14 10 = Int32.ofNat V := d10.trans hV
  have e1V : Int32.ofNat V + 1 = Int32.ofNat (V + 1) := Int32.toInt_inj.1 (by rw [t_p1 (by omega) (by omega), eV, t_on (by omega)]; rfl)
  have e10 : (10 : Int32).toInt = 10 := rfl
  have e1 : wX10_verdict x1 s = some (Int32.ofNat (V + 1), ve1 s V x1 (s.1 163 3)) := by
    unfold wX10_verdict wX2_judge
    rw [if_neg hn, w1, t_sbe, isOutside_E, if_pos ⟨h0, by omega⟩, t_sbe, qi0, h14, if_pos (Int32.lt_iff_toInt_lt.2 (by omega)), isOutside_E, if_pos ⟨by omega, by omega⟩, t_sbe, qi0, wst_E (by omega) (by omega), t_sbe, enV, wupI_n (by decide), h14, wst_E (by omega) (by omega), t_sbe, enV, d6]
    show some ((wupI (wupI (wupI s (14 + 10) V x1) (14 + 11) V (s.1 163 3)) 14 10 ((wupI (wupI s (14 + 10) V x1) (14 + 11) V (s.1 163 3)).1 14 10 + 1)).1 14 10, wupI (wupI (wupI s (14 + 10) V x1) (14 + 11) V (s.1 163 3)) 14 10 ((wupI (wupI s (14 + 10) V x1) (14 + 11) V (s.1 163 3)).1 14 10 + 1)) = _
    rw [wup_same, wupI_n (by decide), wupI_n (by decide), h14, e1V]
  have i1 : INV (ve1 s V x1 (s.1 163 3)) := by
    obtain ⟨r, er, p1⟩ := wX10_verdict_T (x1 := x1) (s := s)
    rw [e1] at er
    obtain rfl := Option.some.inj er
    exact INV_C p1 g.inv (by rw [p1 0 6 rfl]; exact g.inv.1) rfl (fun _ => rfl) ⟨rfl, rfl, rfl, rfl⟩ (fun _ => ⟨rfl, rfl, rfl, rfl, rfl, rfl⟩) rfl rfl
  have u163 : (ve1 s V x1 (s.1 163 3)).1 163 = s.1 163 := by rw [wupI_n (by decide), wupI_n (by decide), wupI_n (by decide)]
  have e2 : wX11_verdict x1 (ve1 s V x1 (s.1 163 3)) = some (Int32.ofNat (V + 1), ve2 (ve1 s V x1 (s.1 163 3)) V x1 (s.1 163 3)) := by
    unfold wX11_verdict
    have hWw : wX11_isWorld x1 (ve1 s V x1 (s.1 163 3)) = some 1 := by
      rw [isWorld_E g w3 u163, if_pos ⟨h0, by omega⟩]
    rw [if_neg hn, hWw, t_sbe, qi1, u163, hV, if_neg (fun q => by have := congrArg Int32.toInt q; omega)]
    have e2' : (2 : Int32).toInt = 2 := rfl
    have e242 : (242 : Int32).toInt = 242 := rfl
    have e1' : (1 : Int32).toInt = 1 := rfl
    have q1 : (2 * Int32.ofNat V).toInt = 2 * V := by rw [t_mul (by rw [e2', eV]; omega) (by rw [e2', eV]; omega), e2', eV]
    have q2 : (242 + 2 * Int32.ofNat V).toInt = 242 + 2 * V := by rw [t_add (by omega) (by omega), q1, e242]
    have q3 : (242 + 2 * Int32.ofNat V + 1).toInt = 242 + 2 * V + 1 := by rw [t_add (by omega) (by omega), q2, e1']
    have q2n : (242 + 2 * Int32.ofNat V).toNatClampNeg = 242 + 2 * V := by unfold Int32.toNatClampNeg; omega
    have q3n : (242 + 2 * Int32.ofNat V + 1).toNatClampNeg = 242 + 2 * V + 1 := by unfold Int32.toNatClampNeg; omega
    rw [wst_E (by omega) (by omega), t_sbe, q2n, wup_nb (show 5 ≠ 242 + 2 * V by omega), wup_nb (show 3 ≠ 242 + 2 * V by omega), u163, hV, wst_E (by omega) (by omega), t_sbe, q3n, wup_nb (show 5 ≠ 242 + 2 * V + 1 by omega), wup_nb (show 5 ≠ 242 + 2 * V by omega), u163, hV, e1V, wst_E (by decide) (by decide), t_sbe, show Int32.toNatClampNeg 5 = 5 from rfl, wup_same]
  have ri : RI (ve2 (ve1 s V x1 (s.1 163 3)) V x1 (s.1 163 3)) := by
    obtain ⟨r, er, p2, -⟩ := wX11_verdict_T (x1 := x1) (s := ve1 s V x1 (s.1 163 3)) i1.2.1
    rw [e2] at er
    obtain rfl := Option.some.inj er
    exact p2
  have h163 : ∀ b, bHe 163 b = true := fun b => by unfold bHe; rfl
  refine ⟨_, _, _, _, e1, e2, rfl, JA_hear g ((((wA_I (bHe_c (by omega))).trans (wA_I (bHe_c (by omega)))).trans (wA_I (bHe_c (by omega)))).trans (((wA_I (h163 _)).trans (wA_I (h163 _))).trans (wA_I (h163 _)))) ri ?_⟩
  have w : ∀ k, k ≠ 163 → k ≠ 14 → k ≠ 24 → k ≠ 25 → (ve2 (ve1 s V x1 (s.1 163 3)) V x1 (s.1 163 3)).1 k = s.1 k := fun k k1 k2 k3 k4 => by rw [wupI_n k1, wupI_n k1, wupI_n k1, wupI_n k2, wupI_n k4, wupI_n k3]
  have w14 : (ve2 (ve1 s V x1 (s.1 163 3)) V x1 (s.1 163 3)).1 14 = upd (s.1 14) 10 (Int32.ofNat (V + 1)) := by rw [wupI_n (by decide), wupI_n (by decide), wupI_n (by decide), wupI_k, wupI_n (by decide), wupI_n (by decide)]
  have w24 : (ve2 (ve1 s V x1 (s.1 163 3)) V x1 (s.1 163 3)).1 24 = upd (s.1 24) V x1 := by rw [wupI_n (by decide), wupI_n (by decide), wupI_n (by decide), wupI_n (by decide), wupI_n (by decide), wupI_k]
  have w25 : (ve2 (ve1 s V x1 (s.1 163 3)) V x1 (s.1 163 3)).1 25 = upd (s.1 25) V (s.1 163 3) := by rw [wupI_n (by decide), wupI_n (by decide), wupI_n (by decide), wupI_n (by decide), wupI_k, wupI_n (by decide)]
  have f : (ve2 (ve1 s V x1 (s.1 163 3)) V x1 (s.1 163 3)).1 163 = upd (upd (upd (s.1 163) (242 + 2 * V) x1) (242 + 2 * V + 1) (s.1 163 3)) 5 (Int32.ofNat (V + 1)) := by rw [wupI_k, wupI_k, wupI_k, u163]
  rw [f]
  have ff : ∀ j, j ≠ 5 → j ≠ 242 + 2 * V → j ≠ 242 + 2 * V + 1 → upd (upd (upd (s.1 163) (242 + 2 * V) x1) (242 + 2 * V + 1) (s.1 163 3)) 5 (Int32.ofNat (V + 1)) j = s.1 163 j := fun j h1 h2 h3 => by rw [updI_n h1, updI_n h3, updI_n h2]
  have f5 : upd (upd (upd (s.1 163) (242 + 2 * V) x1) (242 + 2 * V + 1) (s.1 163 3)) 5 (Int32.ofNat (V + 1)) 5 = Int32.ofNat (V + 1) := updI_s
  have fx : upd (upd (upd (s.1 163) (242 + 2 * V) x1) (242 + 2 * V + 1) (s.1 163 3)) 5 (Int32.ofNat (V + 1)) (242 + 2 * V) = x1 := by rw [updI_n (by omega), updI_n (by omega), updI_s]
  have fy : upd (upd (upd (s.1 163) (242 + 2 * V) x1) (242 + 2 * V + 1) (s.1 163 3)) 5 (Int32.ofNat (V + 1)) (242 + 2 * V + 1) = s.1 163 3 := by rw [updI_n (by omega), updI_s]
  have r4 := ff 4 (by omega) (by omega) (by omega)
  have r6 := ff 6 (by omega) (by omega) (by omega)
  have r0 := ff 0 (by omega) (by omega) (by omega)
  have r1 := ff 1 (by omega) (by omega) (by omega)
  have r2 := ff 2 (by omega) (by omega) (by omega)
  generalize ve2 (ve1 s V x1 (s.1 163 3)) V x1 (s.1 163 3) = t at *
  generalize upd (upd (upd (s.1 163) (242 + 2 * V) x1) (242 + 2 * V + 1) (s.1 163 3)) 5 (Int32.ofNat (V + 1)) = f' at *
  obtain ⟨C, x0, x5, x6⟩ := hc_go (f' := f') (t := t) g.h.1 g.h.2.2 g.c (fun k k1 k2 => w k (by omega) (by omega) (by omega) (by omega)) (fun j hj => ff j (by omega) (by omega) (by omega))
  obtain ⟨v6, A, xA, xw⟩ := ha_go (f' := f') (t := t) g.h.2.1 g.h.2.2 g.c (by rw [w14]; exact updI_n (by decide)) (fun k k1 k2 => w k (by omega) (by omega) (by omega) (by omega)) (ff 3 (by omega) (by omega) (by omega)) (fun j h1 h2 => ff j (by omega) (by omega) (by omega))
  have e5 : (s.1 163 5).toInt = V := by rw [hV, eV]
  refine ⟨C, ⟨⟨v6, ?_, ?_, ?_⟩, A, fun v hv => ?_⟩, x0, ?_, xA, xw, fun v hv => ?_, x5, x6⟩
  · rw [w14, r4]; exact (updI_n (by decide)).trans d7
  · rw [w14, updI_s, f5]
  · rw [w14, r6]; exact (updI_n (by decide)).trans d11
  · rw [f5, t_on (by omega)] at hv
    rw [show 14 + 10 = 24 from rfl, show 14 + 11 = 25 from rfl, w24, w25]
    by_cases k : v = V
    · rw [k, updI_s, updI_s, fx, fy]
      exact ⟨rfl, rfl⟩
    · rw [updI_n k, updI_n k, ff _ (by omega) (by omega) (by omega), ff _ (by omega) (by omega) (by omega)]
      exact hVV v (by omega)
  · rw [r4]; exact g.h.2.2.2.1
  · rw [f5, t_on (by omega)] at hv
    rw [r0, r1, r2]
    by_cases k : v = V
    · rw [k, fx]
      exact ⟨h0, h1⟩
    · rw [ff _ (by omega) (by omega) (by omega)]
      exact g.h.2.2.2.2.2.2.1 v (by omega)
theorem op_verdict {x1 : Int32} (g : JA s) : ∃ v s1 v2 s2, wX10_verdict x1 s = some (v, s1) ∧ wX11_verdict x1 s1 = some (v2, s2) ∧ v = v2 ∧ JA s2 := by
  by_cases n : x1 = -1
  · rw [n]; exact ver_0 g
  · obtain ⟨W, w1, w2, w3, w4, w5⟩ := wws_E g
    have q5 := g.c.2.2.2.2.2.1
    have d10 := g.h.2.1.1.2.2.1
    by_cases k : 0 ≤ x1.toInt ∧ x1.toInt < W.toInt
    · by_cases m : (s.1 163 5).toInt < 10
      · exact ver_1 g (V := (s.1 163 5).toNatClampNeg) (t_oc q5.1).symm (by have := t_cln q5.1; omega) k.1 (by omega) n
      · refine ⟨(Int8.ofInt (-2)).toInt32, s, (Int8.ofInt (-2)).toInt32, s, ?_, ?_, rfl, g⟩
        · unfold wX10_verdict
          rw [if_neg n, w1, t_sbe, isOutside_E, if_pos k, t_sbe, qi0, d10, if_neg (fun q => m (t_lt q))]
        · unfold wX11_verdict
          rw [if_neg n, isWorld_E g w3 rfl, if_pos k, t_sbe, qi1, if_pos (Int32.toInt_inj.1 (by rw [show (10 : Int32).toInt = 10 from rfl]; omega))]
    · refine ⟨(Int8.ofInt (-2)).toInt32, s, (Int8.ofInt (-2)).toInt32, s, ?_, ?_, rfl, g⟩
      · unfold wX10_verdict
        rw [if_neg n, w1, t_sbe, isOutside_E, if_neg k, t_sbe, qi1]
      · unfold wX11_verdict
        rw [if_neg n, isWorld_E g w3 rfl, if_neg k, t_sbe, qi0]
end VERD
end
section
/-! count: both sides alike; which ANSWERS are looked at. -/
section CNT
variable {s : wS}
/-- an ANSWER is looked at -/
noncomputable def lok (f : Nat → Int32) (a : Nat) : Prop := f (42 + 5 * a + 4) = 0 ∧ (f 4 = -1 ∨ (a : Int) < (f 4).toInt)
theorem first_v (g : JA s) : ∃ v, wX2_first 14 s = some v ∧ ∀ a : Nat, (a : Int) < (s.1 163 3).toInt → ((a : Int) < v.toInt ↔ (s.1 163 4 = -1 ∨ (a : Int) < (s.1 163 4).toInt)) := by
  obtain ⟨⟨d6, d7, -⟩, -⟩ := g.h.2.1
  unfold wX2_first
  rw [d6, d7]
  by_cases c : s.1 163 4 = -1
  · rw [if_pos c]
    exact ⟨_, rfl, fun a ha => ⟨fun _ => Or.inl c, fun _ => ha⟩⟩
  · rw [if_neg c]
    refine ⟨_, rfl, fun a ha => ?_⟩
    unfold wmin
    by_cases d : s.1 163 3 < s.1 163 4
    · have := t_lt d
      rw [if_pos d]
      exact ⟨fun _ => Or.inr (by omega), fun _ => ha⟩
    · rw [if_neg d]
      exact ⟨fun q => Or.inr q, fun q => q.resolve_left c⟩
theorem looked10_E (g : JA s) {v : Int32} (hv : ∀ a : Nat, (a : Int) < (s.1 163 3).toInt → ((a : Int) < v.toInt ↔ (s.1 163 4 = -1 ∨ (a : Int) < (s.1 163 4).toInt))) {a : Nat} {x : Int32} (ha : (a : Int) < (s.1 163 3).toInt) (hx : x.toInt = a) : (lok (s.1 163) a ∧ wX2_isLookedAt 14 x v s = some 1) ∨ (¬ lok (s.1 163) a ∧ wX2_isLookedAt 14 x v s = some 0) := by
  have ea := (ans_E g ha hx).2.2.2.2
  have zf := (g.h.2.2.2.2.1 a ha).2
  unfold wX2_isLookedAt lok
  have hb : wX2_hasAnswer 14 x s = some 1 := by
    rcases hasAns_E g x with ⟨_, _, _, h, _⟩ | ⟨h, _⟩
    · exact h
    · exact absurd ⟨by omega, by omega⟩ h
  by_cases c : x < v
  · have := t_lt c
    rw [if_pos c, hb, t_sbe, qi1, ea, t_sbe]
    rcases zf with z | z
    · rw [z, if_pos rfl]
      exact Or.inl ⟨⟨rfl, (hv a ha).1 (by omega)⟩, rfl⟩
    · rw [z, if_neg (by decide)]
      exact Or.inr ⟨fun q => absurd q.1 (by decide), rfl⟩
  · have := t_ge c
    rw [if_neg c]
    exact Or.inr ⟨fun q => absurd ((hv a ha).2 q.2) (by omega), rfl⟩
theorem looked11_E (g : JA s) {a : Nat} {x : Int32} (ha : (a : Int) < (s.1 163 3).toInt) (hx : x.toInt = a) : (lok (s.1 163) a ∧ wX11_isLookedAt x s = some 1) ∨ (¬ lok (s.1 163) a ∧ wX11_isLookedAt x s = some 0) := by
  have q3 := g.c.2.2.2.2.1
  have zf := (g.h.2.2.2.2.1 a ha).2
  unfold wX11_isLookedAt lok wX11_isLookedAt_j29
  rw [answerOf_E (a := a) (w := 4) (by omega) hx (by decide) rfl, t_sbe]
  rcases zf with z | z
  · rw [z, if_pos rfl]
    by_cases c : s.1 163 4 = -1
    · rw [if_pos c]
      exact Or.inl ⟨⟨rfl, Or.inl c⟩, rfl⟩
    · rw [if_neg c]
      by_cases d : x < s.1 163 4
      · have := t_lt d
        rw [if_pos d]
        exact Or.inl ⟨⟨rfl, Or.inr (by omega)⟩, rfl⟩
      · have := t_ge d
        rw [if_neg d]
        exact Or.inr ⟨fun q => by
          rcases q.2 with q | q
          · exact c q
          · omega, rfl⟩
  · rw [z, if_neg (by decide)]
    exact Or.inr ⟨fun q => absurd q.1 (by decide), rfl⟩
/-- how many struck, how many looked at -/
noncomputable def nst (f : Nat → Int32) : Nat → Int32
  | 0 => 0
  | n + 1 => nst f n + f (42 + 5 * n + 4)
noncomputable def nlk (f : Nat → Int32) : Nat → Int32
  | 0 => 0
  | n + 1 => nlk f n + (@ite Int32 (lok f n) (Classical.propDecidable _) 1 0)
theorem nlk_p {f : Nat → Int32} {n : Nat} (h : lok f n) : nlk f (n + 1) = nlk f n + 1 := by
  show nlk f n + (@ite Int32 (lok f n) (Classical.propDecidable _) 1 0) = _
  rw [if_pos h]
theorem nlk_n {f : Nat → Int32} {n : Nat} (h : ¬ lok f n) : nlk f (n + 1) = nlk f n := by
  show nlk f n + (@ite Int32 (lok f n) (Classical.propDecidable _) 1 0) = _
  rw [if_neg h, Int32.add_zero]
theorem loop_x {x3 : Int32} {i : Nat} (h3 : x3 = Int32.ofNat i) (hi : i ≤ 40) : x3.toInt = i ∧ x3 + 1 = Int32.ofNat (i + 1) := by
  have e3 : x3.toInt = i := by rw [h3, t_on (by omega)]
  exact ⟨e3, Int32.toInt_inj.1 (by rw [t_p1 (by omega) (by omega), t_on (by omega), e3]; rfl)⟩
theorem struck10_E (g : JA s) {N : Nat} (hN : s.1 163 3 = Int32.ofNat N) (h40 : N ≤ 40) : ∀ (n : Nat) {i : Nat} {x1 x2 : Int32}, x2 = Int32.ofNat i → i ≤ N → x1 = nst (s.1 163) i → N - i < n → wX2_struckOnes_h4 14 s n x1 x2 = some (nst (s.1 163) N) := by
  intro n
  induction n with
  | zero => intro i x2 x3 _ _ _ hm; exact absurd hm (by omega)
  | succ n ih =>
    intro i x1 x2 h3 hi h2 hm
    have h6 : s.1 14 6 = s.1 163 3 := g.h.2.1.1.1
    obtain ⟨e3, e1⟩ := loop_x h3 (by omega)
    have eN : (Int32.ofNat N).toInt = N := t_on (by omega)
    rw [wX2_struckOnes_h4, h6, hN]
    by_cases c : x2 < Int32.ofNat N
    · have hc := t_lt c
      rw [e3, eN] at hc
      have hh : (i : Int) < (s.1 163 3).toInt := by rw [hN, eN]; omega
      rw [if_pos c, (ans_E g hh e3).2.2.2.2, t_sbe]
      unfold wX2_struckOnes_j23
      rcases (g.h.2.2.2.2.1 i hh).2 with z | z
      · rw [z, if_pos rfl]
        refine ih e1 (by omega) ?_ (by omega)
        show x1 = nst (s.1 163) i + s.1 163 (42 + 5 * i + 4)
        rw [z, h2, Int32.add_zero]
      · rw [z, if_neg (by decide)]
        refine ih e1 (by omega) ?_ (by omega)
        show x1 + 1 = nst (s.1 163) i + s.1 163 (42 + 5 * i + 4)
        rw [z, h2]
    · have hc := t_ge c
      rw [e3, eN] at hc
      obtain rfl : i = N := by omega
      rw [if_neg c, h2]
theorem struck11_E {N : Nat} (hN : s.1 163 3 = Int32.ofNat N) (h40 : N ≤ 40) : ∀ (n : Nat) {i : Nat} {x1 x2 : Int32}, x2 = Int32.ofNat i → i ≤ N → x1 = nst (s.1 163) i → N - i < n → wX11_count_h77 s n x1 x2 = some (nst (s.1 163) N) := by
  intro n
  induction n with
  | zero => intro i x2 x3 _ _ _ hm; exact absurd hm (by omega)
  | succ n ih =>
    intro i x1 x2 h3 hi h2 hm
    obtain ⟨e3, e1⟩ := loop_x h3 (by omega)
    have eN : (Int32.ofNat N).toInt = N := t_on (by omega)
    rw [wX11_count_h77, hN]
    by_cases c : x2 < Int32.ofNat N
    · have hc := t_lt c
      rw [e3, eN] at hc
      rw [if_pos c, answerOf_E (a := i) (w := 4) (by omega) e3 (by decide) rfl, t_sbe]
      refine ih e1 (by omega) ?_ (by omega)
      rw [h2]
      rfl
    · have hc := t_ge c
      rw [e3, eN] at hc
      obtain rfl : i = N := by omega
      rw [if_neg c, h2]
theorem lookeds10_E (g : JA s) {N : Nat} (hN : s.1 163 3 = Int32.ofNat N) (h40 : N ≤ 40) : ∀ (n : Nat) {i : Nat} {x1 x2 : Int32}, x2 = Int32.ofNat i → i ≤ N → x1 = nlk (s.1 163) i → N - i < n → wX2_lookedAtOnes_h4 14 s n x1 x2 = some (nlk (s.1 163) N) := by
  intro n
  induction n with
  | zero => intro i x2 x3 _ _ _ hm; exact absurd hm (by omega)
  | succ n ih =>
    intro i x1 x2 h3 hi h2 hm
    have h6 : s.1 14 6 = s.1 163 3 := g.h.2.1.1.1
    obtain ⟨e3, e1⟩ := loop_x h3 (by omega)
    have eN : (Int32.ofNat N).toInt = N := t_on (by omega)
    rw [wX2_lookedAtOnes_h4, h6, hN]
    by_cases c : x2 < Int32.ofNat N
    · have hc := t_lt c
      rw [e3, eN] at hc
      have hh : (i : Int) < (s.1 163 3).toInt := by rw [hN, eN]; omega
      obtain ⟨v, ev, hv⟩ := first_v g
      rw [if_pos c, ev, t_sbe]
      unfold wX2_lookedAtOnes_j27
      rcases looked10_E g hv hh e3 with ⟨l, e⟩ | ⟨l, e⟩
      · rw [e, t_sbe, qi1]
        exact ih e1 (by omega) (by rw [nlk_p l, h2]) (by omega)
      · rw [e, t_sbe, qi0]
        exact ih e1 (by omega) (by rw [nlk_n l, h2]) (by omega)
    · have hc := t_ge c
      rw [e3, eN] at hc
      obtain rfl : i = N := by omega
      rw [if_neg c, h2]
theorem lookeds11_E (g : JA s) {N : Nat} (hN : s.1 163 3 = Int32.ofNat N) (h40 : N ≤ 40) : ∀ (n : Nat) {i : Nat} {x1 x2 : Int32}, x2 = Int32.ofNat i → i ≤ N → x1 = nlk (s.1 163) i → N - i < n → wX11_count_h106 s n x1 x2 = some (nlk (s.1 163) N) := by
  intro n
  induction n with
  | zero => intro i x2 x3 _ _ _ hm; exact absurd hm (by omega)
  | succ n ih =>
    intro i x1 x2 h3 hi h2 hm
    obtain ⟨e3, e1⟩ := loop_x h3 (by omega)
    have eN : (Int32.ofNat N).toInt = N := t_on (by omega)
    rw [wX11_count_h106, hN]
    by_cases c : x2 < Int32.ofNat N
    · have hc := t_lt c
      rw [e3, eN] at hc
      have hh : (i : Int) < (s.1 163 3).toInt := by rw [hN, eN]; omega
      rw [if_pos c]
      unfold wX11_count_j130
      rcases looked11_E g hh e3 with ⟨l, e⟩ | ⟨l, e⟩
      · rw [e, t_sbe, qi1]
        exact ih e1 (by omega) (by rw [nlk_p l, h2]) (by omega)
      · rw [e, t_sbe, qi0]
        exact ih e1 (by omega) (by rw [nlk_n l, h2, Int32.add_zero]) (by omega)
    · have hc := t_ge c
      rw [e3, eN] at hc
      obtain rfl : i = N := by omega
      rw [if_neg c, h2]
theorem op_count {x1 : Int32} (g : JA s) : ∃ v, wX10_count x1 s = some v ∧ wX11_count x1 s = some v := by
  obtain ⟨N, hN, h40, -⟩ := g.said
  obtain ⟨⟨d6, d7, d10, d11⟩, -⟩ := g.h.2.1
  have m := many_E g
  have wf : N - 0 < wFuel := by
    have e : wFuel = 1099511627776 := rfl
    omega
  unfold wX10_count wX11_count wX10_count_j56 wX11_count_j56 wX0_manyOf
  by_cases c0 : x1 = 0
  · rw [if_pos c0, if_pos c0, c0, at_E (n := 3) rfl (by decide) (by decide) (by decide), wld_E (by decide) (by decide)]
    exact ⟨_, rfl, congrArg some (m 0 (by decide)).symm⟩
  rw [if_neg c0, if_neg c0]
  by_cases c1 : x1 = 1
  · rw [if_pos c1, if_pos c1, c1, at_E (n := 3) rfl (by decide) (by decide) (by decide), wld_E (by decide) (by decide)]
    exact ⟨_, rfl, congrArg some (m 1 (by decide)).symm⟩
  rw [if_neg c1, if_neg c1]
  by_cases c2 : x1 = 2
  · rw [if_pos c2, if_pos c2, c2, at_E (n := 3) rfl (by decide) (by decide) (by decide), wld_E (by decide) (by decide)]
    exact ⟨_, rfl, congrArg some (m 2 (by decide)).symm⟩
  rw [if_neg c2, if_neg c2]
  by_cases c3 : x1 = 3
  · rw [if_pos c3, if_pos c3]
    exact ⟨_, rfl, congrArg some g.2.1.symm⟩
  rw [if_neg c3, if_neg c3]
  by_cases c4 : x1 = 4
  · rw [if_pos c4, if_pos c4]
    exact ⟨_, rfl, congrArg some d6.symm⟩
  rw [if_neg c4, if_neg c4]
  by_cases c5 : x1 = 5
  · rw [if_pos c5, if_pos c5]
    unfold wX2_struckOnes
    rw [struck10_E g hN h40 wFuel (i := 0) (x1 := 0) (x2 := 0) rfl (Nat.zero_le _) rfl wf, struck11_E hN h40 wFuel (i := 0) (x1 := 0) (x2 := 0) rfl (Nat.zero_le _) rfl wf]
    exact ⟨_, rfl, rfl⟩
  rw [if_neg c5, if_neg c5]
  by_cases c6 : x1 = 6
  · rw [if_pos c6, if_pos c6]
    unfold wX2_lookedAtOnes
    rw [lookeds10_E g hN h40 wFuel (i := 0) (x1 := 0) (x2 := 0) rfl (Nat.zero_le _) rfl wf, lookeds11_E g hN h40 wFuel (i := 0) (x1 := 0) (x2 := 0) rfl (Nat.zero_le _) rfl wf]
    exact ⟨_, rfl, rfl⟩
  rw [if_neg c6, if_neg c6]
  by_cases c7 : x1 = 7
  · rw [if_pos c7, if_pos c7]
    exact ⟨_, rfl, congrArg some d10.symm⟩
  rw [if_neg c7, if_neg c7]
  by_cases c8 : x1 = 8
  · rw [if_pos c8, if_pos c8]
    exact ⟨_, rfl, congrArg some d11.symm⟩
  rw [if_neg c8, if_neg c8]
  by_cases c9 : x1 = 9
  · rw [if_pos c9, if_pos c9]
    exact ⟨_, rfl, congrArg some g.2.2.1.1.symm⟩
  rw [if_neg c9, if_neg c9]
  exact ⟨_, rfl, rfl⟩
end CNT
end
section
/-! image, back: both sides alike. -/
section IMG
variable {s : wS}
/-- a hearing became another -/
noncomputable def BEC (kd ks : Nat) (s r : wS) : Prop := (∀ k, ¬ (kd ≤ k ∧ k ≤ kd + 11) → r.1 k = s.1 k) ∧ (r.1 kd 6 = s.1 ks 6 ∧ r.1 kd 7 = s.1 ks 7 ∧ r.1 kd 10 = s.1 ks 10 ∧ r.1 kd 11 = s.1 ks 11) ∧ (∀ j, j < 3 → r.1 (kd + 2) j = s.1 (ks + 2) j) ∧ (∀ j, j < 24 → r.1 (kd + 3) j = s.1 (ks + 3) j ∧ r.1 (kd + 4) j = s.1 (ks + 4) j) ∧ (∀ j, j < 40 → r.1 (kd + 5) j = s.1 (ks + 5) j ∧ r.1 (kd + 6) j = s.1 (ks + 6) j ∧ r.1 (kd + 7) j = s.1 (ks + 7) j ∧ r.1 (kd + 8) j = s.1 (ks + 8) j ∧ r.1 (kd + 9) j = vp_nar .boolean (s.1 (ks + 9) j)) ∧ (∀ j, j < 10 → r.1 (kd + 10) j = s.1 (ks + 10) j ∧ r.1 (kd + 11) j = s.1 (ks + 11) j)
theorem t_cpE {k n k1 n1 l : Nat} {m : Int32} {s : wS} (hm : m = Int32.ofNat l) (hl : l ≤ n) (hl1 : l ≤ n1) (hb : l < 1000) : Tot (wcpI s k n k1 n1 0 0 m) (fun s' => (∀ j, j ≠ k1 → s'.1 j = s.1 j) ∧ ∀ j, j < l → s'.1 k1 j = s.1 k j) := by
  refine ⟨_, wcp_E hm hl hl1 hb, fun j hj => ?_, fun j hj => ?_⟩
  · show (if j = k1 then _ else s.1 j) = s.1 j
    rw [if_neg hj]
  · show (if k1 = k1 then va_cpy (s.1 k) (s.1 k1) 0 0 l else s.1 k1) j = s.1 k j
    rw [if_pos rfl]
    exact cpy_at hj
theorem bec73_E {k0 k1 : Nat} (hne : k1 ≠ k0) : ∀ (n : Nat) {x2 : Int32} {s : wS}, 0 ≤ x2.toInt → x2.toInt ≤ 40 → 40 - x2.toInt < (n : Int) → Tot (wX2_becomes_h73 k0 k1 n x2 s) (fun r => (∀ k, k ≠ k0 + 9 → r.1 k = s.1 k) ∧ ∀ i, r.1 (k0 + 9) i = if x2.toNatClampNeg ≤ i ∧ i < 40 then vp_nar .boolean (s.1 (k1 + 9) i) else s.1 (k0 + 9) i) := by
  intro n
  induction n with
  | zero => intro x2 s _ _ hm; exfalso; omega
  | succ n ih =>
    intro x2 s h0 h2 hm
    rw [wX2_becomes_h73]
    have e40 : (40 : Int32).toInt = 40 := rfl
    by_cases c : x2 < 40
    · have hc := t_lt c
      rw [e40] at hc
      rw [if_pos c, wld_E h0 (by omega), t_sbe, wstZ_E h0 (by omega), t_sbe]
      have e1 := t_p1 (x := x2) h0 (by omega)
      refine t_mono (ih (x2 := x2 + 1) (by omega) (by omega) (by omega)) (fun r hr => ⟨fun k hk => ?_, fun i => ?_⟩)
      · rw [hr.1 k hk, wupI_n hk]
      · have n1 : (x2 + 1).toNatClampNeg = x2.toNatClampNeg + 1 := by unfold Int32.toNatClampNeg; omega
        have nx : x2.toNatClampNeg < 40 := by unfold Int32.toNatClampNeg; omega
        rw [hr.2 i, n1, wupI_n (show k1 + 9 ≠ k0 + 9 by omega)]
        by_cases hi : i = x2.toNatClampNeg
        · subst hi
          rw [if_neg (by omega), if_pos (by omega), wup_same]
        · rw [wup_nb hi]
          by_cases hr' : x2.toNatClampNeg ≤ i ∧ i < 40
          · rw [if_pos (by omega), if_pos hr']
          · rw [if_neg (by omega), if_neg hr']
    · have hc := t_ge c
      rw [e40] at hc
      have nx : 40 ≤ x2.toNatClampNeg := by unfold Int32.toNatClampNeg; omega
      rw [if_neg c]
      refine t_some ⟨fun _ _ => rfl, fun i => ?_⟩
      rw [if_neg (by omega)]
theorem becomes_E {kd ks : Nat} (hne : kd + 11 < ks ∨ ks + 11 < kd) : Tot (wX2_becomes kd ks s) (fun r => BEC kd ks s r) := by
  unfold wX2_becomes wX0_becomes
  refine t_bind (P := fun (s2 : wS) => (∀ k, k ≠ kd + 2 → k ≠ kd + 3 → k ≠ kd + 4 → s2.1 k = s.1 k) ∧ (∀ j, j < 3 → s2.1 (kd + 2) j = s.1 (ks + 2) j) ∧ (∀ j, j < 24 → s2.1 (kd + 3) j = s.1 (ks + 3) j ∧ s2.1 (kd + 4) j = s.1 (ks + 4) j)) ?_ (fun s2 h2 => ?_)
  · refine t_bind (t_cpE (l := 3) rfl (by decide) (by decide) (by decide)) (fun u1 h1 => ?_)
    refine t_bind (t_cpE (l := 24) rfl (by decide) (by decide) (by decide)) (fun u2 h2 => ?_)
    refine t_bind (t_cpE (l := 24) rfl (by decide) (by decide) (by decide)) (fun u3 h3 => t_some ⟨fun k k1 k2 k3 => ?_, fun j hj => ?_, fun j hj => ⟨?_, ?_⟩⟩)
    · rw [h3.1 k (by omega), h2.1 k (by omega), h1.1 k (by omega)]
    · rw [h3.1 (kd + 2) (by omega), h2.1 (kd + 2) (by omega)]
      exact h1.2 j hj
    · rw [h3.1 (kd + 3) (by omega)]
      refine (h2.2 j hj).trans ?_
      rw [h1.1 _ (by omega)]
    · refine (h3.2 j hj).trans ?_
      rw [h2.1 _ (by omega), h1.1 _ (by omega)]
  refine t_bind (t_cpE (l := 40) rfl (by decide) (by decide) (by decide)) (fun s4 h4 => ?_)
  refine t_bind (t_cpE (l := 40) rfl (by decide) (by decide) (by decide)) (fun s5 h5 => ?_)
  refine t_bind (t_cpE (l := 40) rfl (by decide) (by decide) (by decide)) (fun s6 h6 => ?_)
  refine t_bind (t_cpE (l := 40) rfl (by decide) (by decide) (by decide)) (fun s7 h7 => ?_)
  refine t_bind (bec73_E (show ks ≠ kd by omega) wFuel (by decide) (by decide) (by decide +kernel)) (fun s12 h12 => ?_)
  refine t_bind (t_pfI (B := fun _ _ => true) rfl) (fun s14 h14 => ?_)
  refine t_bind (t_pfI (B := fun _ _ => true) rfl) (fun s15 h15 => ?_)
  refine t_bind (t_cpE (l := 10) rfl (by decide) (by decide) (by decide)) (fun s16 h16 => ?_)
  refine t_bind (t_cpE (l := 10) rfl (by decide) (by decide) (by decide)) (fun s17 h17 => ?_)
  refine t_bind (t_pfI (B := fun _ _ => true) rfl) (fun s18 h18 => ?_)
  refine t_bind (t_pfI (B := fun _ _ => true) rfl) (fun s19 h19 => t_some ?_)
  obtain ⟨o2, a2, b2⟩ := h2
  obtain ⟨o4, a4⟩ := h4
  obtain ⟨o5, a5⟩ := h5
  obtain ⟨o6, a6⟩ := h6
  obtain ⟨o7, a7⟩ := h7
  obtain ⟨o12, a12⟩ := h12
  have r14 := h14.2
  have r15 := h15.2
  obtain ⟨o16, a16⟩ := h16
  obtain ⟨o17, a17⟩ := h17
  have r18 := h18.2
  have r19 := h19.2
  have o19 : ∀ k, k ≠ kd → s19.1 k = s17.1 k := fun k hk => by rw [r19, wupI_n hk, r18, wupI_n hk]
  have o15 : ∀ k, k ≠ kd → s15.1 k = s12.1 k := fun k hk => by rw [r15, wupI_n hk, r14, wupI_n hk]
  have oS : ∀ k, ¬ (kd ≤ k ∧ k ≤ kd + 11) → s12.1 k = s.1 k := fun k hk => by rw [o12 k (by omega), o7 k (by omega), o6 k (by omega), o5 k (by omega), o4 k (by omega), o2 k (by omega) (by omega) (by omega)]
  have oT : ∀ k, ¬ (kd ≤ k ∧ k ≤ kd + 11) → s17.1 k = s.1 k := fun k hk => by rw [o17 k (by omega), o16 k (by omega), o15 k (by omega), oS k hk]
  have z : ∀ k, ¬ (kd ≤ k ∧ k ≤ kd + 11) → s19.1 k = s.1 k := fun k hk => by rw [o19 k (by omega), oT k hk]
  refine ⟨z, ⟨?_, ?_, ?_, ?_⟩, fun j hj => ?_, fun j hj => ⟨?_, ?_⟩, fun j hj => ⟨?_, ?_, ?_, ?_, ?_⟩, fun j hj => ⟨?_, ?_⟩⟩
  · rw [r19, wup_nb (by decide), r18, wup_nb (by decide), o17 kd (by omega), o16 kd (by omega), r15, wup_nb (by decide), r14, wup_same, oS ks (by omega)]
  · rw [r19, wup_nb (by decide), r18, wup_nb (by decide), o17 kd (by omega), o16 kd (by omega), r15, wup_same, r14, wupI_n (by omega), oS ks (by omega)]
  · rw [r19, wup_nb (by decide), r18, wup_same, oT ks (by omega)]
  · rw [r19, wup_same, r18, wupI_n (by omega), oT ks (by omega)]
  · rw [o19 _ (by omega), o17 _ (by omega), o16 _ (by omega), o15 _ (by omega), o12 _ (by omega), o7 _ (by omega), o6 _ (by omega), o5 _ (by omega), o4 _ (by omega)]
    exact a2 j hj
  · rw [o19 _ (by omega), o17 _ (by omega), o16 _ (by omega), o15 _ (by omega), o12 _ (by omega), o7 _ (by omega), o6 _ (by omega), o5 _ (by omega), o4 _ (by omega)]
    exact (b2 j hj).1
  · rw [o19 _ (by omega), o17 _ (by omega), o16 _ (by omega), o15 _ (by omega), o12 _ (by omega), o7 _ (by omega), o6 _ (by omega), o5 _ (by omega), o4 _ (by omega)]
    exact (b2 j hj).2
  · rw [o19 _ (by omega), o17 _ (by omega), o16 _ (by omega), o15 _ (by omega), o12 _ (by omega), o7 _ (by omega), o6 _ (by omega), o5 _ (by omega), a4 j hj, o2 _ (by omega) (by omega) (by omega)]
  · rw [o19 _ (by omega), o17 _ (by omega), o16 _ (by omega), o15 _ (by omega), o12 _ (by omega), o7 _ (by omega), o6 _ (by omega), a5 j hj, o4 _ (by omega), o2 _ (by omega) (by omega) (by omega)]
  · rw [o19 _ (by omega), o17 _ (by omega), o16 _ (by omega), o15 _ (by omega), o12 _ (by omega), o7 _ (by omega), a6 j hj, o5 _ (by omega), o4 _ (by omega), o2 _ (by omega) (by omega) (by omega)]
  · rw [o19 _ (by omega), o17 _ (by omega), o16 _ (by omega), o15 _ (by omega), o12 _ (by omega), a7 j hj, o6 _ (by omega), o5 _ (by omega), o4 _ (by omega), o2 _ (by omega) (by omega) (by omega)]
  · rw [o19 _ (by omega), o17 _ (by omega), o16 _ (by omega), o15 _ (by omega), a12 j, if_pos ⟨by show (0 : Nat) ≤ j; omega, hj⟩, o7 _ (by omega), o6 _ (by omega), o5 _ (by omega), o4 _ (by omega), o2 _ (by omega) (by omega) (by omega)]
  · rw [o19 _ (by omega), o17 _ (by omega), a16 j hj, o15 _ (by omega), oS _ (by omega)]
  · rw [o19 _ (by omega), a17 j hj, o16 _ (by omega), o15 _ (by omega), oS _ (by omega)]
/-- the row may be another, alike below 262 -/
theorem HR.row {k0 : Nat} {f f' : Nat → Int32} {s : wS} (h : HR k0 f s) (q : qC f) (hf : ∀ j, j < 262 → f' j = f j) : HR k0 f' s := by
  have q1 := q.2.1.2
  have q2 := q.2.2.1.2
  have q3 := q.2.2.2.2.1
  have q5 := q.2.2.2.2.2.1
  have n3 := t_cln q3.1
  obtain ⟨⟨⟨d0, d1, d2⟩, d3, d4⟩, ⟨⟨d5, d6, d7, d8⟩, d9, d10⟩, ⟨d11, d12, d13, d14, d15, d16, d17⟩⟩ := h
  have f0 := hf 0 (by decide)
  have f1 := hf 1 (by decide)
  have f2 := hf 2 (by decide)
  have f3 := hf 3 (by decide)
  have f4 := hf 4 (by decide)
  have f5 := hf 5 (by decide)
  have f6 := hf 6 (by decide)
  refine ⟨⟨⟨?_, ?_, ?_⟩, fun i hi => ?_, fun i hi => ?_⟩, ⟨⟨?_, ?_, ?_, ?_⟩, fun a ha => ?_, fun v hv => ?_⟩, ⟨fun h0 => ?_, ?_, fun a ha => ?_, fun w => ?_, fun v hv => ?_, fun i hi => ?_, fun i hi => ?_⟩⟩
  · rw [f0]; exact d0
  · rw [f1]; exact d1
  · rw [f2]; exact d2
  · rw [f1] at hi
    rw [hf _ (by omega), hf _ (by omega)]
    exact d3 i hi
  · rw [f2] at hi
    rw [hf _ (by omega), hf _ (by omega)]
    exact d4 i hi
  · rw [f3]; exact d5
  · rw [f4]; exact d6
  · rw [f5]; exact d7
  · rw [f6]; exact d8
  · rw [f3] at ha
    rw [hf _ (by omega), hf _ (by omega), hf _ (by omega), hf _ (by omega), hf _ (by omega)]
    exact d9 a ha
  · rw [f5] at hv
    rw [hf _ (by omega), hf _ (by omega)]
    exact d10 v hv
  · rw [f0] at h0
    rw [f1, f2]
    exact d11 h0
  · rw [f4]; exact d12
  · rw [f3] at ha
    rw [hf _ (by omega), hf _ (by omega)]
    exact d13 a ha
  · rw [f3, cw_congr (f := f) (fun a ha => hf _ (by omega))]
    exact d14 w
  · rw [f5] at hv
    rw [hf _ (by omega), f0, f1, f2]
    exact d15 v hv
  · rw [f1] at hi
    rw [hf _ (by omega)]
    exact d16 i hi
  · rw [f2] at hi
    rw [hf _ (by omega)]
    exact d17 i hi
theorem HR.move {ks kd : Nat} {f f' : Nat → Int32} {s r : wS} (h : HR ks f s) (q : qC f) (hf : ∀ j, j < 262 → f' j = f j) (b : BEC kd ks s r) : HR kd f' r := by
  have q1 := q.2.1.2
  have q2 := q.2.2.1.2
  have q3 := q.2.2.2.2.1
  have q5 := q.2.2.2.2.2.1
  have n3 := t_cln q3.1
  obtain ⟨-, ⟨b6, b7, b10, b11⟩, bm, br, ba, bv⟩ := b
  obtain ⟨⟨⟨d0, d1, d2⟩, d3, d4⟩, ⟨⟨d5, d6, d7, d8⟩, d9, d10⟩, ⟨d11, d12, d13, d14, d15, d16, d17⟩⟩ := h
  have f0 := hf 0 (by decide)
  have f1 := hf 1 (by decide)
  have f2 := hf 2 (by decide)
  have f3 := hf 3 (by decide)
  have f4 := hf 4 (by decide)
  have f5 := hf 5 (by decide)
  have f6 := hf 6 (by decide)
  refine ⟨⟨⟨?_, ?_, ?_⟩, fun i hi => ?_, fun i hi => ?_⟩, ⟨⟨?_, ?_, ?_, ?_⟩, fun a ha => ?_, fun v hv => ?_⟩, ⟨fun h0 => ?_, ?_, fun a ha => ?_, fun w => ?_, fun v hv => ?_, fun i hi => ?_, fun i hi => ?_⟩⟩
  · rw [bm 0 (by decide), f0]; exact d0
  · rw [bm 1 (by decide), f1]; exact d1
  · rw [bm 2 (by decide), f2]; exact d2
  · rw [f1] at hi
    rw [(br _ (by omega)).1, (br _ (by omega)).2, hf _ (by omega), hf _ (by omega)]
    exact d3 i hi
  · rw [f2] at hi
    rw [(br _ (by omega)).1, (br _ (by omega)).2, hf _ (by omega), hf _ (by omega)]
    exact d4 i hi
  · rw [b6, f3]; exact d5
  · rw [b7, f4]; exact d6
  · rw [b10, f5]; exact d7
  · rw [b11, f6]; exact d8
  · rw [f3] at ha
    obtain ⟨c1, c2, c3, c4, c5⟩ := ba a (by omega)
    rw [c1, c2, c3, c4, c5, hf _ (by omega), hf _ (by omega), hf _ (by omega), hf _ (by omega), hf _ (by omega)]
    obtain ⟨e1, e2, e3, e4, e5⟩ := d9 a ha
    refine ⟨e1, e2, e3, e4, ?_⟩
    rw [e5]
    rcases (d13 a ha).2 with z | z
    · rw [z]; exact narZ_0
    · rw [z]; exact narZ_1
  · rw [f5] at hv
    rw [(bv v (by omega)).1, (bv v (by omega)).2, hf _ (by omega), hf _ (by omega)]
    exact d10 v hv
  · rw [f0] at h0
    rw [f1, f2]
    exact d11 h0
  · rw [f4]; exact d12
  · rw [f3] at ha
    rw [hf _ (by omega), hf _ (by omega)]
    exact d13 a ha
  · rw [f3, cw_congr (f := f) (fun a ha => hf _ (by omega))]
    exact d14 w
  · rw [f5] at hv
    rw [hf _ (by omega), f0, f1, f2]
    exact d15 v hv
  · rw [f1] at hi
    rw [hf _ (by omega)]
    exact d16 i hi
  · rw [f2] at hi
    rw [hf _ (by omega)]
    exact d17 i hi
/-- the IMAGES put back, the rest is as it was -/
theorem JA_img {s s' : wS} (g : JA s) (a : ∀ k, k ≠ 27 → ¬ (104 ≤ k ∧ k ≤ 151) → k ≠ 170 → k ≠ 171 → s'.1 k = s.1 k) (ri : RI s') (im : ∀ k : Nat, k < 4 → (s'.1 27 k = 0 ↔ s'.1 171 k = 0) ∧ (¬ s'.1 171 k = 0 → HR (104 + 12 * k) (fun i => s'.1 170 (262 * k + i)) s')) : JA s' := by
  obtain ⟨-, g2, g3, g4, g5, g6, g7⟩ := g
  have a' : ∀ k, k < 104 → k ≠ 27 → s'.1 k = s.1 k := fun k h1 h2 => a k h2 (by omega) (by omega) (by omega)
  have z152 : s'.1 152 = s.1 152 := a 152 (by decide) (by decide) (by decide) (by decide)
  have z : ∀ k, 152 ≤ k → k < 170 → s'.1 k = s.1 k := fun k h1 h2 => a k (by omega) (by omega) (by omega) (by omega)
  refine ⟨ri, by rw [a' 0 (by decide) (by decide), z152]; exact g2, ⟨by rw [a' 1 (by decide) (by decide), z152]; exact g3.1, by rw [a' 1 (by decide) (by decide)]; exact g3.2.1, by rw [a' 2 (by decide) (by decide), z 153 (by decide) (by decide)]; exact g3.2.2⟩, by unfold BYR; rw [a' 2 (by decide) (by decide)]; exact g4, ?_, im, fun l hl => ?_⟩
  · rw [z 163 (by decide) (by decide)]
    refine g5.go ?_ (fun j h1 h2 => a' _ (by omega) (by omega))
    rw [a' 14 (by decide) (by decide)]
    exact ⟨rfl, rfl, rfl, rfl⟩
  · rw [z152] at hl
    obtain ⟨x, x1, x2⟩ := g7 l hl
    have hl6 : l < 6 := by have := ri.1.2.1; rw [z152] at this; omega
    refine ⟨x, x1.go ?_ ?_ (fun j h1 h2 => a' _ (by omega) (by omega)), x2.keep (z 155 (by decide) (by decide)) (z 154 (by decide) (by decide)) (z 157 (by decide) (by decide)) (z 156 (by decide) (by decide))⟩
    · rw [a' (44 + 10 * l) (by omega) (by omega)]
    · rw [a' (44 + 10 * l) (by omega) (by omega)]
theorem in_03 {x : Int32} {s : wS} : wX11_in (x.toInt64) 0 3 s = some (if 0 ≤ x.toInt ∧ x.toInt ≤ 3 then 1 else 0) := in_I (lo := 0) (hi := 3)
theorem ldR_E {x : Int32} (h0 : 0 ≤ x.toInt) (h1 : x.toInt < 4) : wldR 26 4 x = some (104 + 12 * x.toNatClampNeg) := by
  obtain ⟨k, e, -, rfl⟩ := t_ldR2 h0 h1
  exact e
theorem image_ri {x : Int32} {s s1 : wS} {v : Int32} (g : INV s) (h : ((v, s1) = (-1, s) ∧ ¬ (0 ≤ x.toInt ∧ x.toInt < 4)) ∨ ((0 ≤ x.toInt ∧ x.toInt < 4) ∧ wA (fun k _ => Nat.beq k 27 || (Nat.ble (104 + 12 * x.toNatClampNeg) k && Nat.ble k (115 + 12 * x.toNatClampNeg))) s s1 ∧ s1.1 (104 + 12 * x.toNatClampNeg) 11 = s.1 14 11 ∧ s1.1 27 = upd (s.1 27) x.toNatClampNeg 1)) : RI s1 := by
  rcases h with ⟨e, hx⟩ | ⟨hx, a, -, -⟩
  · obtain ⟨rfl, rfl⟩ := Prod.mk.inj e
    exact g.2.1
  · have hxn : x.toNatClampNeg < 4 := by unfold Int32.toNatClampNeg; omega
    have z : ∀ k b, 152 ≤ k → s1.1 k b = s.1 k b := fun k b hk => a k b (by
      dsimp only
      rw [nq_false (show k ≠ 27 by omega), nb_false (show 115 + 12 * x.toNatClampNeg < k by omega), Bool.and_false]
      rfl)
    have z' : ∀ k, 152 ≤ k → s1.1 k = s.1 k := fun k hk => funext fun b => z k b hk
    obtain ⟨g1, g2, g3⟩ := g.2.1
    exact ⟨RQ_same ⟨z' 163 (by omega), z' 157 (by omega), z' 156 (by omega), z' 154 (by omega), z 152 2 (by omega)⟩ g1, by rw [z 152 1 (by omega)]; exact g2, IM_eq (z' 170 (by omega)) (z' 171 (by omega)) g3⟩
theorem back_ri {x : Int32} {s s1 : wS} {v : Int32} (g : INV s) (h : ((v, s1) = (-1, s) ∧ (¬ (0 ≤ x.toInt ∧ x.toInt < 4) ∨ s.1 27 x.toNatClampNeg = 0)) ∨ ((0 ≤ x.toInt ∧ x.toInt < 4) ∧ ¬ s.1 27 x.toNatClampNeg = 0 ∧ wA (fun k b => (Nat.ble 14 k && Nat.ble k 25) || bR k b) s s1 ∧ s1.1 14 11 = s.1 (104 + 12 * x.toNatClampNeg) 11)) : RI s1 := by
  rcases h with ⟨e, hx⟩ | ⟨hx, hm, a, e11⟩
  · obtain ⟨rfl, rfl⟩ := Prod.mk.inj e
    exact g.2.1
  · exact (RI_taped a g.2.1 (fun _ => rfl) (fun _ => rfl) (fun _ => rfl) (fun _ => rfl) rfl (fun _ => rfl) (fun _ => rfl) (by rw [a 152 1 rfl]; exact g.2.1.2.1)).1
theorem op_image {x1 : Int32} (g : JA s) : ∃ v s1 v2 s2, wX10_image x1 s = some (v, s1) ∧ wX11_image x1 s1 = some (v2, s2) ∧ v = v2 ∧ JA s2 := by
  by_cases c : 0 ≤ x1.toInt ∧ x1.toInt < 4
  · have xc := t_cln c.1
    have hx4 : x1.toNatClampNeg < 4 := by omega
    obtain ⟨s7, e7, b7⟩ := becomes_E (s := s) (kd := 104 + 12 * x1.toNatClampNeg) (ks := 14) (by omega)
    have w14 : (wupI s7 27 x1.toNatClampNeg 1).1 14 6 = s.1 14 6 := by rw [wupI_n (by decide), b7.1 14 (by omega)]
    have e1 : wX10_image x1 s = some (s.1 14 6, wupI s7 27 x1.toNatClampNeg 1) := by
      unfold wX10_image
      rw [isOutside_E, if_pos (show 0 ≤ x1.toInt ∧ x1.toInt < (4 : Int32).toInt from c), t_sbe, qi0, ldR_E c.1 c.2, t_sbe, t_sbe, e7, t_sbe, wstZ_E c.1 (by omega), t_sbe, narZ_1, w14]
    have r1 : RI (wupI s7 27 x1.toNatClampNeg 1) := by
      obtain ⟨r, er, p1⟩ := wX10_image_T (x1 := x1) (s := s)
      rw [e1] at er
      obtain rfl := Option.some.inj er
      exact image_ri g.inv p1
    obtain ⟨s9, e9, o9, f9⟩ := wX11_image_h23_T (x1 := x1) c.1 (by omega) wFuel (x2 := 0) (s := wupI (wupI s7 27 x1.toNatClampNeg 1) 171 x1.toNatClampNeg 1) (by decide) (by decide) (t_wf262 (by decide))
    have oo : ∀ k, k ≠ 27 → ¬ (104 ≤ k ∧ k ≤ 151) → k ≠ 170 → k ≠ 171 → s9.1 k = s.1 k := fun k k1 k2 k3 k4 => by rw [o9 k k3, wupI_n k4, wupI_n k1, b7.1 k (by omega)]
    have e163 : s9.1 163 = s.1 163 := oo 163 (by decide) (by decide) (by decide) (by decide)
    have e2 : wX11_image x1 (wupI s7 27 x1.toNatClampNeg 1) = some (s.1 163 3, s9) := by
      unfold wX11_image
      rw [in_03, if_pos ⟨c.1, by omega⟩, t_sbe, qi1, wstZ_E c.1 (by omega), t_sbe, narZ_1, e9, t_sbe, e163]
    have ri : RI s9 := by
      obtain ⟨r, er, p2, -⟩ := wX11_image_T (x1 := x1) (s := wupI s7 27 x1.toNatClampNeg 1) r1
      rw [e2] at er
      obtain rfl := Option.some.inj er
      exact p2
    refine ⟨_, _, _, _, e1, e2, g.h.2.1.1.1, JA_img g oo ri (fun k hk => ?_)⟩
    have e27 : s9.1 27 = upd (s.1 27) x1.toNatClampNeg 1 := by rw [o9 27 (by decide), wupI_n (by decide), wupI_k, b7.1 27 (by omega)]
    have e171 : s9.1 171 = upd (s.1 171) x1.toNatClampNeg 1 := by rw [o9 171 (by decide), wupI_k, wupI_n (by decide), b7.1 171 (by omega)]
    have z163 : (wupI (wupI s7 27 x1.toNatClampNeg 1) 171 x1.toNatClampNeg 1).1 163 = s.1 163 := by rw [wupI_n (by decide), wupI_n (by decide), b7.1 163 (by omega)]
    have z170 : (wupI (wupI s7 27 x1.toNatClampNeg 1) 171 x1.toNatClampNeg 1).1 170 = s.1 170 := by rw [wupI_n (by decide), wupI_n (by decide), b7.1 170 (by omega)]
    have e170 : ∀ i, s9.1 170 i = if 262 * x1.toNatClampNeg ≤ i ∧ i < 262 * x1.toNatClampNeg + 262 then s.1 163 (i - 262 * x1.toNatClampNeg) else s.1 170 i := fun i => by
      rw [f9 i, z163, z170]
      rfl
    rw [e27, e171]
    by_cases q : k = x1.toNatClampNeg
    · rw [q, updI_s, updI_s]
      refine ⟨Iff.rfl, fun _ => ?_⟩
      have mv : HR (104 + 12 * x1.toNatClampNeg) (fun i => s9.1 170 (262 * x1.toNatClampNeg + i)) s7 := g.h.move g.c (fun j hj => by
        show s9.1 170 (262 * x1.toNatClampNeg + j) = _
        rw [e170, if_pos (by omega), Nat.add_sub_cancel_left]) b7
      have oz : ∀ k, k ≠ 27 → k ≠ 170 → k ≠ 171 → s9.1 k = s7.1 k := fun k k1 k2 k3 => by rw [o9 k k2, wupI_n k3, wupI_n k1]
      refine mv.go ?_ (fun j h1 h2 => oz _ (by omega) (by omega) (by omega))
      rw [oz _ (by omega) (by omega) (by omega)]
      exact ⟨rfl, rfl, rfl, rfl⟩
    · rw [updI_n q, updI_n q]
      obtain ⟨g1, g2⟩ := g.2.2.2.2.2.1 k hk
      refine ⟨g1, fun h => ?_⟩
      have ok : ∀ j, j ≤ 11 → s9.1 (104 + 12 * k + j) = s.1 (104 + 12 * k + j) := fun j hj => by rw [o9 _ (by omega), wupI_n (by omega), wupI_n (by omega), b7.1 _ (by omega)]
      have h14 := (g2 h).go (s' := s9) (by rw [show s9.1 (104 + 12 * k) = s.1 (104 + 12 * k) from ok 0 (by decide)]; exact ⟨rfl, rfl, rfl, rfl⟩) (fun j h1 h2 => ok j h2)
      exact h14.row (g.1.2.2 k hk h) (fun j hj => by
        show s9.1 170 (262 * k + j) = _
        rw [e170, if_neg (by omega)])
  · refine ⟨-1, s, -1, s, ?_, ?_, rfl, g⟩
    · unfold wX10_image
      rw [isOutside_E, if_neg (show ¬ (0 ≤ x1.toInt ∧ x1.toInt < (4 : Int32).toInt) from c), t_sbe, qi1]
    · unfold wX11_image
      rw [in_03, if_neg (by omega), t_sbe, qi0]
theorem op_back {x1 : Int32} (g : JA s) : ∃ v s1 v2 s2, wX10_back x1 s = some (v, s1) ∧ wX11_back x1 s1 = some (v2, s2) ∧ v = v2 ∧ JA s2 := by
  by_cases c : 0 ≤ x1.toInt ∧ x1.toInt < 4
  · have xc := t_cln c.1
    have hx4 : x1.toNatClampNeg < 4 := by omega
    obtain ⟨gi, gh⟩ := g.2.2.2.2.2.1 _ hx4
    by_cases m : s.1 27 x1.toNatClampNeg = 0
    · refine ⟨-1, s, -1, s, ?_, ?_, rfl, g⟩
      · unfold wX10_back
        rw [isOutside_E, if_pos (show 0 ≤ x1.toInt ∧ x1.toInt < (4 : Int32).toInt from c), t_sbe, qi0, wld_E c.1 (by omega), t_sbe, if_pos m]
      · unfold wX11_back
        rw [in_03, if_pos ⟨c.1, by omega⟩, t_sbe, qi1, wld_E c.1 (by omega), t_sbe, if_pos (gi.1 m)]
    · have m2 : ¬ s.1 171 x1.toNatClampNeg = 0 := fun q => m (gi.2 q)
      obtain ⟨s9, e9, b9⟩ := becomes_E (s := s) (kd := 14) (ks := 104 + 12 * x1.toNatClampNeg) (by omega)
      obtain ⟨s12, e12, a12⟩ := wX10_courtIsAnother_Yp (s := s9)
      have e1 : wX10_back x1 s = some (s12.1 14 6, s12) := by
        unfold wX10_back
        rw [isOutside_E, if_pos (show 0 ≤ x1.toInt ∧ x1.toInt < (4 : Int32).toInt from c), t_sbe, qi0, wld_E c.1 (by omega), t_sbe, if_neg m, ldR_E c.1 c.2, t_sbe, t_sbe, e9, t_sbe, e12, t_sbe]
      have r1 : RI s12 := by
        obtain ⟨r, er, p1⟩ := wX10_back_T (x1 := x1) (s := s)
        rw [e1] at er
        obtain rfl := Option.some.inj er
        exact back_ri g.inv p1
      obtain ⟨s10, e10, o10, f10⟩ := wX11_back_h25_T (x1 := x1) c.1 (by omega) wFuel (x2 := 0) (s := s12) (by decide) (by decide) (t_wf262 (by decide))
      have oo : ∀ k, 152 ≤ k → s12.1 k = s.1 k := fun k hk => by
        have : s12.1 k = s9.1 k := funext fun b => a12 k b (by
          unfold bYp
          rw [nb_false (show k > 31 by omega), nb_false (show k > 103 by omega), Bool.and_false, Bool.and_false]
          rfl)
        rw [this, b9.1 k (by omega)]
      have e2 : wX11_back x1 s12 = some (s10.1 163 3, s10) := by
        unfold wX11_back
        rw [in_03, if_pos ⟨c.1, by omega⟩, t_sbe, qi1, wld_E c.1 (by omega), t_sbe, oo 171 (by decide), if_neg m2, e10, t_sbe]
      have ri : RI s10 := by
        obtain ⟨r, er, p2, -⟩ := wX11_back_T (x1 := x1) (s := s12) r1
        rw [e2] at er
        obtain rfl := Option.some.inj er
        exact p2
      have e163 : ∀ i, i < 262 → s10.1 163 i = s.1 170 (262 * x1.toNatClampNeg + i) := fun i hi => by
        rw [f10 i, if_pos ⟨by show (0 : Nat) ≤ i; omega, hi⟩, oo 170 (by decide)]
      have a9 : wA bHe s s9 := fun k b h => by
        by_cases q : 14 ≤ k ∧ k ≤ 14 + 11
        · rw [bHe_c (by omega)] at h
          cases h
        · exact congrFun (b9.1 k q) b
      have a12' : wA bHe s9 s12 := a12.mono (fun k b h => by
        simp only [bYp, bHe, bO2, Bool.or_eq_true, Bool.and_eq_true, Nat.beq_eq, Nat.ble_eq] at *
        omega)
      have a10 : wA bHe s12 s10 := fun k b h => by
        by_cases q : k = 163
        · rw [q] at h; cases h
        · exact congrFun (o10 k q) b
      have mv : HR 14 (s10.1 163) s9 := (gh m2).move (g.1.2.2 _ hx4 m2) (fun j hj => e163 j hj) b9
      have z : ∀ k, 14 ≤ k → k ≤ 25 → s10.1 k = s9.1 k := fun k h1 h2 => by
        rw [o10 k (by omega)]
        exact funext fun b => a12 k b (by
          unfold bYp
          rw [nb_false (show k < 28 by omega), nb_false (show k < 44 by omega)]
          rfl)
      have hr : HR 14 (s10.1 163) s10 := mv.go (by rw [z 14 (by decide) (by decide)]; exact ⟨rfl, rfl, rfl, rfl⟩) (fun j h1 h2 => z _ (by omega) (by omega))
      refine ⟨_, _, _, _, e1, e2, ?_, JA_hear g ((a9.trans a12').trans a10) ri hr⟩
      have := hr.2.1.1.1
      rw [o10 14 (by decide)] at this
      exact this
  · refine ⟨-1, s, -1, s, ?_, ?_, rfl, g⟩
    · unfold wX10_back
      rw [isOutside_E, if_neg (show ¬ (0 ≤ x1.toInt ∧ x1.toInt < (4 : Int32).toInt) from c), t_sbe, qi1]
    · unfold wX11_back
      rw [in_03, if_neg (by omega), t_sbe, qi0]
end IMG
end
