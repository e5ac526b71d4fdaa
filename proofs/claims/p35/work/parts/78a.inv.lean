/-! What holds between the calls: both sides were told the same. -/
/-- the COURTS are alike -/
noncomputable def HC (k0 : Nat) (f : Nat → Int32) (s : wS) : Prop := (s.1 (k0 + 2) 0 = f 0 ∧ s.1 (k0 + 2) 1 = f 1 ∧ s.1 (k0 + 2) 2 = f 2) ∧ (∀ i : Nat, (i : Int) < (f 1).toInt → s.1 (k0 + 3) (8 + i) = f (10 + 2 * i) ∧ s.1 (k0 + 4) (8 + i) = f (10 + 2 * i + 1)) ∧ (∀ i : Nat, (i : Int) < (f 2).toInt → s.1 (k0 + 3) (16 + i) = f (26 + 2 * i) ∧ s.1 (k0 + 4) (16 + i) = f (26 + 2 * i + 1))
/-- ANSWERS and VERDICTS are alike -/
noncomputable def HA (k0 : Nat) (f : Nat → Int32) (s : wS) : Prop := (s.1 k0 6 = f 3 ∧ s.1 k0 7 = f 4 ∧ s.1 k0 10 = f 5 ∧ s.1 k0 11 = f 6) ∧ (∀ a : Nat, (a : Int) < (f 3).toInt → s.1 (k0 + 5) a = f (42 + 5 * a) ∧ s.1 (k0 + 6) a = f (42 + 5 * a + 1) ∧ s.1 (k0 + 7) a = f (42 + 5 * a + 2) ∧ s.1 (k0 + 8) a = f (42 + 5 * a + 3) ∧ s.1 (k0 + 9) a = f (42 + 5 * a + 4)) ∧ (∀ v : Nat, (v : Int) < (f 5).toInt → s.1 (k0 + 10) v = f (242 + 2 * v) ∧ s.1 (k0 + 11) v = f (242 + 2 * v + 1))
/-- how many ANSWERS of a WITNESS -/
noncomputable def cw (f : Nat → Int32) (w : Int32) : Nat → Nat
  | 0 => 0
  | n + 1 => cw f w n + (if f (42 + 5 * n) = w then 1 else 0)
/-- what is told is as it must be -/
noncomputable def HX (f : Nat → Int32) : Prop := (f 0 = 0 → f 1 = 0 ∧ f 2 = 0) ∧ (-1 ≤ (f 4).toInt ∧ (f 4).toInt ≤ 40) ∧ (∀ a : Nat, (a : Int) < (f 3).toInt → (0 ≤ (f (42 + 5 * a)).toInt ∧ (f (42 + 5 * a)).toInt ≤ 5) ∧ (f (42 + 5 * a + 4) = 0 ∨ f (42 + 5 * a + 4) = 1)) ∧ (∀ w : Int32, cw f w (f 3).toNatClampNeg ≤ 9) ∧ (∀ v : Nat, (v : Int) < (f 5).toInt → 0 ≤ (f (242 + 2 * v)).toInt ∧ (f (242 + 2 * v)).toInt < (f 0).toInt * (f 1).toInt * (f 2).toInt) ∧ (∀ i : Nat, (i : Int) < 2 * (f 1).toInt → 0 ≤ (f (10 + i)).toInt ∧ (f (10 + i)).toInt ≤ 99) ∧ (∀ i : Nat, (i : Int) < 2 * (f 2).toInt → 0 ≤ (f (26 + i)).toInt ∧ (f (26 + i)).toInt ≤ 99)
/-- a hearing and its row -/
noncomputable def HR (k0 : Nat) (f : Nat → Int32) (s : wS) : Prop := HC k0 f s ∧ HA k0 f s ∧ HX f
/-- a LAW is the same on both sides -/
noncomputable def LAWR (l : Nat) (s : wS) : Prop := ∃ x : lC, CLc (44 + 10 * l) x s ∧ RLf l x s
/-- the TAPE's bytes -/
noncomputable def BYR (s : wS) : Prop := ∀ i, -128 ≤ (s.1 2 i).toInt ∧ (s.1 2 i).toInt ≤ 127
noncomputable def JA (s : wS) : Prop := RI s ∧ (s.1 0 6 = s.1 152 2) ∧ TA s ∧ BYR s ∧ HR 14 (s.1 163) s ∧ (∀ k : Nat, k < 4 → (s.1 27 k = 0 ↔ s.1 171 k = 0) ∧ (¬ s.1 171 k = 0 → HR (104 + 12 * k) (fun i => s.1 170 (262 * k + i)) s)) ∧ (∀ l : Nat, (l : Int) < (s.1 152 2).toInt → LAWR l s)
theorem JA.inv {s : wS} (g : JA s) : INV s := by
  obtain ⟨g1, g2, g3, g4, g5, g6, g7⟩ := g
  refine ⟨by rw [g2]; exact g1.1.2.1, g1, g5.2.1.1.2.2.2, fun k hk => ⟨(g6 k hk).1, fun h => ((g6 k hk).2 h).2.1.1.2.2.2⟩⟩
theorem HR.go {k0 : Nat} {f : Nat → Int32} {s s' : wS} (h : HR k0 f s) (h0 : s'.1 k0 6 = s.1 k0 6 ∧ s'.1 k0 7 = s.1 k0 7 ∧ s'.1 k0 10 = s.1 k0 10 ∧ s'.1 k0 11 = s.1 k0 11) (ho : ∀ j, 2 ≤ j → j ≤ 11 → s'.1 (k0 + j) = s.1 (k0 + j)) : HR k0 f s' := by
  unfold HR HC HA
  rw [h0.1, h0.2.1, h0.2.2.1, h0.2.2.2, ho 2 (by decide) (by decide), ho 3 (by decide) (by decide), ho 4 (by decide) (by decide), ho 5 (by decide) (by decide), ho 6 (by decide) (by decide), ho 7 (by decide) (by decide), ho 8 (by decide) (by decide), ho 9 (by decide) (by decide), ho 10 (by decide) (by decide), ho 11 (by decide) (by decide)]
  exact h
theorem RLf.keep {l : Nat} {x : lC} {s s' : wS} (h : RLf l x s) (h5 : s'.1 155 = s.1 155) (h4 : s'.1 154 = s.1 154) (h7 : s'.1 157 = s.1 157) (h6 : s'.1 156 = s.1 156) : RLf l x s' := h.go (by rw [h5]) h4 (by rw [h7]) h6
/-- what neither side reads of what was told -/
noncomputable def bO2 (k b : Nat) : Bool := (Nat.ble 3 k && Nat.ble k 12) || ((Nat.ble 28 k && Nat.ble k 43) || ((Nat.ble 44 k && Nat.ble k 103 && (Nat.ble 6 ((k - 44) % 10) || (Nat.beq ((k - 44) % 10) 0 && (Nat.beq b 9 || Nat.beq b 12)))) || (((Nat.ble 158 k && Nat.ble k 162) || (Nat.ble 164 k && Nat.ble k 169)) || (Nat.beq k 152 && (Nat.ble 3 b)))))
theorem JA_go {s s' : wS} (g : JA s) (a : wA bO2 s s') : JA s' := by
  obtain ⟨⟨⟨gC, gL, gW⟩, gT, gI⟩, g2, g3, g4, g5, g6, g7⟩ := g
  have z : ∀ k, (∀ b, bO2 k b = false) → s'.1 k = s.1 k := fun k h => funext fun b => a k b (h b)
  have z1 : s'.1 1 1 = s.1 1 1 := a 1 1 rfl
  have z2 := z 2 (fun _ => rfl)
  have z06 : s'.1 0 6 = s.1 0 6 := a 0 6 rfl
  have z152 : s'.1 152 2 = s.1 152 2 := a 152 2 rfl
  have zT : s'.1 152 1 = s.1 152 1 := a 152 1 rfl
  have z153 := z 153 (fun _ => rfl)
  have z154 := z 154 (fun _ => rfl)
  have z155 := z 155 (fun _ => rfl)
  have z156 := z 156 (fun _ => rfl)
  have z157 := z 157 (fun _ => rfl)
  have z163 := z 163 (fun _ => rfl)
  have z170 := z 170 (fun _ => rfl)
  have z171 := z 171 (fun _ => rfl)
  have z27 := z 27 (fun _ => rfl)
  have hi : ∀ k : Nat, (14 ≤ k ∧ k ≤ 27) ∨ (104 ≤ k ∧ k ≤ 151) → s'.1 k = s.1 k := fun k hk => z k (fun b => by
    unfold bO2
    rcases hk with hk | hk
    · rw [nb_false (show k > 12 by omega) |> fun e => (show (Nat.ble 3 k && Nat.ble k 12) = false by rw [e, Bool.and_false]), nb_false (show k < 28 by omega), nb_false (show k < 44 by omega), nb_false (show k < 158 by omega), nb_false (show k < 164 by omega), nq_false (show k ≠ 152 by omega)]
      rfl
    · rw [nb_false (show k > 12 by omega) |> fun e => (show (Nat.ble 3 k && Nat.ble k 12) = false by rw [e, Bool.and_false]), nb_false (show k > 43 by omega), nb_false (show k > 103 by omega), nb_false (show k < 158 by omega), nb_false (show k < 164 by omega), nq_false (show k ≠ 152 by omega), Bool.and_false, Bool.and_false]
      rfl)
  refine ⟨⟨⟨?_, ?_, ?_⟩, ?_, ?_⟩, by rw [z06, z152]; exact g2, ⟨by rw [z1, zT]; exact g3.1, by rw [z1]; exact g3.2.1, by rw [z2, z153]; exact g3.2.2⟩, by unfold BYR; rw [z2]; exact g4, by rw [z163]; exact g5.go ⟨by rw [hi 14 (by omega)], by rw [hi 14 (by omega)], by rw [hi 14 (by omega)], by rw [hi 14 (by omega)]⟩ (fun j h1 h2 => hi _ (by omega)), fun k hk => ?_, fun l hl => ?_⟩
  · rw [z163]; exact gC
  · rw [z152]; exact gL
  · intro l hl
    rw [z152] at hl
    have := gW l hl
    unfold qLW at *
    rw [z154, z156, z157]
    exact this
  · rw [zT]; exact gT
  · exact IM_eq z170 z171 gI
  · rw [z27, z171, z170]
    refine ⟨(g6 k hk).1, fun h => ((g6 k hk).2 h).go ⟨by rw [hi _ (by omega)], by rw [hi _ (by omega)], by rw [hi _ (by omega)], by rw [hi _ (by omega)]⟩ (fun j h1 h2 => hi _ (by omega))⟩
  · rw [z152] at hl
    obtain ⟨x, x1, x2⟩ := g7 l hl
    have hl6 : l < 6 := by have := gL.2; omega
    refine ⟨x, x1.go (a _ _ ?_) (a _ _ ?_) (fun j h1 h2 => z _ (fun b => ?_)), x2.keep z155 z154 z157 z156⟩
    · have : ∀ l, l < 6 → bO2 (44 + 10 * l) 1 = false := by decide +kernel
      exact this l hl6
    · have : ∀ l, l < 6 → bO2 (44 + 10 * l) 6 = false := by decide +kernel
      exact this l hl6
    · have hk : (44 + 10 * l + j - 44) % 10 = j := by omega
      have hq : 44 + 10 * l + j ≤ 103 := by omega
      unfold bO2
      rw [hk, nb_false (show 44 + 10 * l + j > 12 by omega), Bool.and_false, nb_false (show 44 + 10 * l + j > 43 by omega), Bool.and_false, nb_false (show j < 6 by omega), nq_false (show j ≠ 0 by omega), nb_false (show 44 + 10 * l + j < 158 by omega), nb_false (show 44 + 10 * l + j < 164 by omega), nq_false (show 44 + 10 * l + j ≠ 152 by omega)]
      simp only [Bool.false_and, Bool.false_or, Bool.and_false, Bool.or_false]
theorem bQ_le_bO2 : ∀ k b, bQ k b = true → bO2 k b = true := by
  intro k b h
  simp only [bQ, bQa, bO2, Bool.or_eq_true, Bool.and_eq_true, Nat.ble_eq, Nat.beq_eq] at *
  omega
theorem JA_Q {s s' : wS} (h : wA bQ s s') (g : JA s) : JA s' := JA_go g (h.mono bQ_le_bO2)
theorem JA_P {s s' : wS} (h : wA bP s s') (g : JA s) : JA s' := JA_Q (h.mono bP_le_bQ) g
