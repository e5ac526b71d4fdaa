/-! The hearing, on both sides. -/
theorem qi1 {α : Type} {a b : α} : (if (1 : Int32) = 0 then a else b) = b := if_neg (by decide)
theorem qi0 {α : Type} {a b : α} : (if (0 : Int32) = 0 then a else b) = a := if_pos rfl
noncomputable def bHe (k b : Nat) : Bool := (Nat.ble 14 k && Nat.ble k 25) || (Nat.beq k 163 || bO2 k b)
theorem bHe_n {k b : Nat} (h1 : ¬ (14 ≤ k ∧ k ≤ 25)) (h2 : k ≠ 163) (h3 : bO2 k b = false) : bHe k b = false := by
  unfold bHe
  rw [h3, nq_false h2]
  cases e : (Nat.ble 14 k && Nat.ble k 25)
  · rfl
  · exfalso
    simp only [Bool.and_eq_true, Nat.ble_eq] at e
    omega
theorem bO2_le_bHe : ∀ k b, bO2 k b = true → bHe k b = true := fun k b h => by unfold bHe; rw [h, Bool.or_true, Bool.or_true]
theorem JA_hear {s s' : wS} (g : JA s) (a : wA bHe s s') (ri : RI s') (hr : HR 14 (s'.1 163) s') : JA s' := by
  -- the hearing put back, the rest is as bO2 says
  obtain ⟨-, g2, g3, g4, -, g6, g7⟩ := g
  have z : ∀ k, (∀ b, bHe k b = false) → s'.1 k = s.1 k := fun k h => funext fun b => a k b (h b)
  have z1 : s'.1 1 1 = s.1 1 1 := a 1 1 rfl
  have z2 := z 2 (fun _ => rfl)
  have z06 : s'.1 0 6 = s.1 0 6 := a 0 6 rfl
  have z152 : s'.1 152 2 = s.1 152 2 := a 152 2 rfl
  have zT : s'.1 152 1 = s.1 152 1 := a 152 1 rfl
  have z153 := z 153 (fun _ => rfl)
  have z154 := z 154 (fun _ => rfl)
  have z155 := z 155 (fun _ => rfl)
  have z156 := z 156 (fun _ => rfl)
  have z157 := z 157 (fun _ => rfl)
  have z170 := z 170 (fun _ => rfl)
  have z171 := z 171 (fun _ => rfl)
  have z27 := z 27 (fun _ => rfl)
  have hi : ∀ k : Nat, 104 ≤ k → k ≤ 151 → s'.1 k = s.1 k := fun k h1 h2 => z k (fun b => bHe_n (by omega) (by omega) (by
    unfold bO2
    rw [nb_false (show k > 12 by omega) |> fun e => (show (Nat.ble 3 k && Nat.ble k 12) = false by rw [e, Bool.and_false]), nb_false (show k > 43 by omega), nb_false (show k > 103 by omega), nb_false (show k < 158 by omega), nb_false (show k < 164 by omega), nq_false (show k ≠ 152 by omega), Bool.and_false, Bool.and_false]
    rfl))
  refine ⟨ri, by rw [z06, z152]; exact g2, ⟨by rw [z1, zT]; exact g3.1, by rw [z1]; exact g3.2.1, by rw [z2, z153]; exact g3.2.2⟩, by unfold BYR; rw [z2]; exact g4, hr, fun k hk => ?_, fun l hl => ?_⟩
  · rw [z27, z171, z170]
    refine ⟨(g6 k hk).1, fun h => ((g6 k hk).2 h).go ⟨by rw [hi _ (by omega) (by omega)], by rw [hi _ (by omega) (by omega)], by rw [hi _ (by omega) (by omega)], by rw [hi _ (by omega) (by omega)]⟩ (fun j h1 h2 => hi _ (by omega) (by omega))⟩
  · rw [z152] at hl
    obtain ⟨x, x1, x2⟩ := g7 l hl
    have hl6 : l < 6 := by have := ri.1.2.1; rw [z152] at this; omega
    refine ⟨x, x1.go (a _ _ ?_) (a _ _ ?_) (fun j h1 h2 => z _ (fun b => bHe_n (by omega) (by omega) ?_)), x2.keep z155 z154 z157 z156⟩
    · have : ∀ l, l < 6 → bHe (44 + 10 * l) 1 = false := by decide +kernel
      exact this l hl6
    · have : ∀ l, l < 6 → bHe (44 + 10 * l) 6 = false := by decide +kernel
      exact this l hl6
    · have hk : (44 + 10 * l + j - 44) % 10 = j := by omega
      unfold bO2
      rw [hk, nb_false (show 44 + 10 * l + j > 12 by omega), Bool.and_false, nb_false (show 44 + 10 * l + j > 43 by omega), Bool.and_false, nb_false (show j < 6 by omega), nq_false (show j ≠ 0 by omega), nb_false (show 44 + 10 * l + j < 158 by omega), nb_false (show 44 + 10 * l + j < 164 by omega), nq_false (show 44 + 10 * l + j ≠ 152 by omega)]
      simp only [Bool.false_and, Bool.false_or, Bool.and_false, Bool.or_false]
section HEAR
variable {s : wS}
theorem JA.c (g : JA s) : qC (s.1 163) := g.1.1.1
theorem JA.h (g : JA s) : HR 14 (s.1 163) s := g.2.2.2.2.1
/-- a COURT is told -/
theorem told_iff (g : JA s) : (0 < (s.1 163 1).toInt ∧ 0 < (s.1 163 2).toInt) ↔ 0 < (s.1 163 0).toInt := by
  obtain ⟨c0, c1, c2, c3, -⟩ := g.c
  have x := g.h.2.2.1
  constructor
  · rintro ⟨a, b⟩
    by_cases q : (s.1 163 0).toInt = 0
    · have e : s.1 163 0 = 0 := Int32.toInt_inj.1 q
      have := x e
      rw [this.1, t_i0] at a
      omega
    · omega
  · exact c3
theorem isTold15_E (g : JA s) : wX0_isTold 15 s = some (if 0 < (s.1 163 0).toInt then 1 else 0) := by
  have hc := g.h.1.1
  have ti := told_iff g
  unfold wX0_isTold
  rw [wld_E (by decide) (by decide), t_sbe]
  have e1 : s.1 (15 + 1) (Int32.toNatClampNeg 1) = s.1 163 1 := hc.2.1
  have e2 : s.1 (15 + 1) (Int32.toNatClampNeg 2) = s.1 163 2 := hc.2.2
  rw [e1]
  by_cases c1 : 0 < s.1 163 1
  · have a := t_lt c1
    rw [t_i0] at a
    rw [if_pos c1, wld_E (by decide) (by decide), t_sbe, e2]
    by_cases c2 : 0 < s.1 163 2
    · have b := t_lt c2
      rw [t_i0] at b
      rw [if_pos c2, if_pos (ti.1 ⟨a, b⟩)]
    · rw [if_neg c2, if_neg (fun q => c2 (Int32.lt_iff_toInt_lt.2 (by rw [t_i0]; exact (ti.2 q).2)))]
  · rw [if_neg c1, if_neg (fun q => c1 (Int32.lt_iff_toInt_lt.2 (by rw [t_i0]; exact (ti.2 q).1)))]
theorem isCourt_E : wX11_isCourt s = some (if 0 < (s.1 163 0).toInt then 1 else 0) := by
  unfold wX11_isCourt
  by_cases c : 0 < s.1 163 0
  · rw [if_pos c, if_pos (by have := t_lt c; rw [t_i0] at this; exact this)]
  · rw [if_neg c, if_neg (by have := t_ge c; rw [t_i0] at this; omega)]
theorem in_I {x lo hi : Int32} : wX11_in (x.toInt64) (lo.toInt64) (hi.toInt64) s = some (if lo.toInt ≤ x.toInt ∧ x.toInt ≤ hi.toInt then 1 else 0) := by
  rw [in_E]
  by_cases c : x < lo ∨ hi < x
  · rw [if_pos c, if_neg (fun q => by
      rcases c with c | c
      · have := t_lt c; omega
      · have := t_lt c; omega)]
  · rw [if_neg c, if_pos ⟨t_ge (fun q => c (Or.inl q)), t_ge (fun q => c (Or.inr q))⟩]
theorem in_02 {x : Int32} : wX11_in (x.toInt64) 0 2 s = some (if 0 ≤ x.toInt ∧ x.toInt ≤ 2 then 1 else 0) := in_I (lo := 0) (hi := 2)
theorem isKind_E {x : Int32} : wX11_isKind x s = some (if 0 < (s.1 163 0).toInt ∧ 0 ≤ x.toInt ∧ x.toInt ≤ 2 then 1 else 0) := by
  unfold wX11_isKind
  rw [isCourt_E, t_sbe]
  by_cases c : 0 < (s.1 163 0).toInt
  · rw [if_pos c, if_neg (by decide), in_02, t_sbe]
    by_cases d : 0 ≤ x.toInt ∧ x.toInt ≤ 2
    · rw [if_pos d, if_neg (by decide), if_pos ⟨c, d⟩]
    · rw [if_neg d, if_pos rfl, if_neg (fun q => d q.2)]
  · rw [if_neg c, if_pos rfl, if_neg (fun q => c q.1)]
/-- there is such a thing -/
noncomputable def TH (f : Nat → Int32) (x y : Int32) : Prop := (0 ≤ x.toInt ∧ x.toInt ≤ 2) ∧ 0 ≤ y.toInt ∧ y.toInt < (f x.toNatClampNeg).toInt
end HEAR
