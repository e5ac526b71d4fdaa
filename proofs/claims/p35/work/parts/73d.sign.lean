/-! The class's WORD signs. -/
theorem sp_same {s : wS} {i len y z : Nat} (hy : y < 16) (hz : z < 16) (h : sp s i len y) (g : sp s i len z) : y = z := by
  have d : ∀ y, y < 16 → ∀ z, z < 16 → y ≠ z → rs_L.getD y 0 = rs_L.getD z 0 → ∃ j, j < rs_L.getD y 0 ∧ rs_ch y (Int32.ofNat j) ≠ rs_ch z (Int32.ofNat j) := by decide +kernel
  by_cases e : y = z
  · exact e
  · exfalso
    obtain ⟨j, hj, hn⟩ := d y hy z hz e (h.1.symm.trans g.1)
    exact hn ((h.2 j (by rw [h.1]; exact hj)).symm.trans (g.2 j (by rw [h.1]; exact hj)))
/-- the sign of a WORD: 15 and its place, or 1 -/
noncomputable def WS (s : wS) (i len : Nat) (t : Int32) : Prop := (∃ z, z < 16 ∧ t = Int32.ofNat (15 + z) ∧ sp s i len z) ∨ (t = 1 ∧ ∀ z, z < 16 → ¬ sp s i len z)
theorem ws_step {α : Type} {x1 x2 : Int32} {z : Nat} {s : wS} {f g : Option α} {Q : α → Prop} (hz : z < 16) (hT : (s.1 1 1).toInt ≤ 400) (h0 : 0 ≤ x1.toInt) (h1 : x1.toInt ≤ x2.toInt) (h4 : x2.toInt ≤ 400) (hf : ¬ sp s x1.toNatClampNeg (x2.toInt - x1.toInt).toNat z → Tot f Q) (hg : sp s x1.toNatClampNeg (x2.toInt - x1.toInt).toNat z → Tot g Q) : Tot ((wX8_spells x1 x2 z s).bind fun t => if t = 0 then f else g) Q := by
  refine t_bind (wX8_spells_E hz hT h0 h1 h4) (fun t h => t_ite (fun c => ?_) (fun c => ?_))
  · rcases h with h | h
    · rw [h.1] at c; exact absurd c (by decide)
    · exact hf h.2
  · rcases h with h | h
    · exact hg h.2
    · exact absurd h.1 c
theorem wX9_wordSign_E {x1 x2 : Int32} {s : wS} (hT : (s.1 1 1).toInt ≤ 400) (h0 : 0 ≤ x1.toInt) (h1 : x1.toInt ≤ x2.toInt) (h4 : x2.toInt ≤ 400) : Tot (wX9_wordSign x1 x2 s) (fun t => WS s x1.toNatClampNeg (x2.toInt - x1.toInt).toNat t) := by
  unfold wX9_wordSign
  refine ws_step (z := 0) (by decide) hT h0 h1 h4 (fun n0 => ?_) (fun h => t_some (Or.inl ⟨0, by decide, rfl, h⟩))
  refine ws_step (z := 1) (by decide) hT h0 h1 h4 (fun n1 => ?_) (fun h => t_some (Or.inl ⟨1, by decide, rfl, h⟩))
  refine ws_step (z := 2) (by decide) hT h0 h1 h4 (fun n2 => ?_) (fun h => t_some (Or.inl ⟨2, by decide, rfl, h⟩))
  refine ws_step (z := 3) (by decide) hT h0 h1 h4 (fun n3 => ?_) (fun h => t_some (Or.inl ⟨3, by decide, rfl, h⟩))
  refine ws_step (z := 4) (by decide) hT h0 h1 h4 (fun n4 => ?_) (fun h => t_some (Or.inl ⟨4, by decide, rfl, h⟩))
  refine ws_step (z := 5) (by decide) hT h0 h1 h4 (fun n5 => ?_) (fun h => t_some (Or.inl ⟨5, by decide, rfl, h⟩))
  refine ws_step (z := 6) (by decide) hT h0 h1 h4 (fun n6 => ?_) (fun h => t_some (Or.inl ⟨6, by decide, rfl, h⟩))
  refine ws_step (z := 7) (by decide) hT h0 h1 h4 (fun n7 => ?_) (fun h => t_some (Or.inl ⟨7, by decide, rfl, h⟩))
  refine t_bind (P := fun t => WS s x1.toNatClampNeg (x2.toInt - x1.toInt).toNat t) ?_ (fun t h => t_some h)
  unfold wX9_valueWordSign
  refine ws_step (z := 8) (by decide) hT h0 h1 h4 (fun n8 => ?_) (fun h => t_some (Or.inl ⟨8, by decide, rfl, h⟩))
  refine ws_step (z := 9) (by decide) hT h0 h1 h4 (fun n9 => ?_) (fun h => t_some (Or.inl ⟨9, by decide, rfl, h⟩))
  refine ws_step (z := 10) (by decide) hT h0 h1 h4 (fun n10 => ?_) (fun h => t_some (Or.inl ⟨10, by decide, rfl, h⟩))
  refine ws_step (z := 11) (by decide) hT h0 h1 h4 (fun n11 => ?_) (fun h => t_some (Or.inl ⟨11, by decide, rfl, h⟩))
  refine ws_step (z := 12) (by decide) hT h0 h1 h4 (fun n12 => ?_) (fun h => t_some (Or.inl ⟨12, by decide, rfl, h⟩))
  refine ws_step (z := 13) (by decide) hT h0 h1 h4 (fun n13 => ?_) (fun h => t_some (Or.inl ⟨13, by decide, rfl, h⟩))
  refine ws_step (z := 14) (by decide) hT h0 h1 h4 (fun n14 => ?_) (fun h => t_some (Or.inl ⟨14, by decide, rfl, h⟩))
  refine ws_step (z := 15) (by decide) hT h0 h1 h4 (fun n15 => ?_) (fun h => t_some (Or.inl ⟨15, by decide, rfl, h⟩))
  refine t_some (Or.inr ⟨rfl, fun z hz => ?_⟩)
  match z, hz with
  | 0, _ => exact n0
  | 1, _ => exact n1
  | 2, _ => exact n2
  | 3, _ => exact n3
  | 4, _ => exact n4
  | 5, _ => exact n5
  | 6, _ => exact n6
  | 7, _ => exact n7
  | 8, _ => exact n8
  | 9, _ => exact n9
  | 10, _ => exact n10
  | 11, _ => exact n11
  | 12, _ => exact n12
  | 13, _ => exact n13
  | 14, _ => exact n14
  | 15, _ => exact n15
  | k + 16, h => exact absurd h (by omega)
