/-! The class's NUMBERS and WORDS. -/
noncomputable def nv (s : wS) : Nat → Nat → Int32 → Int32
  | _, 0, v => v
  | i, m + 1, v => nv s (i + 1) m (v * 10 + bt s i - 48)
theorem wX9_numberAt_h14_E {x2 : Int32} {s : wS} (hT : (s.1 1 1).toInt ≤ 400) : ∀ (n : Nat) {m : Nat} {v i : Int32}, 0 ≤ i.toInt → x2.toInt ≤ 400 → i.toInt + m = x2.toInt → m < n → wX9_numberAt_h14 x2 s n v i = some (nv s i.toNatClampNeg m v) := by
  intro n
  induction n with
  | zero => intro m v i _ _ _ h; exact absurd h (by omega)
  | succ n ih =>
    intro m v i h0 h4 hm hn
    rw [wX9_numberAt_h14]
    by_cases c : i < x2
    · have hc := t_lt c
      obtain ⟨k, rfl⟩ : ∃ k, m = k + 1 := ⟨m - 1, by omega⟩
      rw [if_pos c, wX8_byteAt_E h0 hT]
      have e1 := t_p1 (x := i) h0 (by omega)
      have en : (i + 1).toNatClampNeg = i.toNatClampNeg + 1 := by unfold Int32.toNatClampNeg; omega
      show wX9_numberAt_h14 x2 s n (v * 10 + bt s i.toNatClampNeg - 48) (i + 1) = _
      rw [ih (m := k) (by omega) h4 (by omega) (by omega), en]
      rfl
    · have hc := t_ge c
      obtain rfl : m = 0 := by omega
      rw [if_neg c]
      rfl
theorem wX9_numberAt_E {x1 x2 : Int32} {s : wS} (hT : (s.1 1 1).toInt ≤ 400) (h0 : 0 ≤ x1.toInt) (h1 : x1.toInt ≤ x2.toInt) (h4 : x2.toInt ≤ 400) : wX9_numberAt x1 x2 s = some (if 5 < x2.toInt - x1.toInt then -1 else nv s x1.toNatClampNeg (x2.toInt - x1.toInt).toNat 0) := by
  have ed : (x2 - x1).toInt = x2.toInt - x1.toInt := t_sub (by omega) (by omega)
  unfold wX9_numberAt
  by_cases c : (5 : Int32) < x2 - x1
  · have hc := t_lt c
    rw [ed, show (5 : Int32).toInt = 5 from rfl] at hc
    rw [if_pos c, if_pos hc]
  · have hc := t_ge c
    rw [ed, show (5 : Int32).toInt = 5 from rfl] at hc
    rw [if_neg c, if_neg (by omega), wX9_numberAt_h14_E hT wFuel (m := (x2.toInt - x1.toInt).toNat) h0 h4 (by omega) (by
      have e : wFuel = 1099511627776 := rfl
      omega)]
    rfl
/-- a text stands there -/
noncomputable def sp (s : wS) (i len z : Nat) : Prop := len = rs_L.getD z 0 ∧ ∀ j : Nat, j < len → bt s (i + j) = rs_ch z (Int32.ofNat j)
theorem sln_i : ∀ z, z < 16 → (ri_sln z).toInt = rs_L.getD z 0 := by decide +kernel
theorem wX8_spells_h15_E {x1 : Int32} {z : Nat} {s : wS} (hz : z < 16) (hT : (s.1 1 1).toInt ≤ 400) (h0 : 0 ≤ x1.toInt) (h4 : x1.toInt ≤ 400) : ∀ (n : Nat) {k : Int32}, 0 ≤ k.toInt → k.toInt ≤ rs_L.getD z 0 → (rs_L.getD z 0 : Int) - k.toInt < n → Tot (wX8_spells_h15 x1 z s n k) (fun r => (r = .inl () ∧ ∀ j : Nat, k.toInt ≤ j → j < rs_L.getD z 0 → bt s (x1.toNatClampNeg + j) = rs_ch z (Int32.ofNat j)) ∨ (r = .inr () ∧ ∃ j : Nat, j < rs_L.getD z 0 ∧ ¬ bt s (x1.toNatClampNeg + j) = rs_ch z (Int32.ofNat j))) := by
  have hl : ∀ z, z < 16 → rs_L.getD z 0 ≤ 6 := by decide
  have hz6 := hl z hz
  intro n
  induction n with
  | zero => intro k hk0 hk1 hm; exfalso; omega
  | succ n ih =>
    intro k hk0 hk1 hm
    rw [wX8_spells_h15]
    have es := sln_i z hz
    refine t_ite (fun c => ?_) (fun c => ?_)
    · have hc := t_lt c
      rw [es] at hc
      have e := t_add (x := x1) (y := k) (by omega) (by omega)
      rw [wX8_byteAt_E (by omega) hT]
      have en : (x1 + k).toNatClampNeg = x1.toNatClampNeg + k.toNatClampNeg := by unfold Int32.toNatClampNeg; omega
      have ek : Int32.ofNat k.toNatClampNeg = k := by
        apply Int32.toInt_inj.mp
        rw [Int32.toInt_ofNat_of_lt (by unfold Int32.toNatClampNeg; omega)]
        unfold Int32.toNatClampNeg
        omega
      have ew : wsch z k = some (rs_ch z k) := by
        unfold wsch
        rw [if_pos ⟨fun q => by have := t_lt q; rw [t_i0] at this; omega, c⟩]
      show Tot ((wsch z k).bind _) _
      rw [ew]
      show Tot (if bt s (x1 + k).toNatClampNeg = rs_ch z k then _ else _) _
      rw [en]
      refine t_ite (fun c2 => ?_) (fun c2 => t_some (Or.inr ⟨rfl, k.toNatClampNeg, by unfold Int32.toNatClampNeg; omega, by rw [ek]; exact c2⟩))
      have e1 := t_p1 (x := k) hk0 (by omega)
      refine t_mono (ih (k := k + 1) (by omega) (by omega) (by omega)) (fun r h => ?_)
      rcases h with ⟨h1, h2⟩ | h
      · refine Or.inl ⟨h1, fun j h3 h5 => ?_⟩
        by_cases hj : (j : Int) = k.toInt
        · have : j = k.toNatClampNeg := by unfold Int32.toNatClampNeg; omega
          rw [this, ek]
          exact c2
        · exact h2 j (by omega) h5
      · exact Or.inr h
    · have hc := t_ge c
      rw [es] at hc
      exact t_some (Or.inl ⟨rfl, fun j h1 h2 => by omega⟩)
theorem wX8_spells_E {x1 x2 : Int32} {z : Nat} {s : wS} (hz : z < 16) (hT : (s.1 1 1).toInt ≤ 400) (h0 : 0 ≤ x1.toInt) (h1 : x1.toInt ≤ x2.toInt) (h4 : x2.toInt ≤ 400) : Tot (wX8_spells x1 x2 z s) (fun t => (t = 1 ∧ sp s x1.toNatClampNeg (x2.toInt - x1.toInt).toNat z) ∨ (t = 0 ∧ ¬ sp s x1.toNatClampNeg (x2.toInt - x1.toInt).toNat z)) := by
  have ed : (x2 - x1).toInt = x2.toInt - x1.toInt := t_sub (by omega) (by omega)
  have es := sln_i z hz
  unfold wX8_spells
  refine t_ite (fun c => ?_) (fun c => ?_)
  · have hL : x2.toInt - x1.toInt = rs_L.getD z 0 := by rw [← ed, c, es]
    refine t_bind (wX8_spells_h15_E hz hT h0 (by omega) wFuel (k := 0) (by decide) (by rw [t_i0]; omega) (by
      have e : ((wFuel : Nat) : Int) = 1099511627776 := rfl
      rw [t_i0]
      omega)) (fun r h => ?_)
    rcases h with ⟨rfl, h⟩ | ⟨rfl, j, h2, h3⟩
    · exact t_some (Or.inl ⟨rfl, by omega, fun j hj => h j (by rw [t_i0]; omega) (by omega)⟩)
    · exact t_some (Or.inr ⟨rfl, fun q => h3 (q.2 j (by omega))⟩)
  · refine t_some (Or.inr ⟨rfl, fun q => c (Int32.toInt_inj.1 ?_)⟩)
    rw [ed, es]
    have := q.1
    omega
