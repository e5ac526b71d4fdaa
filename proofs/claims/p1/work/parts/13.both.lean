/-! Every call on the fresh objects. -/
def ri_eqi (a b : Nat) (as : List Value) : Prop := ∃ (z : Int32) (fs : List Value) (M1 M2 : ri_M), ri_c 19 a (.ref 1 :: as) ri_M3 = some (some (.int z), M1, 0, 0) ∧ M1[152]? = some (.inr (11, fs)) ∧ ri_c 19 b (.ref 153 :: as) M1 = some (some (.int z), M2, 0, 0)
def ri_eql (a b : Nat) (as : List Value) : Prop := ∃ (z : Int64) (fs : List Value) (M1 M2 : ri_M), ri_c 19 a (.ref 1 :: as) ri_M3 = some (some (.long z), M1, 0, 0) ∧ M1[152]? = some (.inr (11, fs)) ∧ ri_c 19 b (.ref 153 :: as) M1 = some (some (.long z), M2, 0, 0)
def ri_both (a b : Nat) (as : List Value) : Bool := match ri_c 19 a (.ref 1 :: as) ri_M3 with
  | some (some (.int v), M1, 0, 0) => (match (M1[152]? : Option ri_C) with
    | some (Sum.inr (11, _)) => (match ri_c 19 b (.ref 153 :: as) M1 with
      | some (some (.int w), _, 0, 0) => decide (v = w)
      | _ => false)
    | _ => false)
  | _ => false
theorem ri_both_ok {a b : Nat} {as : List Value} (h : ri_both a b as = true) : ri_eqi a b as := by
  unfold ri_both at h
  split at h
  · next v M1 h1 =>
    split at h
    · next fs h9 =>
      split at h
      · next w M2 h2 =>
        have e := of_decide_eq_true h
        subst e
        exact ⟨v, fs, M1, M2, h1, h9, h2⟩
      · cases h
    · cases h
  · cases h
