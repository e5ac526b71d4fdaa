/-! Every call on the fresh objects. -/
def ri_eqv (a b : Nat) (as : List Value) : Prop := ∃ v M1 M2, ri_c 19 a (.ref 1 :: as) ri_M3 = some (some v, M1, 0, 0) ∧ ri_c 19 b (.ref 153 :: as) M1 = some (some v, M2, 0, 0)
def ri_both (a b : Nat) (as : List Value) : Bool := match ri_c 19 a (.ref 1 :: as) ri_M3 with
  | some (some v, M1, 0, 0) => (match ri_c 19 b (.ref 153 :: as) M1 with
    | some (some w, _, 0, 0) => decide (v = w)
    | _ => false)
  | _ => false
theorem ri_both_ok {a b : Nat} {as : List Value} (h : ri_both a b as = true) : ri_eqv a b as := by
  unfold ri_both at h
  split at h
  · next v M1 h1 =>
    split at h
    · next w M2 h2 =>
      have e := of_decide_eq_true h
      subst e
      exact ⟨v, M1, M2, h1, h2⟩
    · cases h
  · cases h
theorem ro_court_k : ri_both 105 203 [] = true := by decide +kernel
theorem ro_court : ri_eqv 105 203 [] := ri_both_ok ro_court_k
theorem ro_law_k : ri_both 106 202 [] = true := by decide +kernel
theorem ro_law : ri_eqv 106 202 [] := ri_both_ok ro_law_k
set_option maxRecDepth 100000 in
set_option maxHeartbeats 4000000 in
theorem ro_thing_0 (x1 x2 x3 : Int32)  (h1 : ¬ x1 < 0) (h2 : ¬ x1 < 3) : ri_eqv 107 218 [.int x1, .int x2, .int x3] := by
  refine ⟨.int (-1), ri_M3, ri_M3, ?_, ?_⟩
  · show ri_c 19 107 [.ref 1, .int x1, .int x2, .int x3] ri_M3 = _
    refine ri_ev_call (N := 6) (L := [some (.ref 1), some (.int x1), some (.int x2), some (.int x3)]) rfl (Nat.le_of_ble_eq_true rfl) ?_
    refine ri_ev_go 2 (pc1 := 2) (L1 := [some (.ref 1), some (.int x1), some (.int x2), some (.int x3)]) (st1 := [.int 3, .int x1]) (M1 := ri_M3) (c1 := 0) (s1 := 0) (fun n => rfl) ?_
    have hc0 : ri_c 18 142 [.int x1, .int 3] ri_M3 = some (some (.int 1), ri_M3, 0, 0) := by
      refine ri_ev_call (N := 8) (L := [some (.int x1), some (.int 3)]) rfl (Nat.le_of_ble_eq_true rfl) ?_
      refine ri_ev_go 1 (pc1 := 1) (L1 := [some (.int x1), some (.int 3)]) (st1 := [.int x1]) (M1 := ri_M3) (c1 := 0) (s1 := 0) (fun n => rfl) ?_
      refine ri_iz_lt_f rfl h1 ?_
      refine ri_ev_go 2 (pc1 := 6) (L1 := [some (.int x1), some (.int 3)]) (st1 := [.int 3, .int x1]) (M1 := ri_M3) (c1 := 0) (s1 := 0) (fun n => rfl) ?_
      refine ri_ic_lt_f rfl h2 ?_
      refine ri_ev_go 2 (pc1 := 14) (L1 := [some (.int x1), some (.int 3)]) (st1 := [.int 1]) (M1 := ri_M3) (c1 := 0) (s1 := 0) (fun n => rfl) ?_
      exact ri_ev_ret (fun n => rfl)
    refine ri_ev_cls (M1 := ri_M3) (v := some (.int 1)) _ rfl (Or.inl rfl) rfl (Nat.le_of_ble_eq_true rfl) hc0 ?_
    refine ri_ev_go 2 (pc1 := 22) (L1 := [some (.ref 1), some (.int x1), some (.int x2), some (.int x3)]) (st1 := [.int (-1)]) (M1 := ri_M3) (c1 := 0) (s1 := 0) (fun n => rfl) ?_
    exact ri_ev_ret (fun n => rfl)
  · show ri_c 19 218 [.ref 153, .int x1, .int x2, .int x3] _ = _
    refine ri_ev_call (N := 6) (L := [some (.ref 153), some (.int x1), some (.int x2), some (.int x3)]) rfl (Nat.le_of_ble_eq_true rfl) ?_
    refine ri_ev_go 2 (pc1 := 2) (L1 := [some (.ref 153), some (.int x1), some (.int x2), some (.int x3)]) (st1 := [.int x1, .ref 153]) (M1 := ri_M3) (c1 := 0) (s1 := 0) (fun n => rfl) ?_
    have hc2 : ri_c 18 211 [.ref 153, .int x1] ri_M3 = some (some (.int 0), ri_M3, 0, 0) := by
      refine ri_ev_call (N := 5) (L := [some (.ref 153), some (.int x1)]) rfl (Nat.le_of_ble_eq_true rfl) ?_
      refine ri_ev_go 1 (pc1 := 1) (L1 := [some (.ref 153), some (.int x1)]) (st1 := [.ref 153]) (M1 := ri_M3) (c1 := 0) (s1 := 0) (fun n => rfl) ?_
      have hc1 : ri_c 17 209 [.ref 153] ri_M3 = some (some (.int 0), ri_M3, 0, 0) := by
        refine ri_ev_call (N := 7) (L := [some (.ref 153)]) rfl (Nat.le_of_ble_eq_true rfl) ?_
        refine ri_ev_go 6 (pc1 := 14) (L1 := [some (.ref 153)]) (st1 := [.int 0]) (M1 := ri_M3) (c1 := 0) (s1 := 0) (fun n => rfl) ?_
        exact ri_ev_ret (fun n => rfl)
      refine ri_ev_clv (k := 152) (M1 := ri_M3) (v := some (.int 0)) _ rfl rfl rfl rfl (Nat.le_of_ble_eq_true rfl) hc1 ?_
      refine ri_ev_go 2 (pc1 := 24) (L1 := [some (.ref 153), some (.int x1)]) (st1 := [.int 0]) (M1 := ri_M3) (c1 := 0) (s1 := 0) (fun n => rfl) ?_
      exact ri_ev_ret (fun n => rfl)
    refine ri_ev_clv (k := 152) (M1 := ri_M3) (v := some (.int 0)) _ rfl rfl rfl rfl (Nat.le_of_ble_eq_true rfl) hc2 ?_
    refine ri_ev_go 2 (pc1 := 21) (L1 := [some (.ref 153), some (.int x1), some (.int x2), some (.int x3)]) (st1 := [.int (-1)]) (M1 := ri_M3) (c1 := 0) (s1 := 0) (fun n => rfl) ?_
    exact ri_ev_ret (fun n => rfl)
set_option maxRecDepth 100000 in
set_option maxHeartbeats 4000000 in
theorem ro_thing_1 (x1 x2 x3 : Int32)  (h1 : ¬ x1 < 0) (h2 : x1 < 3) : ri_eqv 107 218 [.int x1, .int x2, .int x3] := by
  refine ⟨.int (-1), ri_M3, ri_M3, ?_, ?_⟩
  · show ri_c 19 107 [.ref 1, .int x1, .int x2, .int x3] ri_M3 = _
    refine ri_ev_call (N := 11) (L := [some (.ref 1), some (.int x1), some (.int x2), some (.int x3)]) rfl (Nat.le_of_ble_eq_true rfl) ?_
    refine ri_ev_go 2 (pc1 := 2) (L1 := [some (.ref 1), some (.int x1), some (.int x2), some (.int x3)]) (st1 := [.int 3, .int x1]) (M1 := ri_M3) (c1 := 0) (s1 := 0) (fun n => rfl) ?_
    have hc0 : ri_c 18 142 [.int x1, .int 3] ri_M3 = some (some (.int 0), ri_M3, 0, 0) := by
      refine ri_ev_call (N := 7) (L := [some (.int x1), some (.int 3)]) rfl (Nat.le_of_ble_eq_true rfl) ?_
      refine ri_ev_go 1 (pc1 := 1) (L1 := [some (.int x1), some (.int 3)]) (st1 := [.int x1]) (M1 := ri_M3) (c1 := 0) (s1 := 0) (fun n => rfl) ?_
      refine ri_iz_lt_f rfl h1 ?_
      refine ri_ev_go 2 (pc1 := 6) (L1 := [some (.int x1), some (.int 3)]) (st1 := [.int 3, .int x1]) (M1 := ri_M3) (c1 := 0) (s1 := 0) (fun n => rfl) ?_
      refine ri_ic_lt_t (t := 13) rfl h2 rfl ?_
      refine ri_ev_go 1 (pc1 := 14) (L1 := [some (.int x1), some (.int 3)]) (st1 := [.int 0]) (M1 := ri_M3) (c1 := 0) (s1 := 0) (fun n => rfl) ?_
      exact ri_ev_ret (fun n => rfl)
    refine ri_ev_cls (M1 := ri_M3) (v := some (.int 0)) _ rfl (Or.inl rfl) rfl (Nat.le_of_ble_eq_true rfl) hc0 ?_
    refine ri_ev_go 4 (pc1 := 15) (L1 := [some (.ref 1), some (.int x1), some (.int x2), some (.int x3)]) (st1 := [.ref 16]) (M1 := ri_M3) (c1 := 0) (s1 := 0) (fun n => rfl) ?_
    have hc1 : ri_c 18 5 [.ref 16] ri_M3 = some (some (.int 0), ri_M3, 0, 0) := by
      refine ri_ev_call (N := 7) (L := [some (.ref 16)]) rfl (Nat.le_of_ble_eq_true rfl) ?_
      refine ri_ev_go 6 (pc1 := 23) (L1 := [some (.ref 16)]) (st1 := [.int 0]) (M1 := ri_M3) (c1 := 0) (s1 := 0) (fun n => rfl) ?_
      exact ri_ev_ret (fun n => rfl)
    refine ri_ev_clv (k := 15) (M1 := ri_M3) (v := some (.int 0)) _ rfl rfl rfl rfl (Nat.le_of_ble_eq_true rfl) hc1 ?_
    refine ri_ev_go 2 (pc1 := 22) (L1 := [some (.ref 1), some (.int x1), some (.int x2), some (.int x3)]) (st1 := [.int (-1)]) (M1 := ri_M3) (c1 := 0) (s1 := 0) (fun n => rfl) ?_
    exact ri_ev_ret (fun n => rfl)
  · show ri_c 19 218 [.ref 153, .int x1, .int x2, .int x3] _ = _
    refine ri_ev_call (N := 6) (L := [some (.ref 153), some (.int x1), some (.int x2), some (.int x3)]) rfl (Nat.le_of_ble_eq_true rfl) ?_
    refine ri_ev_go 2 (pc1 := 2) (L1 := [some (.ref 153), some (.int x1), some (.int x2), some (.int x3)]) (st1 := [.int x1, .ref 153]) (M1 := ri_M3) (c1 := 0) (s1 := 0) (fun n => rfl) ?_
    have hc3 : ri_c 18 211 [.ref 153, .int x1] ri_M3 = some (some (.int 0), ri_M3, 0, 0) := by
      refine ri_ev_call (N := 5) (L := [some (.ref 153), some (.int x1)]) rfl (Nat.le_of_ble_eq_true rfl) ?_
      refine ri_ev_go 1 (pc1 := 1) (L1 := [some (.ref 153), some (.int x1)]) (st1 := [.ref 153]) (M1 := ri_M3) (c1 := 0) (s1 := 0) (fun n => rfl) ?_
      have hc2 : ri_c 17 209 [.ref 153] ri_M3 = some (some (.int 0), ri_M3, 0, 0) := by
        refine ri_ev_call (N := 7) (L := [some (.ref 153)]) rfl (Nat.le_of_ble_eq_true rfl) ?_
        refine ri_ev_go 6 (pc1 := 14) (L1 := [some (.ref 153)]) (st1 := [.int 0]) (M1 := ri_M3) (c1 := 0) (s1 := 0) (fun n => rfl) ?_
        exact ri_ev_ret (fun n => rfl)
      refine ri_ev_clv (k := 152) (M1 := ri_M3) (v := some (.int 0)) _ rfl rfl rfl rfl (Nat.le_of_ble_eq_true rfl) hc2 ?_
      refine ri_ev_go 2 (pc1 := 24) (L1 := [some (.ref 153), some (.int x1)]) (st1 := [.int 0]) (M1 := ri_M3) (c1 := 0) (s1 := 0) (fun n => rfl) ?_
      exact ri_ev_ret (fun n => rfl)
    refine ri_ev_clv (k := 152) (M1 := ri_M3) (v := some (.int 0)) _ rfl rfl rfl rfl (Nat.le_of_ble_eq_true rfl) hc3 ?_
    refine ri_ev_go 2 (pc1 := 21) (L1 := [some (.ref 153), some (.int x1), some (.int x2), some (.int x3)]) (st1 := [.int (-1)]) (M1 := ri_M3) (c1 := 0) (s1 := 0) (fun n => rfl) ?_
    exact ri_ev_ret (fun n => rfl)
set_option maxRecDepth 100000 in
set_option maxHeartbeats 4000000 in
theorem ro_thing_2 (x1 x2 x3 : Int32)  (h1 : x1 < 0) : ri_eqv 107 218 [.int x1, .int x2, .int x3] := by
  refine ⟨.int (-1), ri_M3, ri_M3, ?_, ?_⟩
  · show ri_c 19 107 [.ref 1, .int x1, .int x2, .int x3] ri_M3 = _
    refine ri_ev_call (N := 6) (L := [some (.ref 1), some (.int x1), some (.int x2), some (.int x3)]) rfl (Nat.le_of_ble_eq_true rfl) ?_
    refine ri_ev_go 2 (pc1 := 2) (L1 := [some (.ref 1), some (.int x1), some (.int x2), some (.int x3)]) (st1 := [.int 3, .int x1]) (M1 := ri_M3) (c1 := 0) (s1 := 0) (fun n => rfl) ?_
    have hc0 : ri_c 18 142 [.int x1, .int 3] ri_M3 = some (some (.int 1), ri_M3, 0, 0) := by
      refine ri_ev_call (N := 5) (L := [some (.int x1), some (.int 3)]) rfl (Nat.le_of_ble_eq_true rfl) ?_
      refine ri_ev_go 1 (pc1 := 1) (L1 := [some (.int x1), some (.int 3)]) (st1 := [.int x1]) (M1 := ri_M3) (c1 := 0) (s1 := 0) (fun n => rfl) ?_
      refine ri_iz_lt_t (t := 9) rfl h1 rfl ?_
      refine ri_ev_go 2 (pc1 := 14) (L1 := [some (.int x1), some (.int 3)]) (st1 := [.int 1]) (M1 := ri_M3) (c1 := 0) (s1 := 0) (fun n => rfl) ?_
      exact ri_ev_ret (fun n => rfl)
    refine ri_ev_cls (M1 := ri_M3) (v := some (.int 1)) _ rfl (Or.inl rfl) rfl (Nat.le_of_ble_eq_true rfl) hc0 ?_
    refine ri_ev_go 2 (pc1 := 22) (L1 := [some (.ref 1), some (.int x1), some (.int x2), some (.int x3)]) (st1 := [.int (-1)]) (M1 := ri_M3) (c1 := 0) (s1 := 0) (fun n => rfl) ?_
    exact ri_ev_ret (fun n => rfl)
  · show ri_c 19 218 [.ref 153, .int x1, .int x2, .int x3] _ = _
    refine ri_ev_call (N := 6) (L := [some (.ref 153), some (.int x1), some (.int x2), some (.int x3)]) rfl (Nat.le_of_ble_eq_true rfl) ?_
    refine ri_ev_go 2 (pc1 := 2) (L1 := [some (.ref 153), some (.int x1), some (.int x2), some (.int x3)]) (st1 := [.int x1, .ref 153]) (M1 := ri_M3) (c1 := 0) (s1 := 0) (fun n => rfl) ?_
    have hc2 : ri_c 18 211 [.ref 153, .int x1] ri_M3 = some (some (.int 0), ri_M3, 0, 0) := by
      refine ri_ev_call (N := 5) (L := [some (.ref 153), some (.int x1)]) rfl (Nat.le_of_ble_eq_true rfl) ?_
      refine ri_ev_go 1 (pc1 := 1) (L1 := [some (.ref 153), some (.int x1)]) (st1 := [.ref 153]) (M1 := ri_M3) (c1 := 0) (s1 := 0) (fun n => rfl) ?_
      have hc1 : ri_c 17 209 [.ref 153] ri_M3 = some (some (.int 0), ri_M3, 0, 0) := by
        refine ri_ev_call (N := 7) (L := [some (.ref 153)]) rfl (Nat.le_of_ble_eq_true rfl) ?_
        refine ri_ev_go 6 (pc1 := 14) (L1 := [some (.ref 153)]) (st1 := [.int 0]) (M1 := ri_M3) (c1 := 0) (s1 := 0) (fun n => rfl) ?_
        exact ri_ev_ret (fun n => rfl)
      refine ri_ev_clv (k := 152) (M1 := ri_M3) (v := some (.int 0)) _ rfl rfl rfl rfl (Nat.le_of_ble_eq_true rfl) hc1 ?_
      refine ri_ev_go 2 (pc1 := 24) (L1 := [some (.ref 153), some (.int x1)]) (st1 := [.int 0]) (M1 := ri_M3) (c1 := 0) (s1 := 0) (fun n => rfl) ?_
      exact ri_ev_ret (fun n => rfl)
    refine ri_ev_clv (k := 152) (M1 := ri_M3) (v := some (.int 0)) _ rfl rfl rfl rfl (Nat.le_of_ble_eq_true rfl) hc2 ?_
    refine ri_ev_go 2 (pc1 := 21) (L1 := [some (.ref 153), some (.int x1), some (.int x2), some (.int x3)]) (st1 := [.int (-1)]) (M1 := ri_M3) (c1 := 0) (s1 := 0) (fun n => rfl) ?_
    exact ri_ev_ret (fun n => rfl)
theorem ro_thing (x1 x2 x3 : Int32)  : ri_eqv 107 218 [.int x1, .int x2, .int x3] := by
  by_cases h1 : x1 < 0
  · exact ro_thing_2 x1 x2 x3  h1
  · by_cases h2 : x1 < 3
    · exact ro_thing_1 x1 x2 x3  h1 h2
    · exact ro_thing_0 x1 x2 x3  h1 h2
set_option maxRecDepth 100000 in
set_option maxHeartbeats 4000000 in
theorem ro_far_0 (x1 x2 x3 x4 : Int32)  (h1 : ¬ x1 < 0) : ri_eqv 108 222 [.int x1, .int x2, .int x3, .int x4] := by
  refine ⟨.long (-1000000000000), ri_M3, ri_M3, ?_, ?_⟩
  · show ri_c 19 108 [.ref 1, .int x1, .int x2, .int x3, .int x4] ri_M3 = _
    refine ri_ev_call (N := 8) (L := [some (.ref 1), some (.int x1), some (.int x2), some (.int x3), some (.int x4), none]) rfl (Nat.le_of_ble_eq_true rfl) ?_
    refine ri_ev_go 2 (pc1 := 2) (L1 := [some (.ref 1), some (.int x1), some (.int x2), some (.int x3), some (.int x4), none]) (st1 := [.int x1, .ref 1]) (M1 := ri_M3) (c1 := 0) (s1 := 0) (fun n => rfl) ?_
    have hc1 : ri_c 18 150 [.ref 1, .int x1] ri_M3 = some (some (.null), ri_M3, 0, 0) := by
      refine ri_ev_call (N := 7) (L := [some (.ref 1), some (.int x1), none]) rfl (Nat.le_of_ble_eq_true rfl) ?_
      refine ri_ev_go 3 (pc1 := 7) (L1 := [some (.ref 1), some (.int x1), none]) (st1 := [.ref 16]) (M1 := ri_M3) (c1 := 0) (s1 := 0) (fun n => rfl) ?_
      have hc0 : ri_c 17 5 [.ref 16] ri_M3 = some (some (.int 0), ri_M3, 0, 0) := by
        refine ri_ev_call (N := 7) (L := [some (.ref 16)]) rfl (Nat.le_of_ble_eq_true rfl) ?_
        refine ri_ev_go 6 (pc1 := 23) (L1 := [some (.ref 16)]) (st1 := [.int 0]) (M1 := ri_M3) (c1 := 0) (s1 := 0) (fun n => rfl) ?_
        exact ri_ev_ret (fun n => rfl)
      refine ri_ev_clv (k := 15) (M1 := ri_M3) (v := some (.int 0)) _ rfl rfl rfl rfl (Nat.le_of_ble_eq_true rfl) hc0 ?_
      refine ri_ev_go 2 (pc1 := 34) (L1 := [some (.ref 1), some (.int x1), none]) (st1 := [.null]) (M1 := ri_M3) (c1 := 0) (s1 := 0) (fun n => rfl) ?_
      exact ri_ev_ret (fun n => rfl)
    refine ri_ev_clv (k := 0) (M1 := ri_M3) (v := some (.null)) _ rfl rfl rfl rfl (Nat.le_of_ble_eq_true rfl) hc1 ?_
    refine ri_ev_go 4 (pc1 := 46) (L1 := [some (.ref 1), some (.int x1), some (.int x2), some (.int x3), some (.int x4), some (.null)]) (st1 := [.long (-1000000000000)]) (M1 := ri_M3) (c1 := 0) (s1 := 0) (fun n => rfl) ?_
    exact ri_ev_ret (fun n => rfl)
  · show ri_c 19 222 [.ref 153, .int x1, .int x2, .int x3, .int x4] _ = _
    refine ri_ev_call (N := 6) (L := [some (.ref 153), some (.int x1), some (.int x2), some (.int x3), some (.int x4)]) rfl (Nat.le_of_ble_eq_true rfl) ?_
    refine ri_ev_go 2 (pc1 := 2) (L1 := [some (.ref 153), some (.int x1), some (.int x2), some (.int x3), some (.int x4)]) (st1 := [.int x1, .ref 153]) (M1 := ri_M3) (c1 := 0) (s1 := 0) (fun n => rfl) ?_
    have hc2 : ri_c 18 204 [.ref 153, .int x1] ri_M3 = some (some (.int 0), ri_M3, 0, 0) := by
      refine ri_ev_call (N := 8) (L := [some (.ref 153), some (.int x1)]) rfl (Nat.le_of_ble_eq_true rfl) ?_
      refine ri_ev_go 1 (pc1 := 1) (L1 := [some (.ref 153), some (.int x1)]) (st1 := [.int x1]) (M1 := ri_M3) (c1 := 0) (s1 := 0) (fun n => rfl) ?_
      refine ri_iz_lt_f rfl h1 ?_
      refine ri_ev_go 3 (pc1 := 9) (L1 := [some (.ref 153), some (.int x1)]) (st1 := [.int 0, .int x1]) (M1 := ri_M3) (c1 := 0) (s1 := 0) (fun n => rfl) ?_
      refine ri_ic_ge_t (t := 16) rfl (Int32.not_lt.mp h1) rfl ?_
      refine ri_ev_go 1 (pc1 := 17) (L1 := [some (.ref 153), some (.int x1)]) (st1 := [.int 0]) (M1 := ri_M3) (c1 := 0) (s1 := 0) (fun n => rfl) ?_
      exact ri_ev_ret (fun n => rfl)
    refine ri_ev_clv (k := 152) (M1 := ri_M3) (v := some (.int 0)) _ rfl rfl rfl rfl (Nat.le_of_ble_eq_true rfl) hc2 ?_
    refine ri_ev_go 2 (pc1 := 42) (L1 := [some (.ref 153), some (.int x1), some (.int x2), some (.int x3), some (.int x4)]) (st1 := [.long (-1000000000000)]) (M1 := ri_M3) (c1 := 0) (s1 := 0) (fun n => rfl) ?_
    exact ri_ev_ret (fun n => rfl)
set_option maxRecDepth 100000 in
set_option maxHeartbeats 4000000 in
theorem ro_far_1 (x1 x2 x3 x4 : Int32)  (h1 : x1 < 0) : ri_eqv 108 222 [.int x1, .int x2, .int x3, .int x4] := by
  refine ⟨.long (-1000000000000), ri_M3, ri_M3, ?_, ?_⟩
  · show ri_c 19 108 [.ref 1, .int x1, .int x2, .int x3, .int x4] ri_M3 = _
    refine ri_ev_call (N := 8) (L := [some (.ref 1), some (.int x1), some (.int x2), some (.int x3), some (.int x4), none]) rfl (Nat.le_of_ble_eq_true rfl) ?_
    refine ri_ev_go 2 (pc1 := 2) (L1 := [some (.ref 1), some (.int x1), some (.int x2), some (.int x3), some (.int x4), none]) (st1 := [.int x1, .ref 1]) (M1 := ri_M3) (c1 := 0) (s1 := 0) (fun n => rfl) ?_
    have hc1 : ri_c 18 150 [.ref 1, .int x1] ri_M3 = some (some (.null), ri_M3, 0, 0) := by
      refine ri_ev_call (N := 7) (L := [some (.ref 1), some (.int x1), none]) rfl (Nat.le_of_ble_eq_true rfl) ?_
      refine ri_ev_go 3 (pc1 := 7) (L1 := [some (.ref 1), some (.int x1), none]) (st1 := [.ref 16]) (M1 := ri_M3) (c1 := 0) (s1 := 0) (fun n => rfl) ?_
      have hc0 : ri_c 17 5 [.ref 16] ri_M3 = some (some (.int 0), ri_M3, 0, 0) := by
        refine ri_ev_call (N := 7) (L := [some (.ref 16)]) rfl (Nat.le_of_ble_eq_true rfl) ?_
        refine ri_ev_go 6 (pc1 := 23) (L1 := [some (.ref 16)]) (st1 := [.int 0]) (M1 := ri_M3) (c1 := 0) (s1 := 0) (fun n => rfl) ?_
        exact ri_ev_ret (fun n => rfl)
      refine ri_ev_clv (k := 15) (M1 := ri_M3) (v := some (.int 0)) _ rfl rfl rfl rfl (Nat.le_of_ble_eq_true rfl) hc0 ?_
      refine ri_ev_go 2 (pc1 := 34) (L1 := [some (.ref 1), some (.int x1), none]) (st1 := [.null]) (M1 := ri_M3) (c1 := 0) (s1 := 0) (fun n => rfl) ?_
      exact ri_ev_ret (fun n => rfl)
    refine ri_ev_clv (k := 0) (M1 := ri_M3) (v := some (.null)) _ rfl rfl rfl rfl (Nat.le_of_ble_eq_true rfl) hc1 ?_
    refine ri_ev_go 4 (pc1 := 46) (L1 := [some (.ref 1), some (.int x1), some (.int x2), some (.int x3), some (.int x4), some (.null)]) (st1 := [.long (-1000000000000)]) (M1 := ri_M3) (c1 := 0) (s1 := 0) (fun n => rfl) ?_
    exact ri_ev_ret (fun n => rfl)
  · show ri_c 19 222 [.ref 153, .int x1, .int x2, .int x3, .int x4] _ = _
    refine ri_ev_call (N := 6) (L := [some (.ref 153), some (.int x1), some (.int x2), some (.int x3), some (.int x4)]) rfl (Nat.le_of_ble_eq_true rfl) ?_
    refine ri_ev_go 2 (pc1 := 2) (L1 := [some (.ref 153), some (.int x1), some (.int x2), some (.int x3), some (.int x4)]) (st1 := [.int x1, .ref 153]) (M1 := ri_M3) (c1 := 0) (s1 := 0) (fun n => rfl) ?_
    have hc2 : ri_c 18 204 [.ref 153, .int x1] ri_M3 = some (some (.int 0), ri_M3, 0, 0) := by
      refine ri_ev_call (N := 4) (L := [some (.ref 153), some (.int x1)]) rfl (Nat.le_of_ble_eq_true rfl) ?_
      refine ri_ev_go 1 (pc1 := 1) (L1 := [some (.ref 153), some (.int x1)]) (st1 := [.int x1]) (M1 := ri_M3) (c1 := 0) (s1 := 0) (fun n => rfl) ?_
      refine ri_iz_lt_t (t := 16) rfl h1 rfl ?_
      refine ri_ev_go 1 (pc1 := 17) (L1 := [some (.ref 153), some (.int x1)]) (st1 := [.int 0]) (M1 := ri_M3) (c1 := 0) (s1 := 0) (fun n => rfl) ?_
      exact ri_ev_ret (fun n => rfl)
    refine ri_ev_clv (k := 152) (M1 := ri_M3) (v := some (.int 0)) _ rfl rfl rfl rfl (Nat.le_of_ble_eq_true rfl) hc2 ?_
    refine ri_ev_go 2 (pc1 := 42) (L1 := [some (.ref 153), some (.int x1), some (.int x2), some (.int x3), some (.int x4)]) (st1 := [.long (-1000000000000)]) (M1 := ri_M3) (c1 := 0) (s1 := 0) (fun n => rfl) ?_
    exact ri_ev_ret (fun n => rfl)
theorem ro_far (x1 x2 x3 x4 : Int32)  : ri_eqv 108 222 [.int x1, .int x2, .int x3, .int x4] := by
  by_cases h1 : x1 < 0
  · exact ro_far_1 x1 x2 x3 x4  h1
  · exact ro_far_0 x1 x2 x3 x4  h1
set_option maxRecDepth 100000 in
set_option maxHeartbeats 4000000 in
theorem ro_answer_0 (x1 x2 x3 x4 : Int32)  (h1 : ¬ x1 < 0) (h2 : ¬ x1 < 6) : ri_eqv 109 224 [.int x1, .int x2, .int x3, .int x4] := by
  refine ⟨.int (-1), ri_M3, ri_M3, ?_, ?_⟩
  · show ri_c 19 109 [.ref 1, .int x1, .int x2, .int x3, .int x4] ri_M3 = _
    refine ri_ev_call (N := 6) (L := [some (.ref 1), some (.int x1), some (.int x2), some (.int x3), some (.int x4)]) rfl (Nat.le_of_ble_eq_true rfl) ?_
    refine ri_ev_go 2 (pc1 := 3) (L1 := [some (.ref 1), some (.int x1), some (.int x2), some (.int x3), some (.int x4)]) (st1 := [.int 6, .int x1]) (M1 := ri_M3) (c1 := 0) (s1 := 0) (fun n => rfl) ?_
    have hc0 : ri_c 18 142 [.int x1, .int 6] ri_M3 = some (some (.int 1), ri_M3, 0, 0) := by
      refine ri_ev_call (N := 8) (L := [some (.int x1), some (.int 6)]) rfl (Nat.le_of_ble_eq_true rfl) ?_
      refine ri_ev_go 1 (pc1 := 1) (L1 := [some (.int x1), some (.int 6)]) (st1 := [.int x1]) (M1 := ri_M3) (c1 := 0) (s1 := 0) (fun n => rfl) ?_
      refine ri_iz_lt_f rfl h1 ?_
      refine ri_ev_go 2 (pc1 := 6) (L1 := [some (.int x1), some (.int 6)]) (st1 := [.int 6, .int x1]) (M1 := ri_M3) (c1 := 0) (s1 := 0) (fun n => rfl) ?_
      refine ri_ic_lt_f rfl h2 ?_
      refine ri_ev_go 2 (pc1 := 14) (L1 := [some (.int x1), some (.int 6)]) (st1 := [.int 1]) (M1 := ri_M3) (c1 := 0) (s1 := 0) (fun n => rfl) ?_
      exact ri_ev_ret (fun n => rfl)
    refine ri_ev_cls (M1 := ri_M3) (v := some (.int 1)) _ rfl (Or.inl rfl) rfl (Nat.le_of_ble_eq_true rfl) hc0 ?_
    refine ri_ev_go 2 (pc1 := 21) (L1 := [some (.ref 1), some (.int x1), some (.int x2), some (.int x3), some (.int x4)]) (st1 := [.int (-1)]) (M1 := ri_M3) (c1 := 0) (s1 := 0) (fun n => rfl) ?_
    exact ri_ev_ret (fun n => rfl)
  · show ri_c 19 224 [.ref 153, .int x1, .int x2, .int x3, .int x4] _ = _
    refine ri_ev_call (N := 11) (L := [some (.ref 153), some (.int x1), some (.int x2), some (.int x3), some (.int x4), none]) rfl (Nat.le_of_ble_eq_true rfl) ?_
    refine ri_ev_go 7 (pc1 := 12) (L1 := [some (.ref 153), some (.int x1), some (.int x2), some (.int x3), some (.int x4), none]) (st1 := [.int x1]) (M1 := ri_M3) (c1 := 0) (s1 := 0) (fun n => rfl) ?_
    have hc1 : ri_c 18 214 [.int x1] ri_M3 = some (some (.int 0), ri_M3, 0, 0) := by
      refine ri_ev_call (N := 7) (L := [some (.int x1)]) rfl (Nat.le_of_ble_eq_true rfl) ?_
      refine ri_ev_go 1 (pc1 := 1) (L1 := [some (.int x1)]) (st1 := [.int x1]) (M1 := ri_M3) (c1 := 0) (s1 := 0) (fun n => rfl) ?_
      refine ri_iz_lt_f rfl h1 ?_
      refine ri_ev_go 2 (pc1 := 7) (L1 := [some (.int x1)]) (st1 := [.int 6, .int x1]) (M1 := ri_M3) (c1 := 0) (s1 := 0) (fun n => rfl) ?_
      refine ri_ic_ge_t (t := 14) rfl (Int32.not_lt.mp h2) rfl ?_
      refine ri_ev_go 1 (pc1 := 15) (L1 := [some (.int x1)]) (st1 := [.int 0]) (M1 := ri_M3) (c1 := 0) (s1 := 0) (fun n => rfl) ?_
      exact ri_ev_ret (fun n => rfl)
    refine ri_ev_cls (M1 := ri_M3) (v := some (.int 0)) _ rfl (Or.inl rfl) rfl (Nat.le_of_ble_eq_true rfl) hc1 ?_
    refine ri_ev_go 2 (pc1 := 54) (L1 := [some (.ref 153), some (.int x1), some (.int x2), some (.int x3), some (.int x4), none]) (st1 := [.int (-1)]) (M1 := ri_M3) (c1 := 0) (s1 := 0) (fun n => rfl) ?_
    exact ri_ev_ret (fun n => rfl)
set_option maxRecDepth 100000 in
set_option maxHeartbeats 4000000 in
theorem ro_answer_1 (x1 x2 x3 x4 : Int32)  (h1 : ¬ x1 < 0) (h2 : x1 < 6) (h3 : ¬ x2 < 0) (h4 : ¬ x2 < 3) : ri_eqv 109 224 [.int x1, .int x2, .int x3, .int x4] := by
  refine ⟨.int (-1), ri_M3, ri_M3, ?_, ?_⟩
  · show ri_c 19 109 [.ref 1, .int x1, .int x2, .int x3, .int x4] ri_M3 = _
    refine ri_ev_call (N := 18) (L := [some (.ref 1), some (.int x1), some (.int x2), some (.int x3), some (.int x4)]) rfl (Nat.le_of_ble_eq_true rfl) ?_
    refine ri_ev_go 2 (pc1 := 3) (L1 := [some (.ref 1), some (.int x1), some (.int x2), some (.int x3), some (.int x4)]) (st1 := [.int 6, .int x1]) (M1 := ri_M3) (c1 := 0) (s1 := 0) (fun n => rfl) ?_
    have hc0 : ri_c 18 142 [.int x1, .int 6] ri_M3 = some (some (.int 0), ri_M3, 0, 0) := by
      refine ri_ev_call (N := 7) (L := [some (.int x1), some (.int 6)]) rfl (Nat.le_of_ble_eq_true rfl) ?_
      refine ri_ev_go 1 (pc1 := 1) (L1 := [some (.int x1), some (.int 6)]) (st1 := [.int x1]) (M1 := ri_M3) (c1 := 0) (s1 := 0) (fun n => rfl) ?_
      refine ri_iz_lt_f rfl h1 ?_
      refine ri_ev_go 2 (pc1 := 6) (L1 := [some (.int x1), some (.int 6)]) (st1 := [.int 6, .int x1]) (M1 := ri_M3) (c1 := 0) (s1 := 0) (fun n => rfl) ?_
      refine ri_ic_lt_t (t := 13) rfl h2 rfl ?_
      refine ri_ev_go 1 (pc1 := 14) (L1 := [some (.int x1), some (.int 6)]) (st1 := [.int 0]) (M1 := ri_M3) (c1 := 0) (s1 := 0) (fun n => rfl) ?_
      exact ri_ev_ret (fun n => rfl)
    refine ri_ev_cls (M1 := ri_M3) (v := some (.int 0)) _ rfl (Or.inl rfl) rfl (Nat.le_of_ble_eq_true rfl) hc0 ?_
    refine ri_ev_go 4 (pc1 := 14) (L1 := [some (.ref 1), some (.int x1), some (.int x2), some (.int x3), some (.int x4)]) (st1 := [.int x1, .ref 15]) (M1 := ri_M3) (c1 := 0) (s1 := 0) (fun n => rfl) ?_
    have hc1 : ri_c 18 21 [.ref 15, .int x1] ri_M3 = some (some (.int 9), ri_M3, 0, 0) := by
      refine ri_ev_call (N := 17) (L := [some (.ref 15), some (.int x1), none, none]) rfl (Nat.le_of_ble_eq_true rfl) ?_
      refine ri_ev_go 12 (pc1 := 39) (L1 := [some (.ref 15), some (.int x1), some (.int 0), some (.int 0)]) (st1 := [.int 40, .int 9]) (M1 := ri_M3) (c1 := 0) (s1 := 0) (fun n => rfl) ?_
      refine ri_ev_go 4 (pc1 := 47) (L1 := [some (.ref 15), some (.int x1), some (.int 0), some (.int 0)]) (st1 := [.int 9]) (M1 := ri_M3) (c1 := 0) (s1 := 0) (fun n => rfl) ?_
      exact ri_ev_ret (fun n => rfl)
    refine ri_ev_clv (k := 14) (M1 := ri_M3) (v := some (.int 9)) _ rfl rfl rfl rfl (Nat.le_of_ble_eq_true rfl) hc1 ?_
    refine ri_ev_go 6 (pc1 := 31) (L1 := [some (.ref 1), some (.int x1), some (.int x2), some (.int x3), some (.int x4)]) (st1 := [.int x3, .int x2, .ref 16]) (M1 := ri_M3) (c1 := 0) (s1 := 0) (fun n => rfl) ?_
    have hc3 : ri_c 18 8 [.ref 16, .int x2, .int x3] ri_M3 = some (some (.int 0), ri_M3, 0, 0) := by
      refine ri_ev_call (N := 6) (L := [some (.ref 16), some (.int x2), some (.int x3)]) rfl (Nat.le_of_ble_eq_true rfl) ?_
      refine ri_ev_go 2 (pc1 := 2) (L1 := [some (.ref 16), some (.int x2), some (.int x3)]) (st1 := [.int 3, .int x2]) (M1 := ri_M3) (c1 := 0) (s1 := 0) (fun n => rfl) ?_
      have hc2 : ri_c 17 142 [.int x2, .int 3] ri_M3 = some (some (.int 1), ri_M3, 0, 0) := by
        refine ri_ev_call (N := 8) (L := [some (.int x2), some (.int 3)]) rfl (Nat.le_of_ble_eq_true rfl) ?_
        refine ri_ev_go 1 (pc1 := 1) (L1 := [some (.int x2), some (.int 3)]) (st1 := [.int x2]) (M1 := ri_M3) (c1 := 0) (s1 := 0) (fun n => rfl) ?_
        refine ri_iz_lt_f rfl h3 ?_
        refine ri_ev_go 2 (pc1 := 6) (L1 := [some (.int x2), some (.int 3)]) (st1 := [.int 3, .int x2]) (M1 := ri_M3) (c1 := 0) (s1 := 0) (fun n => rfl) ?_
        refine ri_ic_lt_f rfl h4 ?_
        refine ri_ev_go 2 (pc1 := 14) (L1 := [some (.int x2), some (.int 3)]) (st1 := [.int 1]) (M1 := ri_M3) (c1 := 0) (s1 := 0) (fun n => rfl) ?_
        exact ri_ev_ret (fun n => rfl)
      refine ri_ev_cls (M1 := ri_M3) (v := some (.int 1)) _ rfl (Or.inr rfl) rfl (Nat.le_of_ble_eq_true rfl) hc2 ?_
      refine ri_ev_go 2 (pc1 := 26) (L1 := [some (.ref 16), some (.int x2), some (.int x3)]) (st1 := [.int 0]) (M1 := ri_M3) (c1 := 0) (s1 := 0) (fun n => rfl) ?_
      exact ri_ev_ret (fun n => rfl)
    refine ri_ev_clv (k := 15) (M1 := ri_M3) (v := some (.int 0)) _ rfl rfl rfl rfl (Nat.le_of_ble_eq_true rfl) hc3 ?_
    refine ri_ev_go 2 (pc1 := 60) (L1 := [some (.ref 1), some (.int x1), some (.int x2), some (.int x3), some (.int x4)]) (st1 := [.int (-1)]) (M1 := ri_M3) (c1 := 0) (s1 := 0) (fun n => rfl) ?_
    exact ri_ev_ret (fun n => rfl)
  · show ri_c 19 224 [.ref 153, .int x1, .int x2, .int x3, .int x4] _ = _
    refine ri_ev_call (N := 16) (L := [some (.ref 153), some (.int x1), some (.int x2), some (.int x3), some (.int x4), none]) rfl (Nat.le_of_ble_eq_true rfl) ?_
    refine ri_ev_go 7 (pc1 := 12) (L1 := [some (.ref 153), some (.int x1), some (.int x2), some (.int x3), some (.int x4), none]) (st1 := [.int x1]) (M1 := ri_M3) (c1 := 0) (s1 := 0) (fun n => rfl) ?_
    have hc4 : ri_c 18 214 [.int x1] ri_M3 = some (some (.int 1), ri_M3, 0, 0) := by
      refine ri_ev_call (N := 8) (L := [some (.int x1)]) rfl (Nat.le_of_ble_eq_true rfl) ?_
      refine ri_ev_go 1 (pc1 := 1) (L1 := [some (.int x1)]) (st1 := [.int x1]) (M1 := ri_M3) (c1 := 0) (s1 := 0) (fun n => rfl) ?_
      refine ri_iz_lt_f rfl h1 ?_
      refine ri_ev_go 2 (pc1 := 7) (L1 := [some (.int x1)]) (st1 := [.int 6, .int x1]) (M1 := ri_M3) (c1 := 0) (s1 := 0) (fun n => rfl) ?_
      refine ri_ic_ge_f rfl (Int32.not_le.mpr h2) ?_
      refine ri_ev_go 2 (pc1 := 15) (L1 := [some (.int x1)]) (st1 := [.int 1]) (M1 := ri_M3) (c1 := 0) (s1 := 0) (fun n => rfl) ?_
      exact ri_ev_ret (fun n => rfl)
    refine ri_ev_cls (M1 := ri_M3) (v := some (.int 1)) _ rfl (Or.inl rfl) rfl (Nat.le_of_ble_eq_true rfl) hc4 ?_
    refine ri_ev_go 4 (pc1 := 21) (L1 := [some (.ref 153), some (.int x1), some (.int x2), some (.int x3), some (.int x4), none]) (st1 := [.int x3, .int x2, .ref 153]) (M1 := ri_M3) (c1 := 0) (s1 := 0) (fun n => rfl) ?_
    have hc7 : ri_c 18 212 [.ref 153, .int x2, .int x3] ri_M3 = some (some (.int 0), ri_M3, 0, 0) := by
      refine ri_ev_call (N := 6) (L := [some (.ref 153), some (.int x2), some (.int x3)]) rfl (Nat.le_of_ble_eq_true rfl) ?_
      refine ri_ev_go 2 (pc1 := 2) (L1 := [some (.ref 153), some (.int x2), some (.int x3)]) (st1 := [.int x2, .ref 153]) (M1 := ri_M3) (c1 := 0) (s1 := 0) (fun n => rfl) ?_
      have hc6 : ri_c 17 211 [.ref 153, .int x2] ri_M3 = some (some (.int 0), ri_M3, 0, 0) := by
        refine ri_ev_call (N := 5) (L := [some (.ref 153), some (.int x2)]) rfl (Nat.le_of_ble_eq_true rfl) ?_
        refine ri_ev_go 1 (pc1 := 1) (L1 := [some (.ref 153), some (.int x2)]) (st1 := [.ref 153]) (M1 := ri_M3) (c1 := 0) (s1 := 0) (fun n => rfl) ?_
        have hc5 : ri_c 16 209 [.ref 153] ri_M3 = some (some (.int 0), ri_M3, 0, 0) := by
          refine ri_ev_call (N := 7) (L := [some (.ref 153)]) rfl (Nat.le_of_ble_eq_true rfl) ?_
          refine ri_ev_go 6 (pc1 := 14) (L1 := [some (.ref 153)]) (st1 := [.int 0]) (M1 := ri_M3) (c1 := 0) (s1 := 0) (fun n => rfl) ?_
          exact ri_ev_ret (fun n => rfl)
        refine ri_ev_clv (k := 152) (M1 := ri_M3) (v := some (.int 0)) _ rfl rfl rfl rfl (Nat.le_of_ble_eq_true rfl) hc5 ?_
        refine ri_ev_go 2 (pc1 := 24) (L1 := [some (.ref 153), some (.int x2)]) (st1 := [.int 0]) (M1 := ri_M3) (c1 := 0) (s1 := 0) (fun n => rfl) ?_
        exact ri_ev_ret (fun n => rfl)
      refine ri_ev_clv (k := 152) (M1 := ri_M3) (v := some (.int 0)) _ rfl rfl rfl rfl (Nat.le_of_ble_eq_true rfl) hc6 ?_
      refine ri_ev_go 2 (pc1 := 27) (L1 := [some (.ref 153), some (.int x2), some (.int x3)]) (st1 := [.int 0]) (M1 := ri_M3) (c1 := 0) (s1 := 0) (fun n => rfl) ?_
      exact ri_ev_ret (fun n => rfl)
    refine ri_ev_clv (k := 152) (M1 := ri_M3) (v := some (.int 0)) _ rfl rfl rfl rfl (Nat.le_of_ble_eq_true rfl) hc7 ?_
    refine ri_ev_go 2 (pc1 := 54) (L1 := [some (.ref 153), some (.int x1), some (.int x2), some (.int x3), some (.int x4), none]) (st1 := [.int (-1)]) (M1 := ri_M3) (c1 := 0) (s1 := 0) (fun n => rfl) ?_
    exact ri_ev_ret (fun n => rfl)
set_option maxRecDepth 100000 in
set_option maxHeartbeats 4000000 in
theorem ro_answer_2 (x1 x2 x3 x4 : Int32)  (h1 : ¬ x1 < 0) (h2 : x1 < 6) (h3 : ¬ x2 < 0) (h4 : x2 < 3) (h5 : ¬ x3 < 0) : ri_eqv 109 224 [.int x1, .int x2, .int x3, .int x4] := by
  refine ⟨.int (-1), ri_M3, ri_M3, ?_, ?_⟩
  · show ri_c 19 109 [.ref 1, .int x1, .int x2, .int x3, .int x4] ri_M3 = _
    refine ri_ev_call (N := 18) (L := [some (.ref 1), some (.int x1), some (.int x2), some (.int x3), some (.int x4)]) rfl (Nat.le_of_ble_eq_true rfl) ?_
    refine ri_ev_go 2 (pc1 := 3) (L1 := [some (.ref 1), some (.int x1), some (.int x2), some (.int x3), some (.int x4)]) (st1 := [.int 6, .int x1]) (M1 := ri_M3) (c1 := 0) (s1 := 0) (fun n => rfl) ?_
    have hc0 : ri_c 18 142 [.int x1, .int 6] ri_M3 = some (some (.int 0), ri_M3, 0, 0) := by
      refine ri_ev_call (N := 7) (L := [some (.int x1), some (.int 6)]) rfl (Nat.le_of_ble_eq_true rfl) ?_
      refine ri_ev_go 1 (pc1 := 1) (L1 := [some (.int x1), some (.int 6)]) (st1 := [.int x1]) (M1 := ri_M3) (c1 := 0) (s1 := 0) (fun n => rfl) ?_
      refine ri_iz_lt_f rfl h1 ?_
      refine ri_ev_go 2 (pc1 := 6) (L1 := [some (.int x1), some (.int 6)]) (st1 := [.int 6, .int x1]) (M1 := ri_M3) (c1 := 0) (s1 := 0) (fun n => rfl) ?_
      refine ri_ic_lt_t (t := 13) rfl h2 rfl ?_
      refine ri_ev_go 1 (pc1 := 14) (L1 := [some (.int x1), some (.int 6)]) (st1 := [.int 0]) (M1 := ri_M3) (c1 := 0) (s1 := 0) (fun n => rfl) ?_
      exact ri_ev_ret (fun n => rfl)
    refine ri_ev_cls (M1 := ri_M3) (v := some (.int 0)) _ rfl (Or.inl rfl) rfl (Nat.le_of_ble_eq_true rfl) hc0 ?_
    refine ri_ev_go 4 (pc1 := 14) (L1 := [some (.ref 1), some (.int x1), some (.int x2), some (.int x3), some (.int x4)]) (st1 := [.int x1, .ref 15]) (M1 := ri_M3) (c1 := 0) (s1 := 0) (fun n => rfl) ?_
    have hc1 : ri_c 18 21 [.ref 15, .int x1] ri_M3 = some (some (.int 9), ri_M3, 0, 0) := by
      refine ri_ev_call (N := 17) (L := [some (.ref 15), some (.int x1), none, none]) rfl (Nat.le_of_ble_eq_true rfl) ?_
      refine ri_ev_go 12 (pc1 := 39) (L1 := [some (.ref 15), some (.int x1), some (.int 0), some (.int 0)]) (st1 := [.int 40, .int 9]) (M1 := ri_M3) (c1 := 0) (s1 := 0) (fun n => rfl) ?_
      refine ri_ev_go 4 (pc1 := 47) (L1 := [some (.ref 15), some (.int x1), some (.int 0), some (.int 0)]) (st1 := [.int 9]) (M1 := ri_M3) (c1 := 0) (s1 := 0) (fun n => rfl) ?_
      exact ri_ev_ret (fun n => rfl)
    refine ri_ev_clv (k := 14) (M1 := ri_M3) (v := some (.int 9)) _ rfl rfl rfl rfl (Nat.le_of_ble_eq_true rfl) hc1 ?_
    refine ri_ev_go 6 (pc1 := 31) (L1 := [some (.ref 1), some (.int x1), some (.int x2), some (.int x3), some (.int x4)]) (st1 := [.int x3, .int x2, .ref 16]) (M1 := ri_M3) (c1 := 0) (s1 := 0) (fun n => rfl) ?_
    have hc4 : ri_c 18 8 [.ref 16, .int x2, .int x3] ri_M3 = some (some (.int 0), ri_M3, 0, 0) := by
      refine ri_ev_call (N := 13) (L := [some (.ref 16), some (.int x2), some (.int x3)]) rfl (Nat.le_of_ble_eq_true rfl) ?_
      refine ri_ev_go 2 (pc1 := 2) (L1 := [some (.ref 16), some (.int x2), some (.int x3)]) (st1 := [.int 3, .int x2]) (M1 := ri_M3) (c1 := 0) (s1 := 0) (fun n => rfl) ?_
      have hc2 : ri_c 17 142 [.int x2, .int 3] ri_M3 = some (some (.int 0), ri_M3, 0, 0) := by
        refine ri_ev_call (N := 7) (L := [some (.int x2), some (.int 3)]) rfl (Nat.le_of_ble_eq_true rfl) ?_
        refine ri_ev_go 1 (pc1 := 1) (L1 := [some (.int x2), some (.int 3)]) (st1 := [.int x2]) (M1 := ri_M3) (c1 := 0) (s1 := 0) (fun n => rfl) ?_
        refine ri_iz_lt_f rfl h3 ?_
        refine ri_ev_go 2 (pc1 := 6) (L1 := [some (.int x2), some (.int 3)]) (st1 := [.int 3, .int x2]) (M1 := ri_M3) (c1 := 0) (s1 := 0) (fun n => rfl) ?_
        refine ri_ic_lt_t (t := 13) rfl h4 rfl ?_
        refine ri_ev_go 1 (pc1 := 14) (L1 := [some (.int x2), some (.int 3)]) (st1 := [.int 0]) (M1 := ri_M3) (c1 := 0) (s1 := 0) (fun n => rfl) ?_
        exact ri_ev_ret (fun n => rfl)
      refine ri_ev_cls (M1 := ri_M3) (v := some (.int 0)) _ rfl (Or.inr rfl) rfl (Nat.le_of_ble_eq_true rfl) hc2 ?_
      refine ri_ev_go 5 (pc1 := 14) (L1 := [some (.ref 16), some (.int x2), some (.int x3)]) (st1 := [.int x2, .ref 17, .int x3]) (M1 := ri_M3) (c1 := 0) (s1 := 0) (fun n => rfl) ?_
      refine ri_ev_ial (k := 16) (n := 3) (f := fun _ => 0) rfl rfl (ri_rng (n := 3) h3 h4 rfl (Nat.le_of_ble_eq_true rfl)) ?_
      have hc3 : ri_c 17 142 [.int x3, .int 0] ri_M3 = some (some (.int 1), ri_M3, 0, 0) := by
        refine ri_ev_call (N := 8) (L := [some (.int x3), some (.int 0)]) rfl (Nat.le_of_ble_eq_true rfl) ?_
        refine ri_ev_go 1 (pc1 := 1) (L1 := [some (.int x3), some (.int 0)]) (st1 := [.int x3]) (M1 := ri_M3) (c1 := 0) (s1 := 0) (fun n => rfl) ?_
        refine ri_iz_lt_f rfl h5 ?_
        refine ri_ev_go 2 (pc1 := 6) (L1 := [some (.int x3), some (.int 0)]) (st1 := [.int 0, .int x3]) (M1 := ri_M3) (c1 := 0) (s1 := 0) (fun n => rfl) ?_
        refine ri_ic_lt_f rfl h5 ?_
        refine ri_ev_go 2 (pc1 := 14) (L1 := [some (.int x3), some (.int 0)]) (st1 := [.int 1]) (M1 := ri_M3) (c1 := 0) (s1 := 0) (fun n => rfl) ?_
        exact ri_ev_ret (fun n => rfl)
      refine ri_ev_cls (M1 := ri_M3) (v := some (.int 1)) _ rfl (Or.inr rfl) rfl (Nat.le_of_ble_eq_true rfl) hc3 ?_
      refine ri_ev_go 2 (pc1 := 26) (L1 := [some (.ref 16), some (.int x2), some (.int x3)]) (st1 := [.int 0]) (M1 := ri_M3) (c1 := 0) (s1 := 0) (fun n => rfl) ?_
      exact ri_ev_ret (fun n => rfl)
    refine ri_ev_clv (k := 15) (M1 := ri_M3) (v := some (.int 0)) _ rfl rfl rfl rfl (Nat.le_of_ble_eq_true rfl) hc4 ?_
    refine ri_ev_go 2 (pc1 := 60) (L1 := [some (.ref 1), some (.int x1), some (.int x2), some (.int x3), some (.int x4)]) (st1 := [.int (-1)]) (M1 := ri_M3) (c1 := 0) (s1 := 0) (fun n => rfl) ?_
    exact ri_ev_ret (fun n => rfl)
  · show ri_c 19 224 [.ref 153, .int x1, .int x2, .int x3, .int x4] _ = _
    refine ri_ev_call (N := 16) (L := [some (.ref 153), some (.int x1), some (.int x2), some (.int x3), some (.int x4), none]) rfl (Nat.le_of_ble_eq_true rfl) ?_
    refine ri_ev_go 7 (pc1 := 12) (L1 := [some (.ref 153), some (.int x1), some (.int x2), some (.int x3), some (.int x4), none]) (st1 := [.int x1]) (M1 := ri_M3) (c1 := 0) (s1 := 0) (fun n => rfl) ?_
    have hc5 : ri_c 18 214 [.int x1] ri_M3 = some (some (.int 1), ri_M3, 0, 0) := by
      refine ri_ev_call (N := 8) (L := [some (.int x1)]) rfl (Nat.le_of_ble_eq_true rfl) ?_
      refine ri_ev_go 1 (pc1 := 1) (L1 := [some (.int x1)]) (st1 := [.int x1]) (M1 := ri_M3) (c1 := 0) (s1 := 0) (fun n => rfl) ?_
      refine ri_iz_lt_f rfl h1 ?_
      refine ri_ev_go 2 (pc1 := 7) (L1 := [some (.int x1)]) (st1 := [.int 6, .int x1]) (M1 := ri_M3) (c1 := 0) (s1 := 0) (fun n => rfl) ?_
      refine ri_ic_ge_f rfl (Int32.not_le.mpr h2) ?_
      refine ri_ev_go 2 (pc1 := 15) (L1 := [some (.int x1)]) (st1 := [.int 1]) (M1 := ri_M3) (c1 := 0) (s1 := 0) (fun n => rfl) ?_
      exact ri_ev_ret (fun n => rfl)
    refine ri_ev_cls (M1 := ri_M3) (v := some (.int 1)) _ rfl (Or.inl rfl) rfl (Nat.le_of_ble_eq_true rfl) hc5 ?_
    refine ri_ev_go 4 (pc1 := 21) (L1 := [some (.ref 153), some (.int x1), some (.int x2), some (.int x3), some (.int x4), none]) (st1 := [.int x3, .int x2, .ref 153]) (M1 := ri_M3) (c1 := 0) (s1 := 0) (fun n => rfl) ?_
    have hc8 : ri_c 18 212 [.ref 153, .int x2, .int x3] ri_M3 = some (some (.int 0), ri_M3, 0, 0) := by
      refine ri_ev_call (N := 6) (L := [some (.ref 153), some (.int x2), some (.int x3)]) rfl (Nat.le_of_ble_eq_true rfl) ?_
      refine ri_ev_go 2 (pc1 := 2) (L1 := [some (.ref 153), some (.int x2), some (.int x3)]) (st1 := [.int x2, .ref 153]) (M1 := ri_M3) (c1 := 0) (s1 := 0) (fun n => rfl) ?_
      have hc7 : ri_c 17 211 [.ref 153, .int x2] ri_M3 = some (some (.int 0), ri_M3, 0, 0) := by
        refine ri_ev_call (N := 5) (L := [some (.ref 153), some (.int x2)]) rfl (Nat.le_of_ble_eq_true rfl) ?_
        refine ri_ev_go 1 (pc1 := 1) (L1 := [some (.ref 153), some (.int x2)]) (st1 := [.ref 153]) (M1 := ri_M3) (c1 := 0) (s1 := 0) (fun n => rfl) ?_
        have hc6 : ri_c 16 209 [.ref 153] ri_M3 = some (some (.int 0), ri_M3, 0, 0) := by
          refine ri_ev_call (N := 7) (L := [some (.ref 153)]) rfl (Nat.le_of_ble_eq_true rfl) ?_
          refine ri_ev_go 6 (pc1 := 14) (L1 := [some (.ref 153)]) (st1 := [.int 0]) (M1 := ri_M3) (c1 := 0) (s1 := 0) (fun n => rfl) ?_
          exact ri_ev_ret (fun n => rfl)
        refine ri_ev_clv (k := 152) (M1 := ri_M3) (v := some (.int 0)) _ rfl rfl rfl rfl (Nat.le_of_ble_eq_true rfl) hc6 ?_
        refine ri_ev_go 2 (pc1 := 24) (L1 := [some (.ref 153), some (.int x2)]) (st1 := [.int 0]) (M1 := ri_M3) (c1 := 0) (s1 := 0) (fun n => rfl) ?_
        exact ri_ev_ret (fun n => rfl)
      refine ri_ev_clv (k := 152) (M1 := ri_M3) (v := some (.int 0)) _ rfl rfl rfl rfl (Nat.le_of_ble_eq_true rfl) hc7 ?_
      refine ri_ev_go 2 (pc1 := 27) (L1 := [some (.ref 153), some (.int x2), some (.int x3)]) (st1 := [.int 0]) (M1 := ri_M3) (c1 := 0) (s1 := 0) (fun n => rfl) ?_
      exact ri_ev_ret (fun n => rfl)
    refine ri_ev_clv (k := 152) (M1 := ri_M3) (v := some (.int 0)) _ rfl rfl rfl rfl (Nat.le_of_ble_eq_true rfl) hc8 ?_
    refine ri_ev_go 2 (pc1 := 54) (L1 := [some (.ref 153), some (.int x1), some (.int x2), some (.int x3), some (.int x4), none]) (st1 := [.int (-1)]) (M1 := ri_M3) (c1 := 0) (s1 := 0) (fun n => rfl) ?_
    exact ri_ev_ret (fun n => rfl)
set_option maxRecDepth 100000 in
set_option maxHeartbeats 4000000 in
theorem ro_answer_3 (x1 x2 x3 x4 : Int32)  (h1 : ¬ x1 < 0) (h2 : x1 < 6) (h3 : ¬ x2 < 0) (h4 : x2 < 3) (h5 : x3 < 0) : ri_eqv 109 224 [.int x1, .int x2, .int x3, .int x4] := by
  refine ⟨.int (-1), ri_M3, ri_M3, ?_, ?_⟩
  · show ri_c 19 109 [.ref 1, .int x1, .int x2, .int x3, .int x4] ri_M3 = _
    refine ri_ev_call (N := 18) (L := [some (.ref 1), some (.int x1), some (.int x2), some (.int x3), some (.int x4)]) rfl (Nat.le_of_ble_eq_true rfl) ?_
    refine ri_ev_go 2 (pc1 := 3) (L1 := [some (.ref 1), some (.int x1), some (.int x2), some (.int x3), some (.int x4)]) (st1 := [.int 6, .int x1]) (M1 := ri_M3) (c1 := 0) (s1 := 0) (fun n => rfl) ?_
    have hc0 : ri_c 18 142 [.int x1, .int 6] ri_M3 = some (some (.int 0), ri_M3, 0, 0) := by
      refine ri_ev_call (N := 7) (L := [some (.int x1), some (.int 6)]) rfl (Nat.le_of_ble_eq_true rfl) ?_
      refine ri_ev_go 1 (pc1 := 1) (L1 := [some (.int x1), some (.int 6)]) (st1 := [.int x1]) (M1 := ri_M3) (c1 := 0) (s1 := 0) (fun n => rfl) ?_
      refine ri_iz_lt_f rfl h1 ?_
      refine ri_ev_go 2 (pc1 := 6) (L1 := [some (.int x1), some (.int 6)]) (st1 := [.int 6, .int x1]) (M1 := ri_M3) (c1 := 0) (s1 := 0) (fun n => rfl) ?_
      refine ri_ic_lt_t (t := 13) rfl h2 rfl ?_
      refine ri_ev_go 1 (pc1 := 14) (L1 := [some (.int x1), some (.int 6)]) (st1 := [.int 0]) (M1 := ri_M3) (c1 := 0) (s1 := 0) (fun n => rfl) ?_
      exact ri_ev_ret (fun n => rfl)
    refine ri_ev_cls (M1 := ri_M3) (v := some (.int 0)) _ rfl (Or.inl rfl) rfl (Nat.le_of_ble_eq_true rfl) hc0 ?_
    refine ri_ev_go 4 (pc1 := 14) (L1 := [some (.ref 1), some (.int x1), some (.int x2), some (.int x3), some (.int x4)]) (st1 := [.int x1, .ref 15]) (M1 := ri_M3) (c1 := 0) (s1 := 0) (fun n => rfl) ?_
    have hc1 : ri_c 18 21 [.ref 15, .int x1] ri_M3 = some (some (.int 9), ri_M3, 0, 0) := by
      refine ri_ev_call (N := 17) (L := [some (.ref 15), some (.int x1), none, none]) rfl (Nat.le_of_ble_eq_true rfl) ?_
      refine ri_ev_go 12 (pc1 := 39) (L1 := [some (.ref 15), some (.int x1), some (.int 0), some (.int 0)]) (st1 := [.int 40, .int 9]) (M1 := ri_M3) (c1 := 0) (s1 := 0) (fun n => rfl) ?_
      refine ri_ev_go 4 (pc1 := 47) (L1 := [some (.ref 15), some (.int x1), some (.int 0), some (.int 0)]) (st1 := [.int 9]) (M1 := ri_M3) (c1 := 0) (s1 := 0) (fun n => rfl) ?_
      exact ri_ev_ret (fun n => rfl)
    refine ri_ev_clv (k := 14) (M1 := ri_M3) (v := some (.int 9)) _ rfl rfl rfl rfl (Nat.le_of_ble_eq_true rfl) hc1 ?_
    refine ri_ev_go 6 (pc1 := 31) (L1 := [some (.ref 1), some (.int x1), some (.int x2), some (.int x3), some (.int x4)]) (st1 := [.int x3, .int x2, .ref 16]) (M1 := ri_M3) (c1 := 0) (s1 := 0) (fun n => rfl) ?_
    have hc4 : ri_c 18 8 [.ref 16, .int x2, .int x3] ri_M3 = some (some (.int 0), ri_M3, 0, 0) := by
      refine ri_ev_call (N := 13) (L := [some (.ref 16), some (.int x2), some (.int x3)]) rfl (Nat.le_of_ble_eq_true rfl) ?_
      refine ri_ev_go 2 (pc1 := 2) (L1 := [some (.ref 16), some (.int x2), some (.int x3)]) (st1 := [.int 3, .int x2]) (M1 := ri_M3) (c1 := 0) (s1 := 0) (fun n => rfl) ?_
      have hc2 : ri_c 17 142 [.int x2, .int 3] ri_M3 = some (some (.int 0), ri_M3, 0, 0) := by
        refine ri_ev_call (N := 7) (L := [some (.int x2), some (.int 3)]) rfl (Nat.le_of_ble_eq_true rfl) ?_
        refine ri_ev_go 1 (pc1 := 1) (L1 := [some (.int x2), some (.int 3)]) (st1 := [.int x2]) (M1 := ri_M3) (c1 := 0) (s1 := 0) (fun n => rfl) ?_
        refine ri_iz_lt_f rfl h3 ?_
        refine ri_ev_go 2 (pc1 := 6) (L1 := [some (.int x2), some (.int 3)]) (st1 := [.int 3, .int x2]) (M1 := ri_M3) (c1 := 0) (s1 := 0) (fun n => rfl) ?_
        refine ri_ic_lt_t (t := 13) rfl h4 rfl ?_
        refine ri_ev_go 1 (pc1 := 14) (L1 := [some (.int x2), some (.int 3)]) (st1 := [.int 0]) (M1 := ri_M3) (c1 := 0) (s1 := 0) (fun n => rfl) ?_
        exact ri_ev_ret (fun n => rfl)
      refine ri_ev_cls (M1 := ri_M3) (v := some (.int 0)) _ rfl (Or.inr rfl) rfl (Nat.le_of_ble_eq_true rfl) hc2 ?_
      refine ri_ev_go 5 (pc1 := 14) (L1 := [some (.ref 16), some (.int x2), some (.int x3)]) (st1 := [.int x2, .ref 17, .int x3]) (M1 := ri_M3) (c1 := 0) (s1 := 0) (fun n => rfl) ?_
      refine ri_ev_ial (k := 16) (n := 3) (f := fun _ => 0) rfl rfl (ri_rng (n := 3) h3 h4 rfl (Nat.le_of_ble_eq_true rfl)) ?_
      have hc3 : ri_c 17 142 [.int x3, .int 0] ri_M3 = some (some (.int 1), ri_M3, 0, 0) := by
        refine ri_ev_call (N := 5) (L := [some (.int x3), some (.int 0)]) rfl (Nat.le_of_ble_eq_true rfl) ?_
        refine ri_ev_go 1 (pc1 := 1) (L1 := [some (.int x3), some (.int 0)]) (st1 := [.int x3]) (M1 := ri_M3) (c1 := 0) (s1 := 0) (fun n => rfl) ?_
        refine ri_iz_lt_t (t := 9) rfl h5 rfl ?_
        refine ri_ev_go 2 (pc1 := 14) (L1 := [some (.int x3), some (.int 0)]) (st1 := [.int 1]) (M1 := ri_M3) (c1 := 0) (s1 := 0) (fun n => rfl) ?_
        exact ri_ev_ret (fun n => rfl)
      refine ri_ev_cls (M1 := ri_M3) (v := some (.int 1)) _ rfl (Or.inr rfl) rfl (Nat.le_of_ble_eq_true rfl) hc3 ?_
      refine ri_ev_go 2 (pc1 := 26) (L1 := [some (.ref 16), some (.int x2), some (.int x3)]) (st1 := [.int 0]) (M1 := ri_M3) (c1 := 0) (s1 := 0) (fun n => rfl) ?_
      exact ri_ev_ret (fun n => rfl)
    refine ri_ev_clv (k := 15) (M1 := ri_M3) (v := some (.int 0)) _ rfl rfl rfl rfl (Nat.le_of_ble_eq_true rfl) hc4 ?_
    refine ri_ev_go 2 (pc1 := 60) (L1 := [some (.ref 1), some (.int x1), some (.int x2), some (.int x3), some (.int x4)]) (st1 := [.int (-1)]) (M1 := ri_M3) (c1 := 0) (s1 := 0) (fun n => rfl) ?_
    exact ri_ev_ret (fun n => rfl)
  · show ri_c 19 224 [.ref 153, .int x1, .int x2, .int x3, .int x4] _ = _
    refine ri_ev_call (N := 16) (L := [some (.ref 153), some (.int x1), some (.int x2), some (.int x3), some (.int x4), none]) rfl (Nat.le_of_ble_eq_true rfl) ?_
    refine ri_ev_go 7 (pc1 := 12) (L1 := [some (.ref 153), some (.int x1), some (.int x2), some (.int x3), some (.int x4), none]) (st1 := [.int x1]) (M1 := ri_M3) (c1 := 0) (s1 := 0) (fun n => rfl) ?_
    have hc5 : ri_c 18 214 [.int x1] ri_M3 = some (some (.int 1), ri_M3, 0, 0) := by
      refine ri_ev_call (N := 8) (L := [some (.int x1)]) rfl (Nat.le_of_ble_eq_true rfl) ?_
      refine ri_ev_go 1 (pc1 := 1) (L1 := [some (.int x1)]) (st1 := [.int x1]) (M1 := ri_M3) (c1 := 0) (s1 := 0) (fun n => rfl) ?_
      refine ri_iz_lt_f rfl h1 ?_
      refine ri_ev_go 2 (pc1 := 7) (L1 := [some (.int x1)]) (st1 := [.int 6, .int x1]) (M1 := ri_M3) (c1 := 0) (s1 := 0) (fun n => rfl) ?_
      refine ri_ic_ge_f rfl (Int32.not_le.mpr h2) ?_
      refine ri_ev_go 2 (pc1 := 15) (L1 := [some (.int x1)]) (st1 := [.int 1]) (M1 := ri_M3) (c1 := 0) (s1 := 0) (fun n => rfl) ?_
      exact ri_ev_ret (fun n => rfl)
    refine ri_ev_cls (M1 := ri_M3) (v := some (.int 1)) _ rfl (Or.inl rfl) rfl (Nat.le_of_ble_eq_true rfl) hc5 ?_
    refine ri_ev_go 4 (pc1 := 21) (L1 := [some (.ref 153), some (.int x1), some (.int x2), some (.int x3), some (.int x4), none]) (st1 := [.int x3, .int x2, .ref 153]) (M1 := ri_M3) (c1 := 0) (s1 := 0) (fun n => rfl) ?_
    have hc8 : ri_c 18 212 [.ref 153, .int x2, .int x3] ri_M3 = some (some (.int 0), ri_M3, 0, 0) := by
      refine ri_ev_call (N := 6) (L := [some (.ref 153), some (.int x2), some (.int x3)]) rfl (Nat.le_of_ble_eq_true rfl) ?_
      refine ri_ev_go 2 (pc1 := 2) (L1 := [some (.ref 153), some (.int x2), some (.int x3)]) (st1 := [.int x2, .ref 153]) (M1 := ri_M3) (c1 := 0) (s1 := 0) (fun n => rfl) ?_
      have hc7 : ri_c 17 211 [.ref 153, .int x2] ri_M3 = some (some (.int 0), ri_M3, 0, 0) := by
        refine ri_ev_call (N := 5) (L := [some (.ref 153), some (.int x2)]) rfl (Nat.le_of_ble_eq_true rfl) ?_
        refine ri_ev_go 1 (pc1 := 1) (L1 := [some (.ref 153), some (.int x2)]) (st1 := [.ref 153]) (M1 := ri_M3) (c1 := 0) (s1 := 0) (fun n => rfl) ?_
        have hc6 : ri_c 16 209 [.ref 153] ri_M3 = some (some (.int 0), ri_M3, 0, 0) := by
          refine ri_ev_call (N := 7) (L := [some (.ref 153)]) rfl (Nat.le_of_ble_eq_true rfl) ?_
          refine ri_ev_go 6 (pc1 := 14) (L1 := [some (.ref 153)]) (st1 := [.int 0]) (M1 := ri_M3) (c1 := 0) (s1 := 0) (fun n => rfl) ?_
          exact ri_ev_ret (fun n => rfl)
        refine ri_ev_clv (k := 152) (M1 := ri_M3) (v := some (.int 0)) _ rfl rfl rfl rfl (Nat.le_of_ble_eq_true rfl) hc6 ?_
        refine ri_ev_go 2 (pc1 := 24) (L1 := [some (.ref 153), some (.int x2)]) (st1 := [.int 0]) (M1 := ri_M3) (c1 := 0) (s1 := 0) (fun n => rfl) ?_
        exact ri_ev_ret (fun n => rfl)
      refine ri_ev_clv (k := 152) (M1 := ri_M3) (v := some (.int 0)) _ rfl rfl rfl rfl (Nat.le_of_ble_eq_true rfl) hc7 ?_
      refine ri_ev_go 2 (pc1 := 27) (L1 := [some (.ref 153), some (.int x2), some (.int x3)]) (st1 := [.int 0]) (M1 := ri_M3) (c1 := 0) (s1 := 0) (fun n => rfl) ?_
      exact ri_ev_ret (fun n => rfl)
    refine ri_ev_clv (k := 152) (M1 := ri_M3) (v := some (.int 0)) _ rfl rfl rfl rfl (Nat.le_of_ble_eq_true rfl) hc8 ?_
    refine ri_ev_go 2 (pc1 := 54) (L1 := [some (.ref 153), some (.int x1), some (.int x2), some (.int x3), some (.int x4), none]) (st1 := [.int (-1)]) (M1 := ri_M3) (c1 := 0) (s1 := 0) (fun n => rfl) ?_
    exact ri_ev_ret (fun n => rfl)
set_option maxRecDepth 100000 in
set_option maxHeartbeats 4000000 in
theorem ro_answer_4 (x1 x2 x3 x4 : Int32)  (h1 : ¬ x1 < 0) (h2 : x1 < 6) (h3 : x2 < 0) : ri_eqv 109 224 [.int x1, .int x2, .int x3, .int x4] := by
  refine ⟨.int (-1), ri_M3, ri_M3, ?_, ?_⟩
  · show ri_c 19 109 [.ref 1, .int x1, .int x2, .int x3, .int x4] ri_M3 = _
    refine ri_ev_call (N := 18) (L := [some (.ref 1), some (.int x1), some (.int x2), some (.int x3), some (.int x4)]) rfl (Nat.le_of_ble_eq_true rfl) ?_
    refine ri_ev_go 2 (pc1 := 3) (L1 := [some (.ref 1), some (.int x1), some (.int x2), some (.int x3), some (.int x4)]) (st1 := [.int 6, .int x1]) (M1 := ri_M3) (c1 := 0) (s1 := 0) (fun n => rfl) ?_
    have hc0 : ri_c 18 142 [.int x1, .int 6] ri_M3 = some (some (.int 0), ri_M3, 0, 0) := by
      refine ri_ev_call (N := 7) (L := [some (.int x1), some (.int 6)]) rfl (Nat.le_of_ble_eq_true rfl) ?_
      refine ri_ev_go 1 (pc1 := 1) (L1 := [some (.int x1), some (.int 6)]) (st1 := [.int x1]) (M1 := ri_M3) (c1 := 0) (s1 := 0) (fun n => rfl) ?_
      refine ri_iz_lt_f rfl h1 ?_
      refine ri_ev_go 2 (pc1 := 6) (L1 := [some (.int x1), some (.int 6)]) (st1 := [.int 6, .int x1]) (M1 := ri_M3) (c1 := 0) (s1 := 0) (fun n => rfl) ?_
      refine ri_ic_lt_t (t := 13) rfl h2 rfl ?_
      refine ri_ev_go 1 (pc1 := 14) (L1 := [some (.int x1), some (.int 6)]) (st1 := [.int 0]) (M1 := ri_M3) (c1 := 0) (s1 := 0) (fun n => rfl) ?_
      exact ri_ev_ret (fun n => rfl)
    refine ri_ev_cls (M1 := ri_M3) (v := some (.int 0)) _ rfl (Or.inl rfl) rfl (Nat.le_of_ble_eq_true rfl) hc0 ?_
    refine ri_ev_go 4 (pc1 := 14) (L1 := [some (.ref 1), some (.int x1), some (.int x2), some (.int x3), some (.int x4)]) (st1 := [.int x1, .ref 15]) (M1 := ri_M3) (c1 := 0) (s1 := 0) (fun n => rfl) ?_
    have hc1 : ri_c 18 21 [.ref 15, .int x1] ri_M3 = some (some (.int 9), ri_M3, 0, 0) := by
      refine ri_ev_call (N := 17) (L := [some (.ref 15), some (.int x1), none, none]) rfl (Nat.le_of_ble_eq_true rfl) ?_
      refine ri_ev_go 12 (pc1 := 39) (L1 := [some (.ref 15), some (.int x1), some (.int 0), some (.int 0)]) (st1 := [.int 40, .int 9]) (M1 := ri_M3) (c1 := 0) (s1 := 0) (fun n => rfl) ?_
      refine ri_ev_go 4 (pc1 := 47) (L1 := [some (.ref 15), some (.int x1), some (.int 0), some (.int 0)]) (st1 := [.int 9]) (M1 := ri_M3) (c1 := 0) (s1 := 0) (fun n => rfl) ?_
      exact ri_ev_ret (fun n => rfl)
    refine ri_ev_clv (k := 14) (M1 := ri_M3) (v := some (.int 9)) _ rfl rfl rfl rfl (Nat.le_of_ble_eq_true rfl) hc1 ?_
    refine ri_ev_go 6 (pc1 := 31) (L1 := [some (.ref 1), some (.int x1), some (.int x2), some (.int x3), some (.int x4)]) (st1 := [.int x3, .int x2, .ref 16]) (M1 := ri_M3) (c1 := 0) (s1 := 0) (fun n => rfl) ?_
    have hc3 : ri_c 18 8 [.ref 16, .int x2, .int x3] ri_M3 = some (some (.int 0), ri_M3, 0, 0) := by
      refine ri_ev_call (N := 6) (L := [some (.ref 16), some (.int x2), some (.int x3)]) rfl (Nat.le_of_ble_eq_true rfl) ?_
      refine ri_ev_go 2 (pc1 := 2) (L1 := [some (.ref 16), some (.int x2), some (.int x3)]) (st1 := [.int 3, .int x2]) (M1 := ri_M3) (c1 := 0) (s1 := 0) (fun n => rfl) ?_
      have hc2 : ri_c 17 142 [.int x2, .int 3] ri_M3 = some (some (.int 1), ri_M3, 0, 0) := by
        refine ri_ev_call (N := 5) (L := [some (.int x2), some (.int 3)]) rfl (Nat.le_of_ble_eq_true rfl) ?_
        refine ri_ev_go 1 (pc1 := 1) (L1 := [some (.int x2), some (.int 3)]) (st1 := [.int x2]) (M1 := ri_M3) (c1 := 0) (s1 := 0) (fun n => rfl) ?_
        refine ri_iz_lt_t (t := 9) rfl h3 rfl ?_
        refine ri_ev_go 2 (pc1 := 14) (L1 := [some (.int x2), some (.int 3)]) (st1 := [.int 1]) (M1 := ri_M3) (c1 := 0) (s1 := 0) (fun n => rfl) ?_
        exact ri_ev_ret (fun n => rfl)
      refine ri_ev_cls (M1 := ri_M3) (v := some (.int 1)) _ rfl (Or.inr rfl) rfl (Nat.le_of_ble_eq_true rfl) hc2 ?_
      refine ri_ev_go 2 (pc1 := 26) (L1 := [some (.ref 16), some (.int x2), some (.int x3)]) (st1 := [.int 0]) (M1 := ri_M3) (c1 := 0) (s1 := 0) (fun n => rfl) ?_
      exact ri_ev_ret (fun n => rfl)
    refine ri_ev_clv (k := 15) (M1 := ri_M3) (v := some (.int 0)) _ rfl rfl rfl rfl (Nat.le_of_ble_eq_true rfl) hc3 ?_
    refine ri_ev_go 2 (pc1 := 60) (L1 := [some (.ref 1), some (.int x1), some (.int x2), some (.int x3), some (.int x4)]) (st1 := [.int (-1)]) (M1 := ri_M3) (c1 := 0) (s1 := 0) (fun n => rfl) ?_
    exact ri_ev_ret (fun n => rfl)
  · show ri_c 19 224 [.ref 153, .int x1, .int x2, .int x3, .int x4] _ = _
    refine ri_ev_call (N := 16) (L := [some (.ref 153), some (.int x1), some (.int x2), some (.int x3), some (.int x4), none]) rfl (Nat.le_of_ble_eq_true rfl) ?_
    refine ri_ev_go 7 (pc1 := 12) (L1 := [some (.ref 153), some (.int x1), some (.int x2), some (.int x3), some (.int x4), none]) (st1 := [.int x1]) (M1 := ri_M3) (c1 := 0) (s1 := 0) (fun n => rfl) ?_
    have hc4 : ri_c 18 214 [.int x1] ri_M3 = some (some (.int 1), ri_M3, 0, 0) := by
      refine ri_ev_call (N := 8) (L := [some (.int x1)]) rfl (Nat.le_of_ble_eq_true rfl) ?_
      refine ri_ev_go 1 (pc1 := 1) (L1 := [some (.int x1)]) (st1 := [.int x1]) (M1 := ri_M3) (c1 := 0) (s1 := 0) (fun n => rfl) ?_
      refine ri_iz_lt_f rfl h1 ?_
      refine ri_ev_go 2 (pc1 := 7) (L1 := [some (.int x1)]) (st1 := [.int 6, .int x1]) (M1 := ri_M3) (c1 := 0) (s1 := 0) (fun n => rfl) ?_
      refine ri_ic_ge_f rfl (Int32.not_le.mpr h2) ?_
      refine ri_ev_go 2 (pc1 := 15) (L1 := [some (.int x1)]) (st1 := [.int 1]) (M1 := ri_M3) (c1 := 0) (s1 := 0) (fun n => rfl) ?_
      exact ri_ev_ret (fun n => rfl)
    refine ri_ev_cls (M1 := ri_M3) (v := some (.int 1)) _ rfl (Or.inl rfl) rfl (Nat.le_of_ble_eq_true rfl) hc4 ?_
    refine ri_ev_go 4 (pc1 := 21) (L1 := [some (.ref 153), some (.int x1), some (.int x2), some (.int x3), some (.int x4), none]) (st1 := [.int x3, .int x2, .ref 153]) (M1 := ri_M3) (c1 := 0) (s1 := 0) (fun n => rfl) ?_
    have hc7 : ri_c 18 212 [.ref 153, .int x2, .int x3] ri_M3 = some (some (.int 0), ri_M3, 0, 0) := by
      refine ri_ev_call (N := 6) (L := [some (.ref 153), some (.int x2), some (.int x3)]) rfl (Nat.le_of_ble_eq_true rfl) ?_
      refine ri_ev_go 2 (pc1 := 2) (L1 := [some (.ref 153), some (.int x2), some (.int x3)]) (st1 := [.int x2, .ref 153]) (M1 := ri_M3) (c1 := 0) (s1 := 0) (fun n => rfl) ?_
      have hc6 : ri_c 17 211 [.ref 153, .int x2] ri_M3 = some (some (.int 0), ri_M3, 0, 0) := by
        refine ri_ev_call (N := 5) (L := [some (.ref 153), some (.int x2)]) rfl (Nat.le_of_ble_eq_true rfl) ?_
        refine ri_ev_go 1 (pc1 := 1) (L1 := [some (.ref 153), some (.int x2)]) (st1 := [.ref 153]) (M1 := ri_M3) (c1 := 0) (s1 := 0) (fun n => rfl) ?_
        have hc5 : ri_c 16 209 [.ref 153] ri_M3 = some (some (.int 0), ri_M3, 0, 0) := by
          refine ri_ev_call (N := 7) (L := [some (.ref 153)]) rfl (Nat.le_of_ble_eq_true rfl) ?_
          refine ri_ev_go 6 (pc1 := 14) (L1 := [some (.ref 153)]) (st1 := [.int 0]) (M1 := ri_M3) (c1 := 0) (s1 := 0) (fun n => rfl) ?_
          exact ri_ev_ret (fun n => rfl)
        refine ri_ev_clv (k := 152) (M1 := ri_M3) (v := some (.int 0)) _ rfl rfl rfl rfl (Nat.le_of_ble_eq_true rfl) hc5 ?_
        refine ri_ev_go 2 (pc1 := 24) (L1 := [some (.ref 153), some (.int x2)]) (st1 := [.int 0]) (M1 := ri_M3) (c1 := 0) (s1 := 0) (fun n => rfl) ?_
        exact ri_ev_ret (fun n => rfl)
      refine ri_ev_clv (k := 152) (M1 := ri_M3) (v := some (.int 0)) _ rfl rfl rfl rfl (Nat.le_of_ble_eq_true rfl) hc6 ?_
      refine ri_ev_go 2 (pc1 := 27) (L1 := [some (.ref 153), some (.int x2), some (.int x3)]) (st1 := [.int 0]) (M1 := ri_M3) (c1 := 0) (s1 := 0) (fun n => rfl) ?_
      exact ri_ev_ret (fun n => rfl)
    refine ri_ev_clv (k := 152) (M1 := ri_M3) (v := some (.int 0)) _ rfl rfl rfl rfl (Nat.le_of_ble_eq_true rfl) hc7 ?_
    refine ri_ev_go 2 (pc1 := 54) (L1 := [some (.ref 153), some (.int x1), some (.int x2), some (.int x3), some (.int x4), none]) (st1 := [.int (-1)]) (M1 := ri_M3) (c1 := 0) (s1 := 0) (fun n => rfl) ?_
    exact ri_ev_ret (fun n => rfl)
set_option maxRecDepth 100000 in
set_option maxHeartbeats 4000000 in
theorem ro_answer_5 (x1 x2 x3 x4 : Int32)  (h1 : x1 < 0) : ri_eqv 109 224 [.int x1, .int x2, .int x3, .int x4] := by
  refine ⟨.int (-1), ri_M3, ri_M3, ?_, ?_⟩
  · show ri_c 19 109 [.ref 1, .int x1, .int x2, .int x3, .int x4] ri_M3 = _
    refine ri_ev_call (N := 6) (L := [some (.ref 1), some (.int x1), some (.int x2), some (.int x3), some (.int x4)]) rfl (Nat.le_of_ble_eq_true rfl) ?_
    refine ri_ev_go 2 (pc1 := 3) (L1 := [some (.ref 1), some (.int x1), some (.int x2), some (.int x3), some (.int x4)]) (st1 := [.int 6, .int x1]) (M1 := ri_M3) (c1 := 0) (s1 := 0) (fun n => rfl) ?_
    have hc0 : ri_c 18 142 [.int x1, .int 6] ri_M3 = some (some (.int 1), ri_M3, 0, 0) := by
      refine ri_ev_call (N := 5) (L := [some (.int x1), some (.int 6)]) rfl (Nat.le_of_ble_eq_true rfl) ?_
      refine ri_ev_go 1 (pc1 := 1) (L1 := [some (.int x1), some (.int 6)]) (st1 := [.int x1]) (M1 := ri_M3) (c1 := 0) (s1 := 0) (fun n => rfl) ?_
      refine ri_iz_lt_t (t := 9) rfl h1 rfl ?_
      refine ri_ev_go 2 (pc1 := 14) (L1 := [some (.int x1), some (.int 6)]) (st1 := [.int 1]) (M1 := ri_M3) (c1 := 0) (s1 := 0) (fun n => rfl) ?_
      exact ri_ev_ret (fun n => rfl)
    refine ri_ev_cls (M1 := ri_M3) (v := some (.int 1)) _ rfl (Or.inl rfl) rfl (Nat.le_of_ble_eq_true rfl) hc0 ?_
    refine ri_ev_go 2 (pc1 := 21) (L1 := [some (.ref 1), some (.int x1), some (.int x2), some (.int x3), some (.int x4)]) (st1 := [.int (-1)]) (M1 := ri_M3) (c1 := 0) (s1 := 0) (fun n => rfl) ?_
    exact ri_ev_ret (fun n => rfl)
  · show ri_c 19 224 [.ref 153, .int x1, .int x2, .int x3, .int x4] _ = _
    refine ri_ev_call (N := 11) (L := [some (.ref 153), some (.int x1), some (.int x2), some (.int x3), some (.int x4), none]) rfl (Nat.le_of_ble_eq_true rfl) ?_
    refine ri_ev_go 7 (pc1 := 12) (L1 := [some (.ref 153), some (.int x1), some (.int x2), some (.int x3), some (.int x4), none]) (st1 := [.int x1]) (M1 := ri_M3) (c1 := 0) (s1 := 0) (fun n => rfl) ?_
    have hc1 : ri_c 18 214 [.int x1] ri_M3 = some (some (.int 0), ri_M3, 0, 0) := by
      refine ri_ev_call (N := 4) (L := [some (.int x1)]) rfl (Nat.le_of_ble_eq_true rfl) ?_
      refine ri_ev_go 1 (pc1 := 1) (L1 := [some (.int x1)]) (st1 := [.int x1]) (M1 := ri_M3) (c1 := 0) (s1 := 0) (fun n => rfl) ?_
      refine ri_iz_lt_t (t := 14) rfl h1 rfl ?_
      refine ri_ev_go 1 (pc1 := 15) (L1 := [some (.int x1)]) (st1 := [.int 0]) (M1 := ri_M3) (c1 := 0) (s1 := 0) (fun n => rfl) ?_
      exact ri_ev_ret (fun n => rfl)
    refine ri_ev_cls (M1 := ri_M3) (v := some (.int 0)) _ rfl (Or.inl rfl) rfl (Nat.le_of_ble_eq_true rfl) hc1 ?_
    refine ri_ev_go 2 (pc1 := 54) (L1 := [some (.ref 153), some (.int x1), some (.int x2), some (.int x3), some (.int x4), none]) (st1 := [.int (-1)]) (M1 := ri_M3) (c1 := 0) (s1 := 0) (fun n => rfl) ?_
    exact ri_ev_ret (fun n => rfl)
theorem ro_answer (x1 x2 x3 x4 : Int32)  : ri_eqv 109 224 [.int x1, .int x2, .int x3, .int x4] := by
  by_cases h1 : x1 < 0
  · exact ro_answer_5 x1 x2 x3 x4  h1
  · by_cases h2 : x1 < 6
    · by_cases h3 : x2 < 0
      · exact ro_answer_4 x1 x2 x3 x4  h1 h2 h3
      · by_cases h4 : x2 < 3
        · by_cases h5 : x3 < 0
          · exact ro_answer_3 x1 x2 x3 x4  h1 h2 h3 h4 h5
          · exact ro_answer_2 x1 x2 x3 x4  h1 h2 h3 h4 h5
        · exact ro_answer_1 x1 x2 x3 x4  h1 h2 h3 h4
    · exact ro_answer_0 x1 x2 x3 x4  h1 h2
set_option maxRecDepth 100000 in
set_option maxHeartbeats 4000000 in
theorem ro_answers_0 (x1 x2 : Int32)  (h1 : ¬ x1 < 0) : ri_eqv 110 225 [.int x1, .int x2] := by
  refine ⟨.int (-1), ri_M3, ri_M3, ?_, ?_⟩
  · show ri_c 19 110 [.ref 1, .int x1, .int x2] ri_M3 = _
    refine ri_ev_call (N := 7) (L := [some (.ref 1), some (.int x1), some (.int x2)]) rfl (Nat.le_of_ble_eq_true rfl) ?_
    refine ri_ev_go 3 (pc1 := 5) (L1 := [some (.ref 1), some (.int x1), some (.int x2)]) (st1 := [.int x1, .ref 15]) (M1 := ri_M3) (c1 := 0) (s1 := 0) (fun n => rfl) ?_
    have hc1 : ri_c 18 23 [.ref 15, .int x1] ri_M3 = some (some (.int 0), ri_M3, 0, 0) := by
      refine ri_ev_call (N := 7) (L := [some (.ref 15), some (.int x1)]) rfl (Nat.le_of_ble_eq_true rfl) ?_
      refine ri_ev_go 3 (pc1 := 5) (L1 := [some (.ref 15), some (.int x1)]) (st1 := [.int 0, .int x1]) (M1 := ri_M3) (c1 := 0) (s1 := 0) (fun n => rfl) ?_
      have hc0 : ri_c 17 142 [.int x1, .int 0] ri_M3 = some (some (.int 1), ri_M3, 0, 0) := by
        refine ri_ev_call (N := 8) (L := [some (.int x1), some (.int 0)]) rfl (Nat.le_of_ble_eq_true rfl) ?_
        refine ri_ev_go 1 (pc1 := 1) (L1 := [some (.int x1), some (.int 0)]) (st1 := [.int x1]) (M1 := ri_M3) (c1 := 0) (s1 := 0) (fun n => rfl) ?_
        refine ri_iz_lt_f rfl h1 ?_
        refine ri_ev_go 2 (pc1 := 6) (L1 := [some (.int x1), some (.int 0)]) (st1 := [.int 0, .int x1]) (M1 := ri_M3) (c1 := 0) (s1 := 0) (fun n => rfl) ?_
        refine ri_ic_lt_f rfl h1 ?_
        refine ri_ev_go 2 (pc1 := 14) (L1 := [some (.int x1), some (.int 0)]) (st1 := [.int 1]) (M1 := ri_M3) (c1 := 0) (s1 := 0) (fun n => rfl) ?_
        exact ri_ev_ret (fun n => rfl)
      refine ri_ev_cls (M1 := ri_M3) (v := some (.int 1)) _ rfl (Or.inr rfl) rfl (Nat.le_of_ble_eq_true rfl) hc0 ?_
      refine ri_ev_go 2 (pc1 := 16) (L1 := [some (.ref 15), some (.int x1)]) (st1 := [.int 0]) (M1 := ri_M3) (c1 := 0) (s1 := 0) (fun n => rfl) ?_
      exact ri_ev_ret (fun n => rfl)
    refine ri_ev_clv (k := 14) (M1 := ri_M3) (v := some (.int 0)) _ rfl rfl rfl rfl (Nat.le_of_ble_eq_true rfl) hc1 ?_
    refine ri_ev_go 2 (pc1 := 12) (L1 := [some (.ref 1), some (.int x1), some (.int x2)]) (st1 := [.int (-1)]) (M1 := ri_M3) (c1 := 0) (s1 := 0) (fun n => rfl) ?_
    exact ri_ev_ret (fun n => rfl)
  · show ri_c 19 225 [.ref 153, .int x1, .int x2] _ = _
    refine ri_ev_call (N := 6) (L := [some (.ref 153), some (.int x1), some (.int x2)]) rfl (Nat.le_of_ble_eq_true rfl) ?_
    refine ri_ev_go 2 (pc1 := 2) (L1 := [some (.ref 153), some (.int x1), some (.int x2)]) (st1 := [.int x1, .ref 153]) (M1 := ri_M3) (c1 := 0) (s1 := 0) (fun n => rfl) ?_
    have hc2 : ri_c 18 215 [.ref 153, .int x1] ri_M3 = some (some (.int 0), ri_M3, 0, 0) := by
      refine ri_ev_call (N := 10) (L := [some (.ref 153), some (.int x1)]) rfl (Nat.le_of_ble_eq_true rfl) ?_
      refine ri_ev_go 1 (pc1 := 1) (L1 := [some (.ref 153), some (.int x1)]) (st1 := [.int x1]) (M1 := ri_M3) (c1 := 0) (s1 := 0) (fun n => rfl) ?_
      refine ri_iz_lt_f rfl h1 ?_
      refine ri_ev_go 5 (pc1 := 11) (L1 := [some (.ref 153), some (.int x1)]) (st1 := [.int 0, .int x1]) (M1 := ri_M3) (c1 := 0) (s1 := 0) (fun n => rfl) ?_
      refine ri_ic_ge_t (t := 18) rfl (Int32.not_lt.mp h1) rfl ?_
      refine ri_ev_go 1 (pc1 := 19) (L1 := [some (.ref 153), some (.int x1)]) (st1 := [.int 0]) (M1 := ri_M3) (c1 := 0) (s1 := 0) (fun n => rfl) ?_
      exact ri_ev_ret (fun n => rfl)
    refine ri_ev_clv (k := 152) (M1 := ri_M3) (v := some (.int 0)) _ rfl rfl rfl rfl (Nat.le_of_ble_eq_true rfl) hc2 ?_
    refine ri_ev_go 2 (pc1 := 30) (L1 := [some (.ref 153), some (.int x1), some (.int x2)]) (st1 := [.int (-1)]) (M1 := ri_M3) (c1 := 0) (s1 := 0) (fun n => rfl) ?_
    exact ri_ev_ret (fun n => rfl)
set_option maxRecDepth 100000 in
set_option maxHeartbeats 4000000 in
theorem ro_answers_1 (x1 x2 : Int32)  (h1 : x1 < 0) : ri_eqv 110 225 [.int x1, .int x2] := by
  refine ⟨.int (-1), ri_M3, ri_M3, ?_, ?_⟩
  · show ri_c 19 110 [.ref 1, .int x1, .int x2] ri_M3 = _
    refine ri_ev_call (N := 7) (L := [some (.ref 1), some (.int x1), some (.int x2)]) rfl (Nat.le_of_ble_eq_true rfl) ?_
    refine ri_ev_go 3 (pc1 := 5) (L1 := [some (.ref 1), some (.int x1), some (.int x2)]) (st1 := [.int x1, .ref 15]) (M1 := ri_M3) (c1 := 0) (s1 := 0) (fun n => rfl) ?_
    have hc1 : ri_c 18 23 [.ref 15, .int x1] ri_M3 = some (some (.int 0), ri_M3, 0, 0) := by
      refine ri_ev_call (N := 7) (L := [some (.ref 15), some (.int x1)]) rfl (Nat.le_of_ble_eq_true rfl) ?_
      refine ri_ev_go 3 (pc1 := 5) (L1 := [some (.ref 15), some (.int x1)]) (st1 := [.int 0, .int x1]) (M1 := ri_M3) (c1 := 0) (s1 := 0) (fun n => rfl) ?_
      have hc0 : ri_c 17 142 [.int x1, .int 0] ri_M3 = some (some (.int 1), ri_M3, 0, 0) := by
        refine ri_ev_call (N := 5) (L := [some (.int x1), some (.int 0)]) rfl (Nat.le_of_ble_eq_true rfl) ?_
        refine ri_ev_go 1 (pc1 := 1) (L1 := [some (.int x1), some (.int 0)]) (st1 := [.int x1]) (M1 := ri_M3) (c1 := 0) (s1 := 0) (fun n => rfl) ?_
        refine ri_iz_lt_t (t := 9) rfl h1 rfl ?_
        refine ri_ev_go 2 (pc1 := 14) (L1 := [some (.int x1), some (.int 0)]) (st1 := [.int 1]) (M1 := ri_M3) (c1 := 0) (s1 := 0) (fun n => rfl) ?_
        exact ri_ev_ret (fun n => rfl)
      refine ri_ev_cls (M1 := ri_M3) (v := some (.int 1)) _ rfl (Or.inr rfl) rfl (Nat.le_of_ble_eq_true rfl) hc0 ?_
      refine ri_ev_go 2 (pc1 := 16) (L1 := [some (.ref 15), some (.int x1)]) (st1 := [.int 0]) (M1 := ri_M3) (c1 := 0) (s1 := 0) (fun n => rfl) ?_
      exact ri_ev_ret (fun n => rfl)
    refine ri_ev_clv (k := 14) (M1 := ri_M3) (v := some (.int 0)) _ rfl rfl rfl rfl (Nat.le_of_ble_eq_true rfl) hc1 ?_
    refine ri_ev_go 2 (pc1 := 12) (L1 := [some (.ref 1), some (.int x1), some (.int x2)]) (st1 := [.int (-1)]) (M1 := ri_M3) (c1 := 0) (s1 := 0) (fun n => rfl) ?_
    exact ri_ev_ret (fun n => rfl)
  · show ri_c 19 225 [.ref 153, .int x1, .int x2] _ = _
    refine ri_ev_call (N := 6) (L := [some (.ref 153), some (.int x1), some (.int x2)]) rfl (Nat.le_of_ble_eq_true rfl) ?_
    refine ri_ev_go 2 (pc1 := 2) (L1 := [some (.ref 153), some (.int x1), some (.int x2)]) (st1 := [.int x1, .ref 153]) (M1 := ri_M3) (c1 := 0) (s1 := 0) (fun n => rfl) ?_
    have hc2 : ri_c 18 215 [.ref 153, .int x1] ri_M3 = some (some (.int 0), ri_M3, 0, 0) := by
      refine ri_ev_call (N := 4) (L := [some (.ref 153), some (.int x1)]) rfl (Nat.le_of_ble_eq_true rfl) ?_
      refine ri_ev_go 1 (pc1 := 1) (L1 := [some (.ref 153), some (.int x1)]) (st1 := [.int x1]) (M1 := ri_M3) (c1 := 0) (s1 := 0) (fun n => rfl) ?_
      refine ri_iz_lt_t (t := 18) rfl h1 rfl ?_
      refine ri_ev_go 1 (pc1 := 19) (L1 := [some (.ref 153), some (.int x1)]) (st1 := [.int 0]) (M1 := ri_M3) (c1 := 0) (s1 := 0) (fun n => rfl) ?_
      exact ri_ev_ret (fun n => rfl)
    refine ri_ev_clv (k := 152) (M1 := ri_M3) (v := some (.int 0)) _ rfl rfl rfl rfl (Nat.le_of_ble_eq_true rfl) hc2 ?_
    refine ri_ev_go 2 (pc1 := 30) (L1 := [some (.ref 153), some (.int x1), some (.int x2)]) (st1 := [.int (-1)]) (M1 := ri_M3) (c1 := 0) (s1 := 0) (fun n => rfl) ?_
    exact ri_ev_ret (fun n => rfl)
theorem ro_answers (x1 x2 : Int32)  : ri_eqv 110 225 [.int x1, .int x2] := by
  by_cases h1 : x1 < 0
  · exact ro_answers_1 x1 x2  h1
  · exact ro_answers_0 x1 x2  h1
set_option maxRecDepth 100000 in
set_option maxHeartbeats 4000000 in
theorem ro_strike_1_0 (x1 : Int32)  (h1 : ¬ x1 < 0) : ri_eqv 111 226 [.int x1, .int 1] := by
  refine ⟨.int 0, ri_M3, ri_M3, ?_, ?_⟩
  · show ri_c 19 111 [.ref 1, .int x1, .int 1] ri_M3 = _
    refine ri_ev_call (N := 7) (L := [some (.ref 1), some (.int x1), some (.int 1)]) rfl (Nat.le_of_ble_eq_true rfl) ?_
    refine ri_ev_go 3 (pc1 := 5) (L1 := [some (.ref 1), some (.int x1), some (.int 1)]) (st1 := [.int x1, .ref 15]) (M1 := ri_M3) (c1 := 0) (s1 := 0) (fun n => rfl) ?_
    have hc1 : ri_c 18 23 [.ref 15, .int x1] ri_M3 = some (some (.int 0), ri_M3, 0, 0) := by
      refine ri_ev_call (N := 7) (L := [some (.ref 15), some (.int x1)]) rfl (Nat.le_of_ble_eq_true rfl) ?_
      refine ri_ev_go 3 (pc1 := 5) (L1 := [some (.ref 15), some (.int x1)]) (st1 := [.int 0, .int x1]) (M1 := ri_M3) (c1 := 0) (s1 := 0) (fun n => rfl) ?_
      have hc0 : ri_c 17 142 [.int x1, .int 0] ri_M3 = some (some (.int 1), ri_M3, 0, 0) := by
        refine ri_ev_call (N := 8) (L := [some (.int x1), some (.int 0)]) rfl (Nat.le_of_ble_eq_true rfl) ?_
        refine ri_ev_go 1 (pc1 := 1) (L1 := [some (.int x1), some (.int 0)]) (st1 := [.int x1]) (M1 := ri_M3) (c1 := 0) (s1 := 0) (fun n => rfl) ?_
        refine ri_iz_lt_f rfl h1 ?_
        refine ri_ev_go 2 (pc1 := 6) (L1 := [some (.int x1), some (.int 0)]) (st1 := [.int 0, .int x1]) (M1 := ri_M3) (c1 := 0) (s1 := 0) (fun n => rfl) ?_
        refine ri_ic_lt_f rfl h1 ?_
        refine ri_ev_go 2 (pc1 := 14) (L1 := [some (.int x1), some (.int 0)]) (st1 := [.int 1]) (M1 := ri_M3) (c1 := 0) (s1 := 0) (fun n => rfl) ?_
        exact ri_ev_ret (fun n => rfl)
      refine ri_ev_cls (M1 := ri_M3) (v := some (.int 1)) _ rfl (Or.inr rfl) rfl (Nat.le_of_ble_eq_true rfl) hc0 ?_
      refine ri_ev_go 2 (pc1 := 16) (L1 := [some (.ref 15), some (.int x1)]) (st1 := [.int 0]) (M1 := ri_M3) (c1 := 0) (s1 := 0) (fun n => rfl) ?_
      exact ri_ev_ret (fun n => rfl)
    refine ri_ev_clv (k := 14) (M1 := ri_M3) (v := some (.int 0)) _ rfl rfl rfl rfl (Nat.le_of_ble_eq_true rfl) hc1 ?_
    refine ri_ev_go 2 (pc1 := 24) (L1 := [some (.ref 1), some (.int x1), some (.int 1)]) (st1 := [.int 0]) (M1 := ri_M3) (c1 := 0) (s1 := 0) (fun n => rfl) ?_
    exact ri_ev_ret (fun n => rfl)
  · show ri_c 19 226 [.ref 153, .int x1, .int 1] _ = _
    refine ri_ev_call (N := 6) (L := [some (.ref 153), some (.int x1), some (.int 1)]) rfl (Nat.le_of_ble_eq_true rfl) ?_
    refine ri_ev_go 2 (pc1 := 2) (L1 := [some (.ref 153), some (.int x1), some (.int 1)]) (st1 := [.int x1, .ref 153]) (M1 := ri_M3) (c1 := 0) (s1 := 0) (fun n => rfl) ?_
    have hc2 : ri_c 18 215 [.ref 153, .int x1] ri_M3 = some (some (.int 0), ri_M3, 0, 0) := by
      refine ri_ev_call (N := 10) (L := [some (.ref 153), some (.int x1)]) rfl (Nat.le_of_ble_eq_true rfl) ?_
      refine ri_ev_go 1 (pc1 := 1) (L1 := [some (.ref 153), some (.int x1)]) (st1 := [.int x1]) (M1 := ri_M3) (c1 := 0) (s1 := 0) (fun n => rfl) ?_
      refine ri_iz_lt_f rfl h1 ?_
      refine ri_ev_go 5 (pc1 := 11) (L1 := [some (.ref 153), some (.int x1)]) (st1 := [.int 0, .int x1]) (M1 := ri_M3) (c1 := 0) (s1 := 0) (fun n => rfl) ?_
      refine ri_ic_ge_t (t := 18) rfl (Int32.not_lt.mp h1) rfl ?_
      refine ri_ev_go 1 (pc1 := 19) (L1 := [some (.ref 153), some (.int x1)]) (st1 := [.int 0]) (M1 := ri_M3) (c1 := 0) (s1 := 0) (fun n => rfl) ?_
      exact ri_ev_ret (fun n => rfl)
    refine ri_ev_clv (k := 152) (M1 := ri_M3) (v := some (.int 0)) _ rfl rfl rfl rfl (Nat.le_of_ble_eq_true rfl) hc2 ?_
    refine ri_ev_go 2 (pc1 := 28) (L1 := [some (.ref 153), some (.int x1), some (.int 1)]) (st1 := [.int 0]) (M1 := ri_M3) (c1 := 0) (s1 := 0) (fun n => rfl) ?_
    exact ri_ev_ret (fun n => rfl)
set_option maxRecDepth 100000 in
set_option maxHeartbeats 4000000 in
theorem ro_strike_1_1 (x1 : Int32)  (h1 : x1 < 0) : ri_eqv 111 226 [.int x1, .int 1] := by
  refine ⟨.int 0, ri_M3, ri_M3, ?_, ?_⟩
  · show ri_c 19 111 [.ref 1, .int x1, .int 1] ri_M3 = _
    refine ri_ev_call (N := 7) (L := [some (.ref 1), some (.int x1), some (.int 1)]) rfl (Nat.le_of_ble_eq_true rfl) ?_
    refine ri_ev_go 3 (pc1 := 5) (L1 := [some (.ref 1), some (.int x1), some (.int 1)]) (st1 := [.int x1, .ref 15]) (M1 := ri_M3) (c1 := 0) (s1 := 0) (fun n => rfl) ?_
    have hc1 : ri_c 18 23 [.ref 15, .int x1] ri_M3 = some (some (.int 0), ri_M3, 0, 0) := by
      refine ri_ev_call (N := 7) (L := [some (.ref 15), some (.int x1)]) rfl (Nat.le_of_ble_eq_true rfl) ?_
      refine ri_ev_go 3 (pc1 := 5) (L1 := [some (.ref 15), some (.int x1)]) (st1 := [.int 0, .int x1]) (M1 := ri_M3) (c1 := 0) (s1 := 0) (fun n => rfl) ?_
      have hc0 : ri_c 17 142 [.int x1, .int 0] ri_M3 = some (some (.int 1), ri_M3, 0, 0) := by
        refine ri_ev_call (N := 5) (L := [some (.int x1), some (.int 0)]) rfl (Nat.le_of_ble_eq_true rfl) ?_
        refine ri_ev_go 1 (pc1 := 1) (L1 := [some (.int x1), some (.int 0)]) (st1 := [.int x1]) (M1 := ri_M3) (c1 := 0) (s1 := 0) (fun n => rfl) ?_
        refine ri_iz_lt_t (t := 9) rfl h1 rfl ?_
        refine ri_ev_go 2 (pc1 := 14) (L1 := [some (.int x1), some (.int 0)]) (st1 := [.int 1]) (M1 := ri_M3) (c1 := 0) (s1 := 0) (fun n => rfl) ?_
        exact ri_ev_ret (fun n => rfl)
      refine ri_ev_cls (M1 := ri_M3) (v := some (.int 1)) _ rfl (Or.inr rfl) rfl (Nat.le_of_ble_eq_true rfl) hc0 ?_
      refine ri_ev_go 2 (pc1 := 16) (L1 := [some (.ref 15), some (.int x1)]) (st1 := [.int 0]) (M1 := ri_M3) (c1 := 0) (s1 := 0) (fun n => rfl) ?_
      exact ri_ev_ret (fun n => rfl)
    refine ri_ev_clv (k := 14) (M1 := ri_M3) (v := some (.int 0)) _ rfl rfl rfl rfl (Nat.le_of_ble_eq_true rfl) hc1 ?_
    refine ri_ev_go 2 (pc1 := 24) (L1 := [some (.ref 1), some (.int x1), some (.int 1)]) (st1 := [.int 0]) (M1 := ri_M3) (c1 := 0) (s1 := 0) (fun n => rfl) ?_
    exact ri_ev_ret (fun n => rfl)
  · show ri_c 19 226 [.ref 153, .int x1, .int 1] _ = _
    refine ri_ev_call (N := 6) (L := [some (.ref 153), some (.int x1), some (.int 1)]) rfl (Nat.le_of_ble_eq_true rfl) ?_
    refine ri_ev_go 2 (pc1 := 2) (L1 := [some (.ref 153), some (.int x1), some (.int 1)]) (st1 := [.int x1, .ref 153]) (M1 := ri_M3) (c1 := 0) (s1 := 0) (fun n => rfl) ?_
    have hc2 : ri_c 18 215 [.ref 153, .int x1] ri_M3 = some (some (.int 0), ri_M3, 0, 0) := by
      refine ri_ev_call (N := 4) (L := [some (.ref 153), some (.int x1)]) rfl (Nat.le_of_ble_eq_true rfl) ?_
      refine ri_ev_go 1 (pc1 := 1) (L1 := [some (.ref 153), some (.int x1)]) (st1 := [.int x1]) (M1 := ri_M3) (c1 := 0) (s1 := 0) (fun n => rfl) ?_
      refine ri_iz_lt_t (t := 18) rfl h1 rfl ?_
      refine ri_ev_go 1 (pc1 := 19) (L1 := [some (.ref 153), some (.int x1)]) (st1 := [.int 0]) (M1 := ri_M3) (c1 := 0) (s1 := 0) (fun n => rfl) ?_
      exact ri_ev_ret (fun n => rfl)
    refine ri_ev_clv (k := 152) (M1 := ri_M3) (v := some (.int 0)) _ rfl rfl rfl rfl (Nat.le_of_ble_eq_true rfl) hc2 ?_
    refine ri_ev_go 2 (pc1 := 28) (L1 := [some (.ref 153), some (.int x1), some (.int 1)]) (st1 := [.int 0]) (M1 := ri_M3) (c1 := 0) (s1 := 0) (fun n => rfl) ?_
    exact ri_ev_ret (fun n => rfl)
theorem ro_strike_1 (x1 : Int32)  : ri_eqv 111 226 [.int x1, .int 1] := by
  by_cases h1 : x1 < 0
  · exact ro_strike_1_1 x1  h1
  · exact ro_strike_1_0 x1  h1
set_option maxRecDepth 100000 in
set_option maxHeartbeats 4000000 in
theorem ro_strike_0_0 (x1 : Int32)  (h1 : ¬ x1 < 0) : ri_eqv 111 226 [.int x1, .int 0] := by
  refine ⟨.int 0, ri_M3, ri_M3, ?_, ?_⟩
  · show ri_c 19 111 [.ref 1, .int x1, .int 0] ri_M3 = _
    refine ri_ev_call (N := 7) (L := [some (.ref 1), some (.int x1), some (.int 0)]) rfl (Nat.le_of_ble_eq_true rfl) ?_
    refine ri_ev_go 3 (pc1 := 5) (L1 := [some (.ref 1), some (.int x1), some (.int 0)]) (st1 := [.int x1, .ref 15]) (M1 := ri_M3) (c1 := 0) (s1 := 0) (fun n => rfl) ?_
    have hc1 : ri_c 18 23 [.ref 15, .int x1] ri_M3 = some (some (.int 0), ri_M3, 0, 0) := by
      refine ri_ev_call (N := 7) (L := [some (.ref 15), some (.int x1)]) rfl (Nat.le_of_ble_eq_true rfl) ?_
      refine ri_ev_go 3 (pc1 := 5) (L1 := [some (.ref 15), some (.int x1)]) (st1 := [.int 0, .int x1]) (M1 := ri_M3) (c1 := 0) (s1 := 0) (fun n => rfl) ?_
      have hc0 : ri_c 17 142 [.int x1, .int 0] ri_M3 = some (some (.int 1), ri_M3, 0, 0) := by
        refine ri_ev_call (N := 8) (L := [some (.int x1), some (.int 0)]) rfl (Nat.le_of_ble_eq_true rfl) ?_
        refine ri_ev_go 1 (pc1 := 1) (L1 := [some (.int x1), some (.int 0)]) (st1 := [.int x1]) (M1 := ri_M3) (c1 := 0) (s1 := 0) (fun n => rfl) ?_
        refine ri_iz_lt_f rfl h1 ?_
        refine ri_ev_go 2 (pc1 := 6) (L1 := [some (.int x1), some (.int 0)]) (st1 := [.int 0, .int x1]) (M1 := ri_M3) (c1 := 0) (s1 := 0) (fun n => rfl) ?_
        refine ri_ic_lt_f rfl h1 ?_
        refine ri_ev_go 2 (pc1 := 14) (L1 := [some (.int x1), some (.int 0)]) (st1 := [.int 1]) (M1 := ri_M3) (c1 := 0) (s1 := 0) (fun n => rfl) ?_
        exact ri_ev_ret (fun n => rfl)
      refine ri_ev_cls (M1 := ri_M3) (v := some (.int 1)) _ rfl (Or.inr rfl) rfl (Nat.le_of_ble_eq_true rfl) hc0 ?_
      refine ri_ev_go 2 (pc1 := 16) (L1 := [some (.ref 15), some (.int x1)]) (st1 := [.int 0]) (M1 := ri_M3) (c1 := 0) (s1 := 0) (fun n => rfl) ?_
      exact ri_ev_ret (fun n => rfl)
    refine ri_ev_clv (k := 14) (M1 := ri_M3) (v := some (.int 0)) _ rfl rfl rfl rfl (Nat.le_of_ble_eq_true rfl) hc1 ?_
    refine ri_ev_go 2 (pc1 := 24) (L1 := [some (.ref 1), some (.int x1), some (.int 0)]) (st1 := [.int 0]) (M1 := ri_M3) (c1 := 0) (s1 := 0) (fun n => rfl) ?_
    exact ri_ev_ret (fun n => rfl)
  · show ri_c 19 226 [.ref 153, .int x1, .int 0] _ = _
    refine ri_ev_call (N := 6) (L := [some (.ref 153), some (.int x1), some (.int 0)]) rfl (Nat.le_of_ble_eq_true rfl) ?_
    refine ri_ev_go 2 (pc1 := 2) (L1 := [some (.ref 153), some (.int x1), some (.int 0)]) (st1 := [.int x1, .ref 153]) (M1 := ri_M3) (c1 := 0) (s1 := 0) (fun n => rfl) ?_
    have hc2 : ri_c 18 215 [.ref 153, .int x1] ri_M3 = some (some (.int 0), ri_M3, 0, 0) := by
      refine ri_ev_call (N := 10) (L := [some (.ref 153), some (.int x1)]) rfl (Nat.le_of_ble_eq_true rfl) ?_
      refine ri_ev_go 1 (pc1 := 1) (L1 := [some (.ref 153), some (.int x1)]) (st1 := [.int x1]) (M1 := ri_M3) (c1 := 0) (s1 := 0) (fun n => rfl) ?_
      refine ri_iz_lt_f rfl h1 ?_
      refine ri_ev_go 5 (pc1 := 11) (L1 := [some (.ref 153), some (.int x1)]) (st1 := [.int 0, .int x1]) (M1 := ri_M3) (c1 := 0) (s1 := 0) (fun n => rfl) ?_
      refine ri_ic_ge_t (t := 18) rfl (Int32.not_lt.mp h1) rfl ?_
      refine ri_ev_go 1 (pc1 := 19) (L1 := [some (.ref 153), some (.int x1)]) (st1 := [.int 0]) (M1 := ri_M3) (c1 := 0) (s1 := 0) (fun n => rfl) ?_
      exact ri_ev_ret (fun n => rfl)
    refine ri_ev_clv (k := 152) (M1 := ri_M3) (v := some (.int 0)) _ rfl rfl rfl rfl (Nat.le_of_ble_eq_true rfl) hc2 ?_
    refine ri_ev_go 2 (pc1 := 28) (L1 := [some (.ref 153), some (.int x1), some (.int 0)]) (st1 := [.int 0]) (M1 := ri_M3) (c1 := 0) (s1 := 0) (fun n => rfl) ?_
    exact ri_ev_ret (fun n => rfl)
set_option maxRecDepth 100000 in
set_option maxHeartbeats 4000000 in
theorem ro_strike_0_1 (x1 : Int32)  (h1 : x1 < 0) : ri_eqv 111 226 [.int x1, .int 0] := by
  refine ⟨.int 0, ri_M3, ri_M3, ?_, ?_⟩
  · show ri_c 19 111 [.ref 1, .int x1, .int 0] ri_M3 = _
    refine ri_ev_call (N := 7) (L := [some (.ref 1), some (.int x1), some (.int 0)]) rfl (Nat.le_of_ble_eq_true rfl) ?_
    refine ri_ev_go 3 (pc1 := 5) (L1 := [some (.ref 1), some (.int x1), some (.int 0)]) (st1 := [.int x1, .ref 15]) (M1 := ri_M3) (c1 := 0) (s1 := 0) (fun n => rfl) ?_
    have hc1 : ri_c 18 23 [.ref 15, .int x1] ri_M3 = some (some (.int 0), ri_M3, 0, 0) := by
      refine ri_ev_call (N := 7) (L := [some (.ref 15), some (.int x1)]) rfl (Nat.le_of_ble_eq_true rfl) ?_
      refine ri_ev_go 3 (pc1 := 5) (L1 := [some (.ref 15), some (.int x1)]) (st1 := [.int 0, .int x1]) (M1 := ri_M3) (c1 := 0) (s1 := 0) (fun n => rfl) ?_
      have hc0 : ri_c 17 142 [.int x1, .int 0] ri_M3 = some (some (.int 1), ri_M3, 0, 0) := by
        refine ri_ev_call (N := 5) (L := [some (.int x1), some (.int 0)]) rfl (Nat.le_of_ble_eq_true rfl) ?_
        refine ri_ev_go 1 (pc1 := 1) (L1 := [some (.int x1), some (.int 0)]) (st1 := [.int x1]) (M1 := ri_M3) (c1 := 0) (s1 := 0) (fun n => rfl) ?_
        refine ri_iz_lt_t (t := 9) rfl h1 rfl ?_
        refine ri_ev_go 2 (pc1 := 14) (L1 := [some (.int x1), some (.int 0)]) (st1 := [.int 1]) (M1 := ri_M3) (c1 := 0) (s1 := 0) (fun n => rfl) ?_
        exact ri_ev_ret (fun n => rfl)
      refine ri_ev_cls (M1 := ri_M3) (v := some (.int 1)) _ rfl (Or.inr rfl) rfl (Nat.le_of_ble_eq_true rfl) hc0 ?_
      refine ri_ev_go 2 (pc1 := 16) (L1 := [some (.ref 15), some (.int x1)]) (st1 := [.int 0]) (M1 := ri_M3) (c1 := 0) (s1 := 0) (fun n => rfl) ?_
      exact ri_ev_ret (fun n => rfl)
    refine ri_ev_clv (k := 14) (M1 := ri_M3) (v := some (.int 0)) _ rfl rfl rfl rfl (Nat.le_of_ble_eq_true rfl) hc1 ?_
    refine ri_ev_go 2 (pc1 := 24) (L1 := [some (.ref 1), some (.int x1), some (.int 0)]) (st1 := [.int 0]) (M1 := ri_M3) (c1 := 0) (s1 := 0) (fun n => rfl) ?_
    exact ri_ev_ret (fun n => rfl)
  · show ri_c 19 226 [.ref 153, .int x1, .int 0] _ = _
    refine ri_ev_call (N := 6) (L := [some (.ref 153), some (.int x1), some (.int 0)]) rfl (Nat.le_of_ble_eq_true rfl) ?_
    refine ri_ev_go 2 (pc1 := 2) (L1 := [some (.ref 153), some (.int x1), some (.int 0)]) (st1 := [.int x1, .ref 153]) (M1 := ri_M3) (c1 := 0) (s1 := 0) (fun n => rfl) ?_
    have hc2 : ri_c 18 215 [.ref 153, .int x1] ri_M3 = some (some (.int 0), ri_M3, 0, 0) := by
      refine ri_ev_call (N := 4) (L := [some (.ref 153), some (.int x1)]) rfl (Nat.le_of_ble_eq_true rfl) ?_
      refine ri_ev_go 1 (pc1 := 1) (L1 := [some (.ref 153), some (.int x1)]) (st1 := [.int x1]) (M1 := ri_M3) (c1 := 0) (s1 := 0) (fun n => rfl) ?_
      refine ri_iz_lt_t (t := 18) rfl h1 rfl ?_
      refine ri_ev_go 1 (pc1 := 19) (L1 := [some (.ref 153), some (.int x1)]) (st1 := [.int 0]) (M1 := ri_M3) (c1 := 0) (s1 := 0) (fun n => rfl) ?_
      exact ri_ev_ret (fun n => rfl)
    refine ri_ev_clv (k := 152) (M1 := ri_M3) (v := some (.int 0)) _ rfl rfl rfl rfl (Nat.le_of_ble_eq_true rfl) hc2 ?_
    refine ri_ev_go 2 (pc1 := 28) (L1 := [some (.ref 153), some (.int x1), some (.int 0)]) (st1 := [.int 0]) (M1 := ri_M3) (c1 := 0) (s1 := 0) (fun n => rfl) ?_
    exact ri_ev_ret (fun n => rfl)
theorem ro_strike_0 (x1 : Int32)  : ri_eqv 111 226 [.int x1, .int 0] := by
  by_cases h1 : x1 < 0
  · exact ro_strike_0_1 x1  h1
  · exact ro_strike_0_0 x1  h1
set_option maxRecDepth 100000 in
set_option maxHeartbeats 4000000 in
theorem ro_only_0 (x1 : Int32)  (h1 : ¬ x1 < (-1)) (h2 : ¬ 40 < x1) : ri_eqv 112 227 [.int x1] := by
  refine ⟨.int (-1), (ri_M3.set 14 (.inr (2, [.ref 16, .ref 20, .ref 21, .ref 22, .ref 23, .ref 24, .int 0, .int x1, .ref 25, .ref 26, .int 0, .int 0]))), ((ri_M3.set 14 (.inr (2, [.ref 16, .ref 20, .ref 21, .ref 22, .ref 23, .ref 24, .int 0, .int x1, .ref 25, .ref 26, .int 0, .int 0]))).set 163 (.inl (.int, (262, .inl (upd (upd (fun _ => 0) 4 (-1)) 4 x1))))), ?_, ?_⟩
  · show ri_c 19 112 [.ref 1, .int x1] ri_M3 = _
    refine ri_ev_call (N := 16) (L := [some (.ref 1), some (.int x1), none]) rfl (Nat.le_of_ble_eq_true rfl) ?_
    refine ri_ev_go 2 (pc1 := 2) (L1 := [some (.ref 1), some (.int x1), none]) (st1 := [.int (-1), .int x1]) (M1 := ri_M3) (c1 := 0) (s1 := 0) (fun n => rfl) ?_
    refine ri_ic_lt_f rfl h1 ?_
    refine ri_ev_go 2 (pc1 := 8) (L1 := [some (.ref 1), some (.int x1), none]) (st1 := [.int 40, .int x1]) (M1 := ri_M3) (c1 := 0) (s1 := 0) (fun n => rfl) ?_
    refine ri_ic_le_t (t := 14) rfl (Int32.not_lt.mp h2) rfl ?_
    refine ri_ev_go 8 (pc1 := 30) (L1 := [some (.ref 1), some (.int x1), some (.int (-1))]) (st1 := []) (M1 := (ri_M3.set 14 (.inr (2, [.ref 16, .ref 20, .ref 21, .ref 22, .ref 23, .ref 24, .int 0, .int x1, .ref 25, .ref 26, .int 0, .int 0])))) (c1 := 0) (s1 := 0) (fun n => rfl) ?_
    refine ri_ev_go 1 (pc1 := 31) (L1 := [some (.ref 1), some (.int x1), some (.int (-1))]) (st1 := [.int (-1)]) (M1 := (ri_M3.set 14 (.inr (2, [.ref 16, .ref 20, .ref 21, .ref 22, .ref 23, .ref 24, .int 0, .int x1, .ref 25, .ref 26, .int 0, .int 0])))) (c1 := 0) (s1 := 0) (fun n => rfl) ?_
    exact ri_ev_ret (fun n => rfl)
  · show ri_c 19 227 [.ref 153, .int x1] _ = _
    refine ri_ev_call (N := 18) (L := [some (.ref 153), some (.int x1), none]) rfl (Nat.le_of_ble_eq_true rfl) ?_
    refine ri_ev_go 4 (pc1 := 8) (L1 := [some (.ref 153), some (.int x1), none]) (st1 := [.long 40, .long (-1), .long (x1).toInt64]) (M1 := (ri_M3.set 14 (.inr (2, [.ref 16, .ref 20, .ref 21, .ref 22, .ref 23, .ref 24, .int 0, .int x1, .ref 25, .ref 26, .int 0, .int 0])))) (c1 := 0) (s1 := 0) (fun n => rfl) ?_
    have hc0 : ri_c 18 169 [.long (x1).toInt64, .long (-1), .long 40] (ri_M3.set 14 (.inr (2, [.ref 16, .ref 20, .ref 21, .ref 22, .ref 23, .ref 24, .int 0, .int x1, .ref 25, .ref 26, .int 0, .int 0]))) = some (some (.int 1), (ri_M3.set 14 (.inr (2, [.ref 16, .ref 20, .ref 21, .ref 22, .ref 23, .ref 24, .int 0, .int x1, .ref 25, .ref 26, .int 0, .int 0]))), 0, 0) := by
      refine ri_ev_call (N := 11) (L := [some (.long (x1).toInt64), none, some (.long (-1)), none, some (.long 40), none]) rfl (Nat.le_of_ble_eq_true rfl) ?_
      refine ri_ev_go 3 (pc1 := 3) (L1 := [some (.long (x1).toInt64), none, some (.long (-1)), none, some (.long 40), none]) (st1 := [.int (lg_cmp (x1).toInt64 (-1))]) (M1 := (ri_M3.set 14 (.inr (2, [.ref 16, .ref 20, .ref 21, .ref 22, .ref 23, .ref 24, .int 0, .int x1, .ref 25, .ref 26, .int 0, .int 0])))) (c1 := 0) (s1 := 0) (fun n => rfl) ?_
      refine ri_iz_lt_f rfl (fun q => h1 ((ri_lc_lt (c := (-1)) rfl).mp q)) ?_
      refine ri_ev_go 3 (pc1 := 10) (L1 := [some (.long (x1).toInt64), none, some (.long (-1)), none, some (.long 40), none]) (st1 := [.int (lg_cmp (x1).toInt64 40)]) (M1 := (ri_M3.set 14 (.inr (2, [.ref 16, .ref 20, .ref 21, .ref 22, .ref 23, .ref 24, .int 0, .int x1, .ref 25, .ref 26, .int 0, .int 0])))) (c1 := 0) (s1 := 0) (fun n => rfl) ?_
      refine ri_iz_gt_f rfl (fun q => h2 ((ri_lc_gt (c := 40) rfl).mp q)) ?_
      refine ri_ev_go 2 (pc1 := 18) (L1 := [some (.long (x1).toInt64), none, some (.long (-1)), none, some (.long 40), none]) (st1 := [.int 1]) (M1 := (ri_M3.set 14 (.inr (2, [.ref 16, .ref 20, .ref 21, .ref 22, .ref 23, .ref 24, .int 0, .int x1, .ref 25, .ref 26, .int 0, .int 0])))) (c1 := 0) (s1 := 0) (fun n => rfl) ?_
      exact ri_ev_ret (fun n => rfl)
    refine ri_ev_cls (M1 := (ri_M3.set 14 (.inr (2, [.ref 16, .ref 20, .ref 21, .ref 22, .ref 23, .ref 24, .int 0, .int x1, .ref 25, .ref 26, .int 0, .int 0])))) (v := some (.int 1)) _ rfl (Or.inl rfl) rfl (Nat.le_of_ble_eq_true rfl) hc0 ?_
    refine ri_ev_go 11 (pc1 := 31) (L1 := [some (.ref 153), some (.int x1), some (.int (-1))]) (st1 := []) (M1 := ((ri_M3.set 14 (.inr (2, [.ref 16, .ref 20, .ref 21, .ref 22, .ref 23, .ref 24, .int 0, .int x1, .ref 25, .ref 26, .int 0, .int 0]))).set 163 (.inl (.int, (262, .inl (upd (upd (fun _ => 0) 4 (-1)) 4 x1)))))) (c1 := 0) (s1 := 0) (fun n => rfl) ?_
    refine ri_ev_go 1 (pc1 := 32) (L1 := [some (.ref 153), some (.int x1), some (.int (-1))]) (st1 := [.int (-1)]) (M1 := ((ri_M3.set 14 (.inr (2, [.ref 16, .ref 20, .ref 21, .ref 22, .ref 23, .ref 24, .int 0, .int x1, .ref 25, .ref 26, .int 0, .int 0]))).set 163 (.inl (.int, (262, .inl (upd (upd (fun _ => 0) 4 (-1)) 4 x1)))))) (c1 := 0) (s1 := 0) (fun n => rfl) ?_
    exact ri_ev_ret (fun n => rfl)
set_option maxRecDepth 100000 in
set_option maxHeartbeats 4000000 in
theorem ro_only_1 (x1 : Int32)  (h1 : ¬ x1 < (-1)) (h2 : 40 < x1) : ri_eqv 112 227 [.int x1] := by
  refine ⟨.int (-2), ri_M3, ri_M3, ?_, ?_⟩
  · show ri_c 19 112 [.ref 1, .int x1] ri_M3 = _
    refine ri_ev_call (N := 8) (L := [some (.ref 1), some (.int x1), none]) rfl (Nat.le_of_ble_eq_true rfl) ?_
    refine ri_ev_go 2 (pc1 := 2) (L1 := [some (.ref 1), some (.int x1), none]) (st1 := [.int (-1), .int x1]) (M1 := ri_M3) (c1 := 0) (s1 := 0) (fun n => rfl) ?_
    refine ri_ic_lt_f rfl h1 ?_
    refine ri_ev_go 2 (pc1 := 8) (L1 := [some (.ref 1), some (.int x1), none]) (st1 := [.int 40, .int x1]) (M1 := ri_M3) (c1 := 0) (s1 := 0) (fun n => rfl) ?_
    refine ri_ic_le_f rfl (Int32.not_le.mpr h2) ?_
    refine ri_ev_go 1 (pc1 := 13) (L1 := [some (.ref 1), some (.int x1), none]) (st1 := [.int (-2)]) (M1 := ri_M3) (c1 := 0) (s1 := 0) (fun n => rfl) ?_
    exact ri_ev_ret (fun n => rfl)
  · show ri_c 19 227 [.ref 153, .int x1] _ = _
    refine ri_ev_call (N := 8) (L := [some (.ref 153), some (.int x1), none]) rfl (Nat.le_of_ble_eq_true rfl) ?_
    refine ri_ev_go 4 (pc1 := 8) (L1 := [some (.ref 153), some (.int x1), none]) (st1 := [.long 40, .long (-1), .long (x1).toInt64]) (M1 := ri_M3) (c1 := 0) (s1 := 0) (fun n => rfl) ?_
    have hc0 : ri_c 18 169 [.long (x1).toInt64, .long (-1), .long 40] ri_M3 = some (some (.int 0), ri_M3, 0, 0) := by
      refine ri_ev_call (N := 10) (L := [some (.long (x1).toInt64), none, some (.long (-1)), none, some (.long 40), none]) rfl (Nat.le_of_ble_eq_true rfl) ?_
      refine ri_ev_go 3 (pc1 := 3) (L1 := [some (.long (x1).toInt64), none, some (.long (-1)), none, some (.long 40), none]) (st1 := [.int (lg_cmp (x1).toInt64 (-1))]) (M1 := ri_M3) (c1 := 0) (s1 := 0) (fun n => rfl) ?_
      refine ri_iz_lt_f rfl (fun q => h1 ((ri_lc_lt (c := (-1)) rfl).mp q)) ?_
      refine ri_ev_go 3 (pc1 := 10) (L1 := [some (.long (x1).toInt64), none, some (.long (-1)), none, some (.long 40), none]) (st1 := [.int (lg_cmp (x1).toInt64 40)]) (M1 := ri_M3) (c1 := 0) (s1 := 0) (fun n => rfl) ?_
      refine ri_iz_gt_t (t := 17) rfl ((ri_lc_gt (c := 40) rfl).mpr h2) rfl ?_
      refine ri_ev_go 1 (pc1 := 18) (L1 := [some (.long (x1).toInt64), none, some (.long (-1)), none, some (.long 40), none]) (st1 := [.int 0]) (M1 := ri_M3) (c1 := 0) (s1 := 0) (fun n => rfl) ?_
      exact ri_ev_ret (fun n => rfl)
    refine ri_ev_cls (M1 := ri_M3) (v := some (.int 0)) _ rfl (Or.inl rfl) rfl (Nat.le_of_ble_eq_true rfl) hc0 ?_
    refine ri_ev_go 2 (pc1 := 16) (L1 := [some (.ref 153), some (.int x1), none]) (st1 := [.int (-2)]) (M1 := ri_M3) (c1 := 0) (s1 := 0) (fun n => rfl) ?_
    exact ri_ev_ret (fun n => rfl)
set_option maxRecDepth 100000 in
set_option maxHeartbeats 4000000 in
theorem ro_only_2 (x1 : Int32)  (h1 : x1 < (-1)) : ri_eqv 112 227 [.int x1] := by
  refine ⟨.int (-2), ri_M3, ri_M3, ?_, ?_⟩
  · show ri_c 19 112 [.ref 1, .int x1] ri_M3 = _
    refine ri_ev_call (N := 5) (L := [some (.ref 1), some (.int x1), none]) rfl (Nat.le_of_ble_eq_true rfl) ?_
    refine ri_ev_go 2 (pc1 := 2) (L1 := [some (.ref 1), some (.int x1), none]) (st1 := [.int (-1), .int x1]) (M1 := ri_M3) (c1 := 0) (s1 := 0) (fun n => rfl) ?_
    refine ri_ic_lt_t (t := 11) rfl h1 rfl ?_
    refine ri_ev_go 1 (pc1 := 13) (L1 := [some (.ref 1), some (.int x1), none]) (st1 := [.int (-2)]) (M1 := ri_M3) (c1 := 0) (s1 := 0) (fun n => rfl) ?_
    exact ri_ev_ret (fun n => rfl)
  · show ri_c 19 227 [.ref 153, .int x1] _ = _
    refine ri_ev_call (N := 8) (L := [some (.ref 153), some (.int x1), none]) rfl (Nat.le_of_ble_eq_true rfl) ?_
    refine ri_ev_go 4 (pc1 := 8) (L1 := [some (.ref 153), some (.int x1), none]) (st1 := [.long 40, .long (-1), .long (x1).toInt64]) (M1 := ri_M3) (c1 := 0) (s1 := 0) (fun n => rfl) ?_
    have hc0 : ri_c 18 169 [.long (x1).toInt64, .long (-1), .long 40] ri_M3 = some (some (.int 0), ri_M3, 0, 0) := by
      refine ri_ev_call (N := 6) (L := [some (.long (x1).toInt64), none, some (.long (-1)), none, some (.long 40), none]) rfl (Nat.le_of_ble_eq_true rfl) ?_
      refine ri_ev_go 3 (pc1 := 3) (L1 := [some (.long (x1).toInt64), none, some (.long (-1)), none, some (.long 40), none]) (st1 := [.int (lg_cmp (x1).toInt64 (-1))]) (M1 := ri_M3) (c1 := 0) (s1 := 0) (fun n => rfl) ?_
      refine ri_iz_lt_t (t := 17) rfl ((ri_lc_lt (c := (-1)) rfl).mpr h1) rfl ?_
      refine ri_ev_go 1 (pc1 := 18) (L1 := [some (.long (x1).toInt64), none, some (.long (-1)), none, some (.long 40), none]) (st1 := [.int 0]) (M1 := ri_M3) (c1 := 0) (s1 := 0) (fun n => rfl) ?_
      exact ri_ev_ret (fun n => rfl)
    refine ri_ev_cls (M1 := ri_M3) (v := some (.int 0)) _ rfl (Or.inl rfl) rfl (Nat.le_of_ble_eq_true rfl) hc0 ?_
    refine ri_ev_go 2 (pc1 := 16) (L1 := [some (.ref 153), some (.int x1), none]) (st1 := [.int (-2)]) (M1 := ri_M3) (c1 := 0) (s1 := 0) (fun n => rfl) ?_
    exact ri_ev_ret (fun n => rfl)
theorem ro_only (x1 : Int32)  : ri_eqv 112 227 [.int x1] := by
  by_cases h1 : x1 < (-1)
  · exact ro_only_2 x1  h1
  · by_cases h2 : 40 < x1
    · exact ro_only_1 x1  h1 h2
    · exact ro_only_0 x1  h1 h2
