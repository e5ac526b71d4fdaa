/-! The law over one call. -/
theorem ri_lg_self (z : Int64) : lg_cmp z z = 0 := by
  unfold lg_cmp
  rw [if_neg Int64.lt_irrefl, if_pos rfl]
theorem ri_small (v : Int32) (n : Nat) (hn : n < 2147483647) : (v.toInt < 0 ∨ (n : Int) < v.toInt) ∨ ∃ k : Nat, k ≤ n ∧ v = Int32.ofNat k := by
  by_cases h : v.toInt < 0 ∨ (n : Int) < v.toInt
  · exact Or.inl h
  · refine Or.inr ⟨v.toInt.toNat, by omega, ?_⟩
    apply Int32.toInt_inj.mp
    rw [Int32.toInt_ofNat_of_lt (by omega)]
    omega
theorem ro_count (x1 : Int32) : ri_eqi 139 276 [.int x1] := by
  rcases ri_small x1 9 (by decide) with h | ⟨k, hk, rfl⟩
  · exact ro_count_o x1 h
  · match k, hk with
    | 0, _ => exact ro_count_0
    | 1, _ => exact ro_count_1
    | 2, _ => exact ro_count_2
    | 3, _ => exact ro_count_3
    | 4, _ => exact ro_count_4
    | 5, _ => exact ro_count_5
    | 6, _ => exact ro_count_6
    | 7, _ => exact ro_count_7
    | 8, _ => exact ro_count_8
    | 9, _ => exact ro_count_9
    | k + 10, hk => exact absurd hk (by omega)
theorem ro_image (x1 : Int32) : ri_eqi 140 277 [.int x1] := by
  by_cases h1 : x1 < 0
  · exact ro_image_n x1 h1
  · by_cases h2 : x1 < 4
    · rcases ri_small x1 3 (by decide) with h | ⟨k, hk, rfl⟩
      · exfalso
        rw [Int32.lt_iff_toInt_lt] at h1 h2
        simp at h1 h2
        omega
      · match k, hk with
        | 0, _ => exact ro_image_0
        | 1, _ => exact ro_image_1
        | 2, _ => exact ro_image_2
        | 3, _ => exact ro_image_3
        | k + 4, hk => exact absurd hk (by omega)
    · exact ro_image_b x1 h1 h2
theorem ro_back (x1 : Int32) : ri_eqi 141 278 [.int x1] := by
  by_cases h1 : x1 < 0
  · exact ro_back_n x1 h1
  · by_cases h2 : x1 < 4
    · rcases ri_small x1 3 (by decide) with h | ⟨k, hk, rfl⟩
      · exfalso
        rw [Int32.lt_iff_toInt_lt] at h1 h2
        simp at h1 h2
        omega
      · match k, hk with
        | 0, _ => exact ro_back_0
        | 1, _ => exact ro_back_1
        | 2, _ => exact ro_back_2
        | 3, _ => exact ro_back_3
        | k + 4, hk => exact absurd hk (by omega)
    · exact ro_back_b x1 h1 h2
theorem ri_tail_1619 {xs : Nat → Int32} {M2 : ri_M} {cc sc : Nat} : ri_ev 10 (some (6, xs)) 19 ri_law (some .boolean) 1619 [some (.ref 0), some (.ref 1), some (.ref 153), some (.int 0)] [] M2 cc sc (some (.int 1), M2, cc, sc) := by
  refine ri_ev_go 9 (pc1 := 1626) (L1 := [some (.ref 0), some (.ref 1), some (.ref 153), some (.int 6)]) (st1 := [.int 1]) (M1 := M2) (c1 := cc) (s1 := sc) (fun n => rfl) ?_
  exact ri_ev_ret (fun n => rfl)
set_option maxRecDepth 100000 in
set_option maxHeartbeats 4000000 in
theorem ri_op_0 (xs : Nat → Int32) (cc sc : Nat) : ∃ N M2, N ≤ 10000 ∧ ri_ev N (some (6, xs)) 19 ri_law (some .boolean) 204 [some (.ref 0), some (.ref 1), some (.ref 153), some (.int 0)] [] ri_M3 cc sc (some (.int 1), M2, cc, sc) := by
  obtain ⟨z, fs, M1, M2, h1, h9, h2⟩ := (ro_feed (xs 1) (xs 2) (xs 3) (xs 4) (xs 5))
  refine ⟨65, M2, Nat.le_of_ble_eq_true rfl, ?_⟩
  refine ri_ev_go 26 (pc1 := 230) (L1 := [some (.ref 0), some (.ref 1), some (.ref 153), some (.int 0)]) (st1 := [.int (xs 5), .int (xs 4), .int (xs 3), .int (xs 2), .int (xs 1), .ref 1]) (M1 := ri_M3) (c1 := cc) (s1 := sc) (fun n => rfl) ?_
  refine ri_ev_clv (k := 0) (as := [.int (xs 1), .int (xs 2), .int (xs 3), .int (xs 4), .int (xs 5)]) (rr := []) (M1 := M1) (v := some (.int z)) _ rfl rfl ri_M3_0 rfl (Nat.le_of_ble_eq_true rfl) h1 ?_
  refine ri_ev_go 26 (pc1 := 259) (L1 := [some (.ref 0), some (.ref 1), some (.ref 153), some (.int 0)]) (st1 := [.int (xs 5), .int (xs 4), .int (xs 3), .int (xs 2), .int (xs 1), .ref 153, .int z]) (M1 := M1) (c1 := cc) (s1 := sc) (fun n => rfl) ?_
  refine ri_ev_clv (k := 152) (as := [.int (xs 1), .int (xs 2), .int (xs 3), .int (xs 4), .int (xs 5)]) (rr := [.int z]) (M1 := M2) (v := some (.int z)) _ rfl rfl h9 rfl (Nat.le_of_ble_eq_true rfl) h2 ?_
  refine ri_ic_eq_t (t := 1619) rfl rfl rfl ?_
  exact ri_tail_1619
set_option maxRecDepth 100000 in
set_option maxHeartbeats 4000000 in
theorem ri_op_1 (xs : Nat → Int32) (cc sc : Nat) : ∃ N M2, N ≤ 10000 ∧ ri_ev N (some (6, xs)) 19 ri_law (some .boolean) 267 [some (.ref 0), some (.ref 1), some (.ref 153), some (.int 0)] [] ri_M3 cc sc (some (.int 1), M2, cc, sc) := by
  obtain ⟨z, fs, M1, M2, h1, h9, h2⟩ := (ro_end (xs 1))
  refine ⟨25, M2, Nat.le_of_ble_eq_true rfl, ?_⟩
  refine ri_ev_go 6 (pc1 := 273) (L1 := [some (.ref 0), some (.ref 1), some (.ref 153), some (.int 0)]) (st1 := [.int (xs 1), .ref 1]) (M1 := ri_M3) (c1 := cc) (s1 := sc) (fun n => rfl) ?_
  refine ri_ev_clv (k := 0) (as := [.int (xs 1)]) (rr := []) (M1 := M1) (v := some (.int z)) _ rfl rfl ri_M3_0 rfl (Nat.le_of_ble_eq_true rfl) h1 ?_
  refine ri_ev_go 6 (pc1 := 282) (L1 := [some (.ref 0), some (.ref 1), some (.ref 153), some (.int 0)]) (st1 := [.int (xs 1), .ref 153, .int z]) (M1 := M1) (c1 := cc) (s1 := sc) (fun n => rfl) ?_
  refine ri_ev_clv (k := 152) (as := [.int (xs 1)]) (rr := [.int z]) (M1 := M2) (v := some (.int z)) _ rfl rfl h9 rfl (Nat.le_of_ble_eq_true rfl) h2 ?_
  refine ri_ic_eq_t (t := 1619) rfl rfl rfl ?_
  exact ri_tail_1619
set_option maxRecDepth 100000 in
set_option maxHeartbeats 4000000 in
theorem ri_op_2 (xs : Nat → Int32) (cc sc : Nat) : ∃ N M2, N ≤ 10000 ∧ ri_ev N (some (6, xs)) 19 ri_law (some .boolean) 290 [some (.ref 0), some (.ref 1), some (.ref 153), some (.int 0)] [] ri_M3 cc sc (some (.int 1), M2, cc, sc) := by
  obtain ⟨z, fs, M1, M2, h1, h9, h2⟩ := (ro_court)
  refine ⟨15, M2, Nat.le_of_ble_eq_true rfl, ?_⟩
  refine ri_ev_go 1 (pc1 := 291) (L1 := [some (.ref 0), some (.ref 1), some (.ref 153), some (.int 0)]) (st1 := [.ref 1]) (M1 := ri_M3) (c1 := cc) (s1 := sc) (fun n => rfl) ?_
  refine ri_ev_clv (k := 0) (as := []) (rr := []) (M1 := M1) (v := some (.int z)) _ rfl rfl ri_M3_0 rfl (Nat.le_of_ble_eq_true rfl) h1 ?_
  refine ri_ev_go 1 (pc1 := 295) (L1 := [some (.ref 0), some (.ref 1), some (.ref 153), some (.int 0)]) (st1 := [.ref 153, .int z]) (M1 := M1) (c1 := cc) (s1 := sc) (fun n => rfl) ?_
  refine ri_ev_clv (k := 152) (as := []) (rr := [.int z]) (M1 := M2) (v := some (.int z)) _ rfl rfl h9 rfl (Nat.le_of_ble_eq_true rfl) h2 ?_
  refine ri_ic_eq_t (t := 1619) rfl rfl rfl ?_
  exact ri_tail_1619
set_option maxRecDepth 100000 in
set_option maxHeartbeats 4000000 in
theorem ri_op_3 (xs : Nat → Int32) (cc sc : Nat) : ∃ N M2, N ≤ 10000 ∧ ri_ev N (some (6, xs)) 19 ri_law (some .boolean) 303 [some (.ref 0), some (.ref 1), some (.ref 153), some (.int 0)] [] ri_M3 cc sc (some (.int 1), M2, cc, sc) := by
  obtain ⟨z, fs, M1, M2, h1, h9, h2⟩ := (ro_law)
  refine ⟨15, M2, Nat.le_of_ble_eq_true rfl, ?_⟩
  refine ri_ev_go 1 (pc1 := 304) (L1 := [some (.ref 0), some (.ref 1), some (.ref 153), some (.int 0)]) (st1 := [.ref 1]) (M1 := ri_M3) (c1 := cc) (s1 := sc) (fun n => rfl) ?_
  refine ri_ev_clv (k := 0) (as := []) (rr := []) (M1 := M1) (v := some (.int z)) _ rfl rfl ri_M3_0 rfl (Nat.le_of_ble_eq_true rfl) h1 ?_
  refine ri_ev_go 1 (pc1 := 308) (L1 := [some (.ref 0), some (.ref 1), some (.ref 153), some (.int 0)]) (st1 := [.ref 153, .int z]) (M1 := M1) (c1 := cc) (s1 := sc) (fun n => rfl) ?_
  refine ri_ev_clv (k := 152) (as := []) (rr := [.int z]) (M1 := M2) (v := some (.int z)) _ rfl rfl h9 rfl (Nat.le_of_ble_eq_true rfl) h2 ?_
  refine ri_ic_eq_t (t := 1619) rfl rfl rfl ?_
  exact ri_tail_1619
set_option maxRecDepth 100000 in
set_option maxHeartbeats 4000000 in
theorem ri_op_4 (xs : Nat → Int32) (cc sc : Nat) : ∃ N M2, N ≤ 10000 ∧ ri_ev N (some (6, xs)) 19 ri_law (some .boolean) 316 [some (.ref 0), some (.ref 1), some (.ref 153), some (.int 0)] [] ri_M3 cc sc (some (.int 1), M2, cc, sc) := by
  obtain ⟨z, fs, M1, M2, h1, h9, h2⟩ := (ro_thing (xs 1) (xs 2) (xs 3))
  refine ⟨45, M2, Nat.le_of_ble_eq_true rfl, ?_⟩
  refine ri_ev_go 16 (pc1 := 332) (L1 := [some (.ref 0), some (.ref 1), some (.ref 153), some (.int 0)]) (st1 := [.int (xs 3), .int (xs 2), .int (xs 1), .ref 1]) (M1 := ri_M3) (c1 := cc) (s1 := sc) (fun n => rfl) ?_
  refine ri_ev_clv (k := 0) (as := [.int (xs 1), .int (xs 2), .int (xs 3)]) (rr := []) (M1 := M1) (v := some (.int z)) _ rfl rfl ri_M3_0 rfl (Nat.le_of_ble_eq_true rfl) h1 ?_
  refine ri_ev_go 16 (pc1 := 351) (L1 := [some (.ref 0), some (.ref 1), some (.ref 153), some (.int 0)]) (st1 := [.int (xs 3), .int (xs 2), .int (xs 1), .ref 153, .int z]) (M1 := M1) (c1 := cc) (s1 := sc) (fun n => rfl) ?_
  refine ri_ev_clv (k := 152) (as := [.int (xs 1), .int (xs 2), .int (xs 3)]) (rr := [.int z]) (M1 := M2) (v := some (.int z)) _ rfl rfl h9 rfl (Nat.le_of_ble_eq_true rfl) h2 ?_
  refine ri_ic_eq_t (t := 1619) rfl rfl rfl ?_
  exact ri_tail_1619
set_option maxRecDepth 100000 in
set_option maxHeartbeats 4000000 in
theorem ri_op_5 (xs : Nat → Int32) (cc sc : Nat) : ∃ N M2, N ≤ 10000 ∧ ri_ev N (some (6, xs)) 19 ri_law (some .boolean) 359 [some (.ref 0), some (.ref 1), some (.ref 153), some (.int 0)] [] ri_M3 cc sc (some (.int 1), M2, cc, sc) := by
  obtain ⟨z, fs, M1, M2, h1, h9, h2⟩ := (ro_far (xs 1) (xs 2) (xs 3) (xs 4))
  refine ⟨56, M2, Nat.le_of_ble_eq_true rfl, ?_⟩
  refine ri_ev_go 21 (pc1 := 380) (L1 := [some (.ref 0), some (.ref 1), some (.ref 153), some (.int 0)]) (st1 := [.int (xs 4), .int (xs 3), .int (xs 2), .int (xs 1), .ref 1]) (M1 := ri_M3) (c1 := cc) (s1 := sc) (fun n => rfl) ?_
  refine ri_ev_clv (k := 0) (as := [.int (xs 1), .int (xs 2), .int (xs 3), .int (xs 4)]) (rr := []) (M1 := M1) (v := some (.long z)) _ rfl rfl ri_M3_0 rfl (Nat.le_of_ble_eq_true rfl) h1 ?_
  refine ri_ev_go 21 (pc1 := 404) (L1 := [some (.ref 0), some (.ref 1), some (.ref 153), some (.int 0)]) (st1 := [.int (xs 4), .int (xs 3), .int (xs 2), .int (xs 1), .ref 153, .long z]) (M1 := M1) (c1 := cc) (s1 := sc) (fun n => rfl) ?_
  refine ri_ev_clv (k := 152) (as := [.int (xs 1), .int (xs 2), .int (xs 3), .int (xs 4)]) (rr := [.long z]) (M1 := M2) (v := some (.long z)) _ rfl rfl h9 rfl (Nat.le_of_ble_eq_true rfl) h2 ?_
  refine ri_ev_go 1 (pc1 := 408) (L1 := [some (.ref 0), some (.ref 1), some (.ref 153), some (.int 0)]) (st1 := [.int (lg_cmp z z)]) (M1 := M2) (c1 := cc) (s1 := sc) (fun n => rfl) ?_
  refine ri_iz_eq_t (t := 1619) rfl (ri_lg_self z) rfl ?_
  exact ri_tail_1619
set_option maxRecDepth 100000 in
set_option maxHeartbeats 4000000 in
theorem ri_op_6 (xs : Nat → Int32) (cc sc : Nat) : ∃ N M2, N ≤ 10000 ∧ ri_ev N (some (6, xs)) 19 ri_law (some .boolean) 413 [some (.ref 0), some (.ref 1), some (.ref 153), some (.int 0)] [] ri_M3 cc sc (some (.int 1), M2, cc, sc) := by
  obtain ⟨z, fs, M1, M2, h1, h9, h2⟩ := (ro_answer (xs 1) (xs 2) (xs 3) (xs 4))
  refine ⟨55, M2, Nat.le_of_ble_eq_true rfl, ?_⟩
  refine ri_ev_go 21 (pc1 := 434) (L1 := [some (.ref 0), some (.ref 1), some (.ref 153), some (.int 0)]) (st1 := [.int (xs 4), .int (xs 3), .int (xs 2), .int (xs 1), .ref 1]) (M1 := ri_M3) (c1 := cc) (s1 := sc) (fun n => rfl) ?_
  refine ri_ev_clv (k := 0) (as := [.int (xs 1), .int (xs 2), .int (xs 3), .int (xs 4)]) (rr := []) (M1 := M1) (v := some (.int z)) _ rfl rfl ri_M3_0 rfl (Nat.le_of_ble_eq_true rfl) h1 ?_
  refine ri_ev_go 21 (pc1 := 458) (L1 := [some (.ref 0), some (.ref 1), some (.ref 153), some (.int 0)]) (st1 := [.int (xs 4), .int (xs 3), .int (xs 2), .int (xs 1), .ref 153, .int z]) (M1 := M1) (c1 := cc) (s1 := sc) (fun n => rfl) ?_
  refine ri_ev_clv (k := 152) (as := [.int (xs 1), .int (xs 2), .int (xs 3), .int (xs 4)]) (rr := [.int z]) (M1 := M2) (v := some (.int z)) _ rfl rfl h9 rfl (Nat.le_of_ble_eq_true rfl) h2 ?_
  refine ri_ic_eq_t (t := 1619) rfl rfl rfl ?_
  exact ri_tail_1619
set_option maxRecDepth 100000 in
set_option maxHeartbeats 4000000 in
theorem ri_op_7 (xs : Nat → Int32) (cc sc : Nat) : ∃ N M2, N ≤ 10000 ∧ ri_ev N (some (6, xs)) 19 ri_law (some .boolean) 466 [some (.ref 0), some (.ref 1), some (.ref 153), some (.int 0)] [] ri_M3 cc sc (some (.int 1), M2, cc, sc) := by
  obtain ⟨z, fs, M1, M2, h1, h9, h2⟩ := (ro_answers (xs 1) (xs 2))
  refine ⟨35, M2, Nat.le_of_ble_eq_true rfl, ?_⟩
  refine ri_ev_go 11 (pc1 := 477) (L1 := [some (.ref 0), some (.ref 1), some (.ref 153), some (.int 0)]) (st1 := [.int (xs 2), .int (xs 1), .ref 1]) (M1 := ri_M3) (c1 := cc) (s1 := sc) (fun n => rfl) ?_
  refine ri_ev_clv (k := 0) (as := [.int (xs 1), .int (xs 2)]) (rr := []) (M1 := M1) (v := some (.int z)) _ rfl rfl ri_M3_0 rfl (Nat.le_of_ble_eq_true rfl) h1 ?_
  refine ri_ev_go 11 (pc1 := 491) (L1 := [some (.ref 0), some (.ref 1), some (.ref 153), some (.int 0)]) (st1 := [.int (xs 2), .int (xs 1), .ref 153, .int z]) (M1 := M1) (c1 := cc) (s1 := sc) (fun n => rfl) ?_
  refine ri_ev_clv (k := 152) (as := [.int (xs 1), .int (xs 2)]) (rr := [.int z]) (M1 := M2) (v := some (.int z)) _ rfl rfl h9 rfl (Nat.le_of_ble_eq_true rfl) h2 ?_
  refine ri_ic_eq_t (t := 1619) rfl rfl rfl ?_
  exact ri_tail_1619
set_option maxRecDepth 100000 in
set_option maxHeartbeats 4000000 in
theorem ri_op_8 (xs : Nat → Int32) (cc sc : Nat) : ∃ N M2, N ≤ 10000 ∧ ri_ev N (some (6, xs)) 19 ri_law (some .boolean) 499 [some (.ref 0), some (.ref 1), some (.ref 153), some (.int 0)] [] ri_M3 cc sc (some (.int 1), M2, cc, sc) := by
  by_cases hz : xs 2 = 0
  · obtain ⟨z, fs, M1, M2, h1, h9, h2⟩ := (ro_strike_0 (xs 1))
    refine ⟨39, M2, Nat.le_of_ble_eq_true rfl, ?_⟩
    refine ri_ev_go 11 (pc1 := 510) (L1 := [some (.ref 0), some (.ref 1), some (.ref 153), some (.int 0)]) (st1 := [.int (xs 2), .int (xs 1), .ref 1]) (M1 := ri_M3) (c1 := cc) (s1 := sc) (fun n => rfl) ?_
    refine ri_iz_eq_t (t := 517) rfl hz rfl ?_
    refine ri_ev_go 1 (pc1 := 518) (L1 := [some (.ref 0), some (.ref 1), some (.ref 153), some (.int 0)]) (st1 := [.int 0, .int (xs 1), .ref 1]) (M1 := ri_M3) (c1 := cc) (s1 := sc) (fun n => rfl) ?_
    refine ri_ev_clv (k := 0) (as := [.int (xs 1), .int 0]) (rr := []) (M1 := M1) (v := some (.int z)) _ rfl rfl ri_M3_0 rfl (Nat.le_of_ble_eq_true rfl) h1 ?_
    refine ri_ev_go 11 (pc1 := 532) (L1 := [some (.ref 0), some (.ref 1), some (.ref 153), some (.int 0)]) (st1 := [.int (xs 2), .int (xs 1), .ref 153, .int z]) (M1 := M1) (c1 := cc) (s1 := sc) (fun n => rfl) ?_
    refine ri_iz_eq_t (t := 539) rfl hz rfl ?_
    refine ri_ev_go 1 (pc1 := 540) (L1 := [some (.ref 0), some (.ref 1), some (.ref 153), some (.int 0)]) (st1 := [.int 0, .int (xs 1), .ref 153, .int z]) (M1 := M1) (c1 := cc) (s1 := sc) (fun n => rfl) ?_
    refine ri_ev_clv (k := 152) (as := [.int (xs 1), .int 0]) (rr := [.int z]) (M1 := M2) (v := some (.int z)) _ rfl rfl h9 rfl (Nat.le_of_ble_eq_true rfl) h2 ?_
    refine ri_ic_eq_t (t := 1619) rfl rfl rfl ?_
    exact ri_tail_1619
  · obtain ⟨z, fs, M1, M2, h1, h9, h2⟩ := (ro_strike_1 (xs 1))
    refine ⟨41, M2, Nat.le_of_ble_eq_true rfl, ?_⟩
    refine ri_ev_go 11 (pc1 := 510) (L1 := [some (.ref 0), some (.ref 1), some (.ref 153), some (.int 0)]) (st1 := [.int (xs 2), .int (xs 1), .ref 1]) (M1 := ri_M3) (c1 := cc) (s1 := sc) (fun n => rfl) ?_
    refine ri_iz_eq_f rfl hz ?_
    refine ri_ev_go 2 (pc1 := 518) (L1 := [some (.ref 0), some (.ref 1), some (.ref 153), some (.int 0)]) (st1 := [.int 1, .int (xs 1), .ref 1]) (M1 := ri_M3) (c1 := cc) (s1 := sc) (fun n => rfl) ?_
    refine ri_ev_clv (k := 0) (as := [.int (xs 1), .int 1]) (rr := []) (M1 := M1) (v := some (.int z)) _ rfl rfl ri_M3_0 rfl (Nat.le_of_ble_eq_true rfl) h1 ?_
    refine ri_ev_go 11 (pc1 := 532) (L1 := [some (.ref 0), some (.ref 1), some (.ref 153), some (.int 0)]) (st1 := [.int (xs 2), .int (xs 1), .ref 153, .int z]) (M1 := M1) (c1 := cc) (s1 := sc) (fun n => rfl) ?_
    refine ri_iz_eq_f rfl hz ?_
    refine ri_ev_go 2 (pc1 := 540) (L1 := [some (.ref 0), some (.ref 1), some (.ref 153), some (.int 0)]) (st1 := [.int 1, .int (xs 1), .ref 153, .int z]) (M1 := M1) (c1 := cc) (s1 := sc) (fun n => rfl) ?_
    refine ri_ev_clv (k := 152) (as := [.int (xs 1), .int 1]) (rr := [.int z]) (M1 := M2) (v := some (.int z)) _ rfl rfl h9 rfl (Nat.le_of_ble_eq_true rfl) h2 ?_
    refine ri_ic_eq_t (t := 1619) rfl rfl rfl ?_
    exact ri_tail_1619
set_option maxRecDepth 100000 in
set_option maxHeartbeats 4000000 in
theorem ri_op_9 (xs : Nat → Int32) (cc sc : Nat) : ∃ N M2, N ≤ 10000 ∧ ri_ev N (some (6, xs)) 19 ri_law (some .boolean) 548 [some (.ref 0), some (.ref 1), some (.ref 153), some (.int 0)] [] ri_M3 cc sc (some (.int 1), M2, cc, sc) := by
  obtain ⟨z, fs, M1, M2, h1, h9, h2⟩ := (ro_only (xs 1))
  refine ⟨25, M2, Nat.le_of_ble_eq_true rfl, ?_⟩
  refine ri_ev_go 6 (pc1 := 554) (L1 := [some (.ref 0), some (.ref 1), some (.ref 153), some (.int 0)]) (st1 := [.int (xs 1), .ref 1]) (M1 := ri_M3) (c1 := cc) (s1 := sc) (fun n => rfl) ?_
  refine ri_ev_clv (k := 0) (as := [.int (xs 1)]) (rr := []) (M1 := M1) (v := some (.int z)) _ rfl rfl ri_M3_0 rfl (Nat.le_of_ble_eq_true rfl) h1 ?_
  refine ri_ev_go 6 (pc1 := 563) (L1 := [some (.ref 0), some (.ref 1), some (.ref 153), some (.int 0)]) (st1 := [.int (xs 1), .ref 153, .int z]) (M1 := M1) (c1 := cc) (s1 := sc) (fun n => rfl) ?_
  refine ri_ev_clv (k := 152) (as := [.int (xs 1)]) (rr := [.int z]) (M1 := M2) (v := some (.int z)) _ rfl rfl h9 rfl (Nat.le_of_ble_eq_true rfl) h2 ?_
  refine ri_ic_eq_t (t := 1619) rfl rfl rfl ?_
  exact ri_tail_1619
set_option maxRecDepth 100000 in
set_option maxHeartbeats 4000000 in
theorem ri_op_10 (xs : Nat → Int32) (cc sc : Nat) : ∃ N M2, N ≤ 10000 ∧ ri_ev N (some (6, xs)) 19 ri_law (some .boolean) 571 [some (.ref 0), some (.ref 1), some (.ref 153), some (.int 0)] [] ri_M3 cc sc (some (.int 1), M2, cc, sc) := by
  obtain ⟨z, fs, M1, M2, h1, h9, h2⟩ := (ro_holds (xs 1) (xs 2) (xs 3))
  refine ⟨45, M2, Nat.le_of_ble_eq_true rfl, ?_⟩
  refine ri_ev_go 16 (pc1 := 587) (L1 := [some (.ref 0), some (.ref 1), some (.ref 153), some (.int 0)]) (st1 := [.int (xs 3), .int (xs 2), .int (xs 1), .ref 1]) (M1 := ri_M3) (c1 := cc) (s1 := sc) (fun n => rfl) ?_
  refine ri_ev_clv (k := 0) (as := [.int (xs 1), .int (xs 2), .int (xs 3)]) (rr := []) (M1 := M1) (v := some (.int z)) _ rfl rfl ri_M3_0 rfl (Nat.le_of_ble_eq_true rfl) h1 ?_
  refine ri_ev_go 16 (pc1 := 606) (L1 := [some (.ref 0), some (.ref 1), some (.ref 153), some (.int 0)]) (st1 := [.int (xs 3), .int (xs 2), .int (xs 1), .ref 153, .int z]) (M1 := M1) (c1 := cc) (s1 := sc) (fun n => rfl) ?_
  refine ri_ev_clv (k := 152) (as := [.int (xs 1), .int (xs 2), .int (xs 3)]) (rr := [.int z]) (M1 := M2) (v := some (.int z)) _ rfl rfl h9 rfl (Nat.le_of_ble_eq_true rfl) h2 ?_
  refine ri_ic_eq_t (t := 1619) rfl rfl rfl ?_
  exact ri_tail_1619
set_option maxRecDepth 100000 in
set_option maxHeartbeats 4000000 in
theorem ri_op_11 (xs : Nat → Int32) (cc sc : Nat) : ∃ N M2, N ≤ 10000 ∧ ri_ev N (some (6, xs)) 19 ri_law (some .boolean) 614 [some (.ref 0), some (.ref 1), some (.ref 153), some (.int 0)] [] ri_M3 cc sc (some (.int 1), M2, cc, sc) := by
  obtain ⟨z, fs, M1, M2, h1, h9, h2⟩ := (ro_wrong (xs 1) (xs 2))
  refine ⟨35, M2, Nat.le_of_ble_eq_true rfl, ?_⟩
  refine ri_ev_go 11 (pc1 := 625) (L1 := [some (.ref 0), some (.ref 1), some (.ref 153), some (.int 0)]) (st1 := [.int (xs 2), .int (xs 1), .ref 1]) (M1 := ri_M3) (c1 := cc) (s1 := sc) (fun n => rfl) ?_
  refine ri_ev_clv (k := 0) (as := [.int (xs 1), .int (xs 2)]) (rr := []) (M1 := M1) (v := some (.int z)) _ rfl rfl ri_M3_0 rfl (Nat.le_of_ble_eq_true rfl) h1 ?_
  refine ri_ev_go 11 (pc1 := 639) (L1 := [some (.ref 0), some (.ref 1), some (.ref 153), some (.int 0)]) (st1 := [.int (xs 2), .int (xs 1), .ref 153, .int z]) (M1 := M1) (c1 := cc) (s1 := sc) (fun n => rfl) ?_
  refine ri_ev_clv (k := 152) (as := [.int (xs 1), .int (xs 2)]) (rr := [.int z]) (M1 := M2) (v := some (.int z)) _ rfl rfl h9 rfl (Nat.le_of_ble_eq_true rfl) h2 ?_
  refine ri_ic_eq_t (t := 1619) rfl rfl rfl ?_
  exact ri_tail_1619
set_option maxRecDepth 100000 in
set_option maxHeartbeats 4000000 in
theorem ri_op_12 (xs : Nat → Int32) (cc sc : Nat) : ∃ N M2, N ≤ 10000 ∧ ri_ev N (some (6, xs)) 19 ri_law (some .boolean) 647 [some (.ref 0), some (.ref 1), some (.ref 153), some (.int 0)] [] ri_M3 cc sc (some (.int 1), M2, cc, sc) := by
  obtain ⟨z, fs, M1, M2, h1, h9, h2⟩ := (ro_kept (xs 1) (xs 2))
  refine ⟨35, M2, Nat.le_of_ble_eq_true rfl, ?_⟩
  refine ri_ev_go 11 (pc1 := 658) (L1 := [some (.ref 0), some (.ref 1), some (.ref 153), some (.int 0)]) (st1 := [.int (xs 2), .int (xs 1), .ref 1]) (M1 := ri_M3) (c1 := cc) (s1 := sc) (fun n => rfl) ?_
  refine ri_ev_clv (k := 0) (as := [.int (xs 1), .int (xs 2)]) (rr := []) (M1 := M1) (v := some (.int z)) _ rfl rfl ri_M3_0 rfl (Nat.le_of_ble_eq_true rfl) h1 ?_
  refine ri_ev_go 11 (pc1 := 672) (L1 := [some (.ref 0), some (.ref 1), some (.ref 153), some (.int 0)]) (st1 := [.int (xs 2), .int (xs 1), .ref 153, .int z]) (M1 := M1) (c1 := cc) (s1 := sc) (fun n => rfl) ?_
  refine ri_ev_clv (k := 152) (as := [.int (xs 1), .int (xs 2)]) (rr := [.int z]) (M1 := M2) (v := some (.int z)) _ rfl rfl h9 rfl (Nat.le_of_ble_eq_true rfl) h2 ?_
  refine ri_ic_eq_t (t := 1619) rfl rfl rfl ?_
  exact ri_tail_1619
set_option maxRecDepth 100000 in
set_option maxHeartbeats 4000000 in
theorem ri_op_13 (xs : Nat → Int32) (cc sc : Nat) : ∃ N M2, N ≤ 10000 ∧ ri_ev N (some (6, xs)) 19 ri_law (some .boolean) 680 [some (.ref 0), some (.ref 1), some (.ref 153), some (.int 0)] [] ri_M3 cc sc (some (.int 1), M2, cc, sc) := by
  obtain ⟨z, fs, M1, M2, h1, h9, h2⟩ := (ro_world (xs 1) (xs 2) (xs 3))
  refine ⟨45, M2, Nat.le_of_ble_eq_true rfl, ?_⟩
  refine ri_ev_go 16 (pc1 := 696) (L1 := [some (.ref 0), some (.ref 1), some (.ref 153), some (.int 0)]) (st1 := [.int (xs 3), .int (xs 2), .int (xs 1), .ref 1]) (M1 := ri_M3) (c1 := cc) (s1 := sc) (fun n => rfl) ?_
  refine ri_ev_clv (k := 0) (as := [.int (xs 1), .int (xs 2), .int (xs 3)]) (rr := []) (M1 := M1) (v := some (.int z)) _ rfl rfl ri_M3_0 rfl (Nat.le_of_ble_eq_true rfl) h1 ?_
  refine ri_ev_go 16 (pc1 := 715) (L1 := [some (.ref 0), some (.ref 1), some (.ref 153), some (.int 0)]) (st1 := [.int (xs 3), .int (xs 2), .int (xs 1), .ref 153, .int z]) (M1 := M1) (c1 := cc) (s1 := sc) (fun n => rfl) ?_
  refine ri_ev_clv (k := 152) (as := [.int (xs 1), .int (xs 2), .int (xs 3)]) (rr := [.int z]) (M1 := M2) (v := some (.int z)) _ rfl rfl h9 rfl (Nat.le_of_ble_eq_true rfl) h2 ?_
  refine ri_ic_eq_t (t := 1619) rfl rfl rfl ?_
  exact ri_tail_1619
set_option maxRecDepth 100000 in
set_option maxHeartbeats 4000000 in
theorem ri_op_14 (xs : Nat → Int32) (cc sc : Nat) : ∃ N M2, N ≤ 10000 ∧ ri_ev N (some (6, xs)) 19 ri_law (some .boolean) 723 [some (.ref 0), some (.ref 1), some (.ref 153), some (.int 0)] [] ri_M3 cc sc (some (.int 1), M2, cc, sc) := by
  obtain ⟨z, fs, M1, M2, h1, h9, h2⟩ := (ro_may (xs 1) (xs 2) (xs 3) (xs 4))
  refine ⟨55, M2, Nat.le_of_ble_eq_true rfl, ?_⟩
  refine ri_ev_go 21 (pc1 := 744) (L1 := [some (.ref 0), some (.ref 1), some (.ref 153), some (.int 0)]) (st1 := [.int (xs 4), .int (xs 3), .int (xs 2), .int (xs 1), .ref 1]) (M1 := ri_M3) (c1 := cc) (s1 := sc) (fun n => rfl) ?_
  refine ri_ev_clv (k := 0) (as := [.int (xs 1), .int (xs 2), .int (xs 3), .int (xs 4)]) (rr := []) (M1 := M1) (v := some (.int z)) _ rfl rfl ri_M3_0 rfl (Nat.le_of_ble_eq_true rfl) h1 ?_
  refine ri_ev_go 21 (pc1 := 768) (L1 := [some (.ref 0), some (.ref 1), some (.ref 153), some (.int 0)]) (st1 := [.int (xs 4), .int (xs 3), .int (xs 2), .int (xs 1), .ref 153, .int z]) (M1 := M1) (c1 := cc) (s1 := sc) (fun n => rfl) ?_
  refine ri_ev_clv (k := 152) (as := [.int (xs 1), .int (xs 2), .int (xs 3), .int (xs 4)]) (rr := [.int z]) (M1 := M2) (v := some (.int z)) _ rfl rfl h9 rfl (Nat.le_of_ble_eq_true rfl) h2 ?_
  refine ri_ic_eq_t (t := 1619) rfl rfl rfl ?_
  exact ri_tail_1619
set_option maxRecDepth 100000 in
set_option maxHeartbeats 4000000 in
theorem ri_op_15 (xs : Nat → Int32) (cc sc : Nat) : ∃ N M2, N ≤ 10000 ∧ ri_ev N (some (6, xs)) 19 ri_law (some .boolean) 776 [some (.ref 0), some (.ref 1), some (.ref 153), some (.int 0)] [] ri_M3 cc sc (some (.int 1), M2, cc, sc) := by
  obtain ⟨z, fs, M1, M2, h1, h9, h2⟩ := (ro_cleared (xs 1) (xs 2))
  refine ⟨35, M2, Nat.le_of_ble_eq_true rfl, ?_⟩
  refine ri_ev_go 11 (pc1 := 787) (L1 := [some (.ref 0), some (.ref 1), some (.ref 153), some (.int 0)]) (st1 := [.int (xs 2), .int (xs 1), .ref 1]) (M1 := ri_M3) (c1 := cc) (s1 := sc) (fun n => rfl) ?_
  refine ri_ev_clv (k := 0) (as := [.int (xs 1), .int (xs 2)]) (rr := []) (M1 := M1) (v := some (.int z)) _ rfl rfl ri_M3_0 rfl (Nat.le_of_ble_eq_true rfl) h1 ?_
  refine ri_ev_go 11 (pc1 := 801) (L1 := [some (.ref 0), some (.ref 1), some (.ref 153), some (.int 0)]) (st1 := [.int (xs 2), .int (xs 1), .ref 153, .int z]) (M1 := M1) (c1 := cc) (s1 := sc) (fun n => rfl) ?_
  refine ri_ev_clv (k := 152) (as := [.int (xs 1), .int (xs 2)]) (rr := [.int z]) (M1 := M2) (v := some (.int z)) _ rfl rfl h9 rfl (Nat.le_of_ble_eq_true rfl) h2 ?_
  refine ri_ic_eq_t (t := 1619) rfl rfl rfl ?_
  exact ri_tail_1619
set_option maxRecDepth 100000 in
set_option maxHeartbeats 4000000 in
theorem ri_op_16 (xs : Nat → Int32) (cc sc : Nat) : ∃ N M2, N ≤ 10000 ∧ ri_ev N (some (6, xs)) 19 ri_law (some .boolean) 809 [some (.ref 0), some (.ref 1), some (.ref 153), some (.int 0)] [] ri_M3 cc sc (some (.int 1), M2, cc, sc) := by
  obtain ⟨z, fs, M1, M2, h1, h9, h2⟩ := (ro_fewest (xs 1) (xs 2))
  refine ⟨35, M2, Nat.le_of_ble_eq_true rfl, ?_⟩
  refine ri_ev_go 11 (pc1 := 820) (L1 := [some (.ref 0), some (.ref 1), some (.ref 153), some (.int 0)]) (st1 := [.int (xs 2), .int (xs 1), .ref 1]) (M1 := ri_M3) (c1 := cc) (s1 := sc) (fun n => rfl) ?_
  refine ri_ev_clv (k := 0) (as := [.int (xs 1), .int (xs 2)]) (rr := []) (M1 := M1) (v := some (.int z)) _ rfl rfl ri_M3_0 rfl (Nat.le_of_ble_eq_true rfl) h1 ?_
  refine ri_ev_go 11 (pc1 := 834) (L1 := [some (.ref 0), some (.ref 1), some (.ref 153), some (.int 0)]) (st1 := [.int (xs 2), .int (xs 1), .ref 153, .int z]) (M1 := M1) (c1 := cc) (s1 := sc) (fun n => rfl) ?_
  refine ri_ev_clv (k := 152) (as := [.int (xs 1), .int (xs 2)]) (rr := [.int z]) (M1 := M2) (v := some (.int z)) _ rfl rfl h9 rfl (Nat.le_of_ble_eq_true rfl) h2 ?_
  refine ri_ic_eq_t (t := 1619) rfl rfl rfl ?_
  exact ri_tail_1619
set_option maxRecDepth 100000 in
set_option maxHeartbeats 4000000 in
theorem ri_op_17 (xs : Nat → Int32) (cc sc : Nat) : ∃ N M2, N ≤ 10000 ∧ ri_ev N (some (6, xs)) 19 ri_law (some .boolean) 842 [some (.ref 0), some (.ref 1), some (.ref 153), some (.int 0)] [] ri_M3 cc sc (some (.int 1), M2, cc, sc) := by
  obtain ⟨z, fs, M1, M2, h1, h9, h2⟩ := (ro_falseOnes (xs 1))
  refine ⟨26, M2, Nat.le_of_ble_eq_true rfl, ?_⟩
  refine ri_ev_go 6 (pc1 := 848) (L1 := [some (.ref 0), some (.ref 1), some (.ref 153), some (.int 0)]) (st1 := [.int (xs 1), .ref 1]) (M1 := ri_M3) (c1 := cc) (s1 := sc) (fun n => rfl) ?_
  refine ri_ev_clv (k := 0) (as := [.int (xs 1)]) (rr := []) (M1 := M1) (v := some (.long z)) _ rfl rfl ri_M3_0 rfl (Nat.le_of_ble_eq_true rfl) h1 ?_
  refine ri_ev_go 6 (pc1 := 857) (L1 := [some (.ref 0), some (.ref 1), some (.ref 153), some (.int 0)]) (st1 := [.int (xs 1), .ref 153, .long z]) (M1 := M1) (c1 := cc) (s1 := sc) (fun n => rfl) ?_
  refine ri_ev_clv (k := 152) (as := [.int (xs 1)]) (rr := [.long z]) (M1 := M2) (v := some (.long z)) _ rfl rfl h9 rfl (Nat.le_of_ble_eq_true rfl) h2 ?_
  refine ri_ev_go 1 (pc1 := 861) (L1 := [some (.ref 0), some (.ref 1), some (.ref 153), some (.int 0)]) (st1 := [.int (lg_cmp z z)]) (M1 := M2) (c1 := cc) (s1 := sc) (fun n => rfl) ?_
  refine ri_iz_eq_t (t := 1619) rfl (ri_lg_self z) rfl ?_
  exact ri_tail_1619
set_option maxRecDepth 100000 in
set_option maxHeartbeats 4000000 in
theorem ri_op_18 (xs : Nat → Int32) (cc sc : Nat) : ∃ N M2, N ≤ 10000 ∧ ri_ev N (some (6, xs)) 19 ri_law (some .boolean) 866 [some (.ref 0), some (.ref 1), some (.ref 153), some (.int 0)] [] ri_M3 cc sc (some (.int 1), M2, cc, sc) := by
  obtain ⟨z, fs, M1, M2, h1, h9, h2⟩ := (ro_liars (xs 1))
  refine ⟨25, M2, Nat.le_of_ble_eq_true rfl, ?_⟩
  refine ri_ev_go 6 (pc1 := 872) (L1 := [some (.ref 0), some (.ref 1), some (.ref 153), some (.int 0)]) (st1 := [.int (xs 1), .ref 1]) (M1 := ri_M3) (c1 := cc) (s1 := sc) (fun n => rfl) ?_
  refine ri_ev_clv (k := 0) (as := [.int (xs 1)]) (rr := []) (M1 := M1) (v := some (.int z)) _ rfl rfl ri_M3_0 rfl (Nat.le_of_ble_eq_true rfl) h1 ?_
  refine ri_ev_go 6 (pc1 := 881) (L1 := [some (.ref 0), some (.ref 1), some (.ref 153), some (.int 0)]) (st1 := [.int (xs 1), .ref 153, .int z]) (M1 := M1) (c1 := cc) (s1 := sc) (fun n => rfl) ?_
  refine ri_ev_clv (k := 152) (as := [.int (xs 1)]) (rr := [.int z]) (M1 := M2) (v := some (.int z)) _ rfl rfl h9 rfl (Nat.le_of_ble_eq_true rfl) h2 ?_
  refine ri_ic_eq_t (t := 1619) rfl rfl rfl ?_
  exact ri_tail_1619
set_option maxRecDepth 100000 in
set_option maxHeartbeats 4000000 in
theorem ri_op_19 (xs : Nat → Int32) (cc sc : Nat) : ∃ N M2, N ≤ 10000 ∧ ri_ev N (some (6, xs)) 19 ri_law (some .boolean) 889 [some (.ref 0), some (.ref 1), some (.ref 153), some (.int 0)] [] ri_M3 cc sc (some (.int 1), M2, cc, sc) := by
  obtain ⟨z, fs, M1, M2, h1, h9, h2⟩ := (ro_quarrel (xs 1))
  refine ⟨25, M2, Nat.le_of_ble_eq_true rfl, ?_⟩
  refine ri_ev_go 6 (pc1 := 895) (L1 := [some (.ref 0), some (.ref 1), some (.ref 153), some (.int 0)]) (st1 := [.int (xs 1), .ref 1]) (M1 := ri_M3) (c1 := cc) (s1 := sc) (fun n => rfl) ?_
  refine ri_ev_clv (k := 0) (as := [.int (xs 1)]) (rr := []) (M1 := M1) (v := some (.int z)) _ rfl rfl ri_M3_0 rfl (Nat.le_of_ble_eq_true rfl) h1 ?_
  refine ri_ev_go 6 (pc1 := 904) (L1 := [some (.ref 0), some (.ref 1), some (.ref 153), some (.int 0)]) (st1 := [.int (xs 1), .ref 153, .int z]) (M1 := M1) (c1 := cc) (s1 := sc) (fun n => rfl) ?_
  refine ri_ev_clv (k := 152) (as := [.int (xs 1)]) (rr := [.int z]) (M1 := M2) (v := some (.int z)) _ rfl rfl h9 rfl (Nat.le_of_ble_eq_true rfl) h2 ?_
  refine ri_ic_eq_t (t := 1619) rfl rfl rfl ?_
  exact ri_tail_1619
set_option maxRecDepth 100000 in
set_option maxHeartbeats 4000000 in
theorem ri_op_20 (xs : Nat → Int32) (cc sc : Nat) : ∃ N M2, N ≤ 10000 ∧ ri_ev N (some (6, xs)) 19 ri_law (some .boolean) 912 [some (.ref 0), some (.ref 1), some (.ref 153), some (.int 0)] [] ri_M3 cc sc (some (.int 1), M2, cc, sc) := by
  obtain ⟨z, fs, M1, M2, h1, h9, h2⟩ := (ro_proof (xs 1) (xs 2))
  refine ⟨35, M2, Nat.le_of_ble_eq_true rfl, ?_⟩
  refine ri_ev_go 11 (pc1 := 923) (L1 := [some (.ref 0), some (.ref 1), some (.ref 153), some (.int 0)]) (st1 := [.int (xs 2), .int (xs 1), .ref 1]) (M1 := ri_M3) (c1 := cc) (s1 := sc) (fun n => rfl) ?_
  refine ri_ev_clv (k := 0) (as := [.int (xs 1), .int (xs 2)]) (rr := []) (M1 := M1) (v := some (.int z)) _ rfl rfl ri_M3_0 rfl (Nat.le_of_ble_eq_true rfl) h1 ?_
  refine ri_ev_go 11 (pc1 := 937) (L1 := [some (.ref 0), some (.ref 1), some (.ref 153), some (.int 0)]) (st1 := [.int (xs 2), .int (xs 1), .ref 153, .int z]) (M1 := M1) (c1 := cc) (s1 := sc) (fun n => rfl) ?_
  refine ri_ev_clv (k := 152) (as := [.int (xs 1), .int (xs 2)]) (rr := [.int z]) (M1 := M2) (v := some (.int z)) _ rfl rfl h9 rfl (Nat.le_of_ble_eq_true rfl) h2 ?_
  refine ri_ic_eq_t (t := 1619) rfl rfl rfl ?_
  exact ri_tail_1619
set_option maxRecDepth 100000 in
set_option maxHeartbeats 4000000 in
theorem ri_op_21 (xs : Nat → Int32) (cc sc : Nat) : ∃ N M2, N ≤ 10000 ∧ ri_ev N (some (6, xs)) 19 ri_law (some .boolean) 945 [some (.ref 0), some (.ref 1), some (.ref 153), some (.int 0)] [] ri_M3 cc sc (some (.int 1), M2, cc, sc) := by
  obtain ⟨z, fs, M1, M2, h1, h9, h2⟩ := (ro_byLaws (xs 1) (xs 2) (xs 3))
  refine ⟨45, M2, Nat.le_of_ble_eq_true rfl, ?_⟩
  refine ri_ev_go 16 (pc1 := 961) (L1 := [some (.ref 0), some (.ref 1), some (.ref 153), some (.int 0)]) (st1 := [.int (xs 3), .int (xs 2), .int (xs 1), .ref 1]) (M1 := ri_M3) (c1 := cc) (s1 := sc) (fun n => rfl) ?_
  refine ri_ev_clv (k := 0) (as := [.int (xs 1), .int (xs 2), .int (xs 3)]) (rr := []) (M1 := M1) (v := some (.int z)) _ rfl rfl ri_M3_0 rfl (Nat.le_of_ble_eq_true rfl) h1 ?_
  refine ri_ev_go 16 (pc1 := 980) (L1 := [some (.ref 0), some (.ref 1), some (.ref 153), some (.int 0)]) (st1 := [.int (xs 3), .int (xs 2), .int (xs 1), .ref 153, .int z]) (M1 := M1) (c1 := cc) (s1 := sc) (fun n => rfl) ?_
  refine ri_ev_clv (k := 152) (as := [.int (xs 1), .int (xs 2), .int (xs 3)]) (rr := [.int z]) (M1 := M2) (v := some (.int z)) _ rfl rfl h9 rfl (Nat.le_of_ble_eq_true rfl) h2 ?_
  refine ri_ic_eq_t (t := 1619) rfl rfl rfl ?_
  exact ri_tail_1619
set_option maxRecDepth 100000 in
set_option maxHeartbeats 4000000 in
theorem ri_op_22 (xs : Nat → Int32) (cc sc : Nat) : ∃ N M2, N ≤ 10000 ∧ ri_ev N (some (6, xs)) 19 ri_law (some .boolean) 988 [some (.ref 0), some (.ref 1), some (.ref 153), some (.int 0)] [] ri_M3 cc sc (some (.int 1), M2, cc, sc) := by
  obtain ⟨z, fs, M1, M2, h1, h9, h2⟩ := (ro_looks (xs 1) (xs 2) (xs 3))
  refine ⟨45, M2, Nat.le_of_ble_eq_true rfl, ?_⟩
  refine ri_ev_go 16 (pc1 := 1004) (L1 := [some (.ref 0), some (.ref 1), some (.ref 153), some (.int 0)]) (st1 := [.int (xs 3), .int (xs 2), .int (xs 1), .ref 1]) (M1 := ri_M3) (c1 := cc) (s1 := sc) (fun n => rfl) ?_
  refine ri_ev_clv (k := 0) (as := [.int (xs 1), .int (xs 2), .int (xs 3)]) (rr := []) (M1 := M1) (v := some (.int z)) _ rfl rfl ri_M3_0 rfl (Nat.le_of_ble_eq_true rfl) h1 ?_
  refine ri_ev_go 16 (pc1 := 1023) (L1 := [some (.ref 0), some (.ref 1), some (.ref 153), some (.int 0)]) (st1 := [.int (xs 3), .int (xs 2), .int (xs 1), .ref 153, .int z]) (M1 := M1) (c1 := cc) (s1 := sc) (fun n => rfl) ?_
  refine ri_ev_clv (k := 152) (as := [.int (xs 1), .int (xs 2), .int (xs 3)]) (rr := [.int z]) (M1 := M2) (v := some (.int z)) _ rfl rfl h9 rfl (Nat.le_of_ble_eq_true rfl) h2 ?_
  refine ri_ic_eq_t (t := 1619) rfl rfl rfl ?_
  exact ri_tail_1619
set_option maxRecDepth 100000 in
set_option maxHeartbeats 4000000 in
theorem ri_op_23 (xs : Nat → Int32) (cc sc : Nat) : ∃ N M2, N ≤ 10000 ∧ ri_ev N (some (6, xs)) 19 ri_law (some .boolean) 1031 [some (.ref 0), some (.ref 1), some (.ref 153), some (.int 0)] [] ri_M3 cc sc (some (.int 1), M2, cc, sc) := by
  obtain ⟨z, fs, M1, M2, h1, h9, h2⟩ := (ro_sure (xs 1) (xs 2) (xs 3))
  refine ⟨45, M2, Nat.le_of_ble_eq_true rfl, ?_⟩
  refine ri_ev_go 16 (pc1 := 1047) (L1 := [some (.ref 0), some (.ref 1), some (.ref 153), some (.int 0)]) (st1 := [.int (xs 3), .int (xs 2), .int (xs 1), .ref 1]) (M1 := ri_M3) (c1 := cc) (s1 := sc) (fun n => rfl) ?_
  refine ri_ev_clv (k := 0) (as := [.int (xs 1), .int (xs 2), .int (xs 3)]) (rr := []) (M1 := M1) (v := some (.int z)) _ rfl rfl ri_M3_0 rfl (Nat.le_of_ble_eq_true rfl) h1 ?_
  refine ri_ev_go 16 (pc1 := 1066) (L1 := [some (.ref 0), some (.ref 1), some (.ref 153), some (.int 0)]) (st1 := [.int (xs 3), .int (xs 2), .int (xs 1), .ref 153, .int z]) (M1 := M1) (c1 := cc) (s1 := sc) (fun n => rfl) ?_
  refine ri_ev_clv (k := 152) (as := [.int (xs 1), .int (xs 2), .int (xs 3)]) (rr := [.int z]) (M1 := M2) (v := some (.int z)) _ rfl rfl h9 rfl (Nat.le_of_ble_eq_true rfl) h2 ?_
  refine ri_ic_eq_t (t := 1619) rfl rfl rfl ?_
  exact ri_tail_1619
set_option maxRecDepth 100000 in
set_option maxHeartbeats 4000000 in
theorem ri_op_24 (xs : Nat → Int32) (cc sc : Nat) : ∃ N M2, N ≤ 10000 ∧ ri_ev N (some (6, xs)) 19 ri_law (some .boolean) 1074 [some (.ref 0), some (.ref 1), some (.ref 153), some (.int 0)] [] ri_M3 cc sc (some (.int 1), M2, cc, sc) := by
  obtain ⟨z, fs, M1, M2, h1, h9, h2⟩ := (ro_alone (xs 1) (xs 2))
  refine ⟨35, M2, Nat.le_of_ble_eq_true rfl, ?_⟩
  refine ri_ev_go 11 (pc1 := 1085) (L1 := [some (.ref 0), some (.ref 1), some (.ref 153), some (.int 0)]) (st1 := [.int (xs 2), .int (xs 1), .ref 1]) (M1 := ri_M3) (c1 := cc) (s1 := sc) (fun n => rfl) ?_
  refine ri_ev_clv (k := 0) (as := [.int (xs 1), .int (xs 2)]) (rr := []) (M1 := M1) (v := some (.int z)) _ rfl rfl ri_M3_0 rfl (Nat.le_of_ble_eq_true rfl) h1 ?_
  refine ri_ev_go 11 (pc1 := 1099) (L1 := [some (.ref 0), some (.ref 1), some (.ref 153), some (.int 0)]) (st1 := [.int (xs 2), .int (xs 1), .ref 153, .int z]) (M1 := M1) (c1 := cc) (s1 := sc) (fun n => rfl) ?_
  refine ri_ev_clv (k := 152) (as := [.int (xs 1), .int (xs 2)]) (rr := [.int z]) (M1 := M2) (v := some (.int z)) _ rfl rfl h9 rfl (Nat.le_of_ble_eq_true rfl) h2 ?_
  refine ri_ic_eq_t (t := 1619) rfl rfl rfl ?_
  exact ri_tail_1619
set_option maxRecDepth 100000 in
set_option maxHeartbeats 4000000 in
theorem ri_op_25 (xs : Nat → Int32) (cc sc : Nat) : ∃ N M2, N ≤ 10000 ∧ ri_ev N (some (6, xs)) 19 ri_law (some .boolean) 1107 [some (.ref 0), some (.ref 1), some (.ref 153), some (.int 0)] [] ri_M3 cc sc (some (.int 1), M2, cc, sc) := by
  obtain ⟨z, fs, M1, M2, h1, h9, h2⟩ := (ro_mean (xs 1) (xs 2) (xs 3))
  refine ⟨45, M2, Nat.le_of_ble_eq_true rfl, ?_⟩
  refine ri_ev_go 16 (pc1 := 1123) (L1 := [some (.ref 0), some (.ref 1), some (.ref 153), some (.int 0)]) (st1 := [.int (xs 3), .int (xs 2), .int (xs 1), .ref 1]) (M1 := ri_M3) (c1 := cc) (s1 := sc) (fun n => rfl) ?_
  refine ri_ev_clv (k := 0) (as := [.int (xs 1), .int (xs 2), .int (xs 3)]) (rr := []) (M1 := M1) (v := some (.int z)) _ rfl rfl ri_M3_0 rfl (Nat.le_of_ble_eq_true rfl) h1 ?_
  refine ri_ev_go 16 (pc1 := 1142) (L1 := [some (.ref 0), some (.ref 1), some (.ref 153), some (.int 0)]) (st1 := [.int (xs 3), .int (xs 2), .int (xs 1), .ref 153, .int z]) (M1 := M1) (c1 := cc) (s1 := sc) (fun n => rfl) ?_
  refine ri_ev_clv (k := 152) (as := [.int (xs 1), .int (xs 2), .int (xs 3)]) (rr := [.int z]) (M1 := M2) (v := some (.int z)) _ rfl rfl h9 rfl (Nat.le_of_ble_eq_true rfl) h2 ?_
  refine ri_ic_eq_t (t := 1619) rfl rfl rfl ?_
  exact ri_tail_1619
set_option maxRecDepth 100000 in
set_option maxHeartbeats 4000000 in
theorem ri_op_26 (xs : Nat → Int32) (cc sc : Nat) : ∃ N M2, N ≤ 10000 ∧ ri_ev N (some (6, xs)) 19 ri_law (some .boolean) 1150 [some (.ref 0), some (.ref 1), some (.ref 153), some (.int 0)] [] ri_M3 cc sc (some (.int 1), M2, cc, sc) := by
  obtain ⟨z, fs, M1, M2, h1, h9, h2⟩ := (ro_useful (xs 1) (xs 2) (xs 3))
  refine ⟨45, M2, Nat.le_of_ble_eq_true rfl, ?_⟩
  refine ri_ev_go 16 (pc1 := 1166) (L1 := [some (.ref 0), some (.ref 1), some (.ref 153), some (.int 0)]) (st1 := [.int (xs 3), .int (xs 2), .int (xs 1), .ref 1]) (M1 := ri_M3) (c1 := cc) (s1 := sc) (fun n => rfl) ?_
  refine ri_ev_clv (k := 0) (as := [.int (xs 1), .int (xs 2), .int (xs 3)]) (rr := []) (M1 := M1) (v := some (.int z)) _ rfl rfl ri_M3_0 rfl (Nat.le_of_ble_eq_true rfl) h1 ?_
  refine ri_ev_go 16 (pc1 := 1185) (L1 := [some (.ref 0), some (.ref 1), some (.ref 153), some (.int 0)]) (st1 := [.int (xs 3), .int (xs 2), .int (xs 1), .ref 153, .int z]) (M1 := M1) (c1 := cc) (s1 := sc) (fun n => rfl) ?_
  refine ri_ev_clv (k := 152) (as := [.int (xs 1), .int (xs 2), .int (xs 3)]) (rr := [.int z]) (M1 := M2) (v := some (.int z)) _ rfl rfl h9 rfl (Nat.le_of_ble_eq_true rfl) h2 ?_
  refine ri_ic_eq_t (t := 1619) rfl rfl rfl ?_
  exact ri_tail_1619
set_option maxRecDepth 100000 in
set_option maxHeartbeats 4000000 in
theorem ri_op_27 (xs : Nat → Int32) (cc sc : Nat) : ∃ N M2, N ≤ 10000 ∧ ri_ev N (some (6, xs)) 19 ri_law (some .boolean) 1193 [some (.ref 0), some (.ref 1), some (.ref 153), some (.int 0)] [] ri_M3 cc sc (some (.int 1), M2, cc, sc) := by
  obtain ⟨z, fs, M1, M2, h1, h9, h2⟩ := (ro_filled (xs 1) (xs 2) (xs 3))
  refine ⟨45, M2, Nat.le_of_ble_eq_true rfl, ?_⟩
  refine ri_ev_go 16 (pc1 := 1209) (L1 := [some (.ref 0), some (.ref 1), some (.ref 153), some (.int 0)]) (st1 := [.int (xs 3), .int (xs 2), .int (xs 1), .ref 1]) (M1 := ri_M3) (c1 := cc) (s1 := sc) (fun n => rfl) ?_
  refine ri_ev_clv (k := 0) (as := [.int (xs 1), .int (xs 2), .int (xs 3)]) (rr := []) (M1 := M1) (v := some (.int z)) _ rfl rfl ri_M3_0 rfl (Nat.le_of_ble_eq_true rfl) h1 ?_
  refine ri_ev_go 16 (pc1 := 1228) (L1 := [some (.ref 0), some (.ref 1), some (.ref 153), some (.int 0)]) (st1 := [.int (xs 3), .int (xs 2), .int (xs 1), .ref 153, .int z]) (M1 := M1) (c1 := cc) (s1 := sc) (fun n => rfl) ?_
  refine ri_ev_clv (k := 152) (as := [.int (xs 1), .int (xs 2), .int (xs 3)]) (rr := [.int z]) (M1 := M2) (v := some (.int z)) _ rfl rfl h9 rfl (Nat.le_of_ble_eq_true rfl) h2 ?_
  refine ri_ic_eq_t (t := 1619) rfl rfl rfl ?_
  exact ri_tail_1619
set_option maxRecDepth 100000 in
set_option maxHeartbeats 4000000 in
theorem ri_op_28 (xs : Nat → Int32) (cc sc : Nat) : ∃ N M2, N ≤ 10000 ∧ ri_ev N (some (6, xs)) 19 ri_law (some .boolean) 1236 [some (.ref 0), some (.ref 1), some (.ref 153), some (.int 0)] [] ri_M3 cc sc (some (.int 1), M2, cc, sc) := by
  obtain ⟨z, fs, M1, M2, h1, h9, h2⟩ := (ro_next (xs 1) (xs 2) (xs 3) (xs 4))
  refine ⟨55, M2, Nat.le_of_ble_eq_true rfl, ?_⟩
  refine ri_ev_go 21 (pc1 := 1257) (L1 := [some (.ref 0), some (.ref 1), some (.ref 153), some (.int 0)]) (st1 := [.int (xs 4), .int (xs 3), .int (xs 2), .int (xs 1), .ref 1]) (M1 := ri_M3) (c1 := cc) (s1 := sc) (fun n => rfl) ?_
  refine ri_ev_clv (k := 0) (as := [.int (xs 1), .int (xs 2), .int (xs 3), .int (xs 4)]) (rr := []) (M1 := M1) (v := some (.int z)) _ rfl rfl ri_M3_0 rfl (Nat.le_of_ble_eq_true rfl) h1 ?_
  refine ri_ev_go 21 (pc1 := 1281) (L1 := [some (.ref 0), some (.ref 1), some (.ref 153), some (.int 0)]) (st1 := [.int (xs 4), .int (xs 3), .int (xs 2), .int (xs 1), .ref 153, .int z]) (M1 := M1) (c1 := cc) (s1 := sc) (fun n => rfl) ?_
  refine ri_ev_clv (k := 152) (as := [.int (xs 1), .int (xs 2), .int (xs 3), .int (xs 4)]) (rr := [.int z]) (M1 := M2) (v := some (.int z)) _ rfl rfl h9 rfl (Nat.le_of_ble_eq_true rfl) h2 ?_
  refine ri_ic_eq_t (t := 1619) rfl rfl rfl ?_
  exact ri_tail_1619
set_option maxRecDepth 100000 in
set_option maxHeartbeats 4000000 in
theorem ri_op_29 (xs : Nat → Int32) (cc sc : Nat) : ∃ N M2, N ≤ 10000 ∧ ri_ev N (some (6, xs)) 19 ri_law (some .boolean) 1289 [some (.ref 0), some (.ref 1), some (.ref 153), some (.int 0)] [] ri_M3 cc sc (some (.int 1), M2, cc, sc) := by
  obtain ⟨z, fs, M1, M2, h1, h9, h2⟩ := (ro_needed (xs 1) (xs 2))
  refine ⟨35, M2, Nat.le_of_ble_eq_true rfl, ?_⟩
  refine ri_ev_go 11 (pc1 := 1300) (L1 := [some (.ref 0), some (.ref 1), some (.ref 153), some (.int 0)]) (st1 := [.int (xs 2), .int (xs 1), .ref 1]) (M1 := ri_M3) (c1 := cc) (s1 := sc) (fun n => rfl) ?_
  refine ri_ev_clv (k := 0) (as := [.int (xs 1), .int (xs 2)]) (rr := []) (M1 := M1) (v := some (.int z)) _ rfl rfl ri_M3_0 rfl (Nat.le_of_ble_eq_true rfl) h1 ?_
  refine ri_ev_go 11 (pc1 := 1314) (L1 := [some (.ref 0), some (.ref 1), some (.ref 153), some (.int 0)]) (st1 := [.int (xs 2), .int (xs 1), .ref 153, .int z]) (M1 := M1) (c1 := cc) (s1 := sc) (fun n => rfl) ?_
  refine ri_ev_clv (k := 152) (as := [.int (xs 1), .int (xs 2)]) (rr := [.int z]) (M1 := M2) (v := some (.int z)) _ rfl rfl h9 rfl (Nat.le_of_ble_eq_true rfl) h2 ?_
  refine ri_ic_eq_t (t := 1619) rfl rfl rfl ?_
  exact ri_tail_1619
set_option maxRecDepth 100000 in
set_option maxHeartbeats 4000000 in
theorem ri_op_30 (xs : Nat → Int32) (cc sc : Nat) : ∃ N M2, N ≤ 10000 ∧ ri_ev N (some (6, xs)) 19 ri_law (some .boolean) 1322 [some (.ref 0), some (.ref 1), some (.ref 153), some (.int 0)] [] ri_M3 cc sc (some (.int 1), M2, cc, sc) := by
  obtain ⟨z, fs, M1, M2, h1, h9, h2⟩ := (ro_steered (xs 1) (xs 2) (xs 3) (xs 4) (xs 5))
  refine ⟨65, M2, Nat.le_of_ble_eq_true rfl, ?_⟩
  refine ri_ev_go 26 (pc1 := 1348) (L1 := [some (.ref 0), some (.ref 1), some (.ref 153), some (.int 0)]) (st1 := [.int (xs 5), .int (xs 4), .int (xs 3), .int (xs 2), .int (xs 1), .ref 1]) (M1 := ri_M3) (c1 := cc) (s1 := sc) (fun n => rfl) ?_
  refine ri_ev_clv (k := 0) (as := [.int (xs 1), .int (xs 2), .int (xs 3), .int (xs 4), .int (xs 5)]) (rr := []) (M1 := M1) (v := some (.int z)) _ rfl rfl ri_M3_0 rfl (Nat.le_of_ble_eq_true rfl) h1 ?_
  refine ri_ev_go 26 (pc1 := 1377) (L1 := [some (.ref 0), some (.ref 1), some (.ref 153), some (.int 0)]) (st1 := [.int (xs 5), .int (xs 4), .int (xs 3), .int (xs 2), .int (xs 1), .ref 153, .int z]) (M1 := M1) (c1 := cc) (s1 := sc) (fun n => rfl) ?_
  refine ri_ev_clv (k := 152) (as := [.int (xs 1), .int (xs 2), .int (xs 3), .int (xs 4), .int (xs 5)]) (rr := [.int z]) (M1 := M2) (v := some (.int z)) _ rfl rfl h9 rfl (Nat.le_of_ble_eq_true rfl) h2 ?_
  refine ri_ic_eq_t (t := 1619) rfl rfl rfl ?_
  exact ri_tail_1619
set_option maxRecDepth 100000 in
set_option maxHeartbeats 4000000 in
theorem ri_op_31 (xs : Nat → Int32) (cc sc : Nat) : ∃ N M2, N ≤ 10000 ∧ ri_ev N (some (6, xs)) 19 ri_law (some .boolean) 1385 [some (.ref 0), some (.ref 1), some (.ref 153), some (.int 0)] [] ri_M3 cc sc (some (.int 1), M2, cc, sc) := by
  obtain ⟨z, fs, M1, M2, h1, h9, h2⟩ := (ro_spare (xs 1))
  refine ⟨25, M2, Nat.le_of_ble_eq_true rfl, ?_⟩
  refine ri_ev_go 6 (pc1 := 1391) (L1 := [some (.ref 0), some (.ref 1), some (.ref 153), some (.int 0)]) (st1 := [.int (xs 1), .ref 1]) (M1 := ri_M3) (c1 := cc) (s1 := sc) (fun n => rfl) ?_
  refine ri_ev_clv (k := 0) (as := [.int (xs 1)]) (rr := []) (M1 := M1) (v := some (.int z)) _ rfl rfl ri_M3_0 rfl (Nat.le_of_ble_eq_true rfl) h1 ?_
  refine ri_ev_go 6 (pc1 := 1400) (L1 := [some (.ref 0), some (.ref 1), some (.ref 153), some (.int 0)]) (st1 := [.int (xs 1), .ref 153, .int z]) (M1 := M1) (c1 := cc) (s1 := sc) (fun n => rfl) ?_
  refine ri_ev_clv (k := 152) (as := [.int (xs 1)]) (rr := [.int z]) (M1 := M2) (v := some (.int z)) _ rfl rfl h9 rfl (Nat.le_of_ble_eq_true rfl) h2 ?_
  refine ri_ic_eq_t (t := 1619) rfl rfl rfl ?_
  exact ri_tail_1619
set_option maxRecDepth 100000 in
set_option maxHeartbeats 4000000 in
theorem ri_op_32 (xs : Nat → Int32) (cc sc : Nat) : ∃ N M2, N ≤ 10000 ∧ ri_ev N (some (6, xs)) 19 ri_law (some .boolean) 1408 [some (.ref 0), some (.ref 1), some (.ref 153), some (.int 0)] [] ri_M3 cc sc (some (.int 1), M2, cc, sc) := by
  obtain ⟨z, fs, M1, M2, h1, h9, h2⟩ := (ro_seed (xs 1))
  refine ⟨25, M2, Nat.le_of_ble_eq_true rfl, ?_⟩
  refine ri_ev_go 6 (pc1 := 1414) (L1 := [some (.ref 0), some (.ref 1), some (.ref 153), some (.int 0)]) (st1 := [.int (xs 1), .ref 1]) (M1 := ri_M3) (c1 := cc) (s1 := sc) (fun n => rfl) ?_
  refine ri_ev_clv (k := 0) (as := [.int (xs 1)]) (rr := []) (M1 := M1) (v := some (.int z)) _ rfl rfl ri_M3_0 rfl (Nat.le_of_ble_eq_true rfl) h1 ?_
  refine ri_ev_go 6 (pc1 := 1423) (L1 := [some (.ref 0), some (.ref 1), some (.ref 153), some (.int 0)]) (st1 := [.int (xs 1), .ref 153, .int z]) (M1 := M1) (c1 := cc) (s1 := sc) (fun n => rfl) ?_
  refine ri_ev_clv (k := 152) (as := [.int (xs 1)]) (rr := [.int z]) (M1 := M2) (v := some (.int z)) _ rfl rfl h9 rfl (Nat.le_of_ble_eq_true rfl) h2 ?_
  refine ri_ic_eq_t (t := 1619) rfl rfl rfl ?_
  exact ri_tail_1619
set_option maxRecDepth 100000 in
set_option maxHeartbeats 4000000 in
theorem ri_op_33 (xs : Nat → Int32) (cc sc : Nat) : ∃ N M2, N ≤ 10000 ∧ ri_ev N (some (6, xs)) 19 ri_law (some .boolean) 1431 [some (.ref 0), some (.ref 1), some (.ref 153), some (.int 0)] [] ri_M3 cc sc (some (.int 1), M2, cc, sc) := by
  obtain ⟨z, fs, M1, M2, h1, h9, h2⟩ := (ro_trials (xs 1) (xs 2) (xs 3))
  refine ⟨45, M2, Nat.le_of_ble_eq_true rfl, ?_⟩
  refine ri_ev_go 16 (pc1 := 1447) (L1 := [some (.ref 0), some (.ref 1), some (.ref 153), some (.int 0)]) (st1 := [.int (xs 3), .int (xs 2), .int (xs 1), .ref 1]) (M1 := ri_M3) (c1 := cc) (s1 := sc) (fun n => rfl) ?_
  refine ri_ev_clv (k := 0) (as := [.int (xs 1), .int (xs 2), .int (xs 3)]) (rr := []) (M1 := M1) (v := some (.int z)) _ rfl rfl ri_M3_0 rfl (Nat.le_of_ble_eq_true rfl) h1 ?_
  refine ri_ev_go 16 (pc1 := 1466) (L1 := [some (.ref 0), some (.ref 1), some (.ref 153), some (.int 0)]) (st1 := [.int (xs 3), .int (xs 2), .int (xs 1), .ref 153, .int z]) (M1 := M1) (c1 := cc) (s1 := sc) (fun n => rfl) ?_
  refine ri_ev_clv (k := 152) (as := [.int (xs 1), .int (xs 2), .int (xs 3)]) (rr := [.int z]) (M1 := M2) (v := some (.int z)) _ rfl rfl h9 rfl (Nat.le_of_ble_eq_true rfl) h2 ?_
  refine ri_ic_eq_t (t := 1619) rfl rfl rfl ?_
  exact ri_tail_1619
set_option maxRecDepth 100000 in
set_option maxHeartbeats 4000000 in
theorem ri_op_34 (xs : Nat → Int32) (cc sc : Nat) : ∃ N M2, N ≤ 10000 ∧ ri_ev N (some (6, xs)) 19 ri_law (some .boolean) 1474 [some (.ref 0), some (.ref 1), some (.ref 153), some (.int 0)] [] ri_M3 cc sc (some (.int 1), M2, cc, sc) := by
  obtain ⟨z, fs, M1, M2, h1, h9, h2⟩ := (ro_verdict (xs 1))
  refine ⟨25, M2, Nat.le_of_ble_eq_true rfl, ?_⟩
  refine ri_ev_go 6 (pc1 := 1480) (L1 := [some (.ref 0), some (.ref 1), some (.ref 153), some (.int 0)]) (st1 := [.int (xs 1), .ref 1]) (M1 := ri_M3) (c1 := cc) (s1 := sc) (fun n => rfl) ?_
  refine ri_ev_clv (k := 0) (as := [.int (xs 1)]) (rr := []) (M1 := M1) (v := some (.int z)) _ rfl rfl ri_M3_0 rfl (Nat.le_of_ble_eq_true rfl) h1 ?_
  refine ri_ev_go 6 (pc1 := 1489) (L1 := [some (.ref 0), some (.ref 1), some (.ref 153), some (.int 0)]) (st1 := [.int (xs 1), .ref 153, .int z]) (M1 := M1) (c1 := cc) (s1 := sc) (fun n => rfl) ?_
  refine ri_ev_clv (k := 152) (as := [.int (xs 1)]) (rr := [.int z]) (M1 := M2) (v := some (.int z)) _ rfl rfl h9 rfl (Nat.le_of_ble_eq_true rfl) h2 ?_
  refine ri_ic_eq_t (t := 1619) rfl rfl rfl ?_
  exact ri_tail_1619
set_option maxRecDepth 100000 in
set_option maxHeartbeats 4000000 in
theorem ri_op_35 (xs : Nat → Int32) (cc sc : Nat) : ∃ N M2, N ≤ 10000 ∧ ri_ev N (some (6, xs)) 19 ri_law (some .boolean) 1497 [some (.ref 0), some (.ref 1), some (.ref 153), some (.int 0)] [] ri_M3 cc sc (some (.int 1), M2, cc, sc) := by
  obtain ⟨z, fs, M1, M2, h1, h9, h2⟩ := (ro_old (xs 1) (xs 2) (xs 3) (xs 4))
  refine ⟨55, M2, Nat.le_of_ble_eq_true rfl, ?_⟩
  refine ri_ev_go 21 (pc1 := 1518) (L1 := [some (.ref 0), some (.ref 1), some (.ref 153), some (.int 0)]) (st1 := [.int (xs 4), .int (xs 3), .int (xs 2), .int (xs 1), .ref 1]) (M1 := ri_M3) (c1 := cc) (s1 := sc) (fun n => rfl) ?_
  refine ri_ev_clv (k := 0) (as := [.int (xs 1), .int (xs 2), .int (xs 3), .int (xs 4)]) (rr := []) (M1 := M1) (v := some (.int z)) _ rfl rfl ri_M3_0 rfl (Nat.le_of_ble_eq_true rfl) h1 ?_
  refine ri_ev_go 21 (pc1 := 1542) (L1 := [some (.ref 0), some (.ref 1), some (.ref 153), some (.int 0)]) (st1 := [.int (xs 4), .int (xs 3), .int (xs 2), .int (xs 1), .ref 153, .int z]) (M1 := M1) (c1 := cc) (s1 := sc) (fun n => rfl) ?_
  refine ri_ev_clv (k := 152) (as := [.int (xs 1), .int (xs 2), .int (xs 3), .int (xs 4)]) (rr := [.int z]) (M1 := M2) (v := some (.int z)) _ rfl rfl h9 rfl (Nat.le_of_ble_eq_true rfl) h2 ?_
  refine ri_ic_eq_t (t := 1619) rfl rfl rfl ?_
  exact ri_tail_1619
set_option maxRecDepth 100000 in
set_option maxHeartbeats 4000000 in
theorem ri_op_36 (xs : Nat → Int32) (cc sc : Nat) : ∃ N M2, N ≤ 10000 ∧ ri_ev N (some (6, xs)) 19 ri_law (some .boolean) 1550 [some (.ref 0), some (.ref 1), some (.ref 153), some (.int 0)] [] ri_M3 cc sc (some (.int 1), M2, cc, sc) := by
  obtain ⟨z, fs, M1, M2, h1, h9, h2⟩ := (ro_count (xs 1))
  refine ⟨25, M2, Nat.le_of_ble_eq_true rfl, ?_⟩
  refine ri_ev_go 6 (pc1 := 1556) (L1 := [some (.ref 0), some (.ref 1), some (.ref 153), some (.int 0)]) (st1 := [.int (xs 1), .ref 1]) (M1 := ri_M3) (c1 := cc) (s1 := sc) (fun n => rfl) ?_
  refine ri_ev_clv (k := 0) (as := [.int (xs 1)]) (rr := []) (M1 := M1) (v := some (.int z)) _ rfl rfl ri_M3_0 rfl (Nat.le_of_ble_eq_true rfl) h1 ?_
  refine ri_ev_go 6 (pc1 := 1565) (L1 := [some (.ref 0), some (.ref 1), some (.ref 153), some (.int 0)]) (st1 := [.int (xs 1), .ref 153, .int z]) (M1 := M1) (c1 := cc) (s1 := sc) (fun n => rfl) ?_
  refine ri_ev_clv (k := 152) (as := [.int (xs 1)]) (rr := [.int z]) (M1 := M2) (v := some (.int z)) _ rfl rfl h9 rfl (Nat.le_of_ble_eq_true rfl) h2 ?_
  refine ri_ic_eq_t (t := 1619) rfl rfl rfl ?_
  exact ri_tail_1619
set_option maxRecDepth 100000 in
set_option maxHeartbeats 4000000 in
theorem ri_op_37 (xs : Nat → Int32) (cc sc : Nat) : ∃ N M2, N ≤ 10000 ∧ ri_ev N (some (6, xs)) 19 ri_law (some .boolean) 1573 [some (.ref 0), some (.ref 1), some (.ref 153), some (.int 0)] [] ri_M3 cc sc (some (.int 1), M2, cc, sc) := by
  obtain ⟨z, fs, M1, M2, h1, h9, h2⟩ := (ro_image (xs 1))
  refine ⟨25, M2, Nat.le_of_ble_eq_true rfl, ?_⟩
  refine ri_ev_go 6 (pc1 := 1579) (L1 := [some (.ref 0), some (.ref 1), some (.ref 153), some (.int 0)]) (st1 := [.int (xs 1), .ref 1]) (M1 := ri_M3) (c1 := cc) (s1 := sc) (fun n => rfl) ?_
  refine ri_ev_clv (k := 0) (as := [.int (xs 1)]) (rr := []) (M1 := M1) (v := some (.int z)) _ rfl rfl ri_M3_0 rfl (Nat.le_of_ble_eq_true rfl) h1 ?_
  refine ri_ev_go 6 (pc1 := 1588) (L1 := [some (.ref 0), some (.ref 1), some (.ref 153), some (.int 0)]) (st1 := [.int (xs 1), .ref 153, .int z]) (M1 := M1) (c1 := cc) (s1 := sc) (fun n => rfl) ?_
  refine ri_ev_clv (k := 152) (as := [.int (xs 1)]) (rr := [.int z]) (M1 := M2) (v := some (.int z)) _ rfl rfl h9 rfl (Nat.le_of_ble_eq_true rfl) h2 ?_
  refine ri_ic_eq_t (t := 1619) rfl rfl rfl ?_
  exact ri_tail_1619
set_option maxRecDepth 100000 in
set_option maxHeartbeats 4000000 in
theorem ri_op_38 (xs : Nat → Int32) (cc sc : Nat) : ∃ N M2, N ≤ 10000 ∧ ri_ev N (some (6, xs)) 19 ri_law (some .boolean) 1596 [some (.ref 0), some (.ref 1), some (.ref 153), some (.int 0)] [] ri_M3 cc sc (some (.int 1), M2, cc, sc) := by
  obtain ⟨z, fs, M1, M2, h1, h9, h2⟩ := (ro_back (xs 1))
  refine ⟨25, M2, Nat.le_of_ble_eq_true rfl, ?_⟩
  refine ri_ev_go 6 (pc1 := 1602) (L1 := [some (.ref 0), some (.ref 1), some (.ref 153), some (.int 0)]) (st1 := [.int (xs 1), .ref 1]) (M1 := ri_M3) (c1 := cc) (s1 := sc) (fun n => rfl) ?_
  refine ri_ev_clv (k := 0) (as := [.int (xs 1)]) (rr := []) (M1 := M1) (v := some (.int z)) _ rfl rfl ri_M3_0 rfl (Nat.le_of_ble_eq_true rfl) h1 ?_
  refine ri_ev_go 6 (pc1 := 1611) (L1 := [some (.ref 0), some (.ref 1), some (.ref 153), some (.int 0)]) (st1 := [.int (xs 1), .ref 153, .int z]) (M1 := M1) (c1 := cc) (s1 := sc) (fun n => rfl) ?_
  refine ri_ev_clv (k := 152) (as := [.int (xs 1)]) (rr := [.int z]) (M1 := M2) (v := some (.int z)) _ rfl rfl h9 rfl (Nat.le_of_ble_eq_true rfl) h2 ?_
  refine ri_ic_eq_t (t := 1619) rfl rfl rfl ?_
  exact ri_tail_1619
set_option maxRecDepth 100000 in
set_option maxHeartbeats 4000000 in
theorem ri_law6 (xs : Nat → Int32) (cc sc : Nat) : ∃ N M2, N ≤ 20000 ∧ ri_ev N (some (6, xs)) 19 ri_law (some .boolean) 18 [some (.ref 0), some (.ref 1), some (.ref 153), some (.int 0)] [] ri_M3 cc sc (some (.int 1), M2, cc, sc) := by
  rcases ri_small (xs 0 &&& 63) 38 (by decide) with h | ⟨k, hk, hv⟩
  · refine ⟨10 + 1 + 11, ri_M3, Nat.le_of_ble_eq_true rfl, ?_⟩
    refine ri_ev_go 11 (pc1 := 33) (L1 := [some (.ref 0), some (.ref 1), some (.ref 153), some (.int 0)]) (st1 := [.int (xs 0 &&& 63)]) (M1 := ri_M3) (c1 := cc) (s1 := sc) (fun n => rfl) ?_
    refine ri_ev_tsw (t := 1619) rfl h rfl ?_
    exact ri_tail_1619
  · match k, hk, hv with
    | 0, _, hv =>
      obtain ⟨N, M2, hN, g⟩ := ri_op_0 xs cc sc
      refine ⟨N + 1 + 11, M2, by omega, ?_⟩
      refine ri_ev_go 11 (pc1 := 33) (L1 := [some (.ref 0), some (.ref 1), some (.ref 153), some (.int 0)]) (st1 := [.int (xs 0 &&& 63)]) (M1 := ri_M3) (c1 := cc) (s1 := sc) (fun n => rfl) ?_
      exact ri_ev_tswk (t := 204) (kk := 0) rfl hv (by decide) rfl rfl g
    | 1, _, hv =>
      obtain ⟨N, M2, hN, g⟩ := ri_op_1 xs cc sc
      refine ⟨N + 1 + 11, M2, by omega, ?_⟩
      refine ri_ev_go 11 (pc1 := 33) (L1 := [some (.ref 0), some (.ref 1), some (.ref 153), some (.int 0)]) (st1 := [.int (xs 0 &&& 63)]) (M1 := ri_M3) (c1 := cc) (s1 := sc) (fun n => rfl) ?_
      exact ri_ev_tswk (t := 267) (kk := 1) rfl hv (by decide) rfl rfl g
    | 2, _, hv =>
      obtain ⟨N, M2, hN, g⟩ := ri_op_2 xs cc sc
      refine ⟨N + 1 + 11, M2, by omega, ?_⟩
      refine ri_ev_go 11 (pc1 := 33) (L1 := [some (.ref 0), some (.ref 1), some (.ref 153), some (.int 0)]) (st1 := [.int (xs 0 &&& 63)]) (M1 := ri_M3) (c1 := cc) (s1 := sc) (fun n => rfl) ?_
      exact ri_ev_tswk (t := 290) (kk := 2) rfl hv (by decide) rfl rfl g
    | 3, _, hv =>
      obtain ⟨N, M2, hN, g⟩ := ri_op_3 xs cc sc
      refine ⟨N + 1 + 11, M2, by omega, ?_⟩
      refine ri_ev_go 11 (pc1 := 33) (L1 := [some (.ref 0), some (.ref 1), some (.ref 153), some (.int 0)]) (st1 := [.int (xs 0 &&& 63)]) (M1 := ri_M3) (c1 := cc) (s1 := sc) (fun n => rfl) ?_
      exact ri_ev_tswk (t := 303) (kk := 3) rfl hv (by decide) rfl rfl g
    | 4, _, hv =>
      obtain ⟨N, M2, hN, g⟩ := ri_op_4 xs cc sc
      refine ⟨N + 1 + 11, M2, by omega, ?_⟩
      refine ri_ev_go 11 (pc1 := 33) (L1 := [some (.ref 0), some (.ref 1), some (.ref 153), some (.int 0)]) (st1 := [.int (xs 0 &&& 63)]) (M1 := ri_M3) (c1 := cc) (s1 := sc) (fun n => rfl) ?_
      exact ri_ev_tswk (t := 316) (kk := 4) rfl hv (by decide) rfl rfl g
    | 5, _, hv =>
      obtain ⟨N, M2, hN, g⟩ := ri_op_5 xs cc sc
      refine ⟨N + 1 + 11, M2, by omega, ?_⟩
      refine ri_ev_go 11 (pc1 := 33) (L1 := [some (.ref 0), some (.ref 1), some (.ref 153), some (.int 0)]) (st1 := [.int (xs 0 &&& 63)]) (M1 := ri_M3) (c1 := cc) (s1 := sc) (fun n => rfl) ?_
      exact ri_ev_tswk (t := 359) (kk := 5) rfl hv (by decide) rfl rfl g
    | 6, _, hv =>
      obtain ⟨N, M2, hN, g⟩ := ri_op_6 xs cc sc
      refine ⟨N + 1 + 11, M2, by omega, ?_⟩
      refine ri_ev_go 11 (pc1 := 33) (L1 := [some (.ref 0), some (.ref 1), some (.ref 153), some (.int 0)]) (st1 := [.int (xs 0 &&& 63)]) (M1 := ri_M3) (c1 := cc) (s1 := sc) (fun n => rfl) ?_
      exact ri_ev_tswk (t := 413) (kk := 6) rfl hv (by decide) rfl rfl g
    | 7, _, hv =>
      obtain ⟨N, M2, hN, g⟩ := ri_op_7 xs cc sc
      refine ⟨N + 1 + 11, M2, by omega, ?_⟩
      refine ri_ev_go 11 (pc1 := 33) (L1 := [some (.ref 0), some (.ref 1), some (.ref 153), some (.int 0)]) (st1 := [.int (xs 0 &&& 63)]) (M1 := ri_M3) (c1 := cc) (s1 := sc) (fun n => rfl) ?_
      exact ri_ev_tswk (t := 466) (kk := 7) rfl hv (by decide) rfl rfl g
    | 8, _, hv =>
      obtain ⟨N, M2, hN, g⟩ := ri_op_8 xs cc sc
      refine ⟨N + 1 + 11, M2, by omega, ?_⟩
      refine ri_ev_go 11 (pc1 := 33) (L1 := [some (.ref 0), some (.ref 1), some (.ref 153), some (.int 0)]) (st1 := [.int (xs 0 &&& 63)]) (M1 := ri_M3) (c1 := cc) (s1 := sc) (fun n => rfl) ?_
      exact ri_ev_tswk (t := 499) (kk := 8) rfl hv (by decide) rfl rfl g
    | 9, _, hv =>
      obtain ⟨N, M2, hN, g⟩ := ri_op_9 xs cc sc
      refine ⟨N + 1 + 11, M2, by omega, ?_⟩
      refine ri_ev_go 11 (pc1 := 33) (L1 := [some (.ref 0), some (.ref 1), some (.ref 153), some (.int 0)]) (st1 := [.int (xs 0 &&& 63)]) (M1 := ri_M3) (c1 := cc) (s1 := sc) (fun n => rfl) ?_
      exact ri_ev_tswk (t := 548) (kk := 9) rfl hv (by decide) rfl rfl g
    | 10, _, hv =>
      obtain ⟨N, M2, hN, g⟩ := ri_op_10 xs cc sc
      refine ⟨N + 1 + 11, M2, by omega, ?_⟩
      refine ri_ev_go 11 (pc1 := 33) (L1 := [some (.ref 0), some (.ref 1), some (.ref 153), some (.int 0)]) (st1 := [.int (xs 0 &&& 63)]) (M1 := ri_M3) (c1 := cc) (s1 := sc) (fun n => rfl) ?_
      exact ri_ev_tswk (t := 571) (kk := 10) rfl hv (by decide) rfl rfl g
    | 11, _, hv =>
      obtain ⟨N, M2, hN, g⟩ := ri_op_11 xs cc sc
      refine ⟨N + 1 + 11, M2, by omega, ?_⟩
      refine ri_ev_go 11 (pc1 := 33) (L1 := [some (.ref 0), some (.ref 1), some (.ref 153), some (.int 0)]) (st1 := [.int (xs 0 &&& 63)]) (M1 := ri_M3) (c1 := cc) (s1 := sc) (fun n => rfl) ?_
      exact ri_ev_tswk (t := 614) (kk := 11) rfl hv (by decide) rfl rfl g
    | 12, _, hv =>
      obtain ⟨N, M2, hN, g⟩ := ri_op_12 xs cc sc
      refine ⟨N + 1 + 11, M2, by omega, ?_⟩
      refine ri_ev_go 11 (pc1 := 33) (L1 := [some (.ref 0), some (.ref 1), some (.ref 153), some (.int 0)]) (st1 := [.int (xs 0 &&& 63)]) (M1 := ri_M3) (c1 := cc) (s1 := sc) (fun n => rfl) ?_
      exact ri_ev_tswk (t := 647) (kk := 12) rfl hv (by decide) rfl rfl g
    | 13, _, hv =>
      obtain ⟨N, M2, hN, g⟩ := ri_op_13 xs cc sc
      refine ⟨N + 1 + 11, M2, by omega, ?_⟩
      refine ri_ev_go 11 (pc1 := 33) (L1 := [some (.ref 0), some (.ref 1), some (.ref 153), some (.int 0)]) (st1 := [.int (xs 0 &&& 63)]) (M1 := ri_M3) (c1 := cc) (s1 := sc) (fun n => rfl) ?_
      exact ri_ev_tswk (t := 680) (kk := 13) rfl hv (by decide) rfl rfl g
    | 14, _, hv =>
      obtain ⟨N, M2, hN, g⟩ := ri_op_14 xs cc sc
      refine ⟨N + 1 + 11, M2, by omega, ?_⟩
      refine ri_ev_go 11 (pc1 := 33) (L1 := [some (.ref 0), some (.ref 1), some (.ref 153), some (.int 0)]) (st1 := [.int (xs 0 &&& 63)]) (M1 := ri_M3) (c1 := cc) (s1 := sc) (fun n => rfl) ?_
      exact ri_ev_tswk (t := 723) (kk := 14) rfl hv (by decide) rfl rfl g
    | 15, _, hv =>
      obtain ⟨N, M2, hN, g⟩ := ri_op_15 xs cc sc
      refine ⟨N + 1 + 11, M2, by omega, ?_⟩
      refine ri_ev_go 11 (pc1 := 33) (L1 := [some (.ref 0), some (.ref 1), some (.ref 153), some (.int 0)]) (st1 := [.int (xs 0 &&& 63)]) (M1 := ri_M3) (c1 := cc) (s1 := sc) (fun n => rfl) ?_
      exact ri_ev_tswk (t := 776) (kk := 15) rfl hv (by decide) rfl rfl g
    | 16, _, hv =>
      obtain ⟨N, M2, hN, g⟩ := ri_op_16 xs cc sc
      refine ⟨N + 1 + 11, M2, by omega, ?_⟩
      refine ri_ev_go 11 (pc1 := 33) (L1 := [some (.ref 0), some (.ref 1), some (.ref 153), some (.int 0)]) (st1 := [.int (xs 0 &&& 63)]) (M1 := ri_M3) (c1 := cc) (s1 := sc) (fun n => rfl) ?_
      exact ri_ev_tswk (t := 809) (kk := 16) rfl hv (by decide) rfl rfl g
    | 17, _, hv =>
      obtain ⟨N, M2, hN, g⟩ := ri_op_17 xs cc sc
      refine ⟨N + 1 + 11, M2, by omega, ?_⟩
      refine ri_ev_go 11 (pc1 := 33) (L1 := [some (.ref 0), some (.ref 1), some (.ref 153), some (.int 0)]) (st1 := [.int (xs 0 &&& 63)]) (M1 := ri_M3) (c1 := cc) (s1 := sc) (fun n => rfl) ?_
      exact ri_ev_tswk (t := 842) (kk := 17) rfl hv (by decide) rfl rfl g
    | 18, _, hv =>
      obtain ⟨N, M2, hN, g⟩ := ri_op_18 xs cc sc
      refine ⟨N + 1 + 11, M2, by omega, ?_⟩
      refine ri_ev_go 11 (pc1 := 33) (L1 := [some (.ref 0), some (.ref 1), some (.ref 153), some (.int 0)]) (st1 := [.int (xs 0 &&& 63)]) (M1 := ri_M3) (c1 := cc) (s1 := sc) (fun n => rfl) ?_
      exact ri_ev_tswk (t := 866) (kk := 18) rfl hv (by decide) rfl rfl g
    | 19, _, hv =>
      obtain ⟨N, M2, hN, g⟩ := ri_op_19 xs cc sc
      refine ⟨N + 1 + 11, M2, by omega, ?_⟩
      refine ri_ev_go 11 (pc1 := 33) (L1 := [some (.ref 0), some (.ref 1), some (.ref 153), some (.int 0)]) (st1 := [.int (xs 0 &&& 63)]) (M1 := ri_M3) (c1 := cc) (s1 := sc) (fun n => rfl) ?_
      exact ri_ev_tswk (t := 889) (kk := 19) rfl hv (by decide) rfl rfl g
    | 20, _, hv =>
      obtain ⟨N, M2, hN, g⟩ := ri_op_20 xs cc sc
      refine ⟨N + 1 + 11, M2, by omega, ?_⟩
      refine ri_ev_go 11 (pc1 := 33) (L1 := [some (.ref 0), some (.ref 1), some (.ref 153), some (.int 0)]) (st1 := [.int (xs 0 &&& 63)]) (M1 := ri_M3) (c1 := cc) (s1 := sc) (fun n => rfl) ?_
      exact ri_ev_tswk (t := 912) (kk := 20) rfl hv (by decide) rfl rfl g
    | 21, _, hv =>
      obtain ⟨N, M2, hN, g⟩ := ri_op_21 xs cc sc
      refine ⟨N + 1 + 11, M2, by omega, ?_⟩
      refine ri_ev_go 11 (pc1 := 33) (L1 := [some (.ref 0), some (.ref 1), some (.ref 153), some (.int 0)]) (st1 := [.int (xs 0 &&& 63)]) (M1 := ri_M3) (c1 := cc) (s1 := sc) (fun n => rfl) ?_
      exact ri_ev_tswk (t := 945) (kk := 21) rfl hv (by decide) rfl rfl g
    | 22, _, hv =>
      obtain ⟨N, M2, hN, g⟩ := ri_op_22 xs cc sc
      refine ⟨N + 1 + 11, M2, by omega, ?_⟩
      refine ri_ev_go 11 (pc1 := 33) (L1 := [some (.ref 0), some (.ref 1), some (.ref 153), some (.int 0)]) (st1 := [.int (xs 0 &&& 63)]) (M1 := ri_M3) (c1 := cc) (s1 := sc) (fun n => rfl) ?_
      exact ri_ev_tswk (t := 988) (kk := 22) rfl hv (by decide) rfl rfl g
    | 23, _, hv =>
      obtain ⟨N, M2, hN, g⟩ := ri_op_23 xs cc sc
      refine ⟨N + 1 + 11, M2, by omega, ?_⟩
      refine ri_ev_go 11 (pc1 := 33) (L1 := [some (.ref 0), some (.ref 1), some (.ref 153), some (.int 0)]) (st1 := [.int (xs 0 &&& 63)]) (M1 := ri_M3) (c1 := cc) (s1 := sc) (fun n => rfl) ?_
      exact ri_ev_tswk (t := 1031) (kk := 23) rfl hv (by decide) rfl rfl g
    | 24, _, hv =>
      obtain ⟨N, M2, hN, g⟩ := ri_op_24 xs cc sc
      refine ⟨N + 1 + 11, M2, by omega, ?_⟩
      refine ri_ev_go 11 (pc1 := 33) (L1 := [some (.ref 0), some (.ref 1), some (.ref 153), some (.int 0)]) (st1 := [.int (xs 0 &&& 63)]) (M1 := ri_M3) (c1 := cc) (s1 := sc) (fun n => rfl) ?_
      exact ri_ev_tswk (t := 1074) (kk := 24) rfl hv (by decide) rfl rfl g
    | 25, _, hv =>
      obtain ⟨N, M2, hN, g⟩ := ri_op_25 xs cc sc
      refine ⟨N + 1 + 11, M2, by omega, ?_⟩
      refine ri_ev_go 11 (pc1 := 33) (L1 := [some (.ref 0), some (.ref 1), some (.ref 153), some (.int 0)]) (st1 := [.int (xs 0 &&& 63)]) (M1 := ri_M3) (c1 := cc) (s1 := sc) (fun n => rfl) ?_
      exact ri_ev_tswk (t := 1107) (kk := 25) rfl hv (by decide) rfl rfl g
    | 26, _, hv =>
      obtain ⟨N, M2, hN, g⟩ := ri_op_26 xs cc sc
      refine ⟨N + 1 + 11, M2, by omega, ?_⟩
      refine ri_ev_go 11 (pc1 := 33) (L1 := [some (.ref 0), some (.ref 1), some (.ref 153), some (.int 0)]) (st1 := [.int (xs 0 &&& 63)]) (M1 := ri_M3) (c1 := cc) (s1 := sc) (fun n => rfl) ?_
      exact ri_ev_tswk (t := 1150) (kk := 26) rfl hv (by decide) rfl rfl g
    | 27, _, hv =>
      obtain ⟨N, M2, hN, g⟩ := ri_op_27 xs cc sc
      refine ⟨N + 1 + 11, M2, by omega, ?_⟩
      refine ri_ev_go 11 (pc1 := 33) (L1 := [some (.ref 0), some (.ref 1), some (.ref 153), some (.int 0)]) (st1 := [.int (xs 0 &&& 63)]) (M1 := ri_M3) (c1 := cc) (s1 := sc) (fun n => rfl) ?_
      exact ri_ev_tswk (t := 1193) (kk := 27) rfl hv (by decide) rfl rfl g
    | 28, _, hv =>
      obtain ⟨N, M2, hN, g⟩ := ri_op_28 xs cc sc
      refine ⟨N + 1 + 11, M2, by omega, ?_⟩
      refine ri_ev_go 11 (pc1 := 33) (L1 := [some (.ref 0), some (.ref 1), some (.ref 153), some (.int 0)]) (st1 := [.int (xs 0 &&& 63)]) (M1 := ri_M3) (c1 := cc) (s1 := sc) (fun n => rfl) ?_
      exact ri_ev_tswk (t := 1236) (kk := 28) rfl hv (by decide) rfl rfl g
    | 29, _, hv =>
      obtain ⟨N, M2, hN, g⟩ := ri_op_29 xs cc sc
      refine ⟨N + 1 + 11, M2, by omega, ?_⟩
      refine ri_ev_go 11 (pc1 := 33) (L1 := [some (.ref 0), some (.ref 1), some (.ref 153), some (.int 0)]) (st1 := [.int (xs 0 &&& 63)]) (M1 := ri_M3) (c1 := cc) (s1 := sc) (fun n => rfl) ?_
      exact ri_ev_tswk (t := 1289) (kk := 29) rfl hv (by decide) rfl rfl g
    | 30, _, hv =>
      obtain ⟨N, M2, hN, g⟩ := ri_op_30 xs cc sc
      refine ⟨N + 1 + 11, M2, by omega, ?_⟩
      refine ri_ev_go 11 (pc1 := 33) (L1 := [some (.ref 0), some (.ref 1), some (.ref 153), some (.int 0)]) (st1 := [.int (xs 0 &&& 63)]) (M1 := ri_M3) (c1 := cc) (s1 := sc) (fun n => rfl) ?_
      exact ri_ev_tswk (t := 1322) (kk := 30) rfl hv (by decide) rfl rfl g
    | 31, _, hv =>
      obtain ⟨N, M2, hN, g⟩ := ri_op_31 xs cc sc
      refine ⟨N + 1 + 11, M2, by omega, ?_⟩
      refine ri_ev_go 11 (pc1 := 33) (L1 := [some (.ref 0), some (.ref 1), some (.ref 153), some (.int 0)]) (st1 := [.int (xs 0 &&& 63)]) (M1 := ri_M3) (c1 := cc) (s1 := sc) (fun n => rfl) ?_
      exact ri_ev_tswk (t := 1385) (kk := 31) rfl hv (by decide) rfl rfl g
    | 32, _, hv =>
      obtain ⟨N, M2, hN, g⟩ := ri_op_32 xs cc sc
      refine ⟨N + 1 + 11, M2, by omega, ?_⟩
      refine ri_ev_go 11 (pc1 := 33) (L1 := [some (.ref 0), some (.ref 1), some (.ref 153), some (.int 0)]) (st1 := [.int (xs 0 &&& 63)]) (M1 := ri_M3) (c1 := cc) (s1 := sc) (fun n => rfl) ?_
      exact ri_ev_tswk (t := 1408) (kk := 32) rfl hv (by decide) rfl rfl g
    | 33, _, hv =>
      obtain ⟨N, M2, hN, g⟩ := ri_op_33 xs cc sc
      refine ⟨N + 1 + 11, M2, by omega, ?_⟩
      refine ri_ev_go 11 (pc1 := 33) (L1 := [some (.ref 0), some (.ref 1), some (.ref 153), some (.int 0)]) (st1 := [.int (xs 0 &&& 63)]) (M1 := ri_M3) (c1 := cc) (s1 := sc) (fun n => rfl) ?_
      exact ri_ev_tswk (t := 1431) (kk := 33) rfl hv (by decide) rfl rfl g
    | 34, _, hv =>
      obtain ⟨N, M2, hN, g⟩ := ri_op_34 xs cc sc
      refine ⟨N + 1 + 11, M2, by omega, ?_⟩
      refine ri_ev_go 11 (pc1 := 33) (L1 := [some (.ref 0), some (.ref 1), some (.ref 153), some (.int 0)]) (st1 := [.int (xs 0 &&& 63)]) (M1 := ri_M3) (c1 := cc) (s1 := sc) (fun n => rfl) ?_
      exact ri_ev_tswk (t := 1474) (kk := 34) rfl hv (by decide) rfl rfl g
    | 35, _, hv =>
      obtain ⟨N, M2, hN, g⟩ := ri_op_35 xs cc sc
      refine ⟨N + 1 + 11, M2, by omega, ?_⟩
      refine ri_ev_go 11 (pc1 := 33) (L1 := [some (.ref 0), some (.ref 1), some (.ref 153), some (.int 0)]) (st1 := [.int (xs 0 &&& 63)]) (M1 := ri_M3) (c1 := cc) (s1 := sc) (fun n => rfl) ?_
      exact ri_ev_tswk (t := 1497) (kk := 35) rfl hv (by decide) rfl rfl g
    | 36, _, hv =>
      obtain ⟨N, M2, hN, g⟩ := ri_op_36 xs cc sc
      refine ⟨N + 1 + 11, M2, by omega, ?_⟩
      refine ri_ev_go 11 (pc1 := 33) (L1 := [some (.ref 0), some (.ref 1), some (.ref 153), some (.int 0)]) (st1 := [.int (xs 0 &&& 63)]) (M1 := ri_M3) (c1 := cc) (s1 := sc) (fun n => rfl) ?_
      exact ri_ev_tswk (t := 1550) (kk := 36) rfl hv (by decide) rfl rfl g
    | 37, _, hv =>
      obtain ⟨N, M2, hN, g⟩ := ri_op_37 xs cc sc
      refine ⟨N + 1 + 11, M2, by omega, ?_⟩
      refine ri_ev_go 11 (pc1 := 33) (L1 := [some (.ref 0), some (.ref 1), some (.ref 153), some (.int 0)]) (st1 := [.int (xs 0 &&& 63)]) (M1 := ri_M3) (c1 := cc) (s1 := sc) (fun n => rfl) ?_
      exact ri_ev_tswk (t := 1573) (kk := 37) rfl hv (by decide) rfl rfl g
    | 38, _, hv =>
      obtain ⟨N, M2, hN, g⟩ := ri_op_38 xs cc sc
      refine ⟨N + 1 + 11, M2, by omega, ?_⟩
      refine ri_ev_go 11 (pc1 := 33) (L1 := [some (.ref 0), some (.ref 1), some (.ref 153), some (.int 0)]) (st1 := [.int (xs 0 &&& 63)]) (M1 := ri_M3) (c1 := cc) (s1 := sc) (fun n => rfl) ?_
      exact ri_ev_tswk (t := 1596) (kk := 38) rfl hv (by decide) rfl rfl g
    | k + 39, hk, _ => exact absurd hk (by omega)
theorem ri_law0 (n : Nat) (hn : n ≤ 5) (xs : Nat → Int32) (cc sc : Nat) : ri_ev 8 (some (n, xs)) 19 ri_law (some .boolean) 18 [some (.ref 0), some (.ref 1), some (.ref 153), some (.int 0)] [] ri_M3 cc sc (some (.int 1), ri_M3, cc, sc) := by
  match n, hn with
  | 0, _ =>
    refine ri_ev_go 7 (pc1 := 1626) (L1 := [some (.ref 0), some (.ref 1), some (.ref 153), some (.int 0)]) (st1 := [.int 1]) (M1 := ri_M3) (c1 := cc) (s1 := sc) (fun n => rfl) ?_
    exact ri_ev_ret (fun n => rfl)
  | 1, _ =>
    refine ri_ev_go 7 (pc1 := 1626) (L1 := [some (.ref 0), some (.ref 1), some (.ref 153), some (.int 0)]) (st1 := [.int 1]) (M1 := ri_M3) (c1 := cc) (s1 := sc) (fun n => rfl) ?_
    exact ri_ev_ret (fun n => rfl)
  | 2, _ =>
    refine ri_ev_go 7 (pc1 := 1626) (L1 := [some (.ref 0), some (.ref 1), some (.ref 153), some (.int 0)]) (st1 := [.int 1]) (M1 := ri_M3) (c1 := cc) (s1 := sc) (fun n => rfl) ?_
    exact ri_ev_ret (fun n => rfl)
  | 3, _ =>
    refine ri_ev_go 7 (pc1 := 1626) (L1 := [some (.ref 0), some (.ref 1), some (.ref 153), some (.int 0)]) (st1 := [.int 1]) (M1 := ri_M3) (c1 := cc) (s1 := sc) (fun n => rfl) ?_
    exact ri_ev_ret (fun n => rfl)
  | 4, _ =>
    refine ri_ev_go 7 (pc1 := 1626) (L1 := [some (.ref 0), some (.ref 1), some (.ref 153), some (.int 0)]) (st1 := [.int 1]) (M1 := ri_M3) (c1 := cc) (s1 := sc) (fun n => rfl) ?_
    exact ri_ev_ret (fun n => rfl)
  | 5, _ =>
    refine ri_ev_go 7 (pc1 := 1626) (L1 := [some (.ref 0), some (.ref 1), some (.ref 153), some (.int 0)]) (st1 := [.int 1]) (M1 := ri_M3) (c1 := cc) (s1 := sc) (fun n => rfl) ?_
    exact ri_ev_ret (fun n => rfl)
  | k + 6, hk => exact absurd hk (by omega)
theorem ri_lawrun (n : Nat) (hn : n ≤ 6) (xs : Nat → Int32) (cc sc : Nat) : ∃ N M2, ri_run (some (n, xs)) (ri_c 19) ri_rc ri_law (some .boolean) N 18 [some (.ref 0), some (.ref 1), some (.ref 153), some (.int 0)] [] ri_M3 cc sc = some (some (.int 1), M2, cc, sc) := by
  rcases Nat.lt_or_ge n 6 with h | h
  · exact ⟨8, ri_M3, ri_law0 n (by omega) xs cc sc 8 (Nat.le_refl _)⟩
  · have e : n = 6 := by omega
    subst e
    obtain ⟨N, M2, -, g⟩ := ri_law6 xs cc sc
    exact ⟨N, M2, g N (Nat.le_refl _)⟩
