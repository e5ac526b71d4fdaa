/-! Every call on the fresh objects. -/
set_option maxRecDepth 100000 in
set_option maxHeartbeats 8000000 in
theorem ro_feed_0 (x1 x2 x3 x4 x5 : Int32)   : ri_eqi 103 172 [.int x1, .int x2, .int x3, .int x4, .int x5] := by
  obtain ⟨g6, hc26⟩ : ∃ g6 : Nat → Int32, ri_c 19 103 [.ref 1, .int x1, .int x2, .int x3, .int x4, .int x5] ri_M3 = some (some (.int 20), ((ri_M3.set 2 (.inl (.byte, (400, .inl (g6))))).set 1 (.inr (8, [.ref 3, .int 20]))), 0, 0) := by
    obtain ⟨g1, hc5⟩ : ∃ g1 : Nat → Int32, ri_c 18 83 [.ref 2, .int x1] ri_M3 = some (none, ((ri_M3.set 2 (.inl (.byte, (400, .inl (g1))))).set 1 (.inr (8, [.ref 3, .int 4]))), 0, 0) := by
      have hc1 : ri_c 17 142 [.int 0, .int 400] ri_M3 = some (some (.int 0), ri_M3, 0, 0) := by
        refine ri_ev_call (N := 7) (L := [some (.int 0), some (.int 400)]) rfl (Nat.le_of_ble_eq_true rfl) ?_
        refine ri_ev_go 6 (pc1 := 14) (L1 := [some (.int 0), some (.int 400)]) (st1 := [.int 0]) (M1 := ri_M3) (c1 := 0) (s1 := 0) (fun n => rfl) ?_
        exact ri_ev_ret (fun n => rfl)
      have hc2 : ri_c 17 142 [.int 1, .int 400] ((ri_M3.set 2 (.inl (.byte, (400, .inl (upd (fun _ => 0) 0 (vp_nar .byte ((x1 >>> (24 &&& 31))).toInt8.toInt32)))))).set 1 (.inr (8, [.ref 3, .int 1]))) = some (some (.int 0), ((ri_M3.set 2 (.inl (.byte, (400, .inl (upd (fun _ => 0) 0 (vp_nar .byte ((x1 >>> (24 &&& 31))).toInt8.toInt32)))))).set 1 (.inr (8, [.ref 3, .int 1]))), 0, 0) := by
        refine ri_ev_call (N := 7) (L := [some (.int 1), some (.int 400)]) rfl (Nat.le_of_ble_eq_true rfl) ?_
        refine ri_ev_go 6 (pc1 := 14) (L1 := [some (.int 1), some (.int 400)]) (st1 := [.int 0]) (M1 := ((ri_M3.set 2 (.inl (.byte, (400, .inl (upd (fun _ => 0) 0 (vp_nar .byte ((x1 >>> (24 &&& 31))).toInt8.toInt32)))))).set 1 (.inr (8, [.ref 3, .int 1])))) (c1 := 0) (s1 := 0) (fun n => rfl) ?_
        exact ri_ev_ret (fun n => rfl)
      have hc3 : ri_c 17 142 [.int 2, .int 400] ((ri_M3.set 2 (.inl (.byte, (400, .inl (upd (upd (fun _ => 0) 0 (vp_nar .byte ((x1 >>> (24 &&& 31))).toInt8.toInt32)) 1 (vp_nar .byte ((x1 >>> (16 &&& 31))).toInt8.toInt32)))))).set 1 (.inr (8, [.ref 3, .int 2]))) = some (some (.int 0), ((ri_M3.set 2 (.inl (.byte, (400, .inl (upd (upd (fun _ => 0) 0 (vp_nar .byte ((x1 >>> (24 &&& 31))).toInt8.toInt32)) 1 (vp_nar .byte ((x1 >>> (16 &&& 31))).toInt8.toInt32)))))).set 1 (.inr (8, [.ref 3, .int 2]))), 0, 0) := by
        refine ri_ev_call (N := 7) (L := [some (.int 2), some (.int 400)]) rfl (Nat.le_of_ble_eq_true rfl) ?_
        refine ri_ev_go 6 (pc1 := 14) (L1 := [some (.int 2), some (.int 400)]) (st1 := [.int 0]) (M1 := ((ri_M3.set 2 (.inl (.byte, (400, .inl (upd (upd (fun _ => 0) 0 (vp_nar .byte ((x1 >>> (24 &&& 31))).toInt8.toInt32)) 1 (vp_nar .byte ((x1 >>> (16 &&& 31))).toInt8.toInt32)))))).set 1 (.inr (8, [.ref 3, .int 2])))) (c1 := 0) (s1 := 0) (fun n => rfl) ?_
        exact ri_ev_ret (fun n => rfl)
      have hc4 : ri_c 17 142 [.int 3, .int 400] ((ri_M3.set 2 (.inl (.byte, (400, .inl (upd (upd (upd (fun _ => 0) 0 (vp_nar .byte ((x1 >>> (24 &&& 31))).toInt8.toInt32)) 1 (vp_nar .byte ((x1 >>> (16 &&& 31))).toInt8.toInt32)) 2 (vp_nar .byte ((x1 >>> (8 &&& 31))).toInt8.toInt32)))))).set 1 (.inr (8, [.ref 3, .int 3]))) = some (some (.int 0), ((ri_M3.set 2 (.inl (.byte, (400, .inl (upd (upd (upd (fun _ => 0) 0 (vp_nar .byte ((x1 >>> (24 &&& 31))).toInt8.toInt32)) 1 (vp_nar .byte ((x1 >>> (16 &&& 31))).toInt8.toInt32)) 2 (vp_nar .byte ((x1 >>> (8 &&& 31))).toInt8.toInt32)))))).set 1 (.inr (8, [.ref 3, .int 3]))), 0, 0) := by
        refine ri_ev_call (N := 7) (L := [some (.int 3), some (.int 400)]) rfl (Nat.le_of_ble_eq_true rfl) ?_
        refine ri_ev_go 6 (pc1 := 14) (L1 := [some (.int 3), some (.int 400)]) (st1 := [.int 0]) (M1 := ((ri_M3.set 2 (.inl (.byte, (400, .inl (upd (upd (upd (fun _ => 0) 0 (vp_nar .byte ((x1 >>> (24 &&& 31))).toInt8.toInt32)) 1 (vp_nar .byte ((x1 >>> (16 &&& 31))).toInt8.toInt32)) 2 (vp_nar .byte ((x1 >>> (8 &&& 31))).toInt8.toInt32)))))).set 1 (.inr (8, [.ref 3, .int 3])))) (c1 := 0) (s1 := 0) (fun n => rfl) ?_
        exact ri_ev_ret (fun n => rfl)
      refine ⟨upd (upd (upd (upd (fun _ => 0) 0 (vp_nar .byte ((x1 >>> (24 &&& 31))).toInt8.toInt32)) 1 (vp_nar .byte ((x1 >>> (16 &&& 31))).toInt8.toInt32)) 2 (vp_nar .byte ((x1 >>> (8 &&& 31))).toInt8.toInt32)) 3 (vp_nar .byte ((x1 >>> (0 &&& 31))).toInt8.toInt32), ?_⟩
      refine ri_ev_call (N := 109) (L := [some (.ref 2), some (.int x1), none]) rfl (Nat.le_of_ble_eq_true rfl) ?_
      refine ri_ev_go 5 (pc1 := 8) (L1 := [some (.ref 2), some (.int x1), some (.int 24)]) (st1 := [.ref 2]) (M1 := ri_M3) (c1 := 0) (s1 := 0) (fun n => rfl) ?_
      refine ri_ev_gf (k := 1) rfl ri_M3_1 rfl ?_
      refine ri_ev_go 1 (pc1 := 12) (L1 := [some (.ref 2), some (.int x1), some (.int 24)]) (st1 := [.ref 2, .int 0]) (M1 := ri_M3) (c1 := 0) (s1 := 0) (fun n => rfl) ?_
      refine ri_ev_gf (k := 1) rfl ri_M3_1 rfl ?_
      refine ri_ev_alnd (k := 2) (w := 400) rfl ri_M3_2 rfl ?_
      refine ri_ev_cls (M1 := ri_M3) (v := some (.int 0)) _ rfl (Or.inr rfl) rfl (Nat.le_of_ble_eq_true rfl) hc1 ?_
      refine ri_ev_go 2 (pc1 := 23) (L1 := [some (.ref 2), some (.int x1), some (.int 24)]) (st1 := [.ref 2]) (M1 := ri_M3) (c1 := 0) (s1 := 0) (fun n => rfl) ?_
      refine ri_ev_gf (k := 1) rfl ri_M3_1 rfl ?_
      refine ri_ev_go 1 (pc1 := 27) (L1 := [some (.ref 2), some (.int x1), some (.int 24)]) (st1 := [.ref 2, .ref 3]) (M1 := ri_M3) (c1 := 0) (s1 := 0) (fun n => rfl) ?_
      refine ri_ev_gf (k := 1) rfl ri_M3_1 rfl ?_
      refine ri_ev_go 4 (pc1 := 34) (L1 := [some (.ref 2), some (.int x1), some (.int 24)]) (st1 := [.int ((x1 >>> (24 &&& 31))).toInt8.toInt32, .int 0, .ref 3]) (M1 := ri_M3) (c1 := 0) (s1 := 0) (fun n => rfl) ?_
      refine ri_ev_basd (k := 2) (q := 0) (M2 := (ri_M3.set 2 (.inl (.byte, (400, .inl (upd (fun _ => 0) 0 (vp_nar .byte ((x1 >>> (24 &&& 31))).toInt8.toInt32))))))) rfl ri_M3_2 (by decide) rfl rfl ?_
      refine ri_ev_go 2 (pc1 := 37) (L1 := [some (.ref 2), some (.int x1), some (.int 24)]) (st1 := [.ref 2, .ref 2]) (M1 := (ri_M3.set 2 (.inl (.byte, (400, .inl (upd (fun _ => 0) 0 (vp_nar .byte ((x1 >>> (24 &&& 31))).toInt8.toInt32))))))) (c1 := 0) (s1 := 0) (fun n => rfl) ?_
      refine ri_ev_gf (k := 1) rfl (ri_gn (by decide) ri_M3_1) rfl ?_
      refine ri_ev_go 2 (pc1 := 42) (L1 := [some (.ref 2), some (.int x1), some (.int 24)]) (st1 := [.int 1, .ref 2]) (M1 := (ri_M3.set 2 (.inl (.byte, (400, .inl (upd (fun _ => 0) 0 (vp_nar .byte ((x1 >>> (24 &&& 31))).toInt8.toInt32))))))) (c1 := 0) (s1 := 0) (fun n => rfl) ?_
      refine ri_ev_pf (k := 1) (gs := [.ref 3, .int 1]) (M2 := ((ri_M3.set 2 (.inl (.byte, (400, .inl (upd (fun _ => 0) 0 (vp_nar .byte ((x1 >>> (24 &&& 31))).toInt8.toInt32)))))).set 1 (.inr (8, [.ref 3, .int 1])))) rfl (ri_gn (by decide) ri_M3_1) (Nat.le_of_ble_eq_true rfl) rfl rfl rfl ?_
      refine ri_ev_go 5 (pc1 := 8) (L1 := [some (.ref 2), some (.int x1), some (.int 16)]) (st1 := [.ref 2]) (M1 := ((ri_M3.set 2 (.inl (.byte, (400, .inl (upd (fun _ => 0) 0 (vp_nar .byte ((x1 >>> (24 &&& 31))).toInt8.toInt32)))))).set 1 (.inr (8, [.ref 3, .int 1])))) (c1 := 0) (s1 := 0) (fun n => rfl) ?_
      refine ri_ev_gf (k := 1) rfl (ri_gs (ri_gn (by decide) ri_M3_1)) rfl ?_
      refine ri_ev_go 1 (pc1 := 12) (L1 := [some (.ref 2), some (.int x1), some (.int 16)]) (st1 := [.ref 2, .int 1]) (M1 := ((ri_M3.set 2 (.inl (.byte, (400, .inl (upd (fun _ => 0) 0 (vp_nar .byte ((x1 >>> (24 &&& 31))).toInt8.toInt32)))))).set 1 (.inr (8, [.ref 3, .int 1])))) (c1 := 0) (s1 := 0) (fun n => rfl) ?_
      refine ri_ev_gf (k := 1) rfl (ri_gs (ri_gn (by decide) ri_M3_1)) rfl ?_
      refine ri_ev_alnd (k := 2) (w := 400) rfl (ri_gn (by decide) (ri_gs ri_M3_2)) rfl ?_
      refine ri_ev_cls (M1 := ((ri_M3.set 2 (.inl (.byte, (400, .inl (upd (fun _ => 0) 0 (vp_nar .byte ((x1 >>> (24 &&& 31))).toInt8.toInt32)))))).set 1 (.inr (8, [.ref 3, .int 1])))) (v := some (.int 0)) _ rfl (Or.inr rfl) rfl (Nat.le_of_ble_eq_true rfl) hc2 ?_
      refine ri_ev_go 2 (pc1 := 23) (L1 := [some (.ref 2), some (.int x1), some (.int 16)]) (st1 := [.ref 2]) (M1 := ((ri_M3.set 2 (.inl (.byte, (400, .inl (upd (fun _ => 0) 0 (vp_nar .byte ((x1 >>> (24 &&& 31))).toInt8.toInt32)))))).set 1 (.inr (8, [.ref 3, .int 1])))) (c1 := 0) (s1 := 0) (fun n => rfl) ?_
      refine ri_ev_gf (k := 1) rfl (ri_gs (ri_gn (by decide) ri_M3_1)) rfl ?_
      refine ri_ev_go 1 (pc1 := 27) (L1 := [some (.ref 2), some (.int x1), some (.int 16)]) (st1 := [.ref 2, .ref 3]) (M1 := ((ri_M3.set 2 (.inl (.byte, (400, .inl (upd (fun _ => 0) 0 (vp_nar .byte ((x1 >>> (24 &&& 31))).toInt8.toInt32)))))).set 1 (.inr (8, [.ref 3, .int 1])))) (c1 := 0) (s1 := 0) (fun n => rfl) ?_
      refine ri_ev_gf (k := 1) rfl (ri_gs (ri_gn (by decide) ri_M3_1)) rfl ?_
      refine ri_ev_go 4 (pc1 := 34) (L1 := [some (.ref 2), some (.int x1), some (.int 16)]) (st1 := [.int ((x1 >>> (16 &&& 31))).toInt8.toInt32, .int 1, .ref 3]) (M1 := ((ri_M3.set 2 (.inl (.byte, (400, .inl (upd (fun _ => 0) 0 (vp_nar .byte ((x1 >>> (24 &&& 31))).toInt8.toInt32)))))).set 1 (.inr (8, [.ref 3, .int 1])))) (c1 := 0) (s1 := 0) (fun n => rfl) ?_
      refine ri_ev_basd (k := 2) (q := 1) (M2 := ((ri_M3.set 2 (.inl (.byte, (400, .inl (upd (upd (fun _ => 0) 0 (vp_nar .byte ((x1 >>> (24 &&& 31))).toInt8.toInt32)) 1 (vp_nar .byte ((x1 >>> (16 &&& 31))).toInt8.toInt32)))))).set 1 (.inr (8, [.ref 3, .int 1])))) rfl (ri_gn (by decide) (ri_gs ri_M3_2)) (by decide) rfl (ri_ss (by decide) (List.set_set _)) ?_
      refine ri_ev_go 2 (pc1 := 37) (L1 := [some (.ref 2), some (.int x1), some (.int 16)]) (st1 := [.ref 2, .ref 2]) (M1 := ((ri_M3.set 2 (.inl (.byte, (400, .inl (upd (upd (fun _ => 0) 0 (vp_nar .byte ((x1 >>> (24 &&& 31))).toInt8.toInt32)) 1 (vp_nar .byte ((x1 >>> (16 &&& 31))).toInt8.toInt32)))))).set 1 (.inr (8, [.ref 3, .int 1])))) (c1 := 0) (s1 := 0) (fun n => rfl) ?_
      refine ri_ev_gf (k := 1) rfl (ri_gs (ri_gn (by decide) ri_M3_1)) rfl ?_
      refine ri_ev_go 2 (pc1 := 42) (L1 := [some (.ref 2), some (.int x1), some (.int 16)]) (st1 := [.int 2, .ref 2]) (M1 := ((ri_M3.set 2 (.inl (.byte, (400, .inl (upd (upd (fun _ => 0) 0 (vp_nar .byte ((x1 >>> (24 &&& 31))).toInt8.toInt32)) 1 (vp_nar .byte ((x1 >>> (16 &&& 31))).toInt8.toInt32)))))).set 1 (.inr (8, [.ref 3, .int 1])))) (c1 := 0) (s1 := 0) (fun n => rfl) ?_
      refine ri_ev_pf (k := 1) (gs := [.ref 3, .int 2]) (M2 := ((ri_M3.set 2 (.inl (.byte, (400, .inl (upd (upd (fun _ => 0) 0 (vp_nar .byte ((x1 >>> (24 &&& 31))).toInt8.toInt32)) 1 (vp_nar .byte ((x1 >>> (16 &&& 31))).toInt8.toInt32)))))).set 1 (.inr (8, [.ref 3, .int 2])))) rfl (ri_gs (ri_gn (by decide) ri_M3_1)) (Nat.le_of_ble_eq_true rfl) rfl rfl (List.set_set _) ?_
      refine ri_ev_go 5 (pc1 := 8) (L1 := [some (.ref 2), some (.int x1), some (.int 8)]) (st1 := [.ref 2]) (M1 := ((ri_M3.set 2 (.inl (.byte, (400, .inl (upd (upd (fun _ => 0) 0 (vp_nar .byte ((x1 >>> (24 &&& 31))).toInt8.toInt32)) 1 (vp_nar .byte ((x1 >>> (16 &&& 31))).toInt8.toInt32)))))).set 1 (.inr (8, [.ref 3, .int 2])))) (c1 := 0) (s1 := 0) (fun n => rfl) ?_
      refine ri_ev_gf (k := 1) rfl (ri_gs (ri_gn (by decide) ri_M3_1)) rfl ?_
      refine ri_ev_go 1 (pc1 := 12) (L1 := [some (.ref 2), some (.int x1), some (.int 8)]) (st1 := [.ref 2, .int 2]) (M1 := ((ri_M3.set 2 (.inl (.byte, (400, .inl (upd (upd (fun _ => 0) 0 (vp_nar .byte ((x1 >>> (24 &&& 31))).toInt8.toInt32)) 1 (vp_nar .byte ((x1 >>> (16 &&& 31))).toInt8.toInt32)))))).set 1 (.inr (8, [.ref 3, .int 2])))) (c1 := 0) (s1 := 0) (fun n => rfl) ?_
      refine ri_ev_gf (k := 1) rfl (ri_gs (ri_gn (by decide) ri_M3_1)) rfl ?_
      refine ri_ev_alnd (k := 2) (w := 400) rfl (ri_gn (by decide) (ri_gs ri_M3_2)) rfl ?_
      refine ri_ev_cls (M1 := ((ri_M3.set 2 (.inl (.byte, (400, .inl (upd (upd (fun _ => 0) 0 (vp_nar .byte ((x1 >>> (24 &&& 31))).toInt8.toInt32)) 1 (vp_nar .byte ((x1 >>> (16 &&& 31))).toInt8.toInt32)))))).set 1 (.inr (8, [.ref 3, .int 2])))) (v := some (.int 0)) _ rfl (Or.inr rfl) rfl (Nat.le_of_ble_eq_true rfl) hc3 ?_
      refine ri_ev_go 2 (pc1 := 23) (L1 := [some (.ref 2), some (.int x1), some (.int 8)]) (st1 := [.ref 2]) (M1 := ((ri_M3.set 2 (.inl (.byte, (400, .inl (upd (upd (fun _ => 0) 0 (vp_nar .byte ((x1 >>> (24 &&& 31))).toInt8.toInt32)) 1 (vp_nar .byte ((x1 >>> (16 &&& 31))).toInt8.toInt32)))))).set 1 (.inr (8, [.ref 3, .int 2])))) (c1 := 0) (s1 := 0) (fun n => rfl) ?_
      refine ri_ev_gf (k := 1) rfl (ri_gs (ri_gn (by decide) ri_M3_1)) rfl ?_
      refine ri_ev_go 1 (pc1 := 27) (L1 := [some (.ref 2), some (.int x1), some (.int 8)]) (st1 := [.ref 2, .ref 3]) (M1 := ((ri_M3.set 2 (.inl (.byte, (400, .inl (upd (upd (fun _ => 0) 0 (vp_nar .byte ((x1 >>> (24 &&& 31))).toInt8.toInt32)) 1 (vp_nar .byte ((x1 >>> (16 &&& 31))).toInt8.toInt32)))))).set 1 (.inr (8, [.ref 3, .int 2])))) (c1 := 0) (s1 := 0) (fun n => rfl) ?_
      refine ri_ev_gf (k := 1) rfl (ri_gs (ri_gn (by decide) ri_M3_1)) rfl ?_
      refine ri_ev_go 4 (pc1 := 34) (L1 := [some (.ref 2), some (.int x1), some (.int 8)]) (st1 := [.int ((x1 >>> (8 &&& 31))).toInt8.toInt32, .int 2, .ref 3]) (M1 := ((ri_M3.set 2 (.inl (.byte, (400, .inl (upd (upd (fun _ => 0) 0 (vp_nar .byte ((x1 >>> (24 &&& 31))).toInt8.toInt32)) 1 (vp_nar .byte ((x1 >>> (16 &&& 31))).toInt8.toInt32)))))).set 1 (.inr (8, [.ref 3, .int 2])))) (c1 := 0) (s1 := 0) (fun n => rfl) ?_
      refine ri_ev_basd (k := 2) (q := 2) (M2 := ((ri_M3.set 2 (.inl (.byte, (400, .inl (upd (upd (upd (fun _ => 0) 0 (vp_nar .byte ((x1 >>> (24 &&& 31))).toInt8.toInt32)) 1 (vp_nar .byte ((x1 >>> (16 &&& 31))).toInt8.toInt32)) 2 (vp_nar .byte ((x1 >>> (8 &&& 31))).toInt8.toInt32)))))).set 1 (.inr (8, [.ref 3, .int 2])))) rfl (ri_gn (by decide) (ri_gs ri_M3_2)) (by decide) rfl (ri_ss (by decide) (List.set_set _)) ?_
      refine ri_ev_go 2 (pc1 := 37) (L1 := [some (.ref 2), some (.int x1), some (.int 8)]) (st1 := [.ref 2, .ref 2]) (M1 := ((ri_M3.set 2 (.inl (.byte, (400, .inl (upd (upd (upd (fun _ => 0) 0 (vp_nar .byte ((x1 >>> (24 &&& 31))).toInt8.toInt32)) 1 (vp_nar .byte ((x1 >>> (16 &&& 31))).toInt8.toInt32)) 2 (vp_nar .byte ((x1 >>> (8 &&& 31))).toInt8.toInt32)))))).set 1 (.inr (8, [.ref 3, .int 2])))) (c1 := 0) (s1 := 0) (fun n => rfl) ?_
      refine ri_ev_gf (k := 1) rfl (ri_gs (ri_gn (by decide) ri_M3_1)) rfl ?_
      refine ri_ev_go 2 (pc1 := 42) (L1 := [some (.ref 2), some (.int x1), some (.int 8)]) (st1 := [.int 3, .ref 2]) (M1 := ((ri_M3.set 2 (.inl (.byte, (400, .inl (upd (upd (upd (fun _ => 0) 0 (vp_nar .byte ((x1 >>> (24 &&& 31))).toInt8.toInt32)) 1 (vp_nar .byte ((x1 >>> (16 &&& 31))).toInt8.toInt32)) 2 (vp_nar .byte ((x1 >>> (8 &&& 31))).toInt8.toInt32)))))).set 1 (.inr (8, [.ref 3, .int 2])))) (c1 := 0) (s1 := 0) (fun n => rfl) ?_
      refine ri_ev_pf (k := 1) (gs := [.ref 3, .int 3]) (M2 := ((ri_M3.set 2 (.inl (.byte, (400, .inl (upd (upd (upd (fun _ => 0) 0 (vp_nar .byte ((x1 >>> (24 &&& 31))).toInt8.toInt32)) 1 (vp_nar .byte ((x1 >>> (16 &&& 31))).toInt8.toInt32)) 2 (vp_nar .byte ((x1 >>> (8 &&& 31))).toInt8.toInt32)))))).set 1 (.inr (8, [.ref 3, .int 3])))) rfl (ri_gs (ri_gn (by decide) ri_M3_1)) (Nat.le_of_ble_eq_true rfl) rfl rfl (List.set_set _) ?_
      refine ri_ev_go 5 (pc1 := 8) (L1 := [some (.ref 2), some (.int x1), some (.int 0)]) (st1 := [.ref 2]) (M1 := ((ri_M3.set 2 (.inl (.byte, (400, .inl (upd (upd (upd (fun _ => 0) 0 (vp_nar .byte ((x1 >>> (24 &&& 31))).toInt8.toInt32)) 1 (vp_nar .byte ((x1 >>> (16 &&& 31))).toInt8.toInt32)) 2 (vp_nar .byte ((x1 >>> (8 &&& 31))).toInt8.toInt32)))))).set 1 (.inr (8, [.ref 3, .int 3])))) (c1 := 0) (s1 := 0) (fun n => rfl) ?_
      refine ri_ev_gf (k := 1) rfl (ri_gs (ri_gn (by decide) ri_M3_1)) rfl ?_
      refine ri_ev_go 1 (pc1 := 12) (L1 := [some (.ref 2), some (.int x1), some (.int 0)]) (st1 := [.ref 2, .int 3]) (M1 := ((ri_M3.set 2 (.inl (.byte, (400, .inl (upd (upd (upd (fun _ => 0) 0 (vp_nar .byte ((x1 >>> (24 &&& 31))).toInt8.toInt32)) 1 (vp_nar .byte ((x1 >>> (16 &&& 31))).toInt8.toInt32)) 2 (vp_nar .byte ((x1 >>> (8 &&& 31))).toInt8.toInt32)))))).set 1 (.inr (8, [.ref 3, .int 3])))) (c1 := 0) (s1 := 0) (fun n => rfl) ?_
      refine ri_ev_gf (k := 1) rfl (ri_gs (ri_gn (by decide) ri_M3_1)) rfl ?_
      refine ri_ev_alnd (k := 2) (w := 400) rfl (ri_gn (by decide) (ri_gs ri_M3_2)) rfl ?_
      refine ri_ev_cls (M1 := ((ri_M3.set 2 (.inl (.byte, (400, .inl (upd (upd (upd (fun _ => 0) 0 (vp_nar .byte ((x1 >>> (24 &&& 31))).toInt8.toInt32)) 1 (vp_nar .byte ((x1 >>> (16 &&& 31))).toInt8.toInt32)) 2 (vp_nar .byte ((x1 >>> (8 &&& 31))).toInt8.toInt32)))))).set 1 (.inr (8, [.ref 3, .int 3])))) (v := some (.int 0)) _ rfl (Or.inr rfl) rfl (Nat.le_of_ble_eq_true rfl) hc4 ?_
      refine ri_ev_go 2 (pc1 := 23) (L1 := [some (.ref 2), some (.int x1), some (.int 0)]) (st1 := [.ref 2]) (M1 := ((ri_M3.set 2 (.inl (.byte, (400, .inl (upd (upd (upd (fun _ => 0) 0 (vp_nar .byte ((x1 >>> (24 &&& 31))).toInt8.toInt32)) 1 (vp_nar .byte ((x1 >>> (16 &&& 31))).toInt8.toInt32)) 2 (vp_nar .byte ((x1 >>> (8 &&& 31))).toInt8.toInt32)))))).set 1 (.inr (8, [.ref 3, .int 3])))) (c1 := 0) (s1 := 0) (fun n => rfl) ?_
      refine ri_ev_gf (k := 1) rfl (ri_gs (ri_gn (by decide) ri_M3_1)) rfl ?_
      refine ri_ev_go 1 (pc1 := 27) (L1 := [some (.ref 2), some (.int x1), some (.int 0)]) (st1 := [.ref 2, .ref 3]) (M1 := ((ri_M3.set 2 (.inl (.byte, (400, .inl (upd (upd (upd (fun _ => 0) 0 (vp_nar .byte ((x1 >>> (24 &&& 31))).toInt8.toInt32)) 1 (vp_nar .byte ((x1 >>> (16 &&& 31))).toInt8.toInt32)) 2 (vp_nar .byte ((x1 >>> (8 &&& 31))).toInt8.toInt32)))))).set 1 (.inr (8, [.ref 3, .int 3])))) (c1 := 0) (s1 := 0) (fun n => rfl) ?_
      refine ri_ev_gf (k := 1) rfl (ri_gs (ri_gn (by decide) ri_M3_1)) rfl ?_
      refine ri_ev_go 4 (pc1 := 34) (L1 := [some (.ref 2), some (.int x1), some (.int 0)]) (st1 := [.int ((x1 >>> (0 &&& 31))).toInt8.toInt32, .int 3, .ref 3]) (M1 := ((ri_M3.set 2 (.inl (.byte, (400, .inl (upd (upd (upd (fun _ => 0) 0 (vp_nar .byte ((x1 >>> (24 &&& 31))).toInt8.toInt32)) 1 (vp_nar .byte ((x1 >>> (16 &&& 31))).toInt8.toInt32)) 2 (vp_nar .byte ((x1 >>> (8 &&& 31))).toInt8.toInt32)))))).set 1 (.inr (8, [.ref 3, .int 3])))) (c1 := 0) (s1 := 0) (fun n => rfl) ?_
      refine ri_ev_basd (k := 2) (q := 3) (M2 := ((ri_M3.set 2 (.inl (.byte, (400, .inl (upd (upd (upd (upd (fun _ => 0) 0 (vp_nar .byte ((x1 >>> (24 &&& 31))).toInt8.toInt32)) 1 (vp_nar .byte ((x1 >>> (16 &&& 31))).toInt8.toInt32)) 2 (vp_nar .byte ((x1 >>> (8 &&& 31))).toInt8.toInt32)) 3 (vp_nar .byte ((x1 >>> (0 &&& 31))).toInt8.toInt32)))))).set 1 (.inr (8, [.ref 3, .int 3])))) rfl (ri_gn (by decide) (ri_gs ri_M3_2)) (by decide) rfl (ri_ss (by decide) (List.set_set _)) ?_
      refine ri_ev_go 2 (pc1 := 37) (L1 := [some (.ref 2), some (.int x1), some (.int 0)]) (st1 := [.ref 2, .ref 2]) (M1 := ((ri_M3.set 2 (.inl (.byte, (400, .inl (upd (upd (upd (upd (fun _ => 0) 0 (vp_nar .byte ((x1 >>> (24 &&& 31))).toInt8.toInt32)) 1 (vp_nar .byte ((x1 >>> (16 &&& 31))).toInt8.toInt32)) 2 (vp_nar .byte ((x1 >>> (8 &&& 31))).toInt8.toInt32)) 3 (vp_nar .byte ((x1 >>> (0 &&& 31))).toInt8.toInt32)))))).set 1 (.inr (8, [.ref 3, .int 3])))) (c1 := 0) (s1 := 0) (fun n => rfl) ?_
      refine ri_ev_gf (k := 1) rfl (ri_gs (ri_gn (by decide) ri_M3_1)) rfl ?_
      refine ri_ev_go 2 (pc1 := 42) (L1 := [some (.ref 2), some (.int x1), some (.int 0)]) (st1 := [.int 4, .ref 2]) (M1 := ((ri_M3.set 2 (.inl (.byte, (400, .inl (upd (upd (upd (upd (fun _ => 0) 0 (vp_nar .byte ((x1 >>> (24 &&& 31))).toInt8.toInt32)) 1 (vp_nar .byte ((x1 >>> (16 &&& 31))).toInt8.toInt32)) 2 (vp_nar .byte ((x1 >>> (8 &&& 31))).toInt8.toInt32)) 3 (vp_nar .byte ((x1 >>> (0 &&& 31))).toInt8.toInt32)))))).set 1 (.inr (8, [.ref 3, .int 3])))) (c1 := 0) (s1 := 0) (fun n => rfl) ?_
      refine ri_ev_pf (k := 1) (gs := [.ref 3, .int 4]) (M2 := ((ri_M3.set 2 (.inl (.byte, (400, .inl (upd (upd (upd (upd (fun _ => 0) 0 (vp_nar .byte ((x1 >>> (24 &&& 31))).toInt8.toInt32)) 1 (vp_nar .byte ((x1 >>> (16 &&& 31))).toInt8.toInt32)) 2 (vp_nar .byte ((x1 >>> (8 &&& 31))).toInt8.toInt32)) 3 (vp_nar .byte ((x1 >>> (0 &&& 31))).toInt8.toInt32)))))).set 1 (.inr (8, [.ref 3, .int 4])))) rfl (ri_gs (ri_gn (by decide) ri_M3_1)) (Nat.le_of_ble_eq_true rfl) rfl rfl (List.set_set _) ?_
      refine ri_ev_go 4 (pc1 := 51) (L1 := [some (.ref 2), some (.int x1), some (.int (-8))]) (st1 := []) (M1 := ((ri_M3.set 2 (.inl (.byte, (400, .inl (upd (upd (upd (upd (fun _ => 0) 0 (vp_nar .byte ((x1 >>> (24 &&& 31))).toInt8.toInt32)) 1 (vp_nar .byte ((x1 >>> (16 &&& 31))).toInt8.toInt32)) 2 (vp_nar .byte ((x1 >>> (8 &&& 31))).toInt8.toInt32)) 3 (vp_nar .byte ((x1 >>> (0 &&& 31))).toInt8.toInt32)))))).set 1 (.inr (8, [.ref 3, .int 4])))) (c1 := 0) (s1 := 0) (fun n => rfl) ?_
      exact ri_ev_ret (fun n => rfl)
    obtain ⟨g2, hc10⟩ : ∃ g2 : Nat → Int32, ri_c 18 83 [.ref 2, .int x2] ((ri_M3.set 2 (.inl (.byte, (400, .inl (g1))))).set 1 (.inr (8, [.ref 3, .int 4]))) = some (none, ((ri_M3.set 2 (.inl (.byte, (400, .inl (g2))))).set 1 (.inr (8, [.ref 3, .int 8]))), 0, 0) := by
      have hc6 : ri_c 17 142 [.int 4, .int 400] ((ri_M3.set 2 (.inl (.byte, (400, .inl (g1))))).set 1 (.inr (8, [.ref 3, .int 4]))) = some (some (.int 0), ((ri_M3.set 2 (.inl (.byte, (400, .inl (g1))))).set 1 (.inr (8, [.ref 3, .int 4]))), 0, 0) := by
        refine ri_ev_call (N := 7) (L := [some (.int 4), some (.int 400)]) rfl (Nat.le_of_ble_eq_true rfl) ?_
        refine ri_ev_go 6 (pc1 := 14) (L1 := [some (.int 4), some (.int 400)]) (st1 := [.int 0]) (M1 := ((ri_M3.set 2 (.inl (.byte, (400, .inl (g1))))).set 1 (.inr (8, [.ref 3, .int 4])))) (c1 := 0) (s1 := 0) (fun n => rfl) ?_
        exact ri_ev_ret (fun n => rfl)
      have hc7 : ri_c 17 142 [.int 5, .int 400] ((ri_M3.set 2 (.inl (.byte, (400, .inl (upd (g1) 4 (vp_nar .byte ((x2 >>> (24 &&& 31))).toInt8.toInt32)))))).set 1 (.inr (8, [.ref 3, .int 5]))) = some (some (.int 0), ((ri_M3.set 2 (.inl (.byte, (400, .inl (upd (g1) 4 (vp_nar .byte ((x2 >>> (24 &&& 31))).toInt8.toInt32)))))).set 1 (.inr (8, [.ref 3, .int 5]))), 0, 0) := by
        refine ri_ev_call (N := 7) (L := [some (.int 5), some (.int 400)]) rfl (Nat.le_of_ble_eq_true rfl) ?_
        refine ri_ev_go 6 (pc1 := 14) (L1 := [some (.int 5), some (.int 400)]) (st1 := [.int 0]) (M1 := ((ri_M3.set 2 (.inl (.byte, (400, .inl (upd (g1) 4 (vp_nar .byte ((x2 >>> (24 &&& 31))).toInt8.toInt32)))))).set 1 (.inr (8, [.ref 3, .int 5])))) (c1 := 0) (s1 := 0) (fun n => rfl) ?_
        exact ri_ev_ret (fun n => rfl)
      have hc8 : ri_c 17 142 [.int 6, .int 400] ((ri_M3.set 2 (.inl (.byte, (400, .inl (upd (upd (g1) 4 (vp_nar .byte ((x2 >>> (24 &&& 31))).toInt8.toInt32)) 5 (vp_nar .byte ((x2 >>> (16 &&& 31))).toInt8.toInt32)))))).set 1 (.inr (8, [.ref 3, .int 6]))) = some (some (.int 0), ((ri_M3.set 2 (.inl (.byte, (400, .inl (upd (upd (g1) 4 (vp_nar .byte ((x2 >>> (24 &&& 31))).toInt8.toInt32)) 5 (vp_nar .byte ((x2 >>> (16 &&& 31))).toInt8.toInt32)))))).set 1 (.inr (8, [.ref 3, .int 6]))), 0, 0) := by
        refine ri_ev_call (N := 7) (L := [some (.int 6), some (.int 400)]) rfl (Nat.le_of_ble_eq_true rfl) ?_
        refine ri_ev_go 6 (pc1 := 14) (L1 := [some (.int 6), some (.int 400)]) (st1 := [.int 0]) (M1 := ((ri_M3.set 2 (.inl (.byte, (400, .inl (upd (upd (g1) 4 (vp_nar .byte ((x2 >>> (24 &&& 31))).toInt8.toInt32)) 5 (vp_nar .byte ((x2 >>> (16 &&& 31))).toInt8.toInt32)))))).set 1 (.inr (8, [.ref 3, .int 6])))) (c1 := 0) (s1 := 0) (fun n => rfl) ?_
        exact ri_ev_ret (fun n => rfl)
      have hc9 : ri_c 17 142 [.int 7, .int 400] ((ri_M3.set 2 (.inl (.byte, (400, .inl (upd (upd (upd (g1) 4 (vp_nar .byte ((x2 >>> (24 &&& 31))).toInt8.toInt32)) 5 (vp_nar .byte ((x2 >>> (16 &&& 31))).toInt8.toInt32)) 6 (vp_nar .byte ((x2 >>> (8 &&& 31))).toInt8.toInt32)))))).set 1 (.inr (8, [.ref 3, .int 7]))) = some (some (.int 0), ((ri_M3.set 2 (.inl (.byte, (400, .inl (upd (upd (upd (g1) 4 (vp_nar .byte ((x2 >>> (24 &&& 31))).toInt8.toInt32)) 5 (vp_nar .byte ((x2 >>> (16 &&& 31))).toInt8.toInt32)) 6 (vp_nar .byte ((x2 >>> (8 &&& 31))).toInt8.toInt32)))))).set 1 (.inr (8, [.ref 3, .int 7]))), 0, 0) := by
        refine ri_ev_call (N := 7) (L := [some (.int 7), some (.int 400)]) rfl (Nat.le_of_ble_eq_true rfl) ?_
        refine ri_ev_go 6 (pc1 := 14) (L1 := [some (.int 7), some (.int 400)]) (st1 := [.int 0]) (M1 := ((ri_M3.set 2 (.inl (.byte, (400, .inl (upd (upd (upd (g1) 4 (vp_nar .byte ((x2 >>> (24 &&& 31))).toInt8.toInt32)) 5 (vp_nar .byte ((x2 >>> (16 &&& 31))).toInt8.toInt32)) 6 (vp_nar .byte ((x2 >>> (8 &&& 31))).toInt8.toInt32)))))).set 1 (.inr (8, [.ref 3, .int 7])))) (c1 := 0) (s1 := 0) (fun n => rfl) ?_
        exact ri_ev_ret (fun n => rfl)
      refine ⟨upd (upd (upd (upd (g1) 4 (vp_nar .byte ((x2 >>> (24 &&& 31))).toInt8.toInt32)) 5 (vp_nar .byte ((x2 >>> (16 &&& 31))).toInt8.toInt32)) 6 (vp_nar .byte ((x2 >>> (8 &&& 31))).toInt8.toInt32)) 7 (vp_nar .byte ((x2 >>> (0 &&& 31))).toInt8.toInt32), ?_⟩
      refine ri_ev_call (N := 109) (L := [some (.ref 2), some (.int x2), none]) rfl (Nat.le_of_ble_eq_true rfl) ?_
      refine ri_ev_go 5 (pc1 := 8) (L1 := [some (.ref 2), some (.int x2), some (.int 24)]) (st1 := [.ref 2]) (M1 := ((ri_M3.set 2 (.inl (.byte, (400, .inl (g1))))).set 1 (.inr (8, [.ref 3, .int 4])))) (c1 := 0) (s1 := 0) (fun n => rfl) ?_
      refine ri_ev_gf (k := 1) rfl (ri_gs (ri_gn (by decide) ri_M3_1)) rfl ?_
      refine ri_ev_go 1 (pc1 := 12) (L1 := [some (.ref 2), some (.int x2), some (.int 24)]) (st1 := [.ref 2, .int 4]) (M1 := ((ri_M3.set 2 (.inl (.byte, (400, .inl (g1))))).set 1 (.inr (8, [.ref 3, .int 4])))) (c1 := 0) (s1 := 0) (fun n => rfl) ?_
      refine ri_ev_gf (k := 1) rfl (ri_gs (ri_gn (by decide) ri_M3_1)) rfl ?_
      refine ri_ev_alnd (k := 2) (w := 400) rfl (ri_gn (by decide) (ri_gs ri_M3_2)) rfl ?_
      refine ri_ev_cls (M1 := ((ri_M3.set 2 (.inl (.byte, (400, .inl (g1))))).set 1 (.inr (8, [.ref 3, .int 4])))) (v := some (.int 0)) _ rfl (Or.inr rfl) rfl (Nat.le_of_ble_eq_true rfl) hc6 ?_
      refine ri_ev_go 2 (pc1 := 23) (L1 := [some (.ref 2), some (.int x2), some (.int 24)]) (st1 := [.ref 2]) (M1 := ((ri_M3.set 2 (.inl (.byte, (400, .inl (g1))))).set 1 (.inr (8, [.ref 3, .int 4])))) (c1 := 0) (s1 := 0) (fun n => rfl) ?_
      refine ri_ev_gf (k := 1) rfl (ri_gs (ri_gn (by decide) ri_M3_1)) rfl ?_
      refine ri_ev_go 1 (pc1 := 27) (L1 := [some (.ref 2), some (.int x2), some (.int 24)]) (st1 := [.ref 2, .ref 3]) (M1 := ((ri_M3.set 2 (.inl (.byte, (400, .inl (g1))))).set 1 (.inr (8, [.ref 3, .int 4])))) (c1 := 0) (s1 := 0) (fun n => rfl) ?_
      refine ri_ev_gf (k := 1) rfl (ri_gs (ri_gn (by decide) ri_M3_1)) rfl ?_
      refine ri_ev_go 4 (pc1 := 34) (L1 := [some (.ref 2), some (.int x2), some (.int 24)]) (st1 := [.int ((x2 >>> (24 &&& 31))).toInt8.toInt32, .int 4, .ref 3]) (M1 := ((ri_M3.set 2 (.inl (.byte, (400, .inl (g1))))).set 1 (.inr (8, [.ref 3, .int 4])))) (c1 := 0) (s1 := 0) (fun n => rfl) ?_
      refine ri_ev_basd (k := 2) (q := 4) (M2 := ((ri_M3.set 2 (.inl (.byte, (400, .inl (upd (g1) 4 (vp_nar .byte ((x2 >>> (24 &&& 31))).toInt8.toInt32)))))).set 1 (.inr (8, [.ref 3, .int 4])))) rfl (ri_gn (by decide) (ri_gs ri_M3_2)) (by decide) rfl (ri_ss (by decide) (List.set_set _)) ?_
      refine ri_ev_go 2 (pc1 := 37) (L1 := [some (.ref 2), some (.int x2), some (.int 24)]) (st1 := [.ref 2, .ref 2]) (M1 := ((ri_M3.set 2 (.inl (.byte, (400, .inl (upd (g1) 4 (vp_nar .byte ((x2 >>> (24 &&& 31))).toInt8.toInt32)))))).set 1 (.inr (8, [.ref 3, .int 4])))) (c1 := 0) (s1 := 0) (fun n => rfl) ?_
      refine ri_ev_gf (k := 1) rfl (ri_gs (ri_gn (by decide) ri_M3_1)) rfl ?_
      refine ri_ev_go 2 (pc1 := 42) (L1 := [some (.ref 2), some (.int x2), some (.int 24)]) (st1 := [.int 5, .ref 2]) (M1 := ((ri_M3.set 2 (.inl (.byte, (400, .inl (upd (g1) 4 (vp_nar .byte ((x2 >>> (24 &&& 31))).toInt8.toInt32)))))).set 1 (.inr (8, [.ref 3, .int 4])))) (c1 := 0) (s1 := 0) (fun n => rfl) ?_
      refine ri_ev_pf (k := 1) (gs := [.ref 3, .int 5]) (M2 := ((ri_M3.set 2 (.inl (.byte, (400, .inl (upd (g1) 4 (vp_nar .byte ((x2 >>> (24 &&& 31))).toInt8.toInt32)))))).set 1 (.inr (8, [.ref 3, .int 5])))) rfl (ri_gs (ri_gn (by decide) ri_M3_1)) (Nat.le_of_ble_eq_true rfl) rfl rfl (List.set_set _) ?_
      refine ri_ev_go 5 (pc1 := 8) (L1 := [some (.ref 2), some (.int x2), some (.int 16)]) (st1 := [.ref 2]) (M1 := ((ri_M3.set 2 (.inl (.byte, (400, .inl (upd (g1) 4 (vp_nar .byte ((x2 >>> (24 &&& 31))).toInt8.toInt32)))))).set 1 (.inr (8, [.ref 3, .int 5])))) (c1 := 0) (s1 := 0) (fun n => rfl) ?_
      refine ri_ev_gf (k := 1) rfl (ri_gs (ri_gn (by decide) ri_M3_1)) rfl ?_
      refine ri_ev_go 1 (pc1 := 12) (L1 := [some (.ref 2), some (.int x2), some (.int 16)]) (st1 := [.ref 2, .int 5]) (M1 := ((ri_M3.set 2 (.inl (.byte, (400, .inl (upd (g1) 4 (vp_nar .byte ((x2 >>> (24 &&& 31))).toInt8.toInt32)))))).set 1 (.inr (8, [.ref 3, .int 5])))) (c1 := 0) (s1 := 0) (fun n => rfl) ?_
      refine ri_ev_gf (k := 1) rfl (ri_gs (ri_gn (by decide) ri_M3_1)) rfl ?_
      refine ri_ev_alnd (k := 2) (w := 400) rfl (ri_gn (by decide) (ri_gs ri_M3_2)) rfl ?_
      refine ri_ev_cls (M1 := ((ri_M3.set 2 (.inl (.byte, (400, .inl (upd (g1) 4 (vp_nar .byte ((x2 >>> (24 &&& 31))).toInt8.toInt32)))))).set 1 (.inr (8, [.ref 3, .int 5])))) (v := some (.int 0)) _ rfl (Or.inr rfl) rfl (Nat.le_of_ble_eq_true rfl) hc7 ?_
      refine ri_ev_go 2 (pc1 := 23) (L1 := [some (.ref 2), some (.int x2), some (.int 16)]) (st1 := [.ref 2]) (M1 := ((ri_M3.set 2 (.inl (.byte, (400, .inl (upd (g1) 4 (vp_nar .byte ((x2 >>> (24 &&& 31))).toInt8.toInt32)))))).set 1 (.inr (8, [.ref 3, .int 5])))) (c1 := 0) (s1 := 0) (fun n => rfl) ?_
      refine ri_ev_gf (k := 1) rfl (ri_gs (ri_gn (by decide) ri_M3_1)) rfl ?_
      refine ri_ev_go 1 (pc1 := 27) (L1 := [some (.ref 2), some (.int x2), some (.int 16)]) (st1 := [.ref 2, .ref 3]) (M1 := ((ri_M3.set 2 (.inl (.byte, (400, .inl (upd (g1) 4 (vp_nar .byte ((x2 >>> (24 &&& 31))).toInt8.toInt32)))))).set 1 (.inr (8, [.ref 3, .int 5])))) (c1 := 0) (s1 := 0) (fun n => rfl) ?_
      refine ri_ev_gf (k := 1) rfl (ri_gs (ri_gn (by decide) ri_M3_1)) rfl ?_
      refine ri_ev_go 4 (pc1 := 34) (L1 := [some (.ref 2), some (.int x2), some (.int 16)]) (st1 := [.int ((x2 >>> (16 &&& 31))).toInt8.toInt32, .int 5, .ref 3]) (M1 := ((ri_M3.set 2 (.inl (.byte, (400, .inl (upd (g1) 4 (vp_nar .byte ((x2 >>> (24 &&& 31))).toInt8.toInt32)))))).set 1 (.inr (8, [.ref 3, .int 5])))) (c1 := 0) (s1 := 0) (fun n => rfl) ?_
      refine ri_ev_basd (k := 2) (q := 5) (M2 := ((ri_M3.set 2 (.inl (.byte, (400, .inl (upd (upd (g1) 4 (vp_nar .byte ((x2 >>> (24 &&& 31))).toInt8.toInt32)) 5 (vp_nar .byte ((x2 >>> (16 &&& 31))).toInt8.toInt32)))))).set 1 (.inr (8, [.ref 3, .int 5])))) rfl (ri_gn (by decide) (ri_gs ri_M3_2)) (by decide) rfl (ri_ss (by decide) (List.set_set _)) ?_
      refine ri_ev_go 2 (pc1 := 37) (L1 := [some (.ref 2), some (.int x2), some (.int 16)]) (st1 := [.ref 2, .ref 2]) (M1 := ((ri_M3.set 2 (.inl (.byte, (400, .inl (upd (upd (g1) 4 (vp_nar .byte ((x2 >>> (24 &&& 31))).toInt8.toInt32)) 5 (vp_nar .byte ((x2 >>> (16 &&& 31))).toInt8.toInt32)))))).set 1 (.inr (8, [.ref 3, .int 5])))) (c1 := 0) (s1 := 0) (fun n => rfl) ?_
      refine ri_ev_gf (k := 1) rfl (ri_gs (ri_gn (by decide) ri_M3_1)) rfl ?_
      refine ri_ev_go 2 (pc1 := 42) (L1 := [some (.ref 2), some (.int x2), some (.int 16)]) (st1 := [.int 6, .ref 2]) (M1 := ((ri_M3.set 2 (.inl (.byte, (400, .inl (upd (upd (g1) 4 (vp_nar .byte ((x2 >>> (24 &&& 31))).toInt8.toInt32)) 5 (vp_nar .byte ((x2 >>> (16 &&& 31))).toInt8.toInt32)))))).set 1 (.inr (8, [.ref 3, .int 5])))) (c1 := 0) (s1 := 0) (fun n => rfl) ?_
      refine ri_ev_pf (k := 1) (gs := [.ref 3, .int 6]) (M2 := ((ri_M3.set 2 (.inl (.byte, (400, .inl (upd (upd (g1) 4 (vp_nar .byte ((x2 >>> (24 &&& 31))).toInt8.toInt32)) 5 (vp_nar .byte ((x2 >>> (16 &&& 31))).toInt8.toInt32)))))).set 1 (.inr (8, [.ref 3, .int 6])))) rfl (ri_gs (ri_gn (by decide) ri_M3_1)) (Nat.le_of_ble_eq_true rfl) rfl rfl (List.set_set _) ?_
      refine ri_ev_go 5 (pc1 := 8) (L1 := [some (.ref 2), some (.int x2), some (.int 8)]) (st1 := [.ref 2]) (M1 := ((ri_M3.set 2 (.inl (.byte, (400, .inl (upd (upd (g1) 4 (vp_nar .byte ((x2 >>> (24 &&& 31))).toInt8.toInt32)) 5 (vp_nar .byte ((x2 >>> (16 &&& 31))).toInt8.toInt32)))))).set 1 (.inr (8, [.ref 3, .int 6])))) (c1 := 0) (s1 := 0) (fun n => rfl) ?_
      refine ri_ev_gf (k := 1) rfl (ri_gs (ri_gn (by decide) ri_M3_1)) rfl ?_
      refine ri_ev_go 1 (pc1 := 12) (L1 := [some (.ref 2), some (.int x2), some (.int 8)]) (st1 := [.ref 2, .int 6]) (M1 := ((ri_M3.set 2 (.inl (.byte, (400, .inl (upd (upd (g1) 4 (vp_nar .byte ((x2 >>> (24 &&& 31))).toInt8.toInt32)) 5 (vp_nar .byte ((x2 >>> (16 &&& 31))).toInt8.toInt32)))))).set 1 (.inr (8, [.ref 3, .int 6])))) (c1 := 0) (s1 := 0) (fun n => rfl) ?_
      refine ri_ev_gf (k := 1) rfl (ri_gs (ri_gn (by decide) ri_M3_1)) rfl ?_
      refine ri_ev_alnd (k := 2) (w := 400) rfl (ri_gn (by decide) (ri_gs ri_M3_2)) rfl ?_
      refine ri_ev_cls (M1 := ((ri_M3.set 2 (.inl (.byte, (400, .inl (upd (upd (g1) 4 (vp_nar .byte ((x2 >>> (24 &&& 31))).toInt8.toInt32)) 5 (vp_nar .byte ((x2 >>> (16 &&& 31))).toInt8.toInt32)))))).set 1 (.inr (8, [.ref 3, .int 6])))) (v := some (.int 0)) _ rfl (Or.inr rfl) rfl (Nat.le_of_ble_eq_true rfl) hc8 ?_
      refine ri_ev_go 2 (pc1 := 23) (L1 := [some (.ref 2), some (.int x2), some (.int 8)]) (st1 := [.ref 2]) (M1 := ((ri_M3.set 2 (.inl (.byte, (400, .inl (upd (upd (g1) 4 (vp_nar .byte ((x2 >>> (24 &&& 31))).toInt8.toInt32)) 5 (vp_nar .byte ((x2 >>> (16 &&& 31))).toInt8.toInt32)))))).set 1 (.inr (8, [.ref 3, .int 6])))) (c1 := 0) (s1 := 0) (fun n => rfl) ?_
      refine ri_ev_gf (k := 1) rfl (ri_gs (ri_gn (by decide) ri_M3_1)) rfl ?_
      refine ri_ev_go 1 (pc1 := 27) (L1 := [some (.ref 2), some (.int x2), some (.int 8)]) (st1 := [.ref 2, .ref 3]) (M1 := ((ri_M3.set 2 (.inl (.byte, (400, .inl (upd (upd (g1) 4 (vp_nar .byte ((x2 >>> (24 &&& 31))).toInt8.toInt32)) 5 (vp_nar .byte ((x2 >>> (16 &&& 31))).toInt8.toInt32)))))).set 1 (.inr (8, [.ref 3, .int 6])))) (c1 := 0) (s1 := 0) (fun n => rfl) ?_
      refine ri_ev_gf (k := 1) rfl (ri_gs (ri_gn (by decide) ri_M3_1)) rfl ?_
      refine ri_ev_go 4 (pc1 := 34) (L1 := [some (.ref 2), some (.int x2), some (.int 8)]) (st1 := [.int ((x2 >>> (8 &&& 31))).toInt8.toInt32, .int 6, .ref 3]) (M1 := ((ri_M3.set 2 (.inl (.byte, (400, .inl (upd (upd (g1) 4 (vp_nar .byte ((x2 >>> (24 &&& 31))).toInt8.toInt32)) 5 (vp_nar .byte ((x2 >>> (16 &&& 31))).toInt8.toInt32)))))).set 1 (.inr (8, [.ref 3, .int 6])))) (c1 := 0) (s1 := 0) (fun n => rfl) ?_
      refine ri_ev_basd (k := 2) (q := 6) (M2 := ((ri_M3.set 2 (.inl (.byte, (400, .inl (upd (upd (upd (g1) 4 (vp_nar .byte ((x2 >>> (24 &&& 31))).toInt8.toInt32)) 5 (vp_nar .byte ((x2 >>> (16 &&& 31))).toInt8.toInt32)) 6 (vp_nar .byte ((x2 >>> (8 &&& 31))).toInt8.toInt32)))))).set 1 (.inr (8, [.ref 3, .int 6])))) rfl (ri_gn (by decide) (ri_gs ri_M3_2)) (by decide) rfl (ri_ss (by decide) (List.set_set _)) ?_
      refine ri_ev_go 2 (pc1 := 37) (L1 := [some (.ref 2), some (.int x2), some (.int 8)]) (st1 := [.ref 2, .ref 2]) (M1 := ((ri_M3.set 2 (.inl (.byte, (400, .inl (upd (upd (upd (g1) 4 (vp_nar .byte ((x2 >>> (24 &&& 31))).toInt8.toInt32)) 5 (vp_nar .byte ((x2 >>> (16 &&& 31))).toInt8.toInt32)) 6 (vp_nar .byte ((x2 >>> (8 &&& 31))).toInt8.toInt32)))))).set 1 (.inr (8, [.ref 3, .int 6])))) (c1 := 0) (s1 := 0) (fun n => rfl) ?_
      refine ri_ev_gf (k := 1) rfl (ri_gs (ri_gn (by decide) ri_M3_1)) rfl ?_
      refine ri_ev_go 2 (pc1 := 42) (L1 := [some (.ref 2), some (.int x2), some (.int 8)]) (st1 := [.int 7, .ref 2]) (M1 := ((ri_M3.set 2 (.inl (.byte, (400, .inl (upd (upd (upd (g1) 4 (vp_nar .byte ((x2 >>> (24 &&& 31))).toInt8.toInt32)) 5 (vp_nar .byte ((x2 >>> (16 &&& 31))).toInt8.toInt32)) 6 (vp_nar .byte ((x2 >>> (8 &&& 31))).toInt8.toInt32)))))).set 1 (.inr (8, [.ref 3, .int 6])))) (c1 := 0) (s1 := 0) (fun n => rfl) ?_
      refine ri_ev_pf (k := 1) (gs := [.ref 3, .int 7]) (M2 := ((ri_M3.set 2 (.inl (.byte, (400, .inl (upd (upd (upd (g1) 4 (vp_nar .byte ((x2 >>> (24 &&& 31))).toInt8.toInt32)) 5 (vp_nar .byte ((x2 >>> (16 &&& 31))).toInt8.toInt32)) 6 (vp_nar .byte ((x2 >>> (8 &&& 31))).toInt8.toInt32)))))).set 1 (.inr (8, [.ref 3, .int 7])))) rfl (ri_gs (ri_gn (by decide) ri_M3_1)) (Nat.le_of_ble_eq_true rfl) rfl rfl (List.set_set _) ?_
      refine ri_ev_go 5 (pc1 := 8) (L1 := [some (.ref 2), some (.int x2), some (.int 0)]) (st1 := [.ref 2]) (M1 := ((ri_M3.set 2 (.inl (.byte, (400, .inl (upd (upd (upd (g1) 4 (vp_nar .byte ((x2 >>> (24 &&& 31))).toInt8.toInt32)) 5 (vp_nar .byte ((x2 >>> (16 &&& 31))).toInt8.toInt32)) 6 (vp_nar .byte ((x2 >>> (8 &&& 31))).toInt8.toInt32)))))).set 1 (.inr (8, [.ref 3, .int 7])))) (c1 := 0) (s1 := 0) (fun n => rfl) ?_
      refine ri_ev_gf (k := 1) rfl (ri_gs (ri_gn (by decide) ri_M3_1)) rfl ?_
      refine ri_ev_go 1 (pc1 := 12) (L1 := [some (.ref 2), some (.int x2), some (.int 0)]) (st1 := [.ref 2, .int 7]) (M1 := ((ri_M3.set 2 (.inl (.byte, (400, .inl (upd (upd (upd (g1) 4 (vp_nar .byte ((x2 >>> (24 &&& 31))).toInt8.toInt32)) 5 (vp_nar .byte ((x2 >>> (16 &&& 31))).toInt8.toInt32)) 6 (vp_nar .byte ((x2 >>> (8 &&& 31))).toInt8.toInt32)))))).set 1 (.inr (8, [.ref 3, .int 7])))) (c1 := 0) (s1 := 0) (fun n => rfl) ?_
      refine ri_ev_gf (k := 1) rfl (ri_gs (ri_gn (by decide) ri_M3_1)) rfl ?_
      refine ri_ev_alnd (k := 2) (w := 400) rfl (ri_gn (by decide) (ri_gs ri_M3_2)) rfl ?_
      refine ri_ev_cls (M1 := ((ri_M3.set 2 (.inl (.byte, (400, .inl (upd (upd (upd (g1) 4 (vp_nar .byte ((x2 >>> (24 &&& 31))).toInt8.toInt32)) 5 (vp_nar .byte ((x2 >>> (16 &&& 31))).toInt8.toInt32)) 6 (vp_nar .byte ((x2 >>> (8 &&& 31))).toInt8.toInt32)))))).set 1 (.inr (8, [.ref 3, .int 7])))) (v := some (.int 0)) _ rfl (Or.inr rfl) rfl (Nat.le_of_ble_eq_true rfl) hc9 ?_
      refine ri_ev_go 2 (pc1 := 23) (L1 := [some (.ref 2), some (.int x2), some (.int 0)]) (st1 := [.ref 2]) (M1 := ((ri_M3.set 2 (.inl (.byte, (400, .inl (upd (upd (upd (g1) 4 (vp_nar .byte ((x2 >>> (24 &&& 31))).toInt8.toInt32)) 5 (vp_nar .byte ((x2 >>> (16 &&& 31))).toInt8.toInt32)) 6 (vp_nar .byte ((x2 >>> (8 &&& 31))).toInt8.toInt32)))))).set 1 (.inr (8, [.ref 3, .int 7])))) (c1 := 0) (s1 := 0) (fun n => rfl) ?_
      refine ri_ev_gf (k := 1) rfl (ri_gs (ri_gn (by decide) ri_M3_1)) rfl ?_
      refine ri_ev_go 1 (pc1 := 27) (L1 := [some (.ref 2), some (.int x2), some (.int 0)]) (st1 := [.ref 2, .ref 3]) (M1 := ((ri_M3.set 2 (.inl (.byte, (400, .inl (upd (upd (upd (g1) 4 (vp_nar .byte ((x2 >>> (24 &&& 31))).toInt8.toInt32)) 5 (vp_nar .byte ((x2 >>> (16 &&& 31))).toInt8.toInt32)) 6 (vp_nar .byte ((x2 >>> (8 &&& 31))).toInt8.toInt32)))))).set 1 (.inr (8, [.ref 3, .int 7])))) (c1 := 0) (s1 := 0) (fun n => rfl) ?_
      refine ri_ev_gf (k := 1) rfl (ri_gs (ri_gn (by decide) ri_M3_1)) rfl ?_
      refine ri_ev_go 4 (pc1 := 34) (L1 := [some (.ref 2), some (.int x2), some (.int 0)]) (st1 := [.int ((x2 >>> (0 &&& 31))).toInt8.toInt32, .int 7, .ref 3]) (M1 := ((ri_M3.set 2 (.inl (.byte, (400, .inl (upd (upd (upd (g1) 4 (vp_nar .byte ((x2 >>> (24 &&& 31))).toInt8.toInt32)) 5 (vp_nar .byte ((x2 >>> (16 &&& 31))).toInt8.toInt32)) 6 (vp_nar .byte ((x2 >>> (8 &&& 31))).toInt8.toInt32)))))).set 1 (.inr (8, [.ref 3, .int 7])))) (c1 := 0) (s1 := 0) (fun n => rfl) ?_
      refine ri_ev_basd (k := 2) (q := 7) (M2 := ((ri_M3.set 2 (.inl (.byte, (400, .inl (upd (upd (upd (upd (g1) 4 (vp_nar .byte ((x2 >>> (24 &&& 31))).toInt8.toInt32)) 5 (vp_nar .byte ((x2 >>> (16 &&& 31))).toInt8.toInt32)) 6 (vp_nar .byte ((x2 >>> (8 &&& 31))).toInt8.toInt32)) 7 (vp_nar .byte ((x2 >>> (0 &&& 31))).toInt8.toInt32)))))).set 1 (.inr (8, [.ref 3, .int 7])))) rfl (ri_gn (by decide) (ri_gs ri_M3_2)) (by decide) rfl (ri_ss (by decide) (List.set_set _)) ?_
      refine ri_ev_go 2 (pc1 := 37) (L1 := [some (.ref 2), some (.int x2), some (.int 0)]) (st1 := [.ref 2, .ref 2]) (M1 := ((ri_M3.set 2 (.inl (.byte, (400, .inl (upd (upd (upd (upd (g1) 4 (vp_nar .byte ((x2 >>> (24 &&& 31))).toInt8.toInt32)) 5 (vp_nar .byte ((x2 >>> (16 &&& 31))).toInt8.toInt32)) 6 (vp_nar .byte ((x2 >>> (8 &&& 31))).toInt8.toInt32)) 7 (vp_nar .byte ((x2 >>> (0 &&& 31))).toInt8.toInt32)))))).set 1 (.inr (8, [.ref 3, .int 7])))) (c1 := 0) (s1 := 0) (fun n => rfl) ?_
      refine ri_ev_gf (k := 1) rfl (ri_gs (ri_gn (by decide) ri_M3_1)) rfl ?_
      refine ri_ev_go 2 (pc1 := 42) (L1 := [some (.ref 2), some (.int x2), some (.int 0)]) (st1 := [.int 8, .ref 2]) (M1 := ((ri_M3.set 2 (.inl (.byte, (400, .inl (upd (upd (upd (upd (g1) 4 (vp_nar .byte ((x2 >>> (24 &&& 31))).toInt8.toInt32)) 5 (vp_nar .byte ((x2 >>> (16 &&& 31))).toInt8.toInt32)) 6 (vp_nar .byte ((x2 >>> (8 &&& 31))).toInt8.toInt32)) 7 (vp_nar .byte ((x2 >>> (0 &&& 31))).toInt8.toInt32)))))).set 1 (.inr (8, [.ref 3, .int 7])))) (c1 := 0) (s1 := 0) (fun n => rfl) ?_
      refine ri_ev_pf (k := 1) (gs := [.ref 3, .int 8]) (M2 := ((ri_M3.set 2 (.inl (.byte, (400, .inl (upd (upd (upd (upd (g1) 4 (vp_nar .byte ((x2 >>> (24 &&& 31))).toInt8.toInt32)) 5 (vp_nar .byte ((x2 >>> (16 &&& 31))).toInt8.toInt32)) 6 (vp_nar .byte ((x2 >>> (8 &&& 31))).toInt8.toInt32)) 7 (vp_nar .byte ((x2 >>> (0 &&& 31))).toInt8.toInt32)))))).set 1 (.inr (8, [.ref 3, .int 8])))) rfl (ri_gs (ri_gn (by decide) ri_M3_1)) (Nat.le_of_ble_eq_true rfl) rfl rfl (List.set_set _) ?_
      refine ri_ev_go 4 (pc1 := 51) (L1 := [some (.ref 2), some (.int x2), some (.int (-8))]) (st1 := []) (M1 := ((ri_M3.set 2 (.inl (.byte, (400, .inl (upd (upd (upd (upd (g1) 4 (vp_nar .byte ((x2 >>> (24 &&& 31))).toInt8.toInt32)) 5 (vp_nar .byte ((x2 >>> (16 &&& 31))).toInt8.toInt32)) 6 (vp_nar .byte ((x2 >>> (8 &&& 31))).toInt8.toInt32)) 7 (vp_nar .byte ((x2 >>> (0 &&& 31))).toInt8.toInt32)))))).set 1 (.inr (8, [.ref 3, .int 8])))) (c1 := 0) (s1 := 0) (fun n => rfl) ?_
      exact ri_ev_ret (fun n => rfl)
    obtain ⟨g3, hc15⟩ : ∃ g3 : Nat → Int32, ri_c 18 83 [.ref 2, .int x3] ((ri_M3.set 2 (.inl (.byte, (400, .inl (g2))))).set 1 (.inr (8, [.ref 3, .int 8]))) = some (none, ((ri_M3.set 2 (.inl (.byte, (400, .inl (g3))))).set 1 (.inr (8, [.ref 3, .int 12]))), 0, 0) := by
      have hc11 : ri_c 17 142 [.int 8, .int 400] ((ri_M3.set 2 (.inl (.byte, (400, .inl (g2))))).set 1 (.inr (8, [.ref 3, .int 8]))) = some (some (.int 0), ((ri_M3.set 2 (.inl (.byte, (400, .inl (g2))))).set 1 (.inr (8, [.ref 3, .int 8]))), 0, 0) := by
        refine ri_ev_call (N := 7) (L := [some (.int 8), some (.int 400)]) rfl (Nat.le_of_ble_eq_true rfl) ?_
        refine ri_ev_go 6 (pc1 := 14) (L1 := [some (.int 8), some (.int 400)]) (st1 := [.int 0]) (M1 := ((ri_M3.set 2 (.inl (.byte, (400, .inl (g2))))).set 1 (.inr (8, [.ref 3, .int 8])))) (c1 := 0) (s1 := 0) (fun n => rfl) ?_
        exact ri_ev_ret (fun n => rfl)
      have hc12 : ri_c 17 142 [.int 9, .int 400] ((ri_M3.set 2 (.inl (.byte, (400, .inl (upd (g2) 8 (vp_nar .byte ((x3 >>> (24 &&& 31))).toInt8.toInt32)))))).set 1 (.inr (8, [.ref 3, .int 9]))) = some (some (.int 0), ((ri_M3.set 2 (.inl (.byte, (400, .inl (upd (g2) 8 (vp_nar .byte ((x3 >>> (24 &&& 31))).toInt8.toInt32)))))).set 1 (.inr (8, [.ref 3, .int 9]))), 0, 0) := by
        refine ri_ev_call (N := 7) (L := [some (.int 9), some (.int 400)]) rfl (Nat.le_of_ble_eq_true rfl) ?_
        refine ri_ev_go 6 (pc1 := 14) (L1 := [some (.int 9), some (.int 400)]) (st1 := [.int 0]) (M1 := ((ri_M3.set 2 (.inl (.byte, (400, .inl (upd (g2) 8 (vp_nar .byte ((x3 >>> (24 &&& 31))).toInt8.toInt32)))))).set 1 (.inr (8, [.ref 3, .int 9])))) (c1 := 0) (s1 := 0) (fun n => rfl) ?_
        exact ri_ev_ret (fun n => rfl)
      have hc13 : ri_c 17 142 [.int 10, .int 400] ((ri_M3.set 2 (.inl (.byte, (400, .inl (upd (upd (g2) 8 (vp_nar .byte ((x3 >>> (24 &&& 31))).toInt8.toInt32)) 9 (vp_nar .byte ((x3 >>> (16 &&& 31))).toInt8.toInt32)))))).set 1 (.inr (8, [.ref 3, .int 10]))) = some (some (.int 0), ((ri_M3.set 2 (.inl (.byte, (400, .inl (upd (upd (g2) 8 (vp_nar .byte ((x3 >>> (24 &&& 31))).toInt8.toInt32)) 9 (vp_nar .byte ((x3 >>> (16 &&& 31))).toInt8.toInt32)))))).set 1 (.inr (8, [.ref 3, .int 10]))), 0, 0) := by
        refine ri_ev_call (N := 7) (L := [some (.int 10), some (.int 400)]) rfl (Nat.le_of_ble_eq_true rfl) ?_
        refine ri_ev_go 6 (pc1 := 14) (L1 := [some (.int 10), some (.int 400)]) (st1 := [.int 0]) (M1 := ((ri_M3.set 2 (.inl (.byte, (400, .inl (upd (upd (g2) 8 (vp_nar .byte ((x3 >>> (24 &&& 31))).toInt8.toInt32)) 9 (vp_nar .byte ((x3 >>> (16 &&& 31))).toInt8.toInt32)))))).set 1 (.inr (8, [.ref 3, .int 10])))) (c1 := 0) (s1 := 0) (fun n => rfl) ?_
        exact ri_ev_ret (fun n => rfl)
      have hc14 : ri_c 17 142 [.int 11, .int 400] ((ri_M3.set 2 (.inl (.byte, (400, .inl (upd (upd (upd (g2) 8 (vp_nar .byte ((x3 >>> (24 &&& 31))).toInt8.toInt32)) 9 (vp_nar .byte ((x3 >>> (16 &&& 31))).toInt8.toInt32)) 10 (vp_nar .byte ((x3 >>> (8 &&& 31))).toInt8.toInt32)))))).set 1 (.inr (8, [.ref 3, .int 11]))) = some (some (.int 0), ((ri_M3.set 2 (.inl (.byte, (400, .inl (upd (upd (upd (g2) 8 (vp_nar .byte ((x3 >>> (24 &&& 31))).toInt8.toInt32)) 9 (vp_nar .byte ((x3 >>> (16 &&& 31))).toInt8.toInt32)) 10 (vp_nar .byte ((x3 >>> (8 &&& 31))).toInt8.toInt32)))))).set 1 (.inr (8, [.ref 3, .int 11]))), 0, 0) := by
        refine ri_ev_call (N := 7) (L := [some (.int 11), some (.int 400)]) rfl (Nat.le_of_ble_eq_true rfl) ?_
        refine ri_ev_go 6 (pc1 := 14) (L1 := [some (.int 11), some (.int 400)]) (st1 := [.int 0]) (M1 := ((ri_M3.set 2 (.inl (.byte, (400, .inl (upd (upd (upd (g2) 8 (vp_nar .byte ((x3 >>> (24 &&& 31))).toInt8.toInt32)) 9 (vp_nar .byte ((x3 >>> (16 &&& 31))).toInt8.toInt32)) 10 (vp_nar .byte ((x3 >>> (8 &&& 31))).toInt8.toInt32)))))).set 1 (.inr (8, [.ref 3, .int 11])))) (c1 := 0) (s1 := 0) (fun n => rfl) ?_
        exact ri_ev_ret (fun n => rfl)
      refine ⟨upd (upd (upd (upd (g2) 8 (vp_nar .byte ((x3 >>> (24 &&& 31))).toInt8.toInt32)) 9 (vp_nar .byte ((x3 >>> (16 &&& 31))).toInt8.toInt32)) 10 (vp_nar .byte ((x3 >>> (8 &&& 31))).toInt8.toInt32)) 11 (vp_nar .byte ((x3 >>> (0 &&& 31))).toInt8.toInt32), ?_⟩
      refine ri_ev_call (N := 109) (L := [some (.ref 2), some (.int x3), none]) rfl (Nat.le_of_ble_eq_true rfl) ?_
      refine ri_ev_go 5 (pc1 := 8) (L1 := [some (.ref 2), some (.int x3), some (.int 24)]) (st1 := [.ref 2]) (M1 := ((ri_M3.set 2 (.inl (.byte, (400, .inl (g2))))).set 1 (.inr (8, [.ref 3, .int 8])))) (c1 := 0) (s1 := 0) (fun n => rfl) ?_
      refine ri_ev_gf (k := 1) rfl (ri_gs (ri_gn (by decide) ri_M3_1)) rfl ?_
      refine ri_ev_go 1 (pc1 := 12) (L1 := [some (.ref 2), some (.int x3), some (.int 24)]) (st1 := [.ref 2, .int 8]) (M1 := ((ri_M3.set 2 (.inl (.byte, (400, .inl (g2))))).set 1 (.inr (8, [.ref 3, .int 8])))) (c1 := 0) (s1 := 0) (fun n => rfl) ?_
      refine ri_ev_gf (k := 1) rfl (ri_gs (ri_gn (by decide) ri_M3_1)) rfl ?_
      refine ri_ev_alnd (k := 2) (w := 400) rfl (ri_gn (by decide) (ri_gs ri_M3_2)) rfl ?_
      refine ri_ev_cls (M1 := ((ri_M3.set 2 (.inl (.byte, (400, .inl (g2))))).set 1 (.inr (8, [.ref 3, .int 8])))) (v := some (.int 0)) _ rfl (Or.inr rfl) rfl (Nat.le_of_ble_eq_true rfl) hc11 ?_
      refine ri_ev_go 2 (pc1 := 23) (L1 := [some (.ref 2), some (.int x3), some (.int 24)]) (st1 := [.ref 2]) (M1 := ((ri_M3.set 2 (.inl (.byte, (400, .inl (g2))))).set 1 (.inr (8, [.ref 3, .int 8])))) (c1 := 0) (s1 := 0) (fun n => rfl) ?_
      refine ri_ev_gf (k := 1) rfl (ri_gs (ri_gn (by decide) ri_M3_1)) rfl ?_
      refine ri_ev_go 1 (pc1 := 27) (L1 := [some (.ref 2), some (.int x3), some (.int 24)]) (st1 := [.ref 2, .ref 3]) (M1 := ((ri_M3.set 2 (.inl (.byte, (400, .inl (g2))))).set 1 (.inr (8, [.ref 3, .int 8])))) (c1 := 0) (s1 := 0) (fun n => rfl) ?_
      refine ri_ev_gf (k := 1) rfl (ri_gs (ri_gn (by decide) ri_M3_1)) rfl ?_
      refine ri_ev_go 4 (pc1 := 34) (L1 := [some (.ref 2), some (.int x3), some (.int 24)]) (st1 := [.int ((x3 >>> (24 &&& 31))).toInt8.toInt32, .int 8, .ref 3]) (M1 := ((ri_M3.set 2 (.inl (.byte, (400, .inl (g2))))).set 1 (.inr (8, [.ref 3, .int 8])))) (c1 := 0) (s1 := 0) (fun n => rfl) ?_
      refine ri_ev_basd (k := 2) (q := 8) (M2 := ((ri_M3.set 2 (.inl (.byte, (400, .inl (upd (g2) 8 (vp_nar .byte ((x3 >>> (24 &&& 31))).toInt8.toInt32)))))).set 1 (.inr (8, [.ref 3, .int 8])))) rfl (ri_gn (by decide) (ri_gs ri_M3_2)) (by decide) rfl (ri_ss (by decide) (List.set_set _)) ?_
      refine ri_ev_go 2 (pc1 := 37) (L1 := [some (.ref 2), some (.int x3), some (.int 24)]) (st1 := [.ref 2, .ref 2]) (M1 := ((ri_M3.set 2 (.inl (.byte, (400, .inl (upd (g2) 8 (vp_nar .byte ((x3 >>> (24 &&& 31))).toInt8.toInt32)))))).set 1 (.inr (8, [.ref 3, .int 8])))) (c1 := 0) (s1 := 0) (fun n => rfl) ?_
      refine ri_ev_gf (k := 1) rfl (ri_gs (ri_gn (by decide) ri_M3_1)) rfl ?_
      refine ri_ev_go 2 (pc1 := 42) (L1 := [some (.ref 2), some (.int x3), some (.int 24)]) (st1 := [.int 9, .ref 2]) (M1 := ((ri_M3.set 2 (.inl (.byte, (400, .inl (upd (g2) 8 (vp_nar .byte ((x3 >>> (24 &&& 31))).toInt8.toInt32)))))).set 1 (.inr (8, [.ref 3, .int 8])))) (c1 := 0) (s1 := 0) (fun n => rfl) ?_
      refine ri_ev_pf (k := 1) (gs := [.ref 3, .int 9]) (M2 := ((ri_M3.set 2 (.inl (.byte, (400, .inl (upd (g2) 8 (vp_nar .byte ((x3 >>> (24 &&& 31))).toInt8.toInt32)))))).set 1 (.inr (8, [.ref 3, .int 9])))) rfl (ri_gs (ri_gn (by decide) ri_M3_1)) (Nat.le_of_ble_eq_true rfl) rfl rfl (List.set_set _) ?_
      refine ri_ev_go 5 (pc1 := 8) (L1 := [some (.ref 2), some (.int x3), some (.int 16)]) (st1 := [.ref 2]) (M1 := ((ri_M3.set 2 (.inl (.byte, (400, .inl (upd (g2) 8 (vp_nar .byte ((x3 >>> (24 &&& 31))).toInt8.toInt32)))))).set 1 (.inr (8, [.ref 3, .int 9])))) (c1 := 0) (s1 := 0) (fun n => rfl) ?_
      refine ri_ev_gf (k := 1) rfl (ri_gs (ri_gn (by decide) ri_M3_1)) rfl ?_
      refine ri_ev_go 1 (pc1 := 12) (L1 := [some (.ref 2), some (.int x3), some (.int 16)]) (st1 := [.ref 2, .int 9]) (M1 := ((ri_M3.set 2 (.inl (.byte, (400, .inl (upd (g2) 8 (vp_nar .byte ((x3 >>> (24 &&& 31))).toInt8.toInt32)))))).set 1 (.inr (8, [.ref 3, .int 9])))) (c1 := 0) (s1 := 0) (fun n => rfl) ?_
      refine ri_ev_gf (k := 1) rfl (ri_gs (ri_gn (by decide) ri_M3_1)) rfl ?_
      refine ri_ev_alnd (k := 2) (w := 400) rfl (ri_gn (by decide) (ri_gs ri_M3_2)) rfl ?_
      refine ri_ev_cls (M1 := ((ri_M3.set 2 (.inl (.byte, (400, .inl (upd (g2) 8 (vp_nar .byte ((x3 >>> (24 &&& 31))).toInt8.toInt32)))))).set 1 (.inr (8, [.ref 3, .int 9])))) (v := some (.int 0)) _ rfl (Or.inr rfl) rfl (Nat.le_of_ble_eq_true rfl) hc12 ?_
      refine ri_ev_go 2 (pc1 := 23) (L1 := [some (.ref 2), some (.int x3), some (.int 16)]) (st1 := [.ref 2]) (M1 := ((ri_M3.set 2 (.inl (.byte, (400, .inl (upd (g2) 8 (vp_nar .byte ((x3 >>> (24 &&& 31))).toInt8.toInt32)))))).set 1 (.inr (8, [.ref 3, .int 9])))) (c1 := 0) (s1 := 0) (fun n => rfl) ?_
      refine ri_ev_gf (k := 1) rfl (ri_gs (ri_gn (by decide) ri_M3_1)) rfl ?_
      refine ri_ev_go 1 (pc1 := 27) (L1 := [some (.ref 2), some (.int x3), some (.int 16)]) (st1 := [.ref 2, .ref 3]) (M1 := ((ri_M3.set 2 (.inl (.byte, (400, .inl (upd (g2) 8 (vp_nar .byte ((x3 >>> (24 &&& 31))).toInt8.toInt32)))))).set 1 (.inr (8, [.ref 3, .int 9])))) (c1 := 0) (s1 := 0) (fun n => rfl) ?_
      refine ri_ev_gf (k := 1) rfl (ri_gs (ri_gn (by decide) ri_M3_1)) rfl ?_
      refine ri_ev_go 4 (pc1 := 34) (L1 := [some (.ref 2), some (.int x3), some (.int 16)]) (st1 := [.int ((x3 >>> (16 &&& 31))).toInt8.toInt32, .int 9, .ref 3]) (M1 := ((ri_M3.set 2 (.inl (.byte, (400, .inl (upd (g2) 8 (vp_nar .byte ((x3 >>> (24 &&& 31))).toInt8.toInt32)))))).set 1 (.inr (8, [.ref 3, .int 9])))) (c1 := 0) (s1 := 0) (fun n => rfl) ?_
      refine ri_ev_basd (k := 2) (q := 9) (M2 := ((ri_M3.set 2 (.inl (.byte, (400, .inl (upd (upd (g2) 8 (vp_nar .byte ((x3 >>> (24 &&& 31))).toInt8.toInt32)) 9 (vp_nar .byte ((x3 >>> (16 &&& 31))).toInt8.toInt32)))))).set 1 (.inr (8, [.ref 3, .int 9])))) rfl (ri_gn (by decide) (ri_gs ri_M3_2)) (by decide) rfl (ri_ss (by decide) (List.set_set _)) ?_
      refine ri_ev_go 2 (pc1 := 37) (L1 := [some (.ref 2), some (.int x3), some (.int 16)]) (st1 := [.ref 2, .ref 2]) (M1 := ((ri_M3.set 2 (.inl (.byte, (400, .inl (upd (upd (g2) 8 (vp_nar .byte ((x3 >>> (24 &&& 31))).toInt8.toInt32)) 9 (vp_nar .byte ((x3 >>> (16 &&& 31))).toInt8.toInt32)))))).set 1 (.inr (8, [.ref 3, .int 9])))) (c1 := 0) (s1 := 0) (fun n => rfl) ?_
      refine ri_ev_gf (k := 1) rfl (ri_gs (ri_gn (by decide) ri_M3_1)) rfl ?_
      refine ri_ev_go 2 (pc1 := 42) (L1 := [some (.ref 2), some (.int x3), some (.int 16)]) (st1 := [.int 10, .ref 2]) (M1 := ((ri_M3.set 2 (.inl (.byte, (400, .inl (upd (upd (g2) 8 (vp_nar .byte ((x3 >>> (24 &&& 31))).toInt8.toInt32)) 9 (vp_nar .byte ((x3 >>> (16 &&& 31))).toInt8.toInt32)))))).set 1 (.inr (8, [.ref 3, .int 9])))) (c1 := 0) (s1 := 0) (fun n => rfl) ?_
      refine ri_ev_pf (k := 1) (gs := [.ref 3, .int 10]) (M2 := ((ri_M3.set 2 (.inl (.byte, (400, .inl (upd (upd (g2) 8 (vp_nar .byte ((x3 >>> (24 &&& 31))).toInt8.toInt32)) 9 (vp_nar .byte ((x3 >>> (16 &&& 31))).toInt8.toInt32)))))).set 1 (.inr (8, [.ref 3, .int 10])))) rfl (ri_gs (ri_gn (by decide) ri_M3_1)) (Nat.le_of_ble_eq_true rfl) rfl rfl (List.set_set _) ?_
      refine ri_ev_go 5 (pc1 := 8) (L1 := [some (.ref 2), some (.int x3), some (.int 8)]) (st1 := [.ref 2]) (M1 := ((ri_M3.set 2 (.inl (.byte, (400, .inl (upd (upd (g2) 8 (vp_nar .byte ((x3 >>> (24 &&& 31))).toInt8.toInt32)) 9 (vp_nar .byte ((x3 >>> (16 &&& 31))).toInt8.toInt32)))))).set 1 (.inr (8, [.ref 3, .int 10])))) (c1 := 0) (s1 := 0) (fun n => rfl) ?_
      refine ri_ev_gf (k := 1) rfl (ri_gs (ri_gn (by decide) ri_M3_1)) rfl ?_
      refine ri_ev_go 1 (pc1 := 12) (L1 := [some (.ref 2), some (.int x3), some (.int 8)]) (st1 := [.ref 2, .int 10]) (M1 := ((ri_M3.set 2 (.inl (.byte, (400, .inl (upd (upd (g2) 8 (vp_nar .byte ((x3 >>> (24 &&& 31))).toInt8.toInt32)) 9 (vp_nar .byte ((x3 >>> (16 &&& 31))).toInt8.toInt32)))))).set 1 (.inr (8, [.ref 3, .int 10])))) (c1 := 0) (s1 := 0) (fun n => rfl) ?_
      refine ri_ev_gf (k := 1) rfl (ri_gs (ri_gn (by decide) ri_M3_1)) rfl ?_
      refine ri_ev_alnd (k := 2) (w := 400) rfl (ri_gn (by decide) (ri_gs ri_M3_2)) rfl ?_
      refine ri_ev_cls (M1 := ((ri_M3.set 2 (.inl (.byte, (400, .inl (upd (upd (g2) 8 (vp_nar .byte ((x3 >>> (24 &&& 31))).toInt8.toInt32)) 9 (vp_nar .byte ((x3 >>> (16 &&& 31))).toInt8.toInt32)))))).set 1 (.inr (8, [.ref 3, .int 10])))) (v := some (.int 0)) _ rfl (Or.inr rfl) rfl (Nat.le_of_ble_eq_true rfl) hc13 ?_
      refine ri_ev_go 2 (pc1 := 23) (L1 := [some (.ref 2), some (.int x3), some (.int 8)]) (st1 := [.ref 2]) (M1 := ((ri_M3.set 2 (.inl (.byte, (400, .inl (upd (upd (g2) 8 (vp_nar .byte ((x3 >>> (24 &&& 31))).toInt8.toInt32)) 9 (vp_nar .byte ((x3 >>> (16 &&& 31))).toInt8.toInt32)))))).set 1 (.inr (8, [.ref 3, .int 10])))) (c1 := 0) (s1 := 0) (fun n => rfl) ?_
      refine ri_ev_gf (k := 1) rfl (ri_gs (ri_gn (by decide) ri_M3_1)) rfl ?_
      refine ri_ev_go 1 (pc1 := 27) (L1 := [some (.ref 2), some (.int x3), some (.int 8)]) (st1 := [.ref 2, .ref 3]) (M1 := ((ri_M3.set 2 (.inl (.byte, (400, .inl (upd (upd (g2) 8 (vp_nar .byte ((x3 >>> (24 &&& 31))).toInt8.toInt32)) 9 (vp_nar .byte ((x3 >>> (16 &&& 31))).toInt8.toInt32)))))).set 1 (.inr (8, [.ref 3, .int 10])))) (c1 := 0) (s1 := 0) (fun n => rfl) ?_
      refine ri_ev_gf (k := 1) rfl (ri_gs (ri_gn (by decide) ri_M3_1)) rfl ?_
      refine ri_ev_go 4 (pc1 := 34) (L1 := [some (.ref 2), some (.int x3), some (.int 8)]) (st1 := [.int ((x3 >>> (8 &&& 31))).toInt8.toInt32, .int 10, .ref 3]) (M1 := ((ri_M3.set 2 (.inl (.byte, (400, .inl (upd (upd (g2) 8 (vp_nar .byte ((x3 >>> (24 &&& 31))).toInt8.toInt32)) 9 (vp_nar .byte ((x3 >>> (16 &&& 31))).toInt8.toInt32)))))).set 1 (.inr (8, [.ref 3, .int 10])))) (c1 := 0) (s1 := 0) (fun n => rfl) ?_
      refine ri_ev_basd (k := 2) (q := 10) (M2 := ((ri_M3.set 2 (.inl (.byte, (400, .inl (upd (upd (upd (g2) 8 (vp_nar .byte ((x3 >>> (24 &&& 31))).toInt8.toInt32)) 9 (vp_nar .byte ((x3 >>> (16 &&& 31))).toInt8.toInt32)) 10 (vp_nar .byte ((x3 >>> (8 &&& 31))).toInt8.toInt32)))))).set 1 (.inr (8, [.ref 3, .int 10])))) rfl (ri_gn (by decide) (ri_gs ri_M3_2)) (by decide) rfl (ri_ss (by decide) (List.set_set _)) ?_
      refine ri_ev_go 2 (pc1 := 37) (L1 := [some (.ref 2), some (.int x3), some (.int 8)]) (st1 := [.ref 2, .ref 2]) (M1 := ((ri_M3.set 2 (.inl (.byte, (400, .inl (upd (upd (upd (g2) 8 (vp_nar .byte ((x3 >>> (24 &&& 31))).toInt8.toInt32)) 9 (vp_nar .byte ((x3 >>> (16 &&& 31))).toInt8.toInt32)) 10 (vp_nar .byte ((x3 >>> (8 &&& 31))).toInt8.toInt32)))))).set 1 (.inr (8, [.ref 3, .int 10])))) (c1 := 0) (s1 := 0) (fun n => rfl) ?_
      refine ri_ev_gf (k := 1) rfl (ri_gs (ri_gn (by decide) ri_M3_1)) rfl ?_
      refine ri_ev_go 2 (pc1 := 42) (L1 := [some (.ref 2), some (.int x3), some (.int 8)]) (st1 := [.int 11, .ref 2]) (M1 := ((ri_M3.set 2 (.inl (.byte, (400, .inl (upd (upd (upd (g2) 8 (vp_nar .byte ((x3 >>> (24 &&& 31))).toInt8.toInt32)) 9 (vp_nar .byte ((x3 >>> (16 &&& 31))).toInt8.toInt32)) 10 (vp_nar .byte ((x3 >>> (8 &&& 31))).toInt8.toInt32)))))).set 1 (.inr (8, [.ref 3, .int 10])))) (c1 := 0) (s1 := 0) (fun n => rfl) ?_
      refine ri_ev_pf (k := 1) (gs := [.ref 3, .int 11]) (M2 := ((ri_M3.set 2 (.inl (.byte, (400, .inl (upd (upd (upd (g2) 8 (vp_nar .byte ((x3 >>> (24 &&& 31))).toInt8.toInt32)) 9 (vp_nar .byte ((x3 >>> (16 &&& 31))).toInt8.toInt32)) 10 (vp_nar .byte ((x3 >>> (8 &&& 31))).toInt8.toInt32)))))).set 1 (.inr (8, [.ref 3, .int 11])))) rfl (ri_gs (ri_gn (by decide) ri_M3_1)) (Nat.le_of_ble_eq_true rfl) rfl rfl (List.set_set _) ?_
      refine ri_ev_go 5 (pc1 := 8) (L1 := [some (.ref 2), some (.int x3), some (.int 0)]) (st1 := [.ref 2]) (M1 := ((ri_M3.set 2 (.inl (.byte, (400, .inl (upd (upd (upd (g2) 8 (vp_nar .byte ((x3 >>> (24 &&& 31))).toInt8.toInt32)) 9 (vp_nar .byte ((x3 >>> (16 &&& 31))).toInt8.toInt32)) 10 (vp_nar .byte ((x3 >>> (8 &&& 31))).toInt8.toInt32)))))).set 1 (.inr (8, [.ref 3, .int 11])))) (c1 := 0) (s1 := 0) (fun n => rfl) ?_
      refine ri_ev_gf (k := 1) rfl (ri_gs (ri_gn (by decide) ri_M3_1)) rfl ?_
      refine ri_ev_go 1 (pc1 := 12) (L1 := [some (.ref 2), some (.int x3), some (.int 0)]) (st1 := [.ref 2, .int 11]) (M1 := ((ri_M3.set 2 (.inl (.byte, (400, .inl (upd (upd (upd (g2) 8 (vp_nar .byte ((x3 >>> (24 &&& 31))).toInt8.toInt32)) 9 (vp_nar .byte ((x3 >>> (16 &&& 31))).toInt8.toInt32)) 10 (vp_nar .byte ((x3 >>> (8 &&& 31))).toInt8.toInt32)))))).set 1 (.inr (8, [.ref 3, .int 11])))) (c1 := 0) (s1 := 0) (fun n => rfl) ?_
      refine ri_ev_gf (k := 1) rfl (ri_gs (ri_gn (by decide) ri_M3_1)) rfl ?_
      refine ri_ev_alnd (k := 2) (w := 400) rfl (ri_gn (by decide) (ri_gs ri_M3_2)) rfl ?_
      refine ri_ev_cls (M1 := ((ri_M3.set 2 (.inl (.byte, (400, .inl (upd (upd (upd (g2) 8 (vp_nar .byte ((x3 >>> (24 &&& 31))).toInt8.toInt32)) 9 (vp_nar .byte ((x3 >>> (16 &&& 31))).toInt8.toInt32)) 10 (vp_nar .byte ((x3 >>> (8 &&& 31))).toInt8.toInt32)))))).set 1 (.inr (8, [.ref 3, .int 11])))) (v := some (.int 0)) _ rfl (Or.inr rfl) rfl (Nat.le_of_ble_eq_true rfl) hc14 ?_
      refine ri_ev_go 2 (pc1 := 23) (L1 := [some (.ref 2), some (.int x3), some (.int 0)]) (st1 := [.ref 2]) (M1 := ((ri_M3.set 2 (.inl (.byte, (400, .inl (upd (upd (upd (g2) 8 (vp_nar .byte ((x3 >>> (24 &&& 31))).toInt8.toInt32)) 9 (vp_nar .byte ((x3 >>> (16 &&& 31))).toInt8.toInt32)) 10 (vp_nar .byte ((x3 >>> (8 &&& 31))).toInt8.toInt32)))))).set 1 (.inr (8, [.ref 3, .int 11])))) (c1 := 0) (s1 := 0) (fun n => rfl) ?_
      refine ri_ev_gf (k := 1) rfl (ri_gs (ri_gn (by decide) ri_M3_1)) rfl ?_
      refine ri_ev_go 1 (pc1 := 27) (L1 := [some (.ref 2), some (.int x3), some (.int 0)]) (st1 := [.ref 2, .ref 3]) (M1 := ((ri_M3.set 2 (.inl (.byte, (400, .inl (upd (upd (upd (g2) 8 (vp_nar .byte ((x3 >>> (24 &&& 31))).toInt8.toInt32)) 9 (vp_nar .byte ((x3 >>> (16 &&& 31))).toInt8.toInt32)) 10 (vp_nar .byte ((x3 >>> (8 &&& 31))).toInt8.toInt32)))))).set 1 (.inr (8, [.ref 3, .int 11])))) (c1 := 0) (s1 := 0) (fun n => rfl) ?_
      refine ri_ev_gf (k := 1) rfl (ri_gs (ri_gn (by decide) ri_M3_1)) rfl ?_
      refine ri_ev_go 4 (pc1 := 34) (L1 := [some (.ref 2), some (.int x3), some (.int 0)]) (st1 := [.int ((x3 >>> (0 &&& 31))).toInt8.toInt32, .int 11, .ref 3]) (M1 := ((ri_M3.set 2 (.inl (.byte, (400, .inl (upd (upd (upd (g2) 8 (vp_nar .byte ((x3 >>> (24 &&& 31))).toInt8.toInt32)) 9 (vp_nar .byte ((x3 >>> (16 &&& 31))).toInt8.toInt32)) 10 (vp_nar .byte ((x3 >>> (8 &&& 31))).toInt8.toInt32)))))).set 1 (.inr (8, [.ref 3, .int 11])))) (c1 := 0) (s1 := 0) (fun n => rfl) ?_
      refine ri_ev_basd (k := 2) (q := 11) (M2 := ((ri_M3.set 2 (.inl (.byte, (400, .inl (upd (upd (upd (upd (g2) 8 (vp_nar .byte ((x3 >>> (24 &&& 31))).toInt8.toInt32)) 9 (vp_nar .byte ((x3 >>> (16 &&& 31))).toInt8.toInt32)) 10 (vp_nar .byte ((x3 >>> (8 &&& 31))).toInt8.toInt32)) 11 (vp_nar .byte ((x3 >>> (0 &&& 31))).toInt8.toInt32)))))).set 1 (.inr (8, [.ref 3, .int 11])))) rfl (ri_gn (by decide) (ri_gs ri_M3_2)) (by decide) rfl (ri_ss (by decide) (List.set_set _)) ?_
      refine ri_ev_go 2 (pc1 := 37) (L1 := [some (.ref 2), some (.int x3), some (.int 0)]) (st1 := [.ref 2, .ref 2]) (M1 := ((ri_M3.set 2 (.inl (.byte, (400, .inl (upd (upd (upd (upd (g2) 8 (vp_nar .byte ((x3 >>> (24 &&& 31))).toInt8.toInt32)) 9 (vp_nar .byte ((x3 >>> (16 &&& 31))).toInt8.toInt32)) 10 (vp_nar .byte ((x3 >>> (8 &&& 31))).toInt8.toInt32)) 11 (vp_nar .byte ((x3 >>> (0 &&& 31))).toInt8.toInt32)))))).set 1 (.inr (8, [.ref 3, .int 11])))) (c1 := 0) (s1 := 0) (fun n => rfl) ?_
      refine ri_ev_gf (k := 1) rfl (ri_gs (ri_gn (by decide) ri_M3_1)) rfl ?_
      refine ri_ev_go 2 (pc1 := 42) (L1 := [some (.ref 2), some (.int x3), some (.int 0)]) (st1 := [.int 12, .ref 2]) (M1 := ((ri_M3.set 2 (.inl (.byte, (400, .inl (upd (upd (upd (upd (g2) 8 (vp_nar .byte ((x3 >>> (24 &&& 31))).toInt8.toInt32)) 9 (vp_nar .byte ((x3 >>> (16 &&& 31))).toInt8.toInt32)) 10 (vp_nar .byte ((x3 >>> (8 &&& 31))).toInt8.toInt32)) 11 (vp_nar .byte ((x3 >>> (0 &&& 31))).toInt8.toInt32)))))).set 1 (.inr (8, [.ref 3, .int 11])))) (c1 := 0) (s1 := 0) (fun n => rfl) ?_
      refine ri_ev_pf (k := 1) (gs := [.ref 3, .int 12]) (M2 := ((ri_M3.set 2 (.inl (.byte, (400, .inl (upd (upd (upd (upd (g2) 8 (vp_nar .byte ((x3 >>> (24 &&& 31))).toInt8.toInt32)) 9 (vp_nar .byte ((x3 >>> (16 &&& 31))).toInt8.toInt32)) 10 (vp_nar .byte ((x3 >>> (8 &&& 31))).toInt8.toInt32)) 11 (vp_nar .byte ((x3 >>> (0 &&& 31))).toInt8.toInt32)))))).set 1 (.inr (8, [.ref 3, .int 12])))) rfl (ri_gs (ri_gn (by decide) ri_M3_1)) (Nat.le_of_ble_eq_true rfl) rfl rfl (List.set_set _) ?_
      refine ri_ev_go 4 (pc1 := 51) (L1 := [some (.ref 2), some (.int x3), some (.int (-8))]) (st1 := []) (M1 := ((ri_M3.set 2 (.inl (.byte, (400, .inl (upd (upd (upd (upd (g2) 8 (vp_nar .byte ((x3 >>> (24 &&& 31))).toInt8.toInt32)) 9 (vp_nar .byte ((x3 >>> (16 &&& 31))).toInt8.toInt32)) 10 (vp_nar .byte ((x3 >>> (8 &&& 31))).toInt8.toInt32)) 11 (vp_nar .byte ((x3 >>> (0 &&& 31))).toInt8.toInt32)))))).set 1 (.inr (8, [.ref 3, .int 12])))) (c1 := 0) (s1 := 0) (fun n => rfl) ?_
      exact ri_ev_ret (fun n => rfl)
    obtain ⟨g4, hc20⟩ : ∃ g4 : Nat → Int32, ri_c 18 83 [.ref 2, .int x4] ((ri_M3.set 2 (.inl (.byte, (400, .inl (g3))))).set 1 (.inr (8, [.ref 3, .int 12]))) = some (none, ((ri_M3.set 2 (.inl (.byte, (400, .inl (g4))))).set 1 (.inr (8, [.ref 3, .int 16]))), 0, 0) := by
      have hc16 : ri_c 17 142 [.int 12, .int 400] ((ri_M3.set 2 (.inl (.byte, (400, .inl (g3))))).set 1 (.inr (8, [.ref 3, .int 12]))) = some (some (.int 0), ((ri_M3.set 2 (.inl (.byte, (400, .inl (g3))))).set 1 (.inr (8, [.ref 3, .int 12]))), 0, 0) := by
        refine ri_ev_call (N := 7) (L := [some (.int 12), some (.int 400)]) rfl (Nat.le_of_ble_eq_true rfl) ?_
        refine ri_ev_go 6 (pc1 := 14) (L1 := [some (.int 12), some (.int 400)]) (st1 := [.int 0]) (M1 := ((ri_M3.set 2 (.inl (.byte, (400, .inl (g3))))).set 1 (.inr (8, [.ref 3, .int 12])))) (c1 := 0) (s1 := 0) (fun n => rfl) ?_
        exact ri_ev_ret (fun n => rfl)
      have hc17 : ri_c 17 142 [.int 13, .int 400] ((ri_M3.set 2 (.inl (.byte, (400, .inl (upd (g3) 12 (vp_nar .byte ((x4 >>> (24 &&& 31))).toInt8.toInt32)))))).set 1 (.inr (8, [.ref 3, .int 13]))) = some (some (.int 0), ((ri_M3.set 2 (.inl (.byte, (400, .inl (upd (g3) 12 (vp_nar .byte ((x4 >>> (24 &&& 31))).toInt8.toInt32)))))).set 1 (.inr (8, [.ref 3, .int 13]))), 0, 0) := by
        refine ri_ev_call (N := 7) (L := [some (.int 13), some (.int 400)]) rfl (Nat.le_of_ble_eq_true rfl) ?_
        refine ri_ev_go 6 (pc1 := 14) (L1 := [some (.int 13), some (.int 400)]) (st1 := [.int 0]) (M1 := ((ri_M3.set 2 (.inl (.byte, (400, .inl (upd (g3) 12 (vp_nar .byte ((x4 >>> (24 &&& 31))).toInt8.toInt32)))))).set 1 (.inr (8, [.ref 3, .int 13])))) (c1 := 0) (s1 := 0) (fun n => rfl) ?_
        exact ri_ev_ret (fun n => rfl)
      have hc18 : ri_c 17 142 [.int 14, .int 400] ((ri_M3.set 2 (.inl (.byte, (400, .inl (upd (upd (g3) 12 (vp_nar .byte ((x4 >>> (24 &&& 31))).toInt8.toInt32)) 13 (vp_nar .byte ((x4 >>> (16 &&& 31))).toInt8.toInt32)))))).set 1 (.inr (8, [.ref 3, .int 14]))) = some (some (.int 0), ((ri_M3.set 2 (.inl (.byte, (400, .inl (upd (upd (g3) 12 (vp_nar .byte ((x4 >>> (24 &&& 31))).toInt8.toInt32)) 13 (vp_nar .byte ((x4 >>> (16 &&& 31))).toInt8.toInt32)))))).set 1 (.inr (8, [.ref 3, .int 14]))), 0, 0) := by
        refine ri_ev_call (N := 7) (L := [some (.int 14), some (.int 400)]) rfl (Nat.le_of_ble_eq_true rfl) ?_
        refine ri_ev_go 6 (pc1 := 14) (L1 := [some (.int 14), some (.int 400)]) (st1 := [.int 0]) (M1 := ((ri_M3.set 2 (.inl (.byte, (400, .inl (upd (upd (g3) 12 (vp_nar .byte ((x4 >>> (24 &&& 31))).toInt8.toInt32)) 13 (vp_nar .byte ((x4 >>> (16 &&& 31))).toInt8.toInt32)))))).set 1 (.inr (8, [.ref 3, .int 14])))) (c1 := 0) (s1 := 0) (fun n => rfl) ?_
        exact ri_ev_ret (fun n => rfl)
      have hc19 : ri_c 17 142 [.int 15, .int 400] ((ri_M3.set 2 (.inl (.byte, (400, .inl (upd (upd (upd (g3) 12 (vp_nar .byte ((x4 >>> (24 &&& 31))).toInt8.toInt32)) 13 (vp_nar .byte ((x4 >>> (16 &&& 31))).toInt8.toInt32)) 14 (vp_nar .byte ((x4 >>> (8 &&& 31))).toInt8.toInt32)))))).set 1 (.inr (8, [.ref 3, .int 15]))) = some (some (.int 0), ((ri_M3.set 2 (.inl (.byte, (400, .inl (upd (upd (upd (g3) 12 (vp_nar .byte ((x4 >>> (24 &&& 31))).toInt8.toInt32)) 13 (vp_nar .byte ((x4 >>> (16 &&& 31))).toInt8.toInt32)) 14 (vp_nar .byte ((x4 >>> (8 &&& 31))).toInt8.toInt32)))))).set 1 (.inr (8, [.ref 3, .int 15]))), 0, 0) := by
        refine ri_ev_call (N := 7) (L := [some (.int 15), some (.int 400)]) rfl (Nat.le_of_ble_eq_true rfl) ?_
        refine ri_ev_go 6 (pc1 := 14) (L1 := [some (.int 15), some (.int 400)]) (st1 := [.int 0]) (M1 := ((ri_M3.set 2 (.inl (.byte, (400, .inl (upd (upd (upd (g3) 12 (vp_nar .byte ((x4 >>> (24 &&& 31))).toInt8.toInt32)) 13 (vp_nar .byte ((x4 >>> (16 &&& 31))).toInt8.toInt32)) 14 (vp_nar .byte ((x4 >>> (8 &&& 31))).toInt8.toInt32)))))).set 1 (.inr (8, [.ref 3, .int 15])))) (c1 := 0) (s1 := 0) (fun n => rfl) ?_
        exact ri_ev_ret (fun n => rfl)
      refine ⟨upd (upd (upd (upd (g3) 12 (vp_nar .byte ((x4 >>> (24 &&& 31))).toInt8.toInt32)) 13 (vp_nar .byte ((x4 >>> (16 &&& 31))).toInt8.toInt32)) 14 (vp_nar .byte ((x4 >>> (8 &&& 31))).toInt8.toInt32)) 15 (vp_nar .byte ((x4 >>> (0 &&& 31))).toInt8.toInt32), ?_⟩
      refine ri_ev_call (N := 109) (L := [some (.ref 2), some (.int x4), none]) rfl (Nat.le_of_ble_eq_true rfl) ?_
      refine ri_ev_go 5 (pc1 := 8) (L1 := [some (.ref 2), some (.int x4), some (.int 24)]) (st1 := [.ref 2]) (M1 := ((ri_M3.set 2 (.inl (.byte, (400, .inl (g3))))).set 1 (.inr (8, [.ref 3, .int 12])))) (c1 := 0) (s1 := 0) (fun n => rfl) ?_
      refine ri_ev_gf (k := 1) rfl (ri_gs (ri_gn (by decide) ri_M3_1)) rfl ?_
      refine ri_ev_go 1 (pc1 := 12) (L1 := [some (.ref 2), some (.int x4), some (.int 24)]) (st1 := [.ref 2, .int 12]) (M1 := ((ri_M3.set 2 (.inl (.byte, (400, .inl (g3))))).set 1 (.inr (8, [.ref 3, .int 12])))) (c1 := 0) (s1 := 0) (fun n => rfl) ?_
      refine ri_ev_gf (k := 1) rfl (ri_gs (ri_gn (by decide) ri_M3_1)) rfl ?_
      refine ri_ev_alnd (k := 2) (w := 400) rfl (ri_gn (by decide) (ri_gs ri_M3_2)) rfl ?_
      refine ri_ev_cls (M1 := ((ri_M3.set 2 (.inl (.byte, (400, .inl (g3))))).set 1 (.inr (8, [.ref 3, .int 12])))) (v := some (.int 0)) _ rfl (Or.inr rfl) rfl (Nat.le_of_ble_eq_true rfl) hc16 ?_
      refine ri_ev_go 2 (pc1 := 23) (L1 := [some (.ref 2), some (.int x4), some (.int 24)]) (st1 := [.ref 2]) (M1 := ((ri_M3.set 2 (.inl (.byte, (400, .inl (g3))))).set 1 (.inr (8, [.ref 3, .int 12])))) (c1 := 0) (s1 := 0) (fun n => rfl) ?_
      refine ri_ev_gf (k := 1) rfl (ri_gs (ri_gn (by decide) ri_M3_1)) rfl ?_
      refine ri_ev_go 1 (pc1 := 27) (L1 := [some (.ref 2), some (.int x4), some (.int 24)]) (st1 := [.ref 2, .ref 3]) (M1 := ((ri_M3.set 2 (.inl (.byte, (400, .inl (g3))))).set 1 (.inr (8, [.ref 3, .int 12])))) (c1 := 0) (s1 := 0) (fun n => rfl) ?_
      refine ri_ev_gf (k := 1) rfl (ri_gs (ri_gn (by decide) ri_M3_1)) rfl ?_
      refine ri_ev_go 4 (pc1 := 34) (L1 := [some (.ref 2), some (.int x4), some (.int 24)]) (st1 := [.int ((x4 >>> (24 &&& 31))).toInt8.toInt32, .int 12, .ref 3]) (M1 := ((ri_M3.set 2 (.inl (.byte, (400, .inl (g3))))).set 1 (.inr (8, [.ref 3, .int 12])))) (c1 := 0) (s1 := 0) (fun n => rfl) ?_
      refine ri_ev_basd (k := 2) (q := 12) (M2 := ((ri_M3.set 2 (.inl (.byte, (400, .inl (upd (g3) 12 (vp_nar .byte ((x4 >>> (24 &&& 31))).toInt8.toInt32)))))).set 1 (.inr (8, [.ref 3, .int 12])))) rfl (ri_gn (by decide) (ri_gs ri_M3_2)) (by decide) rfl (ri_ss (by decide) (List.set_set _)) ?_
      refine ri_ev_go 2 (pc1 := 37) (L1 := [some (.ref 2), some (.int x4), some (.int 24)]) (st1 := [.ref 2, .ref 2]) (M1 := ((ri_M3.set 2 (.inl (.byte, (400, .inl (upd (g3) 12 (vp_nar .byte ((x4 >>> (24 &&& 31))).toInt8.toInt32)))))).set 1 (.inr (8, [.ref 3, .int 12])))) (c1 := 0) (s1 := 0) (fun n => rfl) ?_
      refine ri_ev_gf (k := 1) rfl (ri_gs (ri_gn (by decide) ri_M3_1)) rfl ?_
      refine ri_ev_go 2 (pc1 := 42) (L1 := [some (.ref 2), some (.int x4), some (.int 24)]) (st1 := [.int 13, .ref 2]) (M1 := ((ri_M3.set 2 (.inl (.byte, (400, .inl (upd (g3) 12 (vp_nar .byte ((x4 >>> (24 &&& 31))).toInt8.toInt32)))))).set 1 (.inr (8, [.ref 3, .int 12])))) (c1 := 0) (s1 := 0) (fun n => rfl) ?_
      refine ri_ev_pf (k := 1) (gs := [.ref 3, .int 13]) (M2 := ((ri_M3.set 2 (.inl (.byte, (400, .inl (upd (g3) 12 (vp_nar .byte ((x4 >>> (24 &&& 31))).toInt8.toInt32)))))).set 1 (.inr (8, [.ref 3, .int 13])))) rfl (ri_gs (ri_gn (by decide) ri_M3_1)) (Nat.le_of_ble_eq_true rfl) rfl rfl (List.set_set _) ?_
      refine ri_ev_go 5 (pc1 := 8) (L1 := [some (.ref 2), some (.int x4), some (.int 16)]) (st1 := [.ref 2]) (M1 := ((ri_M3.set 2 (.inl (.byte, (400, .inl (upd (g3) 12 (vp_nar .byte ((x4 >>> (24 &&& 31))).toInt8.toInt32)))))).set 1 (.inr (8, [.ref 3, .int 13])))) (c1 := 0) (s1 := 0) (fun n => rfl) ?_
      refine ri_ev_gf (k := 1) rfl (ri_gs (ri_gn (by decide) ri_M3_1)) rfl ?_
      refine ri_ev_go 1 (pc1 := 12) (L1 := [some (.ref 2), some (.int x4), some (.int 16)]) (st1 := [.ref 2, .int 13]) (M1 := ((ri_M3.set 2 (.inl (.byte, (400, .inl (upd (g3) 12 (vp_nar .byte ((x4 >>> (24 &&& 31))).toInt8.toInt32)))))).set 1 (.inr (8, [.ref 3, .int 13])))) (c1 := 0) (s1 := 0) (fun n => rfl) ?_
      refine ri_ev_gf (k := 1) rfl (ri_gs (ri_gn (by decide) ri_M3_1)) rfl ?_
      refine ri_ev_alnd (k := 2) (w := 400) rfl (ri_gn (by decide) (ri_gs ri_M3_2)) rfl ?_
      refine ri_ev_cls (M1 := ((ri_M3.set 2 (.inl (.byte, (400, .inl (upd (g3) 12 (vp_nar .byte ((x4 >>> (24 &&& 31))).toInt8.toInt32)))))).set 1 (.inr (8, [.ref 3, .int 13])))) (v := some (.int 0)) _ rfl (Or.inr rfl) rfl (Nat.le_of_ble_eq_true rfl) hc17 ?_
      refine ri_ev_go 2 (pc1 := 23) (L1 := [some (.ref 2), some (.int x4), some (.int 16)]) (st1 := [.ref 2]) (M1 := ((ri_M3.set 2 (.inl (.byte, (400, .inl (upd (g3) 12 (vp_nar .byte ((x4 >>> (24 &&& 31))).toInt8.toInt32)))))).set 1 (.inr (8, [.ref 3, .int 13])))) (c1 := 0) (s1 := 0) (fun n => rfl) ?_
      refine ri_ev_gf (k := 1) rfl (ri_gs (ri_gn (by decide) ri_M3_1)) rfl ?_
      refine ri_ev_go 1 (pc1 := 27) (L1 := [some (.ref 2), some (.int x4), some (.int 16)]) (st1 := [.ref 2, .ref 3]) (M1 := ((ri_M3.set 2 (.inl (.byte, (400, .inl (upd (g3) 12 (vp_nar .byte ((x4 >>> (24 &&& 31))).toInt8.toInt32)))))).set 1 (.inr (8, [.ref 3, .int 13])))) (c1 := 0) (s1 := 0) (fun n => rfl) ?_
      refine ri_ev_gf (k := 1) rfl (ri_gs (ri_gn (by decide) ri_M3_1)) rfl ?_
      refine ri_ev_go 4 (pc1 := 34) (L1 := [some (.ref 2), some (.int x4), some (.int 16)]) (st1 := [.int ((x4 >>> (16 &&& 31))).toInt8.toInt32, .int 13, .ref 3]) (M1 := ((ri_M3.set 2 (.inl (.byte, (400, .inl (upd (g3) 12 (vp_nar .byte ((x4 >>> (24 &&& 31))).toInt8.toInt32)))))).set 1 (.inr (8, [.ref 3, .int 13])))) (c1 := 0) (s1 := 0) (fun n => rfl) ?_
      refine ri_ev_basd (k := 2) (q := 13) (M2 := ((ri_M3.set 2 (.inl (.byte, (400, .inl (upd (upd (g3) 12 (vp_nar .byte ((x4 >>> (24 &&& 31))).toInt8.toInt32)) 13 (vp_nar .byte ((x4 >>> (16 &&& 31))).toInt8.toInt32)))))).set 1 (.inr (8, [.ref 3, .int 13])))) rfl (ri_gn (by decide) (ri_gs ri_M3_2)) (by decide) rfl (ri_ss (by decide) (List.set_set _)) ?_
      refine ri_ev_go 2 (pc1 := 37) (L1 := [some (.ref 2), some (.int x4), some (.int 16)]) (st1 := [.ref 2, .ref 2]) (M1 := ((ri_M3.set 2 (.inl (.byte, (400, .inl (upd (upd (g3) 12 (vp_nar .byte ((x4 >>> (24 &&& 31))).toInt8.toInt32)) 13 (vp_nar .byte ((x4 >>> (16 &&& 31))).toInt8.toInt32)))))).set 1 (.inr (8, [.ref 3, .int 13])))) (c1 := 0) (s1 := 0) (fun n => rfl) ?_
      refine ri_ev_gf (k := 1) rfl (ri_gs (ri_gn (by decide) ri_M3_1)) rfl ?_
      refine ri_ev_go 2 (pc1 := 42) (L1 := [some (.ref 2), some (.int x4), some (.int 16)]) (st1 := [.int 14, .ref 2]) (M1 := ((ri_M3.set 2 (.inl (.byte, (400, .inl (upd (upd (g3) 12 (vp_nar .byte ((x4 >>> (24 &&& 31))).toInt8.toInt32)) 13 (vp_nar .byte ((x4 >>> (16 &&& 31))).toInt8.toInt32)))))).set 1 (.inr (8, [.ref 3, .int 13])))) (c1 := 0) (s1 := 0) (fun n => rfl) ?_
      refine ri_ev_pf (k := 1) (gs := [.ref 3, .int 14]) (M2 := ((ri_M3.set 2 (.inl (.byte, (400, .inl (upd (upd (g3) 12 (vp_nar .byte ((x4 >>> (24 &&& 31))).toInt8.toInt32)) 13 (vp_nar .byte ((x4 >>> (16 &&& 31))).toInt8.toInt32)))))).set 1 (.inr (8, [.ref 3, .int 14])))) rfl (ri_gs (ri_gn (by decide) ri_M3_1)) (Nat.le_of_ble_eq_true rfl) rfl rfl (List.set_set _) ?_
      refine ri_ev_go 5 (pc1 := 8) (L1 := [some (.ref 2), some (.int x4), some (.int 8)]) (st1 := [.ref 2]) (M1 := ((ri_M3.set 2 (.inl (.byte, (400, .inl (upd (upd (g3) 12 (vp_nar .byte ((x4 >>> (24 &&& 31))).toInt8.toInt32)) 13 (vp_nar .byte ((x4 >>> (16 &&& 31))).toInt8.toInt32)))))).set 1 (.inr (8, [.ref 3, .int 14])))) (c1 := 0) (s1 := 0) (fun n => rfl) ?_
      refine ri_ev_gf (k := 1) rfl (ri_gs (ri_gn (by decide) ri_M3_1)) rfl ?_
      refine ri_ev_go 1 (pc1 := 12) (L1 := [some (.ref 2), some (.int x4), some (.int 8)]) (st1 := [.ref 2, .int 14]) (M1 := ((ri_M3.set 2 (.inl (.byte, (400, .inl (upd (upd (g3) 12 (vp_nar .byte ((x4 >>> (24 &&& 31))).toInt8.toInt32)) 13 (vp_nar .byte ((x4 >>> (16 &&& 31))).toInt8.toInt32)))))).set 1 (.inr (8, [.ref 3, .int 14])))) (c1 := 0) (s1 := 0) (fun n => rfl) ?_
      refine ri_ev_gf (k := 1) rfl (ri_gs (ri_gn (by decide) ri_M3_1)) rfl ?_
      refine ri_ev_alnd (k := 2) (w := 400) rfl (ri_gn (by decide) (ri_gs ri_M3_2)) rfl ?_
      refine ri_ev_cls (M1 := ((ri_M3.set 2 (.inl (.byte, (400, .inl (upd (upd (g3) 12 (vp_nar .byte ((x4 >>> (24 &&& 31))).toInt8.toInt32)) 13 (vp_nar .byte ((x4 >>> (16 &&& 31))).toInt8.toInt32)))))).set 1 (.inr (8, [.ref 3, .int 14])))) (v := some (.int 0)) _ rfl (Or.inr rfl) rfl (Nat.le_of_ble_eq_true rfl) hc18 ?_
      refine ri_ev_go 2 (pc1 := 23) (L1 := [some (.ref 2), some (.int x4), some (.int 8)]) (st1 := [.ref 2]) (M1 := ((ri_M3.set 2 (.inl (.byte, (400, .inl (upd (upd (g3) 12 (vp_nar .byte ((x4 >>> (24 &&& 31))).toInt8.toInt32)) 13 (vp_nar .byte ((x4 >>> (16 &&& 31))).toInt8.toInt32)))))).set 1 (.inr (8, [.ref 3, .int 14])))) (c1 := 0) (s1 := 0) (fun n => rfl) ?_
      refine ri_ev_gf (k := 1) rfl (ri_gs (ri_gn (by decide) ri_M3_1)) rfl ?_
      refine ri_ev_go 1 (pc1 := 27) (L1 := [some (.ref 2), some (.int x4), some (.int 8)]) (st1 := [.ref 2, .ref 3]) (M1 := ((ri_M3.set 2 (.inl (.byte, (400, .inl (upd (upd (g3) 12 (vp_nar .byte ((x4 >>> (24 &&& 31))).toInt8.toInt32)) 13 (vp_nar .byte ((x4 >>> (16 &&& 31))).toInt8.toInt32)))))).set 1 (.inr (8, [.ref 3, .int 14])))) (c1 := 0) (s1 := 0) (fun n => rfl) ?_
      refine ri_ev_gf (k := 1) rfl (ri_gs (ri_gn (by decide) ri_M3_1)) rfl ?_
      refine ri_ev_go 4 (pc1 := 34) (L1 := [some (.ref 2), some (.int x4), some (.int 8)]) (st1 := [.int ((x4 >>> (8 &&& 31))).toInt8.toInt32, .int 14, .ref 3]) (M1 := ((ri_M3.set 2 (.inl (.byte, (400, .inl (upd (upd (g3) 12 (vp_nar .byte ((x4 >>> (24 &&& 31))).toInt8.toInt32)) 13 (vp_nar .byte ((x4 >>> (16 &&& 31))).toInt8.toInt32)))))).set 1 (.inr (8, [.ref 3, .int 14])))) (c1 := 0) (s1 := 0) (fun n => rfl) ?_
      refine ri_ev_basd (k := 2) (q := 14) (M2 := ((ri_M3.set 2 (.inl (.byte, (400, .inl (upd (upd (upd (g3) 12 (vp_nar .byte ((x4 >>> (24 &&& 31))).toInt8.toInt32)) 13 (vp_nar .byte ((x4 >>> (16 &&& 31))).toInt8.toInt32)) 14 (vp_nar .byte ((x4 >>> (8 &&& 31))).toInt8.toInt32)))))).set 1 (.inr (8, [.ref 3, .int 14])))) rfl (ri_gn (by decide) (ri_gs ri_M3_2)) (by decide) rfl (ri_ss (by decide) (List.set_set _)) ?_
      refine ri_ev_go 2 (pc1 := 37) (L1 := [some (.ref 2), some (.int x4), some (.int 8)]) (st1 := [.ref 2, .ref 2]) (M1 := ((ri_M3.set 2 (.inl (.byte, (400, .inl (upd (upd (upd (g3) 12 (vp_nar .byte ((x4 >>> (24 &&& 31))).toInt8.toInt32)) 13 (vp_nar .byte ((x4 >>> (16 &&& 31))).toInt8.toInt32)) 14 (vp_nar .byte ((x4 >>> (8 &&& 31))).toInt8.toInt32)))))).set 1 (.inr (8, [.ref 3, .int 14])))) (c1 := 0) (s1 := 0) (fun n => rfl) ?_
      refine ri_ev_gf (k := 1) rfl (ri_gs (ri_gn (by decide) ri_M3_1)) rfl ?_
      refine ri_ev_go 2 (pc1 := 42) (L1 := [some (.ref 2), some (.int x4), some (.int 8)]) (st1 := [.int 15, .ref 2]) (M1 := ((ri_M3.set 2 (.inl (.byte, (400, .inl (upd (upd (upd (g3) 12 (vp_nar .byte ((x4 >>> (24 &&& 31))).toInt8.toInt32)) 13 (vp_nar .byte ((x4 >>> (16 &&& 31))).toInt8.toInt32)) 14 (vp_nar .byte ((x4 >>> (8 &&& 31))).toInt8.toInt32)))))).set 1 (.inr (8, [.ref 3, .int 14])))) (c1 := 0) (s1 := 0) (fun n => rfl) ?_
      refine ri_ev_pf (k := 1) (gs := [.ref 3, .int 15]) (M2 := ((ri_M3.set 2 (.inl (.byte, (400, .inl (upd (upd (upd (g3) 12 (vp_nar .byte ((x4 >>> (24 &&& 31))).toInt8.toInt32)) 13 (vp_nar .byte ((x4 >>> (16 &&& 31))).toInt8.toInt32)) 14 (vp_nar .byte ((x4 >>> (8 &&& 31))).toInt8.toInt32)))))).set 1 (.inr (8, [.ref 3, .int 15])))) rfl (ri_gs (ri_gn (by decide) ri_M3_1)) (Nat.le_of_ble_eq_true rfl) rfl rfl (List.set_set _) ?_
      refine ri_ev_go 5 (pc1 := 8) (L1 := [some (.ref 2), some (.int x4), some (.int 0)]) (st1 := [.ref 2]) (M1 := ((ri_M3.set 2 (.inl (.byte, (400, .inl (upd (upd (upd (g3) 12 (vp_nar .byte ((x4 >>> (24 &&& 31))).toInt8.toInt32)) 13 (vp_nar .byte ((x4 >>> (16 &&& 31))).toInt8.toInt32)) 14 (vp_nar .byte ((x4 >>> (8 &&& 31))).toInt8.toInt32)))))).set 1 (.inr (8, [.ref 3, .int 15])))) (c1 := 0) (s1 := 0) (fun n => rfl) ?_
      refine ri_ev_gf (k := 1) rfl (ri_gs (ri_gn (by decide) ri_M3_1)) rfl ?_
      refine ri_ev_go 1 (pc1 := 12) (L1 := [some (.ref 2), some (.int x4), some (.int 0)]) (st1 := [.ref 2, .int 15]) (M1 := ((ri_M3.set 2 (.inl (.byte, (400, .inl (upd (upd (upd (g3) 12 (vp_nar .byte ((x4 >>> (24 &&& 31))).toInt8.toInt32)) 13 (vp_nar .byte ((x4 >>> (16 &&& 31))).toInt8.toInt32)) 14 (vp_nar .byte ((x4 >>> (8 &&& 31))).toInt8.toInt32)))))).set 1 (.inr (8, [.ref 3, .int 15])))) (c1 := 0) (s1 := 0) (fun n => rfl) ?_
      refine ri_ev_gf (k := 1) rfl (ri_gs (ri_gn (by decide) ri_M3_1)) rfl ?_
      refine ri_ev_alnd (k := 2) (w := 400) rfl (ri_gn (by decide) (ri_gs ri_M3_2)) rfl ?_
      refine ri_ev_cls (M1 := ((ri_M3.set 2 (.inl (.byte, (400, .inl (upd (upd (upd (g3) 12 (vp_nar .byte ((x4 >>> (24 &&& 31))).toInt8.toInt32)) 13 (vp_nar .byte ((x4 >>> (16 &&& 31))).toInt8.toInt32)) 14 (vp_nar .byte ((x4 >>> (8 &&& 31))).toInt8.toInt32)))))).set 1 (.inr (8, [.ref 3, .int 15])))) (v := some (.int 0)) _ rfl (Or.inr rfl) rfl (Nat.le_of_ble_eq_true rfl) hc19 ?_
      refine ri_ev_go 2 (pc1 := 23) (L1 := [some (.ref 2), some (.int x4), some (.int 0)]) (st1 := [.ref 2]) (M1 := ((ri_M3.set 2 (.inl (.byte, (400, .inl (upd (upd (upd (g3) 12 (vp_nar .byte ((x4 >>> (24 &&& 31))).toInt8.toInt32)) 13 (vp_nar .byte ((x4 >>> (16 &&& 31))).toInt8.toInt32)) 14 (vp_nar .byte ((x4 >>> (8 &&& 31))).toInt8.toInt32)))))).set 1 (.inr (8, [.ref 3, .int 15])))) (c1 := 0) (s1 := 0) (fun n => rfl) ?_
      refine ri_ev_gf (k := 1) rfl (ri_gs (ri_gn (by decide) ri_M3_1)) rfl ?_
      refine ri_ev_go 1 (pc1 := 27) (L1 := [some (.ref 2), some (.int x4), some (.int 0)]) (st1 := [.ref 2, .ref 3]) (M1 := ((ri_M3.set 2 (.inl (.byte, (400, .inl (upd (upd (upd (g3) 12 (vp_nar .byte ((x4 >>> (24 &&& 31))).toInt8.toInt32)) 13 (vp_nar .byte ((x4 >>> (16 &&& 31))).toInt8.toInt32)) 14 (vp_nar .byte ((x4 >>> (8 &&& 31))).toInt8.toInt32)))))).set 1 (.inr (8, [.ref 3, .int 15])))) (c1 := 0) (s1 := 0) (fun n => rfl) ?_
      refine ri_ev_gf (k := 1) rfl (ri_gs (ri_gn (by decide) ri_M3_1)) rfl ?_
      refine ri_ev_go 4 (pc1 := 34) (L1 := [some (.ref 2), some (.int x4), some (.int 0)]) (st1 := [.int ((x4 >>> (0 &&& 31))).toInt8.toInt32, .int 15, .ref 3]) (M1 := ((ri_M3.set 2 (.inl (.byte, (400, .inl (upd (upd (upd (g3) 12 (vp_nar .byte ((x4 >>> (24 &&& 31))).toInt8.toInt32)) 13 (vp_nar .byte ((x4 >>> (16 &&& 31))).toInt8.toInt32)) 14 (vp_nar .byte ((x4 >>> (8 &&& 31))).toInt8.toInt32)))))).set 1 (.inr (8, [.ref 3, .int 15])))) (c1 := 0) (s1 := 0) (fun n => rfl) ?_
      refine ri_ev_basd (k := 2) (q := 15) (M2 := ((ri_M3.set 2 (.inl (.byte, (400, .inl (upd (upd (upd (upd (g3) 12 (vp_nar .byte ((x4 >>> (24 &&& 31))).toInt8.toInt32)) 13 (vp_nar .byte ((x4 >>> (16 &&& 31))).toInt8.toInt32)) 14 (vp_nar .byte ((x4 >>> (8 &&& 31))).toInt8.toInt32)) 15 (vp_nar .byte ((x4 >>> (0 &&& 31))).toInt8.toInt32)))))).set 1 (.inr (8, [.ref 3, .int 15])))) rfl (ri_gn (by decide) (ri_gs ri_M3_2)) (by decide) rfl (ri_ss (by decide) (List.set_set _)) ?_
      refine ri_ev_go 2 (pc1 := 37) (L1 := [some (.ref 2), some (.int x4), some (.int 0)]) (st1 := [.ref 2, .ref 2]) (M1 := ((ri_M3.set 2 (.inl (.byte, (400, .inl (upd (upd (upd (upd (g3) 12 (vp_nar .byte ((x4 >>> (24 &&& 31))).toInt8.toInt32)) 13 (vp_nar .byte ((x4 >>> (16 &&& 31))).toInt8.toInt32)) 14 (vp_nar .byte ((x4 >>> (8 &&& 31))).toInt8.toInt32)) 15 (vp_nar .byte ((x4 >>> (0 &&& 31))).toInt8.toInt32)))))).set 1 (.inr (8, [.ref 3, .int 15])))) (c1 := 0) (s1 := 0) (fun n => rfl) ?_
      refine ri_ev_gf (k := 1) rfl (ri_gs (ri_gn (by decide) ri_M3_1)) rfl ?_
      refine ri_ev_go 2 (pc1 := 42) (L1 := [some (.ref 2), some (.int x4), some (.int 0)]) (st1 := [.int 16, .ref 2]) (M1 := ((ri_M3.set 2 (.inl (.byte, (400, .inl (upd (upd (upd (upd (g3) 12 (vp_nar .byte ((x4 >>> (24 &&& 31))).toInt8.toInt32)) 13 (vp_nar .byte ((x4 >>> (16 &&& 31))).toInt8.toInt32)) 14 (vp_nar .byte ((x4 >>> (8 &&& 31))).toInt8.toInt32)) 15 (vp_nar .byte ((x4 >>> (0 &&& 31))).toInt8.toInt32)))))).set 1 (.inr (8, [.ref 3, .int 15])))) (c1 := 0) (s1 := 0) (fun n => rfl) ?_
      refine ri_ev_pf (k := 1) (gs := [.ref 3, .int 16]) (M2 := ((ri_M3.set 2 (.inl (.byte, (400, .inl (upd (upd (upd (upd (g3) 12 (vp_nar .byte ((x4 >>> (24 &&& 31))).toInt8.toInt32)) 13 (vp_nar .byte ((x4 >>> (16 &&& 31))).toInt8.toInt32)) 14 (vp_nar .byte ((x4 >>> (8 &&& 31))).toInt8.toInt32)) 15 (vp_nar .byte ((x4 >>> (0 &&& 31))).toInt8.toInt32)))))).set 1 (.inr (8, [.ref 3, .int 16])))) rfl (ri_gs (ri_gn (by decide) ri_M3_1)) (Nat.le_of_ble_eq_true rfl) rfl rfl (List.set_set _) ?_
      refine ri_ev_go 4 (pc1 := 51) (L1 := [some (.ref 2), some (.int x4), some (.int (-8))]) (st1 := []) (M1 := ((ri_M3.set 2 (.inl (.byte, (400, .inl (upd (upd (upd (upd (g3) 12 (vp_nar .byte ((x4 >>> (24 &&& 31))).toInt8.toInt32)) 13 (vp_nar .byte ((x4 >>> (16 &&& 31))).toInt8.toInt32)) 14 (vp_nar .byte ((x4 >>> (8 &&& 31))).toInt8.toInt32)) 15 (vp_nar .byte ((x4 >>> (0 &&& 31))).toInt8.toInt32)))))).set 1 (.inr (8, [.ref 3, .int 16])))) (c1 := 0) (s1 := 0) (fun n => rfl) ?_
      exact ri_ev_ret (fun n => rfl)
    obtain ⟨g5, hc25⟩ : ∃ g5 : Nat → Int32, ri_c 18 83 [.ref 2, .int x5] ((ri_M3.set 2 (.inl (.byte, (400, .inl (g4))))).set 1 (.inr (8, [.ref 3, .int 16]))) = some (none, ((ri_M3.set 2 (.inl (.byte, (400, .inl (g5))))).set 1 (.inr (8, [.ref 3, .int 20]))), 0, 0) := by
      have hc21 : ri_c 17 142 [.int 16, .int 400] ((ri_M3.set 2 (.inl (.byte, (400, .inl (g4))))).set 1 (.inr (8, [.ref 3, .int 16]))) = some (some (.int 0), ((ri_M3.set 2 (.inl (.byte, (400, .inl (g4))))).set 1 (.inr (8, [.ref 3, .int 16]))), 0, 0) := by
        refine ri_ev_call (N := 7) (L := [some (.int 16), some (.int 400)]) rfl (Nat.le_of_ble_eq_true rfl) ?_
        refine ri_ev_go 6 (pc1 := 14) (L1 := [some (.int 16), some (.int 400)]) (st1 := [.int 0]) (M1 := ((ri_M3.set 2 (.inl (.byte, (400, .inl (g4))))).set 1 (.inr (8, [.ref 3, .int 16])))) (c1 := 0) (s1 := 0) (fun n => rfl) ?_
        exact ri_ev_ret (fun n => rfl)
      have hc22 : ri_c 17 142 [.int 17, .int 400] ((ri_M3.set 2 (.inl (.byte, (400, .inl (upd (g4) 16 (vp_nar .byte ((x5 >>> (24 &&& 31))).toInt8.toInt32)))))).set 1 (.inr (8, [.ref 3, .int 17]))) = some (some (.int 0), ((ri_M3.set 2 (.inl (.byte, (400, .inl (upd (g4) 16 (vp_nar .byte ((x5 >>> (24 &&& 31))).toInt8.toInt32)))))).set 1 (.inr (8, [.ref 3, .int 17]))), 0, 0) := by
        refine ri_ev_call (N := 7) (L := [some (.int 17), some (.int 400)]) rfl (Nat.le_of_ble_eq_true rfl) ?_
        refine ri_ev_go 6 (pc1 := 14) (L1 := [some (.int 17), some (.int 400)]) (st1 := [.int 0]) (M1 := ((ri_M3.set 2 (.inl (.byte, (400, .inl (upd (g4) 16 (vp_nar .byte ((x5 >>> (24 &&& 31))).toInt8.toInt32)))))).set 1 (.inr (8, [.ref 3, .int 17])))) (c1 := 0) (s1 := 0) (fun n => rfl) ?_
        exact ri_ev_ret (fun n => rfl)
      have hc23 : ri_c 17 142 [.int 18, .int 400] ((ri_M3.set 2 (.inl (.byte, (400, .inl (upd (upd (g4) 16 (vp_nar .byte ((x5 >>> (24 &&& 31))).toInt8.toInt32)) 17 (vp_nar .byte ((x5 >>> (16 &&& 31))).toInt8.toInt32)))))).set 1 (.inr (8, [.ref 3, .int 18]))) = some (some (.int 0), ((ri_M3.set 2 (.inl (.byte, (400, .inl (upd (upd (g4) 16 (vp_nar .byte ((x5 >>> (24 &&& 31))).toInt8.toInt32)) 17 (vp_nar .byte ((x5 >>> (16 &&& 31))).toInt8.toInt32)))))).set 1 (.inr (8, [.ref 3, .int 18]))), 0, 0) := by
        refine ri_ev_call (N := 7) (L := [some (.int 18), some (.int 400)]) rfl (Nat.le_of_ble_eq_true rfl) ?_
        refine ri_ev_go 6 (pc1 := 14) (L1 := [some (.int 18), some (.int 400)]) (st1 := [.int 0]) (M1 := ((ri_M3.set 2 (.inl (.byte, (400, .inl (upd (upd (g4) 16 (vp_nar .byte ((x5 >>> (24 &&& 31))).toInt8.toInt32)) 17 (vp_nar .byte ((x5 >>> (16 &&& 31))).toInt8.toInt32)))))).set 1 (.inr (8, [.ref 3, .int 18])))) (c1 := 0) (s1 := 0) (fun n => rfl) ?_
        exact ri_ev_ret (fun n => rfl)
      have hc24 : ri_c 17 142 [.int 19, .int 400] ((ri_M3.set 2 (.inl (.byte, (400, .inl (upd (upd (upd (g4) 16 (vp_nar .byte ((x5 >>> (24 &&& 31))).toInt8.toInt32)) 17 (vp_nar .byte ((x5 >>> (16 &&& 31))).toInt8.toInt32)) 18 (vp_nar .byte ((x5 >>> (8 &&& 31))).toInt8.toInt32)))))).set 1 (.inr (8, [.ref 3, .int 19]))) = some (some (.int 0), ((ri_M3.set 2 (.inl (.byte, (400, .inl (upd (upd (upd (g4) 16 (vp_nar .byte ((x5 >>> (24 &&& 31))).toInt8.toInt32)) 17 (vp_nar .byte ((x5 >>> (16 &&& 31))).toInt8.toInt32)) 18 (vp_nar .byte ((x5 >>> (8 &&& 31))).toInt8.toInt32)))))).set 1 (.inr (8, [.ref 3, .int 19]))), 0, 0) := by
        refine ri_ev_call (N := 7) (L := [some (.int 19), some (.int 400)]) rfl (Nat.le_of_ble_eq_true rfl) ?_
        refine ri_ev_go 6 (pc1 := 14) (L1 := [some (.int 19), some (.int 400)]) (st1 := [.int 0]) (M1 := ((ri_M3.set 2 (.inl (.byte, (400, .inl (upd (upd (upd (g4) 16 (vp_nar .byte ((x5 >>> (24 &&& 31))).toInt8.toInt32)) 17 (vp_nar .byte ((x5 >>> (16 &&& 31))).toInt8.toInt32)) 18 (vp_nar .byte ((x5 >>> (8 &&& 31))).toInt8.toInt32)))))).set 1 (.inr (8, [.ref 3, .int 19])))) (c1 := 0) (s1 := 0) (fun n => rfl) ?_
        exact ri_ev_ret (fun n => rfl)
      refine ⟨upd (upd (upd (upd (g4) 16 (vp_nar .byte ((x5 >>> (24 &&& 31))).toInt8.toInt32)) 17 (vp_nar .byte ((x5 >>> (16 &&& 31))).toInt8.toInt32)) 18 (vp_nar .byte ((x5 >>> (8 &&& 31))).toInt8.toInt32)) 19 (vp_nar .byte ((x5 >>> (0 &&& 31))).toInt8.toInt32), ?_⟩
      refine ri_ev_call (N := 109) (L := [some (.ref 2), some (.int x5), none]) rfl (Nat.le_of_ble_eq_true rfl) ?_
      refine ri_ev_go 5 (pc1 := 8) (L1 := [some (.ref 2), some (.int x5), some (.int 24)]) (st1 := [.ref 2]) (M1 := ((ri_M3.set 2 (.inl (.byte, (400, .inl (g4))))).set 1 (.inr (8, [.ref 3, .int 16])))) (c1 := 0) (s1 := 0) (fun n => rfl) ?_
      refine ri_ev_gf (k := 1) rfl (ri_gs (ri_gn (by decide) ri_M3_1)) rfl ?_
      refine ri_ev_go 1 (pc1 := 12) (L1 := [some (.ref 2), some (.int x5), some (.int 24)]) (st1 := [.ref 2, .int 16]) (M1 := ((ri_M3.set 2 (.inl (.byte, (400, .inl (g4))))).set 1 (.inr (8, [.ref 3, .int 16])))) (c1 := 0) (s1 := 0) (fun n => rfl) ?_
      refine ri_ev_gf (k := 1) rfl (ri_gs (ri_gn (by decide) ri_M3_1)) rfl ?_
      refine ri_ev_alnd (k := 2) (w := 400) rfl (ri_gn (by decide) (ri_gs ri_M3_2)) rfl ?_
      refine ri_ev_cls (M1 := ((ri_M3.set 2 (.inl (.byte, (400, .inl (g4))))).set 1 (.inr (8, [.ref 3, .int 16])))) (v := some (.int 0)) _ rfl (Or.inr rfl) rfl (Nat.le_of_ble_eq_true rfl) hc21 ?_
      refine ri_ev_go 2 (pc1 := 23) (L1 := [some (.ref 2), some (.int x5), some (.int 24)]) (st1 := [.ref 2]) (M1 := ((ri_M3.set 2 (.inl (.byte, (400, .inl (g4))))).set 1 (.inr (8, [.ref 3, .int 16])))) (c1 := 0) (s1 := 0) (fun n => rfl) ?_
      refine ri_ev_gf (k := 1) rfl (ri_gs (ri_gn (by decide) ri_M3_1)) rfl ?_
      refine ri_ev_go 1 (pc1 := 27) (L1 := [some (.ref 2), some (.int x5), some (.int 24)]) (st1 := [.ref 2, .ref 3]) (M1 := ((ri_M3.set 2 (.inl (.byte, (400, .inl (g4))))).set 1 (.inr (8, [.ref 3, .int 16])))) (c1 := 0) (s1 := 0) (fun n => rfl) ?_
      refine ri_ev_gf (k := 1) rfl (ri_gs (ri_gn (by decide) ri_M3_1)) rfl ?_
      refine ri_ev_go 4 (pc1 := 34) (L1 := [some (.ref 2), some (.int x5), some (.int 24)]) (st1 := [.int ((x5 >>> (24 &&& 31))).toInt8.toInt32, .int 16, .ref 3]) (M1 := ((ri_M3.set 2 (.inl (.byte, (400, .inl (g4))))).set 1 (.inr (8, [.ref 3, .int 16])))) (c1 := 0) (s1 := 0) (fun n => rfl) ?_
      refine ri_ev_basd (k := 2) (q := 16) (M2 := ((ri_M3.set 2 (.inl (.byte, (400, .inl (upd (g4) 16 (vp_nar .byte ((x5 >>> (24 &&& 31))).toInt8.toInt32)))))).set 1 (.inr (8, [.ref 3, .int 16])))) rfl (ri_gn (by decide) (ri_gs ri_M3_2)) (by decide) rfl (ri_ss (by decide) (List.set_set _)) ?_
      refine ri_ev_go 2 (pc1 := 37) (L1 := [some (.ref 2), some (.int x5), some (.int 24)]) (st1 := [.ref 2, .ref 2]) (M1 := ((ri_M3.set 2 (.inl (.byte, (400, .inl (upd (g4) 16 (vp_nar .byte ((x5 >>> (24 &&& 31))).toInt8.toInt32)))))).set 1 (.inr (8, [.ref 3, .int 16])))) (c1 := 0) (s1 := 0) (fun n => rfl) ?_
      refine ri_ev_gf (k := 1) rfl (ri_gs (ri_gn (by decide) ri_M3_1)) rfl ?_
      refine ri_ev_go 2 (pc1 := 42) (L1 := [some (.ref 2), some (.int x5), some (.int 24)]) (st1 := [.int 17, .ref 2]) (M1 := ((ri_M3.set 2 (.inl (.byte, (400, .inl (upd (g4) 16 (vp_nar .byte ((x5 >>> (24 &&& 31))).toInt8.toInt32)))))).set 1 (.inr (8, [.ref 3, .int 16])))) (c1 := 0) (s1 := 0) (fun n => rfl) ?_
      refine ri_ev_pf (k := 1) (gs := [.ref 3, .int 17]) (M2 := ((ri_M3.set 2 (.inl (.byte, (400, .inl (upd (g4) 16 (vp_nar .byte ((x5 >>> (24 &&& 31))).toInt8.toInt32)))))).set 1 (.inr (8, [.ref 3, .int 17])))) rfl (ri_gs (ri_gn (by decide) ri_M3_1)) (Nat.le_of_ble_eq_true rfl) rfl rfl (List.set_set _) ?_
      refine ri_ev_go 5 (pc1 := 8) (L1 := [some (.ref 2), some (.int x5), some (.int 16)]) (st1 := [.ref 2]) (M1 := ((ri_M3.set 2 (.inl (.byte, (400, .inl (upd (g4) 16 (vp_nar .byte ((x5 >>> (24 &&& 31))).toInt8.toInt32)))))).set 1 (.inr (8, [.ref 3, .int 17])))) (c1 := 0) (s1 := 0) (fun n => rfl) ?_
      refine ri_ev_gf (k := 1) rfl (ri_gs (ri_gn (by decide) ri_M3_1)) rfl ?_
      refine ri_ev_go 1 (pc1 := 12) (L1 := [some (.ref 2), some (.int x5), some (.int 16)]) (st1 := [.ref 2, .int 17]) (M1 := ((ri_M3.set 2 (.inl (.byte, (400, .inl (upd (g4) 16 (vp_nar .byte ((x5 >>> (24 &&& 31))).toInt8.toInt32)))))).set 1 (.inr (8, [.ref 3, .int 17])))) (c1 := 0) (s1 := 0) (fun n => rfl) ?_
      refine ri_ev_gf (k := 1) rfl (ri_gs (ri_gn (by decide) ri_M3_1)) rfl ?_
      refine ri_ev_alnd (k := 2) (w := 400) rfl (ri_gn (by decide) (ri_gs ri_M3_2)) rfl ?_
      refine ri_ev_cls (M1 := ((ri_M3.set 2 (.inl (.byte, (400, .inl (upd (g4) 16 (vp_nar .byte ((x5 >>> (24 &&& 31))).toInt8.toInt32)))))).set 1 (.inr (8, [.ref 3, .int 17])))) (v := some (.int 0)) _ rfl (Or.inr rfl) rfl (Nat.le_of_ble_eq_true rfl) hc22 ?_
      refine ri_ev_go 2 (pc1 := 23) (L1 := [some (.ref 2), some (.int x5), some (.int 16)]) (st1 := [.ref 2]) (M1 := ((ri_M3.set 2 (.inl (.byte, (400, .inl (upd (g4) 16 (vp_nar .byte ((x5 >>> (24 &&& 31))).toInt8.toInt32)))))).set 1 (.inr (8, [.ref 3, .int 17])))) (c1 := 0) (s1 := 0) (fun n => rfl) ?_
      refine ri_ev_gf (k := 1) rfl (ri_gs (ri_gn (by decide) ri_M3_1)) rfl ?_
      refine ri_ev_go 1 (pc1 := 27) (L1 := [some (.ref 2), some (.int x5), some (.int 16)]) (st1 := [.ref 2, .ref 3]) (M1 := ((ri_M3.set 2 (.inl (.byte, (400, .inl (upd (g4) 16 (vp_nar .byte ((x5 >>> (24 &&& 31))).toInt8.toInt32)))))).set 1 (.inr (8, [.ref 3, .int 17])))) (c1 := 0) (s1 := 0) (fun n => rfl) ?_
      refine ri_ev_gf (k := 1) rfl (ri_gs (ri_gn (by decide) ri_M3_1)) rfl ?_
      refine ri_ev_go 4 (pc1 := 34) (L1 := [some (.ref 2), some (.int x5), some (.int 16)]) (st1 := [.int ((x5 >>> (16 &&& 31))).toInt8.toInt32, .int 17, .ref 3]) (M1 := ((ri_M3.set 2 (.inl (.byte, (400, .inl (upd (g4) 16 (vp_nar .byte ((x5 >>> (24 &&& 31))).toInt8.toInt32)))))).set 1 (.inr (8, [.ref 3, .int 17])))) (c1 := 0) (s1 := 0) (fun n => rfl) ?_
      refine ri_ev_basd (k := 2) (q := 17) (M2 := ((ri_M3.set 2 (.inl (.byte, (400, .inl (upd (upd (g4) 16 (vp_nar .byte ((x5 >>> (24 &&& 31))).toInt8.toInt32)) 17 (vp_nar .byte ((x5 >>> (16 &&& 31))).toInt8.toInt32)))))).set 1 (.inr (8, [.ref 3, .int 17])))) rfl (ri_gn (by decide) (ri_gs ri_M3_2)) (by decide) rfl (ri_ss (by decide) (List.set_set _)) ?_
      refine ri_ev_go 2 (pc1 := 37) (L1 := [some (.ref 2), some (.int x5), some (.int 16)]) (st1 := [.ref 2, .ref 2]) (M1 := ((ri_M3.set 2 (.inl (.byte, (400, .inl (upd (upd (g4) 16 (vp_nar .byte ((x5 >>> (24 &&& 31))).toInt8.toInt32)) 17 (vp_nar .byte ((x5 >>> (16 &&& 31))).toInt8.toInt32)))))).set 1 (.inr (8, [.ref 3, .int 17])))) (c1 := 0) (s1 := 0) (fun n => rfl) ?_
      refine ri_ev_gf (k := 1) rfl (ri_gs (ri_gn (by decide) ri_M3_1)) rfl ?_
      refine ri_ev_go 2 (pc1 := 42) (L1 := [some (.ref 2), some (.int x5), some (.int 16)]) (st1 := [.int 18, .ref 2]) (M1 := ((ri_M3.set 2 (.inl (.byte, (400, .inl (upd (upd (g4) 16 (vp_nar .byte ((x5 >>> (24 &&& 31))).toInt8.toInt32)) 17 (vp_nar .byte ((x5 >>> (16 &&& 31))).toInt8.toInt32)))))).set 1 (.inr (8, [.ref 3, .int 17])))) (c1 := 0) (s1 := 0) (fun n => rfl) ?_
      refine ri_ev_pf (k := 1) (gs := [.ref 3, .int 18]) (M2 := ((ri_M3.set 2 (.inl (.byte, (400, .inl (upd (upd (g4) 16 (vp_nar .byte ((x5 >>> (24 &&& 31))).toInt8.toInt32)) 17 (vp_nar .byte ((x5 >>> (16 &&& 31))).toInt8.toInt32)))))).set 1 (.inr (8, [.ref 3, .int 18])))) rfl (ri_gs (ri_gn (by decide) ri_M3_1)) (Nat.le_of_ble_eq_true rfl) rfl rfl (List.set_set _) ?_
      refine ri_ev_go 5 (pc1 := 8) (L1 := [some (.ref 2), some (.int x5), some (.int 8)]) (st1 := [.ref 2]) (M1 := ((ri_M3.set 2 (.inl (.byte, (400, .inl (upd (upd (g4) 16 (vp_nar .byte ((x5 >>> (24 &&& 31))).toInt8.toInt32)) 17 (vp_nar .byte ((x5 >>> (16 &&& 31))).toInt8.toInt32)))))).set 1 (.inr (8, [.ref 3, .int 18])))) (c1 := 0) (s1 := 0) (fun n => rfl) ?_
      refine ri_ev_gf (k := 1) rfl (ri_gs (ri_gn (by decide) ri_M3_1)) rfl ?_
      refine ri_ev_go 1 (pc1 := 12) (L1 := [some (.ref 2), some (.int x5), some (.int 8)]) (st1 := [.ref 2, .int 18]) (M1 := ((ri_M3.set 2 (.inl (.byte, (400, .inl (upd (upd (g4) 16 (vp_nar .byte ((x5 >>> (24 &&& 31))).toInt8.toInt32)) 17 (vp_nar .byte ((x5 >>> (16 &&& 31))).toInt8.toInt32)))))).set 1 (.inr (8, [.ref 3, .int 18])))) (c1 := 0) (s1 := 0) (fun n => rfl) ?_
      refine ri_ev_gf (k := 1) rfl (ri_gs (ri_gn (by decide) ri_M3_1)) rfl ?_
      refine ri_ev_alnd (k := 2) (w := 400) rfl (ri_gn (by decide) (ri_gs ri_M3_2)) rfl ?_
      refine ri_ev_cls (M1 := ((ri_M3.set 2 (.inl (.byte, (400, .inl (upd (upd (g4) 16 (vp_nar .byte ((x5 >>> (24 &&& 31))).toInt8.toInt32)) 17 (vp_nar .byte ((x5 >>> (16 &&& 31))).toInt8.toInt32)))))).set 1 (.inr (8, [.ref 3, .int 18])))) (v := some (.int 0)) _ rfl (Or.inr rfl) rfl (Nat.le_of_ble_eq_true rfl) hc23 ?_
      refine ri_ev_go 2 (pc1 := 23) (L1 := [some (.ref 2), some (.int x5), some (.int 8)]) (st1 := [.ref 2]) (M1 := ((ri_M3.set 2 (.inl (.byte, (400, .inl (upd (upd (g4) 16 (vp_nar .byte ((x5 >>> (24 &&& 31))).toInt8.toInt32)) 17 (vp_nar .byte ((x5 >>> (16 &&& 31))).toInt8.toInt32)))))).set 1 (.inr (8, [.ref 3, .int 18])))) (c1 := 0) (s1 := 0) (fun n => rfl) ?_
      refine ri_ev_gf (k := 1) rfl (ri_gs (ri_gn (by decide) ri_M3_1)) rfl ?_
      refine ri_ev_go 1 (pc1 := 27) (L1 := [some (.ref 2), some (.int x5), some (.int 8)]) (st1 := [.ref 2, .ref 3]) (M1 := ((ri_M3.set 2 (.inl (.byte, (400, .inl (upd (upd (g4) 16 (vp_nar .byte ((x5 >>> (24 &&& 31))).toInt8.toInt32)) 17 (vp_nar .byte ((x5 >>> (16 &&& 31))).toInt8.toInt32)))))).set 1 (.inr (8, [.ref 3, .int 18])))) (c1 := 0) (s1 := 0) (fun n => rfl) ?_
      refine ri_ev_gf (k := 1) rfl (ri_gs (ri_gn (by decide) ri_M3_1)) rfl ?_
      refine ri_ev_go 4 (pc1 := 34) (L1 := [some (.ref 2), some (.int x5), some (.int 8)]) (st1 := [.int ((x5 >>> (8 &&& 31))).toInt8.toInt32, .int 18, .ref 3]) (M1 := ((ri_M3.set 2 (.inl (.byte, (400, .inl (upd (upd (g4) 16 (vp_nar .byte ((x5 >>> (24 &&& 31))).toInt8.toInt32)) 17 (vp_nar .byte ((x5 >>> (16 &&& 31))).toInt8.toInt32)))))).set 1 (.inr (8, [.ref 3, .int 18])))) (c1 := 0) (s1 := 0) (fun n => rfl) ?_
      refine ri_ev_basd (k := 2) (q := 18) (M2 := ((ri_M3.set 2 (.inl (.byte, (400, .inl (upd (upd (upd (g4) 16 (vp_nar .byte ((x5 >>> (24 &&& 31))).toInt8.toInt32)) 17 (vp_nar .byte ((x5 >>> (16 &&& 31))).toInt8.toInt32)) 18 (vp_nar .byte ((x5 >>> (8 &&& 31))).toInt8.toInt32)))))).set 1 (.inr (8, [.ref 3, .int 18])))) rfl (ri_gn (by decide) (ri_gs ri_M3_2)) (by decide) rfl (ri_ss (by decide) (List.set_set _)) ?_
      refine ri_ev_go 2 (pc1 := 37) (L1 := [some (.ref 2), some (.int x5), some (.int 8)]) (st1 := [.ref 2, .ref 2]) (M1 := ((ri_M3.set 2 (.inl (.byte, (400, .inl (upd (upd (upd (g4) 16 (vp_nar .byte ((x5 >>> (24 &&& 31))).toInt8.toInt32)) 17 (vp_nar .byte ((x5 >>> (16 &&& 31))).toInt8.toInt32)) 18 (vp_nar .byte ((x5 >>> (8 &&& 31))).toInt8.toInt32)))))).set 1 (.inr (8, [.ref 3, .int 18])))) (c1 := 0) (s1 := 0) (fun n => rfl) ?_
      refine ri_ev_gf (k := 1) rfl (ri_gs (ri_gn (by decide) ri_M3_1)) rfl ?_
      refine ri_ev_go 2 (pc1 := 42) (L1 := [some (.ref 2), some (.int x5), some (.int 8)]) (st1 := [.int 19, .ref 2]) (M1 := ((ri_M3.set 2 (.inl (.byte, (400, .inl (upd (upd (upd (g4) 16 (vp_nar .byte ((x5 >>> (24 &&& 31))).toInt8.toInt32)) 17 (vp_nar .byte ((x5 >>> (16 &&& 31))).toInt8.toInt32)) 18 (vp_nar .byte ((x5 >>> (8 &&& 31))).toInt8.toInt32)))))).set 1 (.inr (8, [.ref 3, .int 18])))) (c1 := 0) (s1 := 0) (fun n => rfl) ?_
      refine ri_ev_pf (k := 1) (gs := [.ref 3, .int 19]) (M2 := ((ri_M3.set 2 (.inl (.byte, (400, .inl (upd (upd (upd (g4) 16 (vp_nar .byte ((x5 >>> (24 &&& 31))).toInt8.toInt32)) 17 (vp_nar .byte ((x5 >>> (16 &&& 31))).toInt8.toInt32)) 18 (vp_nar .byte ((x5 >>> (8 &&& 31))).toInt8.toInt32)))))).set 1 (.inr (8, [.ref 3, .int 19])))) rfl (ri_gs (ri_gn (by decide) ri_M3_1)) (Nat.le_of_ble_eq_true rfl) rfl rfl (List.set_set _) ?_
      refine ri_ev_go 5 (pc1 := 8) (L1 := [some (.ref 2), some (.int x5), some (.int 0)]) (st1 := [.ref 2]) (M1 := ((ri_M3.set 2 (.inl (.byte, (400, .inl (upd (upd (upd (g4) 16 (vp_nar .byte ((x5 >>> (24 &&& 31))).toInt8.toInt32)) 17 (vp_nar .byte ((x5 >>> (16 &&& 31))).toInt8.toInt32)) 18 (vp_nar .byte ((x5 >>> (8 &&& 31))).toInt8.toInt32)))))).set 1 (.inr (8, [.ref 3, .int 19])))) (c1 := 0) (s1 := 0) (fun n => rfl) ?_
      refine ri_ev_gf (k := 1) rfl (ri_gs (ri_gn (by decide) ri_M3_1)) rfl ?_
      refine ri_ev_go 1 (pc1 := 12) (L1 := [some (.ref 2), some (.int x5), some (.int 0)]) (st1 := [.ref 2, .int 19]) (M1 := ((ri_M3.set 2 (.inl (.byte, (400, .inl (upd (upd (upd (g4) 16 (vp_nar .byte ((x5 >>> (24 &&& 31))).toInt8.toInt32)) 17 (vp_nar .byte ((x5 >>> (16 &&& 31))).toInt8.toInt32)) 18 (vp_nar .byte ((x5 >>> (8 &&& 31))).toInt8.toInt32)))))).set 1 (.inr (8, [.ref 3, .int 19])))) (c1 := 0) (s1 := 0) (fun n => rfl) ?_
      refine ri_ev_gf (k := 1) rfl (ri_gs (ri_gn (by decide) ri_M3_1)) rfl ?_
      refine ri_ev_alnd (k := 2) (w := 400) rfl (ri_gn (by decide) (ri_gs ri_M3_2)) rfl ?_
      refine ri_ev_cls (M1 := ((ri_M3.set 2 (.inl (.byte, (400, .inl (upd (upd (upd (g4) 16 (vp_nar .byte ((x5 >>> (24 &&& 31))).toInt8.toInt32)) 17 (vp_nar .byte ((x5 >>> (16 &&& 31))).toInt8.toInt32)) 18 (vp_nar .byte ((x5 >>> (8 &&& 31))).toInt8.toInt32)))))).set 1 (.inr (8, [.ref 3, .int 19])))) (v := some (.int 0)) _ rfl (Or.inr rfl) rfl (Nat.le_of_ble_eq_true rfl) hc24 ?_
      refine ri_ev_go 2 (pc1 := 23) (L1 := [some (.ref 2), some (.int x5), some (.int 0)]) (st1 := [.ref 2]) (M1 := ((ri_M3.set 2 (.inl (.byte, (400, .inl (upd (upd (upd (g4) 16 (vp_nar .byte ((x5 >>> (24 &&& 31))).toInt8.toInt32)) 17 (vp_nar .byte ((x5 >>> (16 &&& 31))).toInt8.toInt32)) 18 (vp_nar .byte ((x5 >>> (8 &&& 31))).toInt8.toInt32)))))).set 1 (.inr (8, [.ref 3, .int 19])))) (c1 := 0) (s1 := 0) (fun n => rfl) ?_
      refine ri_ev_gf (k := 1) rfl (ri_gs (ri_gn (by decide) ri_M3_1)) rfl ?_
      refine ri_ev_go 1 (pc1 := 27) (L1 := [some (.ref 2), some (.int x5), some (.int 0)]) (st1 := [.ref 2, .ref 3]) (M1 := ((ri_M3.set 2 (.inl (.byte, (400, .inl (upd (upd (upd (g4) 16 (vp_nar .byte ((x5 >>> (24 &&& 31))).toInt8.toInt32)) 17 (vp_nar .byte ((x5 >>> (16 &&& 31))).toInt8.toInt32)) 18 (vp_nar .byte ((x5 >>> (8 &&& 31))).toInt8.toInt32)))))).set 1 (.inr (8, [.ref 3, .int 19])))) (c1 := 0) (s1 := 0) (fun n => rfl) ?_
      refine ri_ev_gf (k := 1) rfl (ri_gs (ri_gn (by decide) ri_M3_1)) rfl ?_
      refine ri_ev_go 4 (pc1 := 34) (L1 := [some (.ref 2), some (.int x5), some (.int 0)]) (st1 := [.int ((x5 >>> (0 &&& 31))).toInt8.toInt32, .int 19, .ref 3]) (M1 := ((ri_M3.set 2 (.inl (.byte, (400, .inl (upd (upd (upd (g4) 16 (vp_nar .byte ((x5 >>> (24 &&& 31))).toInt8.toInt32)) 17 (vp_nar .byte ((x5 >>> (16 &&& 31))).toInt8.toInt32)) 18 (vp_nar .byte ((x5 >>> (8 &&& 31))).toInt8.toInt32)))))).set 1 (.inr (8, [.ref 3, .int 19])))) (c1 := 0) (s1 := 0) (fun n => rfl) ?_
      refine ri_ev_basd (k := 2) (q := 19) (M2 := ((ri_M3.set 2 (.inl (.byte, (400, .inl (upd (upd (upd (upd (g4) 16 (vp_nar .byte ((x5 >>> (24 &&& 31))).toInt8.toInt32)) 17 (vp_nar .byte ((x5 >>> (16 &&& 31))).toInt8.toInt32)) 18 (vp_nar .byte ((x5 >>> (8 &&& 31))).toInt8.toInt32)) 19 (vp_nar .byte ((x5 >>> (0 &&& 31))).toInt8.toInt32)))))).set 1 (.inr (8, [.ref 3, .int 19])))) rfl (ri_gn (by decide) (ri_gs ri_M3_2)) (by decide) rfl (ri_ss (by decide) (List.set_set _)) ?_
      refine ri_ev_go 2 (pc1 := 37) (L1 := [some (.ref 2), some (.int x5), some (.int 0)]) (st1 := [.ref 2, .ref 2]) (M1 := ((ri_M3.set 2 (.inl (.byte, (400, .inl (upd (upd (upd (upd (g4) 16 (vp_nar .byte ((x5 >>> (24 &&& 31))).toInt8.toInt32)) 17 (vp_nar .byte ((x5 >>> (16 &&& 31))).toInt8.toInt32)) 18 (vp_nar .byte ((x5 >>> (8 &&& 31))).toInt8.toInt32)) 19 (vp_nar .byte ((x5 >>> (0 &&& 31))).toInt8.toInt32)))))).set 1 (.inr (8, [.ref 3, .int 19])))) (c1 := 0) (s1 := 0) (fun n => rfl) ?_
      refine ri_ev_gf (k := 1) rfl (ri_gs (ri_gn (by decide) ri_M3_1)) rfl ?_
      refine ri_ev_go 2 (pc1 := 42) (L1 := [some (.ref 2), some (.int x5), some (.int 0)]) (st1 := [.int 20, .ref 2]) (M1 := ((ri_M3.set 2 (.inl (.byte, (400, .inl (upd (upd (upd (upd (g4) 16 (vp_nar .byte ((x5 >>> (24 &&& 31))).toInt8.toInt32)) 17 (vp_nar .byte ((x5 >>> (16 &&& 31))).toInt8.toInt32)) 18 (vp_nar .byte ((x5 >>> (8 &&& 31))).toInt8.toInt32)) 19 (vp_nar .byte ((x5 >>> (0 &&& 31))).toInt8.toInt32)))))).set 1 (.inr (8, [.ref 3, .int 19])))) (c1 := 0) (s1 := 0) (fun n => rfl) ?_
      refine ri_ev_pf (k := 1) (gs := [.ref 3, .int 20]) (M2 := ((ri_M3.set 2 (.inl (.byte, (400, .inl (upd (upd (upd (upd (g4) 16 (vp_nar .byte ((x5 >>> (24 &&& 31))).toInt8.toInt32)) 17 (vp_nar .byte ((x5 >>> (16 &&& 31))).toInt8.toInt32)) 18 (vp_nar .byte ((x5 >>> (8 &&& 31))).toInt8.toInt32)) 19 (vp_nar .byte ((x5 >>> (0 &&& 31))).toInt8.toInt32)))))).set 1 (.inr (8, [.ref 3, .int 20])))) rfl (ri_gs (ri_gn (by decide) ri_M3_1)) (Nat.le_of_ble_eq_true rfl) rfl rfl (List.set_set _) ?_
      refine ri_ev_go 4 (pc1 := 51) (L1 := [some (.ref 2), some (.int x5), some (.int (-8))]) (st1 := []) (M1 := ((ri_M3.set 2 (.inl (.byte, (400, .inl (upd (upd (upd (upd (g4) 16 (vp_nar .byte ((x5 >>> (24 &&& 31))).toInt8.toInt32)) 17 (vp_nar .byte ((x5 >>> (16 &&& 31))).toInt8.toInt32)) 18 (vp_nar .byte ((x5 >>> (8 &&& 31))).toInt8.toInt32)) 19 (vp_nar .byte ((x5 >>> (0 &&& 31))).toInt8.toInt32)))))).set 1 (.inr (8, [.ref 3, .int 20])))) (c1 := 0) (s1 := 0) (fun n => rfl) ?_
      exact ri_ev_ret (fun n => rfl)
    refine ⟨g5, ?_⟩
    refine ri_ev_call (N := 31) (L := [some (.ref 1), some (.int x1), some (.int x2), some (.int x3), some (.int x4), some (.int x5)]) rfl (Nat.le_of_ble_eq_true rfl) ?_
    refine ri_ev_go 1 (pc1 := 1) (L1 := [some (.ref 1), some (.int x1), some (.int x2), some (.int x3), some (.int x4), some (.int x5)]) (st1 := [.ref 1]) (M1 := ri_M3) (c1 := 0) (s1 := 0) (fun n => rfl) ?_
    refine ri_ev_gf (k := 0) rfl ri_M3_0 rfl ?_
    refine ri_ev_gf (k := 1) rfl ri_M3_1 rfl ?_
    refine ri_ev_go 5 (pc1 := 19) (L1 := [some (.ref 1), some (.int x1), some (.int x2), some (.int x3), some (.int x4), some (.int x5)]) (st1 := [.ref 1]) (M1 := ri_M3) (c1 := 0) (s1 := 0) (fun n => rfl) ?_
    refine ri_ev_gf (k := 0) rfl ri_M3_0 rfl ?_
    refine ri_ev_go 1 (pc1 := 23) (L1 := [some (.ref 1), some (.int x1), some (.int x2), some (.int x3), some (.int x4), some (.int x5)]) (st1 := [.int x1, .ref 2]) (M1 := ri_M3) (c1 := 0) (s1 := 0) (fun n => rfl) ?_
    refine ri_ev_clv (k := 1) (M1 := ((ri_M3.set 2 (.inl (.byte, (400, .inl (g1))))).set 1 (.inr (8, [.ref 3, .int 4])))) (v := none) _ rfl rfl ri_M3_1 rfl (Nat.le_of_ble_eq_true rfl) hc5 ?_
    refine ri_ev_go 1 (pc1 := 27) (L1 := [some (.ref 1), some (.int x1), some (.int x2), some (.int x3), some (.int x4), some (.int x5)]) (st1 := [.ref 1]) (M1 := ((ri_M3.set 2 (.inl (.byte, (400, .inl (g1))))).set 1 (.inr (8, [.ref 3, .int 4])))) (c1 := 0) (s1 := 0) (fun n => rfl) ?_
    refine ri_ev_gf (k := 0) rfl (ri_gn (by decide) (ri_gn (by decide) ri_M3_0)) rfl ?_
    refine ri_ev_go 1 (pc1 := 31) (L1 := [some (.ref 1), some (.int x1), some (.int x2), some (.int x3), some (.int x4), some (.int x5)]) (st1 := [.int x2, .ref 2]) (M1 := ((ri_M3.set 2 (.inl (.byte, (400, .inl (g1))))).set 1 (.inr (8, [.ref 3, .int 4])))) (c1 := 0) (s1 := 0) (fun n => rfl) ?_
    refine ri_ev_clv (k := 1) (M1 := ((ri_M3.set 2 (.inl (.byte, (400, .inl (g2))))).set 1 (.inr (8, [.ref 3, .int 8])))) (v := none) _ rfl rfl (ri_gs (ri_gn (by decide) ri_M3_1)) rfl (Nat.le_of_ble_eq_true rfl) hc10 ?_
    refine ri_ev_go 1 (pc1 := 35) (L1 := [some (.ref 1), some (.int x1), some (.int x2), some (.int x3), some (.int x4), some (.int x5)]) (st1 := [.ref 1]) (M1 := ((ri_M3.set 2 (.inl (.byte, (400, .inl (g2))))).set 1 (.inr (8, [.ref 3, .int 8])))) (c1 := 0) (s1 := 0) (fun n => rfl) ?_
    refine ri_ev_gf (k := 0) rfl (ri_gn (by decide) (ri_gn (by decide) ri_M3_0)) rfl ?_
    refine ri_ev_go 1 (pc1 := 39) (L1 := [some (.ref 1), some (.int x1), some (.int x2), some (.int x3), some (.int x4), some (.int x5)]) (st1 := [.int x3, .ref 2]) (M1 := ((ri_M3.set 2 (.inl (.byte, (400, .inl (g2))))).set 1 (.inr (8, [.ref 3, .int 8])))) (c1 := 0) (s1 := 0) (fun n => rfl) ?_
    refine ri_ev_clv (k := 1) (M1 := ((ri_M3.set 2 (.inl (.byte, (400, .inl (g3))))).set 1 (.inr (8, [.ref 3, .int 12])))) (v := none) _ rfl rfl (ri_gs (ri_gn (by decide) ri_M3_1)) rfl (Nat.le_of_ble_eq_true rfl) hc15 ?_
    refine ri_ev_go 1 (pc1 := 43) (L1 := [some (.ref 1), some (.int x1), some (.int x2), some (.int x3), some (.int x4), some (.int x5)]) (st1 := [.ref 1]) (M1 := ((ri_M3.set 2 (.inl (.byte, (400, .inl (g3))))).set 1 (.inr (8, [.ref 3, .int 12])))) (c1 := 0) (s1 := 0) (fun n => rfl) ?_
    refine ri_ev_gf (k := 0) rfl (ri_gn (by decide) (ri_gn (by decide) ri_M3_0)) rfl ?_
    refine ri_ev_go 1 (pc1 := 48) (L1 := [some (.ref 1), some (.int x1), some (.int x2), some (.int x3), some (.int x4), some (.int x5)]) (st1 := [.int x4, .ref 2]) (M1 := ((ri_M3.set 2 (.inl (.byte, (400, .inl (g3))))).set 1 (.inr (8, [.ref 3, .int 12])))) (c1 := 0) (s1 := 0) (fun n => rfl) ?_
    refine ri_ev_clv (k := 1) (M1 := ((ri_M3.set 2 (.inl (.byte, (400, .inl (g4))))).set 1 (.inr (8, [.ref 3, .int 16])))) (v := none) _ rfl rfl (ri_gs (ri_gn (by decide) ri_M3_1)) rfl (Nat.le_of_ble_eq_true rfl) hc20 ?_
    refine ri_ev_go 1 (pc1 := 52) (L1 := [some (.ref 1), some (.int x1), some (.int x2), some (.int x3), some (.int x4), some (.int x5)]) (st1 := [.ref 1]) (M1 := ((ri_M3.set 2 (.inl (.byte, (400, .inl (g4))))).set 1 (.inr (8, [.ref 3, .int 16])))) (c1 := 0) (s1 := 0) (fun n => rfl) ?_
    refine ri_ev_gf (k := 0) rfl (ri_gn (by decide) (ri_gn (by decide) ri_M3_0)) rfl ?_
    refine ri_ev_go 1 (pc1 := 57) (L1 := [some (.ref 1), some (.int x1), some (.int x2), some (.int x3), some (.int x4), some (.int x5)]) (st1 := [.int x5, .ref 2]) (M1 := ((ri_M3.set 2 (.inl (.byte, (400, .inl (g4))))).set 1 (.inr (8, [.ref 3, .int 16])))) (c1 := 0) (s1 := 0) (fun n => rfl) ?_
    refine ri_ev_clv (k := 1) (M1 := ((ri_M3.set 2 (.inl (.byte, (400, .inl (g5))))).set 1 (.inr (8, [.ref 3, .int 20])))) (v := none) _ rfl rfl (ri_gs (ri_gn (by decide) ri_M3_1)) rfl (Nat.le_of_ble_eq_true rfl) hc25 ?_
    refine ri_ev_go 1 (pc1 := 61) (L1 := [some (.ref 1), some (.int x1), some (.int x2), some (.int x3), some (.int x4), some (.int x5)]) (st1 := [.ref 1]) (M1 := ((ri_M3.set 2 (.inl (.byte, (400, .inl (g5))))).set 1 (.inr (8, [.ref 3, .int 20])))) (c1 := 0) (s1 := 0) (fun n => rfl) ?_
    refine ri_ev_gf (k := 0) rfl (ri_gn (by decide) (ri_gn (by decide) ri_M3_0)) rfl ?_
    refine ri_ev_gf (k := 1) rfl (ri_gs (ri_gn (by decide) ri_M3_1)) rfl ?_
    exact ri_ev_ret (fun n => rfl)
  obtain ⟨g12, hc32⟩ : ∃ g12 : Nat → Int32, ri_c 19 172 [.ref 153, .int x1, .int x2, .int x3, .int x4, .int x5] ((ri_M3.set 2 (.inl (.byte, (400, .inl (g6))))).set 1 (.inr (8, [.ref 3, .int 20]))) = some (some (.int 20), ((((ri_M3.set 2 (.inl (.byte, (400, .inl (g6))))).set 1 (.inr (8, [.ref 3, .int 20]))).set 153 (.inl (.byte, (400, .inl (g12))))).set 152 (.inr (11, [.ref 154, .int 20, .int 0, .ref 155, .ref 156, .ref 157, .ref 158, .int 0, .int 0, .int 0, .ref 159, .ref 160, .int 0, .int 0, .int 0, .int 0, .int 0, .int 0, .int 0, .ref 161, .int 0, .ref 162, .int 0, .ref 163, .ref 164, .ref 165, .ref 166, .int 0, .int 0, .int 0, .ref 167, .ref 168, .ref 169, .int 0, .int 0, .int 0, .ref 170, .ref 171, .ref 172]))), 0, 0) := by
    obtain ⟨g7, hc27⟩ : ∃ g7 : Nat → Int32, ri_c 18 171 [.ref 153, .int x1] ((ri_M3.set 2 (.inl (.byte, (400, .inl (g6))))).set 1 (.inr (8, [.ref 3, .int 20]))) = some (none, ((((ri_M3.set 2 (.inl (.byte, (400, .inl (g6))))).set 1 (.inr (8, [.ref 3, .int 20]))).set 153 (.inl (.byte, (400, .inl (g7))))).set 152 (.inr (11, [.ref 154, .int 4, .int 0, .ref 155, .ref 156, .ref 157, .ref 158, .int 0, .int 0, .int 0, .ref 159, .ref 160, .int 0, .int 0, .int 0, .int 0, .int 0, .int 0, .int 0, .ref 161, .int 0, .ref 162, .int 0, .ref 163, .ref 164, .ref 165, .ref 166, .int 0, .int 0, .int 0, .ref 167, .ref 168, .ref 169, .int 0, .int 0, .int 0, .ref 170, .ref 171, .ref 172]))), 0, 0) := by
      refine ⟨upd (upd (upd (upd (fun _ => 0) 0 (vp_nar .byte ((x1 >>> (24 &&& 31))).toInt8.toInt32)) 1 (vp_nar .byte ((x1 >>> (16 &&& 31))).toInt8.toInt32)) 2 (vp_nar .byte ((x1 >>> (8 &&& 31))).toInt8.toInt32)) 3 (vp_nar .byte ((x1 >>> (0 &&& 31))).toInt8.toInt32), ?_⟩
      refine ri_ev_call (N := 81) (L := [some (.ref 153), some (.int x1), none]) rfl (Nat.le_of_ble_eq_true rfl) ?_
      refine ri_ev_go 5 (pc1 := 8) (L1 := [some (.ref 153), some (.int x1), some (.int 24)]) (st1 := [.ref 153]) (M1 := ((ri_M3.set 2 (.inl (.byte, (400, .inl (g6))))).set 1 (.inr (8, [.ref 3, .int 20])))) (c1 := 0) (s1 := 0) (fun n => rfl) ?_
      refine ri_ev_gf (k := 152) rfl (ri_gn (by decide) (ri_gn (by decide) ri_M3_152)) rfl ?_
      refine ri_ev_go 1 (pc1 := 12) (L1 := [some (.ref 153), some (.int x1), some (.int 24)]) (st1 := [.ref 153, .ref 154]) (M1 := ((ri_M3.set 2 (.inl (.byte, (400, .inl (g6))))).set 1 (.inr (8, [.ref 3, .int 20])))) (c1 := 0) (s1 := 0) (fun n => rfl) ?_
      refine ri_ev_gf (k := 152) rfl (ri_gn (by decide) (ri_gn (by decide) ri_M3_152)) rfl ?_
      refine ri_ev_go 4 (pc1 := 19) (L1 := [some (.ref 153), some (.int x1), some (.int 24)]) (st1 := [.int ((x1 >>> (24 &&& 31))).toInt8.toInt32, .int 0, .ref 154]) (M1 := ((ri_M3.set 2 (.inl (.byte, (400, .inl (g6))))).set 1 (.inr (8, [.ref 3, .int 20])))) (c1 := 0) (s1 := 0) (fun n => rfl) ?_
      refine ri_ev_basd (k := 153) (q := 0) (M2 := (((ri_M3.set 2 (.inl (.byte, (400, .inl (g6))))).set 1 (.inr (8, [.ref 3, .int 20]))).set 153 (.inl (.byte, (400, .inl (upd (fun _ => 0) 0 (vp_nar .byte ((x1 >>> (24 &&& 31))).toInt8.toInt32))))))) rfl (ri_gn (by decide) (ri_gn (by decide) ri_M3_153)) (by decide) rfl rfl ?_
      refine ri_ev_go 2 (pc1 := 22) (L1 := [some (.ref 153), some (.int x1), some (.int 24)]) (st1 := [.ref 153, .ref 153]) (M1 := (((ri_M3.set 2 (.inl (.byte, (400, .inl (g6))))).set 1 (.inr (8, [.ref 3, .int 20]))).set 153 (.inl (.byte, (400, .inl (upd (fun _ => 0) 0 (vp_nar .byte ((x1 >>> (24 &&& 31))).toInt8.toInt32))))))) (c1 := 0) (s1 := 0) (fun n => rfl) ?_
      refine ri_ev_gf (k := 152) rfl (ri_gn (by decide) (ri_gn (by decide) (ri_gn (by decide) ri_M3_152))) rfl ?_
      refine ri_ev_go 2 (pc1 := 27) (L1 := [some (.ref 153), some (.int x1), some (.int 24)]) (st1 := [.int 1, .ref 153]) (M1 := (((ri_M3.set 2 (.inl (.byte, (400, .inl (g6))))).set 1 (.inr (8, [.ref 3, .int 20]))).set 153 (.inl (.byte, (400, .inl (upd (fun _ => 0) 0 (vp_nar .byte ((x1 >>> (24 &&& 31))).toInt8.toInt32))))))) (c1 := 0) (s1 := 0) (fun n => rfl) ?_
      refine ri_ev_pf (k := 152) (gs := [.ref 154, .int 1, .int 0, .ref 155, .ref 156, .ref 157, .ref 158, .int 0, .int 0, .int 0, .ref 159, .ref 160, .int 0, .int 0, .int 0, .int 0, .int 0, .int 0, .int 0, .ref 161, .int 0, .ref 162, .int 0, .ref 163, .ref 164, .ref 165, .ref 166, .int 0, .int 0, .int 0, .ref 167, .ref 168, .ref 169, .int 0, .int 0, .int 0, .ref 170, .ref 171, .ref 172]) (M2 := ((((ri_M3.set 2 (.inl (.byte, (400, .inl (g6))))).set 1 (.inr (8, [.ref 3, .int 20]))).set 153 (.inl (.byte, (400, .inl (upd (fun _ => 0) 0 (vp_nar .byte ((x1 >>> (24 &&& 31))).toInt8.toInt32)))))).set 152 (.inr (11, [.ref 154, .int 1, .int 0, .ref 155, .ref 156, .ref 157, .ref 158, .int 0, .int 0, .int 0, .ref 159, .ref 160, .int 0, .int 0, .int 0, .int 0, .int 0, .int 0, .int 0, .ref 161, .int 0, .ref 162, .int 0, .ref 163, .ref 164, .ref 165, .ref 166, .int 0, .int 0, .int 0, .ref 167, .ref 168, .ref 169, .int 0, .int 0, .int 0, .ref 170, .ref 171, .ref 172])))) rfl (ri_gn (by decide) (ri_gn (by decide) (ri_gn (by decide) ri_M3_152))) (Nat.le_of_ble_eq_true rfl) rfl rfl rfl ?_
      refine ri_ev_go 5 (pc1 := 8) (L1 := [some (.ref 153), some (.int x1), some (.int 16)]) (st1 := [.ref 153]) (M1 := ((((ri_M3.set 2 (.inl (.byte, (400, .inl (g6))))).set 1 (.inr (8, [.ref 3, .int 20]))).set 153 (.inl (.byte, (400, .inl (upd (fun _ => 0) 0 (vp_nar .byte ((x1 >>> (24 &&& 31))).toInt8.toInt32)))))).set 152 (.inr (11, [.ref 154, .int 1, .int 0, .ref 155, .ref 156, .ref 157, .ref 158, .int 0, .int 0, .int 0, .ref 159, .ref 160, .int 0, .int 0, .int 0, .int 0, .int 0, .int 0, .int 0, .ref 161, .int 0, .ref 162, .int 0, .ref 163, .ref 164, .ref 165, .ref 166, .int 0, .int 0, .int 0, .ref 167, .ref 168, .ref 169, .int 0, .int 0, .int 0, .ref 170, .ref 171, .ref 172])))) (c1 := 0) (s1 := 0) (fun n => rfl) ?_
      refine ri_ev_gf (k := 152) rfl (ri_gs (ri_gn (by decide) (ri_gn (by decide) (ri_gn (by decide) ri_M3_152)))) rfl ?_
      refine ri_ev_go 1 (pc1 := 12) (L1 := [some (.ref 153), some (.int x1), some (.int 16)]) (st1 := [.ref 153, .ref 154]) (M1 := ((((ri_M3.set 2 (.inl (.byte, (400, .inl (g6))))).set 1 (.inr (8, [.ref 3, .int 20]))).set 153 (.inl (.byte, (400, .inl (upd (fun _ => 0) 0 (vp_nar .byte ((x1 >>> (24 &&& 31))).toInt8.toInt32)))))).set 152 (.inr (11, [.ref 154, .int 1, .int 0, .ref 155, .ref 156, .ref 157, .ref 158, .int 0, .int 0, .int 0, .ref 159, .ref 160, .int 0, .int 0, .int 0, .int 0, .int 0, .int 0, .int 0, .ref 161, .int 0, .ref 162, .int 0, .ref 163, .ref 164, .ref 165, .ref 166, .int 0, .int 0, .int 0, .ref 167, .ref 168, .ref 169, .int 0, .int 0, .int 0, .ref 170, .ref 171, .ref 172])))) (c1 := 0) (s1 := 0) (fun n => rfl) ?_
      refine ri_ev_gf (k := 152) rfl (ri_gs (ri_gn (by decide) (ri_gn (by decide) (ri_gn (by decide) ri_M3_152)))) rfl ?_
      refine ri_ev_go 4 (pc1 := 19) (L1 := [some (.ref 153), some (.int x1), some (.int 16)]) (st1 := [.int ((x1 >>> (16 &&& 31))).toInt8.toInt32, .int 1, .ref 154]) (M1 := ((((ri_M3.set 2 (.inl (.byte, (400, .inl (g6))))).set 1 (.inr (8, [.ref 3, .int 20]))).set 153 (.inl (.byte, (400, .inl (upd (fun _ => 0) 0 (vp_nar .byte ((x1 >>> (24 &&& 31))).toInt8.toInt32)))))).set 152 (.inr (11, [.ref 154, .int 1, .int 0, .ref 155, .ref 156, .ref 157, .ref 158, .int 0, .int 0, .int 0, .ref 159, .ref 160, .int 0, .int 0, .int 0, .int 0, .int 0, .int 0, .int 0, .ref 161, .int 0, .ref 162, .int 0, .ref 163, .ref 164, .ref 165, .ref 166, .int 0, .int 0, .int 0, .ref 167, .ref 168, .ref 169, .int 0, .int 0, .int 0, .ref 170, .ref 171, .ref 172])))) (c1 := 0) (s1 := 0) (fun n => rfl) ?_
      refine ri_ev_basd (k := 153) (q := 1) (M2 := ((((ri_M3.set 2 (.inl (.byte, (400, .inl (g6))))).set 1 (.inr (8, [.ref 3, .int 20]))).set 153 (.inl (.byte, (400, .inl (upd (upd (fun _ => 0) 0 (vp_nar .byte ((x1 >>> (24 &&& 31))).toInt8.toInt32)) 1 (vp_nar .byte ((x1 >>> (16 &&& 31))).toInt8.toInt32)))))).set 152 (.inr (11, [.ref 154, .int 1, .int 0, .ref 155, .ref 156, .ref 157, .ref 158, .int 0, .int 0, .int 0, .ref 159, .ref 160, .int 0, .int 0, .int 0, .int 0, .int 0, .int 0, .int 0, .ref 161, .int 0, .ref 162, .int 0, .ref 163, .ref 164, .ref 165, .ref 166, .int 0, .int 0, .int 0, .ref 167, .ref 168, .ref 169, .int 0, .int 0, .int 0, .ref 170, .ref 171, .ref 172])))) rfl (ri_gn (by decide) (ri_gs (ri_gn (by decide) (ri_gn (by decide) ri_M3_153)))) (by decide) rfl (ri_ss (by decide) (List.set_set _)) ?_
      refine ri_ev_go 2 (pc1 := 22) (L1 := [some (.ref 153), some (.int x1), some (.int 16)]) (st1 := [.ref 153, .ref 153]) (M1 := ((((ri_M3.set 2 (.inl (.byte, (400, .inl (g6))))).set 1 (.inr (8, [.ref 3, .int 20]))).set 153 (.inl (.byte, (400, .inl (upd (upd (fun _ => 0) 0 (vp_nar .byte ((x1 >>> (24 &&& 31))).toInt8.toInt32)) 1 (vp_nar .byte ((x1 >>> (16 &&& 31))).toInt8.toInt32)))))).set 152 (.inr (11, [.ref 154, .int 1, .int 0, .ref 155, .ref 156, .ref 157, .ref 158, .int 0, .int 0, .int 0, .ref 159, .ref 160, .int 0, .int 0, .int 0, .int 0, .int 0, .int 0, .int 0, .ref 161, .int 0, .ref 162, .int 0, .ref 163, .ref 164, .ref 165, .ref 166, .int 0, .int 0, .int 0, .ref 167, .ref 168, .ref 169, .int 0, .int 0, .int 0, .ref 170, .ref 171, .ref 172])))) (c1 := 0) (s1 := 0) (fun n => rfl) ?_
      refine ri_ev_gf (k := 152) rfl (ri_gs (ri_gn (by decide) (ri_gn (by decide) (ri_gn (by decide) ri_M3_152)))) rfl ?_
      refine ri_ev_go 2 (pc1 := 27) (L1 := [some (.ref 153), some (.int x1), some (.int 16)]) (st1 := [.int 2, .ref 153]) (M1 := ((((ri_M3.set 2 (.inl (.byte, (400, .inl (g6))))).set 1 (.inr (8, [.ref 3, .int 20]))).set 153 (.inl (.byte, (400, .inl (upd (upd (fun _ => 0) 0 (vp_nar .byte ((x1 >>> (24 &&& 31))).toInt8.toInt32)) 1 (vp_nar .byte ((x1 >>> (16 &&& 31))).toInt8.toInt32)))))).set 152 (.inr (11, [.ref 154, .int 1, .int 0, .ref 155, .ref 156, .ref 157, .ref 158, .int 0, .int 0, .int 0, .ref 159, .ref 160, .int 0, .int 0, .int 0, .int 0, .int 0, .int 0, .int 0, .ref 161, .int 0, .ref 162, .int 0, .ref 163, .ref 164, .ref 165, .ref 166, .int 0, .int 0, .int 0, .ref 167, .ref 168, .ref 169, .int 0, .int 0, .int 0, .ref 170, .ref 171, .ref 172])))) (c1 := 0) (s1 := 0) (fun n => rfl) ?_
      refine ri_ev_pf (k := 152) (gs := [.ref 154, .int 2, .int 0, .ref 155, .ref 156, .ref 157, .ref 158, .int 0, .int 0, .int 0, .ref 159, .ref 160, .int 0, .int 0, .int 0, .int 0, .int 0, .int 0, .int 0, .ref 161, .int 0, .ref 162, .int 0, .ref 163, .ref 164, .ref 165, .ref 166, .int 0, .int 0, .int 0, .ref 167, .ref 168, .ref 169, .int 0, .int 0, .int 0, .ref 170, .ref 171, .ref 172]) (M2 := ((((ri_M3.set 2 (.inl (.byte, (400, .inl (g6))))).set 1 (.inr (8, [.ref 3, .int 20]))).set 153 (.inl (.byte, (400, .inl (upd (upd (fun _ => 0) 0 (vp_nar .byte ((x1 >>> (24 &&& 31))).toInt8.toInt32)) 1 (vp_nar .byte ((x1 >>> (16 &&& 31))).toInt8.toInt32)))))).set 152 (.inr (11, [.ref 154, .int 2, .int 0, .ref 155, .ref 156, .ref 157, .ref 158, .int 0, .int 0, .int 0, .ref 159, .ref 160, .int 0, .int 0, .int 0, .int 0, .int 0, .int 0, .int 0, .ref 161, .int 0, .ref 162, .int 0, .ref 163, .ref 164, .ref 165, .ref 166, .int 0, .int 0, .int 0, .ref 167, .ref 168, .ref 169, .int 0, .int 0, .int 0, .ref 170, .ref 171, .ref 172])))) rfl (ri_gs (ri_gn (by decide) (ri_gn (by decide) (ri_gn (by decide) ri_M3_152)))) (Nat.le_of_ble_eq_true rfl) rfl rfl (List.set_set _) ?_
      refine ri_ev_go 5 (pc1 := 8) (L1 := [some (.ref 153), some (.int x1), some (.int 8)]) (st1 := [.ref 153]) (M1 := ((((ri_M3.set 2 (.inl (.byte, (400, .inl (g6))))).set 1 (.inr (8, [.ref 3, .int 20]))).set 153 (.inl (.byte, (400, .inl (upd (upd (fun _ => 0) 0 (vp_nar .byte ((x1 >>> (24 &&& 31))).toInt8.toInt32)) 1 (vp_nar .byte ((x1 >>> (16 &&& 31))).toInt8.toInt32)))))).set 152 (.inr (11, [.ref 154, .int 2, .int 0, .ref 155, .ref 156, .ref 157, .ref 158, .int 0, .int 0, .int 0, .ref 159, .ref 160, .int 0, .int 0, .int 0, .int 0, .int 0, .int 0, .int 0, .ref 161, .int 0, .ref 162, .int 0, .ref 163, .ref 164, .ref 165, .ref 166, .int 0, .int 0, .int 0, .ref 167, .ref 168, .ref 169, .int 0, .int 0, .int 0, .ref 170, .ref 171, .ref 172])))) (c1 := 0) (s1 := 0) (fun n => rfl) ?_
      refine ri_ev_gf (k := 152) rfl (ri_gs (ri_gn (by decide) (ri_gn (by decide) (ri_gn (by decide) ri_M3_152)))) rfl ?_
      refine ri_ev_go 1 (pc1 := 12) (L1 := [some (.ref 153), some (.int x1), some (.int 8)]) (st1 := [.ref 153, .ref 154]) (M1 := ((((ri_M3.set 2 (.inl (.byte, (400, .inl (g6))))).set 1 (.inr (8, [.ref 3, .int 20]))).set 153 (.inl (.byte, (400, .inl (upd (upd (fun _ => 0) 0 (vp_nar .byte ((x1 >>> (24 &&& 31))).toInt8.toInt32)) 1 (vp_nar .byte ((x1 >>> (16 &&& 31))).toInt8.toInt32)))))).set 152 (.inr (11, [.ref 154, .int 2, .int 0, .ref 155, .ref 156, .ref 157, .ref 158, .int 0, .int 0, .int 0, .ref 159, .ref 160, .int 0, .int 0, .int 0, .int 0, .int 0, .int 0, .int 0, .ref 161, .int 0, .ref 162, .int 0, .ref 163, .ref 164, .ref 165, .ref 166, .int 0, .int 0, .int 0, .ref 167, .ref 168, .ref 169, .int 0, .int 0, .int 0, .ref 170, .ref 171, .ref 172])))) (c1 := 0) (s1 := 0) (fun n => rfl) ?_
      refine ri_ev_gf (k := 152) rfl (ri_gs (ri_gn (by decide) (ri_gn (by decide) (ri_gn (by decide) ri_M3_152)))) rfl ?_
      refine ri_ev_go 4 (pc1 := 19) (L1 := [some (.ref 153), some (.int x1), some (.int 8)]) (st1 := [.int ((x1 >>> (8 &&& 31))).toInt8.toInt32, .int 2, .ref 154]) (M1 := ((((ri_M3.set 2 (.inl (.byte, (400, .inl (g6))))).set 1 (.inr (8, [.ref 3, .int 20]))).set 153 (.inl (.byte, (400, .inl (upd (upd (fun _ => 0) 0 (vp_nar .byte ((x1 >>> (24 &&& 31))).toInt8.toInt32)) 1 (vp_nar .byte ((x1 >>> (16 &&& 31))).toInt8.toInt32)))))).set 152 (.inr (11, [.ref 154, .int 2, .int 0, .ref 155, .ref 156, .ref 157, .ref 158, .int 0, .int 0, .int 0, .ref 159, .ref 160, .int 0, .int 0, .int 0, .int 0, .int 0, .int 0, .int 0, .ref 161, .int 0, .ref 162, .int 0, .ref 163, .ref 164, .ref 165, .ref 166, .int 0, .int 0, .int 0, .ref 167, .ref 168, .ref 169, .int 0, .int 0, .int 0, .ref 170, .ref 171, .ref 172])))) (c1 := 0) (s1 := 0) (fun n => rfl) ?_
      refine ri_ev_basd (k := 153) (q := 2) (M2 := ((((ri_M3.set 2 (.inl (.byte, (400, .inl (g6))))).set 1 (.inr (8, [.ref 3, .int 20]))).set 153 (.inl (.byte, (400, .inl (upd (upd (upd (fun _ => 0) 0 (vp_nar .byte ((x1 >>> (24 &&& 31))).toInt8.toInt32)) 1 (vp_nar .byte ((x1 >>> (16 &&& 31))).toInt8.toInt32)) 2 (vp_nar .byte ((x1 >>> (8 &&& 31))).toInt8.toInt32)))))).set 152 (.inr (11, [.ref 154, .int 2, .int 0, .ref 155, .ref 156, .ref 157, .ref 158, .int 0, .int 0, .int 0, .ref 159, .ref 160, .int 0, .int 0, .int 0, .int 0, .int 0, .int 0, .int 0, .ref 161, .int 0, .ref 162, .int 0, .ref 163, .ref 164, .ref 165, .ref 166, .int 0, .int 0, .int 0, .ref 167, .ref 168, .ref 169, .int 0, .int 0, .int 0, .ref 170, .ref 171, .ref 172])))) rfl (ri_gn (by decide) (ri_gs (ri_gn (by decide) (ri_gn (by decide) ri_M3_153)))) (by decide) rfl (ri_ss (by decide) (List.set_set _)) ?_
      refine ri_ev_go 2 (pc1 := 22) (L1 := [some (.ref 153), some (.int x1), some (.int 8)]) (st1 := [.ref 153, .ref 153]) (M1 := ((((ri_M3.set 2 (.inl (.byte, (400, .inl (g6))))).set 1 (.inr (8, [.ref 3, .int 20]))).set 153 (.inl (.byte, (400, .inl (upd (upd (upd (fun _ => 0) 0 (vp_nar .byte ((x1 >>> (24 &&& 31))).toInt8.toInt32)) 1 (vp_nar .byte ((x1 >>> (16 &&& 31))).toInt8.toInt32)) 2 (vp_nar .byte ((x1 >>> (8 &&& 31))).toInt8.toInt32)))))).set 152 (.inr (11, [.ref 154, .int 2, .int 0, .ref 155, .ref 156, .ref 157, .ref 158, .int 0, .int 0, .int 0, .ref 159, .ref 160, .int 0, .int 0, .int 0, .int 0, .int 0, .int 0, .int 0, .ref 161, .int 0, .ref 162, .int 0, .ref 163, .ref 164, .ref 165, .ref 166, .int 0, .int 0, .int 0, .ref 167, .ref 168, .ref 169, .int 0, .int 0, .int 0, .ref 170, .ref 171, .ref 172])))) (c1 := 0) (s1 := 0) (fun n => rfl) ?_
      refine ri_ev_gf (k := 152) rfl (ri_gs (ri_gn (by decide) (ri_gn (by decide) (ri_gn (by decide) ri_M3_152)))) rfl ?_
      refine ri_ev_go 2 (pc1 := 27) (L1 := [some (.ref 153), some (.int x1), some (.int 8)]) (st1 := [.int 3, .ref 153]) (M1 := ((((ri_M3.set 2 (.inl (.byte, (400, .inl (g6))))).set 1 (.inr (8, [.ref 3, .int 20]))).set 153 (.inl (.byte, (400, .inl (upd (upd (upd (fun _ => 0) 0 (vp_nar .byte ((x1 >>> (24 &&& 31))).toInt8.toInt32)) 1 (vp_nar .byte ((x1 >>> (16 &&& 31))).toInt8.toInt32)) 2 (vp_nar .byte ((x1 >>> (8 &&& 31))).toInt8.toInt32)))))).set 152 (.inr (11, [.ref 154, .int 2, .int 0, .ref 155, .ref 156, .ref 157, .ref 158, .int 0, .int 0, .int 0, .ref 159, .ref 160, .int 0, .int 0, .int 0, .int 0, .int 0, .int 0, .int 0, .ref 161, .int 0, .ref 162, .int 0, .ref 163, .ref 164, .ref 165, .ref 166, .int 0, .int 0, .int 0, .ref 167, .ref 168, .ref 169, .int 0, .int 0, .int 0, .ref 170, .ref 171, .ref 172])))) (c1 := 0) (s1 := 0) (fun n => rfl) ?_
      refine ri_ev_pf (k := 152) (gs := [.ref 154, .int 3, .int 0, .ref 155, .ref 156, .ref 157, .ref 158, .int 0, .int 0, .int 0, .ref 159, .ref 160, .int 0, .int 0, .int 0, .int 0, .int 0, .int 0, .int 0, .ref 161, .int 0, .ref 162, .int 0, .ref 163, .ref 164, .ref 165, .ref 166, .int 0, .int 0, .int 0, .ref 167, .ref 168, .ref 169, .int 0, .int 0, .int 0, .ref 170, .ref 171, .ref 172]) (M2 := ((((ri_M3.set 2 (.inl (.byte, (400, .inl (g6))))).set 1 (.inr (8, [.ref 3, .int 20]))).set 153 (.inl (.byte, (400, .inl (upd (upd (upd (fun _ => 0) 0 (vp_nar .byte ((x1 >>> (24 &&& 31))).toInt8.toInt32)) 1 (vp_nar .byte ((x1 >>> (16 &&& 31))).toInt8.toInt32)) 2 (vp_nar .byte ((x1 >>> (8 &&& 31))).toInt8.toInt32)))))).set 152 (.inr (11, [.ref 154, .int 3, .int 0, .ref 155, .ref 156, .ref 157, .ref 158, .int 0, .int 0, .int 0, .ref 159, .ref 160, .int 0, .int 0, .int 0, .int 0, .int 0, .int 0, .int 0, .ref 161, .int 0, .ref 162, .int 0, .ref 163, .ref 164, .ref 165, .ref 166, .int 0, .int 0, .int 0, .ref 167, .ref 168, .ref 169, .int 0, .int 0, .int 0, .ref 170, .ref 171, .ref 172])))) rfl (ri_gs (ri_gn (by decide) (ri_gn (by decide) (ri_gn (by decide) ri_M3_152)))) (Nat.le_of_ble_eq_true rfl) rfl rfl (List.set_set _) ?_
      refine ri_ev_go 5 (pc1 := 8) (L1 := [some (.ref 153), some (.int x1), some (.int 0)]) (st1 := [.ref 153]) (M1 := ((((ri_M3.set 2 (.inl (.byte, (400, .inl (g6))))).set 1 (.inr (8, [.ref 3, .int 20]))).set 153 (.inl (.byte, (400, .inl (upd (upd (upd (fun _ => 0) 0 (vp_nar .byte ((x1 >>> (24 &&& 31))).toInt8.toInt32)) 1 (vp_nar .byte ((x1 >>> (16 &&& 31))).toInt8.toInt32)) 2 (vp_nar .byte ((x1 >>> (8 &&& 31))).toInt8.toInt32)))))).set 152 (.inr (11, [.ref 154, .int 3, .int 0, .ref 155, .ref 156, .ref 157, .ref 158, .int 0, .int 0, .int 0, .ref 159, .ref 160, .int 0, .int 0, .int 0, .int 0, .int 0, .int 0, .int 0, .ref 161, .int 0, .ref 162, .int 0, .ref 163, .ref 164, .ref 165, .ref 166, .int 0, .int 0, .int 0, .ref 167, .ref 168, .ref 169, .int 0, .int 0, .int 0, .ref 170, .ref 171, .ref 172])))) (c1 := 0) (s1 := 0) (fun n => rfl) ?_
      refine ri_ev_gf (k := 152) rfl (ri_gs (ri_gn (by decide) (ri_gn (by decide) (ri_gn (by decide) ri_M3_152)))) rfl ?_
      refine ri_ev_go 1 (pc1 := 12) (L1 := [some (.ref 153), some (.int x1), some (.int 0)]) (st1 := [.ref 153, .ref 154]) (M1 := ((((ri_M3.set 2 (.inl (.byte, (400, .inl (g6))))).set 1 (.inr (8, [.ref 3, .int 20]))).set 153 (.inl (.byte, (400, .inl (upd (upd (upd (fun _ => 0) 0 (vp_nar .byte ((x1 >>> (24 &&& 31))).toInt8.toInt32)) 1 (vp_nar .byte ((x1 >>> (16 &&& 31))).toInt8.toInt32)) 2 (vp_nar .byte ((x1 >>> (8 &&& 31))).toInt8.toInt32)))))).set 152 (.inr (11, [.ref 154, .int 3, .int 0, .ref 155, .ref 156, .ref 157, .ref 158, .int 0, .int 0, .int 0, .ref 159, .ref 160, .int 0, .int 0, .int 0, .int 0, .int 0, .int 0, .int 0, .ref 161, .int 0, .ref 162, .int 0, .ref 163, .ref 164, .ref 165, .ref 166, .int 0, .int 0, .int 0, .ref 167, .ref 168, .ref 169, .int 0, .int 0, .int 0, .ref 170, .ref 171, .ref 172])))) (c1 := 0) (s1 := 0) (fun n => rfl) ?_
      refine ri_ev_gf (k := 152) rfl (ri_gs (ri_gn (by decide) (ri_gn (by decide) (ri_gn (by decide) ri_M3_152)))) rfl ?_
      refine ri_ev_go 4 (pc1 := 19) (L1 := [some (.ref 153), some (.int x1), some (.int 0)]) (st1 := [.int ((x1 >>> (0 &&& 31))).toInt8.toInt32, .int 3, .ref 154]) (M1 := ((((ri_M3.set 2 (.inl (.byte, (400, .inl (g6))))).set 1 (.inr (8, [.ref 3, .int 20]))).set 153 (.inl (.byte, (400, .inl (upd (upd (upd (fun _ => 0) 0 (vp_nar .byte ((x1 >>> (24 &&& 31))).toInt8.toInt32)) 1 (vp_nar .byte ((x1 >>> (16 &&& 31))).toInt8.toInt32)) 2 (vp_nar .byte ((x1 >>> (8 &&& 31))).toInt8.toInt32)))))).set 152 (.inr (11, [.ref 154, .int 3, .int 0, .ref 155, .ref 156, .ref 157, .ref 158, .int 0, .int 0, .int 0, .ref 159, .ref 160, .int 0, .int 0, .int 0, .int 0, .int 0, .int 0, .int 0, .ref 161, .int 0, .ref 162, .int 0, .ref 163, .ref 164, .ref 165, .ref 166, .int 0, .int 0, .int 0, .ref 167, .ref 168, .ref 169, .int 0, .int 0, .int 0, .ref 170, .ref 171, .ref 172])))) (c1 := 0) (s1 := 0) (fun n => rfl) ?_
      refine ri_ev_basd (k := 153) (q := 3) (M2 := ((((ri_M3.set 2 (.inl (.byte, (400, .inl (g6))))).set 1 (.inr (8, [.ref 3, .int 20]))).set 153 (.inl (.byte, (400, .inl (upd (upd (upd (upd (fun _ => 0) 0 (vp_nar .byte ((x1 >>> (24 &&& 31))).toInt8.toInt32)) 1 (vp_nar .byte ((x1 >>> (16 &&& 31))).toInt8.toInt32)) 2 (vp_nar .byte ((x1 >>> (8 &&& 31))).toInt8.toInt32)) 3 (vp_nar .byte ((x1 >>> (0 &&& 31))).toInt8.toInt32)))))).set 152 (.inr (11, [.ref 154, .int 3, .int 0, .ref 155, .ref 156, .ref 157, .ref 158, .int 0, .int 0, .int 0, .ref 159, .ref 160, .int 0, .int 0, .int 0, .int 0, .int 0, .int 0, .int 0, .ref 161, .int 0, .ref 162, .int 0, .ref 163, .ref 164, .ref 165, .ref 166, .int 0, .int 0, .int 0, .ref 167, .ref 168, .ref 169, .int 0, .int 0, .int 0, .ref 170, .ref 171, .ref 172])))) rfl (ri_gn (by decide) (ri_gs (ri_gn (by decide) (ri_gn (by decide) ri_M3_153)))) (by decide) rfl (ri_ss (by decide) (List.set_set _)) ?_
      refine ri_ev_go 2 (pc1 := 22) (L1 := [some (.ref 153), some (.int x1), some (.int 0)]) (st1 := [.ref 153, .ref 153]) (M1 := ((((ri_M3.set 2 (.inl (.byte, (400, .inl (g6))))).set 1 (.inr (8, [.ref 3, .int 20]))).set 153 (.inl (.byte, (400, .inl (upd (upd (upd (upd (fun _ => 0) 0 (vp_nar .byte ((x1 >>> (24 &&& 31))).toInt8.toInt32)) 1 (vp_nar .byte ((x1 >>> (16 &&& 31))).toInt8.toInt32)) 2 (vp_nar .byte ((x1 >>> (8 &&& 31))).toInt8.toInt32)) 3 (vp_nar .byte ((x1 >>> (0 &&& 31))).toInt8.toInt32)))))).set 152 (.inr (11, [.ref 154, .int 3, .int 0, .ref 155, .ref 156, .ref 157, .ref 158, .int 0, .int 0, .int 0, .ref 159, .ref 160, .int 0, .int 0, .int 0, .int 0, .int 0, .int 0, .int 0, .ref 161, .int 0, .ref 162, .int 0, .ref 163, .ref 164, .ref 165, .ref 166, .int 0, .int 0, .int 0, .ref 167, .ref 168, .ref 169, .int 0, .int 0, .int 0, .ref 170, .ref 171, .ref 172])))) (c1 := 0) (s1 := 0) (fun n => rfl) ?_
      refine ri_ev_gf (k := 152) rfl (ri_gs (ri_gn (by decide) (ri_gn (by decide) (ri_gn (by decide) ri_M3_152)))) rfl ?_
      refine ri_ev_go 2 (pc1 := 27) (L1 := [some (.ref 153), some (.int x1), some (.int 0)]) (st1 := [.int 4, .ref 153]) (M1 := ((((ri_M3.set 2 (.inl (.byte, (400, .inl (g6))))).set 1 (.inr (8, [.ref 3, .int 20]))).set 153 (.inl (.byte, (400, .inl (upd (upd (upd (upd (fun _ => 0) 0 (vp_nar .byte ((x1 >>> (24 &&& 31))).toInt8.toInt32)) 1 (vp_nar .byte ((x1 >>> (16 &&& 31))).toInt8.toInt32)) 2 (vp_nar .byte ((x1 >>> (8 &&& 31))).toInt8.toInt32)) 3 (vp_nar .byte ((x1 >>> (0 &&& 31))).toInt8.toInt32)))))).set 152 (.inr (11, [.ref 154, .int 3, .int 0, .ref 155, .ref 156, .ref 157, .ref 158, .int 0, .int 0, .int 0, .ref 159, .ref 160, .int 0, .int 0, .int 0, .int 0, .int 0, .int 0, .int 0, .ref 161, .int 0, .ref 162, .int 0, .ref 163, .ref 164, .ref 165, .ref 166, .int 0, .int 0, .int 0, .ref 167, .ref 168, .ref 169, .int 0, .int 0, .int 0, .ref 170, .ref 171, .ref 172])))) (c1 := 0) (s1 := 0) (fun n => rfl) ?_
      refine ri_ev_pf (k := 152) (gs := [.ref 154, .int 4, .int 0, .ref 155, .ref 156, .ref 157, .ref 158, .int 0, .int 0, .int 0, .ref 159, .ref 160, .int 0, .int 0, .int 0, .int 0, .int 0, .int 0, .int 0, .ref 161, .int 0, .ref 162, .int 0, .ref 163, .ref 164, .ref 165, .ref 166, .int 0, .int 0, .int 0, .ref 167, .ref 168, .ref 169, .int 0, .int 0, .int 0, .ref 170, .ref 171, .ref 172]) (M2 := ((((ri_M3.set 2 (.inl (.byte, (400, .inl (g6))))).set 1 (.inr (8, [.ref 3, .int 20]))).set 153 (.inl (.byte, (400, .inl (upd (upd (upd (upd (fun _ => 0) 0 (vp_nar .byte ((x1 >>> (24 &&& 31))).toInt8.toInt32)) 1 (vp_nar .byte ((x1 >>> (16 &&& 31))).toInt8.toInt32)) 2 (vp_nar .byte ((x1 >>> (8 &&& 31))).toInt8.toInt32)) 3 (vp_nar .byte ((x1 >>> (0 &&& 31))).toInt8.toInt32)))))).set 152 (.inr (11, [.ref 154, .int 4, .int 0, .ref 155, .ref 156, .ref 157, .ref 158, .int 0, .int 0, .int 0, .ref 159, .ref 160, .int 0, .int 0, .int 0, .int 0, .int 0, .int 0, .int 0, .ref 161, .int 0, .ref 162, .int 0, .ref 163, .ref 164, .ref 165, .ref 166, .int 0, .int 0, .int 0, .ref 167, .ref 168, .ref 169, .int 0, .int 0, .int 0, .ref 170, .ref 171, .ref 172])))) rfl (ri_gs (ri_gn (by decide) (ri_gn (by decide) (ri_gn (by decide) ri_M3_152)))) (Nat.le_of_ble_eq_true rfl) rfl rfl (List.set_set _) ?_
      refine ri_ev_go 4 (pc1 := 36) (L1 := [some (.ref 153), some (.int x1), some (.int (-8))]) (st1 := []) (M1 := ((((ri_M3.set 2 (.inl (.byte, (400, .inl (g6))))).set 1 (.inr (8, [.ref 3, .int 20]))).set 153 (.inl (.byte, (400, .inl (upd (upd (upd (upd (fun _ => 0) 0 (vp_nar .byte ((x1 >>> (24 &&& 31))).toInt8.toInt32)) 1 (vp_nar .byte ((x1 >>> (16 &&& 31))).toInt8.toInt32)) 2 (vp_nar .byte ((x1 >>> (8 &&& 31))).toInt8.toInt32)) 3 (vp_nar .byte ((x1 >>> (0 &&& 31))).toInt8.toInt32)))))).set 152 (.inr (11, [.ref 154, .int 4, .int 0, .ref 155, .ref 156, .ref 157, .ref 158, .int 0, .int 0, .int 0, .ref 159, .ref 160, .int 0, .int 0, .int 0, .int 0, .int 0, .int 0, .int 0, .ref 161, .int 0, .ref 162, .int 0, .ref 163, .ref 164, .ref 165, .ref 166, .int 0, .int 0, .int 0, .ref 167, .ref 168, .ref 169, .int 0, .int 0, .int 0, .ref 170, .ref 171, .ref 172])))) (c1 := 0) (s1 := 0) (fun n => rfl) ?_
      exact ri_ev_ret (fun n => rfl)
    obtain ⟨g8, hc28⟩ : ∃ g8 : Nat → Int32, ri_c 18 171 [.ref 153, .int x2] ((((ri_M3.set 2 (.inl (.byte, (400, .inl (g6))))).set 1 (.inr (8, [.ref 3, .int 20]))).set 153 (.inl (.byte, (400, .inl (g7))))).set 152 (.inr (11, [.ref 154, .int 4, .int 0, .ref 155, .ref 156, .ref 157, .ref 158, .int 0, .int 0, .int 0, .ref 159, .ref 160, .int 0, .int 0, .int 0, .int 0, .int 0, .int 0, .int 0, .ref 161, .int 0, .ref 162, .int 0, .ref 163, .ref 164, .ref 165, .ref 166, .int 0, .int 0, .int 0, .ref 167, .ref 168, .ref 169, .int 0, .int 0, .int 0, .ref 170, .ref 171, .ref 172]))) = some (none, ((((ri_M3.set 2 (.inl (.byte, (400, .inl (g6))))).set 1 (.inr (8, [.ref 3, .int 20]))).set 153 (.inl (.byte, (400, .inl (g8))))).set 152 (.inr (11, [.ref 154, .int 8, .int 0, .ref 155, .ref 156, .ref 157, .ref 158, .int 0, .int 0, .int 0, .ref 159, .ref 160, .int 0, .int 0, .int 0, .int 0, .int 0, .int 0, .int 0, .ref 161, .int 0, .ref 162, .int 0, .ref 163, .ref 164, .ref 165, .ref 166, .int 0, .int 0, .int 0, .ref 167, .ref 168, .ref 169, .int 0, .int 0, .int 0, .ref 170, .ref 171, .ref 172]))), 0, 0) := by
      refine ⟨upd (upd (upd (upd (g7) 4 (vp_nar .byte ((x2 >>> (24 &&& 31))).toInt8.toInt32)) 5 (vp_nar .byte ((x2 >>> (16 &&& 31))).toInt8.toInt32)) 6 (vp_nar .byte ((x2 >>> (8 &&& 31))).toInt8.toInt32)) 7 (vp_nar .byte ((x2 >>> (0 &&& 31))).toInt8.toInt32), ?_⟩
      refine ri_ev_call (N := 81) (L := [some (.ref 153), some (.int x2), none]) rfl (Nat.le_of_ble_eq_true rfl) ?_
      refine ri_ev_go 5 (pc1 := 8) (L1 := [some (.ref 153), some (.int x2), some (.int 24)]) (st1 := [.ref 153]) (M1 := ((((ri_M3.set 2 (.inl (.byte, (400, .inl (g6))))).set 1 (.inr (8, [.ref 3, .int 20]))).set 153 (.inl (.byte, (400, .inl (g7))))).set 152 (.inr (11, [.ref 154, .int 4, .int 0, .ref 155, .ref 156, .ref 157, .ref 158, .int 0, .int 0, .int 0, .ref 159, .ref 160, .int 0, .int 0, .int 0, .int 0, .int 0, .int 0, .int 0, .ref 161, .int 0, .ref 162, .int 0, .ref 163, .ref 164, .ref 165, .ref 166, .int 0, .int 0, .int 0, .ref 167, .ref 168, .ref 169, .int 0, .int 0, .int 0, .ref 170, .ref 171, .ref 172])))) (c1 := 0) (s1 := 0) (fun n => rfl) ?_
      refine ri_ev_gf (k := 152) rfl (ri_gs (ri_gn (by decide) (ri_gn (by decide) (ri_gn (by decide) ri_M3_152)))) rfl ?_
      refine ri_ev_go 1 (pc1 := 12) (L1 := [some (.ref 153), some (.int x2), some (.int 24)]) (st1 := [.ref 153, .ref 154]) (M1 := ((((ri_M3.set 2 (.inl (.byte, (400, .inl (g6))))).set 1 (.inr (8, [.ref 3, .int 20]))).set 153 (.inl (.byte, (400, .inl (g7))))).set 152 (.inr (11, [.ref 154, .int 4, .int 0, .ref 155, .ref 156, .ref 157, .ref 158, .int 0, .int 0, .int 0, .ref 159, .ref 160, .int 0, .int 0, .int 0, .int 0, .int 0, .int 0, .int 0, .ref 161, .int 0, .ref 162, .int 0, .ref 163, .ref 164, .ref 165, .ref 166, .int 0, .int 0, .int 0, .ref 167, .ref 168, .ref 169, .int 0, .int 0, .int 0, .ref 170, .ref 171, .ref 172])))) (c1 := 0) (s1 := 0) (fun n => rfl) ?_
      refine ri_ev_gf (k := 152) rfl (ri_gs (ri_gn (by decide) (ri_gn (by decide) (ri_gn (by decide) ri_M3_152)))) rfl ?_
      refine ri_ev_go 4 (pc1 := 19) (L1 := [some (.ref 153), some (.int x2), some (.int 24)]) (st1 := [.int ((x2 >>> (24 &&& 31))).toInt8.toInt32, .int 4, .ref 154]) (M1 := ((((ri_M3.set 2 (.inl (.byte, (400, .inl (g6))))).set 1 (.inr (8, [.ref 3, .int 20]))).set 153 (.inl (.byte, (400, .inl (g7))))).set 152 (.inr (11, [.ref 154, .int 4, .int 0, .ref 155, .ref 156, .ref 157, .ref 158, .int 0, .int 0, .int 0, .ref 159, .ref 160, .int 0, .int 0, .int 0, .int 0, .int 0, .int 0, .int 0, .ref 161, .int 0, .ref 162, .int 0, .ref 163, .ref 164, .ref 165, .ref 166, .int 0, .int 0, .int 0, .ref 167, .ref 168, .ref 169, .int 0, .int 0, .int 0, .ref 170, .ref 171, .ref 172])))) (c1 := 0) (s1 := 0) (fun n => rfl) ?_
      refine ri_ev_basd (k := 153) (q := 4) (M2 := ((((ri_M3.set 2 (.inl (.byte, (400, .inl (g6))))).set 1 (.inr (8, [.ref 3, .int 20]))).set 153 (.inl (.byte, (400, .inl (upd (g7) 4 (vp_nar .byte ((x2 >>> (24 &&& 31))).toInt8.toInt32)))))).set 152 (.inr (11, [.ref 154, .int 4, .int 0, .ref 155, .ref 156, .ref 157, .ref 158, .int 0, .int 0, .int 0, .ref 159, .ref 160, .int 0, .int 0, .int 0, .int 0, .int 0, .int 0, .int 0, .ref 161, .int 0, .ref 162, .int 0, .ref 163, .ref 164, .ref 165, .ref 166, .int 0, .int 0, .int 0, .ref 167, .ref 168, .ref 169, .int 0, .int 0, .int 0, .ref 170, .ref 171, .ref 172])))) rfl (ri_gn (by decide) (ri_gs (ri_gn (by decide) (ri_gn (by decide) ri_M3_153)))) (by decide) rfl (ri_ss (by decide) (List.set_set _)) ?_
      refine ri_ev_go 2 (pc1 := 22) (L1 := [some (.ref 153), some (.int x2), some (.int 24)]) (st1 := [.ref 153, .ref 153]) (M1 := ((((ri_M3.set 2 (.inl (.byte, (400, .inl (g6))))).set 1 (.inr (8, [.ref 3, .int 20]))).set 153 (.inl (.byte, (400, .inl (upd (g7) 4 (vp_nar .byte ((x2 >>> (24 &&& 31))).toInt8.toInt32)))))).set 152 (.inr (11, [.ref 154, .int 4, .int 0, .ref 155, .ref 156, .ref 157, .ref 158, .int 0, .int 0, .int 0, .ref 159, .ref 160, .int 0, .int 0, .int 0, .int 0, .int 0, .int 0, .int 0, .ref 161, .int 0, .ref 162, .int 0, .ref 163, .ref 164, .ref 165, .ref 166, .int 0, .int 0, .int 0, .ref 167, .ref 168, .ref 169, .int 0, .int 0, .int 0, .ref 170, .ref 171, .ref 172])))) (c1 := 0) (s1 := 0) (fun n => rfl) ?_
      refine ri_ev_gf (k := 152) rfl (ri_gs (ri_gn (by decide) (ri_gn (by decide) (ri_gn (by decide) ri_M3_152)))) rfl ?_
      refine ri_ev_go 2 (pc1 := 27) (L1 := [some (.ref 153), some (.int x2), some (.int 24)]) (st1 := [.int 5, .ref 153]) (M1 := ((((ri_M3.set 2 (.inl (.byte, (400, .inl (g6))))).set 1 (.inr (8, [.ref 3, .int 20]))).set 153 (.inl (.byte, (400, .inl (upd (g7) 4 (vp_nar .byte ((x2 >>> (24 &&& 31))).toInt8.toInt32)))))).set 152 (.inr (11, [.ref 154, .int 4, .int 0, .ref 155, .ref 156, .ref 157, .ref 158, .int 0, .int 0, .int 0, .ref 159, .ref 160, .int 0, .int 0, .int 0, .int 0, .int 0, .int 0, .int 0, .ref 161, .int 0, .ref 162, .int 0, .ref 163, .ref 164, .ref 165, .ref 166, .int 0, .int 0, .int 0, .ref 167, .ref 168, .ref 169, .int 0, .int 0, .int 0, .ref 170, .ref 171, .ref 172])))) (c1 := 0) (s1 := 0) (fun n => rfl) ?_
      refine ri_ev_pf (k := 152) (gs := [.ref 154, .int 5, .int 0, .ref 155, .ref 156, .ref 157, .ref 158, .int 0, .int 0, .int 0, .ref 159, .ref 160, .int 0, .int 0, .int 0, .int 0, .int 0, .int 0, .int 0, .ref 161, .int 0, .ref 162, .int 0, .ref 163, .ref 164, .ref 165, .ref 166, .int 0, .int 0, .int 0, .ref 167, .ref 168, .ref 169, .int 0, .int 0, .int 0, .ref 170, .ref 171, .ref 172]) (M2 := ((((ri_M3.set 2 (.inl (.byte, (400, .inl (g6))))).set 1 (.inr (8, [.ref 3, .int 20]))).set 153 (.inl (.byte, (400, .inl (upd (g7) 4 (vp_nar .byte ((x2 >>> (24 &&& 31))).toInt8.toInt32)))))).set 152 (.inr (11, [.ref 154, .int 5, .int 0, .ref 155, .ref 156, .ref 157, .ref 158, .int 0, .int 0, .int 0, .ref 159, .ref 160, .int 0, .int 0, .int 0, .int 0, .int 0, .int 0, .int 0, .ref 161, .int 0, .ref 162, .int 0, .ref 163, .ref 164, .ref 165, .ref 166, .int 0, .int 0, .int 0, .ref 167, .ref 168, .ref 169, .int 0, .int 0, .int 0, .ref 170, .ref 171, .ref 172])))) rfl (ri_gs (ri_gn (by decide) (ri_gn (by decide) (ri_gn (by decide) ri_M3_152)))) (Nat.le_of_ble_eq_true rfl) rfl rfl (List.set_set _) ?_
      refine ri_ev_go 5 (pc1 := 8) (L1 := [some (.ref 153), some (.int x2), some (.int 16)]) (st1 := [.ref 153]) (M1 := ((((ri_M3.set 2 (.inl (.byte, (400, .inl (g6))))).set 1 (.inr (8, [.ref 3, .int 20]))).set 153 (.inl (.byte, (400, .inl (upd (g7) 4 (vp_nar .byte ((x2 >>> (24 &&& 31))).toInt8.toInt32)))))).set 152 (.inr (11, [.ref 154, .int 5, .int 0, .ref 155, .ref 156, .ref 157, .ref 158, .int 0, .int 0, .int 0, .ref 159, .ref 160, .int 0, .int 0, .int 0, .int 0, .int 0, .int 0, .int 0, .ref 161, .int 0, .ref 162, .int 0, .ref 163, .ref 164, .ref 165, .ref 166, .int 0, .int 0, .int 0, .ref 167, .ref 168, .ref 169, .int 0, .int 0, .int 0, .ref 170, .ref 171, .ref 172])))) (c1 := 0) (s1 := 0) (fun n => rfl) ?_
      refine ri_ev_gf (k := 152) rfl (ri_gs (ri_gn (by decide) (ri_gn (by decide) (ri_gn (by decide) ri_M3_152)))) rfl ?_
      refine ri_ev_go 1 (pc1 := 12) (L1 := [some (.ref 153), some (.int x2), some (.int 16)]) (st1 := [.ref 153, .ref 154]) (M1 := ((((ri_M3.set 2 (.inl (.byte, (400, .inl (g6))))).set 1 (.inr (8, [.ref 3, .int 20]))).set 153 (.inl (.byte, (400, .inl (upd (g7) 4 (vp_nar .byte ((x2 >>> (24 &&& 31))).toInt8.toInt32)))))).set 152 (.inr (11, [.ref 154, .int 5, .int 0, .ref 155, .ref 156, .ref 157, .ref 158, .int 0, .int 0, .int 0, .ref 159, .ref 160, .int 0, .int 0, .int 0, .int 0, .int 0, .int 0, .int 0, .ref 161, .int 0, .ref 162, .int 0, .ref 163, .ref 164, .ref 165, .ref 166, .int 0, .int 0, .int 0, .ref 167, .ref 168, .ref 169, .int 0, .int 0, .int 0, .ref 170, .ref 171, .ref 172])))) (c1 := 0) (s1 := 0) (fun n => rfl) ?_
      refine ri_ev_gf (k := 152) rfl (ri_gs (ri_gn (by decide) (ri_gn (by decide) (ri_gn (by decide) ri_M3_152)))) rfl ?_
      refine ri_ev_go 4 (pc1 := 19) (L1 := [some (.ref 153), some (.int x2), some (.int 16)]) (st1 := [.int ((x2 >>> (16 &&& 31))).toInt8.toInt32, .int 5, .ref 154]) (M1 := ((((ri_M3.set 2 (.inl (.byte, (400, .inl (g6))))).set 1 (.inr (8, [.ref 3, .int 20]))).set 153 (.inl (.byte, (400, .inl (upd (g7) 4 (vp_nar .byte ((x2 >>> (24 &&& 31))).toInt8.toInt32)))))).set 152 (.inr (11, [.ref 154, .int 5, .int 0, .ref 155, .ref 156, .ref 157, .ref 158, .int 0, .int 0, .int 0, .ref 159, .ref 160, .int 0, .int 0, .int 0, .int 0, .int 0, .int 0, .int 0, .ref 161, .int 0, .ref 162, .int 0, .ref 163, .ref 164, .ref 165, .ref 166, .int 0, .int 0, .int 0, .ref 167, .ref 168, .ref 169, .int 0, .int 0, .int 0, .ref 170, .ref 171, .ref 172])))) (c1 := 0) (s1 := 0) (fun n => rfl) ?_
      refine ri_ev_basd (k := 153) (q := 5) (M2 := ((((ri_M3.set 2 (.inl (.byte, (400, .inl (g6))))).set 1 (.inr (8, [.ref 3, .int 20]))).set 153 (.inl (.byte, (400, .inl (upd (upd (g7) 4 (vp_nar .byte ((x2 >>> (24 &&& 31))).toInt8.toInt32)) 5 (vp_nar .byte ((x2 >>> (16 &&& 31))).toInt8.toInt32)))))).set 152 (.inr (11, [.ref 154, .int 5, .int 0, .ref 155, .ref 156, .ref 157, .ref 158, .int 0, .int 0, .int 0, .ref 159, .ref 160, .int 0, .int 0, .int 0, .int 0, .int 0, .int 0, .int 0, .ref 161, .int 0, .ref 162, .int 0, .ref 163, .ref 164, .ref 165, .ref 166, .int 0, .int 0, .int 0, .ref 167, .ref 168, .ref 169, .int 0, .int 0, .int 0, .ref 170, .ref 171, .ref 172])))) rfl (ri_gn (by decide) (ri_gs (ri_gn (by decide) (ri_gn (by decide) ri_M3_153)))) (by decide) rfl (ri_ss (by decide) (List.set_set _)) ?_
      refine ri_ev_go 2 (pc1 := 22) (L1 := [some (.ref 153), some (.int x2), some (.int 16)]) (st1 := [.ref 153, .ref 153]) (M1 := ((((ri_M3.set 2 (.inl (.byte, (400, .inl (g6))))).set 1 (.inr (8, [.ref 3, .int 20]))).set 153 (.inl (.byte, (400, .inl (upd (upd (g7) 4 (vp_nar .byte ((x2 >>> (24 &&& 31))).toInt8.toInt32)) 5 (vp_nar .byte ((x2 >>> (16 &&& 31))).toInt8.toInt32)))))).set 152 (.inr (11, [.ref 154, .int 5, .int 0, .ref 155, .ref 156, .ref 157, .ref 158, .int 0, .int 0, .int 0, .ref 159, .ref 160, .int 0, .int 0, .int 0, .int 0, .int 0, .int 0, .int 0, .ref 161, .int 0, .ref 162, .int 0, .ref 163, .ref 164, .ref 165, .ref 166, .int 0, .int 0, .int 0, .ref 167, .ref 168, .ref 169, .int 0, .int 0, .int 0, .ref 170, .ref 171, .ref 172])))) (c1 := 0) (s1 := 0) (fun n => rfl) ?_
      refine ri_ev_gf (k := 152) rfl (ri_gs (ri_gn (by decide) (ri_gn (by decide) (ri_gn (by decide) ri_M3_152)))) rfl ?_
      refine ri_ev_go 2 (pc1 := 27) (L1 := [some (.ref 153), some (.int x2), some (.int 16)]) (st1 := [.int 6, .ref 153]) (M1 := ((((ri_M3.set 2 (.inl (.byte, (400, .inl (g6))))).set 1 (.inr (8, [.ref 3, .int 20]))).set 153 (.inl (.byte, (400, .inl (upd (upd (g7) 4 (vp_nar .byte ((x2 >>> (24 &&& 31))).toInt8.toInt32)) 5 (vp_nar .byte ((x2 >>> (16 &&& 31))).toInt8.toInt32)))))).set 152 (.inr (11, [.ref 154, .int 5, .int 0, .ref 155, .ref 156, .ref 157, .ref 158, .int 0, .int 0, .int 0, .ref 159, .ref 160, .int 0, .int 0, .int 0, .int 0, .int 0, .int 0, .int 0, .ref 161, .int 0, .ref 162, .int 0, .ref 163, .ref 164, .ref 165, .ref 166, .int 0, .int 0, .int 0, .ref 167, .ref 168, .ref 169, .int 0, .int 0, .int 0, .ref 170, .ref 171, .ref 172])))) (c1 := 0) (s1 := 0) (fun n => rfl) ?_
      refine ri_ev_pf (k := 152) (gs := [.ref 154, .int 6, .int 0, .ref 155, .ref 156, .ref 157, .ref 158, .int 0, .int 0, .int 0, .ref 159, .ref 160, .int 0, .int 0, .int 0, .int 0, .int 0, .int 0, .int 0, .ref 161, .int 0, .ref 162, .int 0, .ref 163, .ref 164, .ref 165, .ref 166, .int 0, .int 0, .int 0, .ref 167, .ref 168, .ref 169, .int 0, .int 0, .int 0, .ref 170, .ref 171, .ref 172]) (M2 := ((((ri_M3.set 2 (.inl (.byte, (400, .inl (g6))))).set 1 (.inr (8, [.ref 3, .int 20]))).set 153 (.inl (.byte, (400, .inl (upd (upd (g7) 4 (vp_nar .byte ((x2 >>> (24 &&& 31))).toInt8.toInt32)) 5 (vp_nar .byte ((x2 >>> (16 &&& 31))).toInt8.toInt32)))))).set 152 (.inr (11, [.ref 154, .int 6, .int 0, .ref 155, .ref 156, .ref 157, .ref 158, .int 0, .int 0, .int 0, .ref 159, .ref 160, .int 0, .int 0, .int 0, .int 0, .int 0, .int 0, .int 0, .ref 161, .int 0, .ref 162, .int 0, .ref 163, .ref 164, .ref 165, .ref 166, .int 0, .int 0, .int 0, .ref 167, .ref 168, .ref 169, .int 0, .int 0, .int 0, .ref 170, .ref 171, .ref 172])))) rfl (ri_gs (ri_gn (by decide) (ri_gn (by decide) (ri_gn (by decide) ri_M3_152)))) (Nat.le_of_ble_eq_true rfl) rfl rfl (List.set_set _) ?_
      refine ri_ev_go 5 (pc1 := 8) (L1 := [some (.ref 153), some (.int x2), some (.int 8)]) (st1 := [.ref 153]) (M1 := ((((ri_M3.set 2 (.inl (.byte, (400, .inl (g6))))).set 1 (.inr (8, [.ref 3, .int 20]))).set 153 (.inl (.byte, (400, .inl (upd (upd (g7) 4 (vp_nar .byte ((x2 >>> (24 &&& 31))).toInt8.toInt32)) 5 (vp_nar .byte ((x2 >>> (16 &&& 31))).toInt8.toInt32)))))).set 152 (.inr (11, [.ref 154, .int 6, .int 0, .ref 155, .ref 156, .ref 157, .ref 158, .int 0, .int 0, .int 0, .ref 159, .ref 160, .int 0, .int 0, .int 0, .int 0, .int 0, .int 0, .int 0, .ref 161, .int 0, .ref 162, .int 0, .ref 163, .ref 164, .ref 165, .ref 166, .int 0, .int 0, .int 0, .ref 167, .ref 168, .ref 169, .int 0, .int 0, .int 0, .ref 170, .ref 171, .ref 172])))) (c1 := 0) (s1 := 0) (fun n => rfl) ?_
      refine ri_ev_gf (k := 152) rfl (ri_gs (ri_gn (by decide) (ri_gn (by decide) (ri_gn (by decide) ri_M3_152)))) rfl ?_
      refine ri_ev_go 1 (pc1 := 12) (L1 := [some (.ref 153), some (.int x2), some (.int 8)]) (st1 := [.ref 153, .ref 154]) (M1 := ((((ri_M3.set 2 (.inl (.byte, (400, .inl (g6))))).set 1 (.inr (8, [.ref 3, .int 20]))).set 153 (.inl (.byte, (400, .inl (upd (upd (g7) 4 (vp_nar .byte ((x2 >>> (24 &&& 31))).toInt8.toInt32)) 5 (vp_nar .byte ((x2 >>> (16 &&& 31))).toInt8.toInt32)))))).set 152 (.inr (11, [.ref 154, .int 6, .int 0, .ref 155, .ref 156, .ref 157, .ref 158, .int 0, .int 0, .int 0, .ref 159, .ref 160, .int 0, .int 0, .int 0, .int 0, .int 0, .int 0, .int 0, .ref 161, .int 0, .ref 162, .int 0, .ref 163, .ref 164, .ref 165, .ref 166, .int 0, .int 0, .int 0, .ref 167, .ref 168, .ref 169, .int 0, .int 0, .int 0, .ref 170, .ref 171, .ref 172])))) (c1 := 0) (s1 := 0) (fun n => rfl) ?_
      refine ri_ev_gf (k := 152) rfl (ri_gs (ri_gn (by decide) (ri_gn (by decide) (ri_gn (by decide) ri_M3_152)))) rfl ?_
      refine ri_ev_go 4 (pc1 := 19) (L1 := [some (.ref 153), some (.int x2), some (.int 8)]) (st1 := [.int ((x2 >>> (8 &&& 31))).toInt8.toInt32, .int 6, .ref 154]) (M1 := ((((ri_M3.set 2 (.inl (.byte, (400, .inl (g6))))).set 1 (.inr (8, [.ref 3, .int 20]))).set 153 (.inl (.byte, (400, .inl (upd (upd (g7) 4 (vp_nar .byte ((x2 >>> (24 &&& 31))).toInt8.toInt32)) 5 (vp_nar .byte ((x2 >>> (16 &&& 31))).toInt8.toInt32)))))).set 152 (.inr (11, [.ref 154, .int 6, .int 0, .ref 155, .ref 156, .ref 157, .ref 158, .int 0, .int 0, .int 0, .ref 159, .ref 160, .int 0, .int 0, .int 0, .int 0, .int 0, .int 0, .int 0, .ref 161, .int 0, .ref 162, .int 0, .ref 163, .ref 164, .ref 165, .ref 166, .int 0, .int 0, .int 0, .ref 167, .ref 168, .ref 169, .int 0, .int 0, .int 0, .ref 170, .ref 171, .ref 172])))) (c1 := 0) (s1 := 0) (fun n => rfl) ?_
      refine ri_ev_basd (k := 153) (q := 6) (M2 := ((((ri_M3.set 2 (.inl (.byte, (400, .inl (g6))))).set 1 (.inr (8, [.ref 3, .int 20]))).set 153 (.inl (.byte, (400, .inl (upd (upd (upd (g7) 4 (vp_nar .byte ((x2 >>> (24 &&& 31))).toInt8.toInt32)) 5 (vp_nar .byte ((x2 >>> (16 &&& 31))).toInt8.toInt32)) 6 (vp_nar .byte ((x2 >>> (8 &&& 31))).toInt8.toInt32)))))).set 152 (.inr (11, [.ref 154, .int 6, .int 0, .ref 155, .ref 156, .ref 157, .ref 158, .int 0, .int 0, .int 0, .ref 159, .ref 160, .int 0, .int 0, .int 0, .int 0, .int 0, .int 0, .int 0, .ref 161, .int 0, .ref 162, .int 0, .ref 163, .ref 164, .ref 165, .ref 166, .int 0, .int 0, .int 0, .ref 167, .ref 168, .ref 169, .int 0, .int 0, .int 0, .ref 170, .ref 171, .ref 172])))) rfl (ri_gn (by decide) (ri_gs (ri_gn (by decide) (ri_gn (by decide) ri_M3_153)))) (by decide) rfl (ri_ss (by decide) (List.set_set _)) ?_
      refine ri_ev_go 2 (pc1 := 22) (L1 := [some (.ref 153), some (.int x2), some (.int 8)]) (st1 := [.ref 153, .ref 153]) (M1 := ((((ri_M3.set 2 (.inl (.byte, (400, .inl (g6))))).set 1 (.inr (8, [.ref 3, .int 20]))).set 153 (.inl (.byte, (400, .inl (upd (upd (upd (g7) 4 (vp_nar .byte ((x2 >>> (24 &&& 31))).toInt8.toInt32)) 5 (vp_nar .byte ((x2 >>> (16 &&& 31))).toInt8.toInt32)) 6 (vp_nar .byte ((x2 >>> (8 &&& 31))).toInt8.toInt32)))))).set 152 (.inr (11, [.ref 154, .int 6, .int 0, .ref 155, .ref 156, .ref 157, .ref 158, .int 0, .int 0, .int 0, .ref 159, .ref 160, .int 0, .int 0, .int 0, .int 0, .int 0, .int 0, .int 0, .ref 161, .int 0, .ref 162, .int 0, .ref 163, .ref 164, .ref 165, .ref 166, .int 0, .int 0, .int 0, .ref 167, .ref 168, .ref 169, .int 0, .int 0, .int 0, .ref 170, .ref 171, .ref 172])))) (c1 := 0) (s1 := 0) (fun n => rfl) ?_
      refine ri_ev_gf (k := 152) rfl (ri_gs (ri_gn (by decide) (ri_gn (by decide) (ri_gn (by decide) ri_M3_152)))) rfl ?_
      refine ri_ev_go 2 (pc1 := 27) (L1 := [some (.ref 153), some (.int x2), some (.int 8)]) (st1 := [.int 7, .ref 153]) (M1 := ((((ri_M3.set 2 (.inl (.byte, (400, .inl (g6))))).set 1 (.inr (8, [.ref 3, .int 20]))).set 153 (.inl (.byte, (400, .inl (upd (upd (upd (g7) 4 (vp_nar .byte ((x2 >>> (24 &&& 31))).toInt8.toInt32)) 5 (vp_nar .byte ((x2 >>> (16 &&& 31))).toInt8.toInt32)) 6 (vp_nar .byte ((x2 >>> (8 &&& 31))).toInt8.toInt32)))))).set 152 (.inr (11, [.ref 154, .int 6, .int 0, .ref 155, .ref 156, .ref 157, .ref 158, .int 0, .int 0, .int 0, .ref 159, .ref 160, .int 0, .int 0, .int 0, .int 0, .int 0, .int 0, .int 0, .ref 161, .int 0, .ref 162, .int 0, .ref 163, .ref 164, .ref 165, .ref 166, .int 0, .int 0, .int 0, .ref 167, .ref 168, .ref 169, .int 0, .int 0, .int 0, .ref 170, .ref 171, .ref 172])))) (c1 := 0) (s1 := 0) (fun n => rfl) ?_
      refine ri_ev_pf (k := 152) (gs := [.ref 154, .int 7, .int 0, .ref 155, .ref 156, .ref 157, .ref 158, .int 0, .int 0, .int 0, .ref 159, .ref 160, .int 0, .int 0, .int 0, .int 0, .int 0, .int 0, .int 0, .ref 161, .int 0, .ref 162, .int 0, .ref 163, .ref 164, .ref 165, .ref 166, .int 0, .int 0, .int 0, .ref 167, .ref 168, .ref 169, .int 0, .int 0, .int 0, .ref 170, .ref 171, .ref 172]) (M2 := ((((ri_M3.set 2 (.inl (.byte, (400, .inl (g6))))).set 1 (.inr (8, [.ref 3, .int 20]))).set 153 (.inl (.byte, (400, .inl (upd (upd (upd (g7) 4 (vp_nar .byte ((x2 >>> (24 &&& 31))).toInt8.toInt32)) 5 (vp_nar .byte ((x2 >>> (16 &&& 31))).toInt8.toInt32)) 6 (vp_nar .byte ((x2 >>> (8 &&& 31))).toInt8.toInt32)))))).set 152 (.inr (11, [.ref 154, .int 7, .int 0, .ref 155, .ref 156, .ref 157, .ref 158, .int 0, .int 0, .int 0, .ref 159, .ref 160, .int 0, .int 0, .int 0, .int 0, .int 0, .int 0, .int 0, .ref 161, .int 0, .ref 162, .int 0, .ref 163, .ref 164, .ref 165, .ref 166, .int 0, .int 0, .int 0, .ref 167, .ref 168, .ref 169, .int 0, .int 0, .int 0, .ref 170, .ref 171, .ref 172])))) rfl (ri_gs (ri_gn (by decide) (ri_gn (by decide) (ri_gn (by decide) ri_M3_152)))) (Nat.le_of_ble_eq_true rfl) rfl rfl (List.set_set _) ?_
      refine ri_ev_go 5 (pc1 := 8) (L1 := [some (.ref 153), some (.int x2), some (.int 0)]) (st1 := [.ref 153]) (M1 := ((((ri_M3.set 2 (.inl (.byte, (400, .inl (g6))))).set 1 (.inr (8, [.ref 3, .int 20]))).set 153 (.inl (.byte, (400, .inl (upd (upd (upd (g7) 4 (vp_nar .byte ((x2 >>> (24 &&& 31))).toInt8.toInt32)) 5 (vp_nar .byte ((x2 >>> (16 &&& 31))).toInt8.toInt32)) 6 (vp_nar .byte ((x2 >>> (8 &&& 31))).toInt8.toInt32)))))).set 152 (.inr (11, [.ref 154, .int 7, .int 0, .ref 155, .ref 156, .ref 157, .ref 158, .int 0, .int 0, .int 0, .ref 159, .ref 160, .int 0, .int 0, .int 0, .int 0, .int 0, .int 0, .int 0, .ref 161, .int 0, .ref 162, .int 0, .ref 163, .ref 164, .ref 165, .ref 166, .int 0, .int 0, .int 0, .ref 167, .ref 168, .ref 169, .int 0, .int 0, .int 0, .ref 170, .ref 171, .ref 172])))) (c1 := 0) (s1 := 0) (fun n => rfl) ?_
      refine ri_ev_gf (k := 152) rfl (ri_gs (ri_gn (by decide) (ri_gn (by decide) (ri_gn (by decide) ri_M3_152)))) rfl ?_
      refine ri_ev_go 1 (pc1 := 12) (L1 := [some (.ref 153), some (.int x2), some (.int 0)]) (st1 := [.ref 153, .ref 154]) (M1 := ((((ri_M3.set 2 (.inl (.byte, (400, .inl (g6))))).set 1 (.inr (8, [.ref 3, .int 20]))).set 153 (.inl (.byte, (400, .inl (upd (upd (upd (g7) 4 (vp_nar .byte ((x2 >>> (24 &&& 31))).toInt8.toInt32)) 5 (vp_nar .byte ((x2 >>> (16 &&& 31))).toInt8.toInt32)) 6 (vp_nar .byte ((x2 >>> (8 &&& 31))).toInt8.toInt32)))))).set 152 (.inr (11, [.ref 154, .int 7, .int 0, .ref 155, .ref 156, .ref 157, .ref 158, .int 0, .int 0, .int 0, .ref 159, .ref 160, .int 0, .int 0, .int 0, .int 0, .int 0, .int 0, .int 0, .ref 161, .int 0, .ref 162, .int 0, .ref 163, .ref 164, .ref 165, .ref 166, .int 0, .int 0, .int 0, .ref 167, .ref 168, .ref 169, .int 0, .int 0, .int 0, .ref 170, .ref 171, .ref 172])))) (c1 := 0) (s1 := 0) (fun n => rfl) ?_
      refine ri_ev_gf (k := 152) rfl (ri_gs (ri_gn (by decide) (ri_gn (by decide) (ri_gn (by decide) ri_M3_152)))) rfl ?_
      refine ri_ev_go 4 (pc1 := 19) (L1 := [some (.ref 153), some (.int x2), some (.int 0)]) (st1 := [.int ((x2 >>> (0 &&& 31))).toInt8.toInt32, .int 7, .ref 154]) (M1 := ((((ri_M3.set 2 (.inl (.byte, (400, .inl (g6))))).set 1 (.inr (8, [.ref 3, .int 20]))).set 153 (.inl (.byte, (400, .inl (upd (upd (upd (g7) 4 (vp_nar .byte ((x2 >>> (24 &&& 31))).toInt8.toInt32)) 5 (vp_nar .byte ((x2 >>> (16 &&& 31))).toInt8.toInt32)) 6 (vp_nar .byte ((x2 >>> (8 &&& 31))).toInt8.toInt32)))))).set 152 (.inr (11, [.ref 154, .int 7, .int 0, .ref 155, .ref 156, .ref 157, .ref 158, .int 0, .int 0, .int 0, .ref 159, .ref 160, .int 0, .int 0, .int 0, .int 0, .int 0, .int 0, .int 0, .ref 161, .int 0, .ref 162, .int 0, .ref 163, .ref 164, .ref 165, .ref 166, .int 0, .int 0, .int 0, .ref 167, .ref 168, .ref 169, .int 0, .int 0, .int 0, .ref 170, .ref 171, .ref 172])))) (c1 := 0) (s1 := 0) (fun n => rfl) ?_
      refine ri_ev_basd (k := 153) (q := 7) (M2 := ((((ri_M3.set 2 (.inl (.byte, (400, .inl (g6))))).set 1 (.inr (8, [.ref 3, .int 20]))).set 153 (.inl (.byte, (400, .inl (upd (upd (upd (upd (g7) 4 (vp_nar .byte ((x2 >>> (24 &&& 31))).toInt8.toInt32)) 5 (vp_nar .byte ((x2 >>> (16 &&& 31))).toInt8.toInt32)) 6 (vp_nar .byte ((x2 >>> (8 &&& 31))).toInt8.toInt32)) 7 (vp_nar .byte ((x2 >>> (0 &&& 31))).toInt8.toInt32)))))).set 152 (.inr (11, [.ref 154, .int 7, .int 0, .ref 155, .ref 156, .ref 157, .ref 158, .int 0, .int 0, .int 0, .ref 159, .ref 160, .int 0, .int 0, .int 0, .int 0, .int 0, .int 0, .int 0, .ref 161, .int 0, .ref 162, .int 0, .ref 163, .ref 164, .ref 165, .ref 166, .int 0, .int 0, .int 0, .ref 167, .ref 168, .ref 169, .int 0, .int 0, .int 0, .ref 170, .ref 171, .ref 172])))) rfl (ri_gn (by decide) (ri_gs (ri_gn (by decide) (ri_gn (by decide) ri_M3_153)))) (by decide) rfl (ri_ss (by decide) (List.set_set _)) ?_
      refine ri_ev_go 2 (pc1 := 22) (L1 := [some (.ref 153), some (.int x2), some (.int 0)]) (st1 := [.ref 153, .ref 153]) (M1 := ((((ri_M3.set 2 (.inl (.byte, (400, .inl (g6))))).set 1 (.inr (8, [.ref 3, .int 20]))).set 153 (.inl (.byte, (400, .inl (upd (upd (upd (upd (g7) 4 (vp_nar .byte ((x2 >>> (24 &&& 31))).toInt8.toInt32)) 5 (vp_nar .byte ((x2 >>> (16 &&& 31))).toInt8.toInt32)) 6 (vp_nar .byte ((x2 >>> (8 &&& 31))).toInt8.toInt32)) 7 (vp_nar .byte ((x2 >>> (0 &&& 31))).toInt8.toInt32)))))).set 152 (.inr (11, [.ref 154, .int 7, .int 0, .ref 155, .ref 156, .ref 157, .ref 158, .int 0, .int 0, .int 0, .ref 159, .ref 160, .int 0, .int 0, .int 0, .int 0, .int 0, .int 0, .int 0, .ref 161, .int 0, .ref 162, .int 0, .ref 163, .ref 164, .ref 165, .ref 166, .int 0, .int 0, .int 0, .ref 167, .ref 168, .ref 169, .int 0, .int 0, .int 0, .ref 170, .ref 171, .ref 172])))) (c1 := 0) (s1 := 0) (fun n => rfl) ?_
      refine ri_ev_gf (k := 152) rfl (ri_gs (ri_gn (by decide) (ri_gn (by decide) (ri_gn (by decide) ri_M3_152)))) rfl ?_
      refine ri_ev_go 2 (pc1 := 27) (L1 := [some (.ref 153), some (.int x2), some (.int 0)]) (st1 := [.int 8, .ref 153]) (M1 := ((((ri_M3.set 2 (.inl (.byte, (400, .inl (g6))))).set 1 (.inr (8, [.ref 3, .int 20]))).set 153 (.inl (.byte, (400, .inl (upd (upd (upd (upd (g7) 4 (vp_nar .byte ((x2 >>> (24 &&& 31))).toInt8.toInt32)) 5 (vp_nar .byte ((x2 >>> (16 &&& 31))).toInt8.toInt32)) 6 (vp_nar .byte ((x2 >>> (8 &&& 31))).toInt8.toInt32)) 7 (vp_nar .byte ((x2 >>> (0 &&& 31))).toInt8.toInt32)))))).set 152 (.inr (11, [.ref 154, .int 7, .int 0, .ref 155, .ref 156, .ref 157, .ref 158, .int 0, .int 0, .int 0, .ref 159, .ref 160, .int 0, .int 0, .int 0, .int 0, .int 0, .int 0, .int 0, .ref 161, .int 0, .ref 162, .int 0, .ref 163, .ref 164, .ref 165, .ref 166, .int 0, .int 0, .int 0, .ref 167, .ref 168, .ref 169, .int 0, .int 0, .int 0, .ref 170, .ref 171, .ref 172])))) (c1 := 0) (s1 := 0) (fun n => rfl) ?_
      refine ri_ev_pf (k := 152) (gs := [.ref 154, .int 8, .int 0, .ref 155, .ref 156, .ref 157, .ref 158, .int 0, .int 0, .int 0, .ref 159, .ref 160, .int 0, .int 0, .int 0, .int 0, .int 0, .int 0, .int 0, .ref 161, .int 0, .ref 162, .int 0, .ref 163, .ref 164, .ref 165, .ref 166, .int 0, .int 0, .int 0, .ref 167, .ref 168, .ref 169, .int 0, .int 0, .int 0, .ref 170, .ref 171, .ref 172]) (M2 := ((((ri_M3.set 2 (.inl (.byte, (400, .inl (g6))))).set 1 (.inr (8, [.ref 3, .int 20]))).set 153 (.inl (.byte, (400, .inl (upd (upd (upd (upd (g7) 4 (vp_nar .byte ((x2 >>> (24 &&& 31))).toInt8.toInt32)) 5 (vp_nar .byte ((x2 >>> (16 &&& 31))).toInt8.toInt32)) 6 (vp_nar .byte ((x2 >>> (8 &&& 31))).toInt8.toInt32)) 7 (vp_nar .byte ((x2 >>> (0 &&& 31))).toInt8.toInt32)))))).set 152 (.inr (11, [.ref 154, .int 8, .int 0, .ref 155, .ref 156, .ref 157, .ref 158, .int 0, .int 0, .int 0, .ref 159, .ref 160, .int 0, .int 0, .int 0, .int 0, .int 0, .int 0, .int 0, .ref 161, .int 0, .ref 162, .int 0, .ref 163, .ref 164, .ref 165, .ref 166, .int 0, .int 0, .int 0, .ref 167, .ref 168, .ref 169, .int 0, .int 0, .int 0, .ref 170, .ref 171, .ref 172])))) rfl (ri_gs (ri_gn (by decide) (ri_gn (by decide) (ri_gn (by decide) ri_M3_152)))) (Nat.le_of_ble_eq_true rfl) rfl rfl (List.set_set _) ?_
      refine ri_ev_go 4 (pc1 := 36) (L1 := [some (.ref 153), some (.int x2), some (.int (-8))]) (st1 := []) (M1 := ((((ri_M3.set 2 (.inl (.byte, (400, .inl (g6))))).set 1 (.inr (8, [.ref 3, .int 20]))).set 153 (.inl (.byte, (400, .inl (upd (upd (upd (upd (g7) 4 (vp_nar .byte ((x2 >>> (24 &&& 31))).toInt8.toInt32)) 5 (vp_nar .byte ((x2 >>> (16 &&& 31))).toInt8.toInt32)) 6 (vp_nar .byte ((x2 >>> (8 &&& 31))).toInt8.toInt32)) 7 (vp_nar .byte ((x2 >>> (0 &&& 31))).toInt8.toInt32)))))).set 152 (.inr (11, [.ref 154, .int 8, .int 0, .ref 155, .ref 156, .ref 157, .ref 158, .int 0, .int 0, .int 0, .ref 159, .ref 160, .int 0, .int 0, .int 0, .int 0, .int 0, .int 0, .int 0, .ref 161, .int 0, .ref 162, .int 0, .ref 163, .ref 164, .ref 165, .ref 166, .int 0, .int 0, .int 0, .ref 167, .ref 168, .ref 169, .int 0, .int 0, .int 0, .ref 170, .ref 171, .ref 172])))) (c1 := 0) (s1 := 0) (fun n => rfl) ?_
      exact ri_ev_ret (fun n => rfl)
    obtain ⟨g9, hc29⟩ : ∃ g9 : Nat → Int32, ri_c 18 171 [.ref 153, .int x3] ((((ri_M3.set 2 (.inl (.byte, (400, .inl (g6))))).set 1 (.inr (8, [.ref 3, .int 20]))).set 153 (.inl (.byte, (400, .inl (g8))))).set 152 (.inr (11, [.ref 154, .int 8, .int 0, .ref 155, .ref 156, .ref 157, .ref 158, .int 0, .int 0, .int 0, .ref 159, .ref 160, .int 0, .int 0, .int 0, .int 0, .int 0, .int 0, .int 0, .ref 161, .int 0, .ref 162, .int 0, .ref 163, .ref 164, .ref 165, .ref 166, .int 0, .int 0, .int 0, .ref 167, .ref 168, .ref 169, .int 0, .int 0, .int 0, .ref 170, .ref 171, .ref 172]))) = some (none, ((((ri_M3.set 2 (.inl (.byte, (400, .inl (g6))))).set 1 (.inr (8, [.ref 3, .int 20]))).set 153 (.inl (.byte, (400, .inl (g9))))).set 152 (.inr (11, [.ref 154, .int 12, .int 0, .ref 155, .ref 156, .ref 157, .ref 158, .int 0, .int 0, .int 0, .ref 159, .ref 160, .int 0, .int 0, .int 0, .int 0, .int 0, .int 0, .int 0, .ref 161, .int 0, .ref 162, .int 0, .ref 163, .ref 164, .ref 165, .ref 166, .int 0, .int 0, .int 0, .ref 167, .ref 168, .ref 169, .int 0, .int 0, .int 0, .ref 170, .ref 171, .ref 172]))), 0, 0) := by
      refine ⟨upd (upd (upd (upd (g8) 8 (vp_nar .byte ((x3 >>> (24 &&& 31))).toInt8.toInt32)) 9 (vp_nar .byte ((x3 >>> (16 &&& 31))).toInt8.toInt32)) 10 (vp_nar .byte ((x3 >>> (8 &&& 31))).toInt8.toInt32)) 11 (vp_nar .byte ((x3 >>> (0 &&& 31))).toInt8.toInt32), ?_⟩
      refine ri_ev_call (N := 81) (L := [some (.ref 153), some (.int x3), none]) rfl (Nat.le_of_ble_eq_true rfl) ?_
      refine ri_ev_go 5 (pc1 := 8) (L1 := [some (.ref 153), some (.int x3), some (.int 24)]) (st1 := [.ref 153]) (M1 := ((((ri_M3.set 2 (.inl (.byte, (400, .inl (g6))))).set 1 (.inr (8, [.ref 3, .int 20]))).set 153 (.inl (.byte, (400, .inl (g8))))).set 152 (.inr (11, [.ref 154, .int 8, .int 0, .ref 155, .ref 156, .ref 157, .ref 158, .int 0, .int 0, .int 0, .ref 159, .ref 160, .int 0, .int 0, .int 0, .int 0, .int 0, .int 0, .int 0, .ref 161, .int 0, .ref 162, .int 0, .ref 163, .ref 164, .ref 165, .ref 166, .int 0, .int 0, .int 0, .ref 167, .ref 168, .ref 169, .int 0, .int 0, .int 0, .ref 170, .ref 171, .ref 172])))) (c1 := 0) (s1 := 0) (fun n => rfl) ?_
      refine ri_ev_gf (k := 152) rfl (ri_gs (ri_gn (by decide) (ri_gn (by decide) (ri_gn (by decide) ri_M3_152)))) rfl ?_
      refine ri_ev_go 1 (pc1 := 12) (L1 := [some (.ref 153), some (.int x3), some (.int 24)]) (st1 := [.ref 153, .ref 154]) (M1 := ((((ri_M3.set 2 (.inl (.byte, (400, .inl (g6))))).set 1 (.inr (8, [.ref 3, .int 20]))).set 153 (.inl (.byte, (400, .inl (g8))))).set 152 (.inr (11, [.ref 154, .int 8, .int 0, .ref 155, .ref 156, .ref 157, .ref 158, .int 0, .int 0, .int 0, .ref 159, .ref 160, .int 0, .int 0, .int 0, .int 0, .int 0, .int 0, .int 0, .ref 161, .int 0, .ref 162, .int 0, .ref 163, .ref 164, .ref 165, .ref 166, .int 0, .int 0, .int 0, .ref 167, .ref 168, .ref 169, .int 0, .int 0, .int 0, .ref 170, .ref 171, .ref 172])))) (c1 := 0) (s1 := 0) (fun n => rfl) ?_
      refine ri_ev_gf (k := 152) rfl (ri_gs (ri_gn (by decide) (ri_gn (by decide) (ri_gn (by decide) ri_M3_152)))) rfl ?_
      refine ri_ev_go 4 (pc1 := 19) (L1 := [some (.ref 153), some (.int x3), some (.int 24)]) (st1 := [.int ((x3 >>> (24 &&& 31))).toInt8.toInt32, .int 8, .ref 154]) (M1 := ((((ri_M3.set 2 (.inl (.byte, (400, .inl (g6))))).set 1 (.inr (8, [.ref 3, .int 20]))).set 153 (.inl (.byte, (400, .inl (g8))))).set 152 (.inr (11, [.ref 154, .int 8, .int 0, .ref 155, .ref 156, .ref 157, .ref 158, .int 0, .int 0, .int 0, .ref 159, .ref 160, .int 0, .int 0, .int 0, .int 0, .int 0, .int 0, .int 0, .ref 161, .int 0, .ref 162, .int 0, .ref 163, .ref 164, .ref 165, .ref 166, .int 0, .int 0, .int 0, .ref 167, .ref 168, .ref 169, .int 0, .int 0, .int 0, .ref 170, .ref 171, .ref 172])))) (c1 := 0) (s1 := 0) (fun n => rfl) ?_
      refine ri_ev_basd (k := 153) (q := 8) (M2 := ((((ri_M3.set 2 (.inl (.byte, (400, .inl (g6))))).set 1 (.inr (8, [.ref 3, .int 20]))).set 153 (.inl (.byte, (400, .inl (upd (g8) 8 (vp_nar .byte ((x3 >>> (24 &&& 31))).toInt8.toInt32)))))).set 152 (.inr (11, [.ref 154, .int 8, .int 0, .ref 155, .ref 156, .ref 157, .ref 158, .int 0, .int 0, .int 0, .ref 159, .ref 160, .int 0, .int 0, .int 0, .int 0, .int 0, .int 0, .int 0, .ref 161, .int 0, .ref 162, .int 0, .ref 163, .ref 164, .ref 165, .ref 166, .int 0, .int 0, .int 0, .ref 167, .ref 168, .ref 169, .int 0, .int 0, .int 0, .ref 170, .ref 171, .ref 172])))) rfl (ri_gn (by decide) (ri_gs (ri_gn (by decide) (ri_gn (by decide) ri_M3_153)))) (by decide) rfl (ri_ss (by decide) (List.set_set _)) ?_
      refine ri_ev_go 2 (pc1 := 22) (L1 := [some (.ref 153), some (.int x3), some (.int 24)]) (st1 := [.ref 153, .ref 153]) (M1 := ((((ri_M3.set 2 (.inl (.byte, (400, .inl (g6))))).set 1 (.inr (8, [.ref 3, .int 20]))).set 153 (.inl (.byte, (400, .inl (upd (g8) 8 (vp_nar .byte ((x3 >>> (24 &&& 31))).toInt8.toInt32)))))).set 152 (.inr (11, [.ref 154, .int 8, .int 0, .ref 155, .ref 156, .ref 157, .ref 158, .int 0, .int 0, .int 0, .ref 159, .ref 160, .int 0, .int 0, .int 0, .int 0, .int 0, .int 0, .int 0, .ref 161, .int 0, .ref 162, .int 0, .ref 163, .ref 164, .ref 165, .ref 166, .int 0, .int 0, .int 0, .ref 167, .ref 168, .ref 169, .int 0, .int 0, .int 0, .ref 170, .ref 171, .ref 172])))) (c1 := 0) (s1 := 0) (fun n => rfl) ?_
      refine ri_ev_gf (k := 152) rfl (ri_gs (ri_gn (by decide) (ri_gn (by decide) (ri_gn (by decide) ri_M3_152)))) rfl ?_
      refine ri_ev_go 2 (pc1 := 27) (L1 := [some (.ref 153), some (.int x3), some (.int 24)]) (st1 := [.int 9, .ref 153]) (M1 := ((((ri_M3.set 2 (.inl (.byte, (400, .inl (g6))))).set 1 (.inr (8, [.ref 3, .int 20]))).set 153 (.inl (.byte, (400, .inl (upd (g8) 8 (vp_nar .byte ((x3 >>> (24 &&& 31))).toInt8.toInt32)))))).set 152 (.inr (11, [.ref 154, .int 8, .int 0, .ref 155, .ref 156, .ref 157, .ref 158, .int 0, .int 0, .int 0, .ref 159, .ref 160, .int 0, .int 0, .int 0, .int 0, .int 0, .int 0, .int 0, .ref 161, .int 0, .ref 162, .int 0, .ref 163, .ref 164, .ref 165, .ref 166, .int 0, .int 0, .int 0, .ref 167, .ref 168, .ref 169, .int 0, .int 0, .int 0, .ref 170, .ref 171, .ref 172])))) (c1 := 0) (s1 := 0) (fun n => rfl) ?_
      refine ri_ev_pf (k := 152) (gs := [.ref 154, .int 9, .int 0, .ref 155, .ref 156, .ref 157, .ref 158, .int 0, .int 0, .int 0, .ref 159, .ref 160, .int 0, .int 0, .int 0, .int 0, .int 0, .int 0, .int 0, .ref 161, .int 0, .ref 162, .int 0, .ref 163, .ref 164, .ref 165, .ref 166, .int 0, .int 0, .int 0, .ref 167, .ref 168, .ref 169, .int 0, .int 0, .int 0, .ref 170, .ref 171, .ref 172]) (M2 := ((((ri_M3.set 2 (.inl (.byte, (400, .inl (g6))))).set 1 (.inr (8, [.ref 3, .int 20]))).set 153 (.inl (.byte, (400, .inl (upd (g8) 8 (vp_nar .byte ((x3 >>> (24 &&& 31))).toInt8.toInt32)))))).set 152 (.inr (11, [.ref 154, .int 9, .int 0, .ref 155, .ref 156, .ref 157, .ref 158, .int 0, .int 0, .int 0, .ref 159, .ref 160, .int 0, .int 0, .int 0, .int 0, .int 0, .int 0, .int 0, .ref 161, .int 0, .ref 162, .int 0, .ref 163, .ref 164, .ref 165, .ref 166, .int 0, .int 0, .int 0, .ref 167, .ref 168, .ref 169, .int 0, .int 0, .int 0, .ref 170, .ref 171, .ref 172])))) rfl (ri_gs (ri_gn (by decide) (ri_gn (by decide) (ri_gn (by decide) ri_M3_152)))) (Nat.le_of_ble_eq_true rfl) rfl rfl (List.set_set _) ?_
      refine ri_ev_go 5 (pc1 := 8) (L1 := [some (.ref 153), some (.int x3), some (.int 16)]) (st1 := [.ref 153]) (M1 := ((((ri_M3.set 2 (.inl (.byte, (400, .inl (g6))))).set 1 (.inr (8, [.ref 3, .int 20]))).set 153 (.inl (.byte, (400, .inl (upd (g8) 8 (vp_nar .byte ((x3 >>> (24 &&& 31))).toInt8.toInt32)))))).set 152 (.inr (11, [.ref 154, .int 9, .int 0, .ref 155, .ref 156, .ref 157, .ref 158, .int 0, .int 0, .int 0, .ref 159, .ref 160, .int 0, .int 0, .int 0, .int 0, .int 0, .int 0, .int 0, .ref 161, .int 0, .ref 162, .int 0, .ref 163, .ref 164, .ref 165, .ref 166, .int 0, .int 0, .int 0, .ref 167, .ref 168, .ref 169, .int 0, .int 0, .int 0, .ref 170, .ref 171, .ref 172])))) (c1 := 0) (s1 := 0) (fun n => rfl) ?_
      refine ri_ev_gf (k := 152) rfl (ri_gs (ri_gn (by decide) (ri_gn (by decide) (ri_gn (by decide) ri_M3_152)))) rfl ?_
      refine ri_ev_go 1 (pc1 := 12) (L1 := [some (.ref 153), some (.int x3), some (.int 16)]) (st1 := [.ref 153, .ref 154]) (M1 := ((((ri_M3.set 2 (.inl (.byte, (400, .inl (g6))))).set 1 (.inr (8, [.ref 3, .int 20]))).set 153 (.inl (.byte, (400, .inl (upd (g8) 8 (vp_nar .byte ((x3 >>> (24 &&& 31))).toInt8.toInt32)))))).set 152 (.inr (11, [.ref 154, .int 9, .int 0, .ref 155, .ref 156, .ref 157, .ref 158, .int 0, .int 0, .int 0, .ref 159, .ref 160, .int 0, .int 0, .int 0, .int 0, .int 0, .int 0, .int 0, .ref 161, .int 0, .ref 162, .int 0, .ref 163, .ref 164, .ref 165, .ref 166, .int 0, .int 0, .int 0, .ref 167, .ref 168, .ref 169, .int 0, .int 0, .int 0, .ref 170, .ref 171, .ref 172])))) (c1 := 0) (s1 := 0) (fun n => rfl) ?_
      refine ri_ev_gf (k := 152) rfl (ri_gs (ri_gn (by decide) (ri_gn (by decide) (ri_gn (by decide) ri_M3_152)))) rfl ?_
      refine ri_ev_go 4 (pc1 := 19) (L1 := [some (.ref 153), some (.int x3), some (.int 16)]) (st1 := [.int ((x3 >>> (16 &&& 31))).toInt8.toInt32, .int 9, .ref 154]) (M1 := ((((ri_M3.set 2 (.inl (.byte, (400, .inl (g6))))).set 1 (.inr (8, [.ref 3, .int 20]))).set 153 (.inl (.byte, (400, .inl (upd (g8) 8 (vp_nar .byte ((x3 >>> (24 &&& 31))).toInt8.toInt32)))))).set 152 (.inr (11, [.ref 154, .int 9, .int 0, .ref 155, .ref 156, .ref 157, .ref 158, .int 0, .int 0, .int 0, .ref 159, .ref 160, .int 0, .int 0, .int 0, .int 0, .int 0, .int 0, .int 0, .ref 161, .int 0, .ref 162, .int 0, .ref 163, .ref 164, .ref 165, .ref 166, .int 0, .int 0, .int 0, .ref 167, .ref 168, .ref 169, .int 0, .int 0, .int 0, .ref 170, .ref 171, .ref 172])))) (c1 := 0) (s1 := 0) (fun n => rfl) ?_
      refine ri_ev_basd (k := 153) (q := 9) (M2 := ((((ri_M3.set 2 (.inl (.byte, (400, .inl (g6))))).set 1 (.inr (8, [.ref 3, .int 20]))).set 153 (.inl (.byte, (400, .inl (upd (upd (g8) 8 (vp_nar .byte ((x3 >>> (24 &&& 31))).toInt8.toInt32)) 9 (vp_nar .byte ((x3 >>> (16 &&& 31))).toInt8.toInt32)))))).set 152 (.inr (11, [.ref 154, .int 9, .int 0, .ref 155, .ref 156, .ref 157, .ref 158, .int 0, .int 0, .int 0, .ref 159, .ref 160, .int 0, .int 0, .int 0, .int 0, .int 0, .int 0, .int 0, .ref 161, .int 0, .ref 162, .int 0, .ref 163, .ref 164, .ref 165, .ref 166, .int 0, .int 0, .int 0, .ref 167, .ref 168, .ref 169, .int 0, .int 0, .int 0, .ref 170, .ref 171, .ref 172])))) rfl (ri_gn (by decide) (ri_gs (ri_gn (by decide) (ri_gn (by decide) ri_M3_153)))) (by decide) rfl (ri_ss (by decide) (List.set_set _)) ?_
      refine ri_ev_go 2 (pc1 := 22) (L1 := [some (.ref 153), some (.int x3), some (.int 16)]) (st1 := [.ref 153, .ref 153]) (M1 := ((((ri_M3.set 2 (.inl (.byte, (400, .inl (g6))))).set 1 (.inr (8, [.ref 3, .int 20]))).set 153 (.inl (.byte, (400, .inl (upd (upd (g8) 8 (vp_nar .byte ((x3 >>> (24 &&& 31))).toInt8.toInt32)) 9 (vp_nar .byte ((x3 >>> (16 &&& 31))).toInt8.toInt32)))))).set 152 (.inr (11, [.ref 154, .int 9, .int 0, .ref 155, .ref 156, .ref 157, .ref 158, .int 0, .int 0, .int 0, .ref 159, .ref 160, .int 0, .int 0, .int 0, .int 0, .int 0, .int 0, .int 0, .ref 161, .int 0, .ref 162, .int 0, .ref 163, .ref 164, .ref 165, .ref 166, .int 0, .int 0, .int 0, .ref 167, .ref 168, .ref 169, .int 0, .int 0, .int 0, .ref 170, .ref 171, .ref 172])))) (c1 := 0) (s1 := 0) (fun n => rfl) ?_
      refine ri_ev_gf (k := 152) rfl (ri_gs (ri_gn (by decide) (ri_gn (by decide) (ri_gn (by decide) ri_M3_152)))) rfl ?_
      refine ri_ev_go 2 (pc1 := 27) (L1 := [some (.ref 153), some (.int x3), some (.int 16)]) (st1 := [.int 10, .ref 153]) (M1 := ((((ri_M3.set 2 (.inl (.byte, (400, .inl (g6))))).set 1 (.inr (8, [.ref 3, .int 20]))).set 153 (.inl (.byte, (400, .inl (upd (upd (g8) 8 (vp_nar .byte ((x3 >>> (24 &&& 31))).toInt8.toInt32)) 9 (vp_nar .byte ((x3 >>> (16 &&& 31))).toInt8.toInt32)))))).set 152 (.inr (11, [.ref 154, .int 9, .int 0, .ref 155, .ref 156, .ref 157, .ref 158, .int 0, .int 0, .int 0, .ref 159, .ref 160, .int 0, .int 0, .int 0, .int 0, .int 0, .int 0, .int 0, .ref 161, .int 0, .ref 162, .int 0, .ref 163, .ref 164, .ref 165, .ref 166, .int 0, .int 0, .int 0, .ref 167, .ref 168, .ref 169, .int 0, .int 0, .int 0, .ref 170, .ref 171, .ref 172])))) (c1 := 0) (s1 := 0) (fun n => rfl) ?_
      refine ri_ev_pf (k := 152) (gs := [.ref 154, .int 10, .int 0, .ref 155, .ref 156, .ref 157, .ref 158, .int 0, .int 0, .int 0, .ref 159, .ref 160, .int 0, .int 0, .int 0, .int 0, .int 0, .int 0, .int 0, .ref 161, .int 0, .ref 162, .int 0, .ref 163, .ref 164, .ref 165, .ref 166, .int 0, .int 0, .int 0, .ref 167, .ref 168, .ref 169, .int 0, .int 0, .int 0, .ref 170, .ref 171, .ref 172]) (M2 := ((((ri_M3.set 2 (.inl (.byte, (400, .inl (g6))))).set 1 (.inr (8, [.ref 3, .int 20]))).set 153 (.inl (.byte, (400, .inl (upd (upd (g8) 8 (vp_nar .byte ((x3 >>> (24 &&& 31))).toInt8.toInt32)) 9 (vp_nar .byte ((x3 >>> (16 &&& 31))).toInt8.toInt32)))))).set 152 (.inr (11, [.ref 154, .int 10, .int 0, .ref 155, .ref 156, .ref 157, .ref 158, .int 0, .int 0, .int 0, .ref 159, .ref 160, .int 0, .int 0, .int 0, .int 0, .int 0, .int 0, .int 0, .ref 161, .int 0, .ref 162, .int 0, .ref 163, .ref 164, .ref 165, .ref 166, .int 0, .int 0, .int 0, .ref 167, .ref 168, .ref 169, .int 0, .int 0, .int 0, .ref 170, .ref 171, .ref 172])))) rfl (ri_gs (ri_gn (by decide) (ri_gn (by decide) (ri_gn (by decide) ri_M3_152)))) (Nat.le_of_ble_eq_true rfl) rfl rfl (List.set_set _) ?_
      refine ri_ev_go 5 (pc1 := 8) (L1 := [some (.ref 153), some (.int x3), some (.int 8)]) (st1 := [.ref 153]) (M1 := ((((ri_M3.set 2 (.inl (.byte, (400, .inl (g6))))).set 1 (.inr (8, [.ref 3, .int 20]))).set 153 (.inl (.byte, (400, .inl (upd (upd (g8) 8 (vp_nar .byte ((x3 >>> (24 &&& 31))).toInt8.toInt32)) 9 (vp_nar .byte ((x3 >>> (16 &&& 31))).toInt8.toInt32)))))).set 152 (.inr (11, [.ref 154, .int 10, .int 0, .ref 155, .ref 156, .ref 157, .ref 158, .int 0, .int 0, .int 0, .ref 159, .ref 160, .int 0, .int 0, .int 0, .int 0, .int 0, .int 0, .int 0, .ref 161, .int 0, .ref 162, .int 0, .ref 163, .ref 164, .ref 165, .ref 166, .int 0, .int 0, .int 0, .ref 167, .ref 168, .ref 169, .int 0, .int 0, .int 0, .ref 170, .ref 171, .ref 172])))) (c1 := 0) (s1 := 0) (fun n => rfl) ?_
      refine ri_ev_gf (k := 152) rfl (ri_gs (ri_gn (by decide) (ri_gn (by decide) (ri_gn (by decide) ri_M3_152)))) rfl ?_
      refine ri_ev_go 1 (pc1 := 12) (L1 := [some (.ref 153), some (.int x3), some (.int 8)]) (st1 := [.ref 153, .ref 154]) (M1 := ((((ri_M3.set 2 (.inl (.byte, (400, .inl (g6))))).set 1 (.inr (8, [.ref 3, .int 20]))).set 153 (.inl (.byte, (400, .inl (upd (upd (g8) 8 (vp_nar .byte ((x3 >>> (24 &&& 31))).toInt8.toInt32)) 9 (vp_nar .byte ((x3 >>> (16 &&& 31))).toInt8.toInt32)))))).set 152 (.inr (11, [.ref 154, .int 10, .int 0, .ref 155, .ref 156, .ref 157, .ref 158, .int 0, .int 0, .int 0, .ref 159, .ref 160, .int 0, .int 0, .int 0, .int 0, .int 0, .int 0, .int 0, .ref 161, .int 0, .ref 162, .int 0, .ref 163, .ref 164, .ref 165, .ref 166, .int 0, .int 0, .int 0, .ref 167, .ref 168, .ref 169, .int 0, .int 0, .int 0, .ref 170, .ref 171, .ref 172])))) (c1 := 0) (s1 := 0) (fun n => rfl) ?_
      refine ri_ev_gf (k := 152) rfl (ri_gs (ri_gn (by decide) (ri_gn (by decide) (ri_gn (by decide) ri_M3_152)))) rfl ?_
      refine ri_ev_go 4 (pc1 := 19) (L1 := [some (.ref 153), some (.int x3), some (.int 8)]) (st1 := [.int ((x3 >>> (8 &&& 31))).toInt8.toInt32, .int 10, .ref 154]) (M1 := ((((ri_M3.set 2 (.inl (.byte, (400, .inl (g6))))).set 1 (.inr (8, [.ref 3, .int 20]))).set 153 (.inl (.byte, (400, .inl (upd (upd (g8) 8 (vp_nar .byte ((x3 >>> (24 &&& 31))).toInt8.toInt32)) 9 (vp_nar .byte ((x3 >>> (16 &&& 31))).toInt8.toInt32)))))).set 152 (.inr (11, [.ref 154, .int 10, .int 0, .ref 155, .ref 156, .ref 157, .ref 158, .int 0, .int 0, .int 0, .ref 159, .ref 160, .int 0, .int 0, .int 0, .int 0, .int 0, .int 0, .int 0, .ref 161, .int 0, .ref 162, .int 0, .ref 163, .ref 164, .ref 165, .ref 166, .int 0, .int 0, .int 0, .ref 167, .ref 168, .ref 169, .int 0, .int 0, .int 0, .ref 170, .ref 171, .ref 172])))) (c1 := 0) (s1 := 0) (fun n => rfl) ?_
      refine ri_ev_basd (k := 153) (q := 10) (M2 := ((((ri_M3.set 2 (.inl (.byte, (400, .inl (g6))))).set 1 (.inr (8, [.ref 3, .int 20]))).set 153 (.inl (.byte, (400, .inl (upd (upd (upd (g8) 8 (vp_nar .byte ((x3 >>> (24 &&& 31))).toInt8.toInt32)) 9 (vp_nar .byte ((x3 >>> (16 &&& 31))).toInt8.toInt32)) 10 (vp_nar .byte ((x3 >>> (8 &&& 31))).toInt8.toInt32)))))).set 152 (.inr (11, [.ref 154, .int 10, .int 0, .ref 155, .ref 156, .ref 157, .ref 158, .int 0, .int 0, .int 0, .ref 159, .ref 160, .int 0, .int 0, .int 0, .int 0, .int 0, .int 0, .int 0, .ref 161, .int 0, .ref 162, .int 0, .ref 163, .ref 164, .ref 165, .ref 166, .int 0, .int 0, .int 0, .ref 167, .ref 168, .ref 169, .int 0, .int 0, .int 0, .ref 170, .ref 171, .ref 172])))) rfl (ri_gn (by decide) (ri_gs (ri_gn (by decide) (ri_gn (by decide) ri_M3_153)))) (by decide) rfl (ri_ss (by decide) (List.set_set _)) ?_
      refine ri_ev_go 2 (pc1 := 22) (L1 := [some (.ref 153), some (.int x3), some (.int 8)]) (st1 := [.ref 153, .ref 153]) (M1 := ((((ri_M3.set 2 (.inl (.byte, (400, .inl (g6))))).set 1 (.inr (8, [.ref 3, .int 20]))).set 153 (.inl (.byte, (400, .inl (upd (upd (upd (g8) 8 (vp_nar .byte ((x3 >>> (24 &&& 31))).toInt8.toInt32)) 9 (vp_nar .byte ((x3 >>> (16 &&& 31))).toInt8.toInt32)) 10 (vp_nar .byte ((x3 >>> (8 &&& 31))).toInt8.toInt32)))))).set 152 (.inr (11, [.ref 154, .int 10, .int 0, .ref 155, .ref 156, .ref 157, .ref 158, .int 0, .int 0, .int 0, .ref 159, .ref 160, .int 0, .int 0, .int 0, .int 0, .int 0, .int 0, .int 0, .ref 161, .int 0, .ref 162, .int 0, .ref 163, .ref 164, .ref 165, .ref 166, .int 0, .int 0, .int 0, .ref 167, .ref 168, .ref 169, .int 0, .int 0, .int 0, .ref 170, .ref 171, .ref 172])))) (c1 := 0) (s1 := 0) (fun n => rfl) ?_
      refine ri_ev_gf (k := 152) rfl (ri_gs (ri_gn (by decide) (ri_gn (by decide) (ri_gn (by decide) ri_M3_152)))) rfl ?_
      refine ri_ev_go 2 (pc1 := 27) (L1 := [some (.ref 153), some (.int x3), some (.int 8)]) (st1 := [.int 11, .ref 153]) (M1 := ((((ri_M3.set 2 (.inl (.byte, (400, .inl (g6))))).set 1 (.inr (8, [.ref 3, .int 20]))).set 153 (.inl (.byte, (400, .inl (upd (upd (upd (g8) 8 (vp_nar .byte ((x3 >>> (24 &&& 31))).toInt8.toInt32)) 9 (vp_nar .byte ((x3 >>> (16 &&& 31))).toInt8.toInt32)) 10 (vp_nar .byte ((x3 >>> (8 &&& 31))).toInt8.toInt32)))))).set 152 (.inr (11, [.ref 154, .int 10, .int 0, .ref 155, .ref 156, .ref 157, .ref 158, .int 0, .int 0, .int 0, .ref 159, .ref 160, .int 0, .int 0, .int 0, .int 0, .int 0, .int 0, .int 0, .ref 161, .int 0, .ref 162, .int 0, .ref 163, .ref 164, .ref 165, .ref 166, .int 0, .int 0, .int 0, .ref 167, .ref 168, .ref 169, .int 0, .int 0, .int 0, .ref 170, .ref 171, .ref 172])))) (c1 := 0) (s1 := 0) (fun n => rfl) ?_
      refine ri_ev_pf (k := 152) (gs := [.ref 154, .int 11, .int 0, .ref 155, .ref 156, .ref 157, .ref 158, .int 0, .int 0, .int 0, .ref 159, .ref 160, .int 0, .int 0, .int 0, .int 0, .int 0, .int 0, .int 0, .ref 161, .int 0, .ref 162, .int 0, .ref 163, .ref 164, .ref 165, .ref 166, .int 0, .int 0, .int 0, .ref 167, .ref 168, .ref 169, .int 0, .int 0, .int 0, .ref 170, .ref 171, .ref 172]) (M2 := ((((ri_M3.set 2 (.inl (.byte, (400, .inl (g6))))).set 1 (.inr (8, [.ref 3, .int 20]))).set 153 (.inl (.byte, (400, .inl (upd (upd (upd (g8) 8 (vp_nar .byte ((x3 >>> (24 &&& 31))).toInt8.toInt32)) 9 (vp_nar .byte ((x3 >>> (16 &&& 31))).toInt8.toInt32)) 10 (vp_nar .byte ((x3 >>> (8 &&& 31))).toInt8.toInt32)))))).set 152 (.inr (11, [.ref 154, .int 11, .int 0, .ref 155, .ref 156, .ref 157, .ref 158, .int 0, .int 0, .int 0, .ref 159, .ref 160, .int 0, .int 0, .int 0, .int 0, .int 0, .int 0, .int 0, .ref 161, .int 0, .ref 162, .int 0, .ref 163, .ref 164, .ref 165, .ref 166, .int 0, .int 0, .int 0, .ref 167, .ref 168, .ref 169, .int 0, .int 0, .int 0, .ref 170, .ref 171, .ref 172])))) rfl (ri_gs (ri_gn (by decide) (ri_gn (by decide) (ri_gn (by decide) ri_M3_152)))) (Nat.le_of_ble_eq_true rfl) rfl rfl (List.set_set _) ?_
      refine ri_ev_go 5 (pc1 := 8) (L1 := [some (.ref 153), some (.int x3), some (.int 0)]) (st1 := [.ref 153]) (M1 := ((((ri_M3.set 2 (.inl (.byte, (400, .inl (g6))))).set 1 (.inr (8, [.ref 3, .int 20]))).set 153 (.inl (.byte, (400, .inl (upd (upd (upd (g8) 8 (vp_nar .byte ((x3 >>> (24 &&& 31))).toInt8.toInt32)) 9 (vp_nar .byte ((x3 >>> (16 &&& 31))).toInt8.toInt32)) 10 (vp_nar .byte ((x3 >>> (8 &&& 31))).toInt8.toInt32)))))).set 152 (.inr (11, [.ref 154, .int 11, .int 0, .ref 155, .ref 156, .ref 157, .ref 158, .int 0, .int 0, .int 0, .ref 159, .ref 160, .int 0, .int 0, .int 0, .int 0, .int 0, .int 0, .int 0, .ref 161, .int 0, .ref 162, .int 0, .ref 163, .ref 164, .ref 165, .ref 166, .int 0, .int 0, .int 0, .ref 167, .ref 168, .ref 169, .int 0, .int 0, .int 0, .ref 170, .ref 171, .ref 172])))) (c1 := 0) (s1 := 0) (fun n => rfl) ?_
      refine ri_ev_gf (k := 152) rfl (ri_gs (ri_gn (by decide) (ri_gn (by decide) (ri_gn (by decide) ri_M3_152)))) rfl ?_
      refine ri_ev_go 1 (pc1 := 12) (L1 := [some (.ref 153), some (.int x3), some (.int 0)]) (st1 := [.ref 153, .ref 154]) (M1 := ((((ri_M3.set 2 (.inl (.byte, (400, .inl (g6))))).set 1 (.inr (8, [.ref 3, .int 20]))).set 153 (.inl (.byte, (400, .inl (upd (upd (upd (g8) 8 (vp_nar .byte ((x3 >>> (24 &&& 31))).toInt8.toInt32)) 9 (vp_nar .byte ((x3 >>> (16 &&& 31))).toInt8.toInt32)) 10 (vp_nar .byte ((x3 >>> (8 &&& 31))).toInt8.toInt32)))))).set 152 (.inr (11, [.ref 154, .int 11, .int 0, .ref 155, .ref 156, .ref 157, .ref 158, .int 0, .int 0, .int 0, .ref 159, .ref 160, .int 0, .int 0, .int 0, .int 0, .int 0, .int 0, .int 0, .ref 161, .int 0, .ref 162, .int 0, .ref 163, .ref 164, .ref 165, .ref 166, .int 0, .int 0, .int 0, .ref 167, .ref 168, .ref 169, .int 0, .int 0, .int 0, .ref 170, .ref 171, .ref 172])))) (c1 := 0) (s1 := 0) (fun n => rfl) ?_
      refine ri_ev_gf (k := 152) rfl (ri_gs (ri_gn (by decide) (ri_gn (by decide) (ri_gn (by decide) ri_M3_152)))) rfl ?_
      refine ri_ev_go 4 (pc1 := 19) (L1 := [some (.ref 153), some (.int x3), some (.int 0)]) (st1 := [.int ((x3 >>> (0 &&& 31))).toInt8.toInt32, .int 11, .ref 154]) (M1 := ((((ri_M3.set 2 (.inl (.byte, (400, .inl (g6))))).set 1 (.inr (8, [.ref 3, .int 20]))).set 153 (.inl (.byte, (400, .inl (upd (upd (upd (g8) 8 (vp_nar .byte ((x3 >>> (24 &&& 31))).toInt8.toInt32)) 9 (vp_nar .byte ((x3 >>> (16 &&& 31))).toInt8.toInt32)) 10 (vp_nar .byte ((x3 >>> (8 &&& 31))).toInt8.toInt32)))))).set 152 (.inr (11, [.ref 154, .int 11, .int 0, .ref 155, .ref 156, .ref 157, .ref 158, .int 0, .int 0, .int 0, .ref 159, .ref 160, .int 0, .int 0, .int 0, .int 0, .int 0, .int 0, .int 0, .ref 161, .int 0, .ref 162, .int 0, .ref 163, .ref 164, .ref 165, .ref 166, .int 0, .int 0, .int 0, .ref 167, .ref 168, .ref 169, .int 0, .int 0, .int 0, .ref 170, .ref 171, .ref 172])))) (c1 := 0) (s1 := 0) (fun n => rfl) ?_
      refine ri_ev_basd (k := 153) (q := 11) (M2 := ((((ri_M3.set 2 (.inl (.byte, (400, .inl (g6))))).set 1 (.inr (8, [.ref 3, .int 20]))).set 153 (.inl (.byte, (400, .inl (upd (upd (upd (upd (g8) 8 (vp_nar .byte ((x3 >>> (24 &&& 31))).toInt8.toInt32)) 9 (vp_nar .byte ((x3 >>> (16 &&& 31))).toInt8.toInt32)) 10 (vp_nar .byte ((x3 >>> (8 &&& 31))).toInt8.toInt32)) 11 (vp_nar .byte ((x3 >>> (0 &&& 31))).toInt8.toInt32)))))).set 152 (.inr (11, [.ref 154, .int 11, .int 0, .ref 155, .ref 156, .ref 157, .ref 158, .int 0, .int 0, .int 0, .ref 159, .ref 160, .int 0, .int 0, .int 0, .int 0, .int 0, .int 0, .int 0, .ref 161, .int 0, .ref 162, .int 0, .ref 163, .ref 164, .ref 165, .ref 166, .int 0, .int 0, .int 0, .ref 167, .ref 168, .ref 169, .int 0, .int 0, .int 0, .ref 170, .ref 171, .ref 172])))) rfl (ri_gn (by decide) (ri_gs (ri_gn (by decide) (ri_gn (by decide) ri_M3_153)))) (by decide) rfl (ri_ss (by decide) (List.set_set _)) ?_
      refine ri_ev_go 2 (pc1 := 22) (L1 := [some (.ref 153), some (.int x3), some (.int 0)]) (st1 := [.ref 153, .ref 153]) (M1 := ((((ri_M3.set 2 (.inl (.byte, (400, .inl (g6))))).set 1 (.inr (8, [.ref 3, .int 20]))).set 153 (.inl (.byte, (400, .inl (upd (upd (upd (upd (g8) 8 (vp_nar .byte ((x3 >>> (24 &&& 31))).toInt8.toInt32)) 9 (vp_nar .byte ((x3 >>> (16 &&& 31))).toInt8.toInt32)) 10 (vp_nar .byte ((x3 >>> (8 &&& 31))).toInt8.toInt32)) 11 (vp_nar .byte ((x3 >>> (0 &&& 31))).toInt8.toInt32)))))).set 152 (.inr (11, [.ref 154, .int 11, .int 0, .ref 155, .ref 156, .ref 157, .ref 158, .int 0, .int 0, .int 0, .ref 159, .ref 160, .int 0, .int 0, .int 0, .int 0, .int 0, .int 0, .int 0, .ref 161, .int 0, .ref 162, .int 0, .ref 163, .ref 164, .ref 165, .ref 166, .int 0, .int 0, .int 0, .ref 167, .ref 168, .ref 169, .int 0, .int 0, .int 0, .ref 170, .ref 171, .ref 172])))) (c1 := 0) (s1 := 0) (fun n => rfl) ?_
      refine ri_ev_gf (k := 152) rfl (ri_gs (ri_gn (by decide) (ri_gn (by decide) (ri_gn (by decide) ri_M3_152)))) rfl ?_
      refine ri_ev_go 2 (pc1 := 27) (L1 := [some (.ref 153), some (.int x3), some (.int 0)]) (st1 := [.int 12, .ref 153]) (M1 := ((((ri_M3.set 2 (.inl (.byte, (400, .inl (g6))))).set 1 (.inr (8, [.ref 3, .int 20]))).set 153 (.inl (.byte, (400, .inl (upd (upd (upd (upd (g8) 8 (vp_nar .byte ((x3 >>> (24 &&& 31))).toInt8.toInt32)) 9 (vp_nar .byte ((x3 >>> (16 &&& 31))).toInt8.toInt32)) 10 (vp_nar .byte ((x3 >>> (8 &&& 31))).toInt8.toInt32)) 11 (vp_nar .byte ((x3 >>> (0 &&& 31))).toInt8.toInt32)))))).set 152 (.inr (11, [.ref 154, .int 11, .int 0, .ref 155, .ref 156, .ref 157, .ref 158, .int 0, .int 0, .int 0, .ref 159, .ref 160, .int 0, .int 0, .int 0, .int 0, .int 0, .int 0, .int 0, .ref 161, .int 0, .ref 162, .int 0, .ref 163, .ref 164, .ref 165, .ref 166, .int 0, .int 0, .int 0, .ref 167, .ref 168, .ref 169, .int 0, .int 0, .int 0, .ref 170, .ref 171, .ref 172])))) (c1 := 0) (s1 := 0) (fun n => rfl) ?_
      refine ri_ev_pf (k := 152) (gs := [.ref 154, .int 12, .int 0, .ref 155, .ref 156, .ref 157, .ref 158, .int 0, .int 0, .int 0, .ref 159, .ref 160, .int 0, .int 0, .int 0, .int 0, .int 0, .int 0, .int 0, .ref 161, .int 0, .ref 162, .int 0, .ref 163, .ref 164, .ref 165, .ref 166, .int 0, .int 0, .int 0, .ref 167, .ref 168, .ref 169, .int 0, .int 0, .int 0, .ref 170, .ref 171, .ref 172]) (M2 := ((((ri_M3.set 2 (.inl (.byte, (400, .inl (g6))))).set 1 (.inr (8, [.ref 3, .int 20]))).set 153 (.inl (.byte, (400, .inl (upd (upd (upd (upd (g8) 8 (vp_nar .byte ((x3 >>> (24 &&& 31))).toInt8.toInt32)) 9 (vp_nar .byte ((x3 >>> (16 &&& 31))).toInt8.toInt32)) 10 (vp_nar .byte ((x3 >>> (8 &&& 31))).toInt8.toInt32)) 11 (vp_nar .byte ((x3 >>> (0 &&& 31))).toInt8.toInt32)))))).set 152 (.inr (11, [.ref 154, .int 12, .int 0, .ref 155, .ref 156, .ref 157, .ref 158, .int 0, .int 0, .int 0, .ref 159, .ref 160, .int 0, .int 0, .int 0, .int 0, .int 0, .int 0, .int 0, .ref 161, .int 0, .ref 162, .int 0, .ref 163, .ref 164, .ref 165, .ref 166, .int 0, .int 0, .int 0, .ref 167, .ref 168, .ref 169, .int 0, .int 0, .int 0, .ref 170, .ref 171, .ref 172])))) rfl (ri_gs (ri_gn (by decide) (ri_gn (by decide) (ri_gn (by decide) ri_M3_152)))) (Nat.le_of_ble_eq_true rfl) rfl rfl (List.set_set _) ?_
      refine ri_ev_go 4 (pc1 := 36) (L1 := [some (.ref 153), some (.int x3), some (.int (-8))]) (st1 := []) (M1 := ((((ri_M3.set 2 (.inl (.byte, (400, .inl (g6))))).set 1 (.inr (8, [.ref 3, .int 20]))).set 153 (.inl (.byte, (400, .inl (upd (upd (upd (upd (g8) 8 (vp_nar .byte ((x3 >>> (24 &&& 31))).toInt8.toInt32)) 9 (vp_nar .byte ((x3 >>> (16 &&& 31))).toInt8.toInt32)) 10 (vp_nar .byte ((x3 >>> (8 &&& 31))).toInt8.toInt32)) 11 (vp_nar .byte ((x3 >>> (0 &&& 31))).toInt8.toInt32)))))).set 152 (.inr (11, [.ref 154, .int 12, .int 0, .ref 155, .ref 156, .ref 157, .ref 158, .int 0, .int 0, .int 0, .ref 159, .ref 160, .int 0, .int 0, .int 0, .int 0, .int 0, .int 0, .int 0, .ref 161, .int 0, .ref 162, .int 0, .ref 163, .ref 164, .ref 165, .ref 166, .int 0, .int 0, .int 0, .ref 167, .ref 168, .ref 169, .int 0, .int 0, .int 0, .ref 170, .ref 171, .ref 172])))) (c1 := 0) (s1 := 0) (fun n => rfl) ?_
      exact ri_ev_ret (fun n => rfl)
    obtain ⟨g10, hc30⟩ : ∃ g10 : Nat → Int32, ri_c 18 171 [.ref 153, .int x4] ((((ri_M3.set 2 (.inl (.byte, (400, .inl (g6))))).set 1 (.inr (8, [.ref 3, .int 20]))).set 153 (.inl (.byte, (400, .inl (g9))))).set 152 (.inr (11, [.ref 154, .int 12, .int 0, .ref 155, .ref 156, .ref 157, .ref 158, .int 0, .int 0, .int 0, .ref 159, .ref 160, .int 0, .int 0, .int 0, .int 0, .int 0, .int 0, .int 0, .ref 161, .int 0, .ref 162, .int 0, .ref 163, .ref 164, .ref 165, .ref 166, .int 0, .int 0, .int 0, .ref 167, .ref 168, .ref 169, .int 0, .int 0, .int 0, .ref 170, .ref 171, .ref 172]))) = some (none, ((((ri_M3.set 2 (.inl (.byte, (400, .inl (g6))))).set 1 (.inr (8, [.ref 3, .int 20]))).set 153 (.inl (.byte, (400, .inl (g10))))).set 152 (.inr (11, [.ref 154, .int 16, .int 0, .ref 155, .ref 156, .ref 157, .ref 158, .int 0, .int 0, .int 0, .ref 159, .ref 160, .int 0, .int 0, .int 0, .int 0, .int 0, .int 0, .int 0, .ref 161, .int 0, .ref 162, .int 0, .ref 163, .ref 164, .ref 165, .ref 166, .int 0, .int 0, .int 0, .ref 167, .ref 168, .ref 169, .int 0, .int 0, .int 0, .ref 170, .ref 171, .ref 172]))), 0, 0) := by
      refine ⟨upd (upd (upd (upd (g9) 12 (vp_nar .byte ((x4 >>> (24 &&& 31))).toInt8.toInt32)) 13 (vp_nar .byte ((x4 >>> (16 &&& 31))).toInt8.toInt32)) 14 (vp_nar .byte ((x4 >>> (8 &&& 31))).toInt8.toInt32)) 15 (vp_nar .byte ((x4 >>> (0 &&& 31))).toInt8.toInt32), ?_⟩
      refine ri_ev_call (N := 81) (L := [some (.ref 153), some (.int x4), none]) rfl (Nat.le_of_ble_eq_true rfl) ?_
      refine ri_ev_go 5 (pc1 := 8) (L1 := [some (.ref 153), some (.int x4), some (.int 24)]) (st1 := [.ref 153]) (M1 := ((((ri_M3.set 2 (.inl (.byte, (400, .inl (g6))))).set 1 (.inr (8, [.ref 3, .int 20]))).set 153 (.inl (.byte, (400, .inl (g9))))).set 152 (.inr (11, [.ref 154, .int 12, .int 0, .ref 155, .ref 156, .ref 157, .ref 158, .int 0, .int 0, .int 0, .ref 159, .ref 160, .int 0, .int 0, .int 0, .int 0, .int 0, .int 0, .int 0, .ref 161, .int 0, .ref 162, .int 0, .ref 163, .ref 164, .ref 165, .ref 166, .int 0, .int 0, .int 0, .ref 167, .ref 168, .ref 169, .int 0, .int 0, .int 0, .ref 170, .ref 171, .ref 172])))) (c1 := 0) (s1 := 0) (fun n => rfl) ?_
      refine ri_ev_gf (k := 152) rfl (ri_gs (ri_gn (by decide) (ri_gn (by decide) (ri_gn (by decide) ri_M3_152)))) rfl ?_
      refine ri_ev_go 1 (pc1 := 12) (L1 := [some (.ref 153), some (.int x4), some (.int 24)]) (st1 := [.ref 153, .ref 154]) (M1 := ((((ri_M3.set 2 (.inl (.byte, (400, .inl (g6))))).set 1 (.inr (8, [.ref 3, .int 20]))).set 153 (.inl (.byte, (400, .inl (g9))))).set 152 (.inr (11, [.ref 154, .int 12, .int 0, .ref 155, .ref 156, .ref 157, .ref 158, .int 0, .int 0, .int 0, .ref 159, .ref 160, .int 0, .int 0, .int 0, .int 0, .int 0, .int 0, .int 0, .ref 161, .int 0, .ref 162, .int 0, .ref 163, .ref 164, .ref 165, .ref 166, .int 0, .int 0, .int 0, .ref 167, .ref 168, .ref 169, .int 0, .int 0, .int 0, .ref 170, .ref 171, .ref 172])))) (c1 := 0) (s1 := 0) (fun n => rfl) ?_
      refine ri_ev_gf (k := 152) rfl (ri_gs (ri_gn (by decide) (ri_gn (by decide) (ri_gn (by decide) ri_M3_152)))) rfl ?_
      refine ri_ev_go 4 (pc1 := 19) (L1 := [some (.ref 153), some (.int x4), some (.int 24)]) (st1 := [.int ((x4 >>> (24 &&& 31))).toInt8.toInt32, .int 12, .ref 154]) (M1 := ((((ri_M3.set 2 (.inl (.byte, (400, .inl (g6))))).set 1 (.inr (8, [.ref 3, .int 20]))).set 153 (.inl (.byte, (400, .inl (g9))))).set 152 (.inr (11, [.ref 154, .int 12, .int 0, .ref 155, .ref 156, .ref 157, .ref 158, .int 0, .int 0, .int 0, .ref 159, .ref 160, .int 0, .int 0, .int 0, .int 0, .int 0, .int 0, .int 0, .ref 161, .int 0, .ref 162, .int 0, .ref 163, .ref 164, .ref 165, .ref 166, .int 0, .int 0, .int 0, .ref 167, .ref 168, .ref 169, .int 0, .int 0, .int 0, .ref 170, .ref 171, .ref 172])))) (c1 := 0) (s1 := 0) (fun n => rfl) ?_
      refine ri_ev_basd (k := 153) (q := 12) (M2 := ((((ri_M3.set 2 (.inl (.byte, (400, .inl (g6))))).set 1 (.inr (8, [.ref 3, .int 20]))).set 153 (.inl (.byte, (400, .inl (upd (g9) 12 (vp_nar .byte ((x4 >>> (24 &&& 31))).toInt8.toInt32)))))).set 152 (.inr (11, [.ref 154, .int 12, .int 0, .ref 155, .ref 156, .ref 157, .ref 158, .int 0, .int 0, .int 0, .ref 159, .ref 160, .int 0, .int 0, .int 0, .int 0, .int 0, .int 0, .int 0, .ref 161, .int 0, .ref 162, .int 0, .ref 163, .ref 164, .ref 165, .ref 166, .int 0, .int 0, .int 0, .ref 167, .ref 168, .ref 169, .int 0, .int 0, .int 0, .ref 170, .ref 171, .ref 172])))) rfl (ri_gn (by decide) (ri_gs (ri_gn (by decide) (ri_gn (by decide) ri_M3_153)))) (by decide) rfl (ri_ss (by decide) (List.set_set _)) ?_
      refine ri_ev_go 2 (pc1 := 22) (L1 := [some (.ref 153), some (.int x4), some (.int 24)]) (st1 := [.ref 153, .ref 153]) (M1 := ((((ri_M3.set 2 (.inl (.byte, (400, .inl (g6))))).set 1 (.inr (8, [.ref 3, .int 20]))).set 153 (.inl (.byte, (400, .inl (upd (g9) 12 (vp_nar .byte ((x4 >>> (24 &&& 31))).toInt8.toInt32)))))).set 152 (.inr (11, [.ref 154, .int 12, .int 0, .ref 155, .ref 156, .ref 157, .ref 158, .int 0, .int 0, .int 0, .ref 159, .ref 160, .int 0, .int 0, .int 0, .int 0, .int 0, .int 0, .int 0, .ref 161, .int 0, .ref 162, .int 0, .ref 163, .ref 164, .ref 165, .ref 166, .int 0, .int 0, .int 0, .ref 167, .ref 168, .ref 169, .int 0, .int 0, .int 0, .ref 170, .ref 171, .ref 172])))) (c1 := 0) (s1 := 0) (fun n => rfl) ?_
      refine ri_ev_gf (k := 152) rfl (ri_gs (ri_gn (by decide) (ri_gn (by decide) (ri_gn (by decide) ri_M3_152)))) rfl ?_
      refine ri_ev_go 2 (pc1 := 27) (L1 := [some (.ref 153), some (.int x4), some (.int 24)]) (st1 := [.int 13, .ref 153]) (M1 := ((((ri_M3.set 2 (.inl (.byte, (400, .inl (g6))))).set 1 (.inr (8, [.ref 3, .int 20]))).set 153 (.inl (.byte, (400, .inl (upd (g9) 12 (vp_nar .byte ((x4 >>> (24 &&& 31))).toInt8.toInt32)))))).set 152 (.inr (11, [.ref 154, .int 12, .int 0, .ref 155, .ref 156, .ref 157, .ref 158, .int 0, .int 0, .int 0, .ref 159, .ref 160, .int 0, .int 0, .int 0, .int 0, .int 0, .int 0, .int 0, .ref 161, .int 0, .ref 162, .int 0, .ref 163, .ref 164, .ref 165, .ref 166, .int 0, .int 0, .int 0, .ref 167, .ref 168, .ref 169, .int 0, .int 0, .int 0, .ref 170, .ref 171, .ref 172])))) (c1 := 0) (s1 := 0) (fun n => rfl) ?_
      refine ri_ev_pf (k := 152) (gs := [.ref 154, .int 13, .int 0, .ref 155, .ref 156, .ref 157, .ref 158, .int 0, .int 0, .int 0, .ref 159, .ref 160, .int 0, .int 0, .int 0, .int 0, .int 0, .int 0, .int 0, .ref 161, .int 0, .ref 162, .int 0, .ref 163, .ref 164, .ref 165, .ref 166, .int 0, .int 0, .int 0, .ref 167, .ref 168, .ref 169, .int 0, .int 0, .int 0, .ref 170, .ref 171, .ref 172]) (M2 := ((((ri_M3.set 2 (.inl (.byte, (400, .inl (g6))))).set 1 (.inr (8, [.ref 3, .int 20]))).set 153 (.inl (.byte, (400, .inl (upd (g9) 12 (vp_nar .byte ((x4 >>> (24 &&& 31))).toInt8.toInt32)))))).set 152 (.inr (11, [.ref 154, .int 13, .int 0, .ref 155, .ref 156, .ref 157, .ref 158, .int 0, .int 0, .int 0, .ref 159, .ref 160, .int 0, .int 0, .int 0, .int 0, .int 0, .int 0, .int 0, .ref 161, .int 0, .ref 162, .int 0, .ref 163, .ref 164, .ref 165, .ref 166, .int 0, .int 0, .int 0, .ref 167, .ref 168, .ref 169, .int 0, .int 0, .int 0, .ref 170, .ref 171, .ref 172])))) rfl (ri_gs (ri_gn (by decide) (ri_gn (by decide) (ri_gn (by decide) ri_M3_152)))) (Nat.le_of_ble_eq_true rfl) rfl rfl (List.set_set _) ?_
      refine ri_ev_go 5 (pc1 := 8) (L1 := [some (.ref 153), some (.int x4), some (.int 16)]) (st1 := [.ref 153]) (M1 := ((((ri_M3.set 2 (.inl (.byte, (400, .inl (g6))))).set 1 (.inr (8, [.ref 3, .int 20]))).set 153 (.inl (.byte, (400, .inl (upd (g9) 12 (vp_nar .byte ((x4 >>> (24 &&& 31))).toInt8.toInt32)))))).set 152 (.inr (11, [.ref 154, .int 13, .int 0, .ref 155, .ref 156, .ref 157, .ref 158, .int 0, .int 0, .int 0, .ref 159, .ref 160, .int 0, .int 0, .int 0, .int 0, .int 0, .int 0, .int 0, .ref 161, .int 0, .ref 162, .int 0, .ref 163, .ref 164, .ref 165, .ref 166, .int 0, .int 0, .int 0, .ref 167, .ref 168, .ref 169, .int 0, .int 0, .int 0, .ref 170, .ref 171, .ref 172])))) (c1 := 0) (s1 := 0) (fun n => rfl) ?_
      refine ri_ev_gf (k := 152) rfl (ri_gs (ri_gn (by decide) (ri_gn (by decide) (ri_gn (by decide) ri_M3_152)))) rfl ?_
      refine ri_ev_go 1 (pc1 := 12) (L1 := [some (.ref 153), some (.int x4), some (.int 16)]) (st1 := [.ref 153, .ref 154]) (M1 := ((((ri_M3.set 2 (.inl (.byte, (400, .inl (g6))))).set 1 (.inr (8, [.ref 3, .int 20]))).set 153 (.inl (.byte, (400, .inl (upd (g9) 12 (vp_nar .byte ((x4 >>> (24 &&& 31))).toInt8.toInt32)))))).set 152 (.inr (11, [.ref 154, .int 13, .int 0, .ref 155, .ref 156, .ref 157, .ref 158, .int 0, .int 0, .int 0, .ref 159, .ref 160, .int 0, .int 0, .int 0, .int 0, .int 0, .int 0, .int 0, .ref 161, .int 0, .ref 162, .int 0, .ref 163, .ref 164, .ref 165, .ref 166, .int 0, .int 0, .int 0, .ref 167, .ref 168, .ref 169, .int 0, .int 0, .int 0, .ref 170, .ref 171, .ref 172])))) (c1 := 0) (s1 := 0) (fun n => rfl) ?_
      refine ri_ev_gf (k := 152) rfl (ri_gs (ri_gn (by decide) (ri_gn (by decide) (ri_gn (by decide) ri_M3_152)))) rfl ?_
      refine ri_ev_go 4 (pc1 := 19) (L1 := [some (.ref 153), some (.int x4), some (.int 16)]) (st1 := [.int ((x4 >>> (16 &&& 31))).toInt8.toInt32, .int 13, .ref 154]) (M1 := ((((ri_M3.set 2 (.inl (.byte, (400, .inl (g6))))).set 1 (.inr (8, [.ref 3, .int 20]))).set 153 (.inl (.byte, (400, .inl (upd (g9) 12 (vp_nar .byte ((x4 >>> (24 &&& 31))).toInt8.toInt32)))))).set 152 (.inr (11, [.ref 154, .int 13, .int 0, .ref 155, .ref 156, .ref 157, .ref 158, .int 0, .int 0, .int 0, .ref 159, .ref 160, .int 0, .int 0, .int 0, .int 0, .int 0, .int 0, .int 0, .ref 161, .int 0, .ref 162, .int 0, .ref 163, .ref 164, .ref 165, .ref 166, .int 0, .int 0, .int 0, .ref 167, .ref 168, .ref 169, .int 0, .int 0, .int 0, .ref 170, .ref 171, .ref 172])))) (c1 := 0) (s1 := 0) (fun n => rfl) ?_
      refine ri_ev_basd (k := 153) (q := 13) (M2 := ((((ri_M3.set 2 (.inl (.byte, (400, .inl (g6))))).set 1 (.inr (8, [.ref 3, .int 20]))).set 153 (.inl (.byte, (400, .inl (upd (upd (g9) 12 (vp_nar .byte ((x4 >>> (24 &&& 31))).toInt8.toInt32)) 13 (vp_nar .byte ((x4 >>> (16 &&& 31))).toInt8.toInt32)))))).set 152 (.inr (11, [.ref 154, .int 13, .int 0, .ref 155, .ref 156, .ref 157, .ref 158, .int 0, .int 0, .int 0, .ref 159, .ref 160, .int 0, .int 0, .int 0, .int 0, .int 0, .int 0, .int 0, .ref 161, .int 0, .ref 162, .int 0, .ref 163, .ref 164, .ref 165, .ref 166, .int 0, .int 0, .int 0, .ref 167, .ref 168, .ref 169, .int 0, .int 0, .int 0, .ref 170, .ref 171, .ref 172])))) rfl (ri_gn (by decide) (ri_gs (ri_gn (by decide) (ri_gn (by decide) ri_M3_153)))) (by decide) rfl (ri_ss (by decide) (List.set_set _)) ?_
      refine ri_ev_go 2 (pc1 := 22) (L1 := [some (.ref 153), some (.int x4), some (.int 16)]) (st1 := [.ref 153, .ref 153]) (M1 := ((((ri_M3.set 2 (.inl (.byte, (400, .inl (g6))))).set 1 (.inr (8, [.ref 3, .int 20]))).set 153 (.inl (.byte, (400, .inl (upd (upd (g9) 12 (vp_nar .byte ((x4 >>> (24 &&& 31))).toInt8.toInt32)) 13 (vp_nar .byte ((x4 >>> (16 &&& 31))).toInt8.toInt32)))))).set 152 (.inr (11, [.ref 154, .int 13, .int 0, .ref 155, .ref 156, .ref 157, .ref 158, .int 0, .int 0, .int 0, .ref 159, .ref 160, .int 0, .int 0, .int 0, .int 0, .int 0, .int 0, .int 0, .ref 161, .int 0, .ref 162, .int 0, .ref 163, .ref 164, .ref 165, .ref 166, .int 0, .int 0, .int 0, .ref 167, .ref 168, .ref 169, .int 0, .int 0, .int 0, .ref 170, .ref 171, .ref 172])))) (c1 := 0) (s1 := 0) (fun n => rfl) ?_
      refine ri_ev_gf (k := 152) rfl (ri_gs (ri_gn (by decide) (ri_gn (by decide) (ri_gn (by decide) ri_M3_152)))) rfl ?_
      refine ri_ev_go 2 (pc1 := 27) (L1 := [some (.ref 153), some (.int x4), some (.int 16)]) (st1 := [.int 14, .ref 153]) (M1 := ((((ri_M3.set 2 (.inl (.byte, (400, .inl (g6))))).set 1 (.inr (8, [.ref 3, .int 20]))).set 153 (.inl (.byte, (400, .inl (upd (upd (g9) 12 (vp_nar .byte ((x4 >>> (24 &&& 31))).toInt8.toInt32)) 13 (vp_nar .byte ((x4 >>> (16 &&& 31))).toInt8.toInt32)))))).set 152 (.inr (11, [.ref 154, .int 13, .int 0, .ref 155, .ref 156, .ref 157, .ref 158, .int 0, .int 0, .int 0, .ref 159, .ref 160, .int 0, .int 0, .int 0, .int 0, .int 0, .int 0, .int 0, .ref 161, .int 0, .ref 162, .int 0, .ref 163, .ref 164, .ref 165, .ref 166, .int 0, .int 0, .int 0, .ref 167, .ref 168, .ref 169, .int 0, .int 0, .int 0, .ref 170, .ref 171, .ref 172])))) (c1 := 0) (s1 := 0) (fun n => rfl) ?_
      refine ri_ev_pf (k := 152) (gs := [.ref 154, .int 14, .int 0, .ref 155, .ref 156, .ref 157, .ref 158, .int 0, .int 0, .int 0, .ref 159, .ref 160, .int 0, .int 0, .int 0, .int 0, .int 0, .int 0, .int 0, .ref 161, .int 0, .ref 162, .int 0, .ref 163, .ref 164, .ref 165, .ref 166, .int 0, .int 0, .int 0, .ref 167, .ref 168, .ref 169, .int 0, .int 0, .int 0, .ref 170, .ref 171, .ref 172]) (M2 := ((((ri_M3.set 2 (.inl (.byte, (400, .inl (g6))))).set 1 (.inr (8, [.ref 3, .int 20]))).set 153 (.inl (.byte, (400, .inl (upd (upd (g9) 12 (vp_nar .byte ((x4 >>> (24 &&& 31))).toInt8.toInt32)) 13 (vp_nar .byte ((x4 >>> (16 &&& 31))).toInt8.toInt32)))))).set 152 (.inr (11, [.ref 154, .int 14, .int 0, .ref 155, .ref 156, .ref 157, .ref 158, .int 0, .int 0, .int 0, .ref 159, .ref 160, .int 0, .int 0, .int 0, .int 0, .int 0, .int 0, .int 0, .ref 161, .int 0, .ref 162, .int 0, .ref 163, .ref 164, .ref 165, .ref 166, .int 0, .int 0, .int 0, .ref 167, .ref 168, .ref 169, .int 0, .int 0, .int 0, .ref 170, .ref 171, .ref 172])))) rfl (ri_gs (ri_gn (by decide) (ri_gn (by decide) (ri_gn (by decide) ri_M3_152)))) (Nat.le_of_ble_eq_true rfl) rfl rfl (List.set_set _) ?_
      refine ri_ev_go 5 (pc1 := 8) (L1 := [some (.ref 153), some (.int x4), some (.int 8)]) (st1 := [.ref 153]) (M1 := ((((ri_M3.set 2 (.inl (.byte, (400, .inl (g6))))).set 1 (.inr (8, [.ref 3, .int 20]))).set 153 (.inl (.byte, (400, .inl (upd (upd (g9) 12 (vp_nar .byte ((x4 >>> (24 &&& 31))).toInt8.toInt32)) 13 (vp_nar .byte ((x4 >>> (16 &&& 31))).toInt8.toInt32)))))).set 152 (.inr (11, [.ref 154, .int 14, .int 0, .ref 155, .ref 156, .ref 157, .ref 158, .int 0, .int 0, .int 0, .ref 159, .ref 160, .int 0, .int 0, .int 0, .int 0, .int 0, .int 0, .int 0, .ref 161, .int 0, .ref 162, .int 0, .ref 163, .ref 164, .ref 165, .ref 166, .int 0, .int 0, .int 0, .ref 167, .ref 168, .ref 169, .int 0, .int 0, .int 0, .ref 170, .ref 171, .ref 172])))) (c1 := 0) (s1 := 0) (fun n => rfl) ?_
      refine ri_ev_gf (k := 152) rfl (ri_gs (ri_gn (by decide) (ri_gn (by decide) (ri_gn (by decide) ri_M3_152)))) rfl ?_
      refine ri_ev_go 1 (pc1 := 12) (L1 := [some (.ref 153), some (.int x4), some (.int 8)]) (st1 := [.ref 153, .ref 154]) (M1 := ((((ri_M3.set 2 (.inl (.byte, (400, .inl (g6))))).set 1 (.inr (8, [.ref 3, .int 20]))).set 153 (.inl (.byte, (400, .inl (upd (upd (g9) 12 (vp_nar .byte ((x4 >>> (24 &&& 31))).toInt8.toInt32)) 13 (vp_nar .byte ((x4 >>> (16 &&& 31))).toInt8.toInt32)))))).set 152 (.inr (11, [.ref 154, .int 14, .int 0, .ref 155, .ref 156, .ref 157, .ref 158, .int 0, .int 0, .int 0, .ref 159, .ref 160, .int 0, .int 0, .int 0, .int 0, .int 0, .int 0, .int 0, .ref 161, .int 0, .ref 162, .int 0, .ref 163, .ref 164, .ref 165, .ref 166, .int 0, .int 0, .int 0, .ref 167, .ref 168, .ref 169, .int 0, .int 0, .int 0, .ref 170, .ref 171, .ref 172])))) (c1 := 0) (s1 := 0) (fun n => rfl) ?_
      refine ri_ev_gf (k := 152) rfl (ri_gs (ri_gn (by decide) (ri_gn (by decide) (ri_gn (by decide) ri_M3_152)))) rfl ?_
      refine ri_ev_go 4 (pc1 := 19) (L1 := [some (.ref 153), some (.int x4), some (.int 8)]) (st1 := [.int ((x4 >>> (8 &&& 31))).toInt8.toInt32, .int 14, .ref 154]) (M1 := ((((ri_M3.set 2 (.inl (.byte, (400, .inl (g6))))).set 1 (.inr (8, [.ref 3, .int 20]))).set 153 (.inl (.byte, (400, .inl (upd (upd (g9) 12 (vp_nar .byte ((x4 >>> (24 &&& 31))).toInt8.toInt32)) 13 (vp_nar .byte ((x4 >>> (16 &&& 31))).toInt8.toInt32)))))).set 152 (.inr (11, [.ref 154, .int 14, .int 0, .ref 155, .ref 156, .ref 157, .ref 158, .int 0, .int 0, .int 0, .ref 159, .ref 160, .int 0, .int 0, .int 0, .int 0, .int 0, .int 0, .int 0, .ref 161, .int 0, .ref 162, .int 0, .ref 163, .ref 164, .ref 165, .ref 166, .int 0, .int 0, .int 0, .ref 167, .ref 168, .ref 169, .int 0, .int 0, .int 0, .ref 170, .ref 171, .ref 172])))) (c1 := 0) (s1 := 0) (fun n => rfl) ?_
      refine ri_ev_basd (k := 153) (q := 14) (M2 := ((((ri_M3.set 2 (.inl (.byte, (400, .inl (g6))))).set 1 (.inr (8, [.ref 3, .int 20]))).set 153 (.inl (.byte, (400, .inl (upd (upd (upd (g9) 12 (vp_nar .byte ((x4 >>> (24 &&& 31))).toInt8.toInt32)) 13 (vp_nar .byte ((x4 >>> (16 &&& 31))).toInt8.toInt32)) 14 (vp_nar .byte ((x4 >>> (8 &&& 31))).toInt8.toInt32)))))).set 152 (.inr (11, [.ref 154, .int 14, .int 0, .ref 155, .ref 156, .ref 157, .ref 158, .int 0, .int 0, .int 0, .ref 159, .ref 160, .int 0, .int 0, .int 0, .int 0, .int 0, .int 0, .int 0, .ref 161, .int 0, .ref 162, .int 0, .ref 163, .ref 164, .ref 165, .ref 166, .int 0, .int 0, .int 0, .ref 167, .ref 168, .ref 169, .int 0, .int 0, .int 0, .ref 170, .ref 171, .ref 172])))) rfl (ri_gn (by decide) (ri_gs (ri_gn (by decide) (ri_gn (by decide) ri_M3_153)))) (by decide) rfl (ri_ss (by decide) (List.set_set _)) ?_
      refine ri_ev_go 2 (pc1 := 22) (L1 := [some (.ref 153), some (.int x4), some (.int 8)]) (st1 := [.ref 153, .ref 153]) (M1 := ((((ri_M3.set 2 (.inl (.byte, (400, .inl (g6))))).set 1 (.inr (8, [.ref 3, .int 20]))).set 153 (.inl (.byte, (400, .inl (upd (upd (upd (g9) 12 (vp_nar .byte ((x4 >>> (24 &&& 31))).toInt8.toInt32)) 13 (vp_nar .byte ((x4 >>> (16 &&& 31))).toInt8.toInt32)) 14 (vp_nar .byte ((x4 >>> (8 &&& 31))).toInt8.toInt32)))))).set 152 (.inr (11, [.ref 154, .int 14, .int 0, .ref 155, .ref 156, .ref 157, .ref 158, .int 0, .int 0, .int 0, .ref 159, .ref 160, .int 0, .int 0, .int 0, .int 0, .int 0, .int 0, .int 0, .ref 161, .int 0, .ref 162, .int 0, .ref 163, .ref 164, .ref 165, .ref 166, .int 0, .int 0, .int 0, .ref 167, .ref 168, .ref 169, .int 0, .int 0, .int 0, .ref 170, .ref 171, .ref 172])))) (c1 := 0) (s1 := 0) (fun n => rfl) ?_
      refine ri_ev_gf (k := 152) rfl (ri_gs (ri_gn (by decide) (ri_gn (by decide) (ri_gn (by decide) ri_M3_152)))) rfl ?_
      refine ri_ev_go 2 (pc1 := 27) (L1 := [some (.ref 153), some (.int x4), some (.int 8)]) (st1 := [.int 15, .ref 153]) (M1 := ((((ri_M3.set 2 (.inl (.byte, (400, .inl (g6))))).set 1 (.inr (8, [.ref 3, .int 20]))).set 153 (.inl (.byte, (400, .inl (upd (upd (upd (g9) 12 (vp_nar .byte ((x4 >>> (24 &&& 31))).toInt8.toInt32)) 13 (vp_nar .byte ((x4 >>> (16 &&& 31))).toInt8.toInt32)) 14 (vp_nar .byte ((x4 >>> (8 &&& 31))).toInt8.toInt32)))))).set 152 (.inr (11, [.ref 154, .int 14, .int 0, .ref 155, .ref 156, .ref 157, .ref 158, .int 0, .int 0, .int 0, .ref 159, .ref 160, .int 0, .int 0, .int 0, .int 0, .int 0, .int 0, .int 0, .ref 161, .int 0, .ref 162, .int 0, .ref 163, .ref 164, .ref 165, .ref 166, .int 0, .int 0, .int 0, .ref 167, .ref 168, .ref 169, .int 0, .int 0, .int 0, .ref 170, .ref 171, .ref 172])))) (c1 := 0) (s1 := 0) (fun n => rfl) ?_
      refine ri_ev_pf (k := 152) (gs := [.ref 154, .int 15, .int 0, .ref 155, .ref 156, .ref 157, .ref 158, .int 0, .int 0, .int 0, .ref 159, .ref 160, .int 0, .int 0, .int 0, .int 0, .int 0, .int 0, .int 0, .ref 161, .int 0, .ref 162, .int 0, .ref 163, .ref 164, .ref 165, .ref 166, .int 0, .int 0, .int 0, .ref 167, .ref 168, .ref 169, .int 0, .int 0, .int 0, .ref 170, .ref 171, .ref 172]) (M2 := ((((ri_M3.set 2 (.inl (.byte, (400, .inl (g6))))).set 1 (.inr (8, [.ref 3, .int 20]))).set 153 (.inl (.byte, (400, .inl (upd (upd (upd (g9) 12 (vp_nar .byte ((x4 >>> (24 &&& 31))).toInt8.toInt32)) 13 (vp_nar .byte ((x4 >>> (16 &&& 31))).toInt8.toInt32)) 14 (vp_nar .byte ((x4 >>> (8 &&& 31))).toInt8.toInt32)))))).set 152 (.inr (11, [.ref 154, .int 15, .int 0, .ref 155, .ref 156, .ref 157, .ref 158, .int 0, .int 0, .int 0, .ref 159, .ref 160, .int 0, .int 0, .int 0, .int 0, .int 0, .int 0, .int 0, .ref 161, .int 0, .ref 162, .int 0, .ref 163, .ref 164, .ref 165, .ref 166, .int 0, .int 0, .int 0, .ref 167, .ref 168, .ref 169, .int 0, .int 0, .int 0, .ref 170, .ref 171, .ref 172])))) rfl (ri_gs (ri_gn (by decide) (ri_gn (by decide) (ri_gn (by decide) ri_M3_152)))) (Nat.le_of_ble_eq_true rfl) rfl rfl (List.set_set _) ?_
      refine ri_ev_go 5 (pc1 := 8) (L1 := [some (.ref 153), some (.int x4), some (.int 0)]) (st1 := [.ref 153]) (M1 := ((((ri_M3.set 2 (.inl (.byte, (400, .inl (g6))))).set 1 (.inr (8, [.ref 3, .int 20]))).set 153 (.inl (.byte, (400, .inl (upd (upd (upd (g9) 12 (vp_nar .byte ((x4 >>> (24 &&& 31))).toInt8.toInt32)) 13 (vp_nar .byte ((x4 >>> (16 &&& 31))).toInt8.toInt32)) 14 (vp_nar .byte ((x4 >>> (8 &&& 31))).toInt8.toInt32)))))).set 152 (.inr (11, [.ref 154, .int 15, .int 0, .ref 155, .ref 156, .ref 157, .ref 158, .int 0, .int 0, .int 0, .ref 159, .ref 160, .int 0, .int 0, .int 0, .int 0, .int 0, .int 0, .int 0, .ref 161, .int 0, .ref 162, .int 0, .ref 163, .ref 164, .ref 165, .ref 166, .int 0, .int 0, .int 0, .ref 167, .ref 168, .ref 169, .int 0, .int 0, .int 0, .ref 170, .ref 171, .ref 172])))) (c1 := 0) (s1 := 0) (fun n => rfl) ?_
      refine ri_ev_gf (k := 152) rfl (ri_gs (ri_gn (by decide) (ri_gn (by decide) (ri_gn (by decide) ri_M3_152)))) rfl ?_
      refine ri_ev_go 1 (pc1 := 12) (L1 := [some (.ref 153), some (.int x4), some (.int 0)]) (st1 := [.ref 153, .ref 154]) (M1 := ((((ri_M3.set 2 (.inl (.byte, (400, .inl (g6))))).set 1 (.inr (8, [.ref 3, .int 20]))).set 153 (.inl (.byte, (400, .inl (upd (upd (upd (g9) 12 (vp_nar .byte ((x4 >>> (24 &&& 31))).toInt8.toInt32)) 13 (vp_nar .byte ((x4 >>> (16 &&& 31))).toInt8.toInt32)) 14 (vp_nar .byte ((x4 >>> (8 &&& 31))).toInt8.toInt32)))))).set 152 (.inr (11, [.ref 154, .int 15, .int 0, .ref 155, .ref 156, .ref 157, .ref 158, .int 0, .int 0, .int 0, .ref 159, .ref 160, .int 0, .int 0, .int 0, .int 0, .int 0, .int 0, .int 0, .ref 161, .int 0, .ref 162, .int 0, .ref 163, .ref 164, .ref 165, .ref 166, .int 0, .int 0, .int 0, .ref 167, .ref 168, .ref 169, .int 0, .int 0, .int 0, .ref 170, .ref 171, .ref 172])))) (c1 := 0) (s1 := 0) (fun n => rfl) ?_
      refine ri_ev_gf (k := 152) rfl (ri_gs (ri_gn (by decide) (ri_gn (by decide) (ri_gn (by decide) ri_M3_152)))) rfl ?_
      refine ri_ev_go 4 (pc1 := 19) (L1 := [some (.ref 153), some (.int x4), some (.int 0)]) (st1 := [.int ((x4 >>> (0 &&& 31))).toInt8.toInt32, .int 15, .ref 154]) (M1 := ((((ri_M3.set 2 (.inl (.byte, (400, .inl (g6))))).set 1 (.inr (8, [.ref 3, .int 20]))).set 153 (.inl (.byte, (400, .inl (upd (upd (upd (g9) 12 (vp_nar .byte ((x4 >>> (24 &&& 31))).toInt8.toInt32)) 13 (vp_nar .byte ((x4 >>> (16 &&& 31))).toInt8.toInt32)) 14 (vp_nar .byte ((x4 >>> (8 &&& 31))).toInt8.toInt32)))))).set 152 (.inr (11, [.ref 154, .int 15, .int 0, .ref 155, .ref 156, .ref 157, .ref 158, .int 0, .int 0, .int 0, .ref 159, .ref 160, .int 0, .int 0, .int 0, .int 0, .int 0, .int 0, .int 0, .ref 161, .int 0, .ref 162, .int 0, .ref 163, .ref 164, .ref 165, .ref 166, .int 0, .int 0, .int 0, .ref 167, .ref 168, .ref 169, .int 0, .int 0, .int 0, .ref 170, .ref 171, .ref 172])))) (c1 := 0) (s1 := 0) (fun n => rfl) ?_
      refine ri_ev_basd (k := 153) (q := 15) (M2 := ((((ri_M3.set 2 (.inl (.byte, (400, .inl (g6))))).set 1 (.inr (8, [.ref 3, .int 20]))).set 153 (.inl (.byte, (400, .inl (upd (upd (upd (upd (g9) 12 (vp_nar .byte ((x4 >>> (24 &&& 31))).toInt8.toInt32)) 13 (vp_nar .byte ((x4 >>> (16 &&& 31))).toInt8.toInt32)) 14 (vp_nar .byte ((x4 >>> (8 &&& 31))).toInt8.toInt32)) 15 (vp_nar .byte ((x4 >>> (0 &&& 31))).toInt8.toInt32)))))).set 152 (.inr (11, [.ref 154, .int 15, .int 0, .ref 155, .ref 156, .ref 157, .ref 158, .int 0, .int 0, .int 0, .ref 159, .ref 160, .int 0, .int 0, .int 0, .int 0, .int 0, .int 0, .int 0, .ref 161, .int 0, .ref 162, .int 0, .ref 163, .ref 164, .ref 165, .ref 166, .int 0, .int 0, .int 0, .ref 167, .ref 168, .ref 169, .int 0, .int 0, .int 0, .ref 170, .ref 171, .ref 172])))) rfl (ri_gn (by decide) (ri_gs (ri_gn (by decide) (ri_gn (by decide) ri_M3_153)))) (by decide) rfl (ri_ss (by decide) (List.set_set _)) ?_
      refine ri_ev_go 2 (pc1 := 22) (L1 := [some (.ref 153), some (.int x4), some (.int 0)]) (st1 := [.ref 153, .ref 153]) (M1 := ((((ri_M3.set 2 (.inl (.byte, (400, .inl (g6))))).set 1 (.inr (8, [.ref 3, .int 20]))).set 153 (.inl (.byte, (400, .inl (upd (upd (upd (upd (g9) 12 (vp_nar .byte ((x4 >>> (24 &&& 31))).toInt8.toInt32)) 13 (vp_nar .byte ((x4 >>> (16 &&& 31))).toInt8.toInt32)) 14 (vp_nar .byte ((x4 >>> (8 &&& 31))).toInt8.toInt32)) 15 (vp_nar .byte ((x4 >>> (0 &&& 31))).toInt8.toInt32)))))).set 152 (.inr (11, [.ref 154, .int 15, .int 0, .ref 155, .ref 156, .ref 157, .ref 158, .int 0, .int 0, .int 0, .ref 159, .ref 160, .int 0, .int 0, .int 0, .int 0, .int 0, .int 0, .int 0, .ref 161, .int 0, .ref 162, .int 0, .ref 163, .ref 164, .ref 165, .ref 166, .int 0, .int 0, .int 0, .ref 167, .ref 168, .ref 169, .int 0, .int 0, .int 0, .ref 170, .ref 171, .ref 172])))) (c1 := 0) (s1 := 0) (fun n => rfl) ?_
      refine ri_ev_gf (k := 152) rfl (ri_gs (ri_gn (by decide) (ri_gn (by decide) (ri_gn (by decide) ri_M3_152)))) rfl ?_
      refine ri_ev_go 2 (pc1 := 27) (L1 := [some (.ref 153), some (.int x4), some (.int 0)]) (st1 := [.int 16, .ref 153]) (M1 := ((((ri_M3.set 2 (.inl (.byte, (400, .inl (g6))))).set 1 (.inr (8, [.ref 3, .int 20]))).set 153 (.inl (.byte, (400, .inl (upd (upd (upd (upd (g9) 12 (vp_nar .byte ((x4 >>> (24 &&& 31))).toInt8.toInt32)) 13 (vp_nar .byte ((x4 >>> (16 &&& 31))).toInt8.toInt32)) 14 (vp_nar .byte ((x4 >>> (8 &&& 31))).toInt8.toInt32)) 15 (vp_nar .byte ((x4 >>> (0 &&& 31))).toInt8.toInt32)))))).set 152 (.inr (11, [.ref 154, .int 15, .int 0, .ref 155, .ref 156, .ref 157, .ref 158, .int 0, .int 0, .int 0, .ref 159, .ref 160, .int 0, .int 0, .int 0, .int 0, .int 0, .int 0, .int 0, .ref 161, .int 0, .ref 162, .int 0, .ref 163, .ref 164, .ref 165, .ref 166, .int 0, .int 0, .int 0, .ref 167, .ref 168, .ref 169, .int 0, .int 0, .int 0, .ref 170, .ref 171, .ref 172])))) (c1 := 0) (s1 := 0) (fun n => rfl) ?_
      refine ri_ev_pf (k := 152) (gs := [.ref 154, .int 16, .int 0, .ref 155, .ref 156, .ref 157, .ref 158, .int 0, .int 0, .int 0, .ref 159, .ref 160, .int 0, .int 0, .int 0, .int 0, .int 0, .int 0, .int 0, .ref 161, .int 0, .ref 162, .int 0, .ref 163, .ref 164, .ref 165, .ref 166, .int 0, .int 0, .int 0, .ref 167, .ref 168, .ref 169, .int 0, .int 0, .int 0, .ref 170, .ref 171, .ref 172]) (M2 := ((((ri_M3.set 2 (.inl (.byte, (400, .inl (g6))))).set 1 (.inr (8, [.ref 3, .int 20]))).set 153 (.inl (.byte, (400, .inl (upd (upd (upd (upd (g9) 12 (vp_nar .byte ((x4 >>> (24 &&& 31))).toInt8.toInt32)) 13 (vp_nar .byte ((x4 >>> (16 &&& 31))).toInt8.toInt32)) 14 (vp_nar .byte ((x4 >>> (8 &&& 31))).toInt8.toInt32)) 15 (vp_nar .byte ((x4 >>> (0 &&& 31))).toInt8.toInt32)))))).set 152 (.inr (11, [.ref 154, .int 16, .int 0, .ref 155, .ref 156, .ref 157, .ref 158, .int 0, .int 0, .int 0, .ref 159, .ref 160, .int 0, .int 0, .int 0, .int 0, .int 0, .int 0, .int 0, .ref 161, .int 0, .ref 162, .int 0, .ref 163, .ref 164, .ref 165, .ref 166, .int 0, .int 0, .int 0, .ref 167, .ref 168, .ref 169, .int 0, .int 0, .int 0, .ref 170, .ref 171, .ref 172])))) rfl (ri_gs (ri_gn (by decide) (ri_gn (by decide) (ri_gn (by decide) ri_M3_152)))) (Nat.le_of_ble_eq_true rfl) rfl rfl (List.set_set _) ?_
      refine ri_ev_go 4 (pc1 := 36) (L1 := [some (.ref 153), some (.int x4), some (.int (-8))]) (st1 := []) (M1 := ((((ri_M3.set 2 (.inl (.byte, (400, .inl (g6))))).set 1 (.inr (8, [.ref 3, .int 20]))).set 153 (.inl (.byte, (400, .inl (upd (upd (upd (upd (g9) 12 (vp_nar .byte ((x4 >>> (24 &&& 31))).toInt8.toInt32)) 13 (vp_nar .byte ((x4 >>> (16 &&& 31))).toInt8.toInt32)) 14 (vp_nar .byte ((x4 >>> (8 &&& 31))).toInt8.toInt32)) 15 (vp_nar .byte ((x4 >>> (0 &&& 31))).toInt8.toInt32)))))).set 152 (.inr (11, [.ref 154, .int 16, .int 0, .ref 155, .ref 156, .ref 157, .ref 158, .int 0, .int 0, .int 0, .ref 159, .ref 160, .int 0, .int 0, .int 0, .int 0, .int 0, .int 0, .int 0, .ref 161, .int 0, .ref 162, .int 0, .ref 163, .ref 164, .ref 165, .ref 166, .int 0, .int 0, .int 0, .ref 167, .ref 168, .ref 169, .int 0, .int 0, .int 0, .ref 170, .ref 171, .ref 172])))) (c1 := 0) (s1 := 0) (fun n => rfl) ?_
      exact ri_ev_ret (fun n => rfl)
    obtain ⟨g11, hc31⟩ : ∃ g11 : Nat → Int32, ri_c 18 171 [.ref 153, .int x5] ((((ri_M3.set 2 (.inl (.byte, (400, .inl (g6))))).set 1 (.inr (8, [.ref 3, .int 20]))).set 153 (.inl (.byte, (400, .inl (g10))))).set 152 (.inr (11, [.ref 154, .int 16, .int 0, .ref 155, .ref 156, .ref 157, .ref 158, .int 0, .int 0, .int 0, .ref 159, .ref 160, .int 0, .int 0, .int 0, .int 0, .int 0, .int 0, .int 0, .ref 161, .int 0, .ref 162, .int 0, .ref 163, .ref 164, .ref 165, .ref 166, .int 0, .int 0, .int 0, .ref 167, .ref 168, .ref 169, .int 0, .int 0, .int 0, .ref 170, .ref 171, .ref 172]))) = some (none, ((((ri_M3.set 2 (.inl (.byte, (400, .inl (g6))))).set 1 (.inr (8, [.ref 3, .int 20]))).set 153 (.inl (.byte, (400, .inl (g11))))).set 152 (.inr (11, [.ref 154, .int 20, .int 0, .ref 155, .ref 156, .ref 157, .ref 158, .int 0, .int 0, .int 0, .ref 159, .ref 160, .int 0, .int 0, .int 0, .int 0, .int 0, .int 0, .int 0, .ref 161, .int 0, .ref 162, .int 0, .ref 163, .ref 164, .ref 165, .ref 166, .int 0, .int 0, .int 0, .ref 167, .ref 168, .ref 169, .int 0, .int 0, .int 0, .ref 170, .ref 171, .ref 172]))), 0, 0) := by
      refine ⟨upd (upd (upd (upd (g10) 16 (vp_nar .byte ((x5 >>> (24 &&& 31))).toInt8.toInt32)) 17 (vp_nar .byte ((x5 >>> (16 &&& 31))).toInt8.toInt32)) 18 (vp_nar .byte ((x5 >>> (8 &&& 31))).toInt8.toInt32)) 19 (vp_nar .byte ((x5 >>> (0 &&& 31))).toInt8.toInt32), ?_⟩
      refine ri_ev_call (N := 81) (L := [some (.ref 153), some (.int x5), none]) rfl (Nat.le_of_ble_eq_true rfl) ?_
      refine ri_ev_go 5 (pc1 := 8) (L1 := [some (.ref 153), some (.int x5), some (.int 24)]) (st1 := [.ref 153]) (M1 := ((((ri_M3.set 2 (.inl (.byte, (400, .inl (g6))))).set 1 (.inr (8, [.ref 3, .int 20]))).set 153 (.inl (.byte, (400, .inl (g10))))).set 152 (.inr (11, [.ref 154, .int 16, .int 0, .ref 155, .ref 156, .ref 157, .ref 158, .int 0, .int 0, .int 0, .ref 159, .ref 160, .int 0, .int 0, .int 0, .int 0, .int 0, .int 0, .int 0, .ref 161, .int 0, .ref 162, .int 0, .ref 163, .ref 164, .ref 165, .ref 166, .int 0, .int 0, .int 0, .ref 167, .ref 168, .ref 169, .int 0, .int 0, .int 0, .ref 170, .ref 171, .ref 172])))) (c1 := 0) (s1 := 0) (fun n => rfl) ?_
      refine ri_ev_gf (k := 152) rfl (ri_gs (ri_gn (by decide) (ri_gn (by decide) (ri_gn (by decide) ri_M3_152)))) rfl ?_
      refine ri_ev_go 1 (pc1 := 12) (L1 := [some (.ref 153), some (.int x5), some (.int 24)]) (st1 := [.ref 153, .ref 154]) (M1 := ((((ri_M3.set 2 (.inl (.byte, (400, .inl (g6))))).set 1 (.inr (8, [.ref 3, .int 20]))).set 153 (.inl (.byte, (400, .inl (g10))))).set 152 (.inr (11, [.ref 154, .int 16, .int 0, .ref 155, .ref 156, .ref 157, .ref 158, .int 0, .int 0, .int 0, .ref 159, .ref 160, .int 0, .int 0, .int 0, .int 0, .int 0, .int 0, .int 0, .ref 161, .int 0, .ref 162, .int 0, .ref 163, .ref 164, .ref 165, .ref 166, .int 0, .int 0, .int 0, .ref 167, .ref 168, .ref 169, .int 0, .int 0, .int 0, .ref 170, .ref 171, .ref 172])))) (c1 := 0) (s1 := 0) (fun n => rfl) ?_
      refine ri_ev_gf (k := 152) rfl (ri_gs (ri_gn (by decide) (ri_gn (by decide) (ri_gn (by decide) ri_M3_152)))) rfl ?_
      refine ri_ev_go 4 (pc1 := 19) (L1 := [some (.ref 153), some (.int x5), some (.int 24)]) (st1 := [.int ((x5 >>> (24 &&& 31))).toInt8.toInt32, .int 16, .ref 154]) (M1 := ((((ri_M3.set 2 (.inl (.byte, (400, .inl (g6))))).set 1 (.inr (8, [.ref 3, .int 20]))).set 153 (.inl (.byte, (400, .inl (g10))))).set 152 (.inr (11, [.ref 154, .int 16, .int 0, .ref 155, .ref 156, .ref 157, .ref 158, .int 0, .int 0, .int 0, .ref 159, .ref 160, .int 0, .int 0, .int 0, .int 0, .int 0, .int 0, .int 0, .ref 161, .int 0, .ref 162, .int 0, .ref 163, .ref 164, .ref 165, .ref 166, .int 0, .int 0, .int 0, .ref 167, .ref 168, .ref 169, .int 0, .int 0, .int 0, .ref 170, .ref 171, .ref 172])))) (c1 := 0) (s1 := 0) (fun n => rfl) ?_
      refine ri_ev_basd (k := 153) (q := 16) (M2 := ((((ri_M3.set 2 (.inl (.byte, (400, .inl (g6))))).set 1 (.inr (8, [.ref 3, .int 20]))).set 153 (.inl (.byte, (400, .inl (upd (g10) 16 (vp_nar .byte ((x5 >>> (24 &&& 31))).toInt8.toInt32)))))).set 152 (.inr (11, [.ref 154, .int 16, .int 0, .ref 155, .ref 156, .ref 157, .ref 158, .int 0, .int 0, .int 0, .ref 159, .ref 160, .int 0, .int 0, .int 0, .int 0, .int 0, .int 0, .int 0, .ref 161, .int 0, .ref 162, .int 0, .ref 163, .ref 164, .ref 165, .ref 166, .int 0, .int 0, .int 0, .ref 167, .ref 168, .ref 169, .int 0, .int 0, .int 0, .ref 170, .ref 171, .ref 172])))) rfl (ri_gn (by decide) (ri_gs (ri_gn (by decide) (ri_gn (by decide) ri_M3_153)))) (by decide) rfl (ri_ss (by decide) (List.set_set _)) ?_
      refine ri_ev_go 2 (pc1 := 22) (L1 := [some (.ref 153), some (.int x5), some (.int 24)]) (st1 := [.ref 153, .ref 153]) (M1 := ((((ri_M3.set 2 (.inl (.byte, (400, .inl (g6))))).set 1 (.inr (8, [.ref 3, .int 20]))).set 153 (.inl (.byte, (400, .inl (upd (g10) 16 (vp_nar .byte ((x5 >>> (24 &&& 31))).toInt8.toInt32)))))).set 152 (.inr (11, [.ref 154, .int 16, .int 0, .ref 155, .ref 156, .ref 157, .ref 158, .int 0, .int 0, .int 0, .ref 159, .ref 160, .int 0, .int 0, .int 0, .int 0, .int 0, .int 0, .int 0, .ref 161, .int 0, .ref 162, .int 0, .ref 163, .ref 164, .ref 165, .ref 166, .int 0, .int 0, .int 0, .ref 167, .ref 168, .ref 169, .int 0, .int 0, .int 0, .ref 170, .ref 171, .ref 172])))) (c1 := 0) (s1 := 0) (fun n => rfl) ?_
      refine ri_ev_gf (k := 152) rfl (ri_gs (ri_gn (by decide) (ri_gn (by decide) (ri_gn (by decide) ri_M3_152)))) rfl ?_
      refine ri_ev_go 2 (pc1 := 27) (L1 := [some (.ref 153), some (.int x5), some (.int 24)]) (st1 := [.int 17, .ref 153]) (M1 := ((((ri_M3.set 2 (.inl (.byte, (400, .inl (g6))))).set 1 (.inr (8, [.ref 3, .int 20]))).set 153 (.inl (.byte, (400, .inl (upd (g10) 16 (vp_nar .byte ((x5 >>> (24 &&& 31))).toInt8.toInt32)))))).set 152 (.inr (11, [.ref 154, .int 16, .int 0, .ref 155, .ref 156, .ref 157, .ref 158, .int 0, .int 0, .int 0, .ref 159, .ref 160, .int 0, .int 0, .int 0, .int 0, .int 0, .int 0, .int 0, .ref 161, .int 0, .ref 162, .int 0, .ref 163, .ref 164, .ref 165, .ref 166, .int 0, .int 0, .int 0, .ref 167, .ref 168, .ref 169, .int 0, .int 0, .int 0, .ref 170, .ref 171, .ref 172])))) (c1 := 0) (s1 := 0) (fun n => rfl) ?_
      refine ri_ev_pf (k := 152) (gs := [.ref 154, .int 17, .int 0, .ref 155, .ref 156, .ref 157, .ref 158, .int 0, .int 0, .int 0, .ref 159, .ref 160, .int 0, .int 0, .int 0, .int 0, .int 0, .int 0, .int 0, .ref 161, .int 0, .ref 162, .int 0, .ref 163, .ref 164, .ref 165, .ref 166, .int 0, .int 0, .int 0, .ref 167, .ref 168, .ref 169, .int 0, .int 0, .int 0, .ref 170, .ref 171, .ref 172]) (M2 := ((((ri_M3.set 2 (.inl (.byte, (400, .inl (g6))))).set 1 (.inr (8, [.ref 3, .int 20]))).set 153 (.inl (.byte, (400, .inl (upd (g10) 16 (vp_nar .byte ((x5 >>> (24 &&& 31))).toInt8.toInt32)))))).set 152 (.inr (11, [.ref 154, .int 17, .int 0, .ref 155, .ref 156, .ref 157, .ref 158, .int 0, .int 0, .int 0, .ref 159, .ref 160, .int 0, .int 0, .int 0, .int 0, .int 0, .int 0, .int 0, .ref 161, .int 0, .ref 162, .int 0, .ref 163, .ref 164, .ref 165, .ref 166, .int 0, .int 0, .int 0, .ref 167, .ref 168, .ref 169, .int 0, .int 0, .int 0, .ref 170, .ref 171, .ref 172])))) rfl (ri_gs (ri_gn (by decide) (ri_gn (by decide) (ri_gn (by decide) ri_M3_152)))) (Nat.le_of_ble_eq_true rfl) rfl rfl (List.set_set _) ?_
      refine ri_ev_go 5 (pc1 := 8) (L1 := [some (.ref 153), some (.int x5), some (.int 16)]) (st1 := [.ref 153]) (M1 := ((((ri_M3.set 2 (.inl (.byte, (400, .inl (g6))))).set 1 (.inr (8, [.ref 3, .int 20]))).set 153 (.inl (.byte, (400, .inl (upd (g10) 16 (vp_nar .byte ((x5 >>> (24 &&& 31))).toInt8.toInt32)))))).set 152 (.inr (11, [.ref 154, .int 17, .int 0, .ref 155, .ref 156, .ref 157, .ref 158, .int 0, .int 0, .int 0, .ref 159, .ref 160, .int 0, .int 0, .int 0, .int 0, .int 0, .int 0, .int 0, .ref 161, .int 0, .ref 162, .int 0, .ref 163, .ref 164, .ref 165, .ref 166, .int 0, .int 0, .int 0, .ref 167, .ref 168, .ref 169, .int 0, .int 0, .int 0, .ref 170, .ref 171, .ref 172])))) (c1 := 0) (s1 := 0) (fun n => rfl) ?_
      refine ri_ev_gf (k := 152) rfl (ri_gs (ri_gn (by decide) (ri_gn (by decide) (ri_gn (by decide) ri_M3_152)))) rfl ?_
      refine ri_ev_go 1 (pc1 := 12) (L1 := [some (.ref 153), some (.int x5), some (.int 16)]) (st1 := [.ref 153, .ref 154]) (M1 := ((((ri_M3.set 2 (.inl (.byte, (400, .inl (g6))))).set 1 (.inr (8, [.ref 3, .int 20]))).set 153 (.inl (.byte, (400, .inl (upd (g10) 16 (vp_nar .byte ((x5 >>> (24 &&& 31))).toInt8.toInt32)))))).set 152 (.inr (11, [.ref 154, .int 17, .int 0, .ref 155, .ref 156, .ref 157, .ref 158, .int 0, .int 0, .int 0, .ref 159, .ref 160, .int 0, .int 0, .int 0, .int 0, .int 0, .int 0, .int 0, .ref 161, .int 0, .ref 162, .int 0, .ref 163, .ref 164, .ref 165, .ref 166, .int 0, .int 0, .int 0, .ref 167, .ref 168, .ref 169, .int 0, .int 0, .int 0, .ref 170, .ref 171, .ref 172])))) (c1 := 0) (s1 := 0) (fun n => rfl) ?_
      refine ri_ev_gf (k := 152) rfl (ri_gs (ri_gn (by decide) (ri_gn (by decide) (ri_gn (by decide) ri_M3_152)))) rfl ?_
      refine ri_ev_go 4 (pc1 := 19) (L1 := [some (.ref 153), some (.int x5), some (.int 16)]) (st1 := [.int ((x5 >>> (16 &&& 31))).toInt8.toInt32, .int 17, .ref 154]) (M1 := ((((ri_M3.set 2 (.inl (.byte, (400, .inl (g6))))).set 1 (.inr (8, [.ref 3, .int 20]))).set 153 (.inl (.byte, (400, .inl (upd (g10) 16 (vp_nar .byte ((x5 >>> (24 &&& 31))).toInt8.toInt32)))))).set 152 (.inr (11, [.ref 154, .int 17, .int 0, .ref 155, .ref 156, .ref 157, .ref 158, .int 0, .int 0, .int 0, .ref 159, .ref 160, .int 0, .int 0, .int 0, .int 0, .int 0, .int 0, .int 0, .ref 161, .int 0, .ref 162, .int 0, .ref 163, .ref 164, .ref 165, .ref 166, .int 0, .int 0, .int 0, .ref 167, .ref 168, .ref 169, .int 0, .int 0, .int 0, .ref 170, .ref 171, .ref 172])))) (c1 := 0) (s1 := 0) (fun n => rfl) ?_
      refine ri_ev_basd (k := 153) (q := 17) (M2 := ((((ri_M3.set 2 (.inl (.byte, (400, .inl (g6))))).set 1 (.inr (8, [.ref 3, .int 20]))).set 153 (.inl (.byte, (400, .inl (upd (upd (g10) 16 (vp_nar .byte ((x5 >>> (24 &&& 31))).toInt8.toInt32)) 17 (vp_nar .byte ((x5 >>> (16 &&& 31))).toInt8.toInt32)))))).set 152 (.inr (11, [.ref 154, .int 17, .int 0, .ref 155, .ref 156, .ref 157, .ref 158, .int 0, .int 0, .int 0, .ref 159, .ref 160, .int 0, .int 0, .int 0, .int 0, .int 0, .int 0, .int 0, .ref 161, .int 0, .ref 162, .int 0, .ref 163, .ref 164, .ref 165, .ref 166, .int 0, .int 0, .int 0, .ref 167, .ref 168, .ref 169, .int 0, .int 0, .int 0, .ref 170, .ref 171, .ref 172])))) rfl (ri_gn (by decide) (ri_gs (ri_gn (by decide) (ri_gn (by decide) ri_M3_153)))) (by decide) rfl (ri_ss (by decide) (List.set_set _)) ?_
      refine ri_ev_go 2 (pc1 := 22) (L1 := [some (.ref 153), some (.int x5), some (.int 16)]) (st1 := [.ref 153, .ref 153]) (M1 := ((((ri_M3.set 2 (.inl (.byte, (400, .inl (g6))))).set 1 (.inr (8, [.ref 3, .int 20]))).set 153 (.inl (.byte, (400, .inl (upd (upd (g10) 16 (vp_nar .byte ((x5 >>> (24 &&& 31))).toInt8.toInt32)) 17 (vp_nar .byte ((x5 >>> (16 &&& 31))).toInt8.toInt32)))))).set 152 (.inr (11, [.ref 154, .int 17, .int 0, .ref 155, .ref 156, .ref 157, .ref 158, .int 0, .int 0, .int 0, .ref 159, .ref 160, .int 0, .int 0, .int 0, .int 0, .int 0, .int 0, .int 0, .ref 161, .int 0, .ref 162, .int 0, .ref 163, .ref 164, .ref 165, .ref 166, .int 0, .int 0, .int 0, .ref 167, .ref 168, .ref 169, .int 0, .int 0, .int 0, .ref 170, .ref 171, .ref 172])))) (c1 := 0) (s1 := 0) (fun n => rfl) ?_
      refine ri_ev_gf (k := 152) rfl (ri_gs (ri_gn (by decide) (ri_gn (by decide) (ri_gn (by decide) ri_M3_152)))) rfl ?_
      refine ri_ev_go 2 (pc1 := 27) (L1 := [some (.ref 153), some (.int x5), some (.int 16)]) (st1 := [.int 18, .ref 153]) (M1 := ((((ri_M3.set 2 (.inl (.byte, (400, .inl (g6))))).set 1 (.inr (8, [.ref 3, .int 20]))).set 153 (.inl (.byte, (400, .inl (upd (upd (g10) 16 (vp_nar .byte ((x5 >>> (24 &&& 31))).toInt8.toInt32)) 17 (vp_nar .byte ((x5 >>> (16 &&& 31))).toInt8.toInt32)))))).set 152 (.inr (11, [.ref 154, .int 17, .int 0, .ref 155, .ref 156, .ref 157, .ref 158, .int 0, .int 0, .int 0, .ref 159, .ref 160, .int 0, .int 0, .int 0, .int 0, .int 0, .int 0, .int 0, .ref 161, .int 0, .ref 162, .int 0, .ref 163, .ref 164, .ref 165, .ref 166, .int 0, .int 0, .int 0, .ref 167, .ref 168, .ref 169, .int 0, .int 0, .int 0, .ref 170, .ref 171, .ref 172])))) (c1 := 0) (s1 := 0) (fun n => rfl) ?_
      refine ri_ev_pf (k := 152) (gs := [.ref 154, .int 18, .int 0, .ref 155, .ref 156, .ref 157, .ref 158, .int 0, .int 0, .int 0, .ref 159, .ref 160, .int 0, .int 0, .int 0, .int 0, .int 0, .int 0, .int 0, .ref 161, .int 0, .ref 162, .int 0, .ref 163, .ref 164, .ref 165, .ref 166, .int 0, .int 0, .int 0, .ref 167, .ref 168, .ref 169, .int 0, .int 0, .int 0, .ref 170, .ref 171, .ref 172]) (M2 := ((((ri_M3.set 2 (.inl (.byte, (400, .inl (g6))))).set 1 (.inr (8, [.ref 3, .int 20]))).set 153 (.inl (.byte, (400, .inl (upd (upd (g10) 16 (vp_nar .byte ((x5 >>> (24 &&& 31))).toInt8.toInt32)) 17 (vp_nar .byte ((x5 >>> (16 &&& 31))).toInt8.toInt32)))))).set 152 (.inr (11, [.ref 154, .int 18, .int 0, .ref 155, .ref 156, .ref 157, .ref 158, .int 0, .int 0, .int 0, .ref 159, .ref 160, .int 0, .int 0, .int 0, .int 0, .int 0, .int 0, .int 0, .ref 161, .int 0, .ref 162, .int 0, .ref 163, .ref 164, .ref 165, .ref 166, .int 0, .int 0, .int 0, .ref 167, .ref 168, .ref 169, .int 0, .int 0, .int 0, .ref 170, .ref 171, .ref 172])))) rfl (ri_gs (ri_gn (by decide) (ri_gn (by decide) (ri_gn (by decide) ri_M3_152)))) (Nat.le_of_ble_eq_true rfl) rfl rfl (List.set_set _) ?_
      refine ri_ev_go 5 (pc1 := 8) (L1 := [some (.ref 153), some (.int x5), some (.int 8)]) (st1 := [.ref 153]) (M1 := ((((ri_M3.set 2 (.inl (.byte, (400, .inl (g6))))).set 1 (.inr (8, [.ref 3, .int 20]))).set 153 (.inl (.byte, (400, .inl (upd (upd (g10) 16 (vp_nar .byte ((x5 >>> (24 &&& 31))).toInt8.toInt32)) 17 (vp_nar .byte ((x5 >>> (16 &&& 31))).toInt8.toInt32)))))).set 152 (.inr (11, [.ref 154, .int 18, .int 0, .ref 155, .ref 156, .ref 157, .ref 158, .int 0, .int 0, .int 0, .ref 159, .ref 160, .int 0, .int 0, .int 0, .int 0, .int 0, .int 0, .int 0, .ref 161, .int 0, .ref 162, .int 0, .ref 163, .ref 164, .ref 165, .ref 166, .int 0, .int 0, .int 0, .ref 167, .ref 168, .ref 169, .int 0, .int 0, .int 0, .ref 170, .ref 171, .ref 172])))) (c1 := 0) (s1 := 0) (fun n => rfl) ?_
      refine ri_ev_gf (k := 152) rfl (ri_gs (ri_gn (by decide) (ri_gn (by decide) (ri_gn (by decide) ri_M3_152)))) rfl ?_
      refine ri_ev_go 1 (pc1 := 12) (L1 := [some (.ref 153), some (.int x5), some (.int 8)]) (st1 := [.ref 153, .ref 154]) (M1 := ((((ri_M3.set 2 (.inl (.byte, (400, .inl (g6))))).set 1 (.inr (8, [.ref 3, .int 20]))).set 153 (.inl (.byte, (400, .inl (upd (upd (g10) 16 (vp_nar .byte ((x5 >>> (24 &&& 31))).toInt8.toInt32)) 17 (vp_nar .byte ((x5 >>> (16 &&& 31))).toInt8.toInt32)))))).set 152 (.inr (11, [.ref 154, .int 18, .int 0, .ref 155, .ref 156, .ref 157, .ref 158, .int 0, .int 0, .int 0, .ref 159, .ref 160, .int 0, .int 0, .int 0, .int 0, .int 0, .int 0, .int 0, .ref 161, .int 0, .ref 162, .int 0, .ref 163, .ref 164, .ref 165, .ref 166, .int 0, .int 0, .int 0, .ref 167, .ref 168, .ref 169, .int 0, .int 0, .int 0, .ref 170, .ref 171, .ref 172])))) (c1 := 0) (s1 := 0) (fun n => rfl) ?_
      refine ri_ev_gf (k := 152) rfl (ri_gs (ri_gn (by decide) (ri_gn (by decide) (ri_gn (by decide) ri_M3_152)))) rfl ?_
      refine ri_ev_go 4 (pc1 := 19) (L1 := [some (.ref 153), some (.int x5), some (.int 8)]) (st1 := [.int ((x5 >>> (8 &&& 31))).toInt8.toInt32, .int 18, .ref 154]) (M1 := ((((ri_M3.set 2 (.inl (.byte, (400, .inl (g6))))).set 1 (.inr (8, [.ref 3, .int 20]))).set 153 (.inl (.byte, (400, .inl (upd (upd (g10) 16 (vp_nar .byte ((x5 >>> (24 &&& 31))).toInt8.toInt32)) 17 (vp_nar .byte ((x5 >>> (16 &&& 31))).toInt8.toInt32)))))).set 152 (.inr (11, [.ref 154, .int 18, .int 0, .ref 155, .ref 156, .ref 157, .ref 158, .int 0, .int 0, .int 0, .ref 159, .ref 160, .int 0, .int 0, .int 0, .int 0, .int 0, .int 0, .int 0, .ref 161, .int 0, .ref 162, .int 0, .ref 163, .ref 164, .ref 165, .ref 166, .int 0, .int 0, .int 0, .ref 167, .ref 168, .ref 169, .int 0, .int 0, .int 0, .ref 170, .ref 171, .ref 172])))) (c1 := 0) (s1 := 0) (fun n => rfl) ?_
      refine ri_ev_basd (k := 153) (q := 18) (M2 := ((((ri_M3.set 2 (.inl (.byte, (400, .inl (g6))))).set 1 (.inr (8, [.ref 3, .int 20]))).set 153 (.inl (.byte, (400, .inl (upd (upd (upd (g10) 16 (vp_nar .byte ((x5 >>> (24 &&& 31))).toInt8.toInt32)) 17 (vp_nar .byte ((x5 >>> (16 &&& 31))).toInt8.toInt32)) 18 (vp_nar .byte ((x5 >>> (8 &&& 31))).toInt8.toInt32)))))).set 152 (.inr (11, [.ref 154, .int 18, .int 0, .ref 155, .ref 156, .ref 157, .ref 158, .int 0, .int 0, .int 0, .ref 159, .ref 160, .int 0, .int 0, .int 0, .int 0, .int 0, .int 0, .int 0, .ref 161, .int 0, .ref 162, .int 0, .ref 163, .ref 164, .ref 165, .ref 166, .int 0, .int 0, .int 0, .ref 167, .ref 168, .ref 169, .int 0, .int 0, .int 0, .ref 170, .ref 171, .ref 172])))) rfl (ri_gn (by decide) (ri_gs (ri_gn (by decide) (ri_gn (by decide) ri_M3_153)))) (by decide) rfl (ri_ss (by decide) (List.set_set _)) ?_
      refine ri_ev_go 2 (pc1 := 22) (L1 := [some (.ref 153), some (.int x5), some (.int 8)]) (st1 := [.ref 153, .ref 153]) (M1 := ((((ri_M3.set 2 (.inl (.byte, (400, .inl (g6))))).set 1 (.inr (8, [.ref 3, .int 20]))).set 153 (.inl (.byte, (400, .inl (upd (upd (upd (g10) 16 (vp_nar .byte ((x5 >>> (24 &&& 31))).toInt8.toInt32)) 17 (vp_nar .byte ((x5 >>> (16 &&& 31))).toInt8.toInt32)) 18 (vp_nar .byte ((x5 >>> (8 &&& 31))).toInt8.toInt32)))))).set 152 (.inr (11, [.ref 154, .int 18, .int 0, .ref 155, .ref 156, .ref 157, .ref 158, .int 0, .int 0, .int 0, .ref 159, .ref 160, .int 0, .int 0, .int 0, .int 0, .int 0, .int 0, .int 0, .ref 161, .int 0, .ref 162, .int 0, .ref 163, .ref 164, .ref 165, .ref 166, .int 0, .int 0, .int 0, .ref 167, .ref 168, .ref 169, .int 0, .int 0, .int 0, .ref 170, .ref 171, .ref 172])))) (c1 := 0) (s1 := 0) (fun n => rfl) ?_
      refine ri_ev_gf (k := 152) rfl (ri_gs (ri_gn (by decide) (ri_gn (by decide) (ri_gn (by decide) ri_M3_152)))) rfl ?_
      refine ri_ev_go 2 (pc1 := 27) (L1 := [some (.ref 153), some (.int x5), some (.int 8)]) (st1 := [.int 19, .ref 153]) (M1 := ((((ri_M3.set 2 (.inl (.byte, (400, .inl (g6))))).set 1 (.inr (8, [.ref 3, .int 20]))).set 153 (.inl (.byte, (400, .inl (upd (upd (upd (g10) 16 (vp_nar .byte ((x5 >>> (24 &&& 31))).toInt8.toInt32)) 17 (vp_nar .byte ((x5 >>> (16 &&& 31))).toInt8.toInt32)) 18 (vp_nar .byte ((x5 >>> (8 &&& 31))).toInt8.toInt32)))))).set 152 (.inr (11, [.ref 154, .int 18, .int 0, .ref 155, .ref 156, .ref 157, .ref 158, .int 0, .int 0, .int 0, .ref 159, .ref 160, .int 0, .int 0, .int 0, .int 0, .int 0, .int 0, .int 0, .ref 161, .int 0, .ref 162, .int 0, .ref 163, .ref 164, .ref 165, .ref 166, .int 0, .int 0, .int 0, .ref 167, .ref 168, .ref 169, .int 0, .int 0, .int 0, .ref 170, .ref 171, .ref 172])))) (c1 := 0) (s1 := 0) (fun n => rfl) ?_
      refine ri_ev_pf (k := 152) (gs := [.ref 154, .int 19, .int 0, .ref 155, .ref 156, .ref 157, .ref 158, .int 0, .int 0, .int 0, .ref 159, .ref 160, .int 0, .int 0, .int 0, .int 0, .int 0, .int 0, .int 0, .ref 161, .int 0, .ref 162, .int 0, .ref 163, .ref 164, .ref 165, .ref 166, .int 0, .int 0, .int 0, .ref 167, .ref 168, .ref 169, .int 0, .int 0, .int 0, .ref 170, .ref 171, .ref 172]) (M2 := ((((ri_M3.set 2 (.inl (.byte, (400, .inl (g6))))).set 1 (.inr (8, [.ref 3, .int 20]))).set 153 (.inl (.byte, (400, .inl (upd (upd (upd (g10) 16 (vp_nar .byte ((x5 >>> (24 &&& 31))).toInt8.toInt32)) 17 (vp_nar .byte ((x5 >>> (16 &&& 31))).toInt8.toInt32)) 18 (vp_nar .byte ((x5 >>> (8 &&& 31))).toInt8.toInt32)))))).set 152 (.inr (11, [.ref 154, .int 19, .int 0, .ref 155, .ref 156, .ref 157, .ref 158, .int 0, .int 0, .int 0, .ref 159, .ref 160, .int 0, .int 0, .int 0, .int 0, .int 0, .int 0, .int 0, .ref 161, .int 0, .ref 162, .int 0, .ref 163, .ref 164, .ref 165, .ref 166, .int 0, .int 0, .int 0, .ref 167, .ref 168, .ref 169, .int 0, .int 0, .int 0, .ref 170, .ref 171, .ref 172])))) rfl (ri_gs (ri_gn (by decide) (ri_gn (by decide) (ri_gn (by decide) ri_M3_152)))) (Nat.le_of_ble_eq_true rfl) rfl rfl (List.set_set _) ?_
      refine ri_ev_go 5 (pc1 := 8) (L1 := [some (.ref 153), some (.int x5), some (.int 0)]) (st1 := [.ref 153]) (M1 := ((((ri_M3.set 2 (.inl (.byte, (400, .inl (g6))))).set 1 (.inr (8, [.ref 3, .int 20]))).set 153 (.inl (.byte, (400, .inl (upd (upd (upd (g10) 16 (vp_nar .byte ((x5 >>> (24 &&& 31))).toInt8.toInt32)) 17 (vp_nar .byte ((x5 >>> (16 &&& 31))).toInt8.toInt32)) 18 (vp_nar .byte ((x5 >>> (8 &&& 31))).toInt8.toInt32)))))).set 152 (.inr (11, [.ref 154, .int 19, .int 0, .ref 155, .ref 156, .ref 157, .ref 158, .int 0, .int 0, .int 0, .ref 159, .ref 160, .int 0, .int 0, .int 0, .int 0, .int 0, .int 0, .int 0, .ref 161, .int 0, .ref 162, .int 0, .ref 163, .ref 164, .ref 165, .ref 166, .int 0, .int 0, .int 0, .ref 167, .ref 168, .ref 169, .int 0, .int 0, .int 0, .ref 170, .ref 171, .ref 172])))) (c1 := 0) (s1 := 0) (fun n => rfl) ?_
      refine ri_ev_gf (k := 152) rfl (ri_gs (ri_gn (by decide) (ri_gn (by decide) (ri_gn (by decide) ri_M3_152)))) rfl ?_
      refine ri_ev_go 1 (pc1 := 12) (L1 := [some (.ref 153), some (.int x5), some (.int 0)]) (st1 := [.ref 153, .ref 154]) (M1 := ((((ri_M3.set 2 (.inl (.byte, (400, .inl (g6))))).set 1 (.inr (8, [.ref 3, .int 20]))).set 153 (.inl (.byte, (400, .inl (upd (upd (upd (g10) 16 (vp_nar .byte ((x5 >>> (24 &&& 31))).toInt8.toInt32)) 17 (vp_nar .byte ((x5 >>> (16 &&& 31))).toInt8.toInt32)) 18 (vp_nar .byte ((x5 >>> (8 &&& 31))).toInt8.toInt32)))))).set 152 (.inr (11, [.ref 154, .int 19, .int 0, .ref 155, .ref 156, .ref 157, .ref 158, .int 0, .int 0, .int 0, .ref 159, .ref 160, .int 0, .int 0, .int 0, .int 0, .int 0, .int 0, .int 0, .ref 161, .int 0, .ref 162, .int 0, .ref 163, .ref 164, .ref 165, .ref 166, .int 0, .int 0, .int 0, .ref 167, .ref 168, .ref 169, .int 0, .int 0, .int 0, .ref 170, .ref 171, .ref 172])))) (c1 := 0) (s1 := 0) (fun n => rfl) ?_
      refine ri_ev_gf (k := 152) rfl (ri_gs (ri_gn (by decide) (ri_gn (by decide) (ri_gn (by decide) ri_M3_152)))) rfl ?_
      refine ri_ev_go 4 (pc1 := 19) (L1 := [some (.ref 153), some (.int x5), some (.int 0)]) (st1 := [.int ((x5 >>> (0 &&& 31))).toInt8.toInt32, .int 19, .ref 154]) (M1 := ((((ri_M3.set 2 (.inl (.byte, (400, .inl (g6))))).set 1 (.inr (8, [.ref 3, .int 20]))).set 153 (.inl (.byte, (400, .inl (upd (upd (upd (g10) 16 (vp_nar .byte ((x5 >>> (24 &&& 31))).toInt8.toInt32)) 17 (vp_nar .byte ((x5 >>> (16 &&& 31))).toInt8.toInt32)) 18 (vp_nar .byte ((x5 >>> (8 &&& 31))).toInt8.toInt32)))))).set 152 (.inr (11, [.ref 154, .int 19, .int 0, .ref 155, .ref 156, .ref 157, .ref 158, .int 0, .int 0, .int 0, .ref 159, .ref 160, .int 0, .int 0, .int 0, .int 0, .int 0, .int 0, .int 0, .ref 161, .int 0, .ref 162, .int 0, .ref 163, .ref 164, .ref 165, .ref 166, .int 0, .int 0, .int 0, .ref 167, .ref 168, .ref 169, .int 0, .int 0, .int 0, .ref 170, .ref 171, .ref 172])))) (c1 := 0) (s1 := 0) (fun n => rfl) ?_
      refine ri_ev_basd (k := 153) (q := 19) (M2 := ((((ri_M3.set 2 (.inl (.byte, (400, .inl (g6))))).set 1 (.inr (8, [.ref 3, .int 20]))).set 153 (.inl (.byte, (400, .inl (upd (upd (upd (upd (g10) 16 (vp_nar .byte ((x5 >>> (24 &&& 31))).toInt8.toInt32)) 17 (vp_nar .byte ((x5 >>> (16 &&& 31))).toInt8.toInt32)) 18 (vp_nar .byte ((x5 >>> (8 &&& 31))).toInt8.toInt32)) 19 (vp_nar .byte ((x5 >>> (0 &&& 31))).toInt8.toInt32)))))).set 152 (.inr (11, [.ref 154, .int 19, .int 0, .ref 155, .ref 156, .ref 157, .ref 158, .int 0, .int 0, .int 0, .ref 159, .ref 160, .int 0, .int 0, .int 0, .int 0, .int 0, .int 0, .int 0, .ref 161, .int 0, .ref 162, .int 0, .ref 163, .ref 164, .ref 165, .ref 166, .int 0, .int 0, .int 0, .ref 167, .ref 168, .ref 169, .int 0, .int 0, .int 0, .ref 170, .ref 171, .ref 172])))) rfl (ri_gn (by decide) (ri_gs (ri_gn (by decide) (ri_gn (by decide) ri_M3_153)))) (by decide) rfl (ri_ss (by decide) (List.set_set _)) ?_
      refine ri_ev_go 2 (pc1 := 22) (L1 := [some (.ref 153), some (.int x5), some (.int 0)]) (st1 := [.ref 153, .ref 153]) (M1 := ((((ri_M3.set 2 (.inl (.byte, (400, .inl (g6))))).set 1 (.inr (8, [.ref 3, .int 20]))).set 153 (.inl (.byte, (400, .inl (upd (upd (upd (upd (g10) 16 (vp_nar .byte ((x5 >>> (24 &&& 31))).toInt8.toInt32)) 17 (vp_nar .byte ((x5 >>> (16 &&& 31))).toInt8.toInt32)) 18 (vp_nar .byte ((x5 >>> (8 &&& 31))).toInt8.toInt32)) 19 (vp_nar .byte ((x5 >>> (0 &&& 31))).toInt8.toInt32)))))).set 152 (.inr (11, [.ref 154, .int 19, .int 0, .ref 155, .ref 156, .ref 157, .ref 158, .int 0, .int 0, .int 0, .ref 159, .ref 160, .int 0, .int 0, .int 0, .int 0, .int 0, .int 0, .int 0, .ref 161, .int 0, .ref 162, .int 0, .ref 163, .ref 164, .ref 165, .ref 166, .int 0, .int 0, .int 0, .ref 167, .ref 168, .ref 169, .int 0, .int 0, .int 0, .ref 170, .ref 171, .ref 172])))) (c1 := 0) (s1 := 0) (fun n => rfl) ?_
      refine ri_ev_gf (k := 152) rfl (ri_gs (ri_gn (by decide) (ri_gn (by decide) (ri_gn (by decide) ri_M3_152)))) rfl ?_
      refine ri_ev_go 2 (pc1 := 27) (L1 := [some (.ref 153), some (.int x5), some (.int 0)]) (st1 := [.int 20, .ref 153]) (M1 := ((((ri_M3.set 2 (.inl (.byte, (400, .inl (g6))))).set 1 (.inr (8, [.ref 3, .int 20]))).set 153 (.inl (.byte, (400, .inl (upd (upd (upd (upd (g10) 16 (vp_nar .byte ((x5 >>> (24 &&& 31))).toInt8.toInt32)) 17 (vp_nar .byte ((x5 >>> (16 &&& 31))).toInt8.toInt32)) 18 (vp_nar .byte ((x5 >>> (8 &&& 31))).toInt8.toInt32)) 19 (vp_nar .byte ((x5 >>> (0 &&& 31))).toInt8.toInt32)))))).set 152 (.inr (11, [.ref 154, .int 19, .int 0, .ref 155, .ref 156, .ref 157, .ref 158, .int 0, .int 0, .int 0, .ref 159, .ref 160, .int 0, .int 0, .int 0, .int 0, .int 0, .int 0, .int 0, .ref 161, .int 0, .ref 162, .int 0, .ref 163, .ref 164, .ref 165, .ref 166, .int 0, .int 0, .int 0, .ref 167, .ref 168, .ref 169, .int 0, .int 0, .int 0, .ref 170, .ref 171, .ref 172])))) (c1 := 0) (s1 := 0) (fun n => rfl) ?_
      refine ri_ev_pf (k := 152) (gs := [.ref 154, .int 20, .int 0, .ref 155, .ref 156, .ref 157, .ref 158, .int 0, .int 0, .int 0, .ref 159, .ref 160, .int 0, .int 0, .int 0, .int 0, .int 0, .int 0, .int 0, .ref 161, .int 0, .ref 162, .int 0, .ref 163, .ref 164, .ref 165, .ref 166, .int 0, .int 0, .int 0, .ref 167, .ref 168, .ref 169, .int 0, .int 0, .int 0, .ref 170, .ref 171, .ref 172]) (M2 := ((((ri_M3.set 2 (.inl (.byte, (400, .inl (g6))))).set 1 (.inr (8, [.ref 3, .int 20]))).set 153 (.inl (.byte, (400, .inl (upd (upd (upd (upd (g10) 16 (vp_nar .byte ((x5 >>> (24 &&& 31))).toInt8.toInt32)) 17 (vp_nar .byte ((x5 >>> (16 &&& 31))).toInt8.toInt32)) 18 (vp_nar .byte ((x5 >>> (8 &&& 31))).toInt8.toInt32)) 19 (vp_nar .byte ((x5 >>> (0 &&& 31))).toInt8.toInt32)))))).set 152 (.inr (11, [.ref 154, .int 20, .int 0, .ref 155, .ref 156, .ref 157, .ref 158, .int 0, .int 0, .int 0, .ref 159, .ref 160, .int 0, .int 0, .int 0, .int 0, .int 0, .int 0, .int 0, .ref 161, .int 0, .ref 162, .int 0, .ref 163, .ref 164, .ref 165, .ref 166, .int 0, .int 0, .int 0, .ref 167, .ref 168, .ref 169, .int 0, .int 0, .int 0, .ref 170, .ref 171, .ref 172])))) rfl (ri_gs (ri_gn (by decide) (ri_gn (by decide) (ri_gn (by decide) ri_M3_152)))) (Nat.le_of_ble_eq_true rfl) rfl rfl (List.set_set _) ?_
      refine ri_ev_go 4 (pc1 := 36) (L1 := [some (.ref 153), some (.int x5), some (.int (-8))]) (st1 := []) (M1 := ((((ri_M3.set 2 (.inl (.byte, (400, .inl (g6))))).set 1 (.inr (8, [.ref 3, .int 20]))).set 153 (.inl (.byte, (400, .inl (upd (upd (upd (upd (g10) 16 (vp_nar .byte ((x5 >>> (24 &&& 31))).toInt8.toInt32)) 17 (vp_nar .byte ((x5 >>> (16 &&& 31))).toInt8.toInt32)) 18 (vp_nar .byte ((x5 >>> (8 &&& 31))).toInt8.toInt32)) 19 (vp_nar .byte ((x5 >>> (0 &&& 31))).toInt8.toInt32)))))).set 152 (.inr (11, [.ref 154, .int 20, .int 0, .ref 155, .ref 156, .ref 157, .ref 158, .int 0, .int 0, .int 0, .ref 159, .ref 160, .int 0, .int 0, .int 0, .int 0, .int 0, .int 0, .int 0, .ref 161, .int 0, .ref 162, .int 0, .ref 163, .ref 164, .ref 165, .ref 166, .int 0, .int 0, .int 0, .ref 167, .ref 168, .ref 169, .int 0, .int 0, .int 0, .ref 170, .ref 171, .ref 172])))) (c1 := 0) (s1 := 0) (fun n => rfl) ?_
      exact ri_ev_ret (fun n => rfl)
    refine ⟨g11, ?_⟩
    refine ri_ev_call (N := 24) (L := [some (.ref 153), some (.int x1), some (.int x2), some (.int x3), some (.int x4), some (.int x5)]) rfl (Nat.le_of_ble_eq_true rfl) ?_
    refine ri_ev_go 1 (pc1 := 1) (L1 := [some (.ref 153), some (.int x1), some (.int x2), some (.int x3), some (.int x4), some (.int x5)]) (st1 := [.ref 153]) (M1 := ((ri_M3.set 2 (.inl (.byte, (400, .inl (g6))))).set 1 (.inr (8, [.ref 3, .int 20])))) (c1 := 0) (s1 := 0) (fun n => rfl) ?_
    refine ri_ev_gf (k := 152) rfl (ri_gn (by decide) (ri_gn (by decide) ri_M3_152)) rfl ?_
    refine ri_ev_go 6 (pc1 := 17) (L1 := [some (.ref 153), some (.int x1), some (.int x2), some (.int x3), some (.int x4), some (.int x5)]) (st1 := [.int x1, .ref 153]) (M1 := ((ri_M3.set 2 (.inl (.byte, (400, .inl (g6))))).set 1 (.inr (8, [.ref 3, .int 20])))) (c1 := 0) (s1 := 0) (fun n => rfl) ?_
    refine ri_ev_clv (k := 152) (M1 := ((((ri_M3.set 2 (.inl (.byte, (400, .inl (g6))))).set 1 (.inr (8, [.ref 3, .int 20]))).set 153 (.inl (.byte, (400, .inl (g7))))).set 152 (.inr (11, [.ref 154, .int 4, .int 0, .ref 155, .ref 156, .ref 157, .ref 158, .int 0, .int 0, .int 0, .ref 159, .ref 160, .int 0, .int 0, .int 0, .int 0, .int 0, .int 0, .int 0, .ref 161, .int 0, .ref 162, .int 0, .ref 163, .ref 164, .ref 165, .ref 166, .int 0, .int 0, .int 0, .ref 167, .ref 168, .ref 169, .int 0, .int 0, .int 0, .ref 170, .ref 171, .ref 172])))) (v := none) _ rfl rfl (ri_gn (by decide) (ri_gn (by decide) ri_M3_152)) rfl (Nat.le_of_ble_eq_true rfl) hc27 ?_
    refine ri_ev_go 2 (pc1 := 22) (L1 := [some (.ref 153), some (.int x1), some (.int x2), some (.int x3), some (.int x4), some (.int x5)]) (st1 := [.int x2, .ref 153]) (M1 := ((((ri_M3.set 2 (.inl (.byte, (400, .inl (g6))))).set 1 (.inr (8, [.ref 3, .int 20]))).set 153 (.inl (.byte, (400, .inl (g7))))).set 152 (.inr (11, [.ref 154, .int 4, .int 0, .ref 155, .ref 156, .ref 157, .ref 158, .int 0, .int 0, .int 0, .ref 159, .ref 160, .int 0, .int 0, .int 0, .int 0, .int 0, .int 0, .int 0, .ref 161, .int 0, .ref 162, .int 0, .ref 163, .ref 164, .ref 165, .ref 166, .int 0, .int 0, .int 0, .ref 167, .ref 168, .ref 169, .int 0, .int 0, .int 0, .ref 170, .ref 171, .ref 172])))) (c1 := 0) (s1 := 0) (fun n => rfl) ?_
    refine ri_ev_clv (k := 152) (M1 := ((((ri_M3.set 2 (.inl (.byte, (400, .inl (g6))))).set 1 (.inr (8, [.ref 3, .int 20]))).set 153 (.inl (.byte, (400, .inl (g8))))).set 152 (.inr (11, [.ref 154, .int 8, .int 0, .ref 155, .ref 156, .ref 157, .ref 158, .int 0, .int 0, .int 0, .ref 159, .ref 160, .int 0, .int 0, .int 0, .int 0, .int 0, .int 0, .int 0, .ref 161, .int 0, .ref 162, .int 0, .ref 163, .ref 164, .ref 165, .ref 166, .int 0, .int 0, .int 0, .ref 167, .ref 168, .ref 169, .int 0, .int 0, .int 0, .ref 170, .ref 171, .ref 172])))) (v := none) _ rfl rfl (ri_gs (ri_gn (by decide) (ri_gn (by decide) (ri_gn (by decide) ri_M3_152)))) rfl (Nat.le_of_ble_eq_true rfl) hc28 ?_
    refine ri_ev_go 2 (pc1 := 27) (L1 := [some (.ref 153), some (.int x1), some (.int x2), some (.int x3), some (.int x4), some (.int x5)]) (st1 := [.int x3, .ref 153]) (M1 := ((((ri_M3.set 2 (.inl (.byte, (400, .inl (g6))))).set 1 (.inr (8, [.ref 3, .int 20]))).set 153 (.inl (.byte, (400, .inl (g8))))).set 152 (.inr (11, [.ref 154, .int 8, .int 0, .ref 155, .ref 156, .ref 157, .ref 158, .int 0, .int 0, .int 0, .ref 159, .ref 160, .int 0, .int 0, .int 0, .int 0, .int 0, .int 0, .int 0, .ref 161, .int 0, .ref 162, .int 0, .ref 163, .ref 164, .ref 165, .ref 166, .int 0, .int 0, .int 0, .ref 167, .ref 168, .ref 169, .int 0, .int 0, .int 0, .ref 170, .ref 171, .ref 172])))) (c1 := 0) (s1 := 0) (fun n => rfl) ?_
    refine ri_ev_clv (k := 152) (M1 := ((((ri_M3.set 2 (.inl (.byte, (400, .inl (g6))))).set 1 (.inr (8, [.ref 3, .int 20]))).set 153 (.inl (.byte, (400, .inl (g9))))).set 152 (.inr (11, [.ref 154, .int 12, .int 0, .ref 155, .ref 156, .ref 157, .ref 158, .int 0, .int 0, .int 0, .ref 159, .ref 160, .int 0, .int 0, .int 0, .int 0, .int 0, .int 0, .int 0, .ref 161, .int 0, .ref 162, .int 0, .ref 163, .ref 164, .ref 165, .ref 166, .int 0, .int 0, .int 0, .ref 167, .ref 168, .ref 169, .int 0, .int 0, .int 0, .ref 170, .ref 171, .ref 172])))) (v := none) _ rfl rfl (ri_gs (ri_gn (by decide) (ri_gn (by decide) (ri_gn (by decide) ri_M3_152)))) rfl (Nat.le_of_ble_eq_true rfl) hc29 ?_
    refine ri_ev_go 2 (pc1 := 33) (L1 := [some (.ref 153), some (.int x1), some (.int x2), some (.int x3), some (.int x4), some (.int x5)]) (st1 := [.int x4, .ref 153]) (M1 := ((((ri_M3.set 2 (.inl (.byte, (400, .inl (g6))))).set 1 (.inr (8, [.ref 3, .int 20]))).set 153 (.inl (.byte, (400, .inl (g9))))).set 152 (.inr (11, [.ref 154, .int 12, .int 0, .ref 155, .ref 156, .ref 157, .ref 158, .int 0, .int 0, .int 0, .ref 159, .ref 160, .int 0, .int 0, .int 0, .int 0, .int 0, .int 0, .int 0, .ref 161, .int 0, .ref 162, .int 0, .ref 163, .ref 164, .ref 165, .ref 166, .int 0, .int 0, .int 0, .ref 167, .ref 168, .ref 169, .int 0, .int 0, .int 0, .ref 170, .ref 171, .ref 172])))) (c1 := 0) (s1 := 0) (fun n => rfl) ?_
    refine ri_ev_clv (k := 152) (M1 := ((((ri_M3.set 2 (.inl (.byte, (400, .inl (g6))))).set 1 (.inr (8, [.ref 3, .int 20]))).set 153 (.inl (.byte, (400, .inl (g10))))).set 152 (.inr (11, [.ref 154, .int 16, .int 0, .ref 155, .ref 156, .ref 157, .ref 158, .int 0, .int 0, .int 0, .ref 159, .ref 160, .int 0, .int 0, .int 0, .int 0, .int 0, .int 0, .int 0, .ref 161, .int 0, .ref 162, .int 0, .ref 163, .ref 164, .ref 165, .ref 166, .int 0, .int 0, .int 0, .ref 167, .ref 168, .ref 169, .int 0, .int 0, .int 0, .ref 170, .ref 171, .ref 172])))) (v := none) _ rfl rfl (ri_gs (ri_gn (by decide) (ri_gn (by decide) (ri_gn (by decide) ri_M3_152)))) rfl (Nat.le_of_ble_eq_true rfl) hc30 ?_
    refine ri_ev_go 2 (pc1 := 39) (L1 := [some (.ref 153), some (.int x1), some (.int x2), some (.int x3), some (.int x4), some (.int x5)]) (st1 := [.int x5, .ref 153]) (M1 := ((((ri_M3.set 2 (.inl (.byte, (400, .inl (g6))))).set 1 (.inr (8, [.ref 3, .int 20]))).set 153 (.inl (.byte, (400, .inl (g10))))).set 152 (.inr (11, [.ref 154, .int 16, .int 0, .ref 155, .ref 156, .ref 157, .ref 158, .int 0, .int 0, .int 0, .ref 159, .ref 160, .int 0, .int 0, .int 0, .int 0, .int 0, .int 0, .int 0, .ref 161, .int 0, .ref 162, .int 0, .ref 163, .ref 164, .ref 165, .ref 166, .int 0, .int 0, .int 0, .ref 167, .ref 168, .ref 169, .int 0, .int 0, .int 0, .ref 170, .ref 171, .ref 172])))) (c1 := 0) (s1 := 0) (fun n => rfl) ?_
    refine ri_ev_clv (k := 152) (M1 := ((((ri_M3.set 2 (.inl (.byte, (400, .inl (g6))))).set 1 (.inr (8, [.ref 3, .int 20]))).set 153 (.inl (.byte, (400, .inl (g11))))).set 152 (.inr (11, [.ref 154, .int 20, .int 0, .ref 155, .ref 156, .ref 157, .ref 158, .int 0, .int 0, .int 0, .ref 159, .ref 160, .int 0, .int 0, .int 0, .int 0, .int 0, .int 0, .int 0, .ref 161, .int 0, .ref 162, .int 0, .ref 163, .ref 164, .ref 165, .ref 166, .int 0, .int 0, .int 0, .ref 167, .ref 168, .ref 169, .int 0, .int 0, .int 0, .ref 170, .ref 171, .ref 172])))) (v := none) _ rfl rfl (ri_gs (ri_gn (by decide) (ri_gn (by decide) (ri_gn (by decide) ri_M3_152)))) rfl (Nat.le_of_ble_eq_true rfl) hc31 ?_
    refine ri_ev_go 1 (pc1 := 43) (L1 := [some (.ref 153), some (.int x1), some (.int x2), some (.int x3), some (.int x4), some (.int x5)]) (st1 := [.ref 153]) (M1 := ((((ri_M3.set 2 (.inl (.byte, (400, .inl (g6))))).set 1 (.inr (8, [.ref 3, .int 20]))).set 153 (.inl (.byte, (400, .inl (g11))))).set 152 (.inr (11, [.ref 154, .int 20, .int 0, .ref 155, .ref 156, .ref 157, .ref 158, .int 0, .int 0, .int 0, .ref 159, .ref 160, .int 0, .int 0, .int 0, .int 0, .int 0, .int 0, .int 0, .ref 161, .int 0, .ref 162, .int 0, .ref 163, .ref 164, .ref 165, .ref 166, .int 0, .int 0, .int 0, .ref 167, .ref 168, .ref 169, .int 0, .int 0, .int 0, .ref 170, .ref 171, .ref 172])))) (c1 := 0) (s1 := 0) (fun n => rfl) ?_
    refine ri_ev_gf (k := 152) rfl (ri_gs (ri_gn (by decide) (ri_gn (by decide) (ri_gn (by decide) ri_M3_152)))) rfl ?_
    exact ri_ev_ret (fun n => rfl)
  exact ⟨20, _, _, _, hc26, (ri_gn (by decide) (ri_gn (by decide) ri_M3_152)), hc32⟩
theorem ro_feed (x1 x2 x3 x4 x5 : Int32)  : ri_eqi 103 172 [.int x1, .int x2, .int x3, .int x4, .int x5] := by
  exact ro_feed_0 x1 x2 x3 x4 x5  
set_option maxRecDepth 100000 in
set_option maxHeartbeats 8000000 in
theorem ro_end_0 (x1 : Int32)  (h1 : ¬ x1 < 0) (h2 : ¬ 0 < x1) : ri_eqi 104 173 [.int x1] := by
  have hc1 : ri_c 19 104 [.ref 1, .int x1] ri_M3 = some (some (.int x1), (ri_M3.set 1 (.inr (8, [.ref 3, .int x1]))), 0, 0) := by
    refine ri_ev_call (N := 13) (L := [some (.ref 1), some (.int x1)]) rfl (Nat.le_of_ble_eq_true rfl) ?_
    refine ri_ev_go 1 (pc1 := 1) (L1 := [some (.ref 1), some (.int x1)]) (st1 := [.int x1]) (M1 := ri_M3) (c1 := 0) (s1 := 0) (fun n => rfl) ?_
    refine ri_iz_lt_f rfl h1 ?_
    refine ri_ev_go 2 (pc1 := 6) (L1 := [some (.ref 1), some (.int x1)]) (st1 := [.ref 1, .int x1]) (M1 := ri_M3) (c1 := 0) (s1 := 0) (fun n => rfl) ?_
    refine ri_ev_gf (k := 0) rfl ri_M3_0 rfl ?_
    refine ri_ev_gf (k := 1) rfl ri_M3_1 rfl ?_
    refine ri_ic_le_t (t := 17) rfl (Int32.not_lt.mp h2) rfl ?_
    refine ri_ev_go 1 (pc1 := 18) (L1 := [some (.ref 1), some (.int x1)]) (st1 := [.ref 1]) (M1 := ri_M3) (c1 := 0) (s1 := 0) (fun n => rfl) ?_
    refine ri_ev_gf (k := 0) rfl ri_M3_0 rfl ?_
    refine ri_ev_go 1 (pc1 := 22) (L1 := [some (.ref 1), some (.int x1)]) (st1 := [.int x1, .ref 2]) (M1 := ri_M3) (c1 := 0) (s1 := 0) (fun n => rfl) ?_
    refine ri_ev_pf (k := 1) (gs := [.ref 3, .int x1]) (M2 := (ri_M3.set 1 (.inr (8, [.ref 3, .int x1])))) rfl ri_M3_1 (Nat.le_of_ble_eq_true rfl) rfl rfl rfl ?_
    refine ri_ev_go 1 (pc1 := 26) (L1 := [some (.ref 1), some (.int x1)]) (st1 := [.int x1]) (M1 := (ri_M3.set 1 (.inr (8, [.ref 3, .int x1])))) (c1 := 0) (s1 := 0) (fun n => rfl) ?_
    exact ri_ev_ret (fun n => rfl)
  have hc2 : ri_c 19 173 [.ref 153, .int x1] (ri_M3.set 1 (.inr (8, [.ref 3, .int x1]))) = some (some (.int x1), ((ri_M3.set 1 (.inr (8, [.ref 3, .int x1]))).set 152 (.inr (11, [.ref 154, .int x1, .int 0, .ref 155, .ref 156, .ref 157, .ref 158, .int 0, .int 0, .int 0, .ref 159, .ref 160, .int 0, .int 0, .int 0, .int 0, .int 0, .int 0, .int 0, .ref 161, .int 0, .ref 162, .int 0, .ref 163, .ref 164, .ref 165, .ref 166, .int 0, .int 0, .int 0, .ref 167, .ref 168, .ref 169, .int 0, .int 0, .int 0, .ref 170, .ref 171, .ref 172]))), 0, 0) := by
    refine ri_ev_call (N := 11) (L := [some (.ref 153), some (.int x1)]) rfl (Nat.le_of_ble_eq_true rfl) ?_
    refine ri_ev_go 1 (pc1 := 1) (L1 := [some (.ref 153), some (.int x1)]) (st1 := [.int x1]) (M1 := (ri_M3.set 1 (.inr (8, [.ref 3, .int x1])))) (c1 := 0) (s1 := 0) (fun n => rfl) ?_
    refine ri_iz_lt_f rfl h1 ?_
    refine ri_ev_go 2 (pc1 := 6) (L1 := [some (.ref 153), some (.int x1)]) (st1 := [.ref 153, .int x1]) (M1 := (ri_M3.set 1 (.inr (8, [.ref 3, .int x1])))) (c1 := 0) (s1 := 0) (fun n => rfl) ?_
    refine ri_ev_gf (k := 152) rfl (ri_gn (by decide) ri_M3_152) rfl ?_
    refine ri_ic_le_t (t := 14) rfl (Int32.not_lt.mp h2) rfl ?_
    refine ri_ev_go 2 (pc1 := 16) (L1 := [some (.ref 153), some (.int x1)]) (st1 := [.int x1, .ref 153]) (M1 := (ri_M3.set 1 (.inr (8, [.ref 3, .int x1])))) (c1 := 0) (s1 := 0) (fun n => rfl) ?_
    refine ri_ev_pf (k := 152) (gs := [.ref 154, .int x1, .int 0, .ref 155, .ref 156, .ref 157, .ref 158, .int 0, .int 0, .int 0, .ref 159, .ref 160, .int 0, .int 0, .int 0, .int 0, .int 0, .int 0, .int 0, .ref 161, .int 0, .ref 162, .int 0, .ref 163, .ref 164, .ref 165, .ref 166, .int 0, .int 0, .int 0, .ref 167, .ref 168, .ref 169, .int 0, .int 0, .int 0, .ref 170, .ref 171, .ref 172]) (M2 := ((ri_M3.set 1 (.inr (8, [.ref 3, .int x1]))).set 152 (.inr (11, [.ref 154, .int x1, .int 0, .ref 155, .ref 156, .ref 157, .ref 158, .int 0, .int 0, .int 0, .ref 159, .ref 160, .int 0, .int 0, .int 0, .int 0, .int 0, .int 0, .int 0, .ref 161, .int 0, .ref 162, .int 0, .ref 163, .ref 164, .ref 165, .ref 166, .int 0, .int 0, .int 0, .ref 167, .ref 168, .ref 169, .int 0, .int 0, .int 0, .ref 170, .ref 171, .ref 172])))) rfl (ri_gn (by decide) ri_M3_152) (Nat.le_of_ble_eq_true rfl) rfl rfl rfl ?_
    refine ri_ev_go 1 (pc1 := 20) (L1 := [some (.ref 153), some (.int x1)]) (st1 := [.int x1]) (M1 := ((ri_M3.set 1 (.inr (8, [.ref 3, .int x1]))).set 152 (.inr (11, [.ref 154, .int x1, .int 0, .ref 155, .ref 156, .ref 157, .ref 158, .int 0, .int 0, .int 0, .ref 159, .ref 160, .int 0, .int 0, .int 0, .int 0, .int 0, .int 0, .int 0, .ref 161, .int 0, .ref 162, .int 0, .ref 163, .ref 164, .ref 165, .ref 166, .int 0, .int 0, .int 0, .ref 167, .ref 168, .ref 169, .int 0, .int 0, .int 0, .ref 170, .ref 171, .ref 172])))) (c1 := 0) (s1 := 0) (fun n => rfl) ?_
    exact ri_ev_ret (fun n => rfl)
  exact ⟨x1, _, _, _, hc1, (ri_gn (by decide) ri_M3_152), hc2⟩
set_option maxRecDepth 100000 in
set_option maxHeartbeats 8000000 in
theorem ro_end_1 (x1 : Int32)  (h1 : ¬ x1 < 0) (h2 : 0 < x1) : ri_eqi 104 173 [.int x1] := by
  have hc1 : ri_c 19 104 [.ref 1, .int x1] ri_M3 = some (some (.int (-1)), ri_M3, 0, 0) := by
    refine ri_ev_call (N := 9) (L := [some (.ref 1), some (.int x1)]) rfl (Nat.le_of_ble_eq_true rfl) ?_
    refine ri_ev_go 1 (pc1 := 1) (L1 := [some (.ref 1), some (.int x1)]) (st1 := [.int x1]) (M1 := ri_M3) (c1 := 0) (s1 := 0) (fun n => rfl) ?_
    refine ri_iz_lt_f rfl h1 ?_
    refine ri_ev_go 2 (pc1 := 6) (L1 := [some (.ref 1), some (.int x1)]) (st1 := [.ref 1, .int x1]) (M1 := ri_M3) (c1 := 0) (s1 := 0) (fun n => rfl) ?_
    refine ri_ev_gf (k := 0) rfl ri_M3_0 rfl ?_
    refine ri_ev_gf (k := 1) rfl ri_M3_1 rfl ?_
    refine ri_ic_le_f rfl (Int32.not_le.mpr h2) ?_
    refine ri_ev_go 1 (pc1 := 16) (L1 := [some (.ref 1), some (.int x1)]) (st1 := [.int (-1)]) (M1 := ri_M3) (c1 := 0) (s1 := 0) (fun n => rfl) ?_
    exact ri_ev_ret (fun n => rfl)
  have hc2 : ri_c 19 173 [.ref 153, .int x1] ri_M3 = some (some (.int (-1)), ri_M3, 0, 0) := by
    refine ri_ev_call (N := 8) (L := [some (.ref 153), some (.int x1)]) rfl (Nat.le_of_ble_eq_true rfl) ?_
    refine ri_ev_go 1 (pc1 := 1) (L1 := [some (.ref 153), some (.int x1)]) (st1 := [.int x1]) (M1 := ri_M3) (c1 := 0) (s1 := 0) (fun n => rfl) ?_
    refine ri_iz_lt_f rfl h1 ?_
    refine ri_ev_go 2 (pc1 := 6) (L1 := [some (.ref 153), some (.int x1)]) (st1 := [.ref 153, .int x1]) (M1 := ri_M3) (c1 := 0) (s1 := 0) (fun n => rfl) ?_
    refine ri_ev_gf (k := 152) rfl ri_M3_152 rfl ?_
    refine ri_ic_le_f rfl (Int32.not_le.mpr h2) ?_
    refine ri_ev_go 1 (pc1 := 13) (L1 := [some (.ref 153), some (.int x1)]) (st1 := [.int (-1)]) (M1 := ri_M3) (c1 := 0) (s1 := 0) (fun n => rfl) ?_
    exact ri_ev_ret (fun n => rfl)
  exact ⟨(-1), _, _, _, hc1, ri_M3_152, hc2⟩
set_option maxRecDepth 100000 in
set_option maxHeartbeats 8000000 in
theorem ro_end_2 (x1 : Int32)  (h1 : x1 < 0) : ri_eqi 104 173 [.int x1] := by
  have hc1 : ri_c 19 104 [.ref 1, .int x1] ri_M3 = some (some (.int (-1)), ri_M3, 0, 0) := by
    refine ri_ev_call (N := 4) (L := [some (.ref 1), some (.int x1)]) rfl (Nat.le_of_ble_eq_true rfl) ?_
    refine ri_ev_go 1 (pc1 := 1) (L1 := [some (.ref 1), some (.int x1)]) (st1 := [.int x1]) (M1 := ri_M3) (c1 := 0) (s1 := 0) (fun n => rfl) ?_
    refine ri_iz_lt_t (t := 15) rfl h1 rfl ?_
    refine ri_ev_go 1 (pc1 := 16) (L1 := [some (.ref 1), some (.int x1)]) (st1 := [.int (-1)]) (M1 := ri_M3) (c1 := 0) (s1 := 0) (fun n => rfl) ?_
    exact ri_ev_ret (fun n => rfl)
  have hc2 : ri_c 19 173 [.ref 153, .int x1] ri_M3 = some (some (.int (-1)), ri_M3, 0, 0) := by
    refine ri_ev_call (N := 4) (L := [some (.ref 153), some (.int x1)]) rfl (Nat.le_of_ble_eq_true rfl) ?_
    refine ri_ev_go 1 (pc1 := 1) (L1 := [some (.ref 153), some (.int x1)]) (st1 := [.int x1]) (M1 := ri_M3) (c1 := 0) (s1 := 0) (fun n => rfl) ?_
    refine ri_iz_lt_t (t := 12) rfl h1 rfl ?_
    refine ri_ev_go 1 (pc1 := 13) (L1 := [some (.ref 153), some (.int x1)]) (st1 := [.int (-1)]) (M1 := ri_M3) (c1 := 0) (s1 := 0) (fun n => rfl) ?_
    exact ri_ev_ret (fun n => rfl)
  exact ⟨(-1), _, _, _, hc1, ri_M3_152, hc2⟩
theorem ro_end (x1 : Int32)  : ri_eqi 104 173 [.int x1] := by
  by_cases h1 : x1 < 0
  · exact ro_end_2 x1  h1
  · by_cases h2 : 0 < x1
    · exact ro_end_1 x1  h1 h2
    · exact ro_end_0 x1  h1 h2
theorem ro_court_k : ri_both 105 203 [] = true := by decide +kernel
theorem ro_court : ri_eqi 105 203 [] := ri_both_ok ro_court_k
theorem ro_law_k : ri_both 106 202 [] = true := by decide +kernel
theorem ro_law : ri_eqi 106 202 [] := ri_both_ok ro_law_k
set_option maxRecDepth 100000 in
set_option maxHeartbeats 8000000 in
theorem ro_thing_0 (x1 x2 x3 : Int32)  (h1 : ¬ x1 < 0) (h2 : ¬ x1 < 3) : ri_eqi 107 218 [.int x1, .int x2, .int x3] := by
  have hc2 : ri_c 19 107 [.ref 1, .int x1, .int x2, .int x3] ri_M3 = some (some (.int (-1)), ri_M3, 0, 0) := by
    have hc1 : ri_c 18 142 [.int x1, .int 3] ri_M3 = some (some (.int 1), ri_M3, 0, 0) := by
      refine ri_ev_call (N := 8) (L := [some (.int x1), some (.int 3)]) rfl (Nat.le_of_ble_eq_true rfl) ?_
      refine ri_ev_go 1 (pc1 := 1) (L1 := [some (.int x1), some (.int 3)]) (st1 := [.int x1]) (M1 := ri_M3) (c1 := 0) (s1 := 0) (fun n => rfl) ?_
      refine ri_iz_lt_f rfl h1 ?_
      refine ri_ev_go 2 (pc1 := 6) (L1 := [some (.int x1), some (.int 3)]) (st1 := [.int 3, .int x1]) (M1 := ri_M3) (c1 := 0) (s1 := 0) (fun n => rfl) ?_
      refine ri_ic_lt_f rfl h2 ?_
      refine ri_ev_go 2 (pc1 := 14) (L1 := [some (.int x1), some (.int 3)]) (st1 := [.int 1]) (M1 := ri_M3) (c1 := 0) (s1 := 0) (fun n => rfl) ?_
      exact ri_ev_ret (fun n => rfl)
    refine ri_ev_call (N := 6) (L := [some (.ref 1), some (.int x1), some (.int x2), some (.int x3)]) rfl (Nat.le_of_ble_eq_true rfl) ?_
    refine ri_ev_go 2 (pc1 := 2) (L1 := [some (.ref 1), some (.int x1), some (.int x2), some (.int x3)]) (st1 := [.int 3, .int x1]) (M1 := ri_M3) (c1 := 0) (s1 := 0) (fun n => rfl) ?_
    refine ri_ev_cls (M1 := ri_M3) (v := some (.int 1)) _ rfl (Or.inl rfl) rfl (Nat.le_of_ble_eq_true rfl) hc1 ?_
    refine ri_ev_go 2 (pc1 := 22) (L1 := [some (.ref 1), some (.int x1), some (.int x2), some (.int x3)]) (st1 := [.int (-1)]) (M1 := ri_M3) (c1 := 0) (s1 := 0) (fun n => rfl) ?_
    exact ri_ev_ret (fun n => rfl)
  have hc5 : ri_c 19 218 [.ref 153, .int x1, .int x2, .int x3] ri_M3 = some (some (.int (-1)), ri_M3, 0, 0) := by
    have hc4 : ri_c 18 211 [.ref 153, .int x1] ri_M3 = some (some (.int 0), ri_M3, 0, 0) := by
      have hc3 : ri_c 17 209 [.ref 153] ri_M3 = some (some (.int 0), ri_M3, 0, 0) := by
        refine ri_ev_call (N := 7) (L := [some (.ref 153)]) rfl (Nat.le_of_ble_eq_true rfl) ?_
        refine ri_ev_go 1 (pc1 := 1) (L1 := [some (.ref 153)]) (st1 := [.ref 153]) (M1 := ri_M3) (c1 := 0) (s1 := 0) (fun n => rfl) ?_
        refine ri_ev_gf (k := 152) rfl ri_M3_152 rfl ?_
        refine ri_ev_go 1 (pc1 := 5) (L1 := [some (.ref 153)]) (st1 := [.int 0, .ref 164]) (M1 := ri_M3) (c1 := 0) (s1 := 0) (fun n => rfl) ?_
        refine ri_ev_iald (k := 163) (z := 0) rfl ri_M3_163 (by decide) rfl ?_
        refine ri_ev_go 2 (pc1 := 14) (L1 := [some (.ref 153)]) (st1 := [.int 0]) (M1 := ri_M3) (c1 := 0) (s1 := 0) (fun n => rfl) ?_
        exact ri_ev_ret (fun n => rfl)
      refine ri_ev_call (N := 5) (L := [some (.ref 153), some (.int x1)]) rfl (Nat.le_of_ble_eq_true rfl) ?_
      refine ri_ev_go 1 (pc1 := 1) (L1 := [some (.ref 153), some (.int x1)]) (st1 := [.ref 153]) (M1 := ri_M3) (c1 := 0) (s1 := 0) (fun n => rfl) ?_
      refine ri_ev_clv (k := 152) (M1 := ri_M3) (v := some (.int 0)) _ rfl rfl ri_M3_152 rfl (Nat.le_of_ble_eq_true rfl) hc3 ?_
      refine ri_ev_go 2 (pc1 := 24) (L1 := [some (.ref 153), some (.int x1)]) (st1 := [.int 0]) (M1 := ri_M3) (c1 := 0) (s1 := 0) (fun n => rfl) ?_
      exact ri_ev_ret (fun n => rfl)
    refine ri_ev_call (N := 6) (L := [some (.ref 153), some (.int x1), some (.int x2), some (.int x3)]) rfl (Nat.le_of_ble_eq_true rfl) ?_
    refine ri_ev_go 2 (pc1 := 2) (L1 := [some (.ref 153), some (.int x1), some (.int x2), some (.int x3)]) (st1 := [.int x1, .ref 153]) (M1 := ri_M3) (c1 := 0) (s1 := 0) (fun n => rfl) ?_
    refine ri_ev_clv (k := 152) (M1 := ri_M3) (v := some (.int 0)) _ rfl rfl ri_M3_152 rfl (Nat.le_of_ble_eq_true rfl) hc4 ?_
    refine ri_ev_go 2 (pc1 := 21) (L1 := [some (.ref 153), some (.int x1), some (.int x2), some (.int x3)]) (st1 := [.int (-1)]) (M1 := ri_M3) (c1 := 0) (s1 := 0) (fun n => rfl) ?_
    exact ri_ev_ret (fun n => rfl)
  exact ⟨(-1), _, _, _, hc2, ri_M3_152, hc5⟩
set_option maxRecDepth 100000 in
set_option maxHeartbeats 8000000 in
theorem ro_thing_1 (x1 x2 x3 : Int32)  (h1 : ¬ x1 < 0) (h2 : x1 < 3) : ri_eqi 107 218 [.int x1, .int x2, .int x3] := by
  have hc3 : ri_c 19 107 [.ref 1, .int x1, .int x2, .int x3] ri_M3 = some (some (.int (-1)), ri_M3, 0, 0) := by
    have hc1 : ri_c 18 142 [.int x1, .int 3] ri_M3 = some (some (.int 0), ri_M3, 0, 0) := by
      refine ri_ev_call (N := 7) (L := [some (.int x1), some (.int 3)]) rfl (Nat.le_of_ble_eq_true rfl) ?_
      refine ri_ev_go 1 (pc1 := 1) (L1 := [some (.int x1), some (.int 3)]) (st1 := [.int x1]) (M1 := ri_M3) (c1 := 0) (s1 := 0) (fun n => rfl) ?_
      refine ri_iz_lt_f rfl h1 ?_
      refine ri_ev_go 2 (pc1 := 6) (L1 := [some (.int x1), some (.int 3)]) (st1 := [.int 3, .int x1]) (M1 := ri_M3) (c1 := 0) (s1 := 0) (fun n => rfl) ?_
      refine ri_ic_lt_t (t := 13) rfl h2 rfl ?_
      refine ri_ev_go 1 (pc1 := 14) (L1 := [some (.int x1), some (.int 3)]) (st1 := [.int 0]) (M1 := ri_M3) (c1 := 0) (s1 := 0) (fun n => rfl) ?_
      exact ri_ev_ret (fun n => rfl)
    have hc2 : ri_c 18 5 [.ref 16] ri_M3 = some (some (.int 0), ri_M3, 0, 0) := by
      refine ri_ev_call (N := 7) (L := [some (.ref 16)]) rfl (Nat.le_of_ble_eq_true rfl) ?_
      refine ri_ev_go 1 (pc1 := 1) (L1 := [some (.ref 16)]) (st1 := [.ref 16]) (M1 := ri_M3) (c1 := 0) (s1 := 0) (fun n => rfl) ?_
      refine ri_ev_gf (k := 15) rfl ri_M3_15 rfl ?_
      refine ri_ev_go 1 (pc1 := 5) (L1 := [some (.ref 16)]) (st1 := [.int 1, .ref 17]) (M1 := ri_M3) (c1 := 0) (s1 := 0) (fun n => rfl) ?_
      refine ri_ev_iald (k := 16) (z := 0) rfl ri_M3_16 (by decide) rfl ?_
      refine ri_ev_go 2 (pc1 := 23) (L1 := [some (.ref 16)]) (st1 := [.int 0]) (M1 := ri_M3) (c1 := 0) (s1 := 0) (fun n => rfl) ?_
      exact ri_ev_ret (fun n => rfl)
    refine ri_ev_call (N := 11) (L := [some (.ref 1), some (.int x1), some (.int x2), some (.int x3)]) rfl (Nat.le_of_ble_eq_true rfl) ?_
    refine ri_ev_go 2 (pc1 := 2) (L1 := [some (.ref 1), some (.int x1), some (.int x2), some (.int x3)]) (st1 := [.int 3, .int x1]) (M1 := ri_M3) (c1 := 0) (s1 := 0) (fun n => rfl) ?_
    refine ri_ev_cls (M1 := ri_M3) (v := some (.int 0)) _ rfl (Or.inl rfl) rfl (Nat.le_of_ble_eq_true rfl) hc1 ?_
    refine ri_ev_go 2 (pc1 := 9) (L1 := [some (.ref 1), some (.int x1), some (.int x2), some (.int x3)]) (st1 := [.ref 1]) (M1 := ri_M3) (c1 := 0) (s1 := 0) (fun n => rfl) ?_
    refine ri_ev_gf (k := 0) rfl ri_M3_0 rfl ?_
    refine ri_ev_gf (k := 14) rfl ri_M3_14 rfl ?_
    refine ri_ev_clv (k := 15) (M1 := ri_M3) (v := some (.int 0)) _ rfl rfl ri_M3_15 rfl (Nat.le_of_ble_eq_true rfl) hc2 ?_
    refine ri_ev_go 2 (pc1 := 22) (L1 := [some (.ref 1), some (.int x1), some (.int x2), some (.int x3)]) (st1 := [.int (-1)]) (M1 := ri_M3) (c1 := 0) (s1 := 0) (fun n => rfl) ?_
    exact ri_ev_ret (fun n => rfl)
  have hc6 : ri_c 19 218 [.ref 153, .int x1, .int x2, .int x3] ri_M3 = some (some (.int (-1)), ri_M3, 0, 0) := by
    have hc5 : ri_c 18 211 [.ref 153, .int x1] ri_M3 = some (some (.int 0), ri_M3, 0, 0) := by
      have hc4 : ri_c 17 209 [.ref 153] ri_M3 = some (some (.int 0), ri_M3, 0, 0) := by
        refine ri_ev_call (N := 7) (L := [some (.ref 153)]) rfl (Nat.le_of_ble_eq_true rfl) ?_
        refine ri_ev_go 1 (pc1 := 1) (L1 := [some (.ref 153)]) (st1 := [.ref 153]) (M1 := ri_M3) (c1 := 0) (s1 := 0) (fun n => rfl) ?_
        refine ri_ev_gf (k := 152) rfl ri_M3_152 rfl ?_
        refine ri_ev_go 1 (pc1 := 5) (L1 := [some (.ref 153)]) (st1 := [.int 0, .ref 164]) (M1 := ri_M3) (c1 := 0) (s1 := 0) (fun n => rfl) ?_
        refine ri_ev_iald (k := 163) (z := 0) rfl ri_M3_163 (by decide) rfl ?_
        refine ri_ev_go 2 (pc1 := 14) (L1 := [some (.ref 153)]) (st1 := [.int 0]) (M1 := ri_M3) (c1 := 0) (s1 := 0) (fun n => rfl) ?_
        exact ri_ev_ret (fun n => rfl)
      refine ri_ev_call (N := 5) (L := [some (.ref 153), some (.int x1)]) rfl (Nat.le_of_ble_eq_true rfl) ?_
      refine ri_ev_go 1 (pc1 := 1) (L1 := [some (.ref 153), some (.int x1)]) (st1 := [.ref 153]) (M1 := ri_M3) (c1 := 0) (s1 := 0) (fun n => rfl) ?_
      refine ri_ev_clv (k := 152) (M1 := ri_M3) (v := some (.int 0)) _ rfl rfl ri_M3_152 rfl (Nat.le_of_ble_eq_true rfl) hc4 ?_
      refine ri_ev_go 2 (pc1 := 24) (L1 := [some (.ref 153), some (.int x1)]) (st1 := [.int 0]) (M1 := ri_M3) (c1 := 0) (s1 := 0) (fun n => rfl) ?_
      exact ri_ev_ret (fun n => rfl)
    refine ri_ev_call (N := 6) (L := [some (.ref 153), some (.int x1), some (.int x2), some (.int x3)]) rfl (Nat.le_of_ble_eq_true rfl) ?_
    refine ri_ev_go 2 (pc1 := 2) (L1 := [some (.ref 153), some (.int x1), some (.int x2), some (.int x3)]) (st1 := [.int x1, .ref 153]) (M1 := ri_M3) (c1 := 0) (s1 := 0) (fun n => rfl) ?_
    refine ri_ev_clv (k := 152) (M1 := ri_M3) (v := some (.int 0)) _ rfl rfl ri_M3_152 rfl (Nat.le_of_ble_eq_true rfl) hc5 ?_
    refine ri_ev_go 2 (pc1 := 21) (L1 := [some (.ref 153), some (.int x1), some (.int x2), some (.int x3)]) (st1 := [.int (-1)]) (M1 := ri_M3) (c1 := 0) (s1 := 0) (fun n => rfl) ?_
    exact ri_ev_ret (fun n => rfl)
  exact ⟨(-1), _, _, _, hc3, ri_M3_152, hc6⟩
set_option maxRecDepth 100000 in
set_option maxHeartbeats 8000000 in
theorem ro_thing_2 (x1 x2 x3 : Int32)  (h1 : x1 < 0) : ri_eqi 107 218 [.int x1, .int x2, .int x3] := by
  have hc2 : ri_c 19 107 [.ref 1, .int x1, .int x2, .int x3] ri_M3 = some (some (.int (-1)), ri_M3, 0, 0) := by
    have hc1 : ri_c 18 142 [.int x1, .int 3] ri_M3 = some (some (.int 1), ri_M3, 0, 0) := by
      refine ri_ev_call (N := 5) (L := [some (.int x1), some (.int 3)]) rfl (Nat.le_of_ble_eq_true rfl) ?_
      refine ri_ev_go 1 (pc1 := 1) (L1 := [some (.int x1), some (.int 3)]) (st1 := [.int x1]) (M1 := ri_M3) (c1 := 0) (s1 := 0) (fun n => rfl) ?_
      refine ri_iz_lt_t (t := 9) rfl h1 rfl ?_
      refine ri_ev_go 2 (pc1 := 14) (L1 := [some (.int x1), some (.int 3)]) (st1 := [.int 1]) (M1 := ri_M3) (c1 := 0) (s1 := 0) (fun n => rfl) ?_
      exact ri_ev_ret (fun n => rfl)
    refine ri_ev_call (N := 6) (L := [some (.ref 1), some (.int x1), some (.int x2), some (.int x3)]) rfl (Nat.le_of_ble_eq_true rfl) ?_
    refine ri_ev_go 2 (pc1 := 2) (L1 := [some (.ref 1), some (.int x1), some (.int x2), some (.int x3)]) (st1 := [.int 3, .int x1]) (M1 := ri_M3) (c1 := 0) (s1 := 0) (fun n => rfl) ?_
    refine ri_ev_cls (M1 := ri_M3) (v := some (.int 1)) _ rfl (Or.inl rfl) rfl (Nat.le_of_ble_eq_true rfl) hc1 ?_
    refine ri_ev_go 2 (pc1 := 22) (L1 := [some (.ref 1), some (.int x1), some (.int x2), some (.int x3)]) (st1 := [.int (-1)]) (M1 := ri_M3) (c1 := 0) (s1 := 0) (fun n => rfl) ?_
    exact ri_ev_ret (fun n => rfl)
  have hc5 : ri_c 19 218 [.ref 153, .int x1, .int x2, .int x3] ri_M3 = some (some (.int (-1)), ri_M3, 0, 0) := by
    have hc4 : ri_c 18 211 [.ref 153, .int x1] ri_M3 = some (some (.int 0), ri_M3, 0, 0) := by
      have hc3 : ri_c 17 209 [.ref 153] ri_M3 = some (some (.int 0), ri_M3, 0, 0) := by
        refine ri_ev_call (N := 7) (L := [some (.ref 153)]) rfl (Nat.le_of_ble_eq_true rfl) ?_
        refine ri_ev_go 1 (pc1 := 1) (L1 := [some (.ref 153)]) (st1 := [.ref 153]) (M1 := ri_M3) (c1 := 0) (s1 := 0) (fun n => rfl) ?_
        refine ri_ev_gf (k := 152) rfl ri_M3_152 rfl ?_
        refine ri_ev_go 1 (pc1 := 5) (L1 := [some (.ref 153)]) (st1 := [.int 0, .ref 164]) (M1 := ri_M3) (c1 := 0) (s1 := 0) (fun n => rfl) ?_
        refine ri_ev_iald (k := 163) (z := 0) rfl ri_M3_163 (by decide) rfl ?_
        refine ri_ev_go 2 (pc1 := 14) (L1 := [some (.ref 153)]) (st1 := [.int 0]) (M1 := ri_M3) (c1 := 0) (s1 := 0) (fun n => rfl) ?_
        exact ri_ev_ret (fun n => rfl)
      refine ri_ev_call (N := 5) (L := [some (.ref 153), some (.int x1)]) rfl (Nat.le_of_ble_eq_true rfl) ?_
      refine ri_ev_go 1 (pc1 := 1) (L1 := [some (.ref 153), some (.int x1)]) (st1 := [.ref 153]) (M1 := ri_M3) (c1 := 0) (s1 := 0) (fun n => rfl) ?_
      refine ri_ev_clv (k := 152) (M1 := ri_M3) (v := some (.int 0)) _ rfl rfl ri_M3_152 rfl (Nat.le_of_ble_eq_true rfl) hc3 ?_
      refine ri_ev_go 2 (pc1 := 24) (L1 := [some (.ref 153), some (.int x1)]) (st1 := [.int 0]) (M1 := ri_M3) (c1 := 0) (s1 := 0) (fun n => rfl) ?_
      exact ri_ev_ret (fun n => rfl)
    refine ri_ev_call (N := 6) (L := [some (.ref 153), some (.int x1), some (.int x2), some (.int x3)]) rfl (Nat.le_of_ble_eq_true rfl) ?_
    refine ri_ev_go 2 (pc1 := 2) (L1 := [some (.ref 153), some (.int x1), some (.int x2), some (.int x3)]) (st1 := [.int x1, .ref 153]) (M1 := ri_M3) (c1 := 0) (s1 := 0) (fun n => rfl) ?_
    refine ri_ev_clv (k := 152) (M1 := ri_M3) (v := some (.int 0)) _ rfl rfl ri_M3_152 rfl (Nat.le_of_ble_eq_true rfl) hc4 ?_
    refine ri_ev_go 2 (pc1 := 21) (L1 := [some (.ref 153), some (.int x1), some (.int x2), some (.int x3)]) (st1 := [.int (-1)]) (M1 := ri_M3) (c1 := 0) (s1 := 0) (fun n => rfl) ?_
    exact ri_ev_ret (fun n => rfl)
  exact ⟨(-1), _, _, _, hc2, ri_M3_152, hc5⟩
theorem ro_thing (x1 x2 x3 : Int32)  : ri_eqi 107 218 [.int x1, .int x2, .int x3] := by
  by_cases h1 : x1 < 0
  · exact ro_thing_2 x1 x2 x3  h1
  · by_cases h2 : x1 < 3
    · exact ro_thing_1 x1 x2 x3  h1 h2
    · exact ro_thing_0 x1 x2 x3  h1 h2
set_option maxRecDepth 100000 in
set_option maxHeartbeats 8000000 in
theorem ro_far_0 (x1 x2 x3 x4 : Int32)  (h1 : ¬ x1 < 0) : ri_eql 108 222 [.int x1, .int x2, .int x3, .int x4] := by
  have hc3 : ri_c 19 108 [.ref 1, .int x1, .int x2, .int x3, .int x4] ri_M3 = some (some (.long (-1000000000000)), ri_M3, 0, 0) := by
    have hc2 : ri_c 18 150 [.ref 1, .int x1] ri_M3 = some (some (.null), ri_M3, 0, 0) := by
      have hc1 : ri_c 17 5 [.ref 16] ri_M3 = some (some (.int 0), ri_M3, 0, 0) := by
        refine ri_ev_call (N := 7) (L := [some (.ref 16)]) rfl (Nat.le_of_ble_eq_true rfl) ?_
        refine ri_ev_go 1 (pc1 := 1) (L1 := [some (.ref 16)]) (st1 := [.ref 16]) (M1 := ri_M3) (c1 := 0) (s1 := 0) (fun n => rfl) ?_
        refine ri_ev_gf (k := 15) rfl ri_M3_15 rfl ?_
        refine ri_ev_go 1 (pc1 := 5) (L1 := [some (.ref 16)]) (st1 := [.int 1, .ref 17]) (M1 := ri_M3) (c1 := 0) (s1 := 0) (fun n => rfl) ?_
        refine ri_ev_iald (k := 16) (z := 0) rfl ri_M3_16 (by decide) rfl ?_
        refine ri_ev_go 2 (pc1 := 23) (L1 := [some (.ref 16)]) (st1 := [.int 0]) (M1 := ri_M3) (c1 := 0) (s1 := 0) (fun n => rfl) ?_
        exact ri_ev_ret (fun n => rfl)
      refine ri_ev_call (N := 7) (L := [some (.ref 1), some (.int x1), none]) rfl (Nat.le_of_ble_eq_true rfl) ?_
      refine ri_ev_go 1 (pc1 := 1) (L1 := [some (.ref 1), some (.int x1), none]) (st1 := [.ref 1]) (M1 := ri_M3) (c1 := 0) (s1 := 0) (fun n => rfl) ?_
      refine ri_ev_gf (k := 0) rfl ri_M3_0 rfl ?_
      refine ri_ev_gf (k := 14) rfl ri_M3_14 rfl ?_
      refine ri_ev_clv (k := 15) (M1 := ri_M3) (v := some (.int 0)) _ rfl rfl ri_M3_15 rfl (Nat.le_of_ble_eq_true rfl) hc1 ?_
      refine ri_ev_go 2 (pc1 := 34) (L1 := [some (.ref 1), some (.int x1), none]) (st1 := [.null]) (M1 := ri_M3) (c1 := 0) (s1 := 0) (fun n => rfl) ?_
      exact ri_ev_ret (fun n => rfl)
    refine ri_ev_call (N := 8) (L := [some (.ref 1), some (.int x1), some (.int x2), some (.int x3), some (.int x4), none]) rfl (Nat.le_of_ble_eq_true rfl) ?_
    refine ri_ev_go 2 (pc1 := 2) (L1 := [some (.ref 1), some (.int x1), some (.int x2), some (.int x3), some (.int x4), none]) (st1 := [.int x1, .ref 1]) (M1 := ri_M3) (c1 := 0) (s1 := 0) (fun n => rfl) ?_
    refine ri_ev_clv (k := 0) (M1 := ri_M3) (v := some (.null)) _ rfl rfl ri_M3_0 rfl (Nat.le_of_ble_eq_true rfl) hc2 ?_
    refine ri_ev_go 4 (pc1 := 46) (L1 := [some (.ref 1), some (.int x1), some (.int x2), some (.int x3), some (.int x4), some (.null)]) (st1 := [.long (-1000000000000)]) (M1 := ri_M3) (c1 := 0) (s1 := 0) (fun n => rfl) ?_
    exact ri_ev_ret (fun n => rfl)
  have hc5 : ri_c 19 222 [.ref 153, .int x1, .int x2, .int x3, .int x4] ri_M3 = some (some (.long (-1000000000000)), ri_M3, 0, 0) := by
    have hc4 : ri_c 18 204 [.ref 153, .int x1] ri_M3 = some (some (.int 0), ri_M3, 0, 0) := by
      refine ri_ev_call (N := 8) (L := [some (.ref 153), some (.int x1)]) rfl (Nat.le_of_ble_eq_true rfl) ?_
      refine ri_ev_go 1 (pc1 := 1) (L1 := [some (.ref 153), some (.int x1)]) (st1 := [.int x1]) (M1 := ri_M3) (c1 := 0) (s1 := 0) (fun n => rfl) ?_
      refine ri_iz_lt_f rfl h1 ?_
      refine ri_ev_go 2 (pc1 := 6) (L1 := [some (.ref 153), some (.int x1)]) (st1 := [.ref 153, .int x1]) (M1 := ri_M3) (c1 := 0) (s1 := 0) (fun n => rfl) ?_
      refine ri_ev_gf (k := 152) rfl ri_M3_152 rfl ?_
      refine ri_ic_ge_t (t := 16) rfl (Int32.not_lt.mp h1) rfl ?_
      refine ri_ev_go 1 (pc1 := 17) (L1 := [some (.ref 153), some (.int x1)]) (st1 := [.int 0]) (M1 := ri_M3) (c1 := 0) (s1 := 0) (fun n => rfl) ?_
      exact ri_ev_ret (fun n => rfl)
    refine ri_ev_call (N := 6) (L := [some (.ref 153), some (.int x1), some (.int x2), some (.int x3), some (.int x4)]) rfl (Nat.le_of_ble_eq_true rfl) ?_
    refine ri_ev_go 2 (pc1 := 2) (L1 := [some (.ref 153), some (.int x1), some (.int x2), some (.int x3), some (.int x4)]) (st1 := [.int x1, .ref 153]) (M1 := ri_M3) (c1 := 0) (s1 := 0) (fun n => rfl) ?_
    refine ri_ev_clv (k := 152) (M1 := ri_M3) (v := some (.int 0)) _ rfl rfl ri_M3_152 rfl (Nat.le_of_ble_eq_true rfl) hc4 ?_
    refine ri_ev_go 2 (pc1 := 42) (L1 := [some (.ref 153), some (.int x1), some (.int x2), some (.int x3), some (.int x4)]) (st1 := [.long (-1000000000000)]) (M1 := ri_M3) (c1 := 0) (s1 := 0) (fun n => rfl) ?_
    exact ri_ev_ret (fun n => rfl)
  exact ⟨(-1000000000000), _, _, _, hc3, ri_M3_152, hc5⟩
set_option maxRecDepth 100000 in
set_option maxHeartbeats 8000000 in
theorem ro_far_1 (x1 x2 x3 x4 : Int32)  (h1 : x1 < 0) : ri_eql 108 222 [.int x1, .int x2, .int x3, .int x4] := by
  have hc3 : ri_c 19 108 [.ref 1, .int x1, .int x2, .int x3, .int x4] ri_M3 = some (some (.long (-1000000000000)), ri_M3, 0, 0) := by
    have hc2 : ri_c 18 150 [.ref 1, .int x1] ri_M3 = some (some (.null), ri_M3, 0, 0) := by
      have hc1 : ri_c 17 5 [.ref 16] ri_M3 = some (some (.int 0), ri_M3, 0, 0) := by
        refine ri_ev_call (N := 7) (L := [some (.ref 16)]) rfl (Nat.le_of_ble_eq_true rfl) ?_
        refine ri_ev_go 1 (pc1 := 1) (L1 := [some (.ref 16)]) (st1 := [.ref 16]) (M1 := ri_M3) (c1 := 0) (s1 := 0) (fun n => rfl) ?_
        refine ri_ev_gf (k := 15) rfl ri_M3_15 rfl ?_
        refine ri_ev_go 1 (pc1 := 5) (L1 := [some (.ref 16)]) (st1 := [.int 1, .ref 17]) (M1 := ri_M3) (c1 := 0) (s1 := 0) (fun n => rfl) ?_
        refine ri_ev_iald (k := 16) (z := 0) rfl ri_M3_16 (by decide) rfl ?_
        refine ri_ev_go 2 (pc1 := 23) (L1 := [some (.ref 16)]) (st1 := [.int 0]) (M1 := ri_M3) (c1 := 0) (s1 := 0) (fun n => rfl) ?_
        exact ri_ev_ret (fun n => rfl)
      refine ri_ev_call (N := 7) (L := [some (.ref 1), some (.int x1), none]) rfl (Nat.le_of_ble_eq_true rfl) ?_
      refine ri_ev_go 1 (pc1 := 1) (L1 := [some (.ref 1), some (.int x1), none]) (st1 := [.ref 1]) (M1 := ri_M3) (c1 := 0) (s1 := 0) (fun n => rfl) ?_
      refine ri_ev_gf (k := 0) rfl ri_M3_0 rfl ?_
      refine ri_ev_gf (k := 14) rfl ri_M3_14 rfl ?_
      refine ri_ev_clv (k := 15) (M1 := ri_M3) (v := some (.int 0)) _ rfl rfl ri_M3_15 rfl (Nat.le_of_ble_eq_true rfl) hc1 ?_
      refine ri_ev_go 2 (pc1 := 34) (L1 := [some (.ref 1), some (.int x1), none]) (st1 := [.null]) (M1 := ri_M3) (c1 := 0) (s1 := 0) (fun n => rfl) ?_
      exact ri_ev_ret (fun n => rfl)
    refine ri_ev_call (N := 8) (L := [some (.ref 1), some (.int x1), some (.int x2), some (.int x3), some (.int x4), none]) rfl (Nat.le_of_ble_eq_true rfl) ?_
    refine ri_ev_go 2 (pc1 := 2) (L1 := [some (.ref 1), some (.int x1), some (.int x2), some (.int x3), some (.int x4), none]) (st1 := [.int x1, .ref 1]) (M1 := ri_M3) (c1 := 0) (s1 := 0) (fun n => rfl) ?_
    refine ri_ev_clv (k := 0) (M1 := ri_M3) (v := some (.null)) _ rfl rfl ri_M3_0 rfl (Nat.le_of_ble_eq_true rfl) hc2 ?_
    refine ri_ev_go 4 (pc1 := 46) (L1 := [some (.ref 1), some (.int x1), some (.int x2), some (.int x3), some (.int x4), some (.null)]) (st1 := [.long (-1000000000000)]) (M1 := ri_M3) (c1 := 0) (s1 := 0) (fun n => rfl) ?_
    exact ri_ev_ret (fun n => rfl)
  have hc5 : ri_c 19 222 [.ref 153, .int x1, .int x2, .int x3, .int x4] ri_M3 = some (some (.long (-1000000000000)), ri_M3, 0, 0) := by
    have hc4 : ri_c 18 204 [.ref 153, .int x1] ri_M3 = some (some (.int 0), ri_M3, 0, 0) := by
      refine ri_ev_call (N := 4) (L := [some (.ref 153), some (.int x1)]) rfl (Nat.le_of_ble_eq_true rfl) ?_
      refine ri_ev_go 1 (pc1 := 1) (L1 := [some (.ref 153), some (.int x1)]) (st1 := [.int x1]) (M1 := ri_M3) (c1 := 0) (s1 := 0) (fun n => rfl) ?_
      refine ri_iz_lt_t (t := 16) rfl h1 rfl ?_
      refine ri_ev_go 1 (pc1 := 17) (L1 := [some (.ref 153), some (.int x1)]) (st1 := [.int 0]) (M1 := ri_M3) (c1 := 0) (s1 := 0) (fun n => rfl) ?_
      exact ri_ev_ret (fun n => rfl)
    refine ri_ev_call (N := 6) (L := [some (.ref 153), some (.int x1), some (.int x2), some (.int x3), some (.int x4)]) rfl (Nat.le_of_ble_eq_true rfl) ?_
    refine ri_ev_go 2 (pc1 := 2) (L1 := [some (.ref 153), some (.int x1), some (.int x2), some (.int x3), some (.int x4)]) (st1 := [.int x1, .ref 153]) (M1 := ri_M3) (c1 := 0) (s1 := 0) (fun n => rfl) ?_
    refine ri_ev_clv (k := 152) (M1 := ri_M3) (v := some (.int 0)) _ rfl rfl ri_M3_152 rfl (Nat.le_of_ble_eq_true rfl) hc4 ?_
    refine ri_ev_go 2 (pc1 := 42) (L1 := [some (.ref 153), some (.int x1), some (.int x2), some (.int x3), some (.int x4)]) (st1 := [.long (-1000000000000)]) (M1 := ri_M3) (c1 := 0) (s1 := 0) (fun n => rfl) ?_
    exact ri_ev_ret (fun n => rfl)
  exact ⟨(-1000000000000), _, _, _, hc3, ri_M3_152, hc5⟩
theorem ro_far (x1 x2 x3 x4 : Int32)  : ri_eql 108 222 [.int x1, .int x2, .int x3, .int x4] := by
  by_cases h1 : x1 < 0
  · exact ro_far_1 x1 x2 x3 x4  h1
  · exact ro_far_0 x1 x2 x3 x4  h1
set_option maxRecDepth 100000 in
set_option maxHeartbeats 8000000 in
theorem ro_answer_0 (x1 x2 x3 x4 : Int32)  (h1 : ¬ x1 < 0) (h2 : ¬ x1 < 6) : ri_eqi 109 224 [.int x1, .int x2, .int x3, .int x4] := by
  have hc2 : ri_c 19 109 [.ref 1, .int x1, .int x2, .int x3, .int x4] ri_M3 = some (some (.int (-1)), ri_M3, 0, 0) := by
    have hc1 : ri_c 18 142 [.int x1, .int 6] ri_M3 = some (some (.int 1), ri_M3, 0, 0) := by
      refine ri_ev_call (N := 8) (L := [some (.int x1), some (.int 6)]) rfl (Nat.le_of_ble_eq_true rfl) ?_
      refine ri_ev_go 1 (pc1 := 1) (L1 := [some (.int x1), some (.int 6)]) (st1 := [.int x1]) (M1 := ri_M3) (c1 := 0) (s1 := 0) (fun n => rfl) ?_
      refine ri_iz_lt_f rfl h1 ?_
      refine ri_ev_go 2 (pc1 := 6) (L1 := [some (.int x1), some (.int 6)]) (st1 := [.int 6, .int x1]) (M1 := ri_M3) (c1 := 0) (s1 := 0) (fun n => rfl) ?_
      refine ri_ic_lt_f rfl h2 ?_
      refine ri_ev_go 2 (pc1 := 14) (L1 := [some (.int x1), some (.int 6)]) (st1 := [.int 1]) (M1 := ri_M3) (c1 := 0) (s1 := 0) (fun n => rfl) ?_
      exact ri_ev_ret (fun n => rfl)
    refine ri_ev_call (N := 6) (L := [some (.ref 1), some (.int x1), some (.int x2), some (.int x3), some (.int x4)]) rfl (Nat.le_of_ble_eq_true rfl) ?_
    refine ri_ev_go 2 (pc1 := 3) (L1 := [some (.ref 1), some (.int x1), some (.int x2), some (.int x3), some (.int x4)]) (st1 := [.int 6, .int x1]) (M1 := ri_M3) (c1 := 0) (s1 := 0) (fun n => rfl) ?_
    refine ri_ev_cls (M1 := ri_M3) (v := some (.int 1)) _ rfl (Or.inl rfl) rfl (Nat.le_of_ble_eq_true rfl) hc1 ?_
    refine ri_ev_go 2 (pc1 := 21) (L1 := [some (.ref 1), some (.int x1), some (.int x2), some (.int x3), some (.int x4)]) (st1 := [.int (-1)]) (M1 := ri_M3) (c1 := 0) (s1 := 0) (fun n => rfl) ?_
    exact ri_ev_ret (fun n => rfl)
  have hc4 : ri_c 19 224 [.ref 153, .int x1, .int x2, .int x3, .int x4] ri_M3 = some (some (.int (-1)), ri_M3, 0, 0) := by
    have hc3 : ri_c 18 214 [.int x1] ri_M3 = some (some (.int 0), ri_M3, 0, 0) := by
      refine ri_ev_call (N := 7) (L := [some (.int x1)]) rfl (Nat.le_of_ble_eq_true rfl) ?_
      refine ri_ev_go 1 (pc1 := 1) (L1 := [some (.int x1)]) (st1 := [.int x1]) (M1 := ri_M3) (c1 := 0) (s1 := 0) (fun n => rfl) ?_
      refine ri_iz_lt_f rfl h1 ?_
      refine ri_ev_go 2 (pc1 := 7) (L1 := [some (.int x1)]) (st1 := [.int 6, .int x1]) (M1 := ri_M3) (c1 := 0) (s1 := 0) (fun n => rfl) ?_
      refine ri_ic_ge_t (t := 14) rfl (Int32.not_lt.mp h2) rfl ?_
      refine ri_ev_go 1 (pc1 := 15) (L1 := [some (.int x1)]) (st1 := [.int 0]) (M1 := ri_M3) (c1 := 0) (s1 := 0) (fun n => rfl) ?_
      exact ri_ev_ret (fun n => rfl)
    refine ri_ev_call (N := 11) (L := [some (.ref 153), some (.int x1), some (.int x2), some (.int x3), some (.int x4), none]) rfl (Nat.le_of_ble_eq_true rfl) ?_
    refine ri_ev_go 1 (pc1 := 1) (L1 := [some (.ref 153), some (.int x1), some (.int x2), some (.int x3), some (.int x4), none]) (st1 := [.ref 153]) (M1 := ri_M3) (c1 := 0) (s1 := 0) (fun n => rfl) ?_
    refine ri_ev_gf (k := 152) rfl ri_M3_152 rfl ?_
    refine ri_ev_go 1 (pc1 := 5) (L1 := [some (.ref 153), some (.int x1), some (.int x2), some (.int x3), some (.int x4), none]) (st1 := [.int 3, .ref 164]) (M1 := ri_M3) (c1 := 0) (s1 := 0) (fun n => rfl) ?_
    refine ri_ev_iald (k := 163) (z := 0) rfl ri_M3_163 (by decide) rfl ?_
    refine ri_ev_go 3 (pc1 := 12) (L1 := [some (.ref 153), some (.int x1), some (.int x2), some (.int x3), some (.int x4), none]) (st1 := [.int x1]) (M1 := ri_M3) (c1 := 0) (s1 := 0) (fun n => rfl) ?_
    refine ri_ev_cls (M1 := ri_M3) (v := some (.int 0)) _ rfl (Or.inl rfl) rfl (Nat.le_of_ble_eq_true rfl) hc3 ?_
    refine ri_ev_go 2 (pc1 := 54) (L1 := [some (.ref 153), some (.int x1), some (.int x2), some (.int x3), some (.int x4), none]) (st1 := [.int (-1)]) (M1 := ri_M3) (c1 := 0) (s1 := 0) (fun n => rfl) ?_
    exact ri_ev_ret (fun n => rfl)
  exact ⟨(-1), _, _, _, hc2, ri_M3_152, hc4⟩
set_option maxRecDepth 100000 in
set_option maxHeartbeats 8000000 in
theorem ro_answer_1 (x1 x2 x3 x4 : Int32)  (h1 : ¬ x1 < 0) (h2 : x1 < 6) (h3 : ¬ x2 < 0) (h4 : ¬ x2 < 3) : ri_eqi 109 224 [.int x1, .int x2, .int x3, .int x4] := by
  have hc5 : ri_c 19 109 [.ref 1, .int x1, .int x2, .int x3, .int x4] ri_M3 = some (some (.int (-1)), ri_M3, 0, 0) := by
    have hc1 : ri_c 18 142 [.int x1, .int 6] ri_M3 = some (some (.int 0), ri_M3, 0, 0) := by
      refine ri_ev_call (N := 7) (L := [some (.int x1), some (.int 6)]) rfl (Nat.le_of_ble_eq_true rfl) ?_
      refine ri_ev_go 1 (pc1 := 1) (L1 := [some (.int x1), some (.int 6)]) (st1 := [.int x1]) (M1 := ri_M3) (c1 := 0) (s1 := 0) (fun n => rfl) ?_
      refine ri_iz_lt_f rfl h1 ?_
      refine ri_ev_go 2 (pc1 := 6) (L1 := [some (.int x1), some (.int 6)]) (st1 := [.int 6, .int x1]) (M1 := ri_M3) (c1 := 0) (s1 := 0) (fun n => rfl) ?_
      refine ri_ic_lt_t (t := 13) rfl h2 rfl ?_
      refine ri_ev_go 1 (pc1 := 14) (L1 := [some (.int x1), some (.int 6)]) (st1 := [.int 0]) (M1 := ri_M3) (c1 := 0) (s1 := 0) (fun n => rfl) ?_
      exact ri_ev_ret (fun n => rfl)
    have hc2 : ri_c 18 21 [.ref 15, .int x1] ri_M3 = some (some (.int 9), ri_M3, 0, 0) := by
      refine ri_ev_call (N := 17) (L := [some (.ref 15), some (.int x1), none, none]) rfl (Nat.le_of_ble_eq_true rfl) ?_
      refine ri_ev_go 6 (pc1 := 6) (L1 := [some (.ref 15), some (.int x1), some (.int 0), some (.int 0)]) (st1 := [.ref 15, .int 0]) (M1 := ri_M3) (c1 := 0) (s1 := 0) (fun n => rfl) ?_
      refine ri_ev_gf (k := 14) rfl ri_M3_14 rfl ?_
      refine ri_ev_go 6 (pc1 := 40) (L1 := [some (.ref 15), some (.int x1), some (.int 0), some (.int 0)]) (st1 := [.ref 15, .int 40, .int 9]) (M1 := ri_M3) (c1 := 0) (s1 := 0) (fun n => rfl) ?_
      refine ri_ev_gf (k := 14) rfl ri_M3_14 rfl ?_
      refine ri_ev_go 2 (pc1 := 47) (L1 := [some (.ref 15), some (.int x1), some (.int 0), some (.int 0)]) (st1 := [.int 9]) (M1 := ri_M3) (c1 := 0) (s1 := 0) (fun n => rfl) ?_
      exact ri_ev_ret (fun n => rfl)
    have hc4 : ri_c 18 8 [.ref 16, .int x2, .int x3] ri_M3 = some (some (.int 0), ri_M3, 0, 0) := by
      have hc3 : ri_c 17 142 [.int x2, .int 3] ri_M3 = some (some (.int 1), ri_M3, 0, 0) := by
        refine ri_ev_call (N := 8) (L := [some (.int x2), some (.int 3)]) rfl (Nat.le_of_ble_eq_true rfl) ?_
        refine ri_ev_go 1 (pc1 := 1) (L1 := [some (.int x2), some (.int 3)]) (st1 := [.int x2]) (M1 := ri_M3) (c1 := 0) (s1 := 0) (fun n => rfl) ?_
        refine ri_iz_lt_f rfl h3 ?_
        refine ri_ev_go 2 (pc1 := 6) (L1 := [some (.int x2), some (.int 3)]) (st1 := [.int 3, .int x2]) (M1 := ri_M3) (c1 := 0) (s1 := 0) (fun n => rfl) ?_
        refine ri_ic_lt_f rfl h4 ?_
        refine ri_ev_go 2 (pc1 := 14) (L1 := [some (.int x2), some (.int 3)]) (st1 := [.int 1]) (M1 := ri_M3) (c1 := 0) (s1 := 0) (fun n => rfl) ?_
        exact ri_ev_ret (fun n => rfl)
      refine ri_ev_call (N := 6) (L := [some (.ref 16), some (.int x2), some (.int x3)]) rfl (Nat.le_of_ble_eq_true rfl) ?_
      refine ri_ev_go 2 (pc1 := 2) (L1 := [some (.ref 16), some (.int x2), some (.int x3)]) (st1 := [.int 3, .int x2]) (M1 := ri_M3) (c1 := 0) (s1 := 0) (fun n => rfl) ?_
      refine ri_ev_cls (M1 := ri_M3) (v := some (.int 1)) _ rfl (Or.inr rfl) rfl (Nat.le_of_ble_eq_true rfl) hc3 ?_
      refine ri_ev_go 2 (pc1 := 26) (L1 := [some (.ref 16), some (.int x2), some (.int x3)]) (st1 := [.int 0]) (M1 := ri_M3) (c1 := 0) (s1 := 0) (fun n => rfl) ?_
      exact ri_ev_ret (fun n => rfl)
    refine ri_ev_call (N := 18) (L := [some (.ref 1), some (.int x1), some (.int x2), some (.int x3), some (.int x4)]) rfl (Nat.le_of_ble_eq_true rfl) ?_
    refine ri_ev_go 2 (pc1 := 3) (L1 := [some (.ref 1), some (.int x1), some (.int x2), some (.int x3), some (.int x4)]) (st1 := [.int 6, .int x1]) (M1 := ri_M3) (c1 := 0) (s1 := 0) (fun n => rfl) ?_
    refine ri_ev_cls (M1 := ri_M3) (v := some (.int 0)) _ rfl (Or.inl rfl) rfl (Nat.le_of_ble_eq_true rfl) hc1 ?_
    refine ri_ev_go 2 (pc1 := 10) (L1 := [some (.ref 1), some (.int x1), some (.int x2), some (.int x3), some (.int x4)]) (st1 := [.ref 1]) (M1 := ri_M3) (c1 := 0) (s1 := 0) (fun n => rfl) ?_
    refine ri_ev_gf (k := 0) rfl ri_M3_0 rfl ?_
    refine ri_ev_go 1 (pc1 := 14) (L1 := [some (.ref 1), some (.int x1), some (.int x2), some (.int x3), some (.int x4)]) (st1 := [.int x1, .ref 15]) (M1 := ri_M3) (c1 := 0) (s1 := 0) (fun n => rfl) ?_
    refine ri_ev_clv (k := 14) (M1 := ri_M3) (v := some (.int 9)) _ rfl rfl ri_M3_14 rfl (Nat.le_of_ble_eq_true rfl) hc2 ?_
    refine ri_ev_go 2 (pc1 := 23) (L1 := [some (.ref 1), some (.int x1), some (.int x2), some (.int x3), some (.int x4)]) (st1 := [.ref 1]) (M1 := ri_M3) (c1 := 0) (s1 := 0) (fun n => rfl) ?_
    refine ri_ev_gf (k := 0) rfl ri_M3_0 rfl ?_
    refine ri_ev_gf (k := 14) rfl ri_M3_14 rfl ?_
    refine ri_ev_go 2 (pc1 := 31) (L1 := [some (.ref 1), some (.int x1), some (.int x2), some (.int x3), some (.int x4)]) (st1 := [.int x3, .int x2, .ref 16]) (M1 := ri_M3) (c1 := 0) (s1 := 0) (fun n => rfl) ?_
    refine ri_ev_clv (k := 15) (M1 := ri_M3) (v := some (.int 0)) _ rfl rfl ri_M3_15 rfl (Nat.le_of_ble_eq_true rfl) hc4 ?_
    refine ri_ev_go 2 (pc1 := 60) (L1 := [some (.ref 1), some (.int x1), some (.int x2), some (.int x3), some (.int x4)]) (st1 := [.int (-1)]) (M1 := ri_M3) (c1 := 0) (s1 := 0) (fun n => rfl) ?_
    exact ri_ev_ret (fun n => rfl)
  have hc10 : ri_c 19 224 [.ref 153, .int x1, .int x2, .int x3, .int x4] ri_M3 = some (some (.int (-1)), ri_M3, 0, 0) := by
    have hc6 : ri_c 18 214 [.int x1] ri_M3 = some (some (.int 1), ri_M3, 0, 0) := by
      refine ri_ev_call (N := 8) (L := [some (.int x1)]) rfl (Nat.le_of_ble_eq_true rfl) ?_
      refine ri_ev_go 1 (pc1 := 1) (L1 := [some (.int x1)]) (st1 := [.int x1]) (M1 := ri_M3) (c1 := 0) (s1 := 0) (fun n => rfl) ?_
      refine ri_iz_lt_f rfl h1 ?_
      refine ri_ev_go 2 (pc1 := 7) (L1 := [some (.int x1)]) (st1 := [.int 6, .int x1]) (M1 := ri_M3) (c1 := 0) (s1 := 0) (fun n => rfl) ?_
      refine ri_ic_ge_f rfl (Int32.not_le.mpr h2) ?_
      refine ri_ev_go 2 (pc1 := 15) (L1 := [some (.int x1)]) (st1 := [.int 1]) (M1 := ri_M3) (c1 := 0) (s1 := 0) (fun n => rfl) ?_
      exact ri_ev_ret (fun n => rfl)
    have hc9 : ri_c 18 212 [.ref 153, .int x2, .int x3] ri_M3 = some (some (.int 0), ri_M3, 0, 0) := by
      have hc8 : ri_c 17 211 [.ref 153, .int x2] ri_M3 = some (some (.int 0), ri_M3, 0, 0) := by
        have hc7 : ri_c 16 209 [.ref 153] ri_M3 = some (some (.int 0), ri_M3, 0, 0) := by
          refine ri_ev_call (N := 7) (L := [some (.ref 153)]) rfl (Nat.le_of_ble_eq_true rfl) ?_
          refine ri_ev_go 1 (pc1 := 1) (L1 := [some (.ref 153)]) (st1 := [.ref 153]) (M1 := ri_M3) (c1 := 0) (s1 := 0) (fun n => rfl) ?_
          refine ri_ev_gf (k := 152) rfl ri_M3_152 rfl ?_
          refine ri_ev_go 1 (pc1 := 5) (L1 := [some (.ref 153)]) (st1 := [.int 0, .ref 164]) (M1 := ri_M3) (c1 := 0) (s1 := 0) (fun n => rfl) ?_
          refine ri_ev_iald (k := 163) (z := 0) rfl ri_M3_163 (by decide) rfl ?_
          refine ri_ev_go 2 (pc1 := 14) (L1 := [some (.ref 153)]) (st1 := [.int 0]) (M1 := ri_M3) (c1 := 0) (s1 := 0) (fun n => rfl) ?_
          exact ri_ev_ret (fun n => rfl)
        refine ri_ev_call (N := 5) (L := [some (.ref 153), some (.int x2)]) rfl (Nat.le_of_ble_eq_true rfl) ?_
        refine ri_ev_go 1 (pc1 := 1) (L1 := [some (.ref 153), some (.int x2)]) (st1 := [.ref 153]) (M1 := ri_M3) (c1 := 0) (s1 := 0) (fun n => rfl) ?_
        refine ri_ev_clv (k := 152) (M1 := ri_M3) (v := some (.int 0)) _ rfl rfl ri_M3_152 rfl (Nat.le_of_ble_eq_true rfl) hc7 ?_
        refine ri_ev_go 2 (pc1 := 24) (L1 := [some (.ref 153), some (.int x2)]) (st1 := [.int 0]) (M1 := ri_M3) (c1 := 0) (s1 := 0) (fun n => rfl) ?_
        exact ri_ev_ret (fun n => rfl)
      refine ri_ev_call (N := 6) (L := [some (.ref 153), some (.int x2), some (.int x3)]) rfl (Nat.le_of_ble_eq_true rfl) ?_
      refine ri_ev_go 2 (pc1 := 2) (L1 := [some (.ref 153), some (.int x2), some (.int x3)]) (st1 := [.int x2, .ref 153]) (M1 := ri_M3) (c1 := 0) (s1 := 0) (fun n => rfl) ?_
      refine ri_ev_clv (k := 152) (M1 := ri_M3) (v := some (.int 0)) _ rfl rfl ri_M3_152 rfl (Nat.le_of_ble_eq_true rfl) hc8 ?_
      refine ri_ev_go 2 (pc1 := 27) (L1 := [some (.ref 153), some (.int x2), some (.int x3)]) (st1 := [.int 0]) (M1 := ri_M3) (c1 := 0) (s1 := 0) (fun n => rfl) ?_
      exact ri_ev_ret (fun n => rfl)
    refine ri_ev_call (N := 16) (L := [some (.ref 153), some (.int x1), some (.int x2), some (.int x3), some (.int x4), none]) rfl (Nat.le_of_ble_eq_true rfl) ?_
    refine ri_ev_go 1 (pc1 := 1) (L1 := [some (.ref 153), some (.int x1), some (.int x2), some (.int x3), some (.int x4), none]) (st1 := [.ref 153]) (M1 := ri_M3) (c1 := 0) (s1 := 0) (fun n => rfl) ?_
    refine ri_ev_gf (k := 152) rfl ri_M3_152 rfl ?_
    refine ri_ev_go 1 (pc1 := 5) (L1 := [some (.ref 153), some (.int x1), some (.int x2), some (.int x3), some (.int x4), none]) (st1 := [.int 3, .ref 164]) (M1 := ri_M3) (c1 := 0) (s1 := 0) (fun n => rfl) ?_
    refine ri_ev_iald (k := 163) (z := 0) rfl ri_M3_163 (by decide) rfl ?_
    refine ri_ev_go 3 (pc1 := 12) (L1 := [some (.ref 153), some (.int x1), some (.int x2), some (.int x3), some (.int x4), none]) (st1 := [.int x1]) (M1 := ri_M3) (c1 := 0) (s1 := 0) (fun n => rfl) ?_
    refine ri_ev_cls (M1 := ri_M3) (v := some (.int 1)) _ rfl (Or.inl rfl) rfl (Nat.le_of_ble_eq_true rfl) hc6 ?_
    refine ri_ev_go 4 (pc1 := 21) (L1 := [some (.ref 153), some (.int x1), some (.int x2), some (.int x3), some (.int x4), none]) (st1 := [.int x3, .int x2, .ref 153]) (M1 := ri_M3) (c1 := 0) (s1 := 0) (fun n => rfl) ?_
    refine ri_ev_clv (k := 152) (M1 := ri_M3) (v := some (.int 0)) _ rfl rfl ri_M3_152 rfl (Nat.le_of_ble_eq_true rfl) hc9 ?_
    refine ri_ev_go 2 (pc1 := 54) (L1 := [some (.ref 153), some (.int x1), some (.int x2), some (.int x3), some (.int x4), none]) (st1 := [.int (-1)]) (M1 := ri_M3) (c1 := 0) (s1 := 0) (fun n => rfl) ?_
    exact ri_ev_ret (fun n => rfl)
  exact ⟨(-1), _, _, _, hc5, ri_M3_152, hc10⟩
set_option maxRecDepth 100000 in
set_option maxHeartbeats 8000000 in
theorem ro_answer_2 (x1 x2 x3 x4 : Int32)  (h1 : ¬ x1 < 0) (h2 : x1 < 6) (h3 : ¬ x2 < 0) (h4 : x2 < 3) (h5 : ¬ x3 < 0) : ri_eqi 109 224 [.int x1, .int x2, .int x3, .int x4] := by
  have hc6 : ri_c 19 109 [.ref 1, .int x1, .int x2, .int x3, .int x4] ri_M3 = some (some (.int (-1)), ri_M3, 0, 0) := by
    have hc1 : ri_c 18 142 [.int x1, .int 6] ri_M3 = some (some (.int 0), ri_M3, 0, 0) := by
      refine ri_ev_call (N := 7) (L := [some (.int x1), some (.int 6)]) rfl (Nat.le_of_ble_eq_true rfl) ?_
      refine ri_ev_go 1 (pc1 := 1) (L1 := [some (.int x1), some (.int 6)]) (st1 := [.int x1]) (M1 := ri_M3) (c1 := 0) (s1 := 0) (fun n => rfl) ?_
      refine ri_iz_lt_f rfl h1 ?_
      refine ri_ev_go 2 (pc1 := 6) (L1 := [some (.int x1), some (.int 6)]) (st1 := [.int 6, .int x1]) (M1 := ri_M3) (c1 := 0) (s1 := 0) (fun n => rfl) ?_
      refine ri_ic_lt_t (t := 13) rfl h2 rfl ?_
      refine ri_ev_go 1 (pc1 := 14) (L1 := [some (.int x1), some (.int 6)]) (st1 := [.int 0]) (M1 := ri_M3) (c1 := 0) (s1 := 0) (fun n => rfl) ?_
      exact ri_ev_ret (fun n => rfl)
    have hc2 : ri_c 18 21 [.ref 15, .int x1] ri_M3 = some (some (.int 9), ri_M3, 0, 0) := by
      refine ri_ev_call (N := 17) (L := [some (.ref 15), some (.int x1), none, none]) rfl (Nat.le_of_ble_eq_true rfl) ?_
      refine ri_ev_go 6 (pc1 := 6) (L1 := [some (.ref 15), some (.int x1), some (.int 0), some (.int 0)]) (st1 := [.ref 15, .int 0]) (M1 := ri_M3) (c1 := 0) (s1 := 0) (fun n => rfl) ?_
      refine ri_ev_gf (k := 14) rfl ri_M3_14 rfl ?_
      refine ri_ev_go 6 (pc1 := 40) (L1 := [some (.ref 15), some (.int x1), some (.int 0), some (.int 0)]) (st1 := [.ref 15, .int 40, .int 9]) (M1 := ri_M3) (c1 := 0) (s1 := 0) (fun n => rfl) ?_
      refine ri_ev_gf (k := 14) rfl ri_M3_14 rfl ?_
      refine ri_ev_go 2 (pc1 := 47) (L1 := [some (.ref 15), some (.int x1), some (.int 0), some (.int 0)]) (st1 := [.int 9]) (M1 := ri_M3) (c1 := 0) (s1 := 0) (fun n => rfl) ?_
      exact ri_ev_ret (fun n => rfl)
    have hc5 : ri_c 18 8 [.ref 16, .int x2, .int x3] ri_M3 = some (some (.int 0), ri_M3, 0, 0) := by
      have hc3 : ri_c 17 142 [.int x2, .int 3] ri_M3 = some (some (.int 0), ri_M3, 0, 0) := by
        refine ri_ev_call (N := 7) (L := [some (.int x2), some (.int 3)]) rfl (Nat.le_of_ble_eq_true rfl) ?_
        refine ri_ev_go 1 (pc1 := 1) (L1 := [some (.int x2), some (.int 3)]) (st1 := [.int x2]) (M1 := ri_M3) (c1 := 0) (s1 := 0) (fun n => rfl) ?_
        refine ri_iz_lt_f rfl h3 ?_
        refine ri_ev_go 2 (pc1 := 6) (L1 := [some (.int x2), some (.int 3)]) (st1 := [.int 3, .int x2]) (M1 := ri_M3) (c1 := 0) (s1 := 0) (fun n => rfl) ?_
        refine ri_ic_lt_t (t := 13) rfl h4 rfl ?_
        refine ri_ev_go 1 (pc1 := 14) (L1 := [some (.int x2), some (.int 3)]) (st1 := [.int 0]) (M1 := ri_M3) (c1 := 0) (s1 := 0) (fun n => rfl) ?_
        exact ri_ev_ret (fun n => rfl)
      have hc4 : ri_c 17 142 [.int x3, .int 0] ri_M3 = some (some (.int 1), ri_M3, 0, 0) := by
        refine ri_ev_call (N := 8) (L := [some (.int x3), some (.int 0)]) rfl (Nat.le_of_ble_eq_true rfl) ?_
        refine ri_ev_go 1 (pc1 := 1) (L1 := [some (.int x3), some (.int 0)]) (st1 := [.int x3]) (M1 := ri_M3) (c1 := 0) (s1 := 0) (fun n => rfl) ?_
        refine ri_iz_lt_f rfl h5 ?_
        refine ri_ev_go 2 (pc1 := 6) (L1 := [some (.int x3), some (.int 0)]) (st1 := [.int 0, .int x3]) (M1 := ri_M3) (c1 := 0) (s1 := 0) (fun n => rfl) ?_
        refine ri_ic_lt_f rfl h5 ?_
        refine ri_ev_go 2 (pc1 := 14) (L1 := [some (.int x3), some (.int 0)]) (st1 := [.int 1]) (M1 := ri_M3) (c1 := 0) (s1 := 0) (fun n => rfl) ?_
        exact ri_ev_ret (fun n => rfl)
      refine ri_ev_call (N := 13) (L := [some (.ref 16), some (.int x2), some (.int x3)]) rfl (Nat.le_of_ble_eq_true rfl) ?_
      refine ri_ev_go 2 (pc1 := 2) (L1 := [some (.ref 16), some (.int x2), some (.int x3)]) (st1 := [.int 3, .int x2]) (M1 := ri_M3) (c1 := 0) (s1 := 0) (fun n => rfl) ?_
      refine ri_ev_cls (M1 := ri_M3) (v := some (.int 0)) _ rfl (Or.inr rfl) rfl (Nat.le_of_ble_eq_true rfl) hc3 ?_
      refine ri_ev_go 3 (pc1 := 10) (L1 := [some (.ref 16), some (.int x2), some (.int x3)]) (st1 := [.ref 16, .int x3]) (M1 := ri_M3) (c1 := 0) (s1 := 0) (fun n => rfl) ?_
      refine ri_ev_gf (k := 15) rfl ri_M3_15 rfl ?_
      refine ri_ev_go 1 (pc1 := 14) (L1 := [some (.ref 16), some (.int x2), some (.int x3)]) (st1 := [.int x2, .ref 17, .int x3]) (M1 := ri_M3) (c1 := 0) (s1 := 0) (fun n => rfl) ?_
      refine ri_ev_iald (k := 16) (n := 3) (f := fun _ => 0) (z := 0) rfl ri_M3_16 (ri_rng (n := 3) h3 h4 rfl (Nat.le_of_ble_eq_true rfl)) rfl ?_
      refine ri_ev_cls (M1 := ri_M3) (v := some (.int 1)) _ rfl (Or.inr rfl) rfl (Nat.le_of_ble_eq_true rfl) hc4 ?_
      refine ri_ev_go 2 (pc1 := 26) (L1 := [some (.ref 16), some (.int x2), some (.int x3)]) (st1 := [.int 0]) (M1 := ri_M3) (c1 := 0) (s1 := 0) (fun n => rfl) ?_
      exact ri_ev_ret (fun n => rfl)
    refine ri_ev_call (N := 18) (L := [some (.ref 1), some (.int x1), some (.int x2), some (.int x3), some (.int x4)]) rfl (Nat.le_of_ble_eq_true rfl) ?_
    refine ri_ev_go 2 (pc1 := 3) (L1 := [some (.ref 1), some (.int x1), some (.int x2), some (.int x3), some (.int x4)]) (st1 := [.int 6, .int x1]) (M1 := ri_M3) (c1 := 0) (s1 := 0) (fun n => rfl) ?_
    refine ri_ev_cls (M1 := ri_M3) (v := some (.int 0)) _ rfl (Or.inl rfl) rfl (Nat.le_of_ble_eq_true rfl) hc1 ?_
    refine ri_ev_go 2 (pc1 := 10) (L1 := [some (.ref 1), some (.int x1), some (.int x2), some (.int x3), some (.int x4)]) (st1 := [.ref 1]) (M1 := ri_M3) (c1 := 0) (s1 := 0) (fun n => rfl) ?_
    refine ri_ev_gf (k := 0) rfl ri_M3_0 rfl ?_
    refine ri_ev_go 1 (pc1 := 14) (L1 := [some (.ref 1), some (.int x1), some (.int x2), some (.int x3), some (.int x4)]) (st1 := [.int x1, .ref 15]) (M1 := ri_M3) (c1 := 0) (s1 := 0) (fun n => rfl) ?_
    refine ri_ev_clv (k := 14) (M1 := ri_M3) (v := some (.int 9)) _ rfl rfl ri_M3_14 rfl (Nat.le_of_ble_eq_true rfl) hc2 ?_
    refine ri_ev_go 2 (pc1 := 23) (L1 := [some (.ref 1), some (.int x1), some (.int x2), some (.int x3), some (.int x4)]) (st1 := [.ref 1]) (M1 := ri_M3) (c1 := 0) (s1 := 0) (fun n => rfl) ?_
    refine ri_ev_gf (k := 0) rfl ri_M3_0 rfl ?_
    refine ri_ev_gf (k := 14) rfl ri_M3_14 rfl ?_
    refine ri_ev_go 2 (pc1 := 31) (L1 := [some (.ref 1), some (.int x1), some (.int x2), some (.int x3), some (.int x4)]) (st1 := [.int x3, .int x2, .ref 16]) (M1 := ri_M3) (c1 := 0) (s1 := 0) (fun n => rfl) ?_
    refine ri_ev_clv (k := 15) (M1 := ri_M3) (v := some (.int 0)) _ rfl rfl ri_M3_15 rfl (Nat.le_of_ble_eq_true rfl) hc5 ?_
    refine ri_ev_go 2 (pc1 := 60) (L1 := [some (.ref 1), some (.int x1), some (.int x2), some (.int x3), some (.int x4)]) (st1 := [.int (-1)]) (M1 := ri_M3) (c1 := 0) (s1 := 0) (fun n => rfl) ?_
    exact ri_ev_ret (fun n => rfl)
  have hc11 : ri_c 19 224 [.ref 153, .int x1, .int x2, .int x3, .int x4] ri_M3 = some (some (.int (-1)), ri_M3, 0, 0) := by
    have hc7 : ri_c 18 214 [.int x1] ri_M3 = some (some (.int 1), ri_M3, 0, 0) := by
      refine ri_ev_call (N := 8) (L := [some (.int x1)]) rfl (Nat.le_of_ble_eq_true rfl) ?_
      refine ri_ev_go 1 (pc1 := 1) (L1 := [some (.int x1)]) (st1 := [.int x1]) (M1 := ri_M3) (c1 := 0) (s1 := 0) (fun n => rfl) ?_
      refine ri_iz_lt_f rfl h1 ?_
      refine ri_ev_go 2 (pc1 := 7) (L1 := [some (.int x1)]) (st1 := [.int 6, .int x1]) (M1 := ri_M3) (c1 := 0) (s1 := 0) (fun n => rfl) ?_
      refine ri_ic_ge_f rfl (Int32.not_le.mpr h2) ?_
      refine ri_ev_go 2 (pc1 := 15) (L1 := [some (.int x1)]) (st1 := [.int 1]) (M1 := ri_M3) (c1 := 0) (s1 := 0) (fun n => rfl) ?_
      exact ri_ev_ret (fun n => rfl)
    have hc10 : ri_c 18 212 [.ref 153, .int x2, .int x3] ri_M3 = some (some (.int 0), ri_M3, 0, 0) := by
      have hc9 : ri_c 17 211 [.ref 153, .int x2] ri_M3 = some (some (.int 0), ri_M3, 0, 0) := by
        have hc8 : ri_c 16 209 [.ref 153] ri_M3 = some (some (.int 0), ri_M3, 0, 0) := by
          refine ri_ev_call (N := 7) (L := [some (.ref 153)]) rfl (Nat.le_of_ble_eq_true rfl) ?_
          refine ri_ev_go 1 (pc1 := 1) (L1 := [some (.ref 153)]) (st1 := [.ref 153]) (M1 := ri_M3) (c1 := 0) (s1 := 0) (fun n => rfl) ?_
          refine ri_ev_gf (k := 152) rfl ri_M3_152 rfl ?_
          refine ri_ev_go 1 (pc1 := 5) (L1 := [some (.ref 153)]) (st1 := [.int 0, .ref 164]) (M1 := ri_M3) (c1 := 0) (s1 := 0) (fun n => rfl) ?_
          refine ri_ev_iald (k := 163) (z := 0) rfl ri_M3_163 (by decide) rfl ?_
          refine ri_ev_go 2 (pc1 := 14) (L1 := [some (.ref 153)]) (st1 := [.int 0]) (M1 := ri_M3) (c1 := 0) (s1 := 0) (fun n => rfl) ?_
          exact ri_ev_ret (fun n => rfl)
        refine ri_ev_call (N := 5) (L := [some (.ref 153), some (.int x2)]) rfl (Nat.le_of_ble_eq_true rfl) ?_
        refine ri_ev_go 1 (pc1 := 1) (L1 := [some (.ref 153), some (.int x2)]) (st1 := [.ref 153]) (M1 := ri_M3) (c1 := 0) (s1 := 0) (fun n => rfl) ?_
        refine ri_ev_clv (k := 152) (M1 := ri_M3) (v := some (.int 0)) _ rfl rfl ri_M3_152 rfl (Nat.le_of_ble_eq_true rfl) hc8 ?_
        refine ri_ev_go 2 (pc1 := 24) (L1 := [some (.ref 153), some (.int x2)]) (st1 := [.int 0]) (M1 := ri_M3) (c1 := 0) (s1 := 0) (fun n => rfl) ?_
        exact ri_ev_ret (fun n => rfl)
      refine ri_ev_call (N := 6) (L := [some (.ref 153), some (.int x2), some (.int x3)]) rfl (Nat.le_of_ble_eq_true rfl) ?_
      refine ri_ev_go 2 (pc1 := 2) (L1 := [some (.ref 153), some (.int x2), some (.int x3)]) (st1 := [.int x2, .ref 153]) (M1 := ri_M3) (c1 := 0) (s1 := 0) (fun n => rfl) ?_
      refine ri_ev_clv (k := 152) (M1 := ri_M3) (v := some (.int 0)) _ rfl rfl ri_M3_152 rfl (Nat.le_of_ble_eq_true rfl) hc9 ?_
      refine ri_ev_go 2 (pc1 := 27) (L1 := [some (.ref 153), some (.int x2), some (.int x3)]) (st1 := [.int 0]) (M1 := ri_M3) (c1 := 0) (s1 := 0) (fun n => rfl) ?_
      exact ri_ev_ret (fun n => rfl)
    refine ri_ev_call (N := 16) (L := [some (.ref 153), some (.int x1), some (.int x2), some (.int x3), some (.int x4), none]) rfl (Nat.le_of_ble_eq_true rfl) ?_
    refine ri_ev_go 1 (pc1 := 1) (L1 := [some (.ref 153), some (.int x1), some (.int x2), some (.int x3), some (.int x4), none]) (st1 := [.ref 153]) (M1 := ri_M3) (c1 := 0) (s1 := 0) (fun n => rfl) ?_
    refine ri_ev_gf (k := 152) rfl ri_M3_152 rfl ?_
    refine ri_ev_go 1 (pc1 := 5) (L1 := [some (.ref 153), some (.int x1), some (.int x2), some (.int x3), some (.int x4), none]) (st1 := [.int 3, .ref 164]) (M1 := ri_M3) (c1 := 0) (s1 := 0) (fun n => rfl) ?_
    refine ri_ev_iald (k := 163) (z := 0) rfl ri_M3_163 (by decide) rfl ?_
    refine ri_ev_go 3 (pc1 := 12) (L1 := [some (.ref 153), some (.int x1), some (.int x2), some (.int x3), some (.int x4), none]) (st1 := [.int x1]) (M1 := ri_M3) (c1 := 0) (s1 := 0) (fun n => rfl) ?_
    refine ri_ev_cls (M1 := ri_M3) (v := some (.int 1)) _ rfl (Or.inl rfl) rfl (Nat.le_of_ble_eq_true rfl) hc7 ?_
    refine ri_ev_go 4 (pc1 := 21) (L1 := [some (.ref 153), some (.int x1), some (.int x2), some (.int x3), some (.int x4), none]) (st1 := [.int x3, .int x2, .ref 153]) (M1 := ri_M3) (c1 := 0) (s1 := 0) (fun n => rfl) ?_
    refine ri_ev_clv (k := 152) (M1 := ri_M3) (v := some (.int 0)) _ rfl rfl ri_M3_152 rfl (Nat.le_of_ble_eq_true rfl) hc10 ?_
    refine ri_ev_go 2 (pc1 := 54) (L1 := [some (.ref 153), some (.int x1), some (.int x2), some (.int x3), some (.int x4), none]) (st1 := [.int (-1)]) (M1 := ri_M3) (c1 := 0) (s1 := 0) (fun n => rfl) ?_
    exact ri_ev_ret (fun n => rfl)
  exact ⟨(-1), _, _, _, hc6, ri_M3_152, hc11⟩
set_option maxRecDepth 100000 in
set_option maxHeartbeats 8000000 in
theorem ro_answer_3 (x1 x2 x3 x4 : Int32)  (h1 : ¬ x1 < 0) (h2 : x1 < 6) (h3 : ¬ x2 < 0) (h4 : x2 < 3) (h5 : x3 < 0) : ri_eqi 109 224 [.int x1, .int x2, .int x3, .int x4] := by
  have hc6 : ri_c 19 109 [.ref 1, .int x1, .int x2, .int x3, .int x4] ri_M3 = some (some (.int (-1)), ri_M3, 0, 0) := by
    have hc1 : ri_c 18 142 [.int x1, .int 6] ri_M3 = some (some (.int 0), ri_M3, 0, 0) := by
      refine ri_ev_call (N := 7) (L := [some (.int x1), some (.int 6)]) rfl (Nat.le_of_ble_eq_true rfl) ?_
      refine ri_ev_go 1 (pc1 := 1) (L1 := [some (.int x1), some (.int 6)]) (st1 := [.int x1]) (M1 := ri_M3) (c1 := 0) (s1 := 0) (fun n => rfl) ?_
      refine ri_iz_lt_f rfl h1 ?_
      refine ri_ev_go 2 (pc1 := 6) (L1 := [some (.int x1), some (.int 6)]) (st1 := [.int 6, .int x1]) (M1 := ri_M3) (c1 := 0) (s1 := 0) (fun n => rfl) ?_
      refine ri_ic_lt_t (t := 13) rfl h2 rfl ?_
      refine ri_ev_go 1 (pc1 := 14) (L1 := [some (.int x1), some (.int 6)]) (st1 := [.int 0]) (M1 := ri_M3) (c1 := 0) (s1 := 0) (fun n => rfl) ?_
      exact ri_ev_ret (fun n => rfl)
    have hc2 : ri_c 18 21 [.ref 15, .int x1] ri_M3 = some (some (.int 9), ri_M3, 0, 0) := by
      refine ri_ev_call (N := 17) (L := [some (.ref 15), some (.int x1), none, none]) rfl (Nat.le_of_ble_eq_true rfl) ?_
      refine ri_ev_go 6 (pc1 := 6) (L1 := [some (.ref 15), some (.int x1), some (.int 0), some (.int 0)]) (st1 := [.ref 15, .int 0]) (M1 := ri_M3) (c1 := 0) (s1 := 0) (fun n => rfl) ?_
      refine ri_ev_gf (k := 14) rfl ri_M3_14 rfl ?_
      refine ri_ev_go 6 (pc1 := 40) (L1 := [some (.ref 15), some (.int x1), some (.int 0), some (.int 0)]) (st1 := [.ref 15, .int 40, .int 9]) (M1 := ri_M3) (c1 := 0) (s1 := 0) (fun n => rfl) ?_
      refine ri_ev_gf (k := 14) rfl ri_M3_14 rfl ?_
      refine ri_ev_go 2 (pc1 := 47) (L1 := [some (.ref 15), some (.int x1), some (.int 0), some (.int 0)]) (st1 := [.int 9]) (M1 := ri_M3) (c1 := 0) (s1 := 0) (fun n => rfl) ?_
      exact ri_ev_ret (fun n => rfl)
    have hc5 : ri_c 18 8 [.ref 16, .int x2, .int x3] ri_M3 = some (some (.int 0), ri_M3, 0, 0) := by
      have hc3 : ri_c 17 142 [.int x2, .int 3] ri_M3 = some (some (.int 0), ri_M3, 0, 0) := by
        refine ri_ev_call (N := 7) (L := [some (.int x2), some (.int 3)]) rfl (Nat.le_of_ble_eq_true rfl) ?_
        refine ri_ev_go 1 (pc1 := 1) (L1 := [some (.int x2), some (.int 3)]) (st1 := [.int x2]) (M1 := ri_M3) (c1 := 0) (s1 := 0) (fun n => rfl) ?_
        refine ri_iz_lt_f rfl h3 ?_
        refine ri_ev_go 2 (pc1 := 6) (L1 := [some (.int x2), some (.int 3)]) (st1 := [.int 3, .int x2]) (M1 := ri_M3) (c1 := 0) (s1 := 0) (fun n => rfl) ?_
        refine ri_ic_lt_t (t := 13) rfl h4 rfl ?_
        refine ri_ev_go 1 (pc1 := 14) (L1 := [some (.int x2), some (.int 3)]) (st1 := [.int 0]) (M1 := ri_M3) (c1 := 0) (s1 := 0) (fun n => rfl) ?_
        exact ri_ev_ret (fun n => rfl)
      have hc4 : ri_c 17 142 [.int x3, .int 0] ri_M3 = some (some (.int 1), ri_M3, 0, 0) := by
        refine ri_ev_call (N := 5) (L := [some (.int x3), some (.int 0)]) rfl (Nat.le_of_ble_eq_true rfl) ?_
        refine ri_ev_go 1 (pc1 := 1) (L1 := [some (.int x3), some (.int 0)]) (st1 := [.int x3]) (M1 := ri_M3) (c1 := 0) (s1 := 0) (fun n => rfl) ?_
        refine ri_iz_lt_t (t := 9) rfl h5 rfl ?_
        refine ri_ev_go 2 (pc1 := 14) (L1 := [some (.int x3), some (.int 0)]) (st1 := [.int 1]) (M1 := ri_M3) (c1 := 0) (s1 := 0) (fun n => rfl) ?_
        exact ri_ev_ret (fun n => rfl)
      refine ri_ev_call (N := 13) (L := [some (.ref 16), some (.int x2), some (.int x3)]) rfl (Nat.le_of_ble_eq_true rfl) ?_
      refine ri_ev_go 2 (pc1 := 2) (L1 := [some (.ref 16), some (.int x2), some (.int x3)]) (st1 := [.int 3, .int x2]) (M1 := ri_M3) (c1 := 0) (s1 := 0) (fun n => rfl) ?_
      refine ri_ev_cls (M1 := ri_M3) (v := some (.int 0)) _ rfl (Or.inr rfl) rfl (Nat.le_of_ble_eq_true rfl) hc3 ?_
      refine ri_ev_go 3 (pc1 := 10) (L1 := [some (.ref 16), some (.int x2), some (.int x3)]) (st1 := [.ref 16, .int x3]) (M1 := ri_M3) (c1 := 0) (s1 := 0) (fun n => rfl) ?_
      refine ri_ev_gf (k := 15) rfl ri_M3_15 rfl ?_
      refine ri_ev_go 1 (pc1 := 14) (L1 := [some (.ref 16), some (.int x2), some (.int x3)]) (st1 := [.int x2, .ref 17, .int x3]) (M1 := ri_M3) (c1 := 0) (s1 := 0) (fun n => rfl) ?_
      refine ri_ev_iald (k := 16) (n := 3) (f := fun _ => 0) (z := 0) rfl ri_M3_16 (ri_rng (n := 3) h3 h4 rfl (Nat.le_of_ble_eq_true rfl)) rfl ?_
      refine ri_ev_cls (M1 := ri_M3) (v := some (.int 1)) _ rfl (Or.inr rfl) rfl (Nat.le_of_ble_eq_true rfl) hc4 ?_
      refine ri_ev_go 2 (pc1 := 26) (L1 := [some (.ref 16), some (.int x2), some (.int x3)]) (st1 := [.int 0]) (M1 := ri_M3) (c1 := 0) (s1 := 0) (fun n => rfl) ?_
      exact ri_ev_ret (fun n => rfl)
    refine ri_ev_call (N := 18) (L := [some (.ref 1), some (.int x1), some (.int x2), some (.int x3), some (.int x4)]) rfl (Nat.le_of_ble_eq_true rfl) ?_
    refine ri_ev_go 2 (pc1 := 3) (L1 := [some (.ref 1), some (.int x1), some (.int x2), some (.int x3), some (.int x4)]) (st1 := [.int 6, .int x1]) (M1 := ri_M3) (c1 := 0) (s1 := 0) (fun n => rfl) ?_
    refine ri_ev_cls (M1 := ri_M3) (v := some (.int 0)) _ rfl (Or.inl rfl) rfl (Nat.le_of_ble_eq_true rfl) hc1 ?_
    refine ri_ev_go 2 (pc1 := 10) (L1 := [some (.ref 1), some (.int x1), some (.int x2), some (.int x3), some (.int x4)]) (st1 := [.ref 1]) (M1 := ri_M3) (c1 := 0) (s1 := 0) (fun n => rfl) ?_
    refine ri_ev_gf (k := 0) rfl ri_M3_0 rfl ?_
    refine ri_ev_go 1 (pc1 := 14) (L1 := [some (.ref 1), some (.int x1), some (.int x2), some (.int x3), some (.int x4)]) (st1 := [.int x1, .ref 15]) (M1 := ri_M3) (c1 := 0) (s1 := 0) (fun n => rfl) ?_
    refine ri_ev_clv (k := 14) (M1 := ri_M3) (v := some (.int 9)) _ rfl rfl ri_M3_14 rfl (Nat.le_of_ble_eq_true rfl) hc2 ?_
    refine ri_ev_go 2 (pc1 := 23) (L1 := [some (.ref 1), some (.int x1), some (.int x2), some (.int x3), some (.int x4)]) (st1 := [.ref 1]) (M1 := ri_M3) (c1 := 0) (s1 := 0) (fun n => rfl) ?_
    refine ri_ev_gf (k := 0) rfl ri_M3_0 rfl ?_
    refine ri_ev_gf (k := 14) rfl ri_M3_14 rfl ?_
    refine ri_ev_go 2 (pc1 := 31) (L1 := [some (.ref 1), some (.int x1), some (.int x2), some (.int x3), some (.int x4)]) (st1 := [.int x3, .int x2, .ref 16]) (M1 := ri_M3) (c1 := 0) (s1 := 0) (fun n => rfl) ?_
    refine ri_ev_clv (k := 15) (M1 := ri_M3) (v := some (.int 0)) _ rfl rfl ri_M3_15 rfl (Nat.le_of_ble_eq_true rfl) hc5 ?_
    refine ri_ev_go 2 (pc1 := 60) (L1 := [some (.ref 1), some (.int x1), some (.int x2), some (.int x3), some (.int x4)]) (st1 := [.int (-1)]) (M1 := ri_M3) (c1 := 0) (s1 := 0) (fun n => rfl) ?_
    exact ri_ev_ret (fun n => rfl)
  have hc11 : ri_c 19 224 [.ref 153, .int x1, .int x2, .int x3, .int x4] ri_M3 = some (some (.int (-1)), ri_M3, 0, 0) := by
    have hc7 : ri_c 18 214 [.int x1] ri_M3 = some (some (.int 1), ri_M3, 0, 0) := by
      refine ri_ev_call (N := 8) (L := [some (.int x1)]) rfl (Nat.le_of_ble_eq_true rfl) ?_
      refine ri_ev_go 1 (pc1 := 1) (L1 := [some (.int x1)]) (st1 := [.int x1]) (M1 := ri_M3) (c1 := 0) (s1 := 0) (fun n => rfl) ?_
      refine ri_iz_lt_f rfl h1 ?_
      refine ri_ev_go 2 (pc1 := 7) (L1 := [some (.int x1)]) (st1 := [.int 6, .int x1]) (M1 := ri_M3) (c1 := 0) (s1 := 0) (fun n => rfl) ?_
      refine ri_ic_ge_f rfl (Int32.not_le.mpr h2) ?_
      refine ri_ev_go 2 (pc1 := 15) (L1 := [some (.int x1)]) (st1 := [.int 1]) (M1 := ri_M3) (c1 := 0) (s1 := 0) (fun n => rfl) ?_
      exact ri_ev_ret (fun n => rfl)
    have hc10 : ri_c 18 212 [.ref 153, .int x2, .int x3] ri_M3 = some (some (.int 0), ri_M3, 0, 0) := by
      have hc9 : ri_c 17 211 [.ref 153, .int x2] ri_M3 = some (some (.int 0), ri_M3, 0, 0) := by
        have hc8 : ri_c 16 209 [.ref 153] ri_M3 = some (some (.int 0), ri_M3, 0, 0) := by
          refine ri_ev_call (N := 7) (L := [some (.ref 153)]) rfl (Nat.le_of_ble_eq_true rfl) ?_
          refine ri_ev_go 1 (pc1 := 1) (L1 := [some (.ref 153)]) (st1 := [.ref 153]) (M1 := ri_M3) (c1 := 0) (s1 := 0) (fun n => rfl) ?_
          refine ri_ev_gf (k := 152) rfl ri_M3_152 rfl ?_
          refine ri_ev_go 1 (pc1 := 5) (L1 := [some (.ref 153)]) (st1 := [.int 0, .ref 164]) (M1 := ri_M3) (c1 := 0) (s1 := 0) (fun n => rfl) ?_
          refine ri_ev_iald (k := 163) (z := 0) rfl ri_M3_163 (by decide) rfl ?_
          refine ri_ev_go 2 (pc1 := 14) (L1 := [some (.ref 153)]) (st1 := [.int 0]) (M1 := ri_M3) (c1 := 0) (s1 := 0) (fun n => rfl) ?_
          exact ri_ev_ret (fun n => rfl)
        refine ri_ev_call (N := 5) (L := [some (.ref 153), some (.int x2)]) rfl (Nat.le_of_ble_eq_true rfl) ?_
        refine ri_ev_go 1 (pc1 := 1) (L1 := [some (.ref 153), some (.int x2)]) (st1 := [.ref 153]) (M1 := ri_M3) (c1 := 0) (s1 := 0) (fun n => rfl) ?_
        refine ri_ev_clv (k := 152) (M1 := ri_M3) (v := some (.int 0)) _ rfl rfl ri_M3_152 rfl (Nat.le_of_ble_eq_true rfl) hc8 ?_
        refine ri_ev_go 2 (pc1 := 24) (L1 := [some (.ref 153), some (.int x2)]) (st1 := [.int 0]) (M1 := ri_M3) (c1 := 0) (s1 := 0) (fun n => rfl) ?_
        exact ri_ev_ret (fun n => rfl)
      refine ri_ev_call (N := 6) (L := [some (.ref 153), some (.int x2), some (.int x3)]) rfl (Nat.le_of_ble_eq_true rfl) ?_
      refine ri_ev_go 2 (pc1 := 2) (L1 := [some (.ref 153), some (.int x2), some (.int x3)]) (st1 := [.int x2, .ref 153]) (M1 := ri_M3) (c1 := 0) (s1 := 0) (fun n => rfl) ?_
      refine ri_ev_clv (k := 152) (M1 := ri_M3) (v := some (.int 0)) _ rfl rfl ri_M3_152 rfl (Nat.le_of_ble_eq_true rfl) hc9 ?_
      refine ri_ev_go 2 (pc1 := 27) (L1 := [some (.ref 153), some (.int x2), some (.int x3)]) (st1 := [.int 0]) (M1 := ri_M3) (c1 := 0) (s1 := 0) (fun n => rfl) ?_
      exact ri_ev_ret (fun n => rfl)
    refine ri_ev_call (N := 16) (L := [some (.ref 153), some (.int x1), some (.int x2), some (.int x3), some (.int x4), none]) rfl (Nat.le_of_ble_eq_true rfl) ?_
    refine ri_ev_go 1 (pc1 := 1) (L1 := [some (.ref 153), some (.int x1), some (.int x2), some (.int x3), some (.int x4), none]) (st1 := [.ref 153]) (M1 := ri_M3) (c1 := 0) (s1 := 0) (fun n => rfl) ?_
    refine ri_ev_gf (k := 152) rfl ri_M3_152 rfl ?_
    refine ri_ev_go 1 (pc1 := 5) (L1 := [some (.ref 153), some (.int x1), some (.int x2), some (.int x3), some (.int x4), none]) (st1 := [.int 3, .ref 164]) (M1 := ri_M3) (c1 := 0) (s1 := 0) (fun n => rfl) ?_
    refine ri_ev_iald (k := 163) (z := 0) rfl ri_M3_163 (by decide) rfl ?_
    refine ri_ev_go 3 (pc1 := 12) (L1 := [some (.ref 153), some (.int x1), some (.int x2), some (.int x3), some (.int x4), none]) (st1 := [.int x1]) (M1 := ri_M3) (c1 := 0) (s1 := 0) (fun n => rfl) ?_
    refine ri_ev_cls (M1 := ri_M3) (v := some (.int 1)) _ rfl (Or.inl rfl) rfl (Nat.le_of_ble_eq_true rfl) hc7 ?_
    refine ri_ev_go 4 (pc1 := 21) (L1 := [some (.ref 153), some (.int x1), some (.int x2), some (.int x3), some (.int x4), none]) (st1 := [.int x3, .int x2, .ref 153]) (M1 := ri_M3) (c1 := 0) (s1 := 0) (fun n => rfl) ?_
    refine ri_ev_clv (k := 152) (M1 := ri_M3) (v := some (.int 0)) _ rfl rfl ri_M3_152 rfl (Nat.le_of_ble_eq_true rfl) hc10 ?_
    refine ri_ev_go 2 (pc1 := 54) (L1 := [some (.ref 153), some (.int x1), some (.int x2), some (.int x3), some (.int x4), none]) (st1 := [.int (-1)]) (M1 := ri_M3) (c1 := 0) (s1 := 0) (fun n => rfl) ?_
    exact ri_ev_ret (fun n => rfl)
  exact ⟨(-1), _, _, _, hc6, ri_M3_152, hc11⟩
set_option maxRecDepth 100000 in
set_option maxHeartbeats 8000000 in
theorem ro_answer_4 (x1 x2 x3 x4 : Int32)  (h1 : ¬ x1 < 0) (h2 : x1 < 6) (h3 : x2 < 0) : ri_eqi 109 224 [.int x1, .int x2, .int x3, .int x4] := by
  have hc5 : ri_c 19 109 [.ref 1, .int x1, .int x2, .int x3, .int x4] ri_M3 = some (some (.int (-1)), ri_M3, 0, 0) := by
    have hc1 : ri_c 18 142 [.int x1, .int 6] ri_M3 = some (some (.int 0), ri_M3, 0, 0) := by
      refine ri_ev_call (N := 7) (L := [some (.int x1), some (.int 6)]) rfl (Nat.le_of_ble_eq_true rfl) ?_
      refine ri_ev_go 1 (pc1 := 1) (L1 := [some (.int x1), some (.int 6)]) (st1 := [.int x1]) (M1 := ri_M3) (c1 := 0) (s1 := 0) (fun n => rfl) ?_
      refine ri_iz_lt_f rfl h1 ?_
      refine ri_ev_go 2 (pc1 := 6) (L1 := [some (.int x1), some (.int 6)]) (st1 := [.int 6, .int x1]) (M1 := ri_M3) (c1 := 0) (s1 := 0) (fun n => rfl) ?_
      refine ri_ic_lt_t (t := 13) rfl h2 rfl ?_
      refine ri_ev_go 1 (pc1 := 14) (L1 := [some (.int x1), some (.int 6)]) (st1 := [.int 0]) (M1 := ri_M3) (c1 := 0) (s1 := 0) (fun n => rfl) ?_
      exact ri_ev_ret (fun n => rfl)
    have hc2 : ri_c 18 21 [.ref 15, .int x1] ri_M3 = some (some (.int 9), ri_M3, 0, 0) := by
      refine ri_ev_call (N := 17) (L := [some (.ref 15), some (.int x1), none, none]) rfl (Nat.le_of_ble_eq_true rfl) ?_
      refine ri_ev_go 6 (pc1 := 6) (L1 := [some (.ref 15), some (.int x1), some (.int 0), some (.int 0)]) (st1 := [.ref 15, .int 0]) (M1 := ri_M3) (c1 := 0) (s1 := 0) (fun n => rfl) ?_
      refine ri_ev_gf (k := 14) rfl ri_M3_14 rfl ?_
      refine ri_ev_go 6 (pc1 := 40) (L1 := [some (.ref 15), some (.int x1), some (.int 0), some (.int 0)]) (st1 := [.ref 15, .int 40, .int 9]) (M1 := ri_M3) (c1 := 0) (s1 := 0) (fun n => rfl) ?_
      refine ri_ev_gf (k := 14) rfl ri_M3_14 rfl ?_
      refine ri_ev_go 2 (pc1 := 47) (L1 := [some (.ref 15), some (.int x1), some (.int 0), some (.int 0)]) (st1 := [.int 9]) (M1 := ri_M3) (c1 := 0) (s1 := 0) (fun n => rfl) ?_
      exact ri_ev_ret (fun n => rfl)
    have hc4 : ri_c 18 8 [.ref 16, .int x2, .int x3] ri_M3 = some (some (.int 0), ri_M3, 0, 0) := by
      have hc3 : ri_c 17 142 [.int x2, .int 3] ri_M3 = some (some (.int 1), ri_M3, 0, 0) := by
        refine ri_ev_call (N := 5) (L := [some (.int x2), some (.int 3)]) rfl (Nat.le_of_ble_eq_true rfl) ?_
        refine ri_ev_go 1 (pc1 := 1) (L1 := [some (.int x2), some (.int 3)]) (st1 := [.int x2]) (M1 := ri_M3) (c1 := 0) (s1 := 0) (fun n => rfl) ?_
        refine ri_iz_lt_t (t := 9) rfl h3 rfl ?_
        refine ri_ev_go 2 (pc1 := 14) (L1 := [some (.int x2), some (.int 3)]) (st1 := [.int 1]) (M1 := ri_M3) (c1 := 0) (s1 := 0) (fun n => rfl) ?_
        exact ri_ev_ret (fun n => rfl)
      refine ri_ev_call (N := 6) (L := [some (.ref 16), some (.int x2), some (.int x3)]) rfl (Nat.le_of_ble_eq_true rfl) ?_
      refine ri_ev_go 2 (pc1 := 2) (L1 := [some (.ref 16), some (.int x2), some (.int x3)]) (st1 := [.int 3, .int x2]) (M1 := ri_M3) (c1 := 0) (s1 := 0) (fun n => rfl) ?_
      refine ri_ev_cls (M1 := ri_M3) (v := some (.int 1)) _ rfl (Or.inr rfl) rfl (Nat.le_of_ble_eq_true rfl) hc3 ?_
      refine ri_ev_go 2 (pc1 := 26) (L1 := [some (.ref 16), some (.int x2), some (.int x3)]) (st1 := [.int 0]) (M1 := ri_M3) (c1 := 0) (s1 := 0) (fun n => rfl) ?_
      exact ri_ev_ret (fun n => rfl)
    refine ri_ev_call (N := 18) (L := [some (.ref 1), some (.int x1), some (.int x2), some (.int x3), some (.int x4)]) rfl (Nat.le_of_ble_eq_true rfl) ?_
    refine ri_ev_go 2 (pc1 := 3) (L1 := [some (.ref 1), some (.int x1), some (.int x2), some (.int x3), some (.int x4)]) (st1 := [.int 6, .int x1]) (M1 := ri_M3) (c1 := 0) (s1 := 0) (fun n => rfl) ?_
    refine ri_ev_cls (M1 := ri_M3) (v := some (.int 0)) _ rfl (Or.inl rfl) rfl (Nat.le_of_ble_eq_true rfl) hc1 ?_
    refine ri_ev_go 2 (pc1 := 10) (L1 := [some (.ref 1), some (.int x1), some (.int x2), some (.int x3), some (.int x4)]) (st1 := [.ref 1]) (M1 := ri_M3) (c1 := 0) (s1 := 0) (fun n => rfl) ?_
    refine ri_ev_gf (k := 0) rfl ri_M3_0 rfl ?_
    refine ri_ev_go 1 (pc1 := 14) (L1 := [some (.ref 1), some (.int x1), some (.int x2), some (.int x3), some (.int x4)]) (st1 := [.int x1, .ref 15]) (M1 := ri_M3) (c1 := 0) (s1 := 0) (fun n => rfl) ?_
    refine ri_ev_clv (k := 14) (M1 := ri_M3) (v := some (.int 9)) _ rfl rfl ri_M3_14 rfl (Nat.le_of_ble_eq_true rfl) hc2 ?_
    refine ri_ev_go 2 (pc1 := 23) (L1 := [some (.ref 1), some (.int x1), some (.int x2), some (.int x3), some (.int x4)]) (st1 := [.ref 1]) (M1 := ri_M3) (c1 := 0) (s1 := 0) (fun n => rfl) ?_
    refine ri_ev_gf (k := 0) rfl ri_M3_0 rfl ?_
    refine ri_ev_gf (k := 14) rfl ri_M3_14 rfl ?_
    refine ri_ev_go 2 (pc1 := 31) (L1 := [some (.ref 1), some (.int x1), some (.int x2), some (.int x3), some (.int x4)]) (st1 := [.int x3, .int x2, .ref 16]) (M1 := ri_M3) (c1 := 0) (s1 := 0) (fun n => rfl) ?_
    refine ri_ev_clv (k := 15) (M1 := ri_M3) (v := some (.int 0)) _ rfl rfl ri_M3_15 rfl (Nat.le_of_ble_eq_true rfl) hc4 ?_
    refine ri_ev_go 2 (pc1 := 60) (L1 := [some (.ref 1), some (.int x1), some (.int x2), some (.int x3), some (.int x4)]) (st1 := [.int (-1)]) (M1 := ri_M3) (c1 := 0) (s1 := 0) (fun n => rfl) ?_
    exact ri_ev_ret (fun n => rfl)
  have hc10 : ri_c 19 224 [.ref 153, .int x1, .int x2, .int x3, .int x4] ri_M3 = some (some (.int (-1)), ri_M3, 0, 0) := by
    have hc6 : ri_c 18 214 [.int x1] ri_M3 = some (some (.int 1), ri_M3, 0, 0) := by
      refine ri_ev_call (N := 8) (L := [some (.int x1)]) rfl (Nat.le_of_ble_eq_true rfl) ?_
      refine ri_ev_go 1 (pc1 := 1) (L1 := [some (.int x1)]) (st1 := [.int x1]) (M1 := ri_M3) (c1 := 0) (s1 := 0) (fun n => rfl) ?_
      refine ri_iz_lt_f rfl h1 ?_
      refine ri_ev_go 2 (pc1 := 7) (L1 := [some (.int x1)]) (st1 := [.int 6, .int x1]) (M1 := ri_M3) (c1 := 0) (s1 := 0) (fun n => rfl) ?_
      refine ri_ic_ge_f rfl (Int32.not_le.mpr h2) ?_
      refine ri_ev_go 2 (pc1 := 15) (L1 := [some (.int x1)]) (st1 := [.int 1]) (M1 := ri_M3) (c1 := 0) (s1 := 0) (fun n => rfl) ?_
      exact ri_ev_ret (fun n => rfl)
    have hc9 : ri_c 18 212 [.ref 153, .int x2, .int x3] ri_M3 = some (some (.int 0), ri_M3, 0, 0) := by
      have hc8 : ri_c 17 211 [.ref 153, .int x2] ri_M3 = some (some (.int 0), ri_M3, 0, 0) := by
        have hc7 : ri_c 16 209 [.ref 153] ri_M3 = some (some (.int 0), ri_M3, 0, 0) := by
          refine ri_ev_call (N := 7) (L := [some (.ref 153)]) rfl (Nat.le_of_ble_eq_true rfl) ?_
          refine ri_ev_go 1 (pc1 := 1) (L1 := [some (.ref 153)]) (st1 := [.ref 153]) (M1 := ri_M3) (c1 := 0) (s1 := 0) (fun n => rfl) ?_
          refine ri_ev_gf (k := 152) rfl ri_M3_152 rfl ?_
          refine ri_ev_go 1 (pc1 := 5) (L1 := [some (.ref 153)]) (st1 := [.int 0, .ref 164]) (M1 := ri_M3) (c1 := 0) (s1 := 0) (fun n => rfl) ?_
          refine ri_ev_iald (k := 163) (z := 0) rfl ri_M3_163 (by decide) rfl ?_
          refine ri_ev_go 2 (pc1 := 14) (L1 := [some (.ref 153)]) (st1 := [.int 0]) (M1 := ri_M3) (c1 := 0) (s1 := 0) (fun n => rfl) ?_
          exact ri_ev_ret (fun n => rfl)
        refine ri_ev_call (N := 5) (L := [some (.ref 153), some (.int x2)]) rfl (Nat.le_of_ble_eq_true rfl) ?_
        refine ri_ev_go 1 (pc1 := 1) (L1 := [some (.ref 153), some (.int x2)]) (st1 := [.ref 153]) (M1 := ri_M3) (c1 := 0) (s1 := 0) (fun n => rfl) ?_
        refine ri_ev_clv (k := 152) (M1 := ri_M3) (v := some (.int 0)) _ rfl rfl ri_M3_152 rfl (Nat.le_of_ble_eq_true rfl) hc7 ?_
        refine ri_ev_go 2 (pc1 := 24) (L1 := [some (.ref 153), some (.int x2)]) (st1 := [.int 0]) (M1 := ri_M3) (c1 := 0) (s1 := 0) (fun n => rfl) ?_
        exact ri_ev_ret (fun n => rfl)
      refine ri_ev_call (N := 6) (L := [some (.ref 153), some (.int x2), some (.int x3)]) rfl (Nat.le_of_ble_eq_true rfl) ?_
      refine ri_ev_go 2 (pc1 := 2) (L1 := [some (.ref 153), some (.int x2), some (.int x3)]) (st1 := [.int x2, .ref 153]) (M1 := ri_M3) (c1 := 0) (s1 := 0) (fun n => rfl) ?_
      refine ri_ev_clv (k := 152) (M1 := ri_M3) (v := some (.int 0)) _ rfl rfl ri_M3_152 rfl (Nat.le_of_ble_eq_true rfl) hc8 ?_
      refine ri_ev_go 2 (pc1 := 27) (L1 := [some (.ref 153), some (.int x2), some (.int x3)]) (st1 := [.int 0]) (M1 := ri_M3) (c1 := 0) (s1 := 0) (fun n => rfl) ?_
      exact ri_ev_ret (fun n => rfl)
    refine ri_ev_call (N := 16) (L := [some (.ref 153), some (.int x1), some (.int x2), some (.int x3), some (.int x4), none]) rfl (Nat.le_of_ble_eq_true rfl) ?_
    refine ri_ev_go 1 (pc1 := 1) (L1 := [some (.ref 153), some (.int x1), some (.int x2), some (.int x3), some (.int x4), none]) (st1 := [.ref 153]) (M1 := ri_M3) (c1 := 0) (s1 := 0) (fun n => rfl) ?_
    refine ri_ev_gf (k := 152) rfl ri_M3_152 rfl ?_
    refine ri_ev_go 1 (pc1 := 5) (L1 := [some (.ref 153), some (.int x1), some (.int x2), some (.int x3), some (.int x4), none]) (st1 := [.int 3, .ref 164]) (M1 := ri_M3) (c1 := 0) (s1 := 0) (fun n => rfl) ?_
    refine ri_ev_iald (k := 163) (z := 0) rfl ri_M3_163 (by decide) rfl ?_
    refine ri_ev_go 3 (pc1 := 12) (L1 := [some (.ref 153), some (.int x1), some (.int x2), some (.int x3), some (.int x4), none]) (st1 := [.int x1]) (M1 := ri_M3) (c1 := 0) (s1 := 0) (fun n => rfl) ?_
    refine ri_ev_cls (M1 := ri_M3) (v := some (.int 1)) _ rfl (Or.inl rfl) rfl (Nat.le_of_ble_eq_true rfl) hc6 ?_
    refine ri_ev_go 4 (pc1 := 21) (L1 := [some (.ref 153), some (.int x1), some (.int x2), some (.int x3), some (.int x4), none]) (st1 := [.int x3, .int x2, .ref 153]) (M1 := ri_M3) (c1 := 0) (s1 := 0) (fun n => rfl) ?_
    refine ri_ev_clv (k := 152) (M1 := ri_M3) (v := some (.int 0)) _ rfl rfl ri_M3_152 rfl (Nat.le_of_ble_eq_true rfl) hc9 ?_
    refine ri_ev_go 2 (pc1 := 54) (L1 := [some (.ref 153), some (.int x1), some (.int x2), some (.int x3), some (.int x4), none]) (st1 := [.int (-1)]) (M1 := ri_M3) (c1 := 0) (s1 := 0) (fun n => rfl) ?_
    exact ri_ev_ret (fun n => rfl)
  exact ⟨(-1), _, _, _, hc5, ri_M3_152, hc10⟩
set_option maxRecDepth 100000 in
set_option maxHeartbeats 8000000 in
theorem ro_answer_5 (x1 x2 x3 x4 : Int32)  (h1 : x1 < 0) : ri_eqi 109 224 [.int x1, .int x2, .int x3, .int x4] := by
  have hc2 : ri_c 19 109 [.ref 1, .int x1, .int x2, .int x3, .int x4] ri_M3 = some (some (.int (-1)), ri_M3, 0, 0) := by
    have hc1 : ri_c 18 142 [.int x1, .int 6] ri_M3 = some (some (.int 1), ri_M3, 0, 0) := by
      refine ri_ev_call (N := 5) (L := [some (.int x1), some (.int 6)]) rfl (Nat.le_of_ble_eq_true rfl) ?_
      refine ri_ev_go 1 (pc1 := 1) (L1 := [some (.int x1), some (.int 6)]) (st1 := [.int x1]) (M1 := ri_M3) (c1 := 0) (s1 := 0) (fun n => rfl) ?_
      refine ri_iz_lt_t (t := 9) rfl h1 rfl ?_
      refine ri_ev_go 2 (pc1 := 14) (L1 := [some (.int x1), some (.int 6)]) (st1 := [.int 1]) (M1 := ri_M3) (c1 := 0) (s1 := 0) (fun n => rfl) ?_
      exact ri_ev_ret (fun n => rfl)
    refine ri_ev_call (N := 6) (L := [some (.ref 1), some (.int x1), some (.int x2), some (.int x3), some (.int x4)]) rfl (Nat.le_of_ble_eq_true rfl) ?_
    refine ri_ev_go 2 (pc1 := 3) (L1 := [some (.ref 1), some (.int x1), some (.int x2), some (.int x3), some (.int x4)]) (st1 := [.int 6, .int x1]) (M1 := ri_M3) (c1 := 0) (s1 := 0) (fun n => rfl) ?_
    refine ri_ev_cls (M1 := ri_M3) (v := some (.int 1)) _ rfl (Or.inl rfl) rfl (Nat.le_of_ble_eq_true rfl) hc1 ?_
    refine ri_ev_go 2 (pc1 := 21) (L1 := [some (.ref 1), some (.int x1), some (.int x2), some (.int x3), some (.int x4)]) (st1 := [.int (-1)]) (M1 := ri_M3) (c1 := 0) (s1 := 0) (fun n => rfl) ?_
    exact ri_ev_ret (fun n => rfl)
  have hc4 : ri_c 19 224 [.ref 153, .int x1, .int x2, .int x3, .int x4] ri_M3 = some (some (.int (-1)), ri_M3, 0, 0) := by
    have hc3 : ri_c 18 214 [.int x1] ri_M3 = some (some (.int 0), ri_M3, 0, 0) := by
      refine ri_ev_call (N := 4) (L := [some (.int x1)]) rfl (Nat.le_of_ble_eq_true rfl) ?_
      refine ri_ev_go 1 (pc1 := 1) (L1 := [some (.int x1)]) (st1 := [.int x1]) (M1 := ri_M3) (c1 := 0) (s1 := 0) (fun n => rfl) ?_
      refine ri_iz_lt_t (t := 14) rfl h1 rfl ?_
      refine ri_ev_go 1 (pc1 := 15) (L1 := [some (.int x1)]) (st1 := [.int 0]) (M1 := ri_M3) (c1 := 0) (s1 := 0) (fun n => rfl) ?_
      exact ri_ev_ret (fun n => rfl)
    refine ri_ev_call (N := 11) (L := [some (.ref 153), some (.int x1), some (.int x2), some (.int x3), some (.int x4), none]) rfl (Nat.le_of_ble_eq_true rfl) ?_
    refine ri_ev_go 1 (pc1 := 1) (L1 := [some (.ref 153), some (.int x1), some (.int x2), some (.int x3), some (.int x4), none]) (st1 := [.ref 153]) (M1 := ri_M3) (c1 := 0) (s1 := 0) (fun n => rfl) ?_
    refine ri_ev_gf (k := 152) rfl ri_M3_152 rfl ?_
    refine ri_ev_go 1 (pc1 := 5) (L1 := [some (.ref 153), some (.int x1), some (.int x2), some (.int x3), some (.int x4), none]) (st1 := [.int 3, .ref 164]) (M1 := ri_M3) (c1 := 0) (s1 := 0) (fun n => rfl) ?_
    refine ri_ev_iald (k := 163) (z := 0) rfl ri_M3_163 (by decide) rfl ?_
    refine ri_ev_go 3 (pc1 := 12) (L1 := [some (.ref 153), some (.int x1), some (.int x2), some (.int x3), some (.int x4), none]) (st1 := [.int x1]) (M1 := ri_M3) (c1 := 0) (s1 := 0) (fun n => rfl) ?_
    refine ri_ev_cls (M1 := ri_M3) (v := some (.int 0)) _ rfl (Or.inl rfl) rfl (Nat.le_of_ble_eq_true rfl) hc3 ?_
    refine ri_ev_go 2 (pc1 := 54) (L1 := [some (.ref 153), some (.int x1), some (.int x2), some (.int x3), some (.int x4), none]) (st1 := [.int (-1)]) (M1 := ri_M3) (c1 := 0) (s1 := 0) (fun n => rfl) ?_
    exact ri_ev_ret (fun n => rfl)
  exact ⟨(-1), _, _, _, hc2, ri_M3_152, hc4⟩
theorem ro_answer (x1 x2 x3 x4 : Int32)  : ri_eqi 109 224 [.int x1, .int x2, .int x3, .int x4] := by
  by_cases h1 : x1 < 0
  · exact ro_answer_5 x1 x2 x3 x4  h1
  · by_cases h2 : x1 < 6
    · by_cases h3 : x2 < 0
      · exact ro_answer_4 x1 x2 x3 x4  h1 h2 h3
      · by_cases h4 : x2 < 3
        · by_cases h5 : x3 < 0
          · exact ro_answer_3 x1 x2 x3 x4  h1 h2 h3 h4 h5
          · exact ro_answer_2 x1 x2 x3 x4  h1 h2 h3 h4 h5
        · exact ro_answer_1 x1 x2 x3 x4  h1 h2 h3 h4
    · exact ro_answer_0 x1 x2 x3 x4  h1 h2
set_option maxRecDepth 100000 in
set_option maxHeartbeats 8000000 in
theorem ro_answers_0 (x1 x2 : Int32)  (h1 : ¬ x1 < 0) : ri_eqi 110 225 [.int x1, .int x2] := by
  have hc3 : ri_c 19 110 [.ref 1, .int x1, .int x2] ri_M3 = some (some (.int (-1)), ri_M3, 0, 0) := by
    have hc2 : ri_c 18 23 [.ref 15, .int x1] ri_M3 = some (some (.int 0), ri_M3, 0, 0) := by
      have hc1 : ri_c 17 142 [.int x1, .int 0] ri_M3 = some (some (.int 1), ri_M3, 0, 0) := by
        refine ri_ev_call (N := 8) (L := [some (.int x1), some (.int 0)]) rfl (Nat.le_of_ble_eq_true rfl) ?_
        refine ri_ev_go 1 (pc1 := 1) (L1 := [some (.int x1), some (.int 0)]) (st1 := [.int x1]) (M1 := ri_M3) (c1 := 0) (s1 := 0) (fun n => rfl) ?_
        refine ri_iz_lt_f rfl h1 ?_
        refine ri_ev_go 2 (pc1 := 6) (L1 := [some (.int x1), some (.int 0)]) (st1 := [.int 0, .int x1]) (M1 := ri_M3) (c1 := 0) (s1 := 0) (fun n => rfl) ?_
        refine ri_ic_lt_f rfl h1 ?_
        refine ri_ev_go 2 (pc1 := 14) (L1 := [some (.int x1), some (.int 0)]) (st1 := [.int 1]) (M1 := ri_M3) (c1 := 0) (s1 := 0) (fun n => rfl) ?_
        exact ri_ev_ret (fun n => rfl)
      refine ri_ev_call (N := 7) (L := [some (.ref 15), some (.int x1)]) rfl (Nat.le_of_ble_eq_true rfl) ?_
      refine ri_ev_go 2 (pc1 := 2) (L1 := [some (.ref 15), some (.int x1)]) (st1 := [.ref 15, .int x1]) (M1 := ri_M3) (c1 := 0) (s1 := 0) (fun n => rfl) ?_
      refine ri_ev_gf (k := 14) rfl ri_M3_14 rfl ?_
      refine ri_ev_cls (M1 := ri_M3) (v := some (.int 1)) _ rfl (Or.inr rfl) rfl (Nat.le_of_ble_eq_true rfl) hc1 ?_
      refine ri_ev_go 2 (pc1 := 16) (L1 := [some (.ref 15), some (.int x1)]) (st1 := [.int 0]) (M1 := ri_M3) (c1 := 0) (s1 := 0) (fun n => rfl) ?_
      exact ri_ev_ret (fun n => rfl)
    refine ri_ev_call (N := 7) (L := [some (.ref 1), some (.int x1), some (.int x2)]) rfl (Nat.le_of_ble_eq_true rfl) ?_
    refine ri_ev_go 1 (pc1 := 1) (L1 := [some (.ref 1), some (.int x1), some (.int x2)]) (st1 := [.ref 1]) (M1 := ri_M3) (c1 := 0) (s1 := 0) (fun n => rfl) ?_
    refine ri_ev_gf (k := 0) rfl ri_M3_0 rfl ?_
    refine ri_ev_go 1 (pc1 := 5) (L1 := [some (.ref 1), some (.int x1), some (.int x2)]) (st1 := [.int x1, .ref 15]) (M1 := ri_M3) (c1 := 0) (s1 := 0) (fun n => rfl) ?_
    refine ri_ev_clv (k := 14) (M1 := ri_M3) (v := some (.int 0)) _ rfl rfl ri_M3_14 rfl (Nat.le_of_ble_eq_true rfl) hc2 ?_
    refine ri_ev_go 2 (pc1 := 12) (L1 := [some (.ref 1), some (.int x1), some (.int x2)]) (st1 := [.int (-1)]) (M1 := ri_M3) (c1 := 0) (s1 := 0) (fun n => rfl) ?_
    exact ri_ev_ret (fun n => rfl)
  have hc5 : ri_c 19 225 [.ref 153, .int x1, .int x2] ri_M3 = some (some (.int (-1)), ri_M3, 0, 0) := by
    have hc4 : ri_c 18 215 [.ref 153, .int x1] ri_M3 = some (some (.int 0), ri_M3, 0, 0) := by
      refine ri_ev_call (N := 10) (L := [some (.ref 153), some (.int x1)]) rfl (Nat.le_of_ble_eq_true rfl) ?_
      refine ri_ev_go 1 (pc1 := 1) (L1 := [some (.ref 153), some (.int x1)]) (st1 := [.int x1]) (M1 := ri_M3) (c1 := 0) (s1 := 0) (fun n => rfl) ?_
      refine ri_iz_lt_f rfl h1 ?_
      refine ri_ev_go 2 (pc1 := 6) (L1 := [some (.ref 153), some (.int x1)]) (st1 := [.ref 153, .int x1]) (M1 := ri_M3) (c1 := 0) (s1 := 0) (fun n => rfl) ?_
      refine ri_ev_gf (k := 152) rfl ri_M3_152 rfl ?_
      refine ri_ev_go 1 (pc1 := 10) (L1 := [some (.ref 153), some (.int x1)]) (st1 := [.int 3, .ref 164, .int x1]) (M1 := ri_M3) (c1 := 0) (s1 := 0) (fun n => rfl) ?_
      refine ri_ev_iald (k := 163) (z := 0) rfl ri_M3_163 (by decide) rfl ?_
      refine ri_ic_ge_t (t := 18) rfl (Int32.not_lt.mp h1) rfl ?_
      refine ri_ev_go 1 (pc1 := 19) (L1 := [some (.ref 153), some (.int x1)]) (st1 := [.int 0]) (M1 := ri_M3) (c1 := 0) (s1 := 0) (fun n => rfl) ?_
      exact ri_ev_ret (fun n => rfl)
    refine ri_ev_call (N := 6) (L := [some (.ref 153), some (.int x1), some (.int x2)]) rfl (Nat.le_of_ble_eq_true rfl) ?_
    refine ri_ev_go 2 (pc1 := 2) (L1 := [some (.ref 153), some (.int x1), some (.int x2)]) (st1 := [.int x1, .ref 153]) (M1 := ri_M3) (c1 := 0) (s1 := 0) (fun n => rfl) ?_
    refine ri_ev_clv (k := 152) (M1 := ri_M3) (v := some (.int 0)) _ rfl rfl ri_M3_152 rfl (Nat.le_of_ble_eq_true rfl) hc4 ?_
    refine ri_ev_go 2 (pc1 := 30) (L1 := [some (.ref 153), some (.int x1), some (.int x2)]) (st1 := [.int (-1)]) (M1 := ri_M3) (c1 := 0) (s1 := 0) (fun n => rfl) ?_
    exact ri_ev_ret (fun n => rfl)
  exact ⟨(-1), _, _, _, hc3, ri_M3_152, hc5⟩
set_option maxRecDepth 100000 in
set_option maxHeartbeats 8000000 in
theorem ro_answers_1 (x1 x2 : Int32)  (h1 : x1 < 0) : ri_eqi 110 225 [.int x1, .int x2] := by
  have hc3 : ri_c 19 110 [.ref 1, .int x1, .int x2] ri_M3 = some (some (.int (-1)), ri_M3, 0, 0) := by
    have hc2 : ri_c 18 23 [.ref 15, .int x1] ri_M3 = some (some (.int 0), ri_M3, 0, 0) := by
      have hc1 : ri_c 17 142 [.int x1, .int 0] ri_M3 = some (some (.int 1), ri_M3, 0, 0) := by
        refine ri_ev_call (N := 5) (L := [some (.int x1), some (.int 0)]) rfl (Nat.le_of_ble_eq_true rfl) ?_
        refine ri_ev_go 1 (pc1 := 1) (L1 := [some (.int x1), some (.int 0)]) (st1 := [.int x1]) (M1 := ri_M3) (c1 := 0) (s1 := 0) (fun n => rfl) ?_
        refine ri_iz_lt_t (t := 9) rfl h1 rfl ?_
        refine ri_ev_go 2 (pc1 := 14) (L1 := [some (.int x1), some (.int 0)]) (st1 := [.int 1]) (M1 := ri_M3) (c1 := 0) (s1 := 0) (fun n => rfl) ?_
        exact ri_ev_ret (fun n => rfl)
      refine ri_ev_call (N := 7) (L := [some (.ref 15), some (.int x1)]) rfl (Nat.le_of_ble_eq_true rfl) ?_
      refine ri_ev_go 2 (pc1 := 2) (L1 := [some (.ref 15), some (.int x1)]) (st1 := [.ref 15, .int x1]) (M1 := ri_M3) (c1 := 0) (s1 := 0) (fun n => rfl) ?_
      refine ri_ev_gf (k := 14) rfl ri_M3_14 rfl ?_
      refine ri_ev_cls (M1 := ri_M3) (v := some (.int 1)) _ rfl (Or.inr rfl) rfl (Nat.le_of_ble_eq_true rfl) hc1 ?_
      refine ri_ev_go 2 (pc1 := 16) (L1 := [some (.ref 15), some (.int x1)]) (st1 := [.int 0]) (M1 := ri_M3) (c1 := 0) (s1 := 0) (fun n => rfl) ?_
      exact ri_ev_ret (fun n => rfl)
    refine ri_ev_call (N := 7) (L := [some (.ref 1), some (.int x1), some (.int x2)]) rfl (Nat.le_of_ble_eq_true rfl) ?_
    refine ri_ev_go 1 (pc1 := 1) (L1 := [some (.ref 1), some (.int x1), some (.int x2)]) (st1 := [.ref 1]) (M1 := ri_M3) (c1 := 0) (s1 := 0) (fun n => rfl) ?_
    refine ri_ev_gf (k := 0) rfl ri_M3_0 rfl ?_
    refine ri_ev_go 1 (pc1 := 5) (L1 := [some (.ref 1), some (.int x1), some (.int x2)]) (st1 := [.int x1, .ref 15]) (M1 := ri_M3) (c1 := 0) (s1 := 0) (fun n => rfl) ?_
    refine ri_ev_clv (k := 14) (M1 := ri_M3) (v := some (.int 0)) _ rfl rfl ri_M3_14 rfl (Nat.le_of_ble_eq_true rfl) hc2 ?_
    refine ri_ev_go 2 (pc1 := 12) (L1 := [some (.ref 1), some (.int x1), some (.int x2)]) (st1 := [.int (-1)]) (M1 := ri_M3) (c1 := 0) (s1 := 0) (fun n => rfl) ?_
    exact ri_ev_ret (fun n => rfl)
  have hc5 : ri_c 19 225 [.ref 153, .int x1, .int x2] ri_M3 = some (some (.int (-1)), ri_M3, 0, 0) := by
    have hc4 : ri_c 18 215 [.ref 153, .int x1] ri_M3 = some (some (.int 0), ri_M3, 0, 0) := by
      refine ri_ev_call (N := 4) (L := [some (.ref 153), some (.int x1)]) rfl (Nat.le_of_ble_eq_true rfl) ?_
      refine ri_ev_go 1 (pc1 := 1) (L1 := [some (.ref 153), some (.int x1)]) (st1 := [.int x1]) (M1 := ri_M3) (c1 := 0) (s1 := 0) (fun n => rfl) ?_
      refine ri_iz_lt_t (t := 18) rfl h1 rfl ?_
      refine ri_ev_go 1 (pc1 := 19) (L1 := [some (.ref 153), some (.int x1)]) (st1 := [.int 0]) (M1 := ri_M3) (c1 := 0) (s1 := 0) (fun n => rfl) ?_
      exact ri_ev_ret (fun n => rfl)
    refine ri_ev_call (N := 6) (L := [some (.ref 153), some (.int x1), some (.int x2)]) rfl (Nat.le_of_ble_eq_true rfl) ?_
    refine ri_ev_go 2 (pc1 := 2) (L1 := [some (.ref 153), some (.int x1), some (.int x2)]) (st1 := [.int x1, .ref 153]) (M1 := ri_M3) (c1 := 0) (s1 := 0) (fun n => rfl) ?_
    refine ri_ev_clv (k := 152) (M1 := ri_M3) (v := some (.int 0)) _ rfl rfl ri_M3_152 rfl (Nat.le_of_ble_eq_true rfl) hc4 ?_
    refine ri_ev_go 2 (pc1 := 30) (L1 := [some (.ref 153), some (.int x1), some (.int x2)]) (st1 := [.int (-1)]) (M1 := ri_M3) (c1 := 0) (s1 := 0) (fun n => rfl) ?_
    exact ri_ev_ret (fun n => rfl)
  exact ⟨(-1), _, _, _, hc3, ri_M3_152, hc5⟩
theorem ro_answers (x1 x2 : Int32)  : ri_eqi 110 225 [.int x1, .int x2] := by
  by_cases h1 : x1 < 0
  · exact ro_answers_1 x1 x2  h1
  · exact ro_answers_0 x1 x2  h1
set_option maxRecDepth 100000 in
set_option maxHeartbeats 8000000 in
theorem ro_strike_1_0 (x1 : Int32)  (h1 : ¬ x1 < 0) : ri_eqi 111 226 [.int x1, .int 1] := by
  have hc3 : ri_c 19 111 [.ref 1, .int x1, .int 1] ri_M3 = some (some (.int 0), ri_M3, 0, 0) := by
    have hc2 : ri_c 18 23 [.ref 15, .int x1] ri_M3 = some (some (.int 0), ri_M3, 0, 0) := by
      have hc1 : ri_c 17 142 [.int x1, .int 0] ri_M3 = some (some (.int 1), ri_M3, 0, 0) := by
        refine ri_ev_call (N := 8) (L := [some (.int x1), some (.int 0)]) rfl (Nat.le_of_ble_eq_true rfl) ?_
        refine ri_ev_go 1 (pc1 := 1) (L1 := [some (.int x1), some (.int 0)]) (st1 := [.int x1]) (M1 := ri_M3) (c1 := 0) (s1 := 0) (fun n => rfl) ?_
        refine ri_iz_lt_f rfl h1 ?_
        refine ri_ev_go 2 (pc1 := 6) (L1 := [some (.int x1), some (.int 0)]) (st1 := [.int 0, .int x1]) (M1 := ri_M3) (c1 := 0) (s1 := 0) (fun n => rfl) ?_
        refine ri_ic_lt_f rfl h1 ?_
        refine ri_ev_go 2 (pc1 := 14) (L1 := [some (.int x1), some (.int 0)]) (st1 := [.int 1]) (M1 := ri_M3) (c1 := 0) (s1 := 0) (fun n => rfl) ?_
        exact ri_ev_ret (fun n => rfl)
      refine ri_ev_call (N := 7) (L := [some (.ref 15), some (.int x1)]) rfl (Nat.le_of_ble_eq_true rfl) ?_
      refine ri_ev_go 2 (pc1 := 2) (L1 := [some (.ref 15), some (.int x1)]) (st1 := [.ref 15, .int x1]) (M1 := ri_M3) (c1 := 0) (s1 := 0) (fun n => rfl) ?_
      refine ri_ev_gf (k := 14) rfl ri_M3_14 rfl ?_
      refine ri_ev_cls (M1 := ri_M3) (v := some (.int 1)) _ rfl (Or.inr rfl) rfl (Nat.le_of_ble_eq_true rfl) hc1 ?_
      refine ri_ev_go 2 (pc1 := 16) (L1 := [some (.ref 15), some (.int x1)]) (st1 := [.int 0]) (M1 := ri_M3) (c1 := 0) (s1 := 0) (fun n => rfl) ?_
      exact ri_ev_ret (fun n => rfl)
    refine ri_ev_call (N := 7) (L := [some (.ref 1), some (.int x1), some (.int 1)]) rfl (Nat.le_of_ble_eq_true rfl) ?_
    refine ri_ev_go 1 (pc1 := 1) (L1 := [some (.ref 1), some (.int x1), some (.int 1)]) (st1 := [.ref 1]) (M1 := ri_M3) (c1 := 0) (s1 := 0) (fun n => rfl) ?_
    refine ri_ev_gf (k := 0) rfl ri_M3_0 rfl ?_
    refine ri_ev_go 1 (pc1 := 5) (L1 := [some (.ref 1), some (.int x1), some (.int 1)]) (st1 := [.int x1, .ref 15]) (M1 := ri_M3) (c1 := 0) (s1 := 0) (fun n => rfl) ?_
    refine ri_ev_clv (k := 14) (M1 := ri_M3) (v := some (.int 0)) _ rfl rfl ri_M3_14 rfl (Nat.le_of_ble_eq_true rfl) hc2 ?_
    refine ri_ev_go 2 (pc1 := 24) (L1 := [some (.ref 1), some (.int x1), some (.int 1)]) (st1 := [.int 0]) (M1 := ri_M3) (c1 := 0) (s1 := 0) (fun n => rfl) ?_
    exact ri_ev_ret (fun n => rfl)
  have hc5 : ri_c 19 226 [.ref 153, .int x1, .int 1] ri_M3 = some (some (.int 0), ri_M3, 0, 0) := by
    have hc4 : ri_c 18 215 [.ref 153, .int x1] ri_M3 = some (some (.int 0), ri_M3, 0, 0) := by
      refine ri_ev_call (N := 10) (L := [some (.ref 153), some (.int x1)]) rfl (Nat.le_of_ble_eq_true rfl) ?_
      refine ri_ev_go 1 (pc1 := 1) (L1 := [some (.ref 153), some (.int x1)]) (st1 := [.int x1]) (M1 := ri_M3) (c1 := 0) (s1 := 0) (fun n => rfl) ?_
      refine ri_iz_lt_f rfl h1 ?_
      refine ri_ev_go 2 (pc1 := 6) (L1 := [some (.ref 153), some (.int x1)]) (st1 := [.ref 153, .int x1]) (M1 := ri_M3) (c1 := 0) (s1 := 0) (fun n => rfl) ?_
      refine ri_ev_gf (k := 152) rfl ri_M3_152 rfl ?_
      refine ri_ev_go 1 (pc1 := 10) (L1 := [some (.ref 153), some (.int x1)]) (st1 := [.int 3, .ref 164, .int x1]) (M1 := ri_M3) (c1 := 0) (s1 := 0) (fun n => rfl) ?_
      refine ri_ev_iald (k := 163) (z := 0) rfl ri_M3_163 (by decide) rfl ?_
      refine ri_ic_ge_t (t := 18) rfl (Int32.not_lt.mp h1) rfl ?_
      refine ri_ev_go 1 (pc1 := 19) (L1 := [some (.ref 153), some (.int x1)]) (st1 := [.int 0]) (M1 := ri_M3) (c1 := 0) (s1 := 0) (fun n => rfl) ?_
      exact ri_ev_ret (fun n => rfl)
    refine ri_ev_call (N := 6) (L := [some (.ref 153), some (.int x1), some (.int 1)]) rfl (Nat.le_of_ble_eq_true rfl) ?_
    refine ri_ev_go 2 (pc1 := 2) (L1 := [some (.ref 153), some (.int x1), some (.int 1)]) (st1 := [.int x1, .ref 153]) (M1 := ri_M3) (c1 := 0) (s1 := 0) (fun n => rfl) ?_
    refine ri_ev_clv (k := 152) (M1 := ri_M3) (v := some (.int 0)) _ rfl rfl ri_M3_152 rfl (Nat.le_of_ble_eq_true rfl) hc4 ?_
    refine ri_ev_go 2 (pc1 := 28) (L1 := [some (.ref 153), some (.int x1), some (.int 1)]) (st1 := [.int 0]) (M1 := ri_M3) (c1 := 0) (s1 := 0) (fun n => rfl) ?_
    exact ri_ev_ret (fun n => rfl)
  exact ⟨0, _, _, _, hc3, ri_M3_152, hc5⟩
set_option maxRecDepth 100000 in
set_option maxHeartbeats 8000000 in
theorem ro_strike_1_1 (x1 : Int32)  (h1 : x1 < 0) : ri_eqi 111 226 [.int x1, .int 1] := by
  have hc3 : ri_c 19 111 [.ref 1, .int x1, .int 1] ri_M3 = some (some (.int 0), ri_M3, 0, 0) := by
    have hc2 : ri_c 18 23 [.ref 15, .int x1] ri_M3 = some (some (.int 0), ri_M3, 0, 0) := by
      have hc1 : ri_c 17 142 [.int x1, .int 0] ri_M3 = some (some (.int 1), ri_M3, 0, 0) := by
        refine ri_ev_call (N := 5) (L := [some (.int x1), some (.int 0)]) rfl (Nat.le_of_ble_eq_true rfl) ?_
        refine ri_ev_go 1 (pc1 := 1) (L1 := [some (.int x1), some (.int 0)]) (st1 := [.int x1]) (M1 := ri_M3) (c1 := 0) (s1 := 0) (fun n => rfl) ?_
        refine ri_iz_lt_t (t := 9) rfl h1 rfl ?_
        refine ri_ev_go 2 (pc1 := 14) (L1 := [some (.int x1), some (.int 0)]) (st1 := [.int 1]) (M1 := ri_M3) (c1 := 0) (s1 := 0) (fun n => rfl) ?_
        exact ri_ev_ret (fun n => rfl)
      refine ri_ev_call (N := 7) (L := [some (.ref 15), some (.int x1)]) rfl (Nat.le_of_ble_eq_true rfl) ?_
      refine ri_ev_go 2 (pc1 := 2) (L1 := [some (.ref 15), some (.int x1)]) (st1 := [.ref 15, .int x1]) (M1 := ri_M3) (c1 := 0) (s1 := 0) (fun n => rfl) ?_
      refine ri_ev_gf (k := 14) rfl ri_M3_14 rfl ?_
      refine ri_ev_cls (M1 := ri_M3) (v := some (.int 1)) _ rfl (Or.inr rfl) rfl (Nat.le_of_ble_eq_true rfl) hc1 ?_
      refine ri_ev_go 2 (pc1 := 16) (L1 := [some (.ref 15), some (.int x1)]) (st1 := [.int 0]) (M1 := ri_M3) (c1 := 0) (s1 := 0) (fun n => rfl) ?_
      exact ri_ev_ret (fun n => rfl)
    refine ri_ev_call (N := 7) (L := [some (.ref 1), some (.int x1), some (.int 1)]) rfl (Nat.le_of_ble_eq_true rfl) ?_
    refine ri_ev_go 1 (pc1 := 1) (L1 := [some (.ref 1), some (.int x1), some (.int 1)]) (st1 := [.ref 1]) (M1 := ri_M3) (c1 := 0) (s1 := 0) (fun n => rfl) ?_
    refine ri_ev_gf (k := 0) rfl ri_M3_0 rfl ?_
    refine ri_ev_go 1 (pc1 := 5) (L1 := [some (.ref 1), some (.int x1), some (.int 1)]) (st1 := [.int x1, .ref 15]) (M1 := ri_M3) (c1 := 0) (s1 := 0) (fun n => rfl) ?_
    refine ri_ev_clv (k := 14) (M1 := ri_M3) (v := some (.int 0)) _ rfl rfl ri_M3_14 rfl (Nat.le_of_ble_eq_true rfl) hc2 ?_
    refine ri_ev_go 2 (pc1 := 24) (L1 := [some (.ref 1), some (.int x1), some (.int 1)]) (st1 := [.int 0]) (M1 := ri_M3) (c1 := 0) (s1 := 0) (fun n => rfl) ?_
    exact ri_ev_ret (fun n => rfl)
  have hc5 : ri_c 19 226 [.ref 153, .int x1, .int 1] ri_M3 = some (some (.int 0), ri_M3, 0, 0) := by
    have hc4 : ri_c 18 215 [.ref 153, .int x1] ri_M3 = some (some (.int 0), ri_M3, 0, 0) := by
      refine ri_ev_call (N := 4) (L := [some (.ref 153), some (.int x1)]) rfl (Nat.le_of_ble_eq_true rfl) ?_
      refine ri_ev_go 1 (pc1 := 1) (L1 := [some (.ref 153), some (.int x1)]) (st1 := [.int x1]) (M1 := ri_M3) (c1 := 0) (s1 := 0) (fun n => rfl) ?_
      refine ri_iz_lt_t (t := 18) rfl h1 rfl ?_
      refine ri_ev_go 1 (pc1 := 19) (L1 := [some (.ref 153), some (.int x1)]) (st1 := [.int 0]) (M1 := ri_M3) (c1 := 0) (s1 := 0) (fun n => rfl) ?_
      exact ri_ev_ret (fun n => rfl)
    refine ri_ev_call (N := 6) (L := [some (.ref 153), some (.int x1), some (.int 1)]) rfl (Nat.le_of_ble_eq_true rfl) ?_
    refine ri_ev_go 2 (pc1 := 2) (L1 := [some (.ref 153), some (.int x1), some (.int 1)]) (st1 := [.int x1, .ref 153]) (M1 := ri_M3) (c1 := 0) (s1 := 0) (fun n => rfl) ?_
    refine ri_ev_clv (k := 152) (M1 := ri_M3) (v := some (.int 0)) _ rfl rfl ri_M3_152 rfl (Nat.le_of_ble_eq_true rfl) hc4 ?_
    refine ri_ev_go 2 (pc1 := 28) (L1 := [some (.ref 153), some (.int x1), some (.int 1)]) (st1 := [.int 0]) (M1 := ri_M3) (c1 := 0) (s1 := 0) (fun n => rfl) ?_
    exact ri_ev_ret (fun n => rfl)
  exact ⟨0, _, _, _, hc3, ri_M3_152, hc5⟩
theorem ro_strike_1 (x1 : Int32)  : ri_eqi 111 226 [.int x1, .int 1] := by
  by_cases h1 : x1 < 0
  · exact ro_strike_1_1 x1  h1
  · exact ro_strike_1_0 x1  h1
set_option maxRecDepth 100000 in
set_option maxHeartbeats 8000000 in
theorem ro_strike_0_0 (x1 : Int32)  (h1 : ¬ x1 < 0) : ri_eqi 111 226 [.int x1, .int 0] := by
  have hc3 : ri_c 19 111 [.ref 1, .int x1, .int 0] ri_M3 = some (some (.int 0), ri_M3, 0, 0) := by
    have hc2 : ri_c 18 23 [.ref 15, .int x1] ri_M3 = some (some (.int 0), ri_M3, 0, 0) := by
      have hc1 : ri_c 17 142 [.int x1, .int 0] ri_M3 = some (some (.int 1), ri_M3, 0, 0) := by
        refine ri_ev_call (N := 8) (L := [some (.int x1), some (.int 0)]) rfl (Nat.le_of_ble_eq_true rfl) ?_
        refine ri_ev_go 1 (pc1 := 1) (L1 := [some (.int x1), some (.int 0)]) (st1 := [.int x1]) (M1 := ri_M3) (c1 := 0) (s1 := 0) (fun n => rfl) ?_
        refine ri_iz_lt_f rfl h1 ?_
        refine ri_ev_go 2 (pc1 := 6) (L1 := [some (.int x1), some (.int 0)]) (st1 := [.int 0, .int x1]) (M1 := ri_M3) (c1 := 0) (s1 := 0) (fun n => rfl) ?_
        refine ri_ic_lt_f rfl h1 ?_
        refine ri_ev_go 2 (pc1 := 14) (L1 := [some (.int x1), some (.int 0)]) (st1 := [.int 1]) (M1 := ri_M3) (c1 := 0) (s1 := 0) (fun n => rfl) ?_
        exact ri_ev_ret (fun n => rfl)
      refine ri_ev_call (N := 7) (L := [some (.ref 15), some (.int x1)]) rfl (Nat.le_of_ble_eq_true rfl) ?_
      refine ri_ev_go 2 (pc1 := 2) (L1 := [some (.ref 15), some (.int x1)]) (st1 := [.ref 15, .int x1]) (M1 := ri_M3) (c1 := 0) (s1 := 0) (fun n => rfl) ?_
      refine ri_ev_gf (k := 14) rfl ri_M3_14 rfl ?_
      refine ri_ev_cls (M1 := ri_M3) (v := some (.int 1)) _ rfl (Or.inr rfl) rfl (Nat.le_of_ble_eq_true rfl) hc1 ?_
      refine ri_ev_go 2 (pc1 := 16) (L1 := [some (.ref 15), some (.int x1)]) (st1 := [.int 0]) (M1 := ri_M3) (c1 := 0) (s1 := 0) (fun n => rfl) ?_
      exact ri_ev_ret (fun n => rfl)
    refine ri_ev_call (N := 7) (L := [some (.ref 1), some (.int x1), some (.int 0)]) rfl (Nat.le_of_ble_eq_true rfl) ?_
    refine ri_ev_go 1 (pc1 := 1) (L1 := [some (.ref 1), some (.int x1), some (.int 0)]) (st1 := [.ref 1]) (M1 := ri_M3) (c1 := 0) (s1 := 0) (fun n => rfl) ?_
    refine ri_ev_gf (k := 0) rfl ri_M3_0 rfl ?_
    refine ri_ev_go 1 (pc1 := 5) (L1 := [some (.ref 1), some (.int x1), some (.int 0)]) (st1 := [.int x1, .ref 15]) (M1 := ri_M3) (c1 := 0) (s1 := 0) (fun n => rfl) ?_
    refine ri_ev_clv (k := 14) (M1 := ri_M3) (v := some (.int 0)) _ rfl rfl ri_M3_14 rfl (Nat.le_of_ble_eq_true rfl) hc2 ?_
    refine ri_ev_go 2 (pc1 := 24) (L1 := [some (.ref 1), some (.int x1), some (.int 0)]) (st1 := [.int 0]) (M1 := ri_M3) (c1 := 0) (s1 := 0) (fun n => rfl) ?_
    exact ri_ev_ret (fun n => rfl)
  have hc5 : ri_c 19 226 [.ref 153, .int x1, .int 0] ri_M3 = some (some (.int 0), ri_M3, 0, 0) := by
    have hc4 : ri_c 18 215 [.ref 153, .int x1] ri_M3 = some (some (.int 0), ri_M3, 0, 0) := by
      refine ri_ev_call (N := 10) (L := [some (.ref 153), some (.int x1)]) rfl (Nat.le_of_ble_eq_true rfl) ?_
      refine ri_ev_go 1 (pc1 := 1) (L1 := [some (.ref 153), some (.int x1)]) (st1 := [.int x1]) (M1 := ri_M3) (c1 := 0) (s1 := 0) (fun n => rfl) ?_
      refine ri_iz_lt_f rfl h1 ?_
      refine ri_ev_go 2 (pc1 := 6) (L1 := [some (.ref 153), some (.int x1)]) (st1 := [.ref 153, .int x1]) (M1 := ri_M3) (c1 := 0) (s1 := 0) (fun n => rfl) ?_
      refine ri_ev_gf (k := 152) rfl ri_M3_152 rfl ?_
      refine ri_ev_go 1 (pc1 := 10) (L1 := [some (.ref 153), some (.int x1)]) (st1 := [.int 3, .ref 164, .int x1]) (M1 := ri_M3) (c1 := 0) (s1 := 0) (fun n => rfl) ?_
      refine ri_ev_iald (k := 163) (z := 0) rfl ri_M3_163 (by decide) rfl ?_
      refine ri_ic_ge_t (t := 18) rfl (Int32.not_lt.mp h1) rfl ?_
      refine ri_ev_go 1 (pc1 := 19) (L1 := [some (.ref 153), some (.int x1)]) (st1 := [.int 0]) (M1 := ri_M3) (c1 := 0) (s1 := 0) (fun n => rfl) ?_
      exact ri_ev_ret (fun n => rfl)
    refine ri_ev_call (N := 6) (L := [some (.ref 153), some (.int x1), some (.int 0)]) rfl (Nat.le_of_ble_eq_true rfl) ?_
    refine ri_ev_go 2 (pc1 := 2) (L1 := [some (.ref 153), some (.int x1), some (.int 0)]) (st1 := [.int x1, .ref 153]) (M1 := ri_M3) (c1 := 0) (s1 := 0) (fun n => rfl) ?_
    refine ri_ev_clv (k := 152) (M1 := ri_M3) (v := some (.int 0)) _ rfl rfl ri_M3_152 rfl (Nat.le_of_ble_eq_true rfl) hc4 ?_
    refine ri_ev_go 2 (pc1 := 28) (L1 := [some (.ref 153), some (.int x1), some (.int 0)]) (st1 := [.int 0]) (M1 := ri_M3) (c1 := 0) (s1 := 0) (fun n => rfl) ?_
    exact ri_ev_ret (fun n => rfl)
  exact ⟨0, _, _, _, hc3, ri_M3_152, hc5⟩
set_option maxRecDepth 100000 in
set_option maxHeartbeats 8000000 in
theorem ro_strike_0_1 (x1 : Int32)  (h1 : x1 < 0) : ri_eqi 111 226 [.int x1, .int 0] := by
  have hc3 : ri_c 19 111 [.ref 1, .int x1, .int 0] ri_M3 = some (some (.int 0), ri_M3, 0, 0) := by
    have hc2 : ri_c 18 23 [.ref 15, .int x1] ri_M3 = some (some (.int 0), ri_M3, 0, 0) := by
      have hc1 : ri_c 17 142 [.int x1, .int 0] ri_M3 = some (some (.int 1), ri_M3, 0, 0) := by
        refine ri_ev_call (N := 5) (L := [some (.int x1), some (.int 0)]) rfl (Nat.le_of_ble_eq_true rfl) ?_
        refine ri_ev_go 1 (pc1 := 1) (L1 := [some (.int x1), some (.int 0)]) (st1 := [.int x1]) (M1 := ri_M3) (c1 := 0) (s1 := 0) (fun n => rfl) ?_
        refine ri_iz_lt_t (t := 9) rfl h1 rfl ?_
        refine ri_ev_go 2 (pc1 := 14) (L1 := [some (.int x1), some (.int 0)]) (st1 := [.int 1]) (M1 := ri_M3) (c1 := 0) (s1 := 0) (fun n => rfl) ?_
        exact ri_ev_ret (fun n => rfl)
      refine ri_ev_call (N := 7) (L := [some (.ref 15), some (.int x1)]) rfl (Nat.le_of_ble_eq_true rfl) ?_
      refine ri_ev_go 2 (pc1 := 2) (L1 := [some (.ref 15), some (.int x1)]) (st1 := [.ref 15, .int x1]) (M1 := ri_M3) (c1 := 0) (s1 := 0) (fun n => rfl) ?_
      refine ri_ev_gf (k := 14) rfl ri_M3_14 rfl ?_
      refine ri_ev_cls (M1 := ri_M3) (v := some (.int 1)) _ rfl (Or.inr rfl) rfl (Nat.le_of_ble_eq_true rfl) hc1 ?_
      refine ri_ev_go 2 (pc1 := 16) (L1 := [some (.ref 15), some (.int x1)]) (st1 := [.int 0]) (M1 := ri_M3) (c1 := 0) (s1 := 0) (fun n => rfl) ?_
      exact ri_ev_ret (fun n => rfl)
    refine ri_ev_call (N := 7) (L := [some (.ref 1), some (.int x1), some (.int 0)]) rfl (Nat.le_of_ble_eq_true rfl) ?_
    refine ri_ev_go 1 (pc1 := 1) (L1 := [some (.ref 1), some (.int x1), some (.int 0)]) (st1 := [.ref 1]) (M1 := ri_M3) (c1 := 0) (s1 := 0) (fun n => rfl) ?_
    refine ri_ev_gf (k := 0) rfl ri_M3_0 rfl ?_
    refine ri_ev_go 1 (pc1 := 5) (L1 := [some (.ref 1), some (.int x1), some (.int 0)]) (st1 := [.int x1, .ref 15]) (M1 := ri_M3) (c1 := 0) (s1 := 0) (fun n => rfl) ?_
    refine ri_ev_clv (k := 14) (M1 := ri_M3) (v := some (.int 0)) _ rfl rfl ri_M3_14 rfl (Nat.le_of_ble_eq_true rfl) hc2 ?_
    refine ri_ev_go 2 (pc1 := 24) (L1 := [some (.ref 1), some (.int x1), some (.int 0)]) (st1 := [.int 0]) (M1 := ri_M3) (c1 := 0) (s1 := 0) (fun n => rfl) ?_
    exact ri_ev_ret (fun n => rfl)
  have hc5 : ri_c 19 226 [.ref 153, .int x1, .int 0] ri_M3 = some (some (.int 0), ri_M3, 0, 0) := by
    have hc4 : ri_c 18 215 [.ref 153, .int x1] ri_M3 = some (some (.int 0), ri_M3, 0, 0) := by
      refine ri_ev_call (N := 4) (L := [some (.ref 153), some (.int x1)]) rfl (Nat.le_of_ble_eq_true rfl) ?_
      refine ri_ev_go 1 (pc1 := 1) (L1 := [some (.ref 153), some (.int x1)]) (st1 := [.int x1]) (M1 := ri_M3) (c1 := 0) (s1 := 0) (fun n => rfl) ?_
      refine ri_iz_lt_t (t := 18) rfl h1 rfl ?_
      refine ri_ev_go 1 (pc1 := 19) (L1 := [some (.ref 153), some (.int x1)]) (st1 := [.int 0]) (M1 := ri_M3) (c1 := 0) (s1 := 0) (fun n => rfl) ?_
      exact ri_ev_ret (fun n => rfl)
    refine ri_ev_call (N := 6) (L := [some (.ref 153), some (.int x1), some (.int 0)]) rfl (Nat.le_of_ble_eq_true rfl) ?_
    refine ri_ev_go 2 (pc1 := 2) (L1 := [some (.ref 153), some (.int x1), some (.int 0)]) (st1 := [.int x1, .ref 153]) (M1 := ri_M3) (c1 := 0) (s1 := 0) (fun n => rfl) ?_
    refine ri_ev_clv (k := 152) (M1 := ri_M3) (v := some (.int 0)) _ rfl rfl ri_M3_152 rfl (Nat.le_of_ble_eq_true rfl) hc4 ?_
    refine ri_ev_go 2 (pc1 := 28) (L1 := [some (.ref 153), some (.int x1), some (.int 0)]) (st1 := [.int 0]) (M1 := ri_M3) (c1 := 0) (s1 := 0) (fun n => rfl) ?_
    exact ri_ev_ret (fun n => rfl)
  exact ⟨0, _, _, _, hc3, ri_M3_152, hc5⟩
theorem ro_strike_0 (x1 : Int32)  : ri_eqi 111 226 [.int x1, .int 0] := by
  by_cases h1 : x1 < 0
  · exact ro_strike_0_1 x1  h1
  · exact ro_strike_0_0 x1  h1
set_option maxRecDepth 100000 in
set_option maxHeartbeats 8000000 in
theorem ro_only_0 (x1 : Int32)  (h1 : ¬ x1 < (-1)) (h2 : ¬ 40 < x1) : ri_eqi 112 227 [.int x1] := by
  have hc1 : ri_c 19 112 [.ref 1, .int x1] ri_M3 = some (some (.int (-1)), (ri_M3.set 14 (.inr (2, [.ref 16, .ref 20, .ref 21, .ref 22, .ref 23, .ref 24, .int 0, .int x1, .ref 25, .ref 26, .int 0, .int 0]))), 0, 0) := by
    refine ri_ev_call (N := 16) (L := [some (.ref 1), some (.int x1), none]) rfl (Nat.le_of_ble_eq_true rfl) ?_
    refine ri_ev_go 2 (pc1 := 2) (L1 := [some (.ref 1), some (.int x1), none]) (st1 := [.int (-1), .int x1]) (M1 := ri_M3) (c1 := 0) (s1 := 0) (fun n => rfl) ?_
    refine ri_ic_lt_f rfl h1 ?_
    refine ri_ev_go 2 (pc1 := 8) (L1 := [some (.ref 1), some (.int x1), none]) (st1 := [.int 40, .int x1]) (M1 := ri_M3) (c1 := 0) (s1 := 0) (fun n => rfl) ?_
    refine ri_ic_le_t (t := 14) rfl (Int32.not_lt.mp h2) rfl ?_
    refine ri_ev_go 1 (pc1 := 15) (L1 := [some (.ref 1), some (.int x1), none]) (st1 := [.ref 1]) (M1 := ri_M3) (c1 := 0) (s1 := 0) (fun n => rfl) ?_
    refine ri_ev_gf (k := 0) rfl ri_M3_0 rfl ?_
    refine ri_ev_gf (k := 14) rfl ri_M3_14 rfl ?_
    refine ri_ev_go 2 (pc1 := 23) (L1 := [some (.ref 1), some (.int x1), some (.int (-1))]) (st1 := [.ref 1]) (M1 := ri_M3) (c1 := 0) (s1 := 0) (fun n => rfl) ?_
    refine ri_ev_gf (k := 0) rfl ri_M3_0 rfl ?_
    refine ri_ev_go 1 (pc1 := 27) (L1 := [some (.ref 1), some (.int x1), some (.int (-1))]) (st1 := [.int x1, .ref 15]) (M1 := ri_M3) (c1 := 0) (s1 := 0) (fun n => rfl) ?_
    refine ri_ev_pf (k := 14) (gs := [.ref 16, .ref 20, .ref 21, .ref 22, .ref 23, .ref 24, .int 0, .int x1, .ref 25, .ref 26, .int 0, .int 0]) (M2 := (ri_M3.set 14 (.inr (2, [.ref 16, .ref 20, .ref 21, .ref 22, .ref 23, .ref 24, .int 0, .int x1, .ref 25, .ref 26, .int 0, .int 0])))) rfl ri_M3_14 (Nat.le_of_ble_eq_true rfl) rfl rfl rfl ?_
    refine ri_ev_go 1 (pc1 := 31) (L1 := [some (.ref 1), some (.int x1), some (.int (-1))]) (st1 := [.int (-1)]) (M1 := (ri_M3.set 14 (.inr (2, [.ref 16, .ref 20, .ref 21, .ref 22, .ref 23, .ref 24, .int 0, .int x1, .ref 25, .ref 26, .int 0, .int 0])))) (c1 := 0) (s1 := 0) (fun n => rfl) ?_
    exact ri_ev_ret (fun n => rfl)
  obtain ⟨g1, hc3⟩ : ∃ g1 : Nat → Int32, ri_c 19 227 [.ref 153, .int x1] (ri_M3.set 14 (.inr (2, [.ref 16, .ref 20, .ref 21, .ref 22, .ref 23, .ref 24, .int 0, .int x1, .ref 25, .ref 26, .int 0, .int 0]))) = some (some (.int (-1)), ((ri_M3.set 14 (.inr (2, [.ref 16, .ref 20, .ref 21, .ref 22, .ref 23, .ref 24, .int 0, .int x1, .ref 25, .ref 26, .int 0, .int 0]))).set 163 (.inl (.int, (262, .inl (g1))))), 0, 0) := by
    have hc2 : ri_c 18 169 [.long (x1).toInt64, .long (-1), .long 40] (ri_M3.set 14 (.inr (2, [.ref 16, .ref 20, .ref 21, .ref 22, .ref 23, .ref 24, .int 0, .int x1, .ref 25, .ref 26, .int 0, .int 0]))) = some (some (.int 1), (ri_M3.set 14 (.inr (2, [.ref 16, .ref 20, .ref 21, .ref 22, .ref 23, .ref 24, .int 0, .int x1, .ref 25, .ref 26, .int 0, .int 0]))), 0, 0) := by
      refine ri_ev_call (N := 11) (L := [some (.long (x1).toInt64), none, some (.long (-1)), none, some (.long 40), none]) rfl (Nat.le_of_ble_eq_true rfl) ?_
      refine ri_ev_go 3 (pc1 := 3) (L1 := [some (.long (x1).toInt64), none, some (.long (-1)), none, some (.long 40), none]) (st1 := [.int (lg_cmp (x1).toInt64 (-1))]) (M1 := (ri_M3.set 14 (.inr (2, [.ref 16, .ref 20, .ref 21, .ref 22, .ref 23, .ref 24, .int 0, .int x1, .ref 25, .ref 26, .int 0, .int 0])))) (c1 := 0) (s1 := 0) (fun n => rfl) ?_
      refine ri_iz_lt_f rfl (fun q => h1 ((ri_lc_lt (c := (-1)) rfl).mp q)) ?_
      refine ri_ev_go 3 (pc1 := 10) (L1 := [some (.long (x1).toInt64), none, some (.long (-1)), none, some (.long 40), none]) (st1 := [.int (lg_cmp (x1).toInt64 40)]) (M1 := (ri_M3.set 14 (.inr (2, [.ref 16, .ref 20, .ref 21, .ref 22, .ref 23, .ref 24, .int 0, .int x1, .ref 25, .ref 26, .int 0, .int 0])))) (c1 := 0) (s1 := 0) (fun n => rfl) ?_
      refine ri_iz_gt_f rfl (fun q => h2 ((ri_lc_gt (c := 40) rfl).mp q)) ?_
      refine ri_ev_go 2 (pc1 := 18) (L1 := [some (.long (x1).toInt64), none, some (.long (-1)), none, some (.long 40), none]) (st1 := [.int 1]) (M1 := (ri_M3.set 14 (.inr (2, [.ref 16, .ref 20, .ref 21, .ref 22, .ref 23, .ref 24, .int 0, .int x1, .ref 25, .ref 26, .int 0, .int 0])))) (c1 := 0) (s1 := 0) (fun n => rfl) ?_
      exact ri_ev_ret (fun n => rfl)
    refine ⟨upd (upd (fun _ => 0) 4 (-1)) 4 x1, ?_⟩
    refine ri_ev_call (N := 18) (L := [some (.ref 153), some (.int x1), none]) rfl (Nat.le_of_ble_eq_true rfl) ?_
    refine ri_ev_go 4 (pc1 := 8) (L1 := [some (.ref 153), some (.int x1), none]) (st1 := [.long 40, .long (-1), .long (x1).toInt64]) (M1 := (ri_M3.set 14 (.inr (2, [.ref 16, .ref 20, .ref 21, .ref 22, .ref 23, .ref 24, .int 0, .int x1, .ref 25, .ref 26, .int 0, .int 0])))) (c1 := 0) (s1 := 0) (fun n => rfl) ?_
    refine ri_ev_cls (M1 := (ri_M3.set 14 (.inr (2, [.ref 16, .ref 20, .ref 21, .ref 22, .ref 23, .ref 24, .int 0, .int x1, .ref 25, .ref 26, .int 0, .int 0])))) (v := some (.int 1)) _ rfl (Or.inl rfl) rfl (Nat.le_of_ble_eq_true rfl) hc2 ?_
    refine ri_ev_go 2 (pc1 := 18) (L1 := [some (.ref 153), some (.int x1), none]) (st1 := [.ref 153]) (M1 := (ri_M3.set 14 (.inr (2, [.ref 16, .ref 20, .ref 21, .ref 22, .ref 23, .ref 24, .int 0, .int x1, .ref 25, .ref 26, .int 0, .int 0])))) (c1 := 0) (s1 := 0) (fun n => rfl) ?_
    refine ri_ev_gf (k := 152) rfl (ri_gn (by decide) ri_M3_152) rfl ?_
    refine ri_ev_go 1 (pc1 := 22) (L1 := [some (.ref 153), some (.int x1), none]) (st1 := [.int 4, .ref 164]) (M1 := (ri_M3.set 14 (.inr (2, [.ref 16, .ref 20, .ref 21, .ref 22, .ref 23, .ref 24, .int 0, .int x1, .ref 25, .ref 26, .int 0, .int 0])))) (c1 := 0) (s1 := 0) (fun n => rfl) ?_
    refine ri_ev_iald (k := 163) (z := (-1)) rfl (ri_gn (by decide) ri_M3_163) (by decide) rfl ?_
    refine ri_ev_go 2 (pc1 := 25) (L1 := [some (.ref 153), some (.int x1), some (.int (-1))]) (st1 := [.ref 153]) (M1 := (ri_M3.set 14 (.inr (2, [.ref 16, .ref 20, .ref 21, .ref 22, .ref 23, .ref 24, .int 0, .int x1, .ref 25, .ref 26, .int 0, .int 0])))) (c1 := 0) (s1 := 0) (fun n => rfl) ?_
    refine ri_ev_gf (k := 152) rfl (ri_gn (by decide) ri_M3_152) rfl ?_
    refine ri_ev_go 2 (pc1 := 30) (L1 := [some (.ref 153), some (.int x1), some (.int (-1))]) (st1 := [.int x1, .int 4, .ref 164]) (M1 := (ri_M3.set 14 (.inr (2, [.ref 16, .ref 20, .ref 21, .ref 22, .ref 23, .ref 24, .int 0, .int x1, .ref 25, .ref 26, .int 0, .int 0])))) (c1 := 0) (s1 := 0) (fun n => rfl) ?_
    refine ri_ev_iasd (k := 163) (q := 4) (M2 := ((ri_M3.set 14 (.inr (2, [.ref 16, .ref 20, .ref 21, .ref 22, .ref 23, .ref 24, .int 0, .int x1, .ref 25, .ref 26, .int 0, .int 0]))).set 163 (.inl (.int, (262, .inl (upd (upd (fun _ => 0) 4 (-1)) 4 x1)))))) rfl (ri_gn (by decide) ri_M3_163) (by decide) rfl rfl ?_
    refine ri_ev_go 1 (pc1 := 32) (L1 := [some (.ref 153), some (.int x1), some (.int (-1))]) (st1 := [.int (-1)]) (M1 := ((ri_M3.set 14 (.inr (2, [.ref 16, .ref 20, .ref 21, .ref 22, .ref 23, .ref 24, .int 0, .int x1, .ref 25, .ref 26, .int 0, .int 0]))).set 163 (.inl (.int, (262, .inl (upd (upd (fun _ => 0) 4 (-1)) 4 x1)))))) (c1 := 0) (s1 := 0) (fun n => rfl) ?_
    exact ri_ev_ret (fun n => rfl)
  exact ⟨(-1), _, _, _, hc1, (ri_gn (by decide) ri_M3_152), hc3⟩
set_option maxRecDepth 100000 in
set_option maxHeartbeats 8000000 in
theorem ro_only_1 (x1 : Int32)  (h1 : ¬ x1 < (-1)) (h2 : 40 < x1) : ri_eqi 112 227 [.int x1] := by
  have hc1 : ri_c 19 112 [.ref 1, .int x1] ri_M3 = some (some (.int (-2)), ri_M3, 0, 0) := by
    refine ri_ev_call (N := 8) (L := [some (.ref 1), some (.int x1), none]) rfl (Nat.le_of_ble_eq_true rfl) ?_
    refine ri_ev_go 2 (pc1 := 2) (L1 := [some (.ref 1), some (.int x1), none]) (st1 := [.int (-1), .int x1]) (M1 := ri_M3) (c1 := 0) (s1 := 0) (fun n => rfl) ?_
    refine ri_ic_lt_f rfl h1 ?_
    refine ri_ev_go 2 (pc1 := 8) (L1 := [some (.ref 1), some (.int x1), none]) (st1 := [.int 40, .int x1]) (M1 := ri_M3) (c1 := 0) (s1 := 0) (fun n => rfl) ?_
    refine ri_ic_le_f rfl (Int32.not_le.mpr h2) ?_
    refine ri_ev_go 1 (pc1 := 13) (L1 := [some (.ref 1), some (.int x1), none]) (st1 := [.int (-2)]) (M1 := ri_M3) (c1 := 0) (s1 := 0) (fun n => rfl) ?_
    exact ri_ev_ret (fun n => rfl)
  have hc3 : ri_c 19 227 [.ref 153, .int x1] ri_M3 = some (some (.int (-2)), ri_M3, 0, 0) := by
    have hc2 : ri_c 18 169 [.long (x1).toInt64, .long (-1), .long 40] ri_M3 = some (some (.int 0), ri_M3, 0, 0) := by
      refine ri_ev_call (N := 10) (L := [some (.long (x1).toInt64), none, some (.long (-1)), none, some (.long 40), none]) rfl (Nat.le_of_ble_eq_true rfl) ?_
      refine ri_ev_go 3 (pc1 := 3) (L1 := [some (.long (x1).toInt64), none, some (.long (-1)), none, some (.long 40), none]) (st1 := [.int (lg_cmp (x1).toInt64 (-1))]) (M1 := ri_M3) (c1 := 0) (s1 := 0) (fun n => rfl) ?_
      refine ri_iz_lt_f rfl (fun q => h1 ((ri_lc_lt (c := (-1)) rfl).mp q)) ?_
      refine ri_ev_go 3 (pc1 := 10) (L1 := [some (.long (x1).toInt64), none, some (.long (-1)), none, some (.long 40), none]) (st1 := [.int (lg_cmp (x1).toInt64 40)]) (M1 := ri_M3) (c1 := 0) (s1 := 0) (fun n => rfl) ?_
      refine ri_iz_gt_t (t := 17) rfl ((ri_lc_gt (c := 40) rfl).mpr h2) rfl ?_
      refine ri_ev_go 1 (pc1 := 18) (L1 := [some (.long (x1).toInt64), none, some (.long (-1)), none, some (.long 40), none]) (st1 := [.int 0]) (M1 := ri_M3) (c1 := 0) (s1 := 0) (fun n => rfl) ?_
      exact ri_ev_ret (fun n => rfl)
    refine ri_ev_call (N := 8) (L := [some (.ref 153), some (.int x1), none]) rfl (Nat.le_of_ble_eq_true rfl) ?_
    refine ri_ev_go 4 (pc1 := 8) (L1 := [some (.ref 153), some (.int x1), none]) (st1 := [.long 40, .long (-1), .long (x1).toInt64]) (M1 := ri_M3) (c1 := 0) (s1 := 0) (fun n => rfl) ?_
    refine ri_ev_cls (M1 := ri_M3) (v := some (.int 0)) _ rfl (Or.inl rfl) rfl (Nat.le_of_ble_eq_true rfl) hc2 ?_
    refine ri_ev_go 2 (pc1 := 16) (L1 := [some (.ref 153), some (.int x1), none]) (st1 := [.int (-2)]) (M1 := ri_M3) (c1 := 0) (s1 := 0) (fun n => rfl) ?_
    exact ri_ev_ret (fun n => rfl)
  exact ⟨(-2), _, _, _, hc1, ri_M3_152, hc3⟩
set_option maxRecDepth 100000 in
set_option maxHeartbeats 8000000 in
theorem ro_only_2 (x1 : Int32)  (h1 : x1 < (-1)) : ri_eqi 112 227 [.int x1] := by
  have hc1 : ri_c 19 112 [.ref 1, .int x1] ri_M3 = some (some (.int (-2)), ri_M3, 0, 0) := by
    refine ri_ev_call (N := 5) (L := [some (.ref 1), some (.int x1), none]) rfl (Nat.le_of_ble_eq_true rfl) ?_
    refine ri_ev_go 2 (pc1 := 2) (L1 := [some (.ref 1), some (.int x1), none]) (st1 := [.int (-1), .int x1]) (M1 := ri_M3) (c1 := 0) (s1 := 0) (fun n => rfl) ?_
    refine ri_ic_lt_t (t := 11) rfl h1 rfl ?_
    refine ri_ev_go 1 (pc1 := 13) (L1 := [some (.ref 1), some (.int x1), none]) (st1 := [.int (-2)]) (M1 := ri_M3) (c1 := 0) (s1 := 0) (fun n => rfl) ?_
    exact ri_ev_ret (fun n => rfl)
  have hc3 : ri_c 19 227 [.ref 153, .int x1] ri_M3 = some (some (.int (-2)), ri_M3, 0, 0) := by
    have hc2 : ri_c 18 169 [.long (x1).toInt64, .long (-1), .long 40] ri_M3 = some (some (.int 0), ri_M3, 0, 0) := by
      refine ri_ev_call (N := 6) (L := [some (.long (x1).toInt64), none, some (.long (-1)), none, some (.long 40), none]) rfl (Nat.le_of_ble_eq_true rfl) ?_
      refine ri_ev_go 3 (pc1 := 3) (L1 := [some (.long (x1).toInt64), none, some (.long (-1)), none, some (.long 40), none]) (st1 := [.int (lg_cmp (x1).toInt64 (-1))]) (M1 := ri_M3) (c1 := 0) (s1 := 0) (fun n => rfl) ?_
      refine ri_iz_lt_t (t := 17) rfl ((ri_lc_lt (c := (-1)) rfl).mpr h1) rfl ?_
      refine ri_ev_go 1 (pc1 := 18) (L1 := [some (.long (x1).toInt64), none, some (.long (-1)), none, some (.long 40), none]) (st1 := [.int 0]) (M1 := ri_M3) (c1 := 0) (s1 := 0) (fun n => rfl) ?_
      exact ri_ev_ret (fun n => rfl)
    refine ri_ev_call (N := 8) (L := [some (.ref 153), some (.int x1), none]) rfl (Nat.le_of_ble_eq_true rfl) ?_
    refine ri_ev_go 4 (pc1 := 8) (L1 := [some (.ref 153), some (.int x1), none]) (st1 := [.long 40, .long (-1), .long (x1).toInt64]) (M1 := ri_M3) (c1 := 0) (s1 := 0) (fun n => rfl) ?_
    refine ri_ev_cls (M1 := ri_M3) (v := some (.int 0)) _ rfl (Or.inl rfl) rfl (Nat.le_of_ble_eq_true rfl) hc2 ?_
    refine ri_ev_go 2 (pc1 := 16) (L1 := [some (.ref 153), some (.int x1), none]) (st1 := [.int (-2)]) (M1 := ri_M3) (c1 := 0) (s1 := 0) (fun n => rfl) ?_
    exact ri_ev_ret (fun n => rfl)
  exact ⟨(-2), _, _, _, hc1, ri_M3_152, hc3⟩
theorem ro_only (x1 : Int32)  : ri_eqi 112 227 [.int x1] := by
  by_cases h1 : x1 < (-1)
  · exact ro_only_2 x1  h1
  · by_cases h2 : 40 < x1
    · exact ro_only_1 x1  h1 h2
    · exact ro_only_0 x1  h1 h2
set_option maxRecDepth 100000 in
set_option maxHeartbeats 8000000 in
theorem ro_holds_0 (x1 x2 x3 : Int32)   : ri_eqi 114 236 [.int x1, .int x2, .int x3] := by
  have hc3 : ri_c 19 114 [.ref 1, .int x1, .int x2, .int x3] ri_M3 = some (some (.int (-1)), ri_M3, 0, 0) := by
    have hc2 : ri_c 18 150 [.ref 1, .int x1] ri_M3 = some (some (.null), ri_M3, 0, 0) := by
      have hc1 : ri_c 17 5 [.ref 16] ri_M3 = some (some (.int 0), ri_M3, 0, 0) := by
        refine ri_ev_call (N := 7) (L := [some (.ref 16)]) rfl (Nat.le_of_ble_eq_true rfl) ?_
        refine ri_ev_go 1 (pc1 := 1) (L1 := [some (.ref 16)]) (st1 := [.ref 16]) (M1 := ri_M3) (c1 := 0) (s1 := 0) (fun n => rfl) ?_
        refine ri_ev_gf (k := 15) rfl ri_M3_15 rfl ?_
        refine ri_ev_go 1 (pc1 := 5) (L1 := [some (.ref 16)]) (st1 := [.int 1, .ref 17]) (M1 := ri_M3) (c1 := 0) (s1 := 0) (fun n => rfl) ?_
        refine ri_ev_iald (k := 16) (z := 0) rfl ri_M3_16 (by decide) rfl ?_
        refine ri_ev_go 2 (pc1 := 23) (L1 := [some (.ref 16)]) (st1 := [.int 0]) (M1 := ri_M3) (c1 := 0) (s1 := 0) (fun n => rfl) ?_
        exact ri_ev_ret (fun n => rfl)
      refine ri_ev_call (N := 7) (L := [some (.ref 1), some (.int x1), none]) rfl (Nat.le_of_ble_eq_true rfl) ?_
      refine ri_ev_go 1 (pc1 := 1) (L1 := [some (.ref 1), some (.int x1), none]) (st1 := [.ref 1]) (M1 := ri_M3) (c1 := 0) (s1 := 0) (fun n => rfl) ?_
      refine ri_ev_gf (k := 0) rfl ri_M3_0 rfl ?_
      refine ri_ev_gf (k := 14) rfl ri_M3_14 rfl ?_
      refine ri_ev_clv (k := 15) (M1 := ri_M3) (v := some (.int 0)) _ rfl rfl ri_M3_15 rfl (Nat.le_of_ble_eq_true rfl) hc1 ?_
      refine ri_ev_go 2 (pc1 := 34) (L1 := [some (.ref 1), some (.int x1), none]) (st1 := [.null]) (M1 := ri_M3) (c1 := 0) (s1 := 0) (fun n => rfl) ?_
      exact ri_ev_ret (fun n => rfl)
    refine ri_ev_call (N := 8) (L := [some (.ref 1), some (.int x1), some (.int x2), some (.int x3), none]) rfl (Nat.le_of_ble_eq_true rfl) ?_
    refine ri_ev_go 2 (pc1 := 2) (L1 := [some (.ref 1), some (.int x1), some (.int x2), some (.int x3), none]) (st1 := [.int x1, .ref 1]) (M1 := ri_M3) (c1 := 0) (s1 := 0) (fun n => rfl) ?_
    refine ri_ev_clv (k := 0) (M1 := ri_M3) (v := some (.null)) _ rfl rfl ri_M3_0 rfl (Nat.le_of_ble_eq_true rfl) hc2 ?_
    refine ri_ev_go 4 (pc1 := 41) (L1 := [some (.ref 1), some (.int x1), some (.int x2), some (.int x3), some (.null)]) (st1 := [.int (-1)]) (M1 := ri_M3) (c1 := 0) (s1 := 0) (fun n => rfl) ?_
    exact ri_ev_ret (fun n => rfl)
  have hc6 : ri_c 19 236 [.ref 153, .int x1, .int x2, .int x3] ri_M3 = some (some (.int (-1)), ri_M3, 0, 0) := by
    have hc5 : ri_c 18 233 [.ref 153, .int x1] ri_M3 = some (some (.int 0), ri_M3, 0, 0) := by
      have hc4 : ri_c 17 209 [.ref 153] ri_M3 = some (some (.int 0), ri_M3, 0, 0) := by
        refine ri_ev_call (N := 7) (L := [some (.ref 153)]) rfl (Nat.le_of_ble_eq_true rfl) ?_
        refine ri_ev_go 1 (pc1 := 1) (L1 := [some (.ref 153)]) (st1 := [.ref 153]) (M1 := ri_M3) (c1 := 0) (s1 := 0) (fun n => rfl) ?_
        refine ri_ev_gf (k := 152) rfl ri_M3_152 rfl ?_
        refine ri_ev_go 1 (pc1 := 5) (L1 := [some (.ref 153)]) (st1 := [.int 0, .ref 164]) (M1 := ri_M3) (c1 := 0) (s1 := 0) (fun n => rfl) ?_
        refine ri_ev_iald (k := 163) (z := 0) rfl ri_M3_163 (by decide) rfl ?_
        refine ri_ev_go 2 (pc1 := 14) (L1 := [some (.ref 153)]) (st1 := [.int 0]) (M1 := ri_M3) (c1 := 0) (s1 := 0) (fun n => rfl) ?_
        exact ri_ev_ret (fun n => rfl)
      refine ri_ev_call (N := 5) (L := [some (.ref 153), some (.int x1)]) rfl (Nat.le_of_ble_eq_true rfl) ?_
      refine ri_ev_go 1 (pc1 := 1) (L1 := [some (.ref 153), some (.int x1)]) (st1 := [.ref 153]) (M1 := ri_M3) (c1 := 0) (s1 := 0) (fun n => rfl) ?_
      refine ri_ev_clv (k := 152) (M1 := ri_M3) (v := some (.int 0)) _ rfl rfl ri_M3_152 rfl (Nat.le_of_ble_eq_true rfl) hc4 ?_
      refine ri_ev_go 2 (pc1 := 20) (L1 := [some (.ref 153), some (.int x1)]) (st1 := [.int 0]) (M1 := ri_M3) (c1 := 0) (s1 := 0) (fun n => rfl) ?_
      exact ri_ev_ret (fun n => rfl)
    refine ri_ev_call (N := 6) (L := [some (.ref 153), some (.int x1), some (.int x2), some (.int x3)]) rfl (Nat.le_of_ble_eq_true rfl) ?_
    refine ri_ev_go 2 (pc1 := 2) (L1 := [some (.ref 153), some (.int x1), some (.int x2), some (.int x3)]) (st1 := [.int x1, .ref 153]) (M1 := ri_M3) (c1 := 0) (s1 := 0) (fun n => rfl) ?_
    refine ri_ev_clv (k := 152) (M1 := ri_M3) (v := some (.int 0)) _ rfl rfl ri_M3_152 rfl (Nat.le_of_ble_eq_true rfl) hc5 ?_
    refine ri_ev_go 2 (pc1 := 25) (L1 := [some (.ref 153), some (.int x1), some (.int x2), some (.int x3)]) (st1 := [.int (-1)]) (M1 := ri_M3) (c1 := 0) (s1 := 0) (fun n => rfl) ?_
    exact ri_ev_ret (fun n => rfl)
  exact ⟨(-1), _, _, _, hc3, ri_M3_152, hc6⟩
theorem ro_holds (x1 x2 x3 : Int32)  : ri_eqi 114 236 [.int x1, .int x2, .int x3] := by
  exact ro_holds_0 x1 x2 x3  
set_option maxRecDepth 100000 in
set_option maxHeartbeats 8000000 in
theorem ro_wrong_0 (x1 x2 : Int32)   : ri_eqi 115 237 [.int x1, .int x2] := by
  have hc3 : ri_c 19 115 [.ref 1, .int x1, .int x2] ri_M3 = some (some (.int (-1)), ri_M3, 0, 0) := by
    have hc2 : ri_c 18 150 [.ref 1, .int x1] ri_M3 = some (some (.null), ri_M3, 0, 0) := by
      have hc1 : ri_c 17 5 [.ref 16] ri_M3 = some (some (.int 0), ri_M3, 0, 0) := by
        refine ri_ev_call (N := 7) (L := [some (.ref 16)]) rfl (Nat.le_of_ble_eq_true rfl) ?_
        refine ri_ev_go 1 (pc1 := 1) (L1 := [some (.ref 16)]) (st1 := [.ref 16]) (M1 := ri_M3) (c1 := 0) (s1 := 0) (fun n => rfl) ?_
        refine ri_ev_gf (k := 15) rfl ri_M3_15 rfl ?_
        refine ri_ev_go 1 (pc1 := 5) (L1 := [some (.ref 16)]) (st1 := [.int 1, .ref 17]) (M1 := ri_M3) (c1 := 0) (s1 := 0) (fun n => rfl) ?_
        refine ri_ev_iald (k := 16) (z := 0) rfl ri_M3_16 (by decide) rfl ?_
        refine ri_ev_go 2 (pc1 := 23) (L1 := [some (.ref 16)]) (st1 := [.int 0]) (M1 := ri_M3) (c1 := 0) (s1 := 0) (fun n => rfl) ?_
        exact ri_ev_ret (fun n => rfl)
      refine ri_ev_call (N := 7) (L := [some (.ref 1), some (.int x1), none]) rfl (Nat.le_of_ble_eq_true rfl) ?_
      refine ri_ev_go 1 (pc1 := 1) (L1 := [some (.ref 1), some (.int x1), none]) (st1 := [.ref 1]) (M1 := ri_M3) (c1 := 0) (s1 := 0) (fun n => rfl) ?_
      refine ri_ev_gf (k := 0) rfl ri_M3_0 rfl ?_
      refine ri_ev_gf (k := 14) rfl ri_M3_14 rfl ?_
      refine ri_ev_clv (k := 15) (M1 := ri_M3) (v := some (.int 0)) _ rfl rfl ri_M3_15 rfl (Nat.le_of_ble_eq_true rfl) hc1 ?_
      refine ri_ev_go 2 (pc1 := 34) (L1 := [some (.ref 1), some (.int x1), none]) (st1 := [.null]) (M1 := ri_M3) (c1 := 0) (s1 := 0) (fun n => rfl) ?_
      exact ri_ev_ret (fun n => rfl)
    refine ri_ev_call (N := 8) (L := [some (.ref 1), some (.int x1), some (.int x2), none]) rfl (Nat.le_of_ble_eq_true rfl) ?_
    refine ri_ev_go 2 (pc1 := 2) (L1 := [some (.ref 1), some (.int x1), some (.int x2), none]) (st1 := [.int x1, .ref 1]) (M1 := ri_M3) (c1 := 0) (s1 := 0) (fun n => rfl) ?_
    refine ri_ev_clv (k := 0) (M1 := ri_M3) (v := some (.null)) _ rfl rfl ri_M3_0 rfl (Nat.le_of_ble_eq_true rfl) hc2 ?_
    refine ri_ev_go 4 (pc1 := 28) (L1 := [some (.ref 1), some (.int x1), some (.int x2), some (.null)]) (st1 := [.int (-1)]) (M1 := ri_M3) (c1 := 0) (s1 := 0) (fun n => rfl) ?_
    exact ri_ev_ret (fun n => rfl)
  have hc6 : ri_c 19 237 [.ref 153, .int x1, .int x2] ri_M3 = some (some (.int (-1)), ri_M3, 0, 0) := by
    have hc5 : ri_c 18 233 [.ref 153, .int x1] ri_M3 = some (some (.int 0), ri_M3, 0, 0) := by
      have hc4 : ri_c 17 209 [.ref 153] ri_M3 = some (some (.int 0), ri_M3, 0, 0) := by
        refine ri_ev_call (N := 7) (L := [some (.ref 153)]) rfl (Nat.le_of_ble_eq_true rfl) ?_
        refine ri_ev_go 1 (pc1 := 1) (L1 := [some (.ref 153)]) (st1 := [.ref 153]) (M1 := ri_M3) (c1 := 0) (s1 := 0) (fun n => rfl) ?_
        refine ri_ev_gf (k := 152) rfl ri_M3_152 rfl ?_
        refine ri_ev_go 1 (pc1 := 5) (L1 := [some (.ref 153)]) (st1 := [.int 0, .ref 164]) (M1 := ri_M3) (c1 := 0) (s1 := 0) (fun n => rfl) ?_
        refine ri_ev_iald (k := 163) (z := 0) rfl ri_M3_163 (by decide) rfl ?_
        refine ri_ev_go 2 (pc1 := 14) (L1 := [some (.ref 153)]) (st1 := [.int 0]) (M1 := ri_M3) (c1 := 0) (s1 := 0) (fun n => rfl) ?_
        exact ri_ev_ret (fun n => rfl)
      refine ri_ev_call (N := 5) (L := [some (.ref 153), some (.int x1)]) rfl (Nat.le_of_ble_eq_true rfl) ?_
      refine ri_ev_go 1 (pc1 := 1) (L1 := [some (.ref 153), some (.int x1)]) (st1 := [.ref 153]) (M1 := ri_M3) (c1 := 0) (s1 := 0) (fun n => rfl) ?_
      refine ri_ev_clv (k := 152) (M1 := ri_M3) (v := some (.int 0)) _ rfl rfl ri_M3_152 rfl (Nat.le_of_ble_eq_true rfl) hc4 ?_
      refine ri_ev_go 2 (pc1 := 20) (L1 := [some (.ref 153), some (.int x1)]) (st1 := [.int 0]) (M1 := ri_M3) (c1 := 0) (s1 := 0) (fun n => rfl) ?_
      exact ri_ev_ret (fun n => rfl)
    refine ri_ev_call (N := 6) (L := [some (.ref 153), some (.int x1), some (.int x2)]) rfl (Nat.le_of_ble_eq_true rfl) ?_
    refine ri_ev_go 2 (pc1 := 2) (L1 := [some (.ref 153), some (.int x1), some (.int x2)]) (st1 := [.int x1, .ref 153]) (M1 := ri_M3) (c1 := 0) (s1 := 0) (fun n => rfl) ?_
    refine ri_ev_clv (k := 152) (M1 := ri_M3) (v := some (.int 0)) _ rfl rfl ri_M3_152 rfl (Nat.le_of_ble_eq_true rfl) hc5 ?_
    refine ri_ev_go 2 (pc1 := 17) (L1 := [some (.ref 153), some (.int x1), some (.int x2)]) (st1 := [.int (-1)]) (M1 := ri_M3) (c1 := 0) (s1 := 0) (fun n => rfl) ?_
    exact ri_ev_ret (fun n => rfl)
  exact ⟨(-1), _, _, _, hc3, ri_M3_152, hc6⟩
theorem ro_wrong (x1 x2 : Int32)  : ri_eqi 115 237 [.int x1, .int x2] := by
  exact ro_wrong_0 x1 x2  
set_option maxRecDepth 100000 in
set_option maxHeartbeats 8000000 in
theorem ro_kept_0 (x1 x2 : Int32)   : ri_eqi 116 238 [.int x1, .int x2] := by
  have hc4 : ri_c 19 116 [.ref 1, .int x1, .int x2] ri_M3 = some (some (.int (-1)), ri_M3, 0, 0) := by
    have hc3 : ri_c 18 151 [.ref 1, .int x1, .int x2] ri_M3 = some (some (.null), ri_M3, 0, 0) := by
      have hc2 : ri_c 17 150 [.ref 1, .int x1] ri_M3 = some (some (.null), ri_M3, 0, 0) := by
        have hc1 : ri_c 16 5 [.ref 16] ri_M3 = some (some (.int 0), ri_M3, 0, 0) := by
          refine ri_ev_call (N := 7) (L := [some (.ref 16)]) rfl (Nat.le_of_ble_eq_true rfl) ?_
          refine ri_ev_go 1 (pc1 := 1) (L1 := [some (.ref 16)]) (st1 := [.ref 16]) (M1 := ri_M3) (c1 := 0) (s1 := 0) (fun n => rfl) ?_
          refine ri_ev_gf (k := 15) rfl ri_M3_15 rfl ?_
          refine ri_ev_go 1 (pc1 := 5) (L1 := [some (.ref 16)]) (st1 := [.int 1, .ref 17]) (M1 := ri_M3) (c1 := 0) (s1 := 0) (fun n => rfl) ?_
          refine ri_ev_iald (k := 16) (z := 0) rfl ri_M3_16 (by decide) rfl ?_
          refine ri_ev_go 2 (pc1 := 23) (L1 := [some (.ref 16)]) (st1 := [.int 0]) (M1 := ri_M3) (c1 := 0) (s1 := 0) (fun n => rfl) ?_
          exact ri_ev_ret (fun n => rfl)
        refine ri_ev_call (N := 7) (L := [some (.ref 1), some (.int x1), none]) rfl (Nat.le_of_ble_eq_true rfl) ?_
        refine ri_ev_go 1 (pc1 := 1) (L1 := [some (.ref 1), some (.int x1), none]) (st1 := [.ref 1]) (M1 := ri_M3) (c1 := 0) (s1 := 0) (fun n => rfl) ?_
        refine ri_ev_gf (k := 0) rfl ri_M3_0 rfl ?_
        refine ri_ev_gf (k := 14) rfl ri_M3_14 rfl ?_
        refine ri_ev_clv (k := 15) (M1 := ri_M3) (v := some (.int 0)) _ rfl rfl ri_M3_15 rfl (Nat.le_of_ble_eq_true rfl) hc1 ?_
        refine ri_ev_go 2 (pc1 := 34) (L1 := [some (.ref 1), some (.int x1), none]) (st1 := [.null]) (M1 := ri_M3) (c1 := 0) (s1 := 0) (fun n => rfl) ?_
        exact ri_ev_ret (fun n => rfl)
      refine ri_ev_call (N := 8) (L := [some (.ref 1), some (.int x1), some (.int x2), none]) rfl (Nat.le_of_ble_eq_true rfl) ?_
      refine ri_ev_go 2 (pc1 := 2) (L1 := [some (.ref 1), some (.int x1), some (.int x2), none]) (st1 := [.int x1, .ref 1]) (M1 := ri_M3) (c1 := 0) (s1 := 0) (fun n => rfl) ?_
      refine ri_ev_clv (k := 0) (M1 := ri_M3) (v := some (.null)) _ rfl rfl ri_M3_0 rfl (Nat.le_of_ble_eq_true rfl) hc2 ?_
      refine ri_ev_go 4 (pc1 := 20) (L1 := [some (.ref 1), some (.int x1), some (.int x2), some (.null)]) (st1 := [.null]) (M1 := ri_M3) (c1 := 0) (s1 := 0) (fun n => rfl) ?_
      exact ri_ev_ret (fun n => rfl)
    refine ri_ev_call (N := 10) (L := [some (.ref 1), some (.int x1), some (.int x2), none]) rfl (Nat.le_of_ble_eq_true rfl) ?_
    refine ri_ev_go 3 (pc1 := 3) (L1 := [some (.ref 1), some (.int x1), some (.int x2), none]) (st1 := [.int x2, .int x1, .ref 1]) (M1 := ri_M3) (c1 := 0) (s1 := 0) (fun n => rfl) ?_
    refine ri_ev_clv (k := 0) (M1 := ri_M3) (v := some (.null)) _ rfl rfl ri_M3_0 rfl (Nat.le_of_ble_eq_true rfl) hc3 ?_
    refine ri_ev_go 5 (pc1 := 22) (L1 := [some (.ref 1), some (.int x1), some (.int x2), some (.null)]) (st1 := [.int (-1)]) (M1 := ri_M3) (c1 := 0) (s1 := 0) (fun n => rfl) ?_
    exact ri_ev_ret (fun n => rfl)
  have hc7 : ri_c 19 238 [.ref 153, .int x1, .int x2] ri_M3 = some (some (.int (-1)), ri_M3, 0, 0) := by
    have hc6 : ri_c 18 233 [.ref 153, .int x1] ri_M3 = some (some (.int 0), ri_M3, 0, 0) := by
      have hc5 : ri_c 17 209 [.ref 153] ri_M3 = some (some (.int 0), ri_M3, 0, 0) := by
        refine ri_ev_call (N := 7) (L := [some (.ref 153)]) rfl (Nat.le_of_ble_eq_true rfl) ?_
        refine ri_ev_go 1 (pc1 := 1) (L1 := [some (.ref 153)]) (st1 := [.ref 153]) (M1 := ri_M3) (c1 := 0) (s1 := 0) (fun n => rfl) ?_
        refine ri_ev_gf (k := 152) rfl ri_M3_152 rfl ?_
        refine ri_ev_go 1 (pc1 := 5) (L1 := [some (.ref 153)]) (st1 := [.int 0, .ref 164]) (M1 := ri_M3) (c1 := 0) (s1 := 0) (fun n => rfl) ?_
        refine ri_ev_iald (k := 163) (z := 0) rfl ri_M3_163 (by decide) rfl ?_
        refine ri_ev_go 2 (pc1 := 14) (L1 := [some (.ref 153)]) (st1 := [.int 0]) (M1 := ri_M3) (c1 := 0) (s1 := 0) (fun n => rfl) ?_
        exact ri_ev_ret (fun n => rfl)
      refine ri_ev_call (N := 5) (L := [some (.ref 153), some (.int x1)]) rfl (Nat.le_of_ble_eq_true rfl) ?_
      refine ri_ev_go 1 (pc1 := 1) (L1 := [some (.ref 153), some (.int x1)]) (st1 := [.ref 153]) (M1 := ri_M3) (c1 := 0) (s1 := 0) (fun n => rfl) ?_
      refine ri_ev_clv (k := 152) (M1 := ri_M3) (v := some (.int 0)) _ rfl rfl ri_M3_152 rfl (Nat.le_of_ble_eq_true rfl) hc5 ?_
      refine ri_ev_go 2 (pc1 := 20) (L1 := [some (.ref 153), some (.int x1)]) (st1 := [.int 0]) (M1 := ri_M3) (c1 := 0) (s1 := 0) (fun n => rfl) ?_
      exact ri_ev_ret (fun n => rfl)
    refine ri_ev_call (N := 6) (L := [some (.ref 153), some (.int x1), some (.int x2)]) rfl (Nat.le_of_ble_eq_true rfl) ?_
    refine ri_ev_go 2 (pc1 := 2) (L1 := [some (.ref 153), some (.int x1), some (.int x2)]) (st1 := [.int x1, .ref 153]) (M1 := ri_M3) (c1 := 0) (s1 := 0) (fun n => rfl) ?_
    refine ri_ev_clv (k := 152) (M1 := ri_M3) (v := some (.int 0)) _ rfl rfl ri_M3_152 rfl (Nat.le_of_ble_eq_true rfl) hc6 ?_
    refine ri_ev_go 2 (pc1 := 26) (L1 := [some (.ref 153), some (.int x1), some (.int x2)]) (st1 := [.int (-1)]) (M1 := ri_M3) (c1 := 0) (s1 := 0) (fun n => rfl) ?_
    exact ri_ev_ret (fun n => rfl)
  exact ⟨(-1), _, _, _, hc4, ri_M3_152, hc7⟩
theorem ro_kept (x1 x2 : Int32)  : ri_eqi 116 238 [.int x1, .int x2] := by
  exact ro_kept_0 x1 x2  
set_option maxRecDepth 100000 in
set_option maxHeartbeats 8000000 in
theorem ro_world_0 (x1 x2 x3 : Int32)   : ri_eqi 117 239 [.int x1, .int x2, .int x3] := by
  have hc4 : ri_c 19 117 [.ref 1, .int x1, .int x2, .int x3] ri_M3 = some (some (.int (-1)), ri_M3, 0, 0) := by
    have hc3 : ri_c 18 151 [.ref 1, .int x1, .int x2] ri_M3 = some (some (.null), ri_M3, 0, 0) := by
      have hc2 : ri_c 17 150 [.ref 1, .int x1] ri_M3 = some (some (.null), ri_M3, 0, 0) := by
        have hc1 : ri_c 16 5 [.ref 16] ri_M3 = some (some (.int 0), ri_M3, 0, 0) := by
          refine ri_ev_call (N := 7) (L := [some (.ref 16)]) rfl (Nat.le_of_ble_eq_true rfl) ?_
          refine ri_ev_go 1 (pc1 := 1) (L1 := [some (.ref 16)]) (st1 := [.ref 16]) (M1 := ri_M3) (c1 := 0) (s1 := 0) (fun n => rfl) ?_
          refine ri_ev_gf (k := 15) rfl ri_M3_15 rfl ?_
          refine ri_ev_go 1 (pc1 := 5) (L1 := [some (.ref 16)]) (st1 := [.int 1, .ref 17]) (M1 := ri_M3) (c1 := 0) (s1 := 0) (fun n => rfl) ?_
          refine ri_ev_iald (k := 16) (z := 0) rfl ri_M3_16 (by decide) rfl ?_
          refine ri_ev_go 2 (pc1 := 23) (L1 := [some (.ref 16)]) (st1 := [.int 0]) (M1 := ri_M3) (c1 := 0) (s1 := 0) (fun n => rfl) ?_
          exact ri_ev_ret (fun n => rfl)
        refine ri_ev_call (N := 7) (L := [some (.ref 1), some (.int x1), none]) rfl (Nat.le_of_ble_eq_true rfl) ?_
        refine ri_ev_go 1 (pc1 := 1) (L1 := [some (.ref 1), some (.int x1), none]) (st1 := [.ref 1]) (M1 := ri_M3) (c1 := 0) (s1 := 0) (fun n => rfl) ?_
        refine ri_ev_gf (k := 0) rfl ri_M3_0 rfl ?_
        refine ri_ev_gf (k := 14) rfl ri_M3_14 rfl ?_
        refine ri_ev_clv (k := 15) (M1 := ri_M3) (v := some (.int 0)) _ rfl rfl ri_M3_15 rfl (Nat.le_of_ble_eq_true rfl) hc1 ?_
        refine ri_ev_go 2 (pc1 := 34) (L1 := [some (.ref 1), some (.int x1), none]) (st1 := [.null]) (M1 := ri_M3) (c1 := 0) (s1 := 0) (fun n => rfl) ?_
        exact ri_ev_ret (fun n => rfl)
      refine ri_ev_call (N := 8) (L := [some (.ref 1), some (.int x1), some (.int x2), none]) rfl (Nat.le_of_ble_eq_true rfl) ?_
      refine ri_ev_go 2 (pc1 := 2) (L1 := [some (.ref 1), some (.int x1), some (.int x2), none]) (st1 := [.int x1, .ref 1]) (M1 := ri_M3) (c1 := 0) (s1 := 0) (fun n => rfl) ?_
      refine ri_ev_clv (k := 0) (M1 := ri_M3) (v := some (.null)) _ rfl rfl ri_M3_0 rfl (Nat.le_of_ble_eq_true rfl) hc2 ?_
      refine ri_ev_go 4 (pc1 := 20) (L1 := [some (.ref 1), some (.int x1), some (.int x2), some (.null)]) (st1 := [.null]) (M1 := ri_M3) (c1 := 0) (s1 := 0) (fun n => rfl) ?_
      exact ri_ev_ret (fun n => rfl)
    refine ri_ev_call (N := 9) (L := [some (.ref 1), some (.int x1), some (.int x2), some (.int x3), none, none, none]) rfl (Nat.le_of_ble_eq_true rfl) ?_
    refine ri_ev_go 3 (pc1 := 3) (L1 := [some (.ref 1), some (.int x1), some (.int x2), some (.int x3), none, none, none]) (st1 := [.int x2, .int x1, .ref 1]) (M1 := ri_M3) (c1 := 0) (s1 := 0) (fun n => rfl) ?_
    refine ri_ev_clv (k := 0) (M1 := ri_M3) (v := some (.null)) _ rfl rfl ri_M3_0 rfl (Nat.le_of_ble_eq_true rfl) hc3 ?_
    refine ri_ev_go 4 (pc1 := 14) (L1 := [some (.ref 1), some (.int x1), some (.int x2), some (.int x3), some (.null), none, none]) (st1 := [.int (-1)]) (M1 := ri_M3) (c1 := 0) (s1 := 0) (fun n => rfl) ?_
    exact ri_ev_ret (fun n => rfl)
  have hc7 : ri_c 19 239 [.ref 153, .int x1, .int x2, .int x3] ri_M3 = some (some (.int (-1)), ri_M3, 0, 0) := by
    have hc6 : ri_c 18 233 [.ref 153, .int x1] ri_M3 = some (some (.int 0), ri_M3, 0, 0) := by
      have hc5 : ri_c 17 209 [.ref 153] ri_M3 = some (some (.int 0), ri_M3, 0, 0) := by
        refine ri_ev_call (N := 7) (L := [some (.ref 153)]) rfl (Nat.le_of_ble_eq_true rfl) ?_
        refine ri_ev_go 1 (pc1 := 1) (L1 := [some (.ref 153)]) (st1 := [.ref 153]) (M1 := ri_M3) (c1 := 0) (s1 := 0) (fun n => rfl) ?_
        refine ri_ev_gf (k := 152) rfl ri_M3_152 rfl ?_
        refine ri_ev_go 1 (pc1 := 5) (L1 := [some (.ref 153)]) (st1 := [.int 0, .ref 164]) (M1 := ri_M3) (c1 := 0) (s1 := 0) (fun n => rfl) ?_
        refine ri_ev_iald (k := 163) (z := 0) rfl ri_M3_163 (by decide) rfl ?_
        refine ri_ev_go 2 (pc1 := 14) (L1 := [some (.ref 153)]) (st1 := [.int 0]) (M1 := ri_M3) (c1 := 0) (s1 := 0) (fun n => rfl) ?_
        exact ri_ev_ret (fun n => rfl)
      refine ri_ev_call (N := 5) (L := [some (.ref 153), some (.int x1)]) rfl (Nat.le_of_ble_eq_true rfl) ?_
      refine ri_ev_go 1 (pc1 := 1) (L1 := [some (.ref 153), some (.int x1)]) (st1 := [.ref 153]) (M1 := ri_M3) (c1 := 0) (s1 := 0) (fun n => rfl) ?_
      refine ri_ev_clv (k := 152) (M1 := ri_M3) (v := some (.int 0)) _ rfl rfl ri_M3_152 rfl (Nat.le_of_ble_eq_true rfl) hc5 ?_
      refine ri_ev_go 2 (pc1 := 20) (L1 := [some (.ref 153), some (.int x1)]) (st1 := [.int 0]) (M1 := ri_M3) (c1 := 0) (s1 := 0) (fun n => rfl) ?_
      exact ri_ev_ret (fun n => rfl)
    refine ri_ev_call (N := 6) (L := [some (.ref 153), some (.int x1), some (.int x2), some (.int x3), none, none]) rfl (Nat.le_of_ble_eq_true rfl) ?_
    refine ri_ev_go 2 (pc1 := 2) (L1 := [some (.ref 153), some (.int x1), some (.int x2), some (.int x3), none, none]) (st1 := [.int x1, .ref 153]) (M1 := ri_M3) (c1 := 0) (s1 := 0) (fun n => rfl) ?_
    refine ri_ev_clv (k := 152) (M1 := ri_M3) (v := some (.int 0)) _ rfl rfl ri_M3_152 rfl (Nat.le_of_ble_eq_true rfl) hc6 ?_
    refine ri_ev_go 2 (pc1 := 20) (L1 := [some (.ref 153), some (.int x1), some (.int x2), some (.int x3), none, none]) (st1 := [.int (-1)]) (M1 := ri_M3) (c1 := 0) (s1 := 0) (fun n => rfl) ?_
    exact ri_ev_ret (fun n => rfl)
  exact ⟨(-1), _, _, _, hc4, ri_M3_152, hc7⟩
theorem ro_world (x1 x2 x3 : Int32)  : ri_eqi 117 239 [.int x1, .int x2, .int x3] := by
  exact ro_world_0 x1 x2 x3  
set_option maxRecDepth 100000 in
set_option maxHeartbeats 8000000 in
theorem ro_may_0 (x1 x2 x3 x4 : Int32)   : ri_eqi 118 241 [.int x1, .int x2, .int x3, .int x4] := by
  have hc4 : ri_c 19 118 [.ref 1, .int x1, .int x2, .int x3, .int x4] ri_M3 = some (some (.int (-1)), ri_M3, 0, 0) := by
    have hc3 : ri_c 18 151 [.ref 1, .int x1, .int x2] ri_M3 = some (some (.null), ri_M3, 0, 0) := by
      have hc2 : ri_c 17 150 [.ref 1, .int x1] ri_M3 = some (some (.null), ri_M3, 0, 0) := by
        have hc1 : ri_c 16 5 [.ref 16] ri_M3 = some (some (.int 0), ri_M3, 0, 0) := by
          refine ri_ev_call (N := 7) (L := [some (.ref 16)]) rfl (Nat.le_of_ble_eq_true rfl) ?_
          refine ri_ev_go 1 (pc1 := 1) (L1 := [some (.ref 16)]) (st1 := [.ref 16]) (M1 := ri_M3) (c1 := 0) (s1 := 0) (fun n => rfl) ?_
          refine ri_ev_gf (k := 15) rfl ri_M3_15 rfl ?_
          refine ri_ev_go 1 (pc1 := 5) (L1 := [some (.ref 16)]) (st1 := [.int 1, .ref 17]) (M1 := ri_M3) (c1 := 0) (s1 := 0) (fun n => rfl) ?_
          refine ri_ev_iald (k := 16) (z := 0) rfl ri_M3_16 (by decide) rfl ?_
          refine ri_ev_go 2 (pc1 := 23) (L1 := [some (.ref 16)]) (st1 := [.int 0]) (M1 := ri_M3) (c1 := 0) (s1 := 0) (fun n => rfl) ?_
          exact ri_ev_ret (fun n => rfl)
        refine ri_ev_call (N := 7) (L := [some (.ref 1), some (.int x1), none]) rfl (Nat.le_of_ble_eq_true rfl) ?_
        refine ri_ev_go 1 (pc1 := 1) (L1 := [some (.ref 1), some (.int x1), none]) (st1 := [.ref 1]) (M1 := ri_M3) (c1 := 0) (s1 := 0) (fun n => rfl) ?_
        refine ri_ev_gf (k := 0) rfl ri_M3_0 rfl ?_
        refine ri_ev_gf (k := 14) rfl ri_M3_14 rfl ?_
        refine ri_ev_clv (k := 15) (M1 := ri_M3) (v := some (.int 0)) _ rfl rfl ri_M3_15 rfl (Nat.le_of_ble_eq_true rfl) hc1 ?_
        refine ri_ev_go 2 (pc1 := 34) (L1 := [some (.ref 1), some (.int x1), none]) (st1 := [.null]) (M1 := ri_M3) (c1 := 0) (s1 := 0) (fun n => rfl) ?_
        exact ri_ev_ret (fun n => rfl)
      refine ri_ev_call (N := 8) (L := [some (.ref 1), some (.int x1), some (.int x2), none]) rfl (Nat.le_of_ble_eq_true rfl) ?_
      refine ri_ev_go 2 (pc1 := 2) (L1 := [some (.ref 1), some (.int x1), some (.int x2), none]) (st1 := [.int x1, .ref 1]) (M1 := ri_M3) (c1 := 0) (s1 := 0) (fun n => rfl) ?_
      refine ri_ev_clv (k := 0) (M1 := ri_M3) (v := some (.null)) _ rfl rfl ri_M3_0 rfl (Nat.le_of_ble_eq_true rfl) hc2 ?_
      refine ri_ev_go 4 (pc1 := 20) (L1 := [some (.ref 1), some (.int x1), some (.int x2), some (.null)]) (st1 := [.null]) (M1 := ri_M3) (c1 := 0) (s1 := 0) (fun n => rfl) ?_
      exact ri_ev_ret (fun n => rfl)
    refine ri_ev_call (N := 9) (L := [some (.ref 1), some (.int x1), some (.int x2), some (.int x3), some (.int x4), none]) rfl (Nat.le_of_ble_eq_true rfl) ?_
    refine ri_ev_go 3 (pc1 := 3) (L1 := [some (.ref 1), some (.int x1), some (.int x2), some (.int x3), some (.int x4), none]) (st1 := [.int x2, .int x1, .ref 1]) (M1 := ri_M3) (c1 := 0) (s1 := 0) (fun n => rfl) ?_
    refine ri_ev_clv (k := 0) (M1 := ri_M3) (v := some (.null)) _ rfl rfl ri_M3_0 rfl (Nat.le_of_ble_eq_true rfl) hc3 ?_
    refine ri_ev_go 4 (pc1 := 30) (L1 := [some (.ref 1), some (.int x1), some (.int x2), some (.int x3), some (.int x4), some (.null)]) (st1 := [.int (-1)]) (M1 := ri_M3) (c1 := 0) (s1 := 0) (fun n => rfl) ?_
    exact ri_ev_ret (fun n => rfl)
  have hc7 : ri_c 19 241 [.ref 153, .int x1, .int x2, .int x3, .int x4] ri_M3 = some (some (.int (-1)), ri_M3, 0, 0) := by
    have hc6 : ri_c 18 233 [.ref 153, .int x1] ri_M3 = some (some (.int 0), ri_M3, 0, 0) := by
      have hc5 : ri_c 17 209 [.ref 153] ri_M3 = some (some (.int 0), ri_M3, 0, 0) := by
        refine ri_ev_call (N := 7) (L := [some (.ref 153)]) rfl (Nat.le_of_ble_eq_true rfl) ?_
        refine ri_ev_go 1 (pc1 := 1) (L1 := [some (.ref 153)]) (st1 := [.ref 153]) (M1 := ri_M3) (c1 := 0) (s1 := 0) (fun n => rfl) ?_
        refine ri_ev_gf (k := 152) rfl ri_M3_152 rfl ?_
        refine ri_ev_go 1 (pc1 := 5) (L1 := [some (.ref 153)]) (st1 := [.int 0, .ref 164]) (M1 := ri_M3) (c1 := 0) (s1 := 0) (fun n => rfl) ?_
        refine ri_ev_iald (k := 163) (z := 0) rfl ri_M3_163 (by decide) rfl ?_
        refine ri_ev_go 2 (pc1 := 14) (L1 := [some (.ref 153)]) (st1 := [.int 0]) (M1 := ri_M3) (c1 := 0) (s1 := 0) (fun n => rfl) ?_
        exact ri_ev_ret (fun n => rfl)
      refine ri_ev_call (N := 5) (L := [some (.ref 153), some (.int x1)]) rfl (Nat.le_of_ble_eq_true rfl) ?_
      refine ri_ev_go 1 (pc1 := 1) (L1 := [some (.ref 153), some (.int x1)]) (st1 := [.ref 153]) (M1 := ri_M3) (c1 := 0) (s1 := 0) (fun n => rfl) ?_
      refine ri_ev_clv (k := 152) (M1 := ri_M3) (v := some (.int 0)) _ rfl rfl ri_M3_152 rfl (Nat.le_of_ble_eq_true rfl) hc5 ?_
      refine ri_ev_go 2 (pc1 := 20) (L1 := [some (.ref 153), some (.int x1)]) (st1 := [.int 0]) (M1 := ri_M3) (c1 := 0) (s1 := 0) (fun n => rfl) ?_
      exact ri_ev_ret (fun n => rfl)
    refine ri_ev_call (N := 6) (L := [some (.ref 153), some (.int x1), some (.int x2), some (.int x3), some (.int x4)]) rfl (Nat.le_of_ble_eq_true rfl) ?_
    refine ri_ev_go 2 (pc1 := 2) (L1 := [some (.ref 153), some (.int x1), some (.int x2), some (.int x3), some (.int x4)]) (st1 := [.int x1, .ref 153]) (M1 := ri_M3) (c1 := 0) (s1 := 0) (fun n => rfl) ?_
    refine ri_ev_clv (k := 152) (M1 := ri_M3) (v := some (.int 0)) _ rfl rfl ri_M3_152 rfl (Nat.le_of_ble_eq_true rfl) hc6 ?_
    refine ri_ev_go 2 (pc1 := 26) (L1 := [some (.ref 153), some (.int x1), some (.int x2), some (.int x3), some (.int x4)]) (st1 := [.int (-1)]) (M1 := ri_M3) (c1 := 0) (s1 := 0) (fun n => rfl) ?_
    exact ri_ev_ret (fun n => rfl)
  exact ⟨(-1), _, _, _, hc4, ri_M3_152, hc7⟩
theorem ro_may (x1 x2 x3 x4 : Int32)  : ri_eqi 118 241 [.int x1, .int x2, .int x3, .int x4] := by
  exact ro_may_0 x1 x2 x3 x4  
set_option maxRecDepth 100000 in
set_option maxHeartbeats 8000000 in
theorem ro_cleared_0 (x1 x2 : Int32)   : ri_eqi 119 242 [.int x1, .int x2] := by
  have hc4 : ri_c 19 119 [.ref 1, .int x1, .int x2] ri_M3 = some (some (.int (-1)), ri_M3, 0, 0) := by
    have hc3 : ri_c 18 151 [.ref 1, .int x1, .int x2] ri_M3 = some (some (.null), ri_M3, 0, 0) := by
      have hc2 : ri_c 17 150 [.ref 1, .int x1] ri_M3 = some (some (.null), ri_M3, 0, 0) := by
        have hc1 : ri_c 16 5 [.ref 16] ri_M3 = some (some (.int 0), ri_M3, 0, 0) := by
          refine ri_ev_call (N := 7) (L := [some (.ref 16)]) rfl (Nat.le_of_ble_eq_true rfl) ?_
          refine ri_ev_go 1 (pc1 := 1) (L1 := [some (.ref 16)]) (st1 := [.ref 16]) (M1 := ri_M3) (c1 := 0) (s1 := 0) (fun n => rfl) ?_
          refine ri_ev_gf (k := 15) rfl ri_M3_15 rfl ?_
          refine ri_ev_go 1 (pc1 := 5) (L1 := [some (.ref 16)]) (st1 := [.int 1, .ref 17]) (M1 := ri_M3) (c1 := 0) (s1 := 0) (fun n => rfl) ?_
          refine ri_ev_iald (k := 16) (z := 0) rfl ri_M3_16 (by decide) rfl ?_
          refine ri_ev_go 2 (pc1 := 23) (L1 := [some (.ref 16)]) (st1 := [.int 0]) (M1 := ri_M3) (c1 := 0) (s1 := 0) (fun n => rfl) ?_
          exact ri_ev_ret (fun n => rfl)
        refine ri_ev_call (N := 7) (L := [some (.ref 1), some (.int x1), none]) rfl (Nat.le_of_ble_eq_true rfl) ?_
        refine ri_ev_go 1 (pc1 := 1) (L1 := [some (.ref 1), some (.int x1), none]) (st1 := [.ref 1]) (M1 := ri_M3) (c1 := 0) (s1 := 0) (fun n => rfl) ?_
        refine ri_ev_gf (k := 0) rfl ri_M3_0 rfl ?_
        refine ri_ev_gf (k := 14) rfl ri_M3_14 rfl ?_
        refine ri_ev_clv (k := 15) (M1 := ri_M3) (v := some (.int 0)) _ rfl rfl ri_M3_15 rfl (Nat.le_of_ble_eq_true rfl) hc1 ?_
        refine ri_ev_go 2 (pc1 := 34) (L1 := [some (.ref 1), some (.int x1), none]) (st1 := [.null]) (M1 := ri_M3) (c1 := 0) (s1 := 0) (fun n => rfl) ?_
        exact ri_ev_ret (fun n => rfl)
      refine ri_ev_call (N := 8) (L := [some (.ref 1), some (.int x1), some (.int x2), none]) rfl (Nat.le_of_ble_eq_true rfl) ?_
      refine ri_ev_go 2 (pc1 := 2) (L1 := [some (.ref 1), some (.int x1), some (.int x2), none]) (st1 := [.int x1, .ref 1]) (M1 := ri_M3) (c1 := 0) (s1 := 0) (fun n => rfl) ?_
      refine ri_ev_clv (k := 0) (M1 := ri_M3) (v := some (.null)) _ rfl rfl ri_M3_0 rfl (Nat.le_of_ble_eq_true rfl) hc2 ?_
      refine ri_ev_go 4 (pc1 := 20) (L1 := [some (.ref 1), some (.int x1), some (.int x2), some (.null)]) (st1 := [.null]) (M1 := ri_M3) (c1 := 0) (s1 := 0) (fun n => rfl) ?_
      exact ri_ev_ret (fun n => rfl)
    refine ri_ev_call (N := 9) (L := [some (.ref 1), some (.int x1), some (.int x2), none]) rfl (Nat.le_of_ble_eq_true rfl) ?_
    refine ri_ev_go 3 (pc1 := 3) (L1 := [some (.ref 1), some (.int x1), some (.int x2), none]) (st1 := [.int x2, .int x1, .ref 1]) (M1 := ri_M3) (c1 := 0) (s1 := 0) (fun n => rfl) ?_
    refine ri_ev_clv (k := 0) (M1 := ri_M3) (v := some (.null)) _ rfl rfl ri_M3_0 rfl (Nat.le_of_ble_eq_true rfl) hc3 ?_
    refine ri_ev_go 4 (pc1 := 12) (L1 := [some (.ref 1), some (.int x1), some (.int x2), some (.null)]) (st1 := [.int (-1)]) (M1 := ri_M3) (c1 := 0) (s1 := 0) (fun n => rfl) ?_
    exact ri_ev_ret (fun n => rfl)
  have hc7 : ri_c 19 242 [.ref 153, .int x1, .int x2] ri_M3 = some (some (.int (-1)), ri_M3, 0, 0) := by
    have hc6 : ri_c 18 233 [.ref 153, .int x1] ri_M3 = some (some (.int 0), ri_M3, 0, 0) := by
      have hc5 : ri_c 17 209 [.ref 153] ri_M3 = some (some (.int 0), ri_M3, 0, 0) := by
        refine ri_ev_call (N := 7) (L := [some (.ref 153)]) rfl (Nat.le_of_ble_eq_true rfl) ?_
        refine ri_ev_go 1 (pc1 := 1) (L1 := [some (.ref 153)]) (st1 := [.ref 153]) (M1 := ri_M3) (c1 := 0) (s1 := 0) (fun n => rfl) ?_
        refine ri_ev_gf (k := 152) rfl ri_M3_152 rfl ?_
        refine ri_ev_go 1 (pc1 := 5) (L1 := [some (.ref 153)]) (st1 := [.int 0, .ref 164]) (M1 := ri_M3) (c1 := 0) (s1 := 0) (fun n => rfl) ?_
        refine ri_ev_iald (k := 163) (z := 0) rfl ri_M3_163 (by decide) rfl ?_
        refine ri_ev_go 2 (pc1 := 14) (L1 := [some (.ref 153)]) (st1 := [.int 0]) (M1 := ri_M3) (c1 := 0) (s1 := 0) (fun n => rfl) ?_
        exact ri_ev_ret (fun n => rfl)
      refine ri_ev_call (N := 5) (L := [some (.ref 153), some (.int x1)]) rfl (Nat.le_of_ble_eq_true rfl) ?_
      refine ri_ev_go 1 (pc1 := 1) (L1 := [some (.ref 153), some (.int x1)]) (st1 := [.ref 153]) (M1 := ri_M3) (c1 := 0) (s1 := 0) (fun n => rfl) ?_
      refine ri_ev_clv (k := 152) (M1 := ri_M3) (v := some (.int 0)) _ rfl rfl ri_M3_152 rfl (Nat.le_of_ble_eq_true rfl) hc5 ?_
      refine ri_ev_go 2 (pc1 := 20) (L1 := [some (.ref 153), some (.int x1)]) (st1 := [.int 0]) (M1 := ri_M3) (c1 := 0) (s1 := 0) (fun n => rfl) ?_
      exact ri_ev_ret (fun n => rfl)
    refine ri_ev_call (N := 6) (L := [some (.ref 153), some (.int x1), some (.int x2), none, none]) rfl (Nat.le_of_ble_eq_true rfl) ?_
    refine ri_ev_go 2 (pc1 := 2) (L1 := [some (.ref 153), some (.int x1), some (.int x2), none, none]) (st1 := [.int x1, .ref 153]) (M1 := ri_M3) (c1 := 0) (s1 := 0) (fun n => rfl) ?_
    refine ri_ev_clv (k := 152) (M1 := ri_M3) (v := some (.int 0)) _ rfl rfl ri_M3_152 rfl (Nat.le_of_ble_eq_true rfl) hc6 ?_
    refine ri_ev_go 2 (pc1 := 16) (L1 := [some (.ref 153), some (.int x1), some (.int x2), none, none]) (st1 := [.int (-1)]) (M1 := ri_M3) (c1 := 0) (s1 := 0) (fun n => rfl) ?_
    exact ri_ev_ret (fun n => rfl)
  exact ⟨(-1), _, _, _, hc4, ri_M3_152, hc7⟩
theorem ro_cleared (x1 x2 : Int32)  : ri_eqi 119 242 [.int x1, .int x2] := by
  exact ro_cleared_0 x1 x2  
set_option maxRecDepth 100000 in
set_option maxHeartbeats 8000000 in
theorem ro_fewest_0 (x1 x2 : Int32)   : ri_eqi 120 244 [.int x1, .int x2] := by
  have hc3 : ri_c 19 120 [.ref 1, .int x1, .int x2] ri_M3 = some (some (.int (-1)), ri_M3, 0, 0) := by
    have hc2 : ri_c 18 150 [.ref 1, .int x1] ri_M3 = some (some (.null), ri_M3, 0, 0) := by
      have hc1 : ri_c 17 5 [.ref 16] ri_M3 = some (some (.int 0), ri_M3, 0, 0) := by
        refine ri_ev_call (N := 7) (L := [some (.ref 16)]) rfl (Nat.le_of_ble_eq_true rfl) ?_
        refine ri_ev_go 1 (pc1 := 1) (L1 := [some (.ref 16)]) (st1 := [.ref 16]) (M1 := ri_M3) (c1 := 0) (s1 := 0) (fun n => rfl) ?_
        refine ri_ev_gf (k := 15) rfl ri_M3_15 rfl ?_
        refine ri_ev_go 1 (pc1 := 5) (L1 := [some (.ref 16)]) (st1 := [.int 1, .ref 17]) (M1 := ri_M3) (c1 := 0) (s1 := 0) (fun n => rfl) ?_
        refine ri_ev_iald (k := 16) (z := 0) rfl ri_M3_16 (by decide) rfl ?_
        refine ri_ev_go 2 (pc1 := 23) (L1 := [some (.ref 16)]) (st1 := [.int 0]) (M1 := ri_M3) (c1 := 0) (s1 := 0) (fun n => rfl) ?_
        exact ri_ev_ret (fun n => rfl)
      refine ri_ev_call (N := 7) (L := [some (.ref 1), some (.int x1), none]) rfl (Nat.le_of_ble_eq_true rfl) ?_
      refine ri_ev_go 1 (pc1 := 1) (L1 := [some (.ref 1), some (.int x1), none]) (st1 := [.ref 1]) (M1 := ri_M3) (c1 := 0) (s1 := 0) (fun n => rfl) ?_
      refine ri_ev_gf (k := 0) rfl ri_M3_0 rfl ?_
      refine ri_ev_gf (k := 14) rfl ri_M3_14 rfl ?_
      refine ri_ev_clv (k := 15) (M1 := ri_M3) (v := some (.int 0)) _ rfl rfl ri_M3_15 rfl (Nat.le_of_ble_eq_true rfl) hc1 ?_
      refine ri_ev_go 2 (pc1 := 34) (L1 := [some (.ref 1), some (.int x1), none]) (st1 := [.null]) (M1 := ri_M3) (c1 := 0) (s1 := 0) (fun n => rfl) ?_
      exact ri_ev_ret (fun n => rfl)
    refine ri_ev_call (N := 8) (L := [some (.ref 1), some (.int x1), some (.int x2), none, none, none]) rfl (Nat.le_of_ble_eq_true rfl) ?_
    refine ri_ev_go 2 (pc1 := 2) (L1 := [some (.ref 1), some (.int x1), some (.int x2), none, none, none]) (st1 := [.int x1, .ref 1]) (M1 := ri_M3) (c1 := 0) (s1 := 0) (fun n => rfl) ?_
    refine ri_ev_clv (k := 0) (M1 := ri_M3) (v := some (.null)) _ rfl rfl ri_M3_0 rfl (Nat.le_of_ble_eq_true rfl) hc2 ?_
    refine ri_ev_go 4 (pc1 := 19) (L1 := [some (.ref 1), some (.int x1), some (.int x2), some (.null), none, none]) (st1 := [.int (-1)]) (M1 := ri_M3) (c1 := 0) (s1 := 0) (fun n => rfl) ?_
    exact ri_ev_ret (fun n => rfl)
  have hc6 : ri_c 19 244 [.ref 153, .int x1, .int x2] ri_M3 = some (some (.int (-1)), ri_M3, 0, 0) := by
    have hc5 : ri_c 18 233 [.ref 153, .int x1] ri_M3 = some (some (.int 0), ri_M3, 0, 0) := by
      have hc4 : ri_c 17 209 [.ref 153] ri_M3 = some (some (.int 0), ri_M3, 0, 0) := by
        refine ri_ev_call (N := 7) (L := [some (.ref 153)]) rfl (Nat.le_of_ble_eq_true rfl) ?_
        refine ri_ev_go 1 (pc1 := 1) (L1 := [some (.ref 153)]) (st1 := [.ref 153]) (M1 := ri_M3) (c1 := 0) (s1 := 0) (fun n => rfl) ?_
        refine ri_ev_gf (k := 152) rfl ri_M3_152 rfl ?_
        refine ri_ev_go 1 (pc1 := 5) (L1 := [some (.ref 153)]) (st1 := [.int 0, .ref 164]) (M1 := ri_M3) (c1 := 0) (s1 := 0) (fun n => rfl) ?_
        refine ri_ev_iald (k := 163) (z := 0) rfl ri_M3_163 (by decide) rfl ?_
        refine ri_ev_go 2 (pc1 := 14) (L1 := [some (.ref 153)]) (st1 := [.int 0]) (M1 := ri_M3) (c1 := 0) (s1 := 0) (fun n => rfl) ?_
        exact ri_ev_ret (fun n => rfl)
      refine ri_ev_call (N := 5) (L := [some (.ref 153), some (.int x1)]) rfl (Nat.le_of_ble_eq_true rfl) ?_
      refine ri_ev_go 1 (pc1 := 1) (L1 := [some (.ref 153), some (.int x1)]) (st1 := [.ref 153]) (M1 := ri_M3) (c1 := 0) (s1 := 0) (fun n => rfl) ?_
      refine ri_ev_clv (k := 152) (M1 := ri_M3) (v := some (.int 0)) _ rfl rfl ri_M3_152 rfl (Nat.le_of_ble_eq_true rfl) hc4 ?_
      refine ri_ev_go 2 (pc1 := 20) (L1 := [some (.ref 153), some (.int x1)]) (st1 := [.int 0]) (M1 := ri_M3) (c1 := 0) (s1 := 0) (fun n => rfl) ?_
      exact ri_ev_ret (fun n => rfl)
    refine ri_ev_call (N := 6) (L := [some (.ref 153), some (.int x1), some (.int x2)]) rfl (Nat.le_of_ble_eq_true rfl) ?_
    refine ri_ev_go 2 (pc1 := 2) (L1 := [some (.ref 153), some (.int x1), some (.int x2)]) (st1 := [.int x1, .ref 153]) (M1 := ri_M3) (c1 := 0) (s1 := 0) (fun n => rfl) ?_
    refine ri_ev_clv (k := 152) (M1 := ri_M3) (v := some (.int 0)) _ rfl rfl ri_M3_152 rfl (Nat.le_of_ble_eq_true rfl) hc5 ?_
    refine ri_ev_go 2 (pc1 := 21) (L1 := [some (.ref 153), some (.int x1), some (.int x2)]) (st1 := [.int (-1)]) (M1 := ri_M3) (c1 := 0) (s1 := 0) (fun n => rfl) ?_
    exact ri_ev_ret (fun n => rfl)
  exact ⟨(-1), _, _, _, hc3, ri_M3_152, hc6⟩
theorem ro_fewest (x1 x2 : Int32)  : ri_eqi 120 244 [.int x1, .int x2] := by
  exact ro_fewest_0 x1 x2  
set_option maxRecDepth 100000 in
set_option maxHeartbeats 8000000 in
theorem ro_falseOnes_0 (x1 : Int32)   : ri_eql 121 245 [.int x1] := by
  have hc3 : ri_c 19 121 [.ref 1, .int x1] ri_M3 = some (some (.long (-1)), ri_M3, 0, 0) := by
    have hc2 : ri_c 18 150 [.ref 1, .int x1] ri_M3 = some (some (.null), ri_M3, 0, 0) := by
      have hc1 : ri_c 17 5 [.ref 16] ri_M3 = some (some (.int 0), ri_M3, 0, 0) := by
        refine ri_ev_call (N := 7) (L := [some (.ref 16)]) rfl (Nat.le_of_ble_eq_true rfl) ?_
        refine ri_ev_go 1 (pc1 := 1) (L1 := [some (.ref 16)]) (st1 := [.ref 16]) (M1 := ri_M3) (c1 := 0) (s1 := 0) (fun n => rfl) ?_
        refine ri_ev_gf (k := 15) rfl ri_M3_15 rfl ?_
        refine ri_ev_go 1 (pc1 := 5) (L1 := [some (.ref 16)]) (st1 := [.int 1, .ref 17]) (M1 := ri_M3) (c1 := 0) (s1 := 0) (fun n => rfl) ?_
        refine ri_ev_iald (k := 16) (z := 0) rfl ri_M3_16 (by decide) rfl ?_
        refine ri_ev_go 2 (pc1 := 23) (L1 := [some (.ref 16)]) (st1 := [.int 0]) (M1 := ri_M3) (c1 := 0) (s1 := 0) (fun n => rfl) ?_
        exact ri_ev_ret (fun n => rfl)
      refine ri_ev_call (N := 7) (L := [some (.ref 1), some (.int x1), none]) rfl (Nat.le_of_ble_eq_true rfl) ?_
      refine ri_ev_go 1 (pc1 := 1) (L1 := [some (.ref 1), some (.int x1), none]) (st1 := [.ref 1]) (M1 := ri_M3) (c1 := 0) (s1 := 0) (fun n => rfl) ?_
      refine ri_ev_gf (k := 0) rfl ri_M3_0 rfl ?_
      refine ri_ev_gf (k := 14) rfl ri_M3_14 rfl ?_
      refine ri_ev_clv (k := 15) (M1 := ri_M3) (v := some (.int 0)) _ rfl rfl ri_M3_15 rfl (Nat.le_of_ble_eq_true rfl) hc1 ?_
      refine ri_ev_go 2 (pc1 := 34) (L1 := [some (.ref 1), some (.int x1), none]) (st1 := [.null]) (M1 := ri_M3) (c1 := 0) (s1 := 0) (fun n => rfl) ?_
      exact ri_ev_ret (fun n => rfl)
    refine ri_ev_call (N := 8) (L := [some (.ref 1), some (.int x1), none, none, none, none, none]) rfl (Nat.le_of_ble_eq_true rfl) ?_
    refine ri_ev_go 2 (pc1 := 2) (L1 := [some (.ref 1), some (.int x1), none, none, none, none, none]) (st1 := [.int x1, .ref 1]) (M1 := ri_M3) (c1 := 0) (s1 := 0) (fun n => rfl) ?_
    refine ri_ev_clv (k := 0) (M1 := ri_M3) (v := some (.null)) _ rfl rfl ri_M3_0 rfl (Nat.le_of_ble_eq_true rfl) hc2 ?_
    refine ri_ev_go 4 (pc1 := 13) (L1 := [some (.ref 1), some (.int x1), some (.null), none, none, none, none]) (st1 := [.long (-1)]) (M1 := ri_M3) (c1 := 0) (s1 := 0) (fun n => rfl) ?_
    exact ri_ev_ret (fun n => rfl)
  have hc6 : ri_c 19 245 [.ref 153, .int x1] ri_M3 = some (some (.long (-1)), ri_M3, 0, 0) := by
    have hc5 : ri_c 18 233 [.ref 153, .int x1] ri_M3 = some (some (.int 0), ri_M3, 0, 0) := by
      have hc4 : ri_c 17 209 [.ref 153] ri_M3 = some (some (.int 0), ri_M3, 0, 0) := by
        refine ri_ev_call (N := 7) (L := [some (.ref 153)]) rfl (Nat.le_of_ble_eq_true rfl) ?_
        refine ri_ev_go 1 (pc1 := 1) (L1 := [some (.ref 153)]) (st1 := [.ref 153]) (M1 := ri_M3) (c1 := 0) (s1 := 0) (fun n => rfl) ?_
        refine ri_ev_gf (k := 152) rfl ri_M3_152 rfl ?_
        refine ri_ev_go 1 (pc1 := 5) (L1 := [some (.ref 153)]) (st1 := [.int 0, .ref 164]) (M1 := ri_M3) (c1 := 0) (s1 := 0) (fun n => rfl) ?_
        refine ri_ev_iald (k := 163) (z := 0) rfl ri_M3_163 (by decide) rfl ?_
        refine ri_ev_go 2 (pc1 := 14) (L1 := [some (.ref 153)]) (st1 := [.int 0]) (M1 := ri_M3) (c1 := 0) (s1 := 0) (fun n => rfl) ?_
        exact ri_ev_ret (fun n => rfl)
      refine ri_ev_call (N := 5) (L := [some (.ref 153), some (.int x1)]) rfl (Nat.le_of_ble_eq_true rfl) ?_
      refine ri_ev_go 1 (pc1 := 1) (L1 := [some (.ref 153), some (.int x1)]) (st1 := [.ref 153]) (M1 := ri_M3) (c1 := 0) (s1 := 0) (fun n => rfl) ?_
      refine ri_ev_clv (k := 152) (M1 := ri_M3) (v := some (.int 0)) _ rfl rfl ri_M3_152 rfl (Nat.le_of_ble_eq_true rfl) hc4 ?_
      refine ri_ev_go 2 (pc1 := 20) (L1 := [some (.ref 153), some (.int x1)]) (st1 := [.int 0]) (M1 := ri_M3) (c1 := 0) (s1 := 0) (fun n => rfl) ?_
      exact ri_ev_ret (fun n => rfl)
    refine ri_ev_call (N := 6) (L := [some (.ref 153), some (.int x1), none, none, none]) rfl (Nat.le_of_ble_eq_true rfl) ?_
    refine ri_ev_go 2 (pc1 := 2) (L1 := [some (.ref 153), some (.int x1), none, none, none]) (st1 := [.int x1, .ref 153]) (M1 := ri_M3) (c1 := 0) (s1 := 0) (fun n => rfl) ?_
    refine ri_ev_clv (k := 152) (M1 := ri_M3) (v := some (.int 0)) _ rfl rfl ri_M3_152 rfl (Nat.le_of_ble_eq_true rfl) hc5 ?_
    refine ri_ev_go 2 (pc1 := 11) (L1 := [some (.ref 153), some (.int x1), none, none, none]) (st1 := [.long (-1)]) (M1 := ri_M3) (c1 := 0) (s1 := 0) (fun n => rfl) ?_
    exact ri_ev_ret (fun n => rfl)
  exact ⟨(-1), _, _, _, hc3, ri_M3_152, hc6⟩
theorem ro_falseOnes (x1 : Int32)  : ri_eql 121 245 [.int x1] := by
  exact ro_falseOnes_0 x1  
set_option maxRecDepth 100000 in
set_option maxHeartbeats 8000000 in
theorem ro_liars_0 (x1 : Int32)   : ri_eqi 122 246 [.int x1] := by
  have hc3 : ri_c 19 122 [.ref 1, .int x1] ri_M3 = some (some (.int (-1)), ri_M3, 0, 0) := by
    have hc2 : ri_c 18 150 [.ref 1, .int x1] ri_M3 = some (some (.null), ri_M3, 0, 0) := by
      have hc1 : ri_c 17 5 [.ref 16] ri_M3 = some (some (.int 0), ri_M3, 0, 0) := by
        refine ri_ev_call (N := 7) (L := [some (.ref 16)]) rfl (Nat.le_of_ble_eq_true rfl) ?_
        refine ri_ev_go 1 (pc1 := 1) (L1 := [some (.ref 16)]) (st1 := [.ref 16]) (M1 := ri_M3) (c1 := 0) (s1 := 0) (fun n => rfl) ?_
        refine ri_ev_gf (k := 15) rfl ri_M3_15 rfl ?_
        refine ri_ev_go 1 (pc1 := 5) (L1 := [some (.ref 16)]) (st1 := [.int 1, .ref 17]) (M1 := ri_M3) (c1 := 0) (s1 := 0) (fun n => rfl) ?_
        refine ri_ev_iald (k := 16) (z := 0) rfl ri_M3_16 (by decide) rfl ?_
        refine ri_ev_go 2 (pc1 := 23) (L1 := [some (.ref 16)]) (st1 := [.int 0]) (M1 := ri_M3) (c1 := 0) (s1 := 0) (fun n => rfl) ?_
        exact ri_ev_ret (fun n => rfl)
      refine ri_ev_call (N := 7) (L := [some (.ref 1), some (.int x1), none]) rfl (Nat.le_of_ble_eq_true rfl) ?_
      refine ri_ev_go 1 (pc1 := 1) (L1 := [some (.ref 1), some (.int x1), none]) (st1 := [.ref 1]) (M1 := ri_M3) (c1 := 0) (s1 := 0) (fun n => rfl) ?_
      refine ri_ev_gf (k := 0) rfl ri_M3_0 rfl ?_
      refine ri_ev_gf (k := 14) rfl ri_M3_14 rfl ?_
      refine ri_ev_clv (k := 15) (M1 := ri_M3) (v := some (.int 0)) _ rfl rfl ri_M3_15 rfl (Nat.le_of_ble_eq_true rfl) hc1 ?_
      refine ri_ev_go 2 (pc1 := 34) (L1 := [some (.ref 1), some (.int x1), none]) (st1 := [.null]) (M1 := ri_M3) (c1 := 0) (s1 := 0) (fun n => rfl) ?_
      exact ri_ev_ret (fun n => rfl)
    refine ri_ev_call (N := 8) (L := [some (.ref 1), some (.int x1), none, none, none, none, none]) rfl (Nat.le_of_ble_eq_true rfl) ?_
    refine ri_ev_go 2 (pc1 := 2) (L1 := [some (.ref 1), some (.int x1), none, none, none, none, none]) (st1 := [.int x1, .ref 1]) (M1 := ri_M3) (c1 := 0) (s1 := 0) (fun n => rfl) ?_
    refine ri_ev_clv (k := 0) (M1 := ri_M3) (v := some (.null)) _ rfl rfl ri_M3_0 rfl (Nat.le_of_ble_eq_true rfl) hc2 ?_
    refine ri_ev_go 4 (pc1 := 11) (L1 := [some (.ref 1), some (.int x1), some (.null), none, none, none, none]) (st1 := [.int (-1)]) (M1 := ri_M3) (c1 := 0) (s1 := 0) (fun n => rfl) ?_
    exact ri_ev_ret (fun n => rfl)
  have hc6 : ri_c 19 246 [.ref 153, .int x1] ri_M3 = some (some (.int (-1)), ri_M3, 0, 0) := by
    have hc5 : ri_c 18 233 [.ref 153, .int x1] ri_M3 = some (some (.int 0), ri_M3, 0, 0) := by
      have hc4 : ri_c 17 209 [.ref 153] ri_M3 = some (some (.int 0), ri_M3, 0, 0) := by
        refine ri_ev_call (N := 7) (L := [some (.ref 153)]) rfl (Nat.le_of_ble_eq_true rfl) ?_
        refine ri_ev_go 1 (pc1 := 1) (L1 := [some (.ref 153)]) (st1 := [.ref 153]) (M1 := ri_M3) (c1 := 0) (s1 := 0) (fun n => rfl) ?_
        refine ri_ev_gf (k := 152) rfl ri_M3_152 rfl ?_
        refine ri_ev_go 1 (pc1 := 5) (L1 := [some (.ref 153)]) (st1 := [.int 0, .ref 164]) (M1 := ri_M3) (c1 := 0) (s1 := 0) (fun n => rfl) ?_
        refine ri_ev_iald (k := 163) (z := 0) rfl ri_M3_163 (by decide) rfl ?_
        refine ri_ev_go 2 (pc1 := 14) (L1 := [some (.ref 153)]) (st1 := [.int 0]) (M1 := ri_M3) (c1 := 0) (s1 := 0) (fun n => rfl) ?_
        exact ri_ev_ret (fun n => rfl)
      refine ri_ev_call (N := 5) (L := [some (.ref 153), some (.int x1)]) rfl (Nat.le_of_ble_eq_true rfl) ?_
      refine ri_ev_go 1 (pc1 := 1) (L1 := [some (.ref 153), some (.int x1)]) (st1 := [.ref 153]) (M1 := ri_M3) (c1 := 0) (s1 := 0) (fun n => rfl) ?_
      refine ri_ev_clv (k := 152) (M1 := ri_M3) (v := some (.int 0)) _ rfl rfl ri_M3_152 rfl (Nat.le_of_ble_eq_true rfl) hc4 ?_
      refine ri_ev_go 2 (pc1 := 20) (L1 := [some (.ref 153), some (.int x1)]) (st1 := [.int 0]) (M1 := ri_M3) (c1 := 0) (s1 := 0) (fun n => rfl) ?_
      exact ri_ev_ret (fun n => rfl)
    refine ri_ev_call (N := 6) (L := [some (.ref 153), some (.int x1), none, none, none, none]) rfl (Nat.le_of_ble_eq_true rfl) ?_
    refine ri_ev_go 2 (pc1 := 2) (L1 := [some (.ref 153), some (.int x1), none, none, none, none]) (st1 := [.int x1, .ref 153]) (M1 := ri_M3) (c1 := 0) (s1 := 0) (fun n => rfl) ?_
    refine ri_ev_clv (k := 152) (M1 := ri_M3) (v := some (.int 0)) _ rfl rfl ri_M3_152 rfl (Nat.le_of_ble_eq_true rfl) hc5 ?_
    refine ri_ev_go 2 (pc1 := 9) (L1 := [some (.ref 153), some (.int x1), none, none, none, none]) (st1 := [.int (-1)]) (M1 := ri_M3) (c1 := 0) (s1 := 0) (fun n => rfl) ?_
    exact ri_ev_ret (fun n => rfl)
  exact ⟨(-1), _, _, _, hc3, ri_M3_152, hc6⟩
theorem ro_liars (x1 : Int32)  : ri_eqi 122 246 [.int x1] := by
  exact ro_liars_0 x1  
set_option maxRecDepth 100000 in
set_option maxHeartbeats 8000000 in
theorem ro_quarrel_0 (x1 : Int32)   : ri_eqi 123 248 [.int x1] := by
  have hc3 : ri_c 19 123 [.ref 1, .int x1] ri_M3 = some (some (.int (-1)), ri_M3, 0, 0) := by
    have hc2 : ri_c 18 150 [.ref 1, .int x1] ri_M3 = some (some (.null), ri_M3, 0, 0) := by
      have hc1 : ri_c 17 5 [.ref 16] ri_M3 = some (some (.int 0), ri_M3, 0, 0) := by
        refine ri_ev_call (N := 7) (L := [some (.ref 16)]) rfl (Nat.le_of_ble_eq_true rfl) ?_
        refine ri_ev_go 1 (pc1 := 1) (L1 := [some (.ref 16)]) (st1 := [.ref 16]) (M1 := ri_M3) (c1 := 0) (s1 := 0) (fun n => rfl) ?_
        refine ri_ev_gf (k := 15) rfl ri_M3_15 rfl ?_
        refine ri_ev_go 1 (pc1 := 5) (L1 := [some (.ref 16)]) (st1 := [.int 1, .ref 17]) (M1 := ri_M3) (c1 := 0) (s1 := 0) (fun n => rfl) ?_
        refine ri_ev_iald (k := 16) (z := 0) rfl ri_M3_16 (by decide) rfl ?_
        refine ri_ev_go 2 (pc1 := 23) (L1 := [some (.ref 16)]) (st1 := [.int 0]) (M1 := ri_M3) (c1 := 0) (s1 := 0) (fun n => rfl) ?_
        exact ri_ev_ret (fun n => rfl)
      refine ri_ev_call (N := 7) (L := [some (.ref 1), some (.int x1), none]) rfl (Nat.le_of_ble_eq_true rfl) ?_
      refine ri_ev_go 1 (pc1 := 1) (L1 := [some (.ref 1), some (.int x1), none]) (st1 := [.ref 1]) (M1 := ri_M3) (c1 := 0) (s1 := 0) (fun n => rfl) ?_
      refine ri_ev_gf (k := 0) rfl ri_M3_0 rfl ?_
      refine ri_ev_gf (k := 14) rfl ri_M3_14 rfl ?_
      refine ri_ev_clv (k := 15) (M1 := ri_M3) (v := some (.int 0)) _ rfl rfl ri_M3_15 rfl (Nat.le_of_ble_eq_true rfl) hc1 ?_
      refine ri_ev_go 2 (pc1 := 34) (L1 := [some (.ref 1), some (.int x1), none]) (st1 := [.null]) (M1 := ri_M3) (c1 := 0) (s1 := 0) (fun n => rfl) ?_
      exact ri_ev_ret (fun n => rfl)
    refine ri_ev_call (N := 8) (L := [some (.ref 1), some (.int x1), none, none, none, none]) rfl (Nat.le_of_ble_eq_true rfl) ?_
    refine ri_ev_go 2 (pc1 := 2) (L1 := [some (.ref 1), some (.int x1), none, none, none, none]) (st1 := [.int x1, .ref 1]) (M1 := ri_M3) (c1 := 0) (s1 := 0) (fun n => rfl) ?_
    refine ri_ev_clv (k := 0) (M1 := ri_M3) (v := some (.null)) _ rfl rfl ri_M3_0 rfl (Nat.le_of_ble_eq_true rfl) hc2 ?_
    refine ri_ev_go 4 (pc1 := 11) (L1 := [some (.ref 1), some (.int x1), some (.null), none, none, none]) (st1 := [.int (-1)]) (M1 := ri_M3) (c1 := 0) (s1 := 0) (fun n => rfl) ?_
    exact ri_ev_ret (fun n => rfl)
  have hc6 : ri_c 19 248 [.ref 153, .int x1] ri_M3 = some (some (.int (-1)), ri_M3, 0, 0) := by
    have hc5 : ri_c 18 233 [.ref 153, .int x1] ri_M3 = some (some (.int 0), ri_M3, 0, 0) := by
      have hc4 : ri_c 17 209 [.ref 153] ri_M3 = some (some (.int 0), ri_M3, 0, 0) := by
        refine ri_ev_call (N := 7) (L := [some (.ref 153)]) rfl (Nat.le_of_ble_eq_true rfl) ?_
        refine ri_ev_go 1 (pc1 := 1) (L1 := [some (.ref 153)]) (st1 := [.ref 153]) (M1 := ri_M3) (c1 := 0) (s1 := 0) (fun n => rfl) ?_
        refine ri_ev_gf (k := 152) rfl ri_M3_152 rfl ?_
        refine ri_ev_go 1 (pc1 := 5) (L1 := [some (.ref 153)]) (st1 := [.int 0, .ref 164]) (M1 := ri_M3) (c1 := 0) (s1 := 0) (fun n => rfl) ?_
        refine ri_ev_iald (k := 163) (z := 0) rfl ri_M3_163 (by decide) rfl ?_
        refine ri_ev_go 2 (pc1 := 14) (L1 := [some (.ref 153)]) (st1 := [.int 0]) (M1 := ri_M3) (c1 := 0) (s1 := 0) (fun n => rfl) ?_
        exact ri_ev_ret (fun n => rfl)
      refine ri_ev_call (N := 5) (L := [some (.ref 153), some (.int x1)]) rfl (Nat.le_of_ble_eq_true rfl) ?_
      refine ri_ev_go 1 (pc1 := 1) (L1 := [some (.ref 153), some (.int x1)]) (st1 := [.ref 153]) (M1 := ri_M3) (c1 := 0) (s1 := 0) (fun n => rfl) ?_
      refine ri_ev_clv (k := 152) (M1 := ri_M3) (v := some (.int 0)) _ rfl rfl ri_M3_152 rfl (Nat.le_of_ble_eq_true rfl) hc4 ?_
      refine ri_ev_go 2 (pc1 := 20) (L1 := [some (.ref 153), some (.int x1)]) (st1 := [.int 0]) (M1 := ri_M3) (c1 := 0) (s1 := 0) (fun n => rfl) ?_
      exact ri_ev_ret (fun n => rfl)
    refine ri_ev_call (N := 6) (L := [some (.ref 153), some (.int x1), none, none]) rfl (Nat.le_of_ble_eq_true rfl) ?_
    refine ri_ev_go 2 (pc1 := 2) (L1 := [some (.ref 153), some (.int x1), none, none]) (st1 := [.int x1, .ref 153]) (M1 := ri_M3) (c1 := 0) (s1 := 0) (fun n => rfl) ?_
    refine ri_ev_clv (k := 152) (M1 := ri_M3) (v := some (.int 0)) _ rfl rfl ri_M3_152 rfl (Nat.le_of_ble_eq_true rfl) hc5 ?_
    refine ri_ev_go 2 (pc1 := 9) (L1 := [some (.ref 153), some (.int x1), none, none]) (st1 := [.int (-1)]) (M1 := ri_M3) (c1 := 0) (s1 := 0) (fun n => rfl) ?_
    exact ri_ev_ret (fun n => rfl)
  exact ⟨(-1), _, _, _, hc3, ri_M3_152, hc6⟩
theorem ro_quarrel (x1 : Int32)  : ri_eqi 123 248 [.int x1] := by
  exact ro_quarrel_0 x1  
set_option maxRecDepth 100000 in
set_option maxHeartbeats 8000000 in
theorem ro_proof_0 (x1 x2 : Int32)   : ri_eqi 124 251 [.int x1, .int x2] := by
  have hc3 : ri_c 19 124 [.ref 1, .int x1, .int x2] ri_M3 = some (some (.int (-1)), ri_M3, 0, 0) := by
    have hc2 : ri_c 18 150 [.ref 1, .int x1] ri_M3 = some (some (.null), ri_M3, 0, 0) := by
      have hc1 : ri_c 17 5 [.ref 16] ri_M3 = some (some (.int 0), ri_M3, 0, 0) := by
        refine ri_ev_call (N := 7) (L := [some (.ref 16)]) rfl (Nat.le_of_ble_eq_true rfl) ?_
        refine ri_ev_go 1 (pc1 := 1) (L1 := [some (.ref 16)]) (st1 := [.ref 16]) (M1 := ri_M3) (c1 := 0) (s1 := 0) (fun n => rfl) ?_
        refine ri_ev_gf (k := 15) rfl ri_M3_15 rfl ?_
        refine ri_ev_go 1 (pc1 := 5) (L1 := [some (.ref 16)]) (st1 := [.int 1, .ref 17]) (M1 := ri_M3) (c1 := 0) (s1 := 0) (fun n => rfl) ?_
        refine ri_ev_iald (k := 16) (z := 0) rfl ri_M3_16 (by decide) rfl ?_
        refine ri_ev_go 2 (pc1 := 23) (L1 := [some (.ref 16)]) (st1 := [.int 0]) (M1 := ri_M3) (c1 := 0) (s1 := 0) (fun n => rfl) ?_
        exact ri_ev_ret (fun n => rfl)
      refine ri_ev_call (N := 7) (L := [some (.ref 1), some (.int x1), none]) rfl (Nat.le_of_ble_eq_true rfl) ?_
      refine ri_ev_go 1 (pc1 := 1) (L1 := [some (.ref 1), some (.int x1), none]) (st1 := [.ref 1]) (M1 := ri_M3) (c1 := 0) (s1 := 0) (fun n => rfl) ?_
      refine ri_ev_gf (k := 0) rfl ri_M3_0 rfl ?_
      refine ri_ev_gf (k := 14) rfl ri_M3_14 rfl ?_
      refine ri_ev_clv (k := 15) (M1 := ri_M3) (v := some (.int 0)) _ rfl rfl ri_M3_15 rfl (Nat.le_of_ble_eq_true rfl) hc1 ?_
      refine ri_ev_go 2 (pc1 := 34) (L1 := [some (.ref 1), some (.int x1), none]) (st1 := [.null]) (M1 := ri_M3) (c1 := 0) (s1 := 0) (fun n => rfl) ?_
      exact ri_ev_ret (fun n => rfl)
    refine ri_ev_call (N := 8) (L := [some (.ref 1), some (.int x1), some (.int x2), none, none, none, none, none]) rfl (Nat.le_of_ble_eq_true rfl) ?_
    refine ri_ev_go 2 (pc1 := 2) (L1 := [some (.ref 1), some (.int x1), some (.int x2), none, none, none, none, none]) (st1 := [.int x1, .ref 1]) (M1 := ri_M3) (c1 := 0) (s1 := 0) (fun n => rfl) ?_
    refine ri_ev_clv (k := 0) (M1 := ri_M3) (v := some (.null)) _ rfl rfl ri_M3_0 rfl (Nat.le_of_ble_eq_true rfl) hc2 ?_
    refine ri_ev_go 4 (pc1 := 26) (L1 := [some (.ref 1), some (.int x1), some (.int x2), some (.null), none, none, none, none]) (st1 := [.int (-1)]) (M1 := ri_M3) (c1 := 0) (s1 := 0) (fun n => rfl) ?_
    exact ri_ev_ret (fun n => rfl)
  have hc6 : ri_c 19 251 [.ref 153, .int x1, .int x2] ri_M3 = some (some (.int (-1)), ri_M3, 0, 0) := by
    have hc5 : ri_c 18 233 [.ref 153, .int x1] ri_M3 = some (some (.int 0), ri_M3, 0, 0) := by
      have hc4 : ri_c 17 209 [.ref 153] ri_M3 = some (some (.int 0), ri_M3, 0, 0) := by
        refine ri_ev_call (N := 7) (L := [some (.ref 153)]) rfl (Nat.le_of_ble_eq_true rfl) ?_
        refine ri_ev_go 1 (pc1 := 1) (L1 := [some (.ref 153)]) (st1 := [.ref 153]) (M1 := ri_M3) (c1 := 0) (s1 := 0) (fun n => rfl) ?_
        refine ri_ev_gf (k := 152) rfl ri_M3_152 rfl ?_
        refine ri_ev_go 1 (pc1 := 5) (L1 := [some (.ref 153)]) (st1 := [.int 0, .ref 164]) (M1 := ri_M3) (c1 := 0) (s1 := 0) (fun n => rfl) ?_
        refine ri_ev_iald (k := 163) (z := 0) rfl ri_M3_163 (by decide) rfl ?_
        refine ri_ev_go 2 (pc1 := 14) (L1 := [some (.ref 153)]) (st1 := [.int 0]) (M1 := ri_M3) (c1 := 0) (s1 := 0) (fun n => rfl) ?_
        exact ri_ev_ret (fun n => rfl)
      refine ri_ev_call (N := 5) (L := [some (.ref 153), some (.int x1)]) rfl (Nat.le_of_ble_eq_true rfl) ?_
      refine ri_ev_go 1 (pc1 := 1) (L1 := [some (.ref 153), some (.int x1)]) (st1 := [.ref 153]) (M1 := ri_M3) (c1 := 0) (s1 := 0) (fun n => rfl) ?_
      refine ri_ev_clv (k := 152) (M1 := ri_M3) (v := some (.int 0)) _ rfl rfl ri_M3_152 rfl (Nat.le_of_ble_eq_true rfl) hc4 ?_
      refine ri_ev_go 2 (pc1 := 20) (L1 := [some (.ref 153), some (.int x1)]) (st1 := [.int 0]) (M1 := ri_M3) (c1 := 0) (s1 := 0) (fun n => rfl) ?_
      exact ri_ev_ret (fun n => rfl)
    refine ri_ev_call (N := 6) (L := [some (.ref 153), some (.int x1), some (.int x2), none, none, none]) rfl (Nat.le_of_ble_eq_true rfl) ?_
    refine ri_ev_go 2 (pc1 := 2) (L1 := [some (.ref 153), some (.int x1), some (.int x2), none, none, none]) (st1 := [.int x1, .ref 153]) (M1 := ri_M3) (c1 := 0) (s1 := 0) (fun n => rfl) ?_
    refine ri_ev_clv (k := 152) (M1 := ri_M3) (v := some (.int 0)) _ rfl rfl ri_M3_152 rfl (Nat.le_of_ble_eq_true rfl) hc5 ?_
    refine ri_ev_go 2 (pc1 := 18) (L1 := [some (.ref 153), some (.int x1), some (.int x2), none, none, none]) (st1 := [.int (-1)]) (M1 := ri_M3) (c1 := 0) (s1 := 0) (fun n => rfl) ?_
    exact ri_ev_ret (fun n => rfl)
  exact ⟨(-1), _, _, _, hc3, ri_M3_152, hc6⟩
theorem ro_proof (x1 x2 : Int32)  : ri_eqi 124 251 [.int x1, .int x2] := by
  exact ro_proof_0 x1 x2  
set_option maxRecDepth 100000 in
set_option maxHeartbeats 8000000 in
theorem ro_byLaws_0 (x1 x2 x3 : Int32)  (h1 : ¬ x1 < 1) : ri_eqi 125 252 [.int x1, .int x2, .int x3] := by
  have hc1 : ri_c 19 125 [.ref 1, .int x1, .int x2, .int x3] ri_M3 = some (some (.int (-1)), ri_M3, 0, 0) := by
    refine ri_ev_call (N := 15) (L := [some (.ref 1), some (.int x1), some (.int x2), some (.int x3), none, none, none, none]) rfl (Nat.le_of_ble_eq_true rfl) ?_
    refine ri_ev_go 2 (pc1 := 2) (L1 := [some (.ref 1), some (.int x1), some (.int x2), some (.int x3), none, none, none, none]) (st1 := [.int 1, .int x1]) (M1 := ri_M3) (c1 := 0) (s1 := 0) (fun n => rfl) ?_
    refine ri_ic_lt_f rfl h1 ?_
    refine ri_ev_go 3 (pc1 := 8) (L1 := [some (.ref 1), some (.int x1), some (.int x2), some (.int x3), none, none, none, none]) (st1 := [.ref 1, .int 1, .int x1]) (M1 := ri_M3) (c1 := 0) (s1 := 0) (fun n => rfl) ?_
    refine ri_ev_gf (k := 0) rfl ri_M3_0 rfl ?_
    refine ri_ev_go 1 (pc1 := 12) (L1 := [some (.ref 1), some (.int x1), some (.int x2), some (.int x3), none, none, none, none]) (st1 := [.int 1, .int x1]) (M1 := ri_M3) (c1 := 0) (s1 := 0) (fun n => rfl) ?_
    refine ri_ic_ge_t (t := 19) rfl (Int32.not_lt.mp h1) rfl ?_
    refine ri_ev_go 5 (pc1 := 58) (L1 := [some (.ref 1), some (.int x1), some (.int x2), some (.int x3), some (.int 0), none, none, none]) (st1 := [.int (-1)]) (M1 := ri_M3) (c1 := 0) (s1 := 0) (fun n => rfl) ?_
    exact ri_ev_ret (fun n => rfl)
  have hc3 : ri_c 19 252 [.ref 153, .int x1, .int x2, .int x3] ri_M3 = some (some (.int (-1)), ri_M3, 0, 0) := by
    have hc2 : ri_c 18 209 [.ref 153] ri_M3 = some (some (.int 0), ri_M3, 0, 0) := by
      refine ri_ev_call (N := 7) (L := [some (.ref 153)]) rfl (Nat.le_of_ble_eq_true rfl) ?_
      refine ri_ev_go 1 (pc1 := 1) (L1 := [some (.ref 153)]) (st1 := [.ref 153]) (M1 := ri_M3) (c1 := 0) (s1 := 0) (fun n => rfl) ?_
      refine ri_ev_gf (k := 152) rfl ri_M3_152 rfl ?_
      refine ri_ev_go 1 (pc1 := 5) (L1 := [some (.ref 153)]) (st1 := [.int 0, .ref 164]) (M1 := ri_M3) (c1 := 0) (s1 := 0) (fun n => rfl) ?_
      refine ri_ev_iald (k := 163) (z := 0) rfl ri_M3_163 (by decide) rfl ?_
      refine ri_ev_go 2 (pc1 := 14) (L1 := [some (.ref 153)]) (st1 := [.int 0]) (M1 := ri_M3) (c1 := 0) (s1 := 0) (fun n => rfl) ?_
      exact ri_ev_ret (fun n => rfl)
    refine ri_ev_call (N := 5) (L := [some (.ref 153), some (.int x1), some (.int x2), some (.int x3), none, none]) rfl (Nat.le_of_ble_eq_true rfl) ?_
    refine ri_ev_go 1 (pc1 := 1) (L1 := [some (.ref 153), some (.int x1), some (.int x2), some (.int x3), none, none]) (st1 := [.ref 153]) (M1 := ri_M3) (c1 := 0) (s1 := 0) (fun n => rfl) ?_
    refine ri_ev_clv (k := 152) (M1 := ri_M3) (v := some (.int 0)) _ rfl rfl ri_M3_152 rfl (Nat.le_of_ble_eq_true rfl) hc2 ?_
    refine ri_ev_go 2 (pc1 := 43) (L1 := [some (.ref 153), some (.int x1), some (.int x2), some (.int x3), none, none]) (st1 := [.int (-1)]) (M1 := ri_M3) (c1 := 0) (s1 := 0) (fun n => rfl) ?_
    exact ri_ev_ret (fun n => rfl)
  exact ⟨(-1), _, _, _, hc1, ri_M3_152, hc3⟩
set_option maxRecDepth 100000 in
set_option maxHeartbeats 8000000 in
theorem ro_byLaws_1 (x1 x2 x3 : Int32)  (h1 : x1 < 1) : ri_eqi 125 252 [.int x1, .int x2, .int x3] := by
  have hc1 : ri_c 19 125 [.ref 1, .int x1, .int x2, .int x3] ri_M3 = some (some (.int (-1)), ri_M3, 0, 0) := by
    refine ri_ev_call (N := 9) (L := [some (.ref 1), some (.int x1), some (.int x2), some (.int x3), none, none, none, none]) rfl (Nat.le_of_ble_eq_true rfl) ?_
    refine ri_ev_go 2 (pc1 := 2) (L1 := [some (.ref 1), some (.int x1), some (.int x2), some (.int x3), none, none, none, none]) (st1 := [.int 1, .int x1]) (M1 := ri_M3) (c1 := 0) (s1 := 0) (fun n => rfl) ?_
    refine ri_ic_lt_t (t := 19) rfl h1 rfl ?_
    refine ri_ev_go 5 (pc1 := 58) (L1 := [some (.ref 1), some (.int x1), some (.int x2), some (.int x3), some (.int 0), none, none, none]) (st1 := [.int (-1)]) (M1 := ri_M3) (c1 := 0) (s1 := 0) (fun n => rfl) ?_
    exact ri_ev_ret (fun n => rfl)
  have hc3 : ri_c 19 252 [.ref 153, .int x1, .int x2, .int x3] ri_M3 = some (some (.int (-1)), ri_M3, 0, 0) := by
    have hc2 : ri_c 18 209 [.ref 153] ri_M3 = some (some (.int 0), ri_M3, 0, 0) := by
      refine ri_ev_call (N := 7) (L := [some (.ref 153)]) rfl (Nat.le_of_ble_eq_true rfl) ?_
      refine ri_ev_go 1 (pc1 := 1) (L1 := [some (.ref 153)]) (st1 := [.ref 153]) (M1 := ri_M3) (c1 := 0) (s1 := 0) (fun n => rfl) ?_
      refine ri_ev_gf (k := 152) rfl ri_M3_152 rfl ?_
      refine ri_ev_go 1 (pc1 := 5) (L1 := [some (.ref 153)]) (st1 := [.int 0, .ref 164]) (M1 := ri_M3) (c1 := 0) (s1 := 0) (fun n => rfl) ?_
      refine ri_ev_iald (k := 163) (z := 0) rfl ri_M3_163 (by decide) rfl ?_
      refine ri_ev_go 2 (pc1 := 14) (L1 := [some (.ref 153)]) (st1 := [.int 0]) (M1 := ri_M3) (c1 := 0) (s1 := 0) (fun n => rfl) ?_
      exact ri_ev_ret (fun n => rfl)
    refine ri_ev_call (N := 5) (L := [some (.ref 153), some (.int x1), some (.int x2), some (.int x3), none, none]) rfl (Nat.le_of_ble_eq_true rfl) ?_
    refine ri_ev_go 1 (pc1 := 1) (L1 := [some (.ref 153), some (.int x1), some (.int x2), some (.int x3), none, none]) (st1 := [.ref 153]) (M1 := ri_M3) (c1 := 0) (s1 := 0) (fun n => rfl) ?_
    refine ri_ev_clv (k := 152) (M1 := ri_M3) (v := some (.int 0)) _ rfl rfl ri_M3_152 rfl (Nat.le_of_ble_eq_true rfl) hc2 ?_
    refine ri_ev_go 2 (pc1 := 43) (L1 := [some (.ref 153), some (.int x1), some (.int x2), some (.int x3), none, none]) (st1 := [.int (-1)]) (M1 := ri_M3) (c1 := 0) (s1 := 0) (fun n => rfl) ?_
    exact ri_ev_ret (fun n => rfl)
  exact ⟨(-1), _, _, _, hc1, ri_M3_152, hc3⟩
theorem ro_byLaws (x1 x2 x3 : Int32)  : ri_eqi 125 252 [.int x1, .int x2, .int x3] := by
  by_cases h1 : x1 < 1
  · exact ro_byLaws_1 x1 x2 x3  h1
  · exact ro_byLaws_0 x1 x2 x3  h1
set_option maxRecDepth 100000 in
set_option maxHeartbeats 8000000 in
theorem ro_looks_0 (x1 x2 x3 : Int32)   : ri_eqi 126 253 [.int x1, .int x2, .int x3] := by
  have hc4 : ri_c 19 126 [.ref 1, .int x1, .int x2, .int x3] ri_M3 = some (some (.int (-1)), ri_M3, 0, 0) := by
    have hc3 : ri_c 18 151 [.ref 1, .int x1, .int x2] ri_M3 = some (some (.null), ri_M3, 0, 0) := by
      have hc2 : ri_c 17 150 [.ref 1, .int x1] ri_M3 = some (some (.null), ri_M3, 0, 0) := by
        have hc1 : ri_c 16 5 [.ref 16] ri_M3 = some (some (.int 0), ri_M3, 0, 0) := by
          refine ri_ev_call (N := 7) (L := [some (.ref 16)]) rfl (Nat.le_of_ble_eq_true rfl) ?_
          refine ri_ev_go 1 (pc1 := 1) (L1 := [some (.ref 16)]) (st1 := [.ref 16]) (M1 := ri_M3) (c1 := 0) (s1 := 0) (fun n => rfl) ?_
          refine ri_ev_gf (k := 15) rfl ri_M3_15 rfl ?_
          refine ri_ev_go 1 (pc1 := 5) (L1 := [some (.ref 16)]) (st1 := [.int 1, .ref 17]) (M1 := ri_M3) (c1 := 0) (s1 := 0) (fun n => rfl) ?_
          refine ri_ev_iald (k := 16) (z := 0) rfl ri_M3_16 (by decide) rfl ?_
          refine ri_ev_go 2 (pc1 := 23) (L1 := [some (.ref 16)]) (st1 := [.int 0]) (M1 := ri_M3) (c1 := 0) (s1 := 0) (fun n => rfl) ?_
          exact ri_ev_ret (fun n => rfl)
        refine ri_ev_call (N := 7) (L := [some (.ref 1), some (.int x1), none]) rfl (Nat.le_of_ble_eq_true rfl) ?_
        refine ri_ev_go 1 (pc1 := 1) (L1 := [some (.ref 1), some (.int x1), none]) (st1 := [.ref 1]) (M1 := ri_M3) (c1 := 0) (s1 := 0) (fun n => rfl) ?_
        refine ri_ev_gf (k := 0) rfl ri_M3_0 rfl ?_
        refine ri_ev_gf (k := 14) rfl ri_M3_14 rfl ?_
        refine ri_ev_clv (k := 15) (M1 := ri_M3) (v := some (.int 0)) _ rfl rfl ri_M3_15 rfl (Nat.le_of_ble_eq_true rfl) hc1 ?_
        refine ri_ev_go 2 (pc1 := 34) (L1 := [some (.ref 1), some (.int x1), none]) (st1 := [.null]) (M1 := ri_M3) (c1 := 0) (s1 := 0) (fun n => rfl) ?_
        exact ri_ev_ret (fun n => rfl)
      refine ri_ev_call (N := 8) (L := [some (.ref 1), some (.int x1), some (.int x2), none]) rfl (Nat.le_of_ble_eq_true rfl) ?_
      refine ri_ev_go 2 (pc1 := 2) (L1 := [some (.ref 1), some (.int x1), some (.int x2), none]) (st1 := [.int x1, .ref 1]) (M1 := ri_M3) (c1 := 0) (s1 := 0) (fun n => rfl) ?_
      refine ri_ev_clv (k := 0) (M1 := ri_M3) (v := some (.null)) _ rfl rfl ri_M3_0 rfl (Nat.le_of_ble_eq_true rfl) hc2 ?_
      refine ri_ev_go 4 (pc1 := 20) (L1 := [some (.ref 1), some (.int x1), some (.int x2), some (.null)]) (st1 := [.null]) (M1 := ri_M3) (c1 := 0) (s1 := 0) (fun n => rfl) ?_
      exact ri_ev_ret (fun n => rfl)
    refine ri_ev_call (N := 9) (L := [some (.ref 1), some (.int x1), some (.int x2), some (.int x3), none]) rfl (Nat.le_of_ble_eq_true rfl) ?_
    refine ri_ev_go 3 (pc1 := 3) (L1 := [some (.ref 1), some (.int x1), some (.int x2), some (.int x3), none]) (st1 := [.int x2, .int x1, .ref 1]) (M1 := ri_M3) (c1 := 0) (s1 := 0) (fun n => rfl) ?_
    refine ri_ev_clv (k := 0) (M1 := ri_M3) (v := some (.null)) _ rfl rfl ri_M3_0 rfl (Nat.le_of_ble_eq_true rfl) hc3 ?_
    refine ri_ev_go 4 (pc1 := 25) (L1 := [some (.ref 1), some (.int x1), some (.int x2), some (.int x3), some (.null)]) (st1 := [.int (-1)]) (M1 := ri_M3) (c1 := 0) (s1 := 0) (fun n => rfl) ?_
    exact ri_ev_ret (fun n => rfl)
  have hc7 : ri_c 19 253 [.ref 153, .int x1, .int x2, .int x3] ri_M3 = some (some (.int (-1)), ri_M3, 0, 0) := by
    have hc6 : ri_c 18 233 [.ref 153, .int x1] ri_M3 = some (some (.int 0), ri_M3, 0, 0) := by
      have hc5 : ri_c 17 209 [.ref 153] ri_M3 = some (some (.int 0), ri_M3, 0, 0) := by
        refine ri_ev_call (N := 7) (L := [some (.ref 153)]) rfl (Nat.le_of_ble_eq_true rfl) ?_
        refine ri_ev_go 1 (pc1 := 1) (L1 := [some (.ref 153)]) (st1 := [.ref 153]) (M1 := ri_M3) (c1 := 0) (s1 := 0) (fun n => rfl) ?_
        refine ri_ev_gf (k := 152) rfl ri_M3_152 rfl ?_
        refine ri_ev_go 1 (pc1 := 5) (L1 := [some (.ref 153)]) (st1 := [.int 0, .ref 164]) (M1 := ri_M3) (c1 := 0) (s1 := 0) (fun n => rfl) ?_
        refine ri_ev_iald (k := 163) (z := 0) rfl ri_M3_163 (by decide) rfl ?_
        refine ri_ev_go 2 (pc1 := 14) (L1 := [some (.ref 153)]) (st1 := [.int 0]) (M1 := ri_M3) (c1 := 0) (s1 := 0) (fun n => rfl) ?_
        exact ri_ev_ret (fun n => rfl)
      refine ri_ev_call (N := 5) (L := [some (.ref 153), some (.int x1)]) rfl (Nat.le_of_ble_eq_true rfl) ?_
      refine ri_ev_go 1 (pc1 := 1) (L1 := [some (.ref 153), some (.int x1)]) (st1 := [.ref 153]) (M1 := ri_M3) (c1 := 0) (s1 := 0) (fun n => rfl) ?_
      refine ri_ev_clv (k := 152) (M1 := ri_M3) (v := some (.int 0)) _ rfl rfl ri_M3_152 rfl (Nat.le_of_ble_eq_true rfl) hc5 ?_
      refine ri_ev_go 2 (pc1 := 20) (L1 := [some (.ref 153), some (.int x1)]) (st1 := [.int 0]) (M1 := ri_M3) (c1 := 0) (s1 := 0) (fun n => rfl) ?_
      exact ri_ev_ret (fun n => rfl)
    refine ri_ev_call (N := 6) (L := [some (.ref 153), some (.int x1), some (.int x2), some (.int x3), none, none]) rfl (Nat.le_of_ble_eq_true rfl) ?_
    refine ri_ev_go 2 (pc1 := 2) (L1 := [some (.ref 153), some (.int x1), some (.int x2), some (.int x3), none, none]) (st1 := [.int x1, .ref 153]) (M1 := ri_M3) (c1 := 0) (s1 := 0) (fun n => rfl) ?_
    refine ri_ev_clv (k := 152) (M1 := ri_M3) (v := some (.int 0)) _ rfl rfl ri_M3_152 rfl (Nat.le_of_ble_eq_true rfl) hc6 ?_
    refine ri_ev_go 2 (pc1 := 24) (L1 := [some (.ref 153), some (.int x1), some (.int x2), some (.int x3), none, none]) (st1 := [.int (-1)]) (M1 := ri_M3) (c1 := 0) (s1 := 0) (fun n => rfl) ?_
    exact ri_ev_ret (fun n => rfl)
  exact ⟨(-1), _, _, _, hc4, ri_M3_152, hc7⟩
theorem ro_looks (x1 x2 x3 : Int32)  : ri_eqi 126 253 [.int x1, .int x2, .int x3] := by
  exact ro_looks_0 x1 x2 x3  
set_option maxRecDepth 100000 in
set_option maxHeartbeats 8000000 in
theorem ro_sure_0 (x1 x2 x3 : Int32)   : ri_eqi 127 254 [.int x1, .int x2, .int x3] := by
  have hc4 : ri_c 19 127 [.ref 1, .int x1, .int x2, .int x3] ri_M3 = some (some (.int (-1)), ri_M3, 0, 0) := by
    have hc3 : ri_c 18 151 [.ref 1, .int x1, .int x2] ri_M3 = some (some (.null), ri_M3, 0, 0) := by
      have hc2 : ri_c 17 150 [.ref 1, .int x1] ri_M3 = some (some (.null), ri_M3, 0, 0) := by
        have hc1 : ri_c 16 5 [.ref 16] ri_M3 = some (some (.int 0), ri_M3, 0, 0) := by
          refine ri_ev_call (N := 7) (L := [some (.ref 16)]) rfl (Nat.le_of_ble_eq_true rfl) ?_
          refine ri_ev_go 1 (pc1 := 1) (L1 := [some (.ref 16)]) (st1 := [.ref 16]) (M1 := ri_M3) (c1 := 0) (s1 := 0) (fun n => rfl) ?_
          refine ri_ev_gf (k := 15) rfl ri_M3_15 rfl ?_
          refine ri_ev_go 1 (pc1 := 5) (L1 := [some (.ref 16)]) (st1 := [.int 1, .ref 17]) (M1 := ri_M3) (c1 := 0) (s1 := 0) (fun n => rfl) ?_
          refine ri_ev_iald (k := 16) (z := 0) rfl ri_M3_16 (by decide) rfl ?_
          refine ri_ev_go 2 (pc1 := 23) (L1 := [some (.ref 16)]) (st1 := [.int 0]) (M1 := ri_M3) (c1 := 0) (s1 := 0) (fun n => rfl) ?_
          exact ri_ev_ret (fun n => rfl)
        refine ri_ev_call (N := 7) (L := [some (.ref 1), some (.int x1), none]) rfl (Nat.le_of_ble_eq_true rfl) ?_
        refine ri_ev_go 1 (pc1 := 1) (L1 := [some (.ref 1), some (.int x1), none]) (st1 := [.ref 1]) (M1 := ri_M3) (c1 := 0) (s1 := 0) (fun n => rfl) ?_
        refine ri_ev_gf (k := 0) rfl ri_M3_0 rfl ?_
        refine ri_ev_gf (k := 14) rfl ri_M3_14 rfl ?_
        refine ri_ev_clv (k := 15) (M1 := ri_M3) (v := some (.int 0)) _ rfl rfl ri_M3_15 rfl (Nat.le_of_ble_eq_true rfl) hc1 ?_
        refine ri_ev_go 2 (pc1 := 34) (L1 := [some (.ref 1), some (.int x1), none]) (st1 := [.null]) (M1 := ri_M3) (c1 := 0) (s1 := 0) (fun n => rfl) ?_
        exact ri_ev_ret (fun n => rfl)
      refine ri_ev_call (N := 8) (L := [some (.ref 1), some (.int x1), some (.int x2), none]) rfl (Nat.le_of_ble_eq_true rfl) ?_
      refine ri_ev_go 2 (pc1 := 2) (L1 := [some (.ref 1), some (.int x1), some (.int x2), none]) (st1 := [.int x1, .ref 1]) (M1 := ri_M3) (c1 := 0) (s1 := 0) (fun n => rfl) ?_
      refine ri_ev_clv (k := 0) (M1 := ri_M3) (v := some (.null)) _ rfl rfl ri_M3_0 rfl (Nat.le_of_ble_eq_true rfl) hc2 ?_
      refine ri_ev_go 4 (pc1 := 20) (L1 := [some (.ref 1), some (.int x1), some (.int x2), some (.null)]) (st1 := [.null]) (M1 := ri_M3) (c1 := 0) (s1 := 0) (fun n => rfl) ?_
      exact ri_ev_ret (fun n => rfl)
    refine ri_ev_call (N := 9) (L := [some (.ref 1), some (.int x1), some (.int x2), some (.int x3), none, none]) rfl (Nat.le_of_ble_eq_true rfl) ?_
    refine ri_ev_go 3 (pc1 := 3) (L1 := [some (.ref 1), some (.int x1), some (.int x2), some (.int x3), none, none]) (st1 := [.int x2, .int x1, .ref 1]) (M1 := ri_M3) (c1 := 0) (s1 := 0) (fun n => rfl) ?_
    refine ri_ev_clv (k := 0) (M1 := ri_M3) (v := some (.null)) _ rfl rfl ri_M3_0 rfl (Nat.le_of_ble_eq_true rfl) hc3 ?_
    refine ri_ev_go 4 (pc1 := 22) (L1 := [some (.ref 1), some (.int x1), some (.int x2), some (.int x3), some (.null), none]) (st1 := [.int (-1)]) (M1 := ri_M3) (c1 := 0) (s1 := 0) (fun n => rfl) ?_
    exact ri_ev_ret (fun n => rfl)
  have hc7 : ri_c 19 254 [.ref 153, .int x1, .int x2, .int x3] ri_M3 = some (some (.int (-1)), ri_M3, 0, 0) := by
    have hc6 : ri_c 18 233 [.ref 153, .int x1] ri_M3 = some (some (.int 0), ri_M3, 0, 0) := by
      have hc5 : ri_c 17 209 [.ref 153] ri_M3 = some (some (.int 0), ri_M3, 0, 0) := by
        refine ri_ev_call (N := 7) (L := [some (.ref 153)]) rfl (Nat.le_of_ble_eq_true rfl) ?_
        refine ri_ev_go 1 (pc1 := 1) (L1 := [some (.ref 153)]) (st1 := [.ref 153]) (M1 := ri_M3) (c1 := 0) (s1 := 0) (fun n => rfl) ?_
        refine ri_ev_gf (k := 152) rfl ri_M3_152 rfl ?_
        refine ri_ev_go 1 (pc1 := 5) (L1 := [some (.ref 153)]) (st1 := [.int 0, .ref 164]) (M1 := ri_M3) (c1 := 0) (s1 := 0) (fun n => rfl) ?_
        refine ri_ev_iald (k := 163) (z := 0) rfl ri_M3_163 (by decide) rfl ?_
        refine ri_ev_go 2 (pc1 := 14) (L1 := [some (.ref 153)]) (st1 := [.int 0]) (M1 := ri_M3) (c1 := 0) (s1 := 0) (fun n => rfl) ?_
        exact ri_ev_ret (fun n => rfl)
      refine ri_ev_call (N := 5) (L := [some (.ref 153), some (.int x1)]) rfl (Nat.le_of_ble_eq_true rfl) ?_
      refine ri_ev_go 1 (pc1 := 1) (L1 := [some (.ref 153), some (.int x1)]) (st1 := [.ref 153]) (M1 := ri_M3) (c1 := 0) (s1 := 0) (fun n => rfl) ?_
      refine ri_ev_clv (k := 152) (M1 := ri_M3) (v := some (.int 0)) _ rfl rfl ri_M3_152 rfl (Nat.le_of_ble_eq_true rfl) hc5 ?_
      refine ri_ev_go 2 (pc1 := 20) (L1 := [some (.ref 153), some (.int x1)]) (st1 := [.int 0]) (M1 := ri_M3) (c1 := 0) (s1 := 0) (fun n => rfl) ?_
      exact ri_ev_ret (fun n => rfl)
    refine ri_ev_call (N := 6) (L := [some (.ref 153), some (.int x1), some (.int x2), some (.int x3), none, none]) rfl (Nat.le_of_ble_eq_true rfl) ?_
    refine ri_ev_go 2 (pc1 := 2) (L1 := [some (.ref 153), some (.int x1), some (.int x2), some (.int x3), none, none]) (st1 := [.int x1, .ref 153]) (M1 := ri_M3) (c1 := 0) (s1 := 0) (fun n => rfl) ?_
    refine ri_ev_clv (k := 152) (M1 := ri_M3) (v := some (.int 0)) _ rfl rfl ri_M3_152 rfl (Nat.le_of_ble_eq_true rfl) hc6 ?_
    refine ri_ev_go 2 (pc1 := 24) (L1 := [some (.ref 153), some (.int x1), some (.int x2), some (.int x3), none, none]) (st1 := [.int (-1)]) (M1 := ri_M3) (c1 := 0) (s1 := 0) (fun n => rfl) ?_
    exact ri_ev_ret (fun n => rfl)
  exact ⟨(-1), _, _, _, hc4, ri_M3_152, hc7⟩
theorem ro_sure (x1 x2 x3 : Int32)  : ri_eqi 127 254 [.int x1, .int x2, .int x3] := by
  exact ro_sure_0 x1 x2 x3  
set_option maxRecDepth 100000 in
set_option maxHeartbeats 8000000 in
theorem ro_alone_0 (x1 x2 : Int32)   : ri_eqi 128 255 [.int x1, .int x2] := by
  have hc3 : ri_c 19 128 [.ref 1, .int x1, .int x2] ri_M3 = some (some (.int (-1)), ri_M3, 0, 0) := by
    have hc2 : ri_c 18 150 [.ref 1, .int x1] ri_M3 = some (some (.null), ri_M3, 0, 0) := by
      have hc1 : ri_c 17 5 [.ref 16] ri_M3 = some (some (.int 0), ri_M3, 0, 0) := by
        refine ri_ev_call (N := 7) (L := [some (.ref 16)]) rfl (Nat.le_of_ble_eq_true rfl) ?_
        refine ri_ev_go 1 (pc1 := 1) (L1 := [some (.ref 16)]) (st1 := [.ref 16]) (M1 := ri_M3) (c1 := 0) (s1 := 0) (fun n => rfl) ?_
        refine ri_ev_gf (k := 15) rfl ri_M3_15 rfl ?_
        refine ri_ev_go 1 (pc1 := 5) (L1 := [some (.ref 16)]) (st1 := [.int 1, .ref 17]) (M1 := ri_M3) (c1 := 0) (s1 := 0) (fun n => rfl) ?_
        refine ri_ev_iald (k := 16) (z := 0) rfl ri_M3_16 (by decide) rfl ?_
        refine ri_ev_go 2 (pc1 := 23) (L1 := [some (.ref 16)]) (st1 := [.int 0]) (M1 := ri_M3) (c1 := 0) (s1 := 0) (fun n => rfl) ?_
        exact ri_ev_ret (fun n => rfl)
      refine ri_ev_call (N := 7) (L := [some (.ref 1), some (.int x1), none]) rfl (Nat.le_of_ble_eq_true rfl) ?_
      refine ri_ev_go 1 (pc1 := 1) (L1 := [some (.ref 1), some (.int x1), none]) (st1 := [.ref 1]) (M1 := ri_M3) (c1 := 0) (s1 := 0) (fun n => rfl) ?_
      refine ri_ev_gf (k := 0) rfl ri_M3_0 rfl ?_
      refine ri_ev_gf (k := 14) rfl ri_M3_14 rfl ?_
      refine ri_ev_clv (k := 15) (M1 := ri_M3) (v := some (.int 0)) _ rfl rfl ri_M3_15 rfl (Nat.le_of_ble_eq_true rfl) hc1 ?_
      refine ri_ev_go 2 (pc1 := 34) (L1 := [some (.ref 1), some (.int x1), none]) (st1 := [.null]) (M1 := ri_M3) (c1 := 0) (s1 := 0) (fun n => rfl) ?_
      exact ri_ev_ret (fun n => rfl)
    refine ri_ev_call (N := 8) (L := [some (.ref 1), some (.int x1), some (.int x2), none]) rfl (Nat.le_of_ble_eq_true rfl) ?_
    refine ri_ev_go 2 (pc1 := 2) (L1 := [some (.ref 1), some (.int x1), some (.int x2), none]) (st1 := [.int x1, .ref 1]) (M1 := ri_M3) (c1 := 0) (s1 := 0) (fun n => rfl) ?_
    refine ri_ev_clv (k := 0) (M1 := ri_M3) (v := some (.null)) _ rfl rfl ri_M3_0 rfl (Nat.le_of_ble_eq_true rfl) hc2 ?_
    refine ri_ev_go 4 (pc1 := 20) (L1 := [some (.ref 1), some (.int x1), some (.int x2), some (.null)]) (st1 := [.int (-1)]) (M1 := ri_M3) (c1 := 0) (s1 := 0) (fun n => rfl) ?_
    exact ri_ev_ret (fun n => rfl)
  have hc6 : ri_c 19 255 [.ref 153, .int x1, .int x2] ri_M3 = some (some (.int (-1)), ri_M3, 0, 0) := by
    have hc5 : ri_c 18 233 [.ref 153, .int x1] ri_M3 = some (some (.int 0), ri_M3, 0, 0) := by
      have hc4 : ri_c 17 209 [.ref 153] ri_M3 = some (some (.int 0), ri_M3, 0, 0) := by
        refine ri_ev_call (N := 7) (L := [some (.ref 153)]) rfl (Nat.le_of_ble_eq_true rfl) ?_
        refine ri_ev_go 1 (pc1 := 1) (L1 := [some (.ref 153)]) (st1 := [.ref 153]) (M1 := ri_M3) (c1 := 0) (s1 := 0) (fun n => rfl) ?_
        refine ri_ev_gf (k := 152) rfl ri_M3_152 rfl ?_
        refine ri_ev_go 1 (pc1 := 5) (L1 := [some (.ref 153)]) (st1 := [.int 0, .ref 164]) (M1 := ri_M3) (c1 := 0) (s1 := 0) (fun n => rfl) ?_
        refine ri_ev_iald (k := 163) (z := 0) rfl ri_M3_163 (by decide) rfl ?_
        refine ri_ev_go 2 (pc1 := 14) (L1 := [some (.ref 153)]) (st1 := [.int 0]) (M1 := ri_M3) (c1 := 0) (s1 := 0) (fun n => rfl) ?_
        exact ri_ev_ret (fun n => rfl)
      refine ri_ev_call (N := 5) (L := [some (.ref 153), some (.int x1)]) rfl (Nat.le_of_ble_eq_true rfl) ?_
      refine ri_ev_go 1 (pc1 := 1) (L1 := [some (.ref 153), some (.int x1)]) (st1 := [.ref 153]) (M1 := ri_M3) (c1 := 0) (s1 := 0) (fun n => rfl) ?_
      refine ri_ev_clv (k := 152) (M1 := ri_M3) (v := some (.int 0)) _ rfl rfl ri_M3_152 rfl (Nat.le_of_ble_eq_true rfl) hc4 ?_
      refine ri_ev_go 2 (pc1 := 20) (L1 := [some (.ref 153), some (.int x1)]) (st1 := [.int 0]) (M1 := ri_M3) (c1 := 0) (s1 := 0) (fun n => rfl) ?_
      exact ri_ev_ret (fun n => rfl)
    refine ri_ev_call (N := 6) (L := [some (.ref 153), some (.int x1), some (.int x2), none, none, none, none]) rfl (Nat.le_of_ble_eq_true rfl) ?_
    refine ri_ev_go 2 (pc1 := 2) (L1 := [some (.ref 153), some (.int x1), some (.int x2), none, none, none, none]) (st1 := [.int x1, .ref 153]) (M1 := ri_M3) (c1 := 0) (s1 := 0) (fun n => rfl) ?_
    refine ri_ev_clv (k := 152) (M1 := ri_M3) (v := some (.int 0)) _ rfl rfl ri_M3_152 rfl (Nat.le_of_ble_eq_true rfl) hc5 ?_
    refine ri_ev_go 2 (pc1 := 16) (L1 := [some (.ref 153), some (.int x1), some (.int x2), none, none, none, none]) (st1 := [.int (-1)]) (M1 := ri_M3) (c1 := 0) (s1 := 0) (fun n => rfl) ?_
    exact ri_ev_ret (fun n => rfl)
  exact ⟨(-1), _, _, _, hc3, ri_M3_152, hc6⟩
theorem ro_alone (x1 x2 : Int32)  : ri_eqi 128 255 [.int x1, .int x2] := by
  exact ro_alone_0 x1 x2  
set_option maxRecDepth 100000 in
set_option maxHeartbeats 8000000 in
theorem ro_mean_0 (x1 x2 x3 : Int32)   : ri_eqi 129 256 [.int x1, .int x2, .int x3] := by
  have hc4 : ri_c 19 129 [.ref 1, .int x1, .int x2, .int x3] ri_M3 = some (some (.int (-1)), ri_M3, 0, 0) := by
    have hc3 : ri_c 18 151 [.ref 1, .int x1, .int x2] ri_M3 = some (some (.null), ri_M3, 0, 0) := by
      have hc2 : ri_c 17 150 [.ref 1, .int x1] ri_M3 = some (some (.null), ri_M3, 0, 0) := by
        have hc1 : ri_c 16 5 [.ref 16] ri_M3 = some (some (.int 0), ri_M3, 0, 0) := by
          refine ri_ev_call (N := 7) (L := [some (.ref 16)]) rfl (Nat.le_of_ble_eq_true rfl) ?_
          refine ri_ev_go 1 (pc1 := 1) (L1 := [some (.ref 16)]) (st1 := [.ref 16]) (M1 := ri_M3) (c1 := 0) (s1 := 0) (fun n => rfl) ?_
          refine ri_ev_gf (k := 15) rfl ri_M3_15 rfl ?_
          refine ri_ev_go 1 (pc1 := 5) (L1 := [some (.ref 16)]) (st1 := [.int 1, .ref 17]) (M1 := ri_M3) (c1 := 0) (s1 := 0) (fun n => rfl) ?_
          refine ri_ev_iald (k := 16) (z := 0) rfl ri_M3_16 (by decide) rfl ?_
          refine ri_ev_go 2 (pc1 := 23) (L1 := [some (.ref 16)]) (st1 := [.int 0]) (M1 := ri_M3) (c1 := 0) (s1 := 0) (fun n => rfl) ?_
          exact ri_ev_ret (fun n => rfl)
        refine ri_ev_call (N := 7) (L := [some (.ref 1), some (.int x1), none]) rfl (Nat.le_of_ble_eq_true rfl) ?_
        refine ri_ev_go 1 (pc1 := 1) (L1 := [some (.ref 1), some (.int x1), none]) (st1 := [.ref 1]) (M1 := ri_M3) (c1 := 0) (s1 := 0) (fun n => rfl) ?_
        refine ri_ev_gf (k := 0) rfl ri_M3_0 rfl ?_
        refine ri_ev_gf (k := 14) rfl ri_M3_14 rfl ?_
        refine ri_ev_clv (k := 15) (M1 := ri_M3) (v := some (.int 0)) _ rfl rfl ri_M3_15 rfl (Nat.le_of_ble_eq_true rfl) hc1 ?_
        refine ri_ev_go 2 (pc1 := 34) (L1 := [some (.ref 1), some (.int x1), none]) (st1 := [.null]) (M1 := ri_M3) (c1 := 0) (s1 := 0) (fun n => rfl) ?_
        exact ri_ev_ret (fun n => rfl)
      refine ri_ev_call (N := 8) (L := [some (.ref 1), some (.int x1), some (.int x2), none]) rfl (Nat.le_of_ble_eq_true rfl) ?_
      refine ri_ev_go 2 (pc1 := 2) (L1 := [some (.ref 1), some (.int x1), some (.int x2), none]) (st1 := [.int x1, .ref 1]) (M1 := ri_M3) (c1 := 0) (s1 := 0) (fun n => rfl) ?_
      refine ri_ev_clv (k := 0) (M1 := ri_M3) (v := some (.null)) _ rfl rfl ri_M3_0 rfl (Nat.le_of_ble_eq_true rfl) hc2 ?_
      refine ri_ev_go 4 (pc1 := 20) (L1 := [some (.ref 1), some (.int x1), some (.int x2), some (.null)]) (st1 := [.null]) (M1 := ri_M3) (c1 := 0) (s1 := 0) (fun n => rfl) ?_
      exact ri_ev_ret (fun n => rfl)
    refine ri_ev_call (N := 9) (L := [some (.ref 1), some (.int x1), some (.int x2), some (.int x3), none, none, none, none]) rfl (Nat.le_of_ble_eq_true rfl) ?_
    refine ri_ev_go 3 (pc1 := 3) (L1 := [some (.ref 1), some (.int x1), some (.int x2), some (.int x3), none, none, none, none]) (st1 := [.int x2, .int x1, .ref 1]) (M1 := ri_M3) (c1 := 0) (s1 := 0) (fun n => rfl) ?_
    refine ri_ev_clv (k := 0) (M1 := ri_M3) (v := some (.null)) _ rfl rfl ri_M3_0 rfl (Nat.le_of_ble_eq_true rfl) hc3 ?_
    refine ri_ev_go 4 (pc1 := 22) (L1 := [some (.ref 1), some (.int x1), some (.int x2), some (.int x3), some (.null), none, none, none]) (st1 := [.int (-1)]) (M1 := ri_M3) (c1 := 0) (s1 := 0) (fun n => rfl) ?_
    exact ri_ev_ret (fun n => rfl)
  have hc7 : ri_c 19 256 [.ref 153, .int x1, .int x2, .int x3] ri_M3 = some (some (.int (-1)), ri_M3, 0, 0) := by
    have hc6 : ri_c 18 233 [.ref 153, .int x1] ri_M3 = some (some (.int 0), ri_M3, 0, 0) := by
      have hc5 : ri_c 17 209 [.ref 153] ri_M3 = some (some (.int 0), ri_M3, 0, 0) := by
        refine ri_ev_call (N := 7) (L := [some (.ref 153)]) rfl (Nat.le_of_ble_eq_true rfl) ?_
        refine ri_ev_go 1 (pc1 := 1) (L1 := [some (.ref 153)]) (st1 := [.ref 153]) (M1 := ri_M3) (c1 := 0) (s1 := 0) (fun n => rfl) ?_
        refine ri_ev_gf (k := 152) rfl ri_M3_152 rfl ?_
        refine ri_ev_go 1 (pc1 := 5) (L1 := [some (.ref 153)]) (st1 := [.int 0, .ref 164]) (M1 := ri_M3) (c1 := 0) (s1 := 0) (fun n => rfl) ?_
        refine ri_ev_iald (k := 163) (z := 0) rfl ri_M3_163 (by decide) rfl ?_
        refine ri_ev_go 2 (pc1 := 14) (L1 := [some (.ref 153)]) (st1 := [.int 0]) (M1 := ri_M3) (c1 := 0) (s1 := 0) (fun n => rfl) ?_
        exact ri_ev_ret (fun n => rfl)
      refine ri_ev_call (N := 5) (L := [some (.ref 153), some (.int x1)]) rfl (Nat.le_of_ble_eq_true rfl) ?_
      refine ri_ev_go 1 (pc1 := 1) (L1 := [some (.ref 153), some (.int x1)]) (st1 := [.ref 153]) (M1 := ri_M3) (c1 := 0) (s1 := 0) (fun n => rfl) ?_
      refine ri_ev_clv (k := 152) (M1 := ri_M3) (v := some (.int 0)) _ rfl rfl ri_M3_152 rfl (Nat.le_of_ble_eq_true rfl) hc5 ?_
      refine ri_ev_go 2 (pc1 := 20) (L1 := [some (.ref 153), some (.int x1)]) (st1 := [.int 0]) (M1 := ri_M3) (c1 := 0) (s1 := 0) (fun n => rfl) ?_
      exact ri_ev_ret (fun n => rfl)
    refine ri_ev_call (N := 6) (L := [some (.ref 153), some (.int x1), some (.int x2), some (.int x3), none, none, none]) rfl (Nat.le_of_ble_eq_true rfl) ?_
    refine ri_ev_go 2 (pc1 := 2) (L1 := [some (.ref 153), some (.int x1), some (.int x2), some (.int x3), none, none, none]) (st1 := [.int x1, .ref 153]) (M1 := ri_M3) (c1 := 0) (s1 := 0) (fun n => rfl) ?_
    refine ri_ev_clv (k := 152) (M1 := ri_M3) (v := some (.int 0)) _ rfl rfl ri_M3_152 rfl (Nat.le_of_ble_eq_true rfl) hc6 ?_
    refine ri_ev_go 2 (pc1 := 26) (L1 := [some (.ref 153), some (.int x1), some (.int x2), some (.int x3), none, none, none]) (st1 := [.int (-1)]) (M1 := ri_M3) (c1 := 0) (s1 := 0) (fun n => rfl) ?_
    exact ri_ev_ret (fun n => rfl)
  exact ⟨(-1), _, _, _, hc4, ri_M3_152, hc7⟩
theorem ro_mean (x1 x2 x3 : Int32)  : ri_eqi 129 256 [.int x1, .int x2, .int x3] := by
  exact ro_mean_0 x1 x2 x3  
set_option maxRecDepth 100000 in
set_option maxHeartbeats 8000000 in
theorem ro_useful_0 (x1 x2 x3 : Int32)   : ri_eqi 131 262 [.int x1, .int x2, .int x3] := by
  have hc4 : ri_c 19 131 [.ref 1, .int x1, .int x2, .int x3] ri_M3 = some (some (.int (-1)), ri_M3, 0, 0) := by
    have hc3 : ri_c 18 151 [.ref 1, .int x1, .int x2] ri_M3 = some (some (.null), ri_M3, 0, 0) := by
      have hc2 : ri_c 17 150 [.ref 1, .int x1] ri_M3 = some (some (.null), ri_M3, 0, 0) := by
        have hc1 : ri_c 16 5 [.ref 16] ri_M3 = some (some (.int 0), ri_M3, 0, 0) := by
          refine ri_ev_call (N := 7) (L := [some (.ref 16)]) rfl (Nat.le_of_ble_eq_true rfl) ?_
          refine ri_ev_go 1 (pc1 := 1) (L1 := [some (.ref 16)]) (st1 := [.ref 16]) (M1 := ri_M3) (c1 := 0) (s1 := 0) (fun n => rfl) ?_
          refine ri_ev_gf (k := 15) rfl ri_M3_15 rfl ?_
          refine ri_ev_go 1 (pc1 := 5) (L1 := [some (.ref 16)]) (st1 := [.int 1, .ref 17]) (M1 := ri_M3) (c1 := 0) (s1 := 0) (fun n => rfl) ?_
          refine ri_ev_iald (k := 16) (z := 0) rfl ri_M3_16 (by decide) rfl ?_
          refine ri_ev_go 2 (pc1 := 23) (L1 := [some (.ref 16)]) (st1 := [.int 0]) (M1 := ri_M3) (c1 := 0) (s1 := 0) (fun n => rfl) ?_
          exact ri_ev_ret (fun n => rfl)
        refine ri_ev_call (N := 7) (L := [some (.ref 1), some (.int x1), none]) rfl (Nat.le_of_ble_eq_true rfl) ?_
        refine ri_ev_go 1 (pc1 := 1) (L1 := [some (.ref 1), some (.int x1), none]) (st1 := [.ref 1]) (M1 := ri_M3) (c1 := 0) (s1 := 0) (fun n => rfl) ?_
        refine ri_ev_gf (k := 0) rfl ri_M3_0 rfl ?_
        refine ri_ev_gf (k := 14) rfl ri_M3_14 rfl ?_
        refine ri_ev_clv (k := 15) (M1 := ri_M3) (v := some (.int 0)) _ rfl rfl ri_M3_15 rfl (Nat.le_of_ble_eq_true rfl) hc1 ?_
        refine ri_ev_go 2 (pc1 := 34) (L1 := [some (.ref 1), some (.int x1), none]) (st1 := [.null]) (M1 := ri_M3) (c1 := 0) (s1 := 0) (fun n => rfl) ?_
        exact ri_ev_ret (fun n => rfl)
      refine ri_ev_call (N := 8) (L := [some (.ref 1), some (.int x1), some (.int x2), none]) rfl (Nat.le_of_ble_eq_true rfl) ?_
      refine ri_ev_go 2 (pc1 := 2) (L1 := [some (.ref 1), some (.int x1), some (.int x2), none]) (st1 := [.int x1, .ref 1]) (M1 := ri_M3) (c1 := 0) (s1 := 0) (fun n => rfl) ?_
      refine ri_ev_clv (k := 0) (M1 := ri_M3) (v := some (.null)) _ rfl rfl ri_M3_0 rfl (Nat.le_of_ble_eq_true rfl) hc2 ?_
      refine ri_ev_go 4 (pc1 := 20) (L1 := [some (.ref 1), some (.int x1), some (.int x2), some (.null)]) (st1 := [.null]) (M1 := ri_M3) (c1 := 0) (s1 := 0) (fun n => rfl) ?_
      exact ri_ev_ret (fun n => rfl)
    refine ri_ev_call (N := 9) (L := [some (.ref 1), some (.int x1), some (.int x2), some (.int x3), none]) rfl (Nat.le_of_ble_eq_true rfl) ?_
    refine ri_ev_go 3 (pc1 := 3) (L1 := [some (.ref 1), some (.int x1), some (.int x2), some (.int x3), none]) (st1 := [.int x2, .int x1, .ref 1]) (M1 := ri_M3) (c1 := 0) (s1 := 0) (fun n => rfl) ?_
    refine ri_ev_clv (k := 0) (M1 := ri_M3) (v := some (.null)) _ rfl rfl ri_M3_0 rfl (Nat.le_of_ble_eq_true rfl) hc3 ?_
    refine ri_ev_go 4 (pc1 := 22) (L1 := [some (.ref 1), some (.int x1), some (.int x2), some (.int x3), some (.null)]) (st1 := [.int (-1)]) (M1 := ri_M3) (c1 := 0) (s1 := 0) (fun n => rfl) ?_
    exact ri_ev_ret (fun n => rfl)
  have hc7 : ri_c 19 262 [.ref 153, .int x1, .int x2, .int x3] ri_M3 = some (some (.int (-1)), ri_M3, 0, 0) := by
    have hc6 : ri_c 18 233 [.ref 153, .int x1] ri_M3 = some (some (.int 0), ri_M3, 0, 0) := by
      have hc5 : ri_c 17 209 [.ref 153] ri_M3 = some (some (.int 0), ri_M3, 0, 0) := by
        refine ri_ev_call (N := 7) (L := [some (.ref 153)]) rfl (Nat.le_of_ble_eq_true rfl) ?_
        refine ri_ev_go 1 (pc1 := 1) (L1 := [some (.ref 153)]) (st1 := [.ref 153]) (M1 := ri_M3) (c1 := 0) (s1 := 0) (fun n => rfl) ?_
        refine ri_ev_gf (k := 152) rfl ri_M3_152 rfl ?_
        refine ri_ev_go 1 (pc1 := 5) (L1 := [some (.ref 153)]) (st1 := [.int 0, .ref 164]) (M1 := ri_M3) (c1 := 0) (s1 := 0) (fun n => rfl) ?_
        refine ri_ev_iald (k := 163) (z := 0) rfl ri_M3_163 (by decide) rfl ?_
        refine ri_ev_go 2 (pc1 := 14) (L1 := [some (.ref 153)]) (st1 := [.int 0]) (M1 := ri_M3) (c1 := 0) (s1 := 0) (fun n => rfl) ?_
        exact ri_ev_ret (fun n => rfl)
      refine ri_ev_call (N := 5) (L := [some (.ref 153), some (.int x1)]) rfl (Nat.le_of_ble_eq_true rfl) ?_
      refine ri_ev_go 1 (pc1 := 1) (L1 := [some (.ref 153), some (.int x1)]) (st1 := [.ref 153]) (M1 := ri_M3) (c1 := 0) (s1 := 0) (fun n => rfl) ?_
      refine ri_ev_clv (k := 152) (M1 := ri_M3) (v := some (.int 0)) _ rfl rfl ri_M3_152 rfl (Nat.le_of_ble_eq_true rfl) hc5 ?_
      refine ri_ev_go 2 (pc1 := 20) (L1 := [some (.ref 153), some (.int x1)]) (st1 := [.int 0]) (M1 := ri_M3) (c1 := 0) (s1 := 0) (fun n => rfl) ?_
      exact ri_ev_ret (fun n => rfl)
    refine ri_ev_call (N := 6) (L := [some (.ref 153), some (.int x1), some (.int x2), some (.int x3), none, none, none]) rfl (Nat.le_of_ble_eq_true rfl) ?_
    refine ri_ev_go 2 (pc1 := 2) (L1 := [some (.ref 153), some (.int x1), some (.int x2), some (.int x3), none, none, none]) (st1 := [.int x1, .ref 153]) (M1 := ri_M3) (c1 := 0) (s1 := 0) (fun n => rfl) ?_
    refine ri_ev_clv (k := 152) (M1 := ri_M3) (v := some (.int 0)) _ rfl rfl ri_M3_152 rfl (Nat.le_of_ble_eq_true rfl) hc6 ?_
    refine ri_ev_go 2 (pc1 := 26) (L1 := [some (.ref 153), some (.int x1), some (.int x2), some (.int x3), none, none, none]) (st1 := [.int (-1)]) (M1 := ri_M3) (c1 := 0) (s1 := 0) (fun n => rfl) ?_
    exact ri_ev_ret (fun n => rfl)
  exact ⟨(-1), _, _, _, hc4, ri_M3_152, hc7⟩
theorem ro_useful (x1 x2 x3 : Int32)  : ri_eqi 131 262 [.int x1, .int x2, .int x3] := by
  exact ro_useful_0 x1 x2 x3  
set_option maxRecDepth 100000 in
set_option maxHeartbeats 8000000 in
theorem ro_filled_0 (x1 x2 x3 : Int32)   : ri_eqi 130 263 [.int x1, .int x2, .int x3] := by
  have hc3 : ri_c 19 130 [.ref 1, .int x1, .int x2, .int x3] ri_M3 = some (some (.int (-1)), ri_M3, 0, 0) := by
    have hc2 : ri_c 18 150 [.ref 1, .int x1] ri_M3 = some (some (.null), ri_M3, 0, 0) := by
      have hc1 : ri_c 17 5 [.ref 16] ri_M3 = some (some (.int 0), ri_M3, 0, 0) := by
        refine ri_ev_call (N := 7) (L := [some (.ref 16)]) rfl (Nat.le_of_ble_eq_true rfl) ?_
        refine ri_ev_go 1 (pc1 := 1) (L1 := [some (.ref 16)]) (st1 := [.ref 16]) (M1 := ri_M3) (c1 := 0) (s1 := 0) (fun n => rfl) ?_
        refine ri_ev_gf (k := 15) rfl ri_M3_15 rfl ?_
        refine ri_ev_go 1 (pc1 := 5) (L1 := [some (.ref 16)]) (st1 := [.int 1, .ref 17]) (M1 := ri_M3) (c1 := 0) (s1 := 0) (fun n => rfl) ?_
        refine ri_ev_iald (k := 16) (z := 0) rfl ri_M3_16 (by decide) rfl ?_
        refine ri_ev_go 2 (pc1 := 23) (L1 := [some (.ref 16)]) (st1 := [.int 0]) (M1 := ri_M3) (c1 := 0) (s1 := 0) (fun n => rfl) ?_
        exact ri_ev_ret (fun n => rfl)
      refine ri_ev_call (N := 7) (L := [some (.ref 1), some (.int x1), none]) rfl (Nat.le_of_ble_eq_true rfl) ?_
      refine ri_ev_go 1 (pc1 := 1) (L1 := [some (.ref 1), some (.int x1), none]) (st1 := [.ref 1]) (M1 := ri_M3) (c1 := 0) (s1 := 0) (fun n => rfl) ?_
      refine ri_ev_gf (k := 0) rfl ri_M3_0 rfl ?_
      refine ri_ev_gf (k := 14) rfl ri_M3_14 rfl ?_
      refine ri_ev_clv (k := 15) (M1 := ri_M3) (v := some (.int 0)) _ rfl rfl ri_M3_15 rfl (Nat.le_of_ble_eq_true rfl) hc1 ?_
      refine ri_ev_go 2 (pc1 := 34) (L1 := [some (.ref 1), some (.int x1), none]) (st1 := [.null]) (M1 := ri_M3) (c1 := 0) (s1 := 0) (fun n => rfl) ?_
      exact ri_ev_ret (fun n => rfl)
    refine ri_ev_call (N := 8) (L := [some (.ref 1), some (.int x1), some (.int x2), some (.int x3), none, none, none, none, none, none, none]) rfl (Nat.le_of_ble_eq_true rfl) ?_
    refine ri_ev_go 2 (pc1 := 2) (L1 := [some (.ref 1), some (.int x1), some (.int x2), some (.int x3), none, none, none, none, none, none, none]) (st1 := [.int x1, .ref 1]) (M1 := ri_M3) (c1 := 0) (s1 := 0) (fun n => rfl) ?_
    refine ri_ev_clv (k := 0) (M1 := ri_M3) (v := some (.null)) _ rfl rfl ri_M3_0 rfl (Nat.le_of_ble_eq_true rfl) hc2 ?_
    refine ri_ev_go 4 (pc1 := 33) (L1 := [some (.ref 1), some (.int x1), some (.int x2), some (.int x3), some (.null), none, none, none, none, none, none]) (st1 := [.int (-1)]) (M1 := ri_M3) (c1 := 0) (s1 := 0) (fun n => rfl) ?_
    exact ri_ev_ret (fun n => rfl)
  have hc6 : ri_c 19 263 [.ref 153, .int x1, .int x2, .int x3] ri_M3 = some (some (.int (-1)), ri_M3, 0, 0) := by
    have hc5 : ri_c 18 233 [.ref 153, .int x1] ri_M3 = some (some (.int 0), ri_M3, 0, 0) := by
      have hc4 : ri_c 17 209 [.ref 153] ri_M3 = some (some (.int 0), ri_M3, 0, 0) := by
        refine ri_ev_call (N := 7) (L := [some (.ref 153)]) rfl (Nat.le_of_ble_eq_true rfl) ?_
        refine ri_ev_go 1 (pc1 := 1) (L1 := [some (.ref 153)]) (st1 := [.ref 153]) (M1 := ri_M3) (c1 := 0) (s1 := 0) (fun n => rfl) ?_
        refine ri_ev_gf (k := 152) rfl ri_M3_152 rfl ?_
        refine ri_ev_go 1 (pc1 := 5) (L1 := [some (.ref 153)]) (st1 := [.int 0, .ref 164]) (M1 := ri_M3) (c1 := 0) (s1 := 0) (fun n => rfl) ?_
        refine ri_ev_iald (k := 163) (z := 0) rfl ri_M3_163 (by decide) rfl ?_
        refine ri_ev_go 2 (pc1 := 14) (L1 := [some (.ref 153)]) (st1 := [.int 0]) (M1 := ri_M3) (c1 := 0) (s1 := 0) (fun n => rfl) ?_
        exact ri_ev_ret (fun n => rfl)
      refine ri_ev_call (N := 5) (L := [some (.ref 153), some (.int x1)]) rfl (Nat.le_of_ble_eq_true rfl) ?_
      refine ri_ev_go 1 (pc1 := 1) (L1 := [some (.ref 153), some (.int x1)]) (st1 := [.ref 153]) (M1 := ri_M3) (c1 := 0) (s1 := 0) (fun n => rfl) ?_
      refine ri_ev_clv (k := 152) (M1 := ri_M3) (v := some (.int 0)) _ rfl rfl ri_M3_152 rfl (Nat.le_of_ble_eq_true rfl) hc4 ?_
      refine ri_ev_go 2 (pc1 := 20) (L1 := [some (.ref 153), some (.int x1)]) (st1 := [.int 0]) (M1 := ri_M3) (c1 := 0) (s1 := 0) (fun n => rfl) ?_
      exact ri_ev_ret (fun n => rfl)
    refine ri_ev_call (N := 6) (L := [some (.ref 153), some (.int x1), some (.int x2), some (.int x3), none, none, none, none, none, none]) rfl (Nat.le_of_ble_eq_true rfl) ?_
    refine ri_ev_go 2 (pc1 := 2) (L1 := [some (.ref 153), some (.int x1), some (.int x2), some (.int x3), none, none, none, none, none, none]) (st1 := [.int x1, .ref 153]) (M1 := ri_M3) (c1 := 0) (s1 := 0) (fun n => rfl) ?_
    refine ri_ev_clv (k := 152) (M1 := ri_M3) (v := some (.int 0)) _ rfl rfl ri_M3_152 rfl (Nat.le_of_ble_eq_true rfl) hc5 ?_
    refine ri_ev_go 2 (pc1 := 24) (L1 := [some (.ref 153), some (.int x1), some (.int x2), some (.int x3), none, none, none, none, none, none]) (st1 := [.int (-1)]) (M1 := ri_M3) (c1 := 0) (s1 := 0) (fun n => rfl) ?_
    exact ri_ev_ret (fun n => rfl)
  exact ⟨(-1), _, _, _, hc3, ri_M3_152, hc6⟩
theorem ro_filled (x1 x2 x3 : Int32)  : ri_eqi 130 263 [.int x1, .int x2, .int x3] := by
  exact ro_filled_0 x1 x2 x3  
set_option maxRecDepth 100000 in
set_option maxHeartbeats 8000000 in
theorem ro_next_0 (x1 x2 x3 x4 : Int32)  (h1 : ¬ x3 < 0) (h2 : ¬ x3 < 2) : ri_eqi 132 264 [.int x1, .int x2, .int x3, .int x4] := by
  have hc2 : ri_c 19 132 [.ref 1, .int x1, .int x2, .int x3, .int x4] ri_M3 = some (some (.int (-1)), ri_M3, 0, 0) := by
    have hc1 : ri_c 18 142 [.int x3, .int 2] ri_M3 = some (some (.int 1), ri_M3, 0, 0) := by
      refine ri_ev_call (N := 8) (L := [some (.int x3), some (.int 2)]) rfl (Nat.le_of_ble_eq_true rfl) ?_
      refine ri_ev_go 1 (pc1 := 1) (L1 := [some (.int x3), some (.int 2)]) (st1 := [.int x3]) (M1 := ri_M3) (c1 := 0) (s1 := 0) (fun n => rfl) ?_
      refine ri_iz_lt_f rfl h1 ?_
      refine ri_ev_go 2 (pc1 := 6) (L1 := [some (.int x3), some (.int 2)]) (st1 := [.int 2, .int x3]) (M1 := ri_M3) (c1 := 0) (s1 := 0) (fun n => rfl) ?_
      refine ri_ic_lt_f rfl h2 ?_
      refine ri_ev_go 2 (pc1 := 14) (L1 := [some (.int x3), some (.int 2)]) (st1 := [.int 1]) (M1 := ri_M3) (c1 := 0) (s1 := 0) (fun n => rfl) ?_
      exact ri_ev_ret (fun n => rfl)
    refine ri_ev_call (N := 6) (L := [some (.ref 1), some (.int x1), some (.int x2), some (.int x3), some (.int x4), none, none, none, none]) rfl (Nat.le_of_ble_eq_true rfl) ?_
    refine ri_ev_go 2 (pc1 := 2) (L1 := [some (.ref 1), some (.int x1), some (.int x2), some (.int x3), some (.int x4), none, none, none, none]) (st1 := [.int 2, .int x3]) (M1 := ri_M3) (c1 := 0) (s1 := 0) (fun n => rfl) ?_
    refine ri_ev_cls (M1 := ri_M3) (v := some (.int 1)) _ rfl (Or.inl rfl) rfl (Nat.le_of_ble_eq_true rfl) hc1 ?_
    refine ri_ev_go 2 (pc1 := 18) (L1 := [some (.ref 1), some (.int x1), some (.int x2), some (.int x3), some (.int x4), none, none, none, none]) (st1 := [.int (-1)]) (M1 := ri_M3) (c1 := 0) (s1 := 0) (fun n => rfl) ?_
    exact ri_ev_ret (fun n => rfl)
  have hc5 : ri_c 19 264 [.ref 153, .int x1, .int x2, .int x3, .int x4] ri_M3 = some (some (.int (-1)), ri_M3, 0, 0) := by
    have hc4 : ri_c 18 233 [.ref 153, .int x1] ri_M3 = some (some (.int 0), ri_M3, 0, 0) := by
      have hc3 : ri_c 17 209 [.ref 153] ri_M3 = some (some (.int 0), ri_M3, 0, 0) := by
        refine ri_ev_call (N := 7) (L := [some (.ref 153)]) rfl (Nat.le_of_ble_eq_true rfl) ?_
        refine ri_ev_go 1 (pc1 := 1) (L1 := [some (.ref 153)]) (st1 := [.ref 153]) (M1 := ri_M3) (c1 := 0) (s1 := 0) (fun n => rfl) ?_
        refine ri_ev_gf (k := 152) rfl ri_M3_152 rfl ?_
        refine ri_ev_go 1 (pc1 := 5) (L1 := [some (.ref 153)]) (st1 := [.int 0, .ref 164]) (M1 := ri_M3) (c1 := 0) (s1 := 0) (fun n => rfl) ?_
        refine ri_ev_iald (k := 163) (z := 0) rfl ri_M3_163 (by decide) rfl ?_
        refine ri_ev_go 2 (pc1 := 14) (L1 := [some (.ref 153)]) (st1 := [.int 0]) (M1 := ri_M3) (c1 := 0) (s1 := 0) (fun n => rfl) ?_
        exact ri_ev_ret (fun n => rfl)
      refine ri_ev_call (N := 5) (L := [some (.ref 153), some (.int x1)]) rfl (Nat.le_of_ble_eq_true rfl) ?_
      refine ri_ev_go 1 (pc1 := 1) (L1 := [some (.ref 153), some (.int x1)]) (st1 := [.ref 153]) (M1 := ri_M3) (c1 := 0) (s1 := 0) (fun n => rfl) ?_
      refine ri_ev_clv (k := 152) (M1 := ri_M3) (v := some (.int 0)) _ rfl rfl ri_M3_152 rfl (Nat.le_of_ble_eq_true rfl) hc3 ?_
      refine ri_ev_go 2 (pc1 := 20) (L1 := [some (.ref 153), some (.int x1)]) (st1 := [.int 0]) (M1 := ri_M3) (c1 := 0) (s1 := 0) (fun n => rfl) ?_
      exact ri_ev_ret (fun n => rfl)
    refine ri_ev_call (N := 6) (L := [some (.ref 153), some (.int x1), some (.int x2), some (.int x3), some (.int x4), none, none]) rfl (Nat.le_of_ble_eq_true rfl) ?_
    refine ri_ev_go 2 (pc1 := 2) (L1 := [some (.ref 153), some (.int x1), some (.int x2), some (.int x3), some (.int x4), none, none]) (st1 := [.int x1, .ref 153]) (M1 := ri_M3) (c1 := 0) (s1 := 0) (fun n => rfl) ?_
    refine ri_ev_clv (k := 152) (M1 := ri_M3) (v := some (.int 0)) _ rfl rfl ri_M3_152 rfl (Nat.le_of_ble_eq_true rfl) hc4 ?_
    refine ri_ev_go 2 (pc1 := 39) (L1 := [some (.ref 153), some (.int x1), some (.int x2), some (.int x3), some (.int x4), none, none]) (st1 := [.int (-1)]) (M1 := ri_M3) (c1 := 0) (s1 := 0) (fun n => rfl) ?_
    exact ri_ev_ret (fun n => rfl)
  exact ⟨(-1), _, _, _, hc2, ri_M3_152, hc5⟩
set_option maxRecDepth 100000 in
set_option maxHeartbeats 8000000 in
theorem ro_next_1 (x1 x2 x3 x4 : Int32)  (h1 : ¬ x3 < 0) (h2 : x3 < 2) (h3 : ¬ x4 < 0) (h4 : ¬ x4 < 5) : ri_eqi 132 264 [.int x1, .int x2, .int x3, .int x4] := by
  have hc3 : ri_c 19 132 [.ref 1, .int x1, .int x2, .int x3, .int x4] ri_M3 = some (some (.int (-1)), ri_M3, 0, 0) := by
    have hc1 : ri_c 18 142 [.int x3, .int 2] ri_M3 = some (some (.int 0), ri_M3, 0, 0) := by
      refine ri_ev_call (N := 7) (L := [some (.int x3), some (.int 2)]) rfl (Nat.le_of_ble_eq_true rfl) ?_
      refine ri_ev_go 1 (pc1 := 1) (L1 := [some (.int x3), some (.int 2)]) (st1 := [.int x3]) (M1 := ri_M3) (c1 := 0) (s1 := 0) (fun n => rfl) ?_
      refine ri_iz_lt_f rfl h1 ?_
      refine ri_ev_go 2 (pc1 := 6) (L1 := [some (.int x3), some (.int 2)]) (st1 := [.int 2, .int x3]) (M1 := ri_M3) (c1 := 0) (s1 := 0) (fun n => rfl) ?_
      refine ri_ic_lt_t (t := 13) rfl h2 rfl ?_
      refine ri_ev_go 1 (pc1 := 14) (L1 := [some (.int x3), some (.int 2)]) (st1 := [.int 0]) (M1 := ri_M3) (c1 := 0) (s1 := 0) (fun n => rfl) ?_
      exact ri_ev_ret (fun n => rfl)
    have hc2 : ri_c 18 142 [.int x4, .int 5] ri_M3 = some (some (.int 1), ri_M3, 0, 0) := by
      refine ri_ev_call (N := 8) (L := [some (.int x4), some (.int 5)]) rfl (Nat.le_of_ble_eq_true rfl) ?_
      refine ri_ev_go 1 (pc1 := 1) (L1 := [some (.int x4), some (.int 5)]) (st1 := [.int x4]) (M1 := ri_M3) (c1 := 0) (s1 := 0) (fun n => rfl) ?_
      refine ri_iz_lt_f rfl h3 ?_
      refine ri_ev_go 2 (pc1 := 6) (L1 := [some (.int x4), some (.int 5)]) (st1 := [.int 5, .int x4]) (M1 := ri_M3) (c1 := 0) (s1 := 0) (fun n => rfl) ?_
      refine ri_ic_lt_f rfl h4 ?_
      refine ri_ev_go 2 (pc1 := 14) (L1 := [some (.int x4), some (.int 5)]) (st1 := [.int 1]) (M1 := ri_M3) (c1 := 0) (s1 := 0) (fun n => rfl) ?_
      exact ri_ev_ret (fun n => rfl)
    refine ri_ev_call (N := 10) (L := [some (.ref 1), some (.int x1), some (.int x2), some (.int x3), some (.int x4), none, none, none, none]) rfl (Nat.le_of_ble_eq_true rfl) ?_
    refine ri_ev_go 2 (pc1 := 2) (L1 := [some (.ref 1), some (.int x1), some (.int x2), some (.int x3), some (.int x4), none, none, none, none]) (st1 := [.int 2, .int x3]) (M1 := ri_M3) (c1 := 0) (s1 := 0) (fun n => rfl) ?_
    refine ri_ev_cls (M1 := ri_M3) (v := some (.int 0)) _ rfl (Or.inl rfl) rfl (Nat.le_of_ble_eq_true rfl) hc1 ?_
    refine ri_ev_go 3 (pc1 := 11) (L1 := [some (.ref 1), some (.int x1), some (.int x2), some (.int x3), some (.int x4), none, none, none, none]) (st1 := [.int 5, .int x4]) (M1 := ri_M3) (c1 := 0) (s1 := 0) (fun n => rfl) ?_
    refine ri_ev_cls (M1 := ri_M3) (v := some (.int 1)) _ rfl (Or.inl rfl) rfl (Nat.le_of_ble_eq_true rfl) hc2 ?_
    refine ri_ev_go 2 (pc1 := 18) (L1 := [some (.ref 1), some (.int x1), some (.int x2), some (.int x3), some (.int x4), none, none, none, none]) (st1 := [.int (-1)]) (M1 := ri_M3) (c1 := 0) (s1 := 0) (fun n => rfl) ?_
    exact ri_ev_ret (fun n => rfl)
  have hc6 : ri_c 19 264 [.ref 153, .int x1, .int x2, .int x3, .int x4] ri_M3 = some (some (.int (-1)), ri_M3, 0, 0) := by
    have hc5 : ri_c 18 233 [.ref 153, .int x1] ri_M3 = some (some (.int 0), ri_M3, 0, 0) := by
      have hc4 : ri_c 17 209 [.ref 153] ri_M3 = some (some (.int 0), ri_M3, 0, 0) := by
        refine ri_ev_call (N := 7) (L := [some (.ref 153)]) rfl (Nat.le_of_ble_eq_true rfl) ?_
        refine ri_ev_go 1 (pc1 := 1) (L1 := [some (.ref 153)]) (st1 := [.ref 153]) (M1 := ri_M3) (c1 := 0) (s1 := 0) (fun n => rfl) ?_
        refine ri_ev_gf (k := 152) rfl ri_M3_152 rfl ?_
        refine ri_ev_go 1 (pc1 := 5) (L1 := [some (.ref 153)]) (st1 := [.int 0, .ref 164]) (M1 := ri_M3) (c1 := 0) (s1 := 0) (fun n => rfl) ?_
        refine ri_ev_iald (k := 163) (z := 0) rfl ri_M3_163 (by decide) rfl ?_
        refine ri_ev_go 2 (pc1 := 14) (L1 := [some (.ref 153)]) (st1 := [.int 0]) (M1 := ri_M3) (c1 := 0) (s1 := 0) (fun n => rfl) ?_
        exact ri_ev_ret (fun n => rfl)
      refine ri_ev_call (N := 5) (L := [some (.ref 153), some (.int x1)]) rfl (Nat.le_of_ble_eq_true rfl) ?_
      refine ri_ev_go 1 (pc1 := 1) (L1 := [some (.ref 153), some (.int x1)]) (st1 := [.ref 153]) (M1 := ri_M3) (c1 := 0) (s1 := 0) (fun n => rfl) ?_
      refine ri_ev_clv (k := 152) (M1 := ri_M3) (v := some (.int 0)) _ rfl rfl ri_M3_152 rfl (Nat.le_of_ble_eq_true rfl) hc4 ?_
      refine ri_ev_go 2 (pc1 := 20) (L1 := [some (.ref 153), some (.int x1)]) (st1 := [.int 0]) (M1 := ri_M3) (c1 := 0) (s1 := 0) (fun n => rfl) ?_
      exact ri_ev_ret (fun n => rfl)
    refine ri_ev_call (N := 6) (L := [some (.ref 153), some (.int x1), some (.int x2), some (.int x3), some (.int x4), none, none]) rfl (Nat.le_of_ble_eq_true rfl) ?_
    refine ri_ev_go 2 (pc1 := 2) (L1 := [some (.ref 153), some (.int x1), some (.int x2), some (.int x3), some (.int x4), none, none]) (st1 := [.int x1, .ref 153]) (M1 := ri_M3) (c1 := 0) (s1 := 0) (fun n => rfl) ?_
    refine ri_ev_clv (k := 152) (M1 := ri_M3) (v := some (.int 0)) _ rfl rfl ri_M3_152 rfl (Nat.le_of_ble_eq_true rfl) hc5 ?_
    refine ri_ev_go 2 (pc1 := 39) (L1 := [some (.ref 153), some (.int x1), some (.int x2), some (.int x3), some (.int x4), none, none]) (st1 := [.int (-1)]) (M1 := ri_M3) (c1 := 0) (s1 := 0) (fun n => rfl) ?_
    exact ri_ev_ret (fun n => rfl)
  exact ⟨(-1), _, _, _, hc3, ri_M3_152, hc6⟩
set_option maxRecDepth 100000 in
set_option maxHeartbeats 8000000 in
theorem ro_next_2 (x1 x2 x3 x4 : Int32)  (h1 : ¬ x3 < 0) (h2 : x3 < 2) (h3 : ¬ x4 < 0) (h4 : x4 < 5) : ri_eqi 132 264 [.int x1, .int x2, .int x3, .int x4] := by
  have hc6 : ri_c 19 132 [.ref 1, .int x1, .int x2, .int x3, .int x4] ri_M3 = some (some (.int (-1)), ri_M3, 0, 0) := by
    have hc1 : ri_c 18 142 [.int x3, .int 2] ri_M3 = some (some (.int 0), ri_M3, 0, 0) := by
      refine ri_ev_call (N := 7) (L := [some (.int x3), some (.int 2)]) rfl (Nat.le_of_ble_eq_true rfl) ?_
      refine ri_ev_go 1 (pc1 := 1) (L1 := [some (.int x3), some (.int 2)]) (st1 := [.int x3]) (M1 := ri_M3) (c1 := 0) (s1 := 0) (fun n => rfl) ?_
      refine ri_iz_lt_f rfl h1 ?_
      refine ri_ev_go 2 (pc1 := 6) (L1 := [some (.int x3), some (.int 2)]) (st1 := [.int 2, .int x3]) (M1 := ri_M3) (c1 := 0) (s1 := 0) (fun n => rfl) ?_
      refine ri_ic_lt_t (t := 13) rfl h2 rfl ?_
      refine ri_ev_go 1 (pc1 := 14) (L1 := [some (.int x3), some (.int 2)]) (st1 := [.int 0]) (M1 := ri_M3) (c1 := 0) (s1 := 0) (fun n => rfl) ?_
      exact ri_ev_ret (fun n => rfl)
    have hc2 : ri_c 18 142 [.int x4, .int 5] ri_M3 = some (some (.int 0), ri_M3, 0, 0) := by
      refine ri_ev_call (N := 7) (L := [some (.int x4), some (.int 5)]) rfl (Nat.le_of_ble_eq_true rfl) ?_
      refine ri_ev_go 1 (pc1 := 1) (L1 := [some (.int x4), some (.int 5)]) (st1 := [.int x4]) (M1 := ri_M3) (c1 := 0) (s1 := 0) (fun n => rfl) ?_
      refine ri_iz_lt_f rfl h3 ?_
      refine ri_ev_go 2 (pc1 := 6) (L1 := [some (.int x4), some (.int 5)]) (st1 := [.int 5, .int x4]) (M1 := ri_M3) (c1 := 0) (s1 := 0) (fun n => rfl) ?_
      refine ri_ic_lt_t (t := 13) rfl h4 rfl ?_
      refine ri_ev_go 1 (pc1 := 14) (L1 := [some (.int x4), some (.int 5)]) (st1 := [.int 0]) (M1 := ri_M3) (c1 := 0) (s1 := 0) (fun n => rfl) ?_
      exact ri_ev_ret (fun n => rfl)
    have hc5 : ri_c 18 151 [.ref 1, .int x1, .int x2] ri_M3 = some (some (.null), ri_M3, 0, 0) := by
      have hc4 : ri_c 17 150 [.ref 1, .int x1] ri_M3 = some (some (.null), ri_M3, 0, 0) := by
        have hc3 : ri_c 16 5 [.ref 16] ri_M3 = some (some (.int 0), ri_M3, 0, 0) := by
          refine ri_ev_call (N := 7) (L := [some (.ref 16)]) rfl (Nat.le_of_ble_eq_true rfl) ?_
          refine ri_ev_go 1 (pc1 := 1) (L1 := [some (.ref 16)]) (st1 := [.ref 16]) (M1 := ri_M3) (c1 := 0) (s1 := 0) (fun n => rfl) ?_
          refine ri_ev_gf (k := 15) rfl ri_M3_15 rfl ?_
          refine ri_ev_go 1 (pc1 := 5) (L1 := [some (.ref 16)]) (st1 := [.int 1, .ref 17]) (M1 := ri_M3) (c1 := 0) (s1 := 0) (fun n => rfl) ?_
          refine ri_ev_iald (k := 16) (z := 0) rfl ri_M3_16 (by decide) rfl ?_
          refine ri_ev_go 2 (pc1 := 23) (L1 := [some (.ref 16)]) (st1 := [.int 0]) (M1 := ri_M3) (c1 := 0) (s1 := 0) (fun n => rfl) ?_
          exact ri_ev_ret (fun n => rfl)
        refine ri_ev_call (N := 7) (L := [some (.ref 1), some (.int x1), none]) rfl (Nat.le_of_ble_eq_true rfl) ?_
        refine ri_ev_go 1 (pc1 := 1) (L1 := [some (.ref 1), some (.int x1), none]) (st1 := [.ref 1]) (M1 := ri_M3) (c1 := 0) (s1 := 0) (fun n => rfl) ?_
        refine ri_ev_gf (k := 0) rfl ri_M3_0 rfl ?_
        refine ri_ev_gf (k := 14) rfl ri_M3_14 rfl ?_
        refine ri_ev_clv (k := 15) (M1 := ri_M3) (v := some (.int 0)) _ rfl rfl ri_M3_15 rfl (Nat.le_of_ble_eq_true rfl) hc3 ?_
        refine ri_ev_go 2 (pc1 := 34) (L1 := [some (.ref 1), some (.int x1), none]) (st1 := [.null]) (M1 := ri_M3) (c1 := 0) (s1 := 0) (fun n => rfl) ?_
        exact ri_ev_ret (fun n => rfl)
      refine ri_ev_call (N := 8) (L := [some (.ref 1), some (.int x1), some (.int x2), none]) rfl (Nat.le_of_ble_eq_true rfl) ?_
      refine ri_ev_go 2 (pc1 := 2) (L1 := [some (.ref 1), some (.int x1), some (.int x2), none]) (st1 := [.int x1, .ref 1]) (M1 := ri_M3) (c1 := 0) (s1 := 0) (fun n => rfl) ?_
      refine ri_ev_clv (k := 0) (M1 := ri_M3) (v := some (.null)) _ rfl rfl ri_M3_0 rfl (Nat.le_of_ble_eq_true rfl) hc4 ?_
      refine ri_ev_go 4 (pc1 := 20) (L1 := [some (.ref 1), some (.int x1), some (.int x2), some (.null)]) (st1 := [.null]) (M1 := ri_M3) (c1 := 0) (s1 := 0) (fun n => rfl) ?_
      exact ri_ev_ret (fun n => rfl)
    refine ri_ev_call (N := 17) (L := [some (.ref 1), some (.int x1), some (.int x2), some (.int x3), some (.int x4), none, none, none, none]) rfl (Nat.le_of_ble_eq_true rfl) ?_
    refine ri_ev_go 2 (pc1 := 2) (L1 := [some (.ref 1), some (.int x1), some (.int x2), some (.int x3), some (.int x4), none, none, none, none]) (st1 := [.int 2, .int x3]) (M1 := ri_M3) (c1 := 0) (s1 := 0) (fun n => rfl) ?_
    refine ri_ev_cls (M1 := ri_M3) (v := some (.int 0)) _ rfl (Or.inl rfl) rfl (Nat.le_of_ble_eq_true rfl) hc1 ?_
    refine ri_ev_go 3 (pc1 := 11) (L1 := [some (.ref 1), some (.int x1), some (.int x2), some (.int x3), some (.int x4), none, none, none, none]) (st1 := [.int 5, .int x4]) (M1 := ri_M3) (c1 := 0) (s1 := 0) (fun n => rfl) ?_
    refine ri_ev_cls (M1 := ri_M3) (v := some (.int 0)) _ rfl (Or.inl rfl) rfl (Nat.le_of_ble_eq_true rfl) hc2 ?_
    refine ri_ev_go 4 (pc1 := 22) (L1 := [some (.ref 1), some (.int x1), some (.int x2), some (.int x3), some (.int x4), none, none, none, none]) (st1 := [.int x2, .int x1, .ref 1]) (M1 := ri_M3) (c1 := 0) (s1 := 0) (fun n => rfl) ?_
    refine ri_ev_clv (k := 0) (M1 := ri_M3) (v := some (.null)) _ rfl rfl ri_M3_0 rfl (Nat.le_of_ble_eq_true rfl) hc5 ?_
    refine ri_ev_go 4 (pc1 := 33) (L1 := [some (.ref 1), some (.int x1), some (.int x2), some (.int x3), some (.int x4), some (.null), none, none, none]) (st1 := [.int (-1)]) (M1 := ri_M3) (c1 := 0) (s1 := 0) (fun n => rfl) ?_
    exact ri_ev_ret (fun n => rfl)
  have hc9 : ri_c 19 264 [.ref 153, .int x1, .int x2, .int x3, .int x4] ri_M3 = some (some (.int (-1)), ri_M3, 0, 0) := by
    have hc8 : ri_c 18 233 [.ref 153, .int x1] ri_M3 = some (some (.int 0), ri_M3, 0, 0) := by
      have hc7 : ri_c 17 209 [.ref 153] ri_M3 = some (some (.int 0), ri_M3, 0, 0) := by
        refine ri_ev_call (N := 7) (L := [some (.ref 153)]) rfl (Nat.le_of_ble_eq_true rfl) ?_
        refine ri_ev_go 1 (pc1 := 1) (L1 := [some (.ref 153)]) (st1 := [.ref 153]) (M1 := ri_M3) (c1 := 0) (s1 := 0) (fun n => rfl) ?_
        refine ri_ev_gf (k := 152) rfl ri_M3_152 rfl ?_
        refine ri_ev_go 1 (pc1 := 5) (L1 := [some (.ref 153)]) (st1 := [.int 0, .ref 164]) (M1 := ri_M3) (c1 := 0) (s1 := 0) (fun n => rfl) ?_
        refine ri_ev_iald (k := 163) (z := 0) rfl ri_M3_163 (by decide) rfl ?_
        refine ri_ev_go 2 (pc1 := 14) (L1 := [some (.ref 153)]) (st1 := [.int 0]) (M1 := ri_M3) (c1 := 0) (s1 := 0) (fun n => rfl) ?_
        exact ri_ev_ret (fun n => rfl)
      refine ri_ev_call (N := 5) (L := [some (.ref 153), some (.int x1)]) rfl (Nat.le_of_ble_eq_true rfl) ?_
      refine ri_ev_go 1 (pc1 := 1) (L1 := [some (.ref 153), some (.int x1)]) (st1 := [.ref 153]) (M1 := ri_M3) (c1 := 0) (s1 := 0) (fun n => rfl) ?_
      refine ri_ev_clv (k := 152) (M1 := ri_M3) (v := some (.int 0)) _ rfl rfl ri_M3_152 rfl (Nat.le_of_ble_eq_true rfl) hc7 ?_
      refine ri_ev_go 2 (pc1 := 20) (L1 := [some (.ref 153), some (.int x1)]) (st1 := [.int 0]) (M1 := ri_M3) (c1 := 0) (s1 := 0) (fun n => rfl) ?_
      exact ri_ev_ret (fun n => rfl)
    refine ri_ev_call (N := 6) (L := [some (.ref 153), some (.int x1), some (.int x2), some (.int x3), some (.int x4), none, none]) rfl (Nat.le_of_ble_eq_true rfl) ?_
    refine ri_ev_go 2 (pc1 := 2) (L1 := [some (.ref 153), some (.int x1), some (.int x2), some (.int x3), some (.int x4), none, none]) (st1 := [.int x1, .ref 153]) (M1 := ri_M3) (c1 := 0) (s1 := 0) (fun n => rfl) ?_
    refine ri_ev_clv (k := 152) (M1 := ri_M3) (v := some (.int 0)) _ rfl rfl ri_M3_152 rfl (Nat.le_of_ble_eq_true rfl) hc8 ?_
    refine ri_ev_go 2 (pc1 := 39) (L1 := [some (.ref 153), some (.int x1), some (.int x2), some (.int x3), some (.int x4), none, none]) (st1 := [.int (-1)]) (M1 := ri_M3) (c1 := 0) (s1 := 0) (fun n => rfl) ?_
    exact ri_ev_ret (fun n => rfl)
  exact ⟨(-1), _, _, _, hc6, ri_M3_152, hc9⟩
set_option maxRecDepth 100000 in
set_option maxHeartbeats 8000000 in
theorem ro_next_3 (x1 x2 x3 x4 : Int32)  (h1 : ¬ x3 < 0) (h2 : x3 < 2) (h3 : x4 < 0) : ri_eqi 132 264 [.int x1, .int x2, .int x3, .int x4] := by
  have hc3 : ri_c 19 132 [.ref 1, .int x1, .int x2, .int x3, .int x4] ri_M3 = some (some (.int (-1)), ri_M3, 0, 0) := by
    have hc1 : ri_c 18 142 [.int x3, .int 2] ri_M3 = some (some (.int 0), ri_M3, 0, 0) := by
      refine ri_ev_call (N := 7) (L := [some (.int x3), some (.int 2)]) rfl (Nat.le_of_ble_eq_true rfl) ?_
      refine ri_ev_go 1 (pc1 := 1) (L1 := [some (.int x3), some (.int 2)]) (st1 := [.int x3]) (M1 := ri_M3) (c1 := 0) (s1 := 0) (fun n => rfl) ?_
      refine ri_iz_lt_f rfl h1 ?_
      refine ri_ev_go 2 (pc1 := 6) (L1 := [some (.int x3), some (.int 2)]) (st1 := [.int 2, .int x3]) (M1 := ri_M3) (c1 := 0) (s1 := 0) (fun n => rfl) ?_
      refine ri_ic_lt_t (t := 13) rfl h2 rfl ?_
      refine ri_ev_go 1 (pc1 := 14) (L1 := [some (.int x3), some (.int 2)]) (st1 := [.int 0]) (M1 := ri_M3) (c1 := 0) (s1 := 0) (fun n => rfl) ?_
      exact ri_ev_ret (fun n => rfl)
    have hc2 : ri_c 18 142 [.int x4, .int 5] ri_M3 = some (some (.int 1), ri_M3, 0, 0) := by
      refine ri_ev_call (N := 5) (L := [some (.int x4), some (.int 5)]) rfl (Nat.le_of_ble_eq_true rfl) ?_
      refine ri_ev_go 1 (pc1 := 1) (L1 := [some (.int x4), some (.int 5)]) (st1 := [.int x4]) (M1 := ri_M3) (c1 := 0) (s1 := 0) (fun n => rfl) ?_
      refine ri_iz_lt_t (t := 9) rfl h3 rfl ?_
      refine ri_ev_go 2 (pc1 := 14) (L1 := [some (.int x4), some (.int 5)]) (st1 := [.int 1]) (M1 := ri_M3) (c1 := 0) (s1 := 0) (fun n => rfl) ?_
      exact ri_ev_ret (fun n => rfl)
    refine ri_ev_call (N := 10) (L := [some (.ref 1), some (.int x1), some (.int x2), some (.int x3), some (.int x4), none, none, none, none]) rfl (Nat.le_of_ble_eq_true rfl) ?_
    refine ri_ev_go 2 (pc1 := 2) (L1 := [some (.ref 1), some (.int x1), some (.int x2), some (.int x3), some (.int x4), none, none, none, none]) (st1 := [.int 2, .int x3]) (M1 := ri_M3) (c1 := 0) (s1 := 0) (fun n => rfl) ?_
    refine ri_ev_cls (M1 := ri_M3) (v := some (.int 0)) _ rfl (Or.inl rfl) rfl (Nat.le_of_ble_eq_true rfl) hc1 ?_
    refine ri_ev_go 3 (pc1 := 11) (L1 := [some (.ref 1), some (.int x1), some (.int x2), some (.int x3), some (.int x4), none, none, none, none]) (st1 := [.int 5, .int x4]) (M1 := ri_M3) (c1 := 0) (s1 := 0) (fun n => rfl) ?_
    refine ri_ev_cls (M1 := ri_M3) (v := some (.int 1)) _ rfl (Or.inl rfl) rfl (Nat.le_of_ble_eq_true rfl) hc2 ?_
    refine ri_ev_go 2 (pc1 := 18) (L1 := [some (.ref 1), some (.int x1), some (.int x2), some (.int x3), some (.int x4), none, none, none, none]) (st1 := [.int (-1)]) (M1 := ri_M3) (c1 := 0) (s1 := 0) (fun n => rfl) ?_
    exact ri_ev_ret (fun n => rfl)
  have hc6 : ri_c 19 264 [.ref 153, .int x1, .int x2, .int x3, .int x4] ri_M3 = some (some (.int (-1)), ri_M3, 0, 0) := by
    have hc5 : ri_c 18 233 [.ref 153, .int x1] ri_M3 = some (some (.int 0), ri_M3, 0, 0) := by
      have hc4 : ri_c 17 209 [.ref 153] ri_M3 = some (some (.int 0), ri_M3, 0, 0) := by
        refine ri_ev_call (N := 7) (L := [some (.ref 153)]) rfl (Nat.le_of_ble_eq_true rfl) ?_
        refine ri_ev_go 1 (pc1 := 1) (L1 := [some (.ref 153)]) (st1 := [.ref 153]) (M1 := ri_M3) (c1 := 0) (s1 := 0) (fun n => rfl) ?_
        refine ri_ev_gf (k := 152) rfl ri_M3_152 rfl ?_
        refine ri_ev_go 1 (pc1 := 5) (L1 := [some (.ref 153)]) (st1 := [.int 0, .ref 164]) (M1 := ri_M3) (c1 := 0) (s1 := 0) (fun n => rfl) ?_
        refine ri_ev_iald (k := 163) (z := 0) rfl ri_M3_163 (by decide) rfl ?_
        refine ri_ev_go 2 (pc1 := 14) (L1 := [some (.ref 153)]) (st1 := [.int 0]) (M1 := ri_M3) (c1 := 0) (s1 := 0) (fun n => rfl) ?_
        exact ri_ev_ret (fun n => rfl)
      refine ri_ev_call (N := 5) (L := [some (.ref 153), some (.int x1)]) rfl (Nat.le_of_ble_eq_true rfl) ?_
      refine ri_ev_go 1 (pc1 := 1) (L1 := [some (.ref 153), some (.int x1)]) (st1 := [.ref 153]) (M1 := ri_M3) (c1 := 0) (s1 := 0) (fun n => rfl) ?_
      refine ri_ev_clv (k := 152) (M1 := ri_M3) (v := some (.int 0)) _ rfl rfl ri_M3_152 rfl (Nat.le_of_ble_eq_true rfl) hc4 ?_
      refine ri_ev_go 2 (pc1 := 20) (L1 := [some (.ref 153), some (.int x1)]) (st1 := [.int 0]) (M1 := ri_M3) (c1 := 0) (s1 := 0) (fun n => rfl) ?_
      exact ri_ev_ret (fun n => rfl)
    refine ri_ev_call (N := 6) (L := [some (.ref 153), some (.int x1), some (.int x2), some (.int x3), some (.int x4), none, none]) rfl (Nat.le_of_ble_eq_true rfl) ?_
    refine ri_ev_go 2 (pc1 := 2) (L1 := [some (.ref 153), some (.int x1), some (.int x2), some (.int x3), some (.int x4), none, none]) (st1 := [.int x1, .ref 153]) (M1 := ri_M3) (c1 := 0) (s1 := 0) (fun n => rfl) ?_
    refine ri_ev_clv (k := 152) (M1 := ri_M3) (v := some (.int 0)) _ rfl rfl ri_M3_152 rfl (Nat.le_of_ble_eq_true rfl) hc5 ?_
    refine ri_ev_go 2 (pc1 := 39) (L1 := [some (.ref 153), some (.int x1), some (.int x2), some (.int x3), some (.int x4), none, none]) (st1 := [.int (-1)]) (M1 := ri_M3) (c1 := 0) (s1 := 0) (fun n => rfl) ?_
    exact ri_ev_ret (fun n => rfl)
  exact ⟨(-1), _, _, _, hc3, ri_M3_152, hc6⟩
set_option maxRecDepth 100000 in
set_option maxHeartbeats 8000000 in
theorem ro_next_4 (x1 x2 x3 x4 : Int32)  (h1 : x3 < 0) : ri_eqi 132 264 [.int x1, .int x2, .int x3, .int x4] := by
  have hc2 : ri_c 19 132 [.ref 1, .int x1, .int x2, .int x3, .int x4] ri_M3 = some (some (.int (-1)), ri_M3, 0, 0) := by
    have hc1 : ri_c 18 142 [.int x3, .int 2] ri_M3 = some (some (.int 1), ri_M3, 0, 0) := by
      refine ri_ev_call (N := 5) (L := [some (.int x3), some (.int 2)]) rfl (Nat.le_of_ble_eq_true rfl) ?_
      refine ri_ev_go 1 (pc1 := 1) (L1 := [some (.int x3), some (.int 2)]) (st1 := [.int x3]) (M1 := ri_M3) (c1 := 0) (s1 := 0) (fun n => rfl) ?_
      refine ri_iz_lt_t (t := 9) rfl h1 rfl ?_
      refine ri_ev_go 2 (pc1 := 14) (L1 := [some (.int x3), some (.int 2)]) (st1 := [.int 1]) (M1 := ri_M3) (c1 := 0) (s1 := 0) (fun n => rfl) ?_
      exact ri_ev_ret (fun n => rfl)
    refine ri_ev_call (N := 6) (L := [some (.ref 1), some (.int x1), some (.int x2), some (.int x3), some (.int x4), none, none, none, none]) rfl (Nat.le_of_ble_eq_true rfl) ?_
    refine ri_ev_go 2 (pc1 := 2) (L1 := [some (.ref 1), some (.int x1), some (.int x2), some (.int x3), some (.int x4), none, none, none, none]) (st1 := [.int 2, .int x3]) (M1 := ri_M3) (c1 := 0) (s1 := 0) (fun n => rfl) ?_
    refine ri_ev_cls (M1 := ri_M3) (v := some (.int 1)) _ rfl (Or.inl rfl) rfl (Nat.le_of_ble_eq_true rfl) hc1 ?_
    refine ri_ev_go 2 (pc1 := 18) (L1 := [some (.ref 1), some (.int x1), some (.int x2), some (.int x3), some (.int x4), none, none, none, none]) (st1 := [.int (-1)]) (M1 := ri_M3) (c1 := 0) (s1 := 0) (fun n => rfl) ?_
    exact ri_ev_ret (fun n => rfl)
  have hc5 : ri_c 19 264 [.ref 153, .int x1, .int x2, .int x3, .int x4] ri_M3 = some (some (.int (-1)), ri_M3, 0, 0) := by
    have hc4 : ri_c 18 233 [.ref 153, .int x1] ri_M3 = some (some (.int 0), ri_M3, 0, 0) := by
      have hc3 : ri_c 17 209 [.ref 153] ri_M3 = some (some (.int 0), ri_M3, 0, 0) := by
        refine ri_ev_call (N := 7) (L := [some (.ref 153)]) rfl (Nat.le_of_ble_eq_true rfl) ?_
        refine ri_ev_go 1 (pc1 := 1) (L1 := [some (.ref 153)]) (st1 := [.ref 153]) (M1 := ri_M3) (c1 := 0) (s1 := 0) (fun n => rfl) ?_
        refine ri_ev_gf (k := 152) rfl ri_M3_152 rfl ?_
        refine ri_ev_go 1 (pc1 := 5) (L1 := [some (.ref 153)]) (st1 := [.int 0, .ref 164]) (M1 := ri_M3) (c1 := 0) (s1 := 0) (fun n => rfl) ?_
        refine ri_ev_iald (k := 163) (z := 0) rfl ri_M3_163 (by decide) rfl ?_
        refine ri_ev_go 2 (pc1 := 14) (L1 := [some (.ref 153)]) (st1 := [.int 0]) (M1 := ri_M3) (c1 := 0) (s1 := 0) (fun n => rfl) ?_
        exact ri_ev_ret (fun n => rfl)
      refine ri_ev_call (N := 5) (L := [some (.ref 153), some (.int x1)]) rfl (Nat.le_of_ble_eq_true rfl) ?_
      refine ri_ev_go 1 (pc1 := 1) (L1 := [some (.ref 153), some (.int x1)]) (st1 := [.ref 153]) (M1 := ri_M3) (c1 := 0) (s1 := 0) (fun n => rfl) ?_
      refine ri_ev_clv (k := 152) (M1 := ri_M3) (v := some (.int 0)) _ rfl rfl ri_M3_152 rfl (Nat.le_of_ble_eq_true rfl) hc3 ?_
      refine ri_ev_go 2 (pc1 := 20) (L1 := [some (.ref 153), some (.int x1)]) (st1 := [.int 0]) (M1 := ri_M3) (c1 := 0) (s1 := 0) (fun n => rfl) ?_
      exact ri_ev_ret (fun n => rfl)
    refine ri_ev_call (N := 6) (L := [some (.ref 153), some (.int x1), some (.int x2), some (.int x3), some (.int x4), none, none]) rfl (Nat.le_of_ble_eq_true rfl) ?_
    refine ri_ev_go 2 (pc1 := 2) (L1 := [some (.ref 153), some (.int x1), some (.int x2), some (.int x3), some (.int x4), none, none]) (st1 := [.int x1, .ref 153]) (M1 := ri_M3) (c1 := 0) (s1 := 0) (fun n => rfl) ?_
    refine ri_ev_clv (k := 152) (M1 := ri_M3) (v := some (.int 0)) _ rfl rfl ri_M3_152 rfl (Nat.le_of_ble_eq_true rfl) hc4 ?_
    refine ri_ev_go 2 (pc1 := 39) (L1 := [some (.ref 153), some (.int x1), some (.int x2), some (.int x3), some (.int x4), none, none]) (st1 := [.int (-1)]) (M1 := ri_M3) (c1 := 0) (s1 := 0) (fun n => rfl) ?_
    exact ri_ev_ret (fun n => rfl)
  exact ⟨(-1), _, _, _, hc2, ri_M3_152, hc5⟩
theorem ro_next (x1 x2 x3 x4 : Int32)  : ri_eqi 132 264 [.int x1, .int x2, .int x3, .int x4] := by
  by_cases h1 : x3 < 0
  · exact ro_next_4 x1 x2 x3 x4  h1
  · by_cases h2 : x3 < 2
    · by_cases h3 : x4 < 0
      · exact ro_next_3 x1 x2 x3 x4  h1 h2 h3
      · by_cases h4 : x4 < 5
        · exact ro_next_2 x1 x2 x3 x4  h1 h2 h3 h4
        · exact ro_next_1 x1 x2 x3 x4  h1 h2 h3 h4
    · exact ro_next_0 x1 x2 x3 x4  h1 h2
set_option maxRecDepth 100000 in
set_option maxHeartbeats 8000000 in
theorem ro_needed_0 (x1 x2 : Int32)   : ri_eqi 133 269 [.int x1, .int x2] := by
  have hc4 : ri_c 19 133 [.ref 1, .int x1, .int x2] ri_M3 = some (some (.int (-1)), ri_M3, 0, 0) := by
    have hc3 : ri_c 18 151 [.ref 1, .int x1, .int x2] ri_M3 = some (some (.null), ri_M3, 0, 0) := by
      have hc2 : ri_c 17 150 [.ref 1, .int x1] ri_M3 = some (some (.null), ri_M3, 0, 0) := by
        have hc1 : ri_c 16 5 [.ref 16] ri_M3 = some (some (.int 0), ri_M3, 0, 0) := by
          refine ri_ev_call (N := 7) (L := [some (.ref 16)]) rfl (Nat.le_of_ble_eq_true rfl) ?_
          refine ri_ev_go 1 (pc1 := 1) (L1 := [some (.ref 16)]) (st1 := [.ref 16]) (M1 := ri_M3) (c1 := 0) (s1 := 0) (fun n => rfl) ?_
          refine ri_ev_gf (k := 15) rfl ri_M3_15 rfl ?_
          refine ri_ev_go 1 (pc1 := 5) (L1 := [some (.ref 16)]) (st1 := [.int 1, .ref 17]) (M1 := ri_M3) (c1 := 0) (s1 := 0) (fun n => rfl) ?_
          refine ri_ev_iald (k := 16) (z := 0) rfl ri_M3_16 (by decide) rfl ?_
          refine ri_ev_go 2 (pc1 := 23) (L1 := [some (.ref 16)]) (st1 := [.int 0]) (M1 := ri_M3) (c1 := 0) (s1 := 0) (fun n => rfl) ?_
          exact ri_ev_ret (fun n => rfl)
        refine ri_ev_call (N := 7) (L := [some (.ref 1), some (.int x1), none]) rfl (Nat.le_of_ble_eq_true rfl) ?_
        refine ri_ev_go 1 (pc1 := 1) (L1 := [some (.ref 1), some (.int x1), none]) (st1 := [.ref 1]) (M1 := ri_M3) (c1 := 0) (s1 := 0) (fun n => rfl) ?_
        refine ri_ev_gf (k := 0) rfl ri_M3_0 rfl ?_
        refine ri_ev_gf (k := 14) rfl ri_M3_14 rfl ?_
        refine ri_ev_clv (k := 15) (M1 := ri_M3) (v := some (.int 0)) _ rfl rfl ri_M3_15 rfl (Nat.le_of_ble_eq_true rfl) hc1 ?_
        refine ri_ev_go 2 (pc1 := 34) (L1 := [some (.ref 1), some (.int x1), none]) (st1 := [.null]) (M1 := ri_M3) (c1 := 0) (s1 := 0) (fun n => rfl) ?_
        exact ri_ev_ret (fun n => rfl)
      refine ri_ev_call (N := 8) (L := [some (.ref 1), some (.int x1), some (.int x2), none]) rfl (Nat.le_of_ble_eq_true rfl) ?_
      refine ri_ev_go 2 (pc1 := 2) (L1 := [some (.ref 1), some (.int x1), some (.int x2), none]) (st1 := [.int x1, .ref 1]) (M1 := ri_M3) (c1 := 0) (s1 := 0) (fun n => rfl) ?_
      refine ri_ev_clv (k := 0) (M1 := ri_M3) (v := some (.null)) _ rfl rfl ri_M3_0 rfl (Nat.le_of_ble_eq_true rfl) hc2 ?_
      refine ri_ev_go 4 (pc1 := 20) (L1 := [some (.ref 1), some (.int x1), some (.int x2), some (.null)]) (st1 := [.null]) (M1 := ri_M3) (c1 := 0) (s1 := 0) (fun n => rfl) ?_
      exact ri_ev_ret (fun n => rfl)
    refine ri_ev_call (N := 9) (L := [some (.ref 1), some (.int x1), some (.int x2), none, none]) rfl (Nat.le_of_ble_eq_true rfl) ?_
    refine ri_ev_go 3 (pc1 := 3) (L1 := [some (.ref 1), some (.int x1), some (.int x2), none, none]) (st1 := [.int x2, .int x1, .ref 1]) (M1 := ri_M3) (c1 := 0) (s1 := 0) (fun n => rfl) ?_
    refine ri_ev_clv (k := 0) (M1 := ri_M3) (v := some (.null)) _ rfl rfl ri_M3_0 rfl (Nat.le_of_ble_eq_true rfl) hc3 ?_
    refine ri_ev_go 4 (pc1 := 24) (L1 := [some (.ref 1), some (.int x1), some (.int x2), some (.null), none]) (st1 := [.int (-1)]) (M1 := ri_M3) (c1 := 0) (s1 := 0) (fun n => rfl) ?_
    exact ri_ev_ret (fun n => rfl)
  have hc7 : ri_c 19 269 [.ref 153, .int x1, .int x2] ri_M3 = some (some (.int (-1)), ri_M3, 0, 0) := by
    have hc6 : ri_c 18 233 [.ref 153, .int x1] ri_M3 = some (some (.int 0), ri_M3, 0, 0) := by
      have hc5 : ri_c 17 209 [.ref 153] ri_M3 = some (some (.int 0), ri_M3, 0, 0) := by
        refine ri_ev_call (N := 7) (L := [some (.ref 153)]) rfl (Nat.le_of_ble_eq_true rfl) ?_
        refine ri_ev_go 1 (pc1 := 1) (L1 := [some (.ref 153)]) (st1 := [.ref 153]) (M1 := ri_M3) (c1 := 0) (s1 := 0) (fun n => rfl) ?_
        refine ri_ev_gf (k := 152) rfl ri_M3_152 rfl ?_
        refine ri_ev_go 1 (pc1 := 5) (L1 := [some (.ref 153)]) (st1 := [.int 0, .ref 164]) (M1 := ri_M3) (c1 := 0) (s1 := 0) (fun n => rfl) ?_
        refine ri_ev_iald (k := 163) (z := 0) rfl ri_M3_163 (by decide) rfl ?_
        refine ri_ev_go 2 (pc1 := 14) (L1 := [some (.ref 153)]) (st1 := [.int 0]) (M1 := ri_M3) (c1 := 0) (s1 := 0) (fun n => rfl) ?_
        exact ri_ev_ret (fun n => rfl)
      refine ri_ev_call (N := 5) (L := [some (.ref 153), some (.int x1)]) rfl (Nat.le_of_ble_eq_true rfl) ?_
      refine ri_ev_go 1 (pc1 := 1) (L1 := [some (.ref 153), some (.int x1)]) (st1 := [.ref 153]) (M1 := ri_M3) (c1 := 0) (s1 := 0) (fun n => rfl) ?_
      refine ri_ev_clv (k := 152) (M1 := ri_M3) (v := some (.int 0)) _ rfl rfl ri_M3_152 rfl (Nat.le_of_ble_eq_true rfl) hc5 ?_
      refine ri_ev_go 2 (pc1 := 20) (L1 := [some (.ref 153), some (.int x1)]) (st1 := [.int 0]) (M1 := ri_M3) (c1 := 0) (s1 := 0) (fun n => rfl) ?_
      exact ri_ev_ret (fun n => rfl)
    refine ri_ev_call (N := 6) (L := [some (.ref 153), some (.int x1), some (.int x2), none, none, none, none]) rfl (Nat.le_of_ble_eq_true rfl) ?_
    refine ri_ev_go 2 (pc1 := 2) (L1 := [some (.ref 153), some (.int x1), some (.int x2), none, none, none, none]) (st1 := [.int x1, .ref 153]) (M1 := ri_M3) (c1 := 0) (s1 := 0) (fun n => rfl) ?_
    refine ri_ev_clv (k := 152) (M1 := ri_M3) (v := some (.int 0)) _ rfl rfl ri_M3_152 rfl (Nat.le_of_ble_eq_true rfl) hc6 ?_
    refine ri_ev_go 2 (pc1 := 16) (L1 := [some (.ref 153), some (.int x1), some (.int x2), none, none, none, none]) (st1 := [.int (-1)]) (M1 := ri_M3) (c1 := 0) (s1 := 0) (fun n => rfl) ?_
    exact ri_ev_ret (fun n => rfl)
  exact ⟨(-1), _, _, _, hc4, ri_M3_152, hc7⟩
theorem ro_needed (x1 x2 : Int32)  : ri_eqi 133 269 [.int x1, .int x2] := by
  exact ro_needed_0 x1 x2  
set_option maxRecDepth 100000 in
set_option maxHeartbeats 8000000 in
theorem ro_steered_0 (x1 x2 x3 x4 x5 : Int32)   : ri_eqi 134 270 [.int x1, .int x2, .int x3, .int x4, .int x5] := by
  have hc4 : ri_c 19 134 [.ref 1, .int x1, .int x2, .int x3, .int x4, .int x5] ri_M3 = some (some (.int (-1)), ri_M3, 0, 0) := by
    have hc3 : ri_c 18 151 [.ref 1, .int x1, .int x2] ri_M3 = some (some (.null), ri_M3, 0, 0) := by
      have hc2 : ri_c 17 150 [.ref 1, .int x1] ri_M3 = some (some (.null), ri_M3, 0, 0) := by
        have hc1 : ri_c 16 5 [.ref 16] ri_M3 = some (some (.int 0), ri_M3, 0, 0) := by
          refine ri_ev_call (N := 7) (L := [some (.ref 16)]) rfl (Nat.le_of_ble_eq_true rfl) ?_
          refine ri_ev_go 1 (pc1 := 1) (L1 := [some (.ref 16)]) (st1 := [.ref 16]) (M1 := ri_M3) (c1 := 0) (s1 := 0) (fun n => rfl) ?_
          refine ri_ev_gf (k := 15) rfl ri_M3_15 rfl ?_
          refine ri_ev_go 1 (pc1 := 5) (L1 := [some (.ref 16)]) (st1 := [.int 1, .ref 17]) (M1 := ri_M3) (c1 := 0) (s1 := 0) (fun n => rfl) ?_
          refine ri_ev_iald (k := 16) (z := 0) rfl ri_M3_16 (by decide) rfl ?_
          refine ri_ev_go 2 (pc1 := 23) (L1 := [some (.ref 16)]) (st1 := [.int 0]) (M1 := ri_M3) (c1 := 0) (s1 := 0) (fun n => rfl) ?_
          exact ri_ev_ret (fun n => rfl)
        refine ri_ev_call (N := 7) (L := [some (.ref 1), some (.int x1), none]) rfl (Nat.le_of_ble_eq_true rfl) ?_
        refine ri_ev_go 1 (pc1 := 1) (L1 := [some (.ref 1), some (.int x1), none]) (st1 := [.ref 1]) (M1 := ri_M3) (c1 := 0) (s1 := 0) (fun n => rfl) ?_
        refine ri_ev_gf (k := 0) rfl ri_M3_0 rfl ?_
        refine ri_ev_gf (k := 14) rfl ri_M3_14 rfl ?_
        refine ri_ev_clv (k := 15) (M1 := ri_M3) (v := some (.int 0)) _ rfl rfl ri_M3_15 rfl (Nat.le_of_ble_eq_true rfl) hc1 ?_
        refine ri_ev_go 2 (pc1 := 34) (L1 := [some (.ref 1), some (.int x1), none]) (st1 := [.null]) (M1 := ri_M3) (c1 := 0) (s1 := 0) (fun n => rfl) ?_
        exact ri_ev_ret (fun n => rfl)
      refine ri_ev_call (N := 8) (L := [some (.ref 1), some (.int x1), some (.int x2), none]) rfl (Nat.le_of_ble_eq_true rfl) ?_
      refine ri_ev_go 2 (pc1 := 2) (L1 := [some (.ref 1), some (.int x1), some (.int x2), none]) (st1 := [.int x1, .ref 1]) (M1 := ri_M3) (c1 := 0) (s1 := 0) (fun n => rfl) ?_
      refine ri_ev_clv (k := 0) (M1 := ri_M3) (v := some (.null)) _ rfl rfl ri_M3_0 rfl (Nat.le_of_ble_eq_true rfl) hc2 ?_
      refine ri_ev_go 4 (pc1 := 20) (L1 := [some (.ref 1), some (.int x1), some (.int x2), some (.null)]) (st1 := [.null]) (M1 := ri_M3) (c1 := 0) (s1 := 0) (fun n => rfl) ?_
      exact ri_ev_ret (fun n => rfl)
    refine ri_ev_call (N := 9) (L := [some (.ref 1), some (.int x1), some (.int x2), some (.int x3), some (.int x4), some (.int x5), none, none, none, none, none, none, none]) rfl (Nat.le_of_ble_eq_true rfl) ?_
    refine ri_ev_go 3 (pc1 := 3) (L1 := [some (.ref 1), some (.int x1), some (.int x2), some (.int x3), some (.int x4), some (.int x5), none, none, none, none, none, none, none]) (st1 := [.int x2, .int x1, .ref 1]) (M1 := ri_M3) (c1 := 0) (s1 := 0) (fun n => rfl) ?_
    refine ri_ev_clv (k := 0) (M1 := ri_M3) (v := some (.null)) _ rfl rfl ri_M3_0 rfl (Nat.le_of_ble_eq_true rfl) hc3 ?_
    refine ri_ev_go 4 (pc1 := 56) (L1 := [some (.ref 1), some (.int x1), some (.int x2), some (.int x3), some (.int x4), some (.int x5), some (.null), none, none, none, none, none, none]) (st1 := [.int (-1)]) (M1 := ri_M3) (c1 := 0) (s1 := 0) (fun n => rfl) ?_
    exact ri_ev_ret (fun n => rfl)
  have hc7 : ri_c 19 270 [.ref 153, .int x1, .int x2, .int x3, .int x4, .int x5] ri_M3 = some (some (.int (-1)), ri_M3, 0, 0) := by
    have hc6 : ri_c 18 233 [.ref 153, .int x1] ri_M3 = some (some (.int 0), ri_M3, 0, 0) := by
      have hc5 : ri_c 17 209 [.ref 153] ri_M3 = some (some (.int 0), ri_M3, 0, 0) := by
        refine ri_ev_call (N := 7) (L := [some (.ref 153)]) rfl (Nat.le_of_ble_eq_true rfl) ?_
        refine ri_ev_go 1 (pc1 := 1) (L1 := [some (.ref 153)]) (st1 := [.ref 153]) (M1 := ri_M3) (c1 := 0) (s1 := 0) (fun n => rfl) ?_
        refine ri_ev_gf (k := 152) rfl ri_M3_152 rfl ?_
        refine ri_ev_go 1 (pc1 := 5) (L1 := [some (.ref 153)]) (st1 := [.int 0, .ref 164]) (M1 := ri_M3) (c1 := 0) (s1 := 0) (fun n => rfl) ?_
        refine ri_ev_iald (k := 163) (z := 0) rfl ri_M3_163 (by decide) rfl ?_
        refine ri_ev_go 2 (pc1 := 14) (L1 := [some (.ref 153)]) (st1 := [.int 0]) (M1 := ri_M3) (c1 := 0) (s1 := 0) (fun n => rfl) ?_
        exact ri_ev_ret (fun n => rfl)
      refine ri_ev_call (N := 5) (L := [some (.ref 153), some (.int x1)]) rfl (Nat.le_of_ble_eq_true rfl) ?_
      refine ri_ev_go 1 (pc1 := 1) (L1 := [some (.ref 153), some (.int x1)]) (st1 := [.ref 153]) (M1 := ri_M3) (c1 := 0) (s1 := 0) (fun n => rfl) ?_
      refine ri_ev_clv (k := 152) (M1 := ri_M3) (v := some (.int 0)) _ rfl rfl ri_M3_152 rfl (Nat.le_of_ble_eq_true rfl) hc5 ?_
      refine ri_ev_go 2 (pc1 := 20) (L1 := [some (.ref 153), some (.int x1)]) (st1 := [.int 0]) (M1 := ri_M3) (c1 := 0) (s1 := 0) (fun n => rfl) ?_
      exact ri_ev_ret (fun n => rfl)
    refine ri_ev_call (N := 6) (L := [some (.ref 153), some (.int x1), some (.int x2), some (.int x3), some (.int x4), some (.int x5), none, none, none, none, none, none, none, none]) rfl (Nat.le_of_ble_eq_true rfl) ?_
    refine ri_ev_go 2 (pc1 := 2) (L1 := [some (.ref 153), some (.int x1), some (.int x2), some (.int x3), some (.int x4), some (.int x5), none, none, none, none, none, none, none, none]) (st1 := [.int x1, .ref 153]) (M1 := ri_M3) (c1 := 0) (s1 := 0) (fun n => rfl) ?_
    refine ri_ev_clv (k := 152) (M1 := ri_M3) (v := some (.int 0)) _ rfl rfl ri_M3_152 rfl (Nat.le_of_ble_eq_true rfl) hc6 ?_
    refine ri_ev_go 2 (pc1 := 47) (L1 := [some (.ref 153), some (.int x1), some (.int x2), some (.int x3), some (.int x4), some (.int x5), none, none, none, none, none, none, none, none]) (st1 := [.int (-1)]) (M1 := ri_M3) (c1 := 0) (s1 := 0) (fun n => rfl) ?_
    exact ri_ev_ret (fun n => rfl)
  exact ⟨(-1), _, _, _, hc4, ri_M3_152, hc7⟩
theorem ro_steered (x1 x2 x3 x4 x5 : Int32)  : ri_eqi 134 270 [.int x1, .int x2, .int x3, .int x4, .int x5] := by
  exact ro_steered_0 x1 x2 x3 x4 x5  
set_option maxRecDepth 100000 in
set_option maxHeartbeats 8000000 in
theorem ro_spare_0 (x1 : Int32)  (h1 : ¬ x1 < 0) (h2 : ¬ x1 < 6) : ri_eqi 113 271 [.int x1] := by
  have hc2 : ri_c 19 113 [.ref 1, .int x1] ri_M3 = some (some (.int (-1)), ri_M3, 0, 0) := by
    have hc1 : ri_c 18 142 [.int x1, .int 6] ri_M3 = some (some (.int 1), ri_M3, 0, 0) := by
      refine ri_ev_call (N := 8) (L := [some (.int x1), some (.int 6)]) rfl (Nat.le_of_ble_eq_true rfl) ?_
      refine ri_ev_go 1 (pc1 := 1) (L1 := [some (.int x1), some (.int 6)]) (st1 := [.int x1]) (M1 := ri_M3) (c1 := 0) (s1 := 0) (fun n => rfl) ?_
      refine ri_iz_lt_f rfl h1 ?_
      refine ri_ev_go 2 (pc1 := 6) (L1 := [some (.int x1), some (.int 6)]) (st1 := [.int 6, .int x1]) (M1 := ri_M3) (c1 := 0) (s1 := 0) (fun n => rfl) ?_
      refine ri_ic_lt_f rfl h2 ?_
      refine ri_ev_go 2 (pc1 := 14) (L1 := [some (.int x1), some (.int 6)]) (st1 := [.int 1]) (M1 := ri_M3) (c1 := 0) (s1 := 0) (fun n => rfl) ?_
      exact ri_ev_ret (fun n => rfl)
    refine ri_ev_call (N := 7) (L := [some (.ref 1), some (.int x1)]) rfl (Nat.le_of_ble_eq_true rfl) ?_
    refine ri_ev_go 2 (pc1 := 3) (L1 := [some (.ref 1), some (.int x1)]) (st1 := [.int 6, .int x1]) (M1 := ri_M3) (c1 := 0) (s1 := 0) (fun n => rfl) ?_
    refine ri_ev_cls (M1 := ri_M3) (v := some (.int 1)) _ rfl (Or.inl rfl) rfl (Nat.le_of_ble_eq_true rfl) hc1 ?_
    refine ri_ev_go 3 (pc1 := 21) (L1 := [some (.ref 1), some (.int x1)]) (st1 := [.int (-1)]) (M1 := ri_M3) (c1 := 0) (s1 := 0) (fun n => rfl) ?_
    exact ri_ev_ret (fun n => rfl)
  have hc4 : ri_c 19 271 [.ref 153, .int x1] ri_M3 = some (some (.int (-1)), ri_M3, 0, 0) := by
    have hc3 : ri_c 18 214 [.int x1] ri_M3 = some (some (.int 0), ri_M3, 0, 0) := by
      refine ri_ev_call (N := 7) (L := [some (.int x1)]) rfl (Nat.le_of_ble_eq_true rfl) ?_
      refine ri_ev_go 1 (pc1 := 1) (L1 := [some (.int x1)]) (st1 := [.int x1]) (M1 := ri_M3) (c1 := 0) (s1 := 0) (fun n => rfl) ?_
      refine ri_iz_lt_f rfl h1 ?_
      refine ri_ev_go 2 (pc1 := 7) (L1 := [some (.int x1)]) (st1 := [.int 6, .int x1]) (M1 := ri_M3) (c1 := 0) (s1 := 0) (fun n => rfl) ?_
      refine ri_ic_ge_t (t := 14) rfl (Int32.not_lt.mp h2) rfl ?_
      refine ri_ev_go 1 (pc1 := 15) (L1 := [some (.int x1)]) (st1 := [.int 0]) (M1 := ri_M3) (c1 := 0) (s1 := 0) (fun n => rfl) ?_
      exact ri_ev_ret (fun n => rfl)
    refine ri_ev_call (N := 5) (L := [some (.ref 153), some (.int x1)]) rfl (Nat.le_of_ble_eq_true rfl) ?_
    refine ri_ev_go 1 (pc1 := 1) (L1 := [some (.ref 153), some (.int x1)]) (st1 := [.int x1]) (M1 := ri_M3) (c1 := 0) (s1 := 0) (fun n => rfl) ?_
    refine ri_ev_cls (M1 := ri_M3) (v := some (.int 0)) _ rfl (Or.inl rfl) rfl (Nat.le_of_ble_eq_true rfl) hc3 ?_
    refine ri_ev_go 2 (pc1 := 19) (L1 := [some (.ref 153), some (.int x1)]) (st1 := [.int (-1)]) (M1 := ri_M3) (c1 := 0) (s1 := 0) (fun n => rfl) ?_
    exact ri_ev_ret (fun n => rfl)
  exact ⟨(-1), _, _, _, hc2, ri_M3_152, hc4⟩
set_option maxRecDepth 100000 in
set_option maxHeartbeats 8000000 in
theorem ro_spare_1 (x1 : Int32)  (h1 : ¬ x1 < 0) (h2 : x1 < 6) : ri_eqi 113 271 [.int x1] := by
  have hc3 : ri_c 19 113 [.ref 1, .int x1] ri_M3 = some (some (.int 9), ri_M3, 0, 0) := by
    have hc1 : ri_c 18 142 [.int x1, .int 6] ri_M3 = some (some (.int 0), ri_M3, 0, 0) := by
      refine ri_ev_call (N := 7) (L := [some (.int x1), some (.int 6)]) rfl (Nat.le_of_ble_eq_true rfl) ?_
      refine ri_ev_go 1 (pc1 := 1) (L1 := [some (.int x1), some (.int 6)]) (st1 := [.int x1]) (M1 := ri_M3) (c1 := 0) (s1 := 0) (fun n => rfl) ?_
      refine ri_iz_lt_f rfl h1 ?_
      refine ri_ev_go 2 (pc1 := 6) (L1 := [some (.int x1), some (.int 6)]) (st1 := [.int 6, .int x1]) (M1 := ri_M3) (c1 := 0) (s1 := 0) (fun n => rfl) ?_
      refine ri_ic_lt_t (t := 13) rfl h2 rfl ?_
      refine ri_ev_go 1 (pc1 := 14) (L1 := [some (.int x1), some (.int 6)]) (st1 := [.int 0]) (M1 := ri_M3) (c1 := 0) (s1 := 0) (fun n => rfl) ?_
      exact ri_ev_ret (fun n => rfl)
    have hc2 : ri_c 18 21 [.ref 15, .int x1] ri_M3 = some (some (.int 9), ri_M3, 0, 0) := by
      refine ri_ev_call (N := 17) (L := [some (.ref 15), some (.int x1), none, none]) rfl (Nat.le_of_ble_eq_true rfl) ?_
      refine ri_ev_go 6 (pc1 := 6) (L1 := [some (.ref 15), some (.int x1), some (.int 0), some (.int 0)]) (st1 := [.ref 15, .int 0]) (M1 := ri_M3) (c1 := 0) (s1 := 0) (fun n => rfl) ?_
      refine ri_ev_gf (k := 14) rfl ri_M3_14 rfl ?_
      refine ri_ev_go 6 (pc1 := 40) (L1 := [some (.ref 15), some (.int x1), some (.int 0), some (.int 0)]) (st1 := [.ref 15, .int 40, .int 9]) (M1 := ri_M3) (c1 := 0) (s1 := 0) (fun n => rfl) ?_
      refine ri_ev_gf (k := 14) rfl ri_M3_14 rfl ?_
      refine ri_ev_go 2 (pc1 := 47) (L1 := [some (.ref 15), some (.int x1), some (.int 0), some (.int 0)]) (st1 := [.int 9]) (M1 := ri_M3) (c1 := 0) (s1 := 0) (fun n => rfl) ?_
      exact ri_ev_ret (fun n => rfl)
    refine ri_ev_call (N := 9) (L := [some (.ref 1), some (.int x1)]) rfl (Nat.le_of_ble_eq_true rfl) ?_
    refine ri_ev_go 2 (pc1 := 3) (L1 := [some (.ref 1), some (.int x1)]) (st1 := [.int 6, .int x1]) (M1 := ri_M3) (c1 := 0) (s1 := 0) (fun n => rfl) ?_
    refine ri_ev_cls (M1 := ri_M3) (v := some (.int 0)) _ rfl (Or.inl rfl) rfl (Nat.le_of_ble_eq_true rfl) hc1 ?_
    refine ri_ev_go 2 (pc1 := 14) (L1 := [some (.ref 1), some (.int x1)]) (st1 := [.ref 1]) (M1 := ri_M3) (c1 := 0) (s1 := 0) (fun n => rfl) ?_
    refine ri_ev_gf (k := 0) rfl ri_M3_0 rfl ?_
    refine ri_ev_go 1 (pc1 := 18) (L1 := [some (.ref 1), some (.int x1)]) (st1 := [.int x1, .ref 15]) (M1 := ri_M3) (c1 := 0) (s1 := 0) (fun n => rfl) ?_
    refine ri_ev_clv (k := 14) (M1 := ri_M3) (v := some (.int 9)) _ rfl rfl ri_M3_14 rfl (Nat.le_of_ble_eq_true rfl) hc2 ?_
    exact ri_ev_ret (fun n => rfl)
  have hc6 : ri_c 19 271 [.ref 153, .int x1] ri_M3 = some (some (.int 9), ri_M3, 0, 0) := by
    have hc4 : ri_c 18 214 [.int x1] ri_M3 = some (some (.int 1), ri_M3, 0, 0) := by
      refine ri_ev_call (N := 8) (L := [some (.int x1)]) rfl (Nat.le_of_ble_eq_true rfl) ?_
      refine ri_ev_go 1 (pc1 := 1) (L1 := [some (.int x1)]) (st1 := [.int x1]) (M1 := ri_M3) (c1 := 0) (s1 := 0) (fun n => rfl) ?_
      refine ri_iz_lt_f rfl h1 ?_
      refine ri_ev_go 2 (pc1 := 7) (L1 := [some (.int x1)]) (st1 := [.int 6, .int x1]) (M1 := ri_M3) (c1 := 0) (s1 := 0) (fun n => rfl) ?_
      refine ri_ic_ge_f rfl (Int32.not_le.mpr h2) ?_
      refine ri_ev_go 2 (pc1 := 15) (L1 := [some (.int x1)]) (st1 := [.int 1]) (M1 := ri_M3) (c1 := 0) (s1 := 0) (fun n => rfl) ?_
      exact ri_ev_ret (fun n => rfl)
    have hc5 : ri_c 18 223 [.ref 153, .int x1] ri_M3 = some (some (.int 0), ri_M3, 0, 0) := by
      refine ri_ev_call (N := 12) (L := [some (.ref 153), some (.int x1), none, none]) rfl (Nat.le_of_ble_eq_true rfl) ?_
      refine ri_ev_go 6 (pc1 := 6) (L1 := [some (.ref 153), some (.int x1), some (.int 0), some (.int 0)]) (st1 := [.ref 153, .int 0]) (M1 := ri_M3) (c1 := 0) (s1 := 0) (fun n => rfl) ?_
      refine ri_ev_gf (k := 152) rfl ri_M3_152 rfl ?_
      refine ri_ev_go 1 (pc1 := 10) (L1 := [some (.ref 153), some (.int x1), some (.int 0), some (.int 0)]) (st1 := [.int 3, .ref 164, .int 0]) (M1 := ri_M3) (c1 := 0) (s1 := 0) (fun n => rfl) ?_
      refine ri_ev_iald (k := 163) (z := 0) rfl ri_M3_163 (by decide) rfl ?_
      refine ri_ev_go 2 (pc1 := 39) (L1 := [some (.ref 153), some (.int x1), some (.int 0), some (.int 0)]) (st1 := [.int 0]) (M1 := ri_M3) (c1 := 0) (s1 := 0) (fun n => rfl) ?_
      exact ri_ev_ret (fun n => rfl)
    refine ri_ev_call (N := 10) (L := [some (.ref 153), some (.int x1)]) rfl (Nat.le_of_ble_eq_true rfl) ?_
    refine ri_ev_go 1 (pc1 := 1) (L1 := [some (.ref 153), some (.int x1)]) (st1 := [.int x1]) (M1 := ri_M3) (c1 := 0) (s1 := 0) (fun n => rfl) ?_
    refine ri_ev_cls (M1 := ri_M3) (v := some (.int 1)) _ rfl (Or.inl rfl) rfl (Nat.le_of_ble_eq_true rfl) hc4 ?_
    refine ri_ev_go 4 (pc1 := 11) (L1 := [some (.ref 153), some (.int x1)]) (st1 := [.int x1, .ref 153, .int 9]) (M1 := ri_M3) (c1 := 0) (s1 := 0) (fun n => rfl) ?_
    refine ri_ev_clv (k := 152) (M1 := ri_M3) (v := some (.int 0)) _ rfl rfl ri_M3_152 rfl (Nat.le_of_ble_eq_true rfl) hc5 ?_
    refine ri_ev_go 2 (pc1 := 19) (L1 := [some (.ref 153), some (.int x1)]) (st1 := [.int 9]) (M1 := ri_M3) (c1 := 0) (s1 := 0) (fun n => rfl) ?_
    exact ri_ev_ret (fun n => rfl)
  exact ⟨9, _, _, _, hc3, ri_M3_152, hc6⟩
set_option maxRecDepth 100000 in
set_option maxHeartbeats 8000000 in
theorem ro_spare_2 (x1 : Int32)  (h1 : x1 < 0) : ri_eqi 113 271 [.int x1] := by
  have hc2 : ri_c 19 113 [.ref 1, .int x1] ri_M3 = some (some (.int (-1)), ri_M3, 0, 0) := by
    have hc1 : ri_c 18 142 [.int x1, .int 6] ri_M3 = some (some (.int 1), ri_M3, 0, 0) := by
      refine ri_ev_call (N := 5) (L := [some (.int x1), some (.int 6)]) rfl (Nat.le_of_ble_eq_true rfl) ?_
      refine ri_ev_go 1 (pc1 := 1) (L1 := [some (.int x1), some (.int 6)]) (st1 := [.int x1]) (M1 := ri_M3) (c1 := 0) (s1 := 0) (fun n => rfl) ?_
      refine ri_iz_lt_t (t := 9) rfl h1 rfl ?_
      refine ri_ev_go 2 (pc1 := 14) (L1 := [some (.int x1), some (.int 6)]) (st1 := [.int 1]) (M1 := ri_M3) (c1 := 0) (s1 := 0) (fun n => rfl) ?_
      exact ri_ev_ret (fun n => rfl)
    refine ri_ev_call (N := 7) (L := [some (.ref 1), some (.int x1)]) rfl (Nat.le_of_ble_eq_true rfl) ?_
    refine ri_ev_go 2 (pc1 := 3) (L1 := [some (.ref 1), some (.int x1)]) (st1 := [.int 6, .int x1]) (M1 := ri_M3) (c1 := 0) (s1 := 0) (fun n => rfl) ?_
    refine ri_ev_cls (M1 := ri_M3) (v := some (.int 1)) _ rfl (Or.inl rfl) rfl (Nat.le_of_ble_eq_true rfl) hc1 ?_
    refine ri_ev_go 3 (pc1 := 21) (L1 := [some (.ref 1), some (.int x1)]) (st1 := [.int (-1)]) (M1 := ri_M3) (c1 := 0) (s1 := 0) (fun n => rfl) ?_
    exact ri_ev_ret (fun n => rfl)
  have hc4 : ri_c 19 271 [.ref 153, .int x1] ri_M3 = some (some (.int (-1)), ri_M3, 0, 0) := by
    have hc3 : ri_c 18 214 [.int x1] ri_M3 = some (some (.int 0), ri_M3, 0, 0) := by
      refine ri_ev_call (N := 4) (L := [some (.int x1)]) rfl (Nat.le_of_ble_eq_true rfl) ?_
      refine ri_ev_go 1 (pc1 := 1) (L1 := [some (.int x1)]) (st1 := [.int x1]) (M1 := ri_M3) (c1 := 0) (s1 := 0) (fun n => rfl) ?_
      refine ri_iz_lt_t (t := 14) rfl h1 rfl ?_
      refine ri_ev_go 1 (pc1 := 15) (L1 := [some (.int x1)]) (st1 := [.int 0]) (M1 := ri_M3) (c1 := 0) (s1 := 0) (fun n => rfl) ?_
      exact ri_ev_ret (fun n => rfl)
    refine ri_ev_call (N := 5) (L := [some (.ref 153), some (.int x1)]) rfl (Nat.le_of_ble_eq_true rfl) ?_
    refine ri_ev_go 1 (pc1 := 1) (L1 := [some (.ref 153), some (.int x1)]) (st1 := [.int x1]) (M1 := ri_M3) (c1 := 0) (s1 := 0) (fun n => rfl) ?_
    refine ri_ev_cls (M1 := ri_M3) (v := some (.int 0)) _ rfl (Or.inl rfl) rfl (Nat.le_of_ble_eq_true rfl) hc3 ?_
    refine ri_ev_go 2 (pc1 := 19) (L1 := [some (.ref 153), some (.int x1)]) (st1 := [.int (-1)]) (M1 := ri_M3) (c1 := 0) (s1 := 0) (fun n => rfl) ?_
    exact ri_ev_ret (fun n => rfl)
  exact ⟨(-1), _, _, _, hc2, ri_M3_152, hc4⟩
theorem ro_spare (x1 : Int32)  : ri_eqi 113 271 [.int x1] := by
  by_cases h1 : x1 < 0
  · exact ro_spare_2 x1  h1
  · by_cases h2 : x1 < 6
    · exact ro_spare_1 x1  h1 h2
    · exact ro_spare_0 x1  h1 h2
set_option maxRecDepth 100000 in
set_option maxHeartbeats 8000000 in
theorem ro_seed_0 (x1 : Int32)  (h1 : ¬ x1 < 0) : ri_eqi 135 272 [.int x1] := by
  have hc1 : ri_c 19 135 [.ref 1, .int x1] ri_M3 = some (some (.int 0), (ri_M3.set 14 (.inr (2, [.ref 16, .ref 20, .ref 21, .ref 22, .ref 23, .ref 24, .int 0, .int (-1), .ref 25, .ref 26, .int 0, .int x1]))), 0, 0) := by
    refine ri_ev_call (N := 12) (L := [some (.ref 1), some (.int x1), none]) rfl (Nat.le_of_ble_eq_true rfl) ?_
    refine ri_ev_go 1 (pc1 := 1) (L1 := [some (.ref 1), some (.int x1), none]) (st1 := [.int x1]) (M1 := ri_M3) (c1 := 0) (s1 := 0) (fun n => rfl) ?_
    refine ri_iz_ge_t (t := 6) rfl (Int32.not_lt.mp h1) rfl ?_
    refine ri_ev_go 1 (pc1 := 7) (L1 := [some (.ref 1), some (.int x1), none]) (st1 := [.ref 1]) (M1 := ri_M3) (c1 := 0) (s1 := 0) (fun n => rfl) ?_
    refine ri_ev_gf (k := 0) rfl ri_M3_0 rfl ?_
    refine ri_ev_gf (k := 14) rfl ri_M3_14 rfl ?_
    refine ri_ev_go 2 (pc1 := 15) (L1 := [some (.ref 1), some (.int x1), some (.int 0)]) (st1 := [.ref 1]) (M1 := ri_M3) (c1 := 0) (s1 := 0) (fun n => rfl) ?_
    refine ri_ev_gf (k := 0) rfl ri_M3_0 rfl ?_
    refine ri_ev_go 1 (pc1 := 19) (L1 := [some (.ref 1), some (.int x1), some (.int 0)]) (st1 := [.int x1, .ref 15]) (M1 := ri_M3) (c1 := 0) (s1 := 0) (fun n => rfl) ?_
    refine ri_ev_pf (k := 14) (gs := [.ref 16, .ref 20, .ref 21, .ref 22, .ref 23, .ref 24, .int 0, .int (-1), .ref 25, .ref 26, .int 0, .int x1]) (M2 := (ri_M3.set 14 (.inr (2, [.ref 16, .ref 20, .ref 21, .ref 22, .ref 23, .ref 24, .int 0, .int (-1), .ref 25, .ref 26, .int 0, .int x1])))) rfl ri_M3_14 (Nat.le_of_ble_eq_true rfl) rfl rfl rfl ?_
    refine ri_ev_go 1 (pc1 := 23) (L1 := [some (.ref 1), some (.int x1), some (.int 0)]) (st1 := [.int 0]) (M1 := (ri_M3.set 14 (.inr (2, [.ref 16, .ref 20, .ref 21, .ref 22, .ref 23, .ref 24, .int 0, .int (-1), .ref 25, .ref 26, .int 0, .int x1])))) (c1 := 0) (s1 := 0) (fun n => rfl) ?_
    exact ri_ev_ret (fun n => rfl)
  obtain ⟨g1, hc2⟩ : ∃ g1 : Nat → Int32, ri_c 19 272 [.ref 153, .int x1] (ri_M3.set 14 (.inr (2, [.ref 16, .ref 20, .ref 21, .ref 22, .ref 23, .ref 24, .int 0, .int (-1), .ref 25, .ref 26, .int 0, .int x1]))) = some (some (.int 0), ((ri_M3.set 14 (.inr (2, [.ref 16, .ref 20, .ref 21, .ref 22, .ref 23, .ref 24, .int 0, .int (-1), .ref 25, .ref 26, .int 0, .int x1]))).set 163 (.inl (.int, (262, .inl (g1))))), 0, 0) := by
    refine ⟨upd (upd (fun _ => 0) 4 (-1)) 6 x1, ?_⟩
    refine ri_ev_call (N := 14) (L := [some (.ref 153), some (.int x1), none]) rfl (Nat.le_of_ble_eq_true rfl) ?_
    refine ri_ev_go 1 (pc1 := 1) (L1 := [some (.ref 153), some (.int x1), none]) (st1 := [.int x1]) (M1 := (ri_M3.set 14 (.inr (2, [.ref 16, .ref 20, .ref 21, .ref 22, .ref 23, .ref 24, .int 0, .int (-1), .ref 25, .ref 26, .int 0, .int x1])))) (c1 := 0) (s1 := 0) (fun n => rfl) ?_
    refine ri_iz_ge_t (t := 6) rfl (Int32.not_lt.mp h1) rfl ?_
    refine ri_ev_go 1 (pc1 := 7) (L1 := [some (.ref 153), some (.int x1), none]) (st1 := [.ref 153]) (M1 := (ri_M3.set 14 (.inr (2, [.ref 16, .ref 20, .ref 21, .ref 22, .ref 23, .ref 24, .int 0, .int (-1), .ref 25, .ref 26, .int 0, .int x1])))) (c1 := 0) (s1 := 0) (fun n => rfl) ?_
    refine ri_ev_gf (k := 152) rfl (ri_gn (by decide) ri_M3_152) rfl ?_
    refine ri_ev_go 1 (pc1 := 12) (L1 := [some (.ref 153), some (.int x1), none]) (st1 := [.int 6, .ref 164]) (M1 := (ri_M3.set 14 (.inr (2, [.ref 16, .ref 20, .ref 21, .ref 22, .ref 23, .ref 24, .int 0, .int (-1), .ref 25, .ref 26, .int 0, .int x1])))) (c1 := 0) (s1 := 0) (fun n => rfl) ?_
    refine ri_ev_iald (k := 163) (z := 0) rfl (ri_gn (by decide) ri_M3_163) (by decide) rfl ?_
    refine ri_ev_go 2 (pc1 := 15) (L1 := [some (.ref 153), some (.int x1), some (.int 0)]) (st1 := [.ref 153]) (M1 := (ri_M3.set 14 (.inr (2, [.ref 16, .ref 20, .ref 21, .ref 22, .ref 23, .ref 24, .int 0, .int (-1), .ref 25, .ref 26, .int 0, .int x1])))) (c1 := 0) (s1 := 0) (fun n => rfl) ?_
    refine ri_ev_gf (k := 152) rfl (ri_gn (by decide) ri_M3_152) rfl ?_
    refine ri_ev_go 2 (pc1 := 21) (L1 := [some (.ref 153), some (.int x1), some (.int 0)]) (st1 := [.int x1, .int 6, .ref 164]) (M1 := (ri_M3.set 14 (.inr (2, [.ref 16, .ref 20, .ref 21, .ref 22, .ref 23, .ref 24, .int 0, .int (-1), .ref 25, .ref 26, .int 0, .int x1])))) (c1 := 0) (s1 := 0) (fun n => rfl) ?_
    refine ri_ev_iasd (k := 163) (q := 6) (M2 := ((ri_M3.set 14 (.inr (2, [.ref 16, .ref 20, .ref 21, .ref 22, .ref 23, .ref 24, .int 0, .int (-1), .ref 25, .ref 26, .int 0, .int x1]))).set 163 (.inl (.int, (262, .inl (upd (upd (fun _ => 0) 4 (-1)) 6 x1)))))) rfl (ri_gn (by decide) ri_M3_163) (by decide) rfl rfl ?_
    refine ri_ev_go 1 (pc1 := 23) (L1 := [some (.ref 153), some (.int x1), some (.int 0)]) (st1 := [.int 0]) (M1 := ((ri_M3.set 14 (.inr (2, [.ref 16, .ref 20, .ref 21, .ref 22, .ref 23, .ref 24, .int 0, .int (-1), .ref 25, .ref 26, .int 0, .int x1]))).set 163 (.inl (.int, (262, .inl (upd (upd (fun _ => 0) 4 (-1)) 6 x1)))))) (c1 := 0) (s1 := 0) (fun n => rfl) ?_
    exact ri_ev_ret (fun n => rfl)
  exact ⟨0, _, _, _, hc1, (ri_gn (by decide) ri_M3_152), hc2⟩
set_option maxRecDepth 100000 in
set_option maxHeartbeats 8000000 in
theorem ro_seed_1 (x1 : Int32)  (h1 : x1 < 0) : ri_eqi 135 272 [.int x1] := by
  have hc1 : ri_c 19 135 [.ref 1, .int x1] ri_M3 = some (some (.int (-1)), ri_M3, 0, 0) := by
    refine ri_ev_call (N := 4) (L := [some (.ref 1), some (.int x1), none]) rfl (Nat.le_of_ble_eq_true rfl) ?_
    refine ri_ev_go 1 (pc1 := 1) (L1 := [some (.ref 1), some (.int x1), none]) (st1 := [.int x1]) (M1 := ri_M3) (c1 := 0) (s1 := 0) (fun n => rfl) ?_
    refine ri_iz_ge_f rfl (Int32.not_le.mpr h1) ?_
    refine ri_ev_go 1 (pc1 := 5) (L1 := [some (.ref 1), some (.int x1), none]) (st1 := [.int (-1)]) (M1 := ri_M3) (c1 := 0) (s1 := 0) (fun n => rfl) ?_
    exact ri_ev_ret (fun n => rfl)
  have hc2 : ri_c 19 272 [.ref 153, .int x1] ri_M3 = some (some (.int (-1)), ri_M3, 0, 0) := by
    refine ri_ev_call (N := 4) (L := [some (.ref 153), some (.int x1), none]) rfl (Nat.le_of_ble_eq_true rfl) ?_
    refine ri_ev_go 1 (pc1 := 1) (L1 := [some (.ref 153), some (.int x1), none]) (st1 := [.int x1]) (M1 := ri_M3) (c1 := 0) (s1 := 0) (fun n => rfl) ?_
    refine ri_iz_ge_f rfl (Int32.not_le.mpr h1) ?_
    refine ri_ev_go 1 (pc1 := 5) (L1 := [some (.ref 153), some (.int x1), none]) (st1 := [.int (-1)]) (M1 := ri_M3) (c1 := 0) (s1 := 0) (fun n => rfl) ?_
    exact ri_ev_ret (fun n => rfl)
  exact ⟨(-1), _, _, _, hc1, ri_M3_152, hc2⟩
theorem ro_seed (x1 : Int32)  : ri_eqi 135 272 [.int x1] := by
  by_cases h1 : x1 < 0
  · exact ro_seed_1 x1  h1
  · exact ro_seed_0 x1  h1
set_option maxRecDepth 100000 in
set_option maxHeartbeats 8000000 in
theorem ro_trials_0 (x1 x2 x3 : Int32)   : ri_eqi 136 273 [.int x1, .int x2, .int x3] := by
  have hc4 : ri_c 19 136 [.ref 1, .int x1, .int x2, .int x3] ri_M3 = some (some (.int (-1)), ri_M3, 0, 0) := by
    have hc2 : ri_c 18 150 [.ref 1, .int x1] ri_M3 = some (some (.null), ri_M3, 0, 0) := by
      have hc1 : ri_c 17 5 [.ref 16] ri_M3 = some (some (.int 0), ri_M3, 0, 0) := by
        refine ri_ev_call (N := 7) (L := [some (.ref 16)]) rfl (Nat.le_of_ble_eq_true rfl) ?_
        refine ri_ev_go 1 (pc1 := 1) (L1 := [some (.ref 16)]) (st1 := [.ref 16]) (M1 := ri_M3) (c1 := 0) (s1 := 0) (fun n => rfl) ?_
        refine ri_ev_gf (k := 15) rfl ri_M3_15 rfl ?_
        refine ri_ev_go 1 (pc1 := 5) (L1 := [some (.ref 16)]) (st1 := [.int 1, .ref 17]) (M1 := ri_M3) (c1 := 0) (s1 := 0) (fun n => rfl) ?_
        refine ri_ev_iald (k := 16) (z := 0) rfl ri_M3_16 (by decide) rfl ?_
        refine ri_ev_go 2 (pc1 := 23) (L1 := [some (.ref 16)]) (st1 := [.int 0]) (M1 := ri_M3) (c1 := 0) (s1 := 0) (fun n => rfl) ?_
        exact ri_ev_ret (fun n => rfl)
      refine ri_ev_call (N := 7) (L := [some (.ref 1), some (.int x1), none]) rfl (Nat.le_of_ble_eq_true rfl) ?_
      refine ri_ev_go 1 (pc1 := 1) (L1 := [some (.ref 1), some (.int x1), none]) (st1 := [.ref 1]) (M1 := ri_M3) (c1 := 0) (s1 := 0) (fun n => rfl) ?_
      refine ri_ev_gf (k := 0) rfl ri_M3_0 rfl ?_
      refine ri_ev_gf (k := 14) rfl ri_M3_14 rfl ?_
      refine ri_ev_clv (k := 15) (M1 := ri_M3) (v := some (.int 0)) _ rfl rfl ri_M3_15 rfl (Nat.le_of_ble_eq_true rfl) hc1 ?_
      refine ri_ev_go 2 (pc1 := 34) (L1 := [some (.ref 1), some (.int x1), none]) (st1 := [.null]) (M1 := ri_M3) (c1 := 0) (s1 := 0) (fun n => rfl) ?_
      exact ri_ev_ret (fun n => rfl)
    have hc3 : ri_c 18 6 [.ref 16] ri_M3 = some (some (.int 0), ri_M3, 0, 0) := by
      refine ri_ev_call (N := 15) (L := [some (.ref 16)]) rfl (Nat.le_of_ble_eq_true rfl) ?_
      refine ri_ev_go 1 (pc1 := 1) (L1 := [some (.ref 16)]) (st1 := [.ref 16]) (M1 := ri_M3) (c1 := 0) (s1 := 0) (fun n => rfl) ?_
      refine ri_ev_gf (k := 15) rfl ri_M3_15 rfl ?_
      refine ri_ev_go 1 (pc1 := 5) (L1 := [some (.ref 16)]) (st1 := [.int 0, .ref 17]) (M1 := ri_M3) (c1 := 0) (s1 := 0) (fun n => rfl) ?_
      refine ri_ev_iald (k := 16) (z := 0) rfl ri_M3_16 (by decide) rfl ?_
      refine ri_ev_go 1 (pc1 := 7) (L1 := [some (.ref 16)]) (st1 := [.ref 16, .int 0]) (M1 := ri_M3) (c1 := 0) (s1 := 0) (fun n => rfl) ?_
      refine ri_ev_gf (k := 15) rfl ri_M3_15 rfl ?_
      refine ri_ev_go 1 (pc1 := 11) (L1 := [some (.ref 16)]) (st1 := [.int 1, .ref 17, .int 0]) (M1 := ri_M3) (c1 := 0) (s1 := 0) (fun n => rfl) ?_
      refine ri_ev_iald (k := 16) (z := 0) rfl ri_M3_16 (by decide) rfl ?_
      refine ri_ev_go 2 (pc1 := 14) (L1 := [some (.ref 16)]) (st1 := [.ref 16, .int 0]) (M1 := ri_M3) (c1 := 0) (s1 := 0) (fun n => rfl) ?_
      refine ri_ev_gf (k := 15) rfl ri_M3_15 rfl ?_
      refine ri_ev_go 1 (pc1 := 18) (L1 := [some (.ref 16)]) (st1 := [.int 2, .ref 17, .int 0]) (M1 := ri_M3) (c1 := 0) (s1 := 0) (fun n => rfl) ?_
      refine ri_ev_iald (k := 16) (z := 0) rfl ri_M3_16 (by decide) rfl ?_
      refine ri_ev_go 1 (pc1 := 20) (L1 := [some (.ref 16)]) (st1 := [.int 0]) (M1 := ri_M3) (c1 := 0) (s1 := 0) (fun n => rfl) ?_
      exact ri_ev_ret (fun n => rfl)
    refine ri_ev_call (N := 13) (L := [some (.ref 1), some (.int x1), some (.int x2), some (.int x3), none, none, none, none, none, none, none]) rfl (Nat.le_of_ble_eq_true rfl) ?_
    refine ri_ev_go 2 (pc1 := 2) (L1 := [some (.ref 1), some (.int x1), some (.int x2), some (.int x3), none, none, none, none, none, none, none]) (st1 := [.int x1, .ref 1]) (M1 := ri_M3) (c1 := 0) (s1 := 0) (fun n => rfl) ?_
    refine ri_ev_clv (k := 0) (M1 := ri_M3) (v := some (.null)) _ rfl rfl ri_M3_0 rfl (Nat.le_of_ble_eq_true rfl) hc2 ?_
    refine ri_ev_go 2 (pc1 := 8) (L1 := [some (.ref 1), some (.int x1), some (.int x2), some (.int x3), some (.null), none, none, none, none, none, none]) (st1 := [.ref 1]) (M1 := ri_M3) (c1 := 0) (s1 := 0) (fun n => rfl) ?_
    refine ri_ev_gf (k := 0) rfl ri_M3_0 rfl ?_
    refine ri_ev_gf (k := 14) rfl ri_M3_14 rfl ?_
    refine ri_ev_clv (k := 15) (M1 := ri_M3) (v := some (.int 0)) _ rfl rfl ri_M3_15 rfl (Nat.le_of_ble_eq_true rfl) hc3 ?_
    refine ri_ev_go 4 (pc1 := 49) (L1 := [some (.ref 1), some (.int x1), some (.int x2), some (.int x3), some (.null), some (.int 0), none, none, none, none, none]) (st1 := [.int (-1)]) (M1 := ri_M3) (c1 := 0) (s1 := 0) (fun n => rfl) ?_
    exact ri_ev_ret (fun n => rfl)
  have hc7 : ri_c 19 273 [.ref 153, .int x1, .int x2, .int x3] ri_M3 = some (some (.int (-1)), ri_M3, 0, 0) := by
    have hc6 : ri_c 18 233 [.ref 153, .int x1] ri_M3 = some (some (.int 0), ri_M3, 0, 0) := by
      have hc5 : ri_c 17 209 [.ref 153] ri_M3 = some (some (.int 0), ri_M3, 0, 0) := by
        refine ri_ev_call (N := 7) (L := [some (.ref 153)]) rfl (Nat.le_of_ble_eq_true rfl) ?_
        refine ri_ev_go 1 (pc1 := 1) (L1 := [some (.ref 153)]) (st1 := [.ref 153]) (M1 := ri_M3) (c1 := 0) (s1 := 0) (fun n => rfl) ?_
        refine ri_ev_gf (k := 152) rfl ri_M3_152 rfl ?_
        refine ri_ev_go 1 (pc1 := 5) (L1 := [some (.ref 153)]) (st1 := [.int 0, .ref 164]) (M1 := ri_M3) (c1 := 0) (s1 := 0) (fun n => rfl) ?_
        refine ri_ev_iald (k := 163) (z := 0) rfl ri_M3_163 (by decide) rfl ?_
        refine ri_ev_go 2 (pc1 := 14) (L1 := [some (.ref 153)]) (st1 := [.int 0]) (M1 := ri_M3) (c1 := 0) (s1 := 0) (fun n => rfl) ?_
        exact ri_ev_ret (fun n => rfl)
      refine ri_ev_call (N := 5) (L := [some (.ref 153), some (.int x1)]) rfl (Nat.le_of_ble_eq_true rfl) ?_
      refine ri_ev_go 1 (pc1 := 1) (L1 := [some (.ref 153), some (.int x1)]) (st1 := [.ref 153]) (M1 := ri_M3) (c1 := 0) (s1 := 0) (fun n => rfl) ?_
      refine ri_ev_clv (k := 152) (M1 := ri_M3) (v := some (.int 0)) _ rfl rfl ri_M3_152 rfl (Nat.le_of_ble_eq_true rfl) hc5 ?_
      refine ri_ev_go 2 (pc1 := 20) (L1 := [some (.ref 153), some (.int x1)]) (st1 := [.int 0]) (M1 := ri_M3) (c1 := 0) (s1 := 0) (fun n => rfl) ?_
      exact ri_ev_ret (fun n => rfl)
    refine ri_ev_call (N := 6) (L := [some (.ref 153), some (.int x1), some (.int x2), some (.int x3), none, none, none, none, none, none, none, none, none, none, none, none, none]) rfl (Nat.le_of_ble_eq_true rfl) ?_
    refine ri_ev_go 2 (pc1 := 2) (L1 := [some (.ref 153), some (.int x1), some (.int x2), some (.int x3), none, none, none, none, none, none, none, none, none, none, none, none, none]) (st1 := [.int x1, .ref 153]) (M1 := ri_M3) (c1 := 0) (s1 := 0) (fun n => rfl) ?_
    refine ri_ev_clv (k := 152) (M1 := ri_M3) (v := some (.int 0)) _ rfl rfl ri_M3_152 rfl (Nat.le_of_ble_eq_true rfl) hc6 ?_
    refine ri_ev_go 2 (pc1 := 33) (L1 := [some (.ref 153), some (.int x1), some (.int x2), some (.int x3), none, none, none, none, none, none, none, none, none, none, none, none, none]) (st1 := [.int (-1)]) (M1 := ri_M3) (c1 := 0) (s1 := 0) (fun n => rfl) ?_
    exact ri_ev_ret (fun n => rfl)
  exact ⟨(-1), _, _, _, hc4, ri_M3_152, hc7⟩
theorem ro_trials (x1 x2 x3 : Int32)  : ri_eqi 136 273 [.int x1, .int x2, .int x3] := by
  exact ro_trials_0 x1 x2 x3  
set_option maxRecDepth 100000 in
set_option maxHeartbeats 8000000 in
theorem ro_verdict_0 (x1 : Int32)  (h1 : ¬ x1 = (-1)) (h2 : ¬ x1 < 0) : ri_eqi 137 274 [.int x1] := by
  have hc3 : ri_c 19 137 [.ref 1, .int x1] ri_M3 = some (some (.int (-2)), ri_M3, 0, 0) := by
    have hc1 : ri_c 18 6 [.ref 16] ri_M3 = some (some (.int 0), ri_M3, 0, 0) := by
      refine ri_ev_call (N := 15) (L := [some (.ref 16)]) rfl (Nat.le_of_ble_eq_true rfl) ?_
      refine ri_ev_go 1 (pc1 := 1) (L1 := [some (.ref 16)]) (st1 := [.ref 16]) (M1 := ri_M3) (c1 := 0) (s1 := 0) (fun n => rfl) ?_
      refine ri_ev_gf (k := 15) rfl ri_M3_15 rfl ?_
      refine ri_ev_go 1 (pc1 := 5) (L1 := [some (.ref 16)]) (st1 := [.int 0, .ref 17]) (M1 := ri_M3) (c1 := 0) (s1 := 0) (fun n => rfl) ?_
      refine ri_ev_iald (k := 16) (z := 0) rfl ri_M3_16 (by decide) rfl ?_
      refine ri_ev_go 1 (pc1 := 7) (L1 := [some (.ref 16)]) (st1 := [.ref 16, .int 0]) (M1 := ri_M3) (c1 := 0) (s1 := 0) (fun n => rfl) ?_
      refine ri_ev_gf (k := 15) rfl ri_M3_15 rfl ?_
      refine ri_ev_go 1 (pc1 := 11) (L1 := [some (.ref 16)]) (st1 := [.int 1, .ref 17, .int 0]) (M1 := ri_M3) (c1 := 0) (s1 := 0) (fun n => rfl) ?_
      refine ri_ev_iald (k := 16) (z := 0) rfl ri_M3_16 (by decide) rfl ?_
      refine ri_ev_go 2 (pc1 := 14) (L1 := [some (.ref 16)]) (st1 := [.ref 16, .int 0]) (M1 := ri_M3) (c1 := 0) (s1 := 0) (fun n => rfl) ?_
      refine ri_ev_gf (k := 15) rfl ri_M3_15 rfl ?_
      refine ri_ev_go 1 (pc1 := 18) (L1 := [some (.ref 16)]) (st1 := [.int 2, .ref 17, .int 0]) (M1 := ri_M3) (c1 := 0) (s1 := 0) (fun n => rfl) ?_
      refine ri_ev_iald (k := 16) (z := 0) rfl ri_M3_16 (by decide) rfl ?_
      refine ri_ev_go 1 (pc1 := 20) (L1 := [some (.ref 16)]) (st1 := [.int 0]) (M1 := ri_M3) (c1 := 0) (s1 := 0) (fun n => rfl) ?_
      exact ri_ev_ret (fun n => rfl)
    have hc2 : ri_c 18 142 [.int x1, .int 0] ri_M3 = some (some (.int 1), ri_M3, 0, 0) := by
      refine ri_ev_call (N := 8) (L := [some (.int x1), some (.int 0)]) rfl (Nat.le_of_ble_eq_true rfl) ?_
      refine ri_ev_go 1 (pc1 := 1) (L1 := [some (.int x1), some (.int 0)]) (st1 := [.int x1]) (M1 := ri_M3) (c1 := 0) (s1 := 0) (fun n => rfl) ?_
      refine ri_iz_lt_f rfl h2 ?_
      refine ri_ev_go 2 (pc1 := 6) (L1 := [some (.int x1), some (.int 0)]) (st1 := [.int 0, .int x1]) (M1 := ri_M3) (c1 := 0) (s1 := 0) (fun n => rfl) ?_
      refine ri_ic_lt_f rfl h2 ?_
      refine ri_ev_go 2 (pc1 := 14) (L1 := [some (.int x1), some (.int 0)]) (st1 := [.int 1]) (M1 := ri_M3) (c1 := 0) (s1 := 0) (fun n => rfl) ?_
      exact ri_ev_ret (fun n => rfl)
    refine ri_ev_call (N := 12) (L := [some (.ref 1), some (.int x1)]) rfl (Nat.le_of_ble_eq_true rfl) ?_
    refine ri_ev_go 2 (pc1 := 2) (L1 := [some (.ref 1), some (.int x1)]) (st1 := [.int (-1), .int x1]) (M1 := ri_M3) (c1 := 0) (s1 := 0) (fun n => rfl) ?_
    refine ri_ic_ne_t (t := 15) rfl h1 rfl ?_
    refine ri_ev_go 2 (pc1 := 17) (L1 := [some (.ref 1), some (.int x1)]) (st1 := [.ref 1, .int x1]) (M1 := ri_M3) (c1 := 0) (s1 := 0) (fun n => rfl) ?_
    refine ri_ev_gf (k := 0) rfl ri_M3_0 rfl ?_
    refine ri_ev_gf (k := 14) rfl ri_M3_14 rfl ?_
    refine ri_ev_clv (k := 15) (M1 := ri_M3) (v := some (.int 0)) _ rfl rfl ri_M3_15 rfl (Nat.le_of_ble_eq_true rfl) hc1 ?_
    refine ri_ev_cls (M1 := ri_M3) (v := some (.int 1)) _ rfl (Or.inl rfl) rfl (Nat.le_of_ble_eq_true rfl) hc2 ?_
    refine ri_ev_go 2 (pc1 := 46) (L1 := [some (.ref 1), some (.int x1)]) (st1 := [.int (-2)]) (M1 := ri_M3) (c1 := 0) (s1 := 0) (fun n => rfl) ?_
    exact ri_ev_ret (fun n => rfl)
  have hc6 : ri_c 19 274 [.ref 153, .int x1] ri_M3 = some (some (.int (-2)), ri_M3, 0, 0) := by
    have hc5 : ri_c 18 213 [.ref 153, .int x1] ri_M3 = some (some (.int 0), ri_M3, 0, 0) := by
      have hc4 : ri_c 17 210 [.ref 153] ri_M3 = some (some (.int 0), ri_M3, 0, 0) := by
        refine ri_ev_call (N := 15) (L := [some (.ref 153)]) rfl (Nat.le_of_ble_eq_true rfl) ?_
        refine ri_ev_go 1 (pc1 := 1) (L1 := [some (.ref 153)]) (st1 := [.ref 153]) (M1 := ri_M3) (c1 := 0) (s1 := 0) (fun n => rfl) ?_
        refine ri_ev_gf (k := 152) rfl ri_M3_152 rfl ?_
        refine ri_ev_go 1 (pc1 := 5) (L1 := [some (.ref 153)]) (st1 := [.int 0, .ref 164]) (M1 := ri_M3) (c1 := 0) (s1 := 0) (fun n => rfl) ?_
        refine ri_ev_iald (k := 163) (z := 0) rfl ri_M3_163 (by decide) rfl ?_
        refine ri_ev_go 1 (pc1 := 7) (L1 := [some (.ref 153)]) (st1 := [.ref 153, .int 0]) (M1 := ri_M3) (c1 := 0) (s1 := 0) (fun n => rfl) ?_
        refine ri_ev_gf (k := 152) rfl ri_M3_152 rfl ?_
        refine ri_ev_go 1 (pc1 := 11) (L1 := [some (.ref 153)]) (st1 := [.int 1, .ref 164, .int 0]) (M1 := ri_M3) (c1 := 0) (s1 := 0) (fun n => rfl) ?_
        refine ri_ev_iald (k := 163) (z := 0) rfl ri_M3_163 (by decide) rfl ?_
        refine ri_ev_go 2 (pc1 := 14) (L1 := [some (.ref 153)]) (st1 := [.ref 153, .int 0]) (M1 := ri_M3) (c1 := 0) (s1 := 0) (fun n => rfl) ?_
        refine ri_ev_gf (k := 152) rfl ri_M3_152 rfl ?_
        refine ri_ev_go 1 (pc1 := 18) (L1 := [some (.ref 153)]) (st1 := [.int 2, .ref 164, .int 0]) (M1 := ri_M3) (c1 := 0) (s1 := 0) (fun n => rfl) ?_
        refine ri_ev_iald (k := 163) (z := 0) rfl ri_M3_163 (by decide) rfl ?_
        refine ri_ev_go 1 (pc1 := 20) (L1 := [some (.ref 153)]) (st1 := [.int 0]) (M1 := ri_M3) (c1 := 0) (s1 := 0) (fun n => rfl) ?_
        exact ri_ev_ret (fun n => rfl)
      refine ri_ev_call (N := 8) (L := [some (.ref 153), some (.int x1)]) rfl (Nat.le_of_ble_eq_true rfl) ?_
      refine ri_ev_go 1 (pc1 := 1) (L1 := [some (.ref 153), some (.int x1)]) (st1 := [.int x1]) (M1 := ri_M3) (c1 := 0) (s1 := 0) (fun n => rfl) ?_
      refine ri_iz_lt_f rfl h2 ?_
      refine ri_ev_go 2 (pc1 := 6) (L1 := [some (.ref 153), some (.int x1)]) (st1 := [.ref 153, .int x1]) (M1 := ri_M3) (c1 := 0) (s1 := 0) (fun n => rfl) ?_
      refine ri_ev_clv (k := 152) (M1 := ri_M3) (v := some (.int 0)) _ rfl rfl ri_M3_152 rfl (Nat.le_of_ble_eq_true rfl) hc4 ?_
      refine ri_ic_ge_t (t := 16) rfl (Int32.not_lt.mp h2) rfl ?_
      refine ri_ev_go 1 (pc1 := 17) (L1 := [some (.ref 153), some (.int x1)]) (st1 := [.int 0]) (M1 := ri_M3) (c1 := 0) (s1 := 0) (fun n => rfl) ?_
      exact ri_ev_ret (fun n => rfl)
    refine ri_ev_call (N := 9) (L := [some (.ref 153), some (.int x1)]) rfl (Nat.le_of_ble_eq_true rfl) ?_
    refine ri_ev_go 2 (pc1 := 2) (L1 := [some (.ref 153), some (.int x1)]) (st1 := [.int (-1), .int x1]) (M1 := ri_M3) (c1 := 0) (s1 := 0) (fun n => rfl) ?_
    refine ri_ic_ne_t (t := 14) rfl h1 rfl ?_
    refine ri_ev_go 2 (pc1 := 16) (L1 := [some (.ref 153), some (.int x1)]) (st1 := [.int x1, .ref 153]) (M1 := ri_M3) (c1 := 0) (s1 := 0) (fun n => rfl) ?_
    refine ri_ev_clv (k := 152) (M1 := ri_M3) (v := some (.int 0)) _ rfl rfl ri_M3_152 rfl (Nat.le_of_ble_eq_true rfl) hc5 ?_
    refine ri_ev_go 2 (pc1 := 35) (L1 := [some (.ref 153), some (.int x1)]) (st1 := [.int (-2)]) (M1 := ri_M3) (c1 := 0) (s1 := 0) (fun n => rfl) ?_
    exact ri_ev_ret (fun n => rfl)
  exact ⟨(-2), _, _, _, hc3, ri_M3_152, hc6⟩
set_option maxRecDepth 100000 in
set_option maxHeartbeats 8000000 in
theorem ro_verdict_1 (x1 : Int32)  (h1 : ¬ x1 = (-1)) (h2 : x1 < 0) : ri_eqi 137 274 [.int x1] := by
  have hc3 : ri_c 19 137 [.ref 1, .int x1] ri_M3 = some (some (.int (-2)), ri_M3, 0, 0) := by
    have hc1 : ri_c 18 6 [.ref 16] ri_M3 = some (some (.int 0), ri_M3, 0, 0) := by
      refine ri_ev_call (N := 15) (L := [some (.ref 16)]) rfl (Nat.le_of_ble_eq_true rfl) ?_
      refine ri_ev_go 1 (pc1 := 1) (L1 := [some (.ref 16)]) (st1 := [.ref 16]) (M1 := ri_M3) (c1 := 0) (s1 := 0) (fun n => rfl) ?_
      refine ri_ev_gf (k := 15) rfl ri_M3_15 rfl ?_
      refine ri_ev_go 1 (pc1 := 5) (L1 := [some (.ref 16)]) (st1 := [.int 0, .ref 17]) (M1 := ri_M3) (c1 := 0) (s1 := 0) (fun n => rfl) ?_
      refine ri_ev_iald (k := 16) (z := 0) rfl ri_M3_16 (by decide) rfl ?_
      refine ri_ev_go 1 (pc1 := 7) (L1 := [some (.ref 16)]) (st1 := [.ref 16, .int 0]) (M1 := ri_M3) (c1 := 0) (s1 := 0) (fun n => rfl) ?_
      refine ri_ev_gf (k := 15) rfl ri_M3_15 rfl ?_
      refine ri_ev_go 1 (pc1 := 11) (L1 := [some (.ref 16)]) (st1 := [.int 1, .ref 17, .int 0]) (M1 := ri_M3) (c1 := 0) (s1 := 0) (fun n => rfl) ?_
      refine ri_ev_iald (k := 16) (z := 0) rfl ri_M3_16 (by decide) rfl ?_
      refine ri_ev_go 2 (pc1 := 14) (L1 := [some (.ref 16)]) (st1 := [.ref 16, .int 0]) (M1 := ri_M3) (c1 := 0) (s1 := 0) (fun n => rfl) ?_
      refine ri_ev_gf (k := 15) rfl ri_M3_15 rfl ?_
      refine ri_ev_go 1 (pc1 := 18) (L1 := [some (.ref 16)]) (st1 := [.int 2, .ref 17, .int 0]) (M1 := ri_M3) (c1 := 0) (s1 := 0) (fun n => rfl) ?_
      refine ri_ev_iald (k := 16) (z := 0) rfl ri_M3_16 (by decide) rfl ?_
      refine ri_ev_go 1 (pc1 := 20) (L1 := [some (.ref 16)]) (st1 := [.int 0]) (M1 := ri_M3) (c1 := 0) (s1 := 0) (fun n => rfl) ?_
      exact ri_ev_ret (fun n => rfl)
    have hc2 : ri_c 18 142 [.int x1, .int 0] ri_M3 = some (some (.int 1), ri_M3, 0, 0) := by
      refine ri_ev_call (N := 5) (L := [some (.int x1), some (.int 0)]) rfl (Nat.le_of_ble_eq_true rfl) ?_
      refine ri_ev_go 1 (pc1 := 1) (L1 := [some (.int x1), some (.int 0)]) (st1 := [.int x1]) (M1 := ri_M3) (c1 := 0) (s1 := 0) (fun n => rfl) ?_
      refine ri_iz_lt_t (t := 9) rfl h2 rfl ?_
      refine ri_ev_go 2 (pc1 := 14) (L1 := [some (.int x1), some (.int 0)]) (st1 := [.int 1]) (M1 := ri_M3) (c1 := 0) (s1 := 0) (fun n => rfl) ?_
      exact ri_ev_ret (fun n => rfl)
    refine ri_ev_call (N := 12) (L := [some (.ref 1), some (.int x1)]) rfl (Nat.le_of_ble_eq_true rfl) ?_
    refine ri_ev_go 2 (pc1 := 2) (L1 := [some (.ref 1), some (.int x1)]) (st1 := [.int (-1), .int x1]) (M1 := ri_M3) (c1 := 0) (s1 := 0) (fun n => rfl) ?_
    refine ri_ic_ne_t (t := 15) rfl h1 rfl ?_
    refine ri_ev_go 2 (pc1 := 17) (L1 := [some (.ref 1), some (.int x1)]) (st1 := [.ref 1, .int x1]) (M1 := ri_M3) (c1 := 0) (s1 := 0) (fun n => rfl) ?_
    refine ri_ev_gf (k := 0) rfl ri_M3_0 rfl ?_
    refine ri_ev_gf (k := 14) rfl ri_M3_14 rfl ?_
    refine ri_ev_clv (k := 15) (M1 := ri_M3) (v := some (.int 0)) _ rfl rfl ri_M3_15 rfl (Nat.le_of_ble_eq_true rfl) hc1 ?_
    refine ri_ev_cls (M1 := ri_M3) (v := some (.int 1)) _ rfl (Or.inl rfl) rfl (Nat.le_of_ble_eq_true rfl) hc2 ?_
    refine ri_ev_go 2 (pc1 := 46) (L1 := [some (.ref 1), some (.int x1)]) (st1 := [.int (-2)]) (M1 := ri_M3) (c1 := 0) (s1 := 0) (fun n => rfl) ?_
    exact ri_ev_ret (fun n => rfl)
  have hc5 : ri_c 19 274 [.ref 153, .int x1] ri_M3 = some (some (.int (-2)), ri_M3, 0, 0) := by
    have hc4 : ri_c 18 213 [.ref 153, .int x1] ri_M3 = some (some (.int 0), ri_M3, 0, 0) := by
      refine ri_ev_call (N := 4) (L := [some (.ref 153), some (.int x1)]) rfl (Nat.le_of_ble_eq_true rfl) ?_
      refine ri_ev_go 1 (pc1 := 1) (L1 := [some (.ref 153), some (.int x1)]) (st1 := [.int x1]) (M1 := ri_M3) (c1 := 0) (s1 := 0) (fun n => rfl) ?_
      refine ri_iz_lt_t (t := 16) rfl h2 rfl ?_
      refine ri_ev_go 1 (pc1 := 17) (L1 := [some (.ref 153), some (.int x1)]) (st1 := [.int 0]) (M1 := ri_M3) (c1 := 0) (s1 := 0) (fun n => rfl) ?_
      exact ri_ev_ret (fun n => rfl)
    refine ri_ev_call (N := 9) (L := [some (.ref 153), some (.int x1)]) rfl (Nat.le_of_ble_eq_true rfl) ?_
    refine ri_ev_go 2 (pc1 := 2) (L1 := [some (.ref 153), some (.int x1)]) (st1 := [.int (-1), .int x1]) (M1 := ri_M3) (c1 := 0) (s1 := 0) (fun n => rfl) ?_
    refine ri_ic_ne_t (t := 14) rfl h1 rfl ?_
    refine ri_ev_go 2 (pc1 := 16) (L1 := [some (.ref 153), some (.int x1)]) (st1 := [.int x1, .ref 153]) (M1 := ri_M3) (c1 := 0) (s1 := 0) (fun n => rfl) ?_
    refine ri_ev_clv (k := 152) (M1 := ri_M3) (v := some (.int 0)) _ rfl rfl ri_M3_152 rfl (Nat.le_of_ble_eq_true rfl) hc4 ?_
    refine ri_ev_go 2 (pc1 := 35) (L1 := [some (.ref 153), some (.int x1)]) (st1 := [.int (-2)]) (M1 := ri_M3) (c1 := 0) (s1 := 0) (fun n => rfl) ?_
    exact ri_ev_ret (fun n => rfl)
  exact ⟨(-2), _, _, _, hc3, ri_M3_152, hc5⟩
set_option maxRecDepth 100000 in
set_option maxHeartbeats 8000000 in
theorem ro_verdict_2 (x1 : Int32)  (h1 : x1 = (-1)) : ri_eqi 137 274 [.int x1] := by
  have hc1 : ri_c 19 137 [.ref 1, .int x1] ri_M3 = some (some (.int 0), (ri_M3.set 14 (.inr (2, [.ref 16, .ref 20, .ref 21, .ref 22, .ref 23, .ref 24, .int 0, .int (-1), .ref 25, .ref 26, .int 0, .int 0]))), 0, 0) := by
    refine ri_ev_call (N := 9) (L := [some (.ref 1), some (.int x1)]) rfl (Nat.le_of_ble_eq_true rfl) ?_
    refine ri_ev_go 2 (pc1 := 2) (L1 := [some (.ref 1), some (.int x1)]) (st1 := [.int (-1), .int x1]) (M1 := ri_M3) (c1 := 0) (s1 := 0) (fun n => rfl) ?_
    refine ri_ic_ne_f rfl h1 ?_
    refine ri_ev_go 1 (pc1 := 6) (L1 := [some (.ref 1), some (.int x1)]) (st1 := [.ref 1]) (M1 := ri_M3) (c1 := 0) (s1 := 0) (fun n => rfl) ?_
    refine ri_ev_gf (k := 0) rfl ri_M3_0 rfl ?_
    refine ri_ev_go 1 (pc1 := 10) (L1 := [some (.ref 1), some (.int x1)]) (st1 := [.int 0, .ref 15]) (M1 := ri_M3) (c1 := 0) (s1 := 0) (fun n => rfl) ?_
    refine ri_ev_pf (k := 14) (gs := [.ref 16, .ref 20, .ref 21, .ref 22, .ref 23, .ref 24, .int 0, .int (-1), .ref 25, .ref 26, .int 0, .int 0]) (M2 := (ri_M3.set 14 (.inr (2, [.ref 16, .ref 20, .ref 21, .ref 22, .ref 23, .ref 24, .int 0, .int (-1), .ref 25, .ref 26, .int 0, .int 0])))) rfl ri_M3_14 (Nat.le_of_ble_eq_true rfl) rfl rfl rfl ?_
    refine ri_ev_go 1 (pc1 := 14) (L1 := [some (.ref 1), some (.int x1)]) (st1 := [.int 0]) (M1 := (ri_M3.set 14 (.inr (2, [.ref 16, .ref 20, .ref 21, .ref 22, .ref 23, .ref 24, .int 0, .int (-1), .ref 25, .ref 26, .int 0, .int 0])))) (c1 := 0) (s1 := 0) (fun n => rfl) ?_
    exact ri_ev_ret (fun n => rfl)
  have hc2 : ri_c 19 274 [.ref 153, .int x1] (ri_M3.set 14 (.inr (2, [.ref 16, .ref 20, .ref 21, .ref 22, .ref 23, .ref 24, .int 0, .int (-1), .ref 25, .ref 26, .int 0, .int 0]))) = some (some (.int 0), ((ri_M3.set 14 (.inr (2, [.ref 16, .ref 20, .ref 21, .ref 22, .ref 23, .ref 24, .int 0, .int (-1), .ref 25, .ref 26, .int 0, .int 0]))).set 163 (.inl (.int, (262, .inl (upd (upd (fun _ => 0) 4 (-1)) 5 0))))), 0, 0) := by
    refine ri_ev_call (N := 10) (L := [some (.ref 153), some (.int x1)]) rfl (Nat.le_of_ble_eq_true rfl) ?_
    refine ri_ev_go 2 (pc1 := 2) (L1 := [some (.ref 153), some (.int x1)]) (st1 := [.int (-1), .int x1]) (M1 := (ri_M3.set 14 (.inr (2, [.ref 16, .ref 20, .ref 21, .ref 22, .ref 23, .ref 24, .int 0, .int (-1), .ref 25, .ref 26, .int 0, .int 0])))) (c1 := 0) (s1 := 0) (fun n => rfl) ?_
    refine ri_ic_ne_f rfl h1 ?_
    refine ri_ev_go 1 (pc1 := 6) (L1 := [some (.ref 153), some (.int x1)]) (st1 := [.ref 153]) (M1 := (ri_M3.set 14 (.inr (2, [.ref 16, .ref 20, .ref 21, .ref 22, .ref 23, .ref 24, .int 0, .int (-1), .ref 25, .ref 26, .int 0, .int 0])))) (c1 := 0) (s1 := 0) (fun n => rfl) ?_
    refine ri_ev_gf (k := 152) rfl (ri_gn (by decide) ri_M3_152) rfl ?_
    refine ri_ev_go 2 (pc1 := 11) (L1 := [some (.ref 153), some (.int x1)]) (st1 := [.int 0, .int 5, .ref 164]) (M1 := (ri_M3.set 14 (.inr (2, [.ref 16, .ref 20, .ref 21, .ref 22, .ref 23, .ref 24, .int 0, .int (-1), .ref 25, .ref 26, .int 0, .int 0])))) (c1 := 0) (s1 := 0) (fun n => rfl) ?_
    refine ri_ev_iasd (k := 163) (q := 5) (M2 := ((ri_M3.set 14 (.inr (2, [.ref 16, .ref 20, .ref 21, .ref 22, .ref 23, .ref 24, .int 0, .int (-1), .ref 25, .ref 26, .int 0, .int 0]))).set 163 (.inl (.int, (262, .inl (upd (upd (fun _ => 0) 4 (-1)) 5 0)))))) rfl (ri_gn (by decide) ri_M3_163) (by decide) rfl rfl ?_
    refine ri_ev_go 1 (pc1 := 13) (L1 := [some (.ref 153), some (.int x1)]) (st1 := [.int 0]) (M1 := ((ri_M3.set 14 (.inr (2, [.ref 16, .ref 20, .ref 21, .ref 22, .ref 23, .ref 24, .int 0, .int (-1), .ref 25, .ref 26, .int 0, .int 0]))).set 163 (.inl (.int, (262, .inl (upd (upd (fun _ => 0) 4 (-1)) 5 0)))))) (c1 := 0) (s1 := 0) (fun n => rfl) ?_
    exact ri_ev_ret (fun n => rfl)
  exact ⟨0, _, _, _, hc1, (ri_gn (by decide) ri_M3_152), hc2⟩
theorem ro_verdict (x1 : Int32)  : ri_eqi 137 274 [.int x1] := by
  by_cases h1 : x1 = (-1)
  · exact ro_verdict_2 x1  h1
  · by_cases h2 : x1 < 0
    · exact ro_verdict_1 x1  h1 h2
    · exact ro_verdict_0 x1  h1 h2
set_option maxRecDepth 100000 in
set_option maxHeartbeats 8000000 in
theorem ro_old_0 (x1 x2 x3 x4 : Int32)   : ri_eqi 138 275 [.int x1, .int x2, .int x3, .int x4] := by
  have hc3 : ri_c 19 138 [.ref 1, .int x1, .int x2, .int x3, .int x4] ri_M3 = some (some (.int (-1)), ri_M3, 0, 0) := by
    have hc2 : ri_c 18 150 [.ref 1, .int x1] ri_M3 = some (some (.null), ri_M3, 0, 0) := by
      have hc1 : ri_c 17 5 [.ref 16] ri_M3 = some (some (.int 0), ri_M3, 0, 0) := by
        refine ri_ev_call (N := 7) (L := [some (.ref 16)]) rfl (Nat.le_of_ble_eq_true rfl) ?_
        refine ri_ev_go 1 (pc1 := 1) (L1 := [some (.ref 16)]) (st1 := [.ref 16]) (M1 := ri_M3) (c1 := 0) (s1 := 0) (fun n => rfl) ?_
        refine ri_ev_gf (k := 15) rfl ri_M3_15 rfl ?_
        refine ri_ev_go 1 (pc1 := 5) (L1 := [some (.ref 16)]) (st1 := [.int 1, .ref 17]) (M1 := ri_M3) (c1 := 0) (s1 := 0) (fun n => rfl) ?_
        refine ri_ev_iald (k := 16) (z := 0) rfl ri_M3_16 (by decide) rfl ?_
        refine ri_ev_go 2 (pc1 := 23) (L1 := [some (.ref 16)]) (st1 := [.int 0]) (M1 := ri_M3) (c1 := 0) (s1 := 0) (fun n => rfl) ?_
        exact ri_ev_ret (fun n => rfl)
      refine ri_ev_call (N := 7) (L := [some (.ref 1), some (.int x1), none]) rfl (Nat.le_of_ble_eq_true rfl) ?_
      refine ri_ev_go 1 (pc1 := 1) (L1 := [some (.ref 1), some (.int x1), none]) (st1 := [.ref 1]) (M1 := ri_M3) (c1 := 0) (s1 := 0) (fun n => rfl) ?_
      refine ri_ev_gf (k := 0) rfl ri_M3_0 rfl ?_
      refine ri_ev_gf (k := 14) rfl ri_M3_14 rfl ?_
      refine ri_ev_clv (k := 15) (M1 := ri_M3) (v := some (.int 0)) _ rfl rfl ri_M3_15 rfl (Nat.le_of_ble_eq_true rfl) hc1 ?_
      refine ri_ev_go 2 (pc1 := 34) (L1 := [some (.ref 1), some (.int x1), none]) (st1 := [.null]) (M1 := ri_M3) (c1 := 0) (s1 := 0) (fun n => rfl) ?_
      exact ri_ev_ret (fun n => rfl)
    refine ri_ev_call (N := 8) (L := [some (.ref 1), some (.int x1), some (.int x2), some (.int x3), some (.int x4), none, none, none]) rfl (Nat.le_of_ble_eq_true rfl) ?_
    refine ri_ev_go 2 (pc1 := 2) (L1 := [some (.ref 1), some (.int x1), some (.int x2), some (.int x3), some (.int x4), none, none, none]) (st1 := [.int x1, .ref 1]) (M1 := ri_M3) (c1 := 0) (s1 := 0) (fun n => rfl) ?_
    refine ri_ev_clv (k := 0) (M1 := ri_M3) (v := some (.null)) _ rfl rfl ri_M3_0 rfl (Nat.le_of_ble_eq_true rfl) hc2 ?_
    refine ri_ev_go 4 (pc1 := 45) (L1 := [some (.ref 1), some (.int x1), some (.int x2), some (.int x3), some (.int x4), some (.null), none, none]) (st1 := [.int (-1)]) (M1 := ri_M3) (c1 := 0) (s1 := 0) (fun n => rfl) ?_
    exact ri_ev_ret (fun n => rfl)
  have hc6 : ri_c 19 275 [.ref 153, .int x1, .int x2, .int x3, .int x4] ri_M3 = some (some (.int (-1)), ri_M3, 0, 0) := by
    have hc5 : ri_c 18 233 [.ref 153, .int x1] ri_M3 = some (some (.int 0), ri_M3, 0, 0) := by
      have hc4 : ri_c 17 209 [.ref 153] ri_M3 = some (some (.int 0), ri_M3, 0, 0) := by
        refine ri_ev_call (N := 7) (L := [some (.ref 153)]) rfl (Nat.le_of_ble_eq_true rfl) ?_
        refine ri_ev_go 1 (pc1 := 1) (L1 := [some (.ref 153)]) (st1 := [.ref 153]) (M1 := ri_M3) (c1 := 0) (s1 := 0) (fun n => rfl) ?_
        refine ri_ev_gf (k := 152) rfl ri_M3_152 rfl ?_
        refine ri_ev_go 1 (pc1 := 5) (L1 := [some (.ref 153)]) (st1 := [.int 0, .ref 164]) (M1 := ri_M3) (c1 := 0) (s1 := 0) (fun n => rfl) ?_
        refine ri_ev_iald (k := 163) (z := 0) rfl ri_M3_163 (by decide) rfl ?_
        refine ri_ev_go 2 (pc1 := 14) (L1 := [some (.ref 153)]) (st1 := [.int 0]) (M1 := ri_M3) (c1 := 0) (s1 := 0) (fun n => rfl) ?_
        exact ri_ev_ret (fun n => rfl)
      refine ri_ev_call (N := 5) (L := [some (.ref 153), some (.int x1)]) rfl (Nat.le_of_ble_eq_true rfl) ?_
      refine ri_ev_go 1 (pc1 := 1) (L1 := [some (.ref 153), some (.int x1)]) (st1 := [.ref 153]) (M1 := ri_M3) (c1 := 0) (s1 := 0) (fun n => rfl) ?_
      refine ri_ev_clv (k := 152) (M1 := ri_M3) (v := some (.int 0)) _ rfl rfl ri_M3_152 rfl (Nat.le_of_ble_eq_true rfl) hc4 ?_
      refine ri_ev_go 2 (pc1 := 20) (L1 := [some (.ref 153), some (.int x1)]) (st1 := [.int 0]) (M1 := ri_M3) (c1 := 0) (s1 := 0) (fun n => rfl) ?_
      exact ri_ev_ret (fun n => rfl)
    refine ri_ev_call (N := 6) (L := [some (.ref 153), some (.int x1), some (.int x2), some (.int x3), some (.int x4), none, none, none, none, none, none, none]) rfl (Nat.le_of_ble_eq_true rfl) ?_
    refine ri_ev_go 2 (pc1 := 2) (L1 := [some (.ref 153), some (.int x1), some (.int x2), some (.int x3), some (.int x4), none, none, none, none, none, none, none]) (st1 := [.int x1, .ref 153]) (M1 := ri_M3) (c1 := 0) (s1 := 0) (fun n => rfl) ?_
    refine ri_ev_clv (k := 152) (M1 := ri_M3) (v := some (.int 0)) _ rfl rfl ri_M3_152 rfl (Nat.le_of_ble_eq_true rfl) hc5 ?_
    refine ri_ev_go 2 (pc1 := 47) (L1 := [some (.ref 153), some (.int x1), some (.int x2), some (.int x3), some (.int x4), none, none, none, none, none, none, none]) (st1 := [.int (-1)]) (M1 := ri_M3) (c1 := 0) (s1 := 0) (fun n => rfl) ?_
    exact ri_ev_ret (fun n => rfl)
  exact ⟨(-1), _, _, _, hc3, ri_M3_152, hc6⟩
theorem ro_old (x1 x2 x3 x4 : Int32)  : ri_eqi 138 275 [.int x1, .int x2, .int x3, .int x4] := by
  exact ro_old_0 x1 x2 x3 x4  
theorem ro_count_0_k : ri_both 139 276 [.int 0] = true := by decide +kernel
theorem ro_count_0 : ri_eqi 139 276 [.int 0] := ri_both_ok ro_count_0_k
theorem ro_count_1_k : ri_both 139 276 [.int 1] = true := by decide +kernel
theorem ro_count_1 : ri_eqi 139 276 [.int 1] := ri_both_ok ro_count_1_k
theorem ro_count_2_k : ri_both 139 276 [.int 2] = true := by decide +kernel
theorem ro_count_2 : ri_eqi 139 276 [.int 2] := ri_both_ok ro_count_2_k
theorem ro_count_3_k : ri_both 139 276 [.int 3] = true := by decide +kernel
theorem ro_count_3 : ri_eqi 139 276 [.int 3] := ri_both_ok ro_count_3_k
theorem ro_count_4_k : ri_both 139 276 [.int 4] = true := by decide +kernel
theorem ro_count_4 : ri_eqi 139 276 [.int 4] := ri_both_ok ro_count_4_k
theorem ro_count_5_k : ri_both 139 276 [.int 5] = true := by decide +kernel
theorem ro_count_5 : ri_eqi 139 276 [.int 5] := ri_both_ok ro_count_5_k
theorem ro_count_6_k : ri_both 139 276 [.int 6] = true := by decide +kernel
theorem ro_count_6 : ri_eqi 139 276 [.int 6] := ri_both_ok ro_count_6_k
theorem ro_count_7_k : ri_both 139 276 [.int 7] = true := by decide +kernel
theorem ro_count_7 : ri_eqi 139 276 [.int 7] := ri_both_ok ro_count_7_k
theorem ro_count_8_k : ri_both 139 276 [.int 8] = true := by decide +kernel
theorem ro_count_8 : ri_eqi 139 276 [.int 8] := ri_both_ok ro_count_8_k
theorem ro_count_9_k : ri_both 139 276 [.int 9] = true := by decide +kernel
theorem ro_count_9 : ri_eqi 139 276 [.int 9] := ri_both_ok ro_count_9_k
set_option maxRecDepth 100000 in
set_option maxHeartbeats 8000000 in
theorem ro_count_o_0 (x1 : Int32) (hs : x1.toInt < 0 ∨ 9 < x1.toInt)  : ri_eqi 139 276 [.int x1] := by
  have hc1 : ri_c 19 139 [.ref 1, .int x1] ri_M3 = some (some (.int (-1)), ri_M3, 0, 0) := by
    refine ri_ev_call (N := 4) (L := [some (.ref 1), some (.int x1)]) rfl (Nat.le_of_ble_eq_true rfl) ?_
    refine ri_ev_go 1 (pc1 := 1) (L1 := [some (.ref 1), some (.int x1)]) (st1 := [.int x1]) (M1 := ri_M3) (c1 := 0) (s1 := 0) (fun n => rfl) ?_
    refine ri_ev_tsw (t := 121) rfl (hs) rfl ?_
    refine ri_ev_go 1 (pc1 := 122) (L1 := [some (.ref 1), some (.int x1)]) (st1 := [.int (-1)]) (M1 := ri_M3) (c1 := 0) (s1 := 0) (fun n => rfl) ?_
    exact ri_ev_ret (fun n => rfl)
  have hc2 : ri_c 19 276 [.ref 153, .int x1] ri_M3 = some (some (.int (-1)), ri_M3, 0, 0) := by
    refine ri_ev_call (N := 6) (L := [some (.ref 153), some (.int x1), none, none]) rfl (Nat.le_of_ble_eq_true rfl) ?_
    refine ri_ev_go 3 (pc1 := 3) (L1 := [some (.ref 153), some (.int x1), some (.int 0), none]) (st1 := [.int x1]) (M1 := ri_M3) (c1 := 0) (s1 := 0) (fun n => rfl) ?_
    refine ri_ev_tsw (t := 160) rfl (hs) rfl ?_
    refine ri_ev_go 1 (pc1 := 161) (L1 := [some (.ref 153), some (.int x1), some (.int 0), none]) (st1 := [.int (-1)]) (M1 := ri_M3) (c1 := 0) (s1 := 0) (fun n => rfl) ?_
    exact ri_ev_ret (fun n => rfl)
  exact ⟨(-1), _, _, _, hc1, ri_M3_152, hc2⟩
theorem ro_count_o (x1 : Int32) (hs : x1.toInt < 0 ∨ 9 < x1.toInt) : ri_eqi 139 276 [.int x1] := by
  exact ro_count_o_0 x1 hs 
theorem ro_image_0_k : ri_both 140 277 [.int 0] = true := by decide +kernel
theorem ro_image_0 : ri_eqi 140 277 [.int 0] := ri_both_ok ro_image_0_k
theorem ro_image_1_k : ri_both 140 277 [.int 1] = true := by decide +kernel
theorem ro_image_1 : ri_eqi 140 277 [.int 1] := ri_both_ok ro_image_1_k
theorem ro_image_2_k : ri_both 140 277 [.int 2] = true := by decide +kernel
theorem ro_image_2 : ri_eqi 140 277 [.int 2] := ri_both_ok ro_image_2_k
theorem ro_image_3_k : ri_both 140 277 [.int 3] = true := by decide +kernel
theorem ro_image_3 : ri_eqi 140 277 [.int 3] := ri_both_ok ro_image_3_k
set_option maxRecDepth 100000 in
set_option maxHeartbeats 8000000 in
theorem ro_image_n_0 (x1 : Int32) (hs : x1 < 0)  : ri_eqi 140 277 [.int x1] := by
  have hc2 : ri_c 19 140 [.ref 1, .int x1] ri_M3 = some (some (.int (-1)), ri_M3, 0, 0) := by
    have hc1 : ri_c 18 142 [.int x1, .int 4] ri_M3 = some (some (.int 1), ri_M3, 0, 0) := by
      refine ri_ev_call (N := 5) (L := [some (.int x1), some (.int 4)]) rfl (Nat.le_of_ble_eq_true rfl) ?_
      refine ri_ev_go 1 (pc1 := 1) (L1 := [some (.int x1), some (.int 4)]) (st1 := [.int x1]) (M1 := ri_M3) (c1 := 0) (s1 := 0) (fun n => rfl) ?_
      refine ri_iz_lt_t (t := 9) rfl hs rfl ?_
      refine ri_ev_go 2 (pc1 := 14) (L1 := [some (.int x1), some (.int 4)]) (st1 := [.int 1]) (M1 := ri_M3) (c1 := 0) (s1 := 0) (fun n => rfl) ?_
      exact ri_ev_ret (fun n => rfl)
    refine ri_ev_call (N := 6) (L := [some (.ref 1), some (.int x1)]) rfl (Nat.le_of_ble_eq_true rfl) ?_
    refine ri_ev_go 2 (pc1 := 2) (L1 := [some (.ref 1), some (.int x1)]) (st1 := [.int 4, .int x1]) (M1 := ri_M3) (c1 := 0) (s1 := 0) (fun n => rfl) ?_
    refine ri_ev_cls (M1 := ri_M3) (v := some (.int 1)) _ rfl (Or.inl rfl) rfl (Nat.le_of_ble_eq_true rfl) hc1 ?_
    refine ri_ev_go 2 (pc1 := 18) (L1 := [some (.ref 1), some (.int x1)]) (st1 := [.int (-1)]) (M1 := ri_M3) (c1 := 0) (s1 := 0) (fun n => rfl) ?_
    exact ri_ev_ret (fun n => rfl)
  have hc4 : ri_c 19 277 [.ref 153, .int x1] ri_M3 = some (some (.int (-1)), ri_M3, 0, 0) := by
    have hc3 : ri_c 18 169 [.long (x1).toInt64, .long 0, .long 3] ri_M3 = some (some (.int 0), ri_M3, 0, 0) := by
      refine ri_ev_call (N := 6) (L := [some (.long (x1).toInt64), none, some (.long 0), none, some (.long 3), none]) rfl (Nat.le_of_ble_eq_true rfl) ?_
      refine ri_ev_go 3 (pc1 := 3) (L1 := [some (.long (x1).toInt64), none, some (.long 0), none, some (.long 3), none]) (st1 := [.int (lg_cmp (x1).toInt64 0)]) (M1 := ri_M3) (c1 := 0) (s1 := 0) (fun n => rfl) ?_
      refine ri_iz_lt_t (t := 17) rfl ((ri_lc_lt (c := 0) rfl).mpr hs) rfl ?_
      refine ri_ev_go 1 (pc1 := 18) (L1 := [some (.long (x1).toInt64), none, some (.long 0), none, some (.long 3), none]) (st1 := [.int 0]) (M1 := ri_M3) (c1 := 0) (s1 := 0) (fun n => rfl) ?_
      exact ri_ev_ret (fun n => rfl)
    refine ri_ev_call (N := 8) (L := [some (.ref 153), some (.int x1), none]) rfl (Nat.le_of_ble_eq_true rfl) ?_
    refine ri_ev_go 4 (pc1 := 6) (L1 := [some (.ref 153), some (.int x1), none]) (st1 := [.long 3, .long 0, .long (x1).toInt64]) (M1 := ri_M3) (c1 := 0) (s1 := 0) (fun n => rfl) ?_
    refine ri_ev_cls (M1 := ri_M3) (v := some (.int 0)) _ rfl (Or.inl rfl) rfl (Nat.le_of_ble_eq_true rfl) hc3 ?_
    refine ri_ev_go 2 (pc1 := 13) (L1 := [some (.ref 153), some (.int x1), none]) (st1 := [.int (-1)]) (M1 := ri_M3) (c1 := 0) (s1 := 0) (fun n => rfl) ?_
    exact ri_ev_ret (fun n => rfl)
  exact ⟨(-1), _, _, _, hc2, ri_M3_152, hc4⟩
theorem ro_image_n (x1 : Int32) (hs : x1 < 0) : ri_eqi 140 277 [.int x1] := by
  exact ro_image_n_0 x1 hs 
set_option maxRecDepth 100000 in
set_option maxHeartbeats 8000000 in
theorem ro_image_b_0 (x1 : Int32) (hs : ¬ x1 < 0) (ht : ¬ x1 < 4)  : ri_eqi 140 277 [.int x1] := by
  have hc2 : ri_c 19 140 [.ref 1, .int x1] ri_M3 = some (some (.int (-1)), ri_M3, 0, 0) := by
    have hc1 : ri_c 18 142 [.int x1, .int 4] ri_M3 = some (some (.int 1), ri_M3, 0, 0) := by
      refine ri_ev_call (N := 8) (L := [some (.int x1), some (.int 4)]) rfl (Nat.le_of_ble_eq_true rfl) ?_
      refine ri_ev_go 1 (pc1 := 1) (L1 := [some (.int x1), some (.int 4)]) (st1 := [.int x1]) (M1 := ri_M3) (c1 := 0) (s1 := 0) (fun n => rfl) ?_
      refine ri_iz_lt_f rfl hs ?_
      refine ri_ev_go 2 (pc1 := 6) (L1 := [some (.int x1), some (.int 4)]) (st1 := [.int 4, .int x1]) (M1 := ri_M3) (c1 := 0) (s1 := 0) (fun n => rfl) ?_
      refine ri_ic_lt_f rfl ht ?_
      refine ri_ev_go 2 (pc1 := 14) (L1 := [some (.int x1), some (.int 4)]) (st1 := [.int 1]) (M1 := ri_M3) (c1 := 0) (s1 := 0) (fun n => rfl) ?_
      exact ri_ev_ret (fun n => rfl)
    refine ri_ev_call (N := 6) (L := [some (.ref 1), some (.int x1)]) rfl (Nat.le_of_ble_eq_true rfl) ?_
    refine ri_ev_go 2 (pc1 := 2) (L1 := [some (.ref 1), some (.int x1)]) (st1 := [.int 4, .int x1]) (M1 := ri_M3) (c1 := 0) (s1 := 0) (fun n => rfl) ?_
    refine ri_ev_cls (M1 := ri_M3) (v := some (.int 1)) _ rfl (Or.inl rfl) rfl (Nat.le_of_ble_eq_true rfl) hc1 ?_
    refine ri_ev_go 2 (pc1 := 18) (L1 := [some (.ref 1), some (.int x1)]) (st1 := [.int (-1)]) (M1 := ri_M3) (c1 := 0) (s1 := 0) (fun n => rfl) ?_
    exact ri_ev_ret (fun n => rfl)
  have hc4 : ri_c 19 277 [.ref 153, .int x1] ri_M3 = some (some (.int (-1)), ri_M3, 0, 0) := by
    have hc3 : ri_c 18 169 [.long (x1).toInt64, .long 0, .long 3] ri_M3 = some (some (.int 0), ri_M3, 0, 0) := by
      refine ri_ev_call (N := 10) (L := [some (.long (x1).toInt64), none, some (.long 0), none, some (.long 3), none]) rfl (Nat.le_of_ble_eq_true rfl) ?_
      refine ri_ev_go 3 (pc1 := 3) (L1 := [some (.long (x1).toInt64), none, some (.long 0), none, some (.long 3), none]) (st1 := [.int (lg_cmp (x1).toInt64 0)]) (M1 := ri_M3) (c1 := 0) (s1 := 0) (fun n => rfl) ?_
      refine ri_iz_lt_f rfl (fun q => hs ((ri_lc_lt (c := 0) rfl).mp q)) ?_
      refine ri_ev_go 3 (pc1 := 10) (L1 := [some (.long (x1).toInt64), none, some (.long 0), none, some (.long 3), none]) (st1 := [.int (lg_cmp (x1).toInt64 3)]) (M1 := ri_M3) (c1 := 0) (s1 := 0) (fun n => rfl) ?_
      refine ri_iz_gt_t (t := 17) rfl ((ri_lc_gt (c := 3) rfl).mpr (Int32.lt_of_lt_of_le (by decide) (Int32.not_lt.mp ht))) rfl ?_
      refine ri_ev_go 1 (pc1 := 18) (L1 := [some (.long (x1).toInt64), none, some (.long 0), none, some (.long 3), none]) (st1 := [.int 0]) (M1 := ri_M3) (c1 := 0) (s1 := 0) (fun n => rfl) ?_
      exact ri_ev_ret (fun n => rfl)
    refine ri_ev_call (N := 8) (L := [some (.ref 153), some (.int x1), none]) rfl (Nat.le_of_ble_eq_true rfl) ?_
    refine ri_ev_go 4 (pc1 := 6) (L1 := [some (.ref 153), some (.int x1), none]) (st1 := [.long 3, .long 0, .long (x1).toInt64]) (M1 := ri_M3) (c1 := 0) (s1 := 0) (fun n => rfl) ?_
    refine ri_ev_cls (M1 := ri_M3) (v := some (.int 0)) _ rfl (Or.inl rfl) rfl (Nat.le_of_ble_eq_true rfl) hc3 ?_
    refine ri_ev_go 2 (pc1 := 13) (L1 := [some (.ref 153), some (.int x1), none]) (st1 := [.int (-1)]) (M1 := ri_M3) (c1 := 0) (s1 := 0) (fun n => rfl) ?_
    exact ri_ev_ret (fun n => rfl)
  exact ⟨(-1), _, _, _, hc2, ri_M3_152, hc4⟩
theorem ro_image_b (x1 : Int32) (hs : ¬ x1 < 0) (ht : ¬ x1 < 4) : ri_eqi 140 277 [.int x1] := by
  exact ro_image_b_0 x1 hs ht 
theorem ro_back_0_k : ri_both 141 278 [.int 0] = true := by decide +kernel
theorem ro_back_0 : ri_eqi 141 278 [.int 0] := ri_both_ok ro_back_0_k
theorem ro_back_1_k : ri_both 141 278 [.int 1] = true := by decide +kernel
theorem ro_back_1 : ri_eqi 141 278 [.int 1] := ri_both_ok ro_back_1_k
theorem ro_back_2_k : ri_both 141 278 [.int 2] = true := by decide +kernel
theorem ro_back_2 : ri_eqi 141 278 [.int 2] := ri_both_ok ro_back_2_k
theorem ro_back_3_k : ri_both 141 278 [.int 3] = true := by decide +kernel
theorem ro_back_3 : ri_eqi 141 278 [.int 3] := ri_both_ok ro_back_3_k
set_option maxRecDepth 100000 in
set_option maxHeartbeats 8000000 in
theorem ro_back_n_0 (x1 : Int32) (hs : x1 < 0)  : ri_eqi 141 278 [.int x1] := by
  have hc2 : ri_c 19 141 [.ref 1, .int x1] ri_M3 = some (some (.int (-1)), ri_M3, 0, 0) := by
    have hc1 : ri_c 18 142 [.int x1, .int 4] ri_M3 = some (some (.int 1), ri_M3, 0, 0) := by
      refine ri_ev_call (N := 5) (L := [some (.int x1), some (.int 4)]) rfl (Nat.le_of_ble_eq_true rfl) ?_
      refine ri_ev_go 1 (pc1 := 1) (L1 := [some (.int x1), some (.int 4)]) (st1 := [.int x1]) (M1 := ri_M3) (c1 := 0) (s1 := 0) (fun n => rfl) ?_
      refine ri_iz_lt_t (t := 9) rfl hs rfl ?_
      refine ri_ev_go 2 (pc1 := 14) (L1 := [some (.int x1), some (.int 4)]) (st1 := [.int 1]) (M1 := ri_M3) (c1 := 0) (s1 := 0) (fun n => rfl) ?_
      exact ri_ev_ret (fun n => rfl)
    refine ri_ev_call (N := 6) (L := [some (.ref 1), some (.int x1)]) rfl (Nat.le_of_ble_eq_true rfl) ?_
    refine ri_ev_go 2 (pc1 := 2) (L1 := [some (.ref 1), some (.int x1)]) (st1 := [.int 4, .int x1]) (M1 := ri_M3) (c1 := 0) (s1 := 0) (fun n => rfl) ?_
    refine ri_ev_cls (M1 := ri_M3) (v := some (.int 1)) _ rfl (Or.inl rfl) rfl (Nat.le_of_ble_eq_true rfl) hc1 ?_
    refine ri_ev_go 2 (pc1 := 27) (L1 := [some (.ref 1), some (.int x1)]) (st1 := [.int (-1)]) (M1 := ri_M3) (c1 := 0) (s1 := 0) (fun n => rfl) ?_
    exact ri_ev_ret (fun n => rfl)
  have hc4 : ri_c 19 278 [.ref 153, .int x1] ri_M3 = some (some (.int (-1)), ri_M3, 0, 0) := by
    have hc3 : ri_c 18 169 [.long (x1).toInt64, .long 0, .long 3] ri_M3 = some (some (.int 0), ri_M3, 0, 0) := by
      refine ri_ev_call (N := 6) (L := [some (.long (x1).toInt64), none, some (.long 0), none, some (.long 3), none]) rfl (Nat.le_of_ble_eq_true rfl) ?_
      refine ri_ev_go 3 (pc1 := 3) (L1 := [some (.long (x1).toInt64), none, some (.long 0), none, some (.long 3), none]) (st1 := [.int (lg_cmp (x1).toInt64 0)]) (M1 := ri_M3) (c1 := 0) (s1 := 0) (fun n => rfl) ?_
      refine ri_iz_lt_t (t := 17) rfl ((ri_lc_lt (c := 0) rfl).mpr hs) rfl ?_
      refine ri_ev_go 1 (pc1 := 18) (L1 := [some (.long (x1).toInt64), none, some (.long 0), none, some (.long 3), none]) (st1 := [.int 0]) (M1 := ri_M3) (c1 := 0) (s1 := 0) (fun n => rfl) ?_
      exact ri_ev_ret (fun n => rfl)
    refine ri_ev_call (N := 8) (L := [some (.ref 153), some (.int x1), none]) rfl (Nat.le_of_ble_eq_true rfl) ?_
    refine ri_ev_go 4 (pc1 := 6) (L1 := [some (.ref 153), some (.int x1), none]) (st1 := [.long 3, .long 0, .long (x1).toInt64]) (M1 := ri_M3) (c1 := 0) (s1 := 0) (fun n => rfl) ?_
    refine ri_ev_cls (M1 := ri_M3) (v := some (.int 0)) _ rfl (Or.inl rfl) rfl (Nat.le_of_ble_eq_true rfl) hc3 ?_
    refine ri_ev_go 2 (pc1 := 22) (L1 := [some (.ref 153), some (.int x1), none]) (st1 := [.int (-1)]) (M1 := ri_M3) (c1 := 0) (s1 := 0) (fun n => rfl) ?_
    exact ri_ev_ret (fun n => rfl)
  exact ⟨(-1), _, _, _, hc2, ri_M3_152, hc4⟩
theorem ro_back_n (x1 : Int32) (hs : x1 < 0) : ri_eqi 141 278 [.int x1] := by
  exact ro_back_n_0 x1 hs 
set_option maxRecDepth 100000 in
set_option maxHeartbeats 8000000 in
theorem ro_back_b_0 (x1 : Int32) (hs : ¬ x1 < 0) (ht : ¬ x1 < 4)  : ri_eqi 141 278 [.int x1] := by
  have hc2 : ri_c 19 141 [.ref 1, .int x1] ri_M3 = some (some (.int (-1)), ri_M3, 0, 0) := by
    have hc1 : ri_c 18 142 [.int x1, .int 4] ri_M3 = some (some (.int 1), ri_M3, 0, 0) := by
      refine ri_ev_call (N := 8) (L := [some (.int x1), some (.int 4)]) rfl (Nat.le_of_ble_eq_true rfl) ?_
      refine ri_ev_go 1 (pc1 := 1) (L1 := [some (.int x1), some (.int 4)]) (st1 := [.int x1]) (M1 := ri_M3) (c1 := 0) (s1 := 0) (fun n => rfl) ?_
      refine ri_iz_lt_f rfl hs ?_
      refine ri_ev_go 2 (pc1 := 6) (L1 := [some (.int x1), some (.int 4)]) (st1 := [.int 4, .int x1]) (M1 := ri_M3) (c1 := 0) (s1 := 0) (fun n => rfl) ?_
      refine ri_ic_lt_f rfl ht ?_
      refine ri_ev_go 2 (pc1 := 14) (L1 := [some (.int x1), some (.int 4)]) (st1 := [.int 1]) (M1 := ri_M3) (c1 := 0) (s1 := 0) (fun n => rfl) ?_
      exact ri_ev_ret (fun n => rfl)
    refine ri_ev_call (N := 6) (L := [some (.ref 1), some (.int x1)]) rfl (Nat.le_of_ble_eq_true rfl) ?_
    refine ri_ev_go 2 (pc1 := 2) (L1 := [some (.ref 1), some (.int x1)]) (st1 := [.int 4, .int x1]) (M1 := ri_M3) (c1 := 0) (s1 := 0) (fun n => rfl) ?_
    refine ri_ev_cls (M1 := ri_M3) (v := some (.int 1)) _ rfl (Or.inl rfl) rfl (Nat.le_of_ble_eq_true rfl) hc1 ?_
    refine ri_ev_go 2 (pc1 := 27) (L1 := [some (.ref 1), some (.int x1)]) (st1 := [.int (-1)]) (M1 := ri_M3) (c1 := 0) (s1 := 0) (fun n => rfl) ?_
    exact ri_ev_ret (fun n => rfl)
  have hc4 : ri_c 19 278 [.ref 153, .int x1] ri_M3 = some (some (.int (-1)), ri_M3, 0, 0) := by
    have hc3 : ri_c 18 169 [.long (x1).toInt64, .long 0, .long 3] ri_M3 = some (some (.int 0), ri_M3, 0, 0) := by
      refine ri_ev_call (N := 10) (L := [some (.long (x1).toInt64), none, some (.long 0), none, some (.long 3), none]) rfl (Nat.le_of_ble_eq_true rfl) ?_
      refine ri_ev_go 3 (pc1 := 3) (L1 := [some (.long (x1).toInt64), none, some (.long 0), none, some (.long 3), none]) (st1 := [.int (lg_cmp (x1).toInt64 0)]) (M1 := ri_M3) (c1 := 0) (s1 := 0) (fun n => rfl) ?_
      refine ri_iz_lt_f rfl (fun q => hs ((ri_lc_lt (c := 0) rfl).mp q)) ?_
      refine ri_ev_go 3 (pc1 := 10) (L1 := [some (.long (x1).toInt64), none, some (.long 0), none, some (.long 3), none]) (st1 := [.int (lg_cmp (x1).toInt64 3)]) (M1 := ri_M3) (c1 := 0) (s1 := 0) (fun n => rfl) ?_
      refine ri_iz_gt_t (t := 17) rfl ((ri_lc_gt (c := 3) rfl).mpr (Int32.lt_of_lt_of_le (by decide) (Int32.not_lt.mp ht))) rfl ?_
      refine ri_ev_go 1 (pc1 := 18) (L1 := [some (.long (x1).toInt64), none, some (.long 0), none, some (.long 3), none]) (st1 := [.int 0]) (M1 := ri_M3) (c1 := 0) (s1 := 0) (fun n => rfl) ?_
      exact ri_ev_ret (fun n => rfl)
    refine ri_ev_call (N := 8) (L := [some (.ref 153), some (.int x1), none]) rfl (Nat.le_of_ble_eq_true rfl) ?_
    refine ri_ev_go 4 (pc1 := 6) (L1 := [some (.ref 153), some (.int x1), none]) (st1 := [.long 3, .long 0, .long (x1).toInt64]) (M1 := ri_M3) (c1 := 0) (s1 := 0) (fun n => rfl) ?_
    refine ri_ev_cls (M1 := ri_M3) (v := some (.int 0)) _ rfl (Or.inl rfl) rfl (Nat.le_of_ble_eq_true rfl) hc3 ?_
    refine ri_ev_go 2 (pc1 := 22) (L1 := [some (.ref 153), some (.int x1), none]) (st1 := [.int (-1)]) (M1 := ri_M3) (c1 := 0) (s1 := 0) (fun n => rfl) ?_
    exact ri_ev_ret (fun n => rfl)
  exact ⟨(-1), _, _, _, hc2, ri_M3_152, hc4⟩
theorem ro_back_b (x1 : Int32) (hs : ¬ x1 < 0) (ht : ¬ x1 < 4) : ri_eqi 141 278 [.int x1] := by
  exact ro_back_b_0 x1 hs ht 
