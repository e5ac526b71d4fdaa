section
/-! The methods as functions of the state, each with the proof that the interpreter runs so. -/
noncomputable def wX10_far (x1 : Int32) (x2 : Int32) (x3 : Int32) (x4 : Int32) (s : wS) : Option (Int64 × wS) := (wX10_lawInUse x1 s).bind fun (o1, s2) => Option.elim o1 (some ((-1000000000000), s2)) (fun k4 => (wX0_has 15 x2 x3 s2).bind fun t5 => if t5 = 0 then (some ((-1000000000000), s2)) else ((wX0_has 15 x2 x4 s2).bind fun t8 => if t8 = 0 then (some ((-1000000000000), s2)) else ((wX3_farOf k4 x2 x3 x4 s2).bind fun t11 => some (t11, s2))))
theorem wX10_far_s {x1 : Int32} {x2 : Int32} {x3 : Int32} {x4 : Int32} {s : wS} {rv : Int64} {rs : wS} (h : wX10_far x1 x2 x3 x4 s = some (rv, rs)) : gEv 7 108 [.ref 1, .int x1, .int x2, .int x3, .int x4] (wmk s) (some (.long rv), wmk rs, 0, 0) := by
  refine gEv_of (d := 6) (L := [some (.ref 1), some (.int x1), some (.int x2), some (.int x3), some (.int x4), none]) rfl ?_
  unfold wX10_far at h
  refine gR_go 2 (pc1 := 2) (L1 := [some (.ref 1), some (.int x1), some (.int x2), some (.int x3), some (.int x4), none]) (st1 := [.int x1, .ref 1]) (fun _ _ => rfl) ?_
  obtain ⟨⟨o1, s2⟩, e3, h⟩ := gb h
  dsimp only at h
  refine gR_cvR (wX10_lawInUse_s e3) (Nat.le_of_ble_eq_true rfl) rfl rfl rfl rfl rfl ?_
  refine gR_astq (L1 := [some (.ref 1), some (.int x1), some (.int x2), some (.int x3), some (.int x4), some (wrv o1)]) rfl rfl rfl ?_
  refine gR_aldq rfl rfl ?_
  rcases gel h with ⟨ek4, hh⟩ | ⟨k4, ek4, hh⟩
  · clear h
    subst ek4
    have h := hh
    clear hh
    refine gR_ifnull_n_j rfl rfl ?_
    refine gR_go 1 (pc1 := 46) (L1 := [some (.ref 1), some (.int x1), some (.int x2), some (.int x3), some (.int x4), some (.null)]) (st1 := [.long (-1000000000000)]) (fun _ _ => rfl) ?_
    obtain ⟨rfl, rfl⟩ := gi2 h
    exact gR_rl rfl rfl
  · clear h
    subst ek4
    have h := hh
    clear hh
    refine gR_ifnull_r_f rfl ?_
    refine gR_go 1 (pc1 := 13) (L1 := [some (.ref 1), some (.int x1), some (.int x2), some (.int x3), some (.int x4), some (.ref (k4 + 1))]) (st1 := [.ref 1]) (fun _ _ => rfl) ?_
    refine gR_gfR (k := 0) (k' := 14) rfl rfl rfl rfl ?_
    refine gR_gfR (k := 14) (k' := 15) rfl rfl rfl rfl ?_
    refine gR_go 2 (pc1 := 21) (L1 := [some (.ref 1), some (.int x1), some (.int x2), some (.int x3), some (.int x4), some (.ref (k4 + 1))]) (st1 := [.int x3, .int x2, .ref 16]) (fun _ _ => rfl) ?_
    obtain ⟨t5, e6, h⟩ := gb h
    refine gR_cvI (wX0_has_s rfl e6) (Nat.le_of_ble_eq_true rfl) rfl rfl rfl rfl rfl ?_
    rcases gif h with ⟨c7, h⟩ | ⟨c7, h⟩
    · refine gR_iz_eq_j rfl c7 rfl ?_
      refine gR_go 1 (pc1 := 46) (L1 := [some (.ref 1), some (.int x1), some (.int x2), some (.int x3), some (.int x4), some (.ref (k4 + 1))]) (st1 := [.long (-1000000000000)]) (fun _ _ => rfl) ?_
      obtain ⟨rfl, rfl⟩ := gi2 h
      exact gR_rl rfl rfl
    · refine gR_iz_eq_f rfl c7 ?_
      refine gR_go 1 (pc1 := 28) (L1 := [some (.ref 1), some (.int x1), some (.int x2), some (.int x3), some (.int x4), some (.ref (k4 + 1))]) (st1 := [.ref 1]) (fun _ _ => rfl) ?_
      refine gR_gfR (k := 0) (k' := 14) rfl rfl rfl rfl ?_
      refine gR_gfR (k := 14) (k' := 15) rfl rfl rfl rfl ?_
      refine gR_go 2 (pc1 := 37) (L1 := [some (.ref 1), some (.int x1), some (.int x2), some (.int x3), some (.int x4), some (.ref (k4 + 1))]) (st1 := [.int x4, .int x2, .ref 16]) (fun _ _ => rfl) ?_
      obtain ⟨t8, e9, h⟩ := gb h
      refine gR_cvI (wX0_has_s rfl e9) (Nat.le_of_ble_eq_true rfl) rfl rfl rfl rfl rfl ?_
      rcases gif h with ⟨c10, h⟩ | ⟨c10, h⟩
      · refine gR_iz_ne_f rfl c10 ?_
        refine gR_go 1 (pc1 := 46) (L1 := [some (.ref 1), some (.int x1), some (.int x2), some (.int x3), some (.int x4), some (.ref (k4 + 1))]) (st1 := [.long (-1000000000000)]) (fun _ _ => rfl) ?_
        obtain ⟨rfl, rfl⟩ := gi2 h
        exact gR_rl rfl rfl
      · refine gR_iz_ne_j rfl c10 rfl ?_
        refine gR_go 4 (pc1 := 53) (L1 := [some (.ref 1), some (.int x1), some (.int x2), some (.int x3), some (.int x4), some (.ref (k4 + 1))]) (st1 := [.int x4, .int x3, .int x2, .ref (k4 + 1)]) (fun _ _ => rfl) ?_
        obtain ⟨t11, e12, h⟩ := gb h
        refine gR_cvL (wX3_farOf_s (wX10_lawInUse_q e3) e12) (Nat.le_of_ble_eq_true rfl) rfl rfl (wX10_lawInUse_q e3) rfl rfl ?_
        obtain ⟨rfl, rfl⟩ := gi2 h
        exact gR_rl rfl rfl
noncomputable def wX10_answer (x1 : Int32) (x2 : Int32) (x3 : Int32) (x4 : Int32) (s : wS) : Option (Int32 × wS) := (wX10_isOutside x1 6 s).bind fun t1 => if t1 = 0 then ((wX2_mayStillGive 14 x1 s).bind fun t4 => if 0 < t4 then ((wX0_has 15 x2 x3 s).bind fun t7 => if t7 = 0 then (some ((-1), s)) else ((wX0_has 15 x2 x4 s).bind fun t10 => if t10 = 0 then (some ((-1), s)) else (if x3 = x4 then (some ((-1), s)) else ((wX2_takeDown 14 x1 x2 x3 x4 s).bind fun (t14, s15) => some (t14, s15))))) else (some ((-1), s))) else (some ((-1), s))
theorem wX10_answer_s {x1 : Int32} {x2 : Int32} {x3 : Int32} {x4 : Int32} {s : wS} {rv : Int32} {rs : wS} (h : wX10_answer x1 x2 x3 x4 s = some (rv, rs)) : gEv 3 109 [.ref 1, .int x1, .int x2, .int x3, .int x4] (wmk s) (some (.int rv), wmk rs, 0, 0) := by
  refine gEv_of (d := 2) (L := [some (.ref 1), some (.int x1), some (.int x2), some (.int x3), some (.int x4)]) rfl ?_
  unfold wX10_answer at h
  refine gR_go 2 (pc1 := 3) (L1 := [some (.ref 1), some (.int x1), some (.int x2), some (.int x3), some (.int x4)]) (st1 := [.int 6, .int x1]) (fun _ _ => rfl) ?_
  obtain ⟨t1, e2, h⟩ := gb h
  refine gR_csI (wX10_isOutside_s e2) (Nat.le_of_ble_eq_true rfl) rfl rfl rfl rfl ?_
  rcases gif h with ⟨c3, h⟩ | ⟨c3, h⟩
  · refine gR_iz_ne_f rfl c3 ?_
    refine gR_go 1 (pc1 := 10) (L1 := [some (.ref 1), some (.int x1), some (.int x2), some (.int x3), some (.int x4)]) (st1 := [.ref 1]) (fun _ _ => rfl) ?_
    refine gR_gfR (k := 0) (k' := 14) rfl rfl rfl rfl ?_
    refine gR_go 1 (pc1 := 14) (L1 := [some (.ref 1), some (.int x1), some (.int x2), some (.int x3), some (.int x4)]) (st1 := [.int x1, .ref 15]) (fun _ _ => rfl) ?_
    obtain ⟨t4, e5, h⟩ := gb h
    refine gR_cvI (wX2_mayStillGive_s rfl e5) (Nat.le_of_ble_eq_true rfl) rfl rfl rfl rfl rfl ?_
    rcases gif h with ⟨c6, h⟩ | ⟨c6, h⟩
    · refine gR_iz_gt_j rfl c6 rfl ?_
      refine gR_go 1 (pc1 := 23) (L1 := [some (.ref 1), some (.int x1), some (.int x2), some (.int x3), some (.int x4)]) (st1 := [.ref 1]) (fun _ _ => rfl) ?_
      refine gR_gfR (k := 0) (k' := 14) rfl rfl rfl rfl ?_
      refine gR_gfR (k := 14) (k' := 15) rfl rfl rfl rfl ?_
      refine gR_go 2 (pc1 := 31) (L1 := [some (.ref 1), some (.int x1), some (.int x2), some (.int x3), some (.int x4)]) (st1 := [.int x3, .int x2, .ref 16]) (fun _ _ => rfl) ?_
      obtain ⟨t7, e8, h⟩ := gb h
      refine gR_cvI (wX0_has_s rfl e8) (Nat.le_of_ble_eq_true rfl) rfl rfl rfl rfl rfl ?_
      rcases gif h with ⟨c9, h⟩ | ⟨c9, h⟩
      · refine gR_iz_eq_j rfl c9 rfl ?_
        refine gR_go 1 (pc1 := 60) (L1 := [some (.ref 1), some (.int x1), some (.int x2), some (.int x3), some (.int x4)]) (st1 := [.int (-1)]) (fun _ _ => rfl) ?_
        obtain ⟨rfl, rfl⟩ := gi2 h
        exact gR_ri rfl rfl
      · refine gR_iz_eq_f rfl c9 ?_
        refine gR_go 1 (pc1 := 38) (L1 := [some (.ref 1), some (.int x1), some (.int x2), some (.int x3), some (.int x4)]) (st1 := [.ref 1]) (fun _ _ => rfl) ?_
        refine gR_gfR (k := 0) (k' := 14) rfl rfl rfl rfl ?_
        refine gR_gfR (k := 14) (k' := 15) rfl rfl rfl rfl ?_
        refine gR_go 2 (pc1 := 47) (L1 := [some (.ref 1), some (.int x1), some (.int x2), some (.int x3), some (.int x4)]) (st1 := [.int x4, .int x2, .ref 16]) (fun _ _ => rfl) ?_
        obtain ⟨t10, e11, h⟩ := gb h
        refine gR_cvI (wX0_has_s rfl e11) (Nat.le_of_ble_eq_true rfl) rfl rfl rfl rfl rfl ?_
        rcases gif h with ⟨c12, h⟩ | ⟨c12, h⟩
        · refine gR_iz_eq_j rfl c12 rfl ?_
          refine gR_go 1 (pc1 := 60) (L1 := [some (.ref 1), some (.int x1), some (.int x2), some (.int x3), some (.int x4)]) (st1 := [.int (-1)]) (fun _ _ => rfl) ?_
          obtain ⟨rfl, rfl⟩ := gi2 h
          exact gR_ri rfl rfl
        · refine gR_iz_eq_f rfl c12 ?_
          refine gR_go 2 (pc1 := 56) (L1 := [some (.ref 1), some (.int x1), some (.int x2), some (.int x3), some (.int x4)]) (st1 := [.int x4, .int x3]) (fun _ _ => rfl) ?_
          rcases gif h with ⟨c13, h⟩ | ⟨c13, h⟩
          · refine gR_ic_ne_f rfl c13 ?_
            refine gR_go 1 (pc1 := 60) (L1 := [some (.ref 1), some (.int x1), some (.int x2), some (.int x3), some (.int x4)]) (st1 := [.int (-1)]) (fun _ _ => rfl) ?_
            obtain ⟨rfl, rfl⟩ := gi2 h
            exact gR_ri rfl rfl
          · refine gR_ic_ne_j rfl c13 rfl ?_
            refine gR_go 1 (pc1 := 62) (L1 := [some (.ref 1), some (.int x1), some (.int x2), some (.int x3), some (.int x4)]) (st1 := [.ref 1]) (fun _ _ => rfl) ?_
            refine gR_gfR (k := 0) (k' := 14) rfl rfl rfl rfl ?_
            refine gR_go 4 (pc1 := 70) (L1 := [some (.ref 1), some (.int x1), some (.int x2), some (.int x3), some (.int x4)]) (st1 := [.int x4, .int x3, .int x2, .int x1, .ref 15]) (fun _ _ => rfl) ?_
            obtain ⟨⟨t14, s15⟩, e16, h⟩ := gb h
            dsimp only at h
            refine gR_cvI (wX2_takeDown_s rfl e16) (Nat.le_of_ble_eq_true rfl) rfl rfl rfl rfl rfl ?_
            obtain ⟨rfl, rfl⟩ := gi2 h
            exact gR_ri rfl rfl
    · refine gR_iz_gt_f rfl c6 ?_
      refine gR_go 1 (pc1 := 21) (L1 := [some (.ref 1), some (.int x1), some (.int x2), some (.int x3), some (.int x4)]) (st1 := [.int (-1)]) (fun _ _ => rfl) ?_
      obtain ⟨rfl, rfl⟩ := gi2 h
      exact gR_ri rfl rfl
  · refine gR_iz_ne_j rfl c3 rfl ?_
    refine gR_go 1 (pc1 := 21) (L1 := [some (.ref 1), some (.int x1), some (.int x2), some (.int x3), some (.int x4)]) (st1 := [.int (-1)]) (fun _ _ => rfl) ?_
    obtain ⟨rfl, rfl⟩ := gi2 h
    exact gR_ri rfl rfl
noncomputable def wX10_answers (x1 : Int32) (x2 : Int32) (s : wS) : Option (Int32) := (wX2_hasAnswer 14 x1 s).bind fun t1 => if t1 = 0 then (some (-1)) else (if x2 = 0 then ((wX10_at 19 x1 s).bind fun t5 => some t5) else if x2 = 1 then ((wX10_at 20 x1 s).bind fun t8 => some t8) else if x2 = 2 then ((wX10_at 21 x1 s).bind fun t11 => some t11) else if x2 = 3 then ((wX10_at 22 x1 s).bind fun t14 => some t14) else if x2 = 4 then ((wX2_isStruck 14 x1 s).bind fun t17 => if t17 = 0 then (some 0) else (some 1)) else (some (-1)))
theorem wX10_answers_s {x1 : Int32} {x2 : Int32} {s : wS} {rv : Int32} (h : wX10_answers x1 x2 s = some rv) : gEv 3 110 [.ref 1, .int x1, .int x2] (wmk s) (some (.int rv), wmk s, 0, 0) := by
  refine gEv_of (d := 2) (L := [some (.ref 1), some (.int x1), some (.int x2)]) rfl ?_
  unfold wX10_answers at h
  refine gR_go 1 (pc1 := 1) (L1 := [some (.ref 1), some (.int x1), some (.int x2)]) (st1 := [.ref 1]) (fun _ _ => rfl) ?_
  refine gR_gfR (k := 0) (k' := 14) rfl rfl rfl rfl ?_
  refine gR_go 1 (pc1 := 5) (L1 := [some (.ref 1), some (.int x1), some (.int x2)]) (st1 := [.int x1, .ref 15]) (fun _ _ => rfl) ?_
  obtain ⟨t1, e2, h⟩ := gb h
  refine gR_cvI (wX2_hasAnswer_s rfl e2) (Nat.le_of_ble_eq_true rfl) rfl rfl rfl rfl rfl ?_
  rcases gif h with ⟨c3, h⟩ | ⟨c3, h⟩
  · refine gR_iz_ne_f rfl c3 ?_
    refine gR_go 1 (pc1 := 12) (L1 := [some (.ref 1), some (.int x1), some (.int x2)]) (st1 := [.int (-1)]) (fun _ _ => rfl) ?_
    obtain rfl := gi1 h
    exact gR_ri rfl rfl
  · refine gR_iz_ne_j rfl c3 rfl ?_
    refine gR_go 1 (pc1 := 14) (L1 := [some (.ref 1), some (.int x1), some (.int x2)]) (st1 := [.int x2]) (fun _ _ => rfl) ?_
    rcases gif h with ⟨c4, h⟩ | ⟨c4, h⟩
    · refine gR_sw_k rfl c4 rfl rfl ?_
      refine gR_go 1 (pc1 := 49) (L1 := [some (.ref 1), some (.int x1), some (.int x2)]) (st1 := [.ref 1]) (fun _ _ => rfl) ?_
      refine gR_gfR (k := 0) (k' := 14) rfl rfl rfl rfl ?_
      refine gR_gfR (k := 14) (k' := 19) rfl rfl rfl rfl ?_
      refine gR_go 1 (pc1 := 56) (L1 := [some (.ref 1), some (.int x1), some (.int x2)]) (st1 := [.int x1, .ref 20]) (fun _ _ => rfl) ?_
      obtain ⟨t5, e6, h⟩ := gb h
      refine gR_csI (wX10_at_s rfl e6) (Nat.le_of_ble_eq_true rfl) rfl rfl rfl rfl ?_
      obtain rfl := gi1 h
      exact gR_ri rfl rfl
    · rcases gif h with ⟨c7, h⟩ | ⟨c7, h⟩
      · refine gR_sw_k rfl c7 rfl rfl ?_
        refine gR_go 1 (pc1 := 61) (L1 := [some (.ref 1), some (.int x1), some (.int x2)]) (st1 := [.ref 1]) (fun _ _ => rfl) ?_
        refine gR_gfR (k := 0) (k' := 14) rfl rfl rfl rfl ?_
        refine gR_gfR (k := 14) (k' := 20) rfl rfl rfl rfl ?_
        refine gR_go 1 (pc1 := 68) (L1 := [some (.ref 1), some (.int x1), some (.int x2)]) (st1 := [.int x1, .ref 21]) (fun _ _ => rfl) ?_
        obtain ⟨t8, e9, h⟩ := gb h
        refine gR_csI (wX10_at_s rfl e9) (Nat.le_of_ble_eq_true rfl) rfl rfl rfl rfl ?_
        obtain rfl := gi1 h
        exact gR_ri rfl rfl
      · rcases gif h with ⟨c10, h⟩ | ⟨c10, h⟩
        · refine gR_sw_k rfl c10 rfl rfl ?_
          refine gR_go 1 (pc1 := 73) (L1 := [some (.ref 1), some (.int x1), some (.int x2)]) (st1 := [.ref 1]) (fun _ _ => rfl) ?_
          refine gR_gfR (k := 0) (k' := 14) rfl rfl rfl rfl ?_
          refine gR_gfR (k := 14) (k' := 21) rfl rfl rfl rfl ?_
          refine gR_go 1 (pc1 := 80) (L1 := [some (.ref 1), some (.int x1), some (.int x2)]) (st1 := [.int x1, .ref 22]) (fun _ _ => rfl) ?_
          obtain ⟨t11, e12, h⟩ := gb h
          refine gR_csI (wX10_at_s rfl e12) (Nat.le_of_ble_eq_true rfl) rfl rfl rfl rfl ?_
          obtain rfl := gi1 h
          exact gR_ri rfl rfl
        · rcases gif h with ⟨c13, h⟩ | ⟨c13, h⟩
          · refine gR_sw_k rfl c13 rfl rfl ?_
            refine gR_go 1 (pc1 := 85) (L1 := [some (.ref 1), some (.int x1), some (.int x2)]) (st1 := [.ref 1]) (fun _ _ => rfl) ?_
            refine gR_gfR (k := 0) (k' := 14) rfl rfl rfl rfl ?_
            refine gR_gfR (k := 14) (k' := 22) rfl rfl rfl rfl ?_
            refine gR_go 1 (pc1 := 92) (L1 := [some (.ref 1), some (.int x1), some (.int x2)]) (st1 := [.int x1, .ref 23]) (fun _ _ => rfl) ?_
            obtain ⟨t14, e15, h⟩ := gb h
            refine gR_csI (wX10_at_s rfl e15) (Nat.le_of_ble_eq_true rfl) rfl rfl rfl rfl ?_
            obtain rfl := gi1 h
            exact gR_ri rfl rfl
          · rcases gif h with ⟨c16, h⟩ | ⟨c16, h⟩
            · refine gR_sw_k rfl c16 rfl rfl ?_
              refine gR_go 1 (pc1 := 97) (L1 := [some (.ref 1), some (.int x1), some (.int x2)]) (st1 := [.ref 1]) (fun _ _ => rfl) ?_
              refine gR_gfR (k := 0) (k' := 14) rfl rfl rfl rfl ?_
              refine gR_go 1 (pc1 := 101) (L1 := [some (.ref 1), some (.int x1), some (.int x2)]) (st1 := [.int x1, .ref 15]) (fun _ _ => rfl) ?_
              obtain ⟨t17, e18, h⟩ := gb h
              refine gR_cvI (wX2_isStruck_s rfl e18) (Nat.le_of_ble_eq_true rfl) rfl rfl rfl rfl rfl ?_
              rcases gif h with ⟨c19, h⟩ | ⟨c19, h⟩
              · refine gR_iz_eq_j rfl c19 rfl ?_
                refine gR_go 1 (pc1 := 112) (L1 := [some (.ref 1), some (.int x1), some (.int x2)]) (st1 := [.int 0]) (fun _ _ => rfl) ?_
                obtain rfl := gi1 h
                exact gR_ri rfl rfl
              · refine gR_iz_eq_f rfl c19 ?_
                refine gR_go 2 (pc1 := 112) (L1 := [some (.ref 1), some (.int x1), some (.int x2)]) (st1 := [.int 1]) (fun _ _ => rfl) ?_
                obtain rfl := gi1 h
                exact gR_ri rfl rfl
            · refine gR_sw_d [0, 1, 2, 3, 4] rfl (gl1 c4 (gl1 c7 (gl1 c10 (gl1 c13 (gl1 c16 gl0))))) (by decide) (by decide) rfl ?_
              refine gR_go 1 (pc1 := 114) (L1 := [some (.ref 1), some (.int x1), some (.int x2)]) (st1 := [.int (-1)]) (fun _ _ => rfl) ?_
              obtain rfl := gi1 h
              exact gR_ri rfl rfl
noncomputable def wX10_strike (x1 : Int32) (x2 : Int32) (s : wS) : Option (Int32 × wS) := (wX2_hasAnswer 14 x1 s).bind fun t1 => if t1 = 0 then (some (0, s)) else ((wX2_isStruck 14 x1 s).bind fun t4 => if t4 = x2 then (some (0, s)) else ((wX2_setStruck 14 x1 x2 s).bind fun s8 => some (1, s8)))
theorem wX10_strike_s {x1 : Int32} {x2 : Int32} {s : wS} {rv : Int32} {rs : wS} (h : wX10_strike x1 x2 s = some (rv, rs)) : gEv 3 111 [.ref 1, .int x1, .int x2] (wmk s) (some (.int rv), wmk rs, 0, 0) := by
  refine gEv_of (d := 2) (L := [some (.ref 1), some (.int x1), some (.int x2)]) rfl ?_
  unfold wX10_strike at h
  refine gR_go 1 (pc1 := 1) (L1 := [some (.ref 1), some (.int x1), some (.int x2)]) (st1 := [.ref 1]) (fun _ _ => rfl) ?_
  refine gR_gfR (k := 0) (k' := 14) rfl rfl rfl rfl ?_
  refine gR_go 1 (pc1 := 5) (L1 := [some (.ref 1), some (.int x1), some (.int x2)]) (st1 := [.int x1, .ref 15]) (fun _ _ => rfl) ?_
  obtain ⟨t1, e2, h⟩ := gb h
  refine gR_cvI (wX2_hasAnswer_s rfl e2) (Nat.le_of_ble_eq_true rfl) rfl rfl rfl rfl rfl ?_
  rcases gif h with ⟨c3, h⟩ | ⟨c3, h⟩
  · refine gR_iz_eq_j rfl c3 rfl ?_
    refine gR_go 1 (pc1 := 24) (L1 := [some (.ref 1), some (.int x1), some (.int x2)]) (st1 := [.int 0]) (fun _ _ => rfl) ?_
    obtain ⟨rfl, rfl⟩ := gi2 h
    exact gR_rzc rfl rfl rfl
  · refine gR_iz_eq_f rfl c3 ?_
    refine gR_go 1 (pc1 := 12) (L1 := [some (.ref 1), some (.int x1), some (.int x2)]) (st1 := [.ref 1]) (fun _ _ => rfl) ?_
    refine gR_gfR (k := 0) (k' := 14) rfl rfl rfl rfl ?_
    refine gR_go 1 (pc1 := 16) (L1 := [some (.ref 1), some (.int x1), some (.int x2)]) (st1 := [.int x1, .ref 15]) (fun _ _ => rfl) ?_
    obtain ⟨t4, e5, h⟩ := gb h
    refine gR_cvI (wX2_isStruck_s rfl e5) (Nat.le_of_ble_eq_true rfl) rfl rfl rfl rfl rfl ?_
    refine gR_go 1 (pc1 := 20) (L1 := [some (.ref 1), some (.int x1), some (.int x2)]) (st1 := [.int x2, .int t4]) (fun _ _ => rfl) ?_
    rcases gif h with ⟨c6, h⟩ | ⟨c6, h⟩
    · refine gR_ic_ne_f rfl c6 ?_
      refine gR_go 1 (pc1 := 24) (L1 := [some (.ref 1), some (.int x1), some (.int x2)]) (st1 := [.int 0]) (fun _ _ => rfl) ?_
      obtain ⟨rfl, rfl⟩ := gi2 h
      exact gR_rzc rfl rfl rfl
    · refine gR_ic_ne_j rfl c6 rfl ?_
      refine gR_go 1 (pc1 := 26) (L1 := [some (.ref 1), some (.int x1), some (.int x2)]) (st1 := [.ref 1]) (fun _ _ => rfl) ?_
      refine gR_gfR (k := 0) (k' := 14) rfl rfl rfl rfl ?_
      refine gR_go 2 (pc1 := 31) (L1 := [some (.ref 1), some (.int x1), some (.int x2)]) (st1 := [.int x2, .int x1, .ref 15]) (fun _ _ => rfl) ?_
      obtain ⟨s8, e9, h⟩ := gb h
      refine gR_cvV (wX2_setStruck_s rfl e9) (Nat.le_of_ble_eq_true rfl) rfl rfl rfl rfl rfl ?_
      refine gR_go 1 (pc1 := 35) (L1 := [some (.ref 1), some (.int x1), some (.int x2)]) (st1 := [.int 1]) (fun _ _ => rfl) ?_
      obtain ⟨rfl, rfl⟩ := gi2 h
      exact gR_rzc rfl rfl rfl
noncomputable def wX10_only (x1 : Int32) (s : wS) : Option (Int32 × wS) := if x1 < (-1) then (some (((Int8.ofInt (-2)).toInt32), s)) else (if 40 < x1 then (some (((Int8.ofInt (-2)).toInt32), s)) else ((wpfI s 14 7 x1).bind fun s3 => some ((s.1 14 7), s3)))
theorem wX10_only_s {x1 : Int32} {s : wS} {rv : Int32} {rs : wS} (h : wX10_only x1 s = some (rv, rs)) : gEv 1 112 [.ref 1, .int x1] (wmk s) (some (.int rv), wmk rs, 0, 0) := by
  refine gEv_of (d := 0) (L := [some (.ref 1), some (.int x1), none]) rfl ?_
  unfold wX10_only at h
  refine gR_go 2 (pc1 := 2) (L1 := [some (.ref 1), some (.int x1), none]) (st1 := [.int (-1), .int x1]) (fun _ _ => rfl) ?_
  rcases gif h with ⟨c1, h⟩ | ⟨c1, h⟩
  · refine gR_ic_lt_j rfl c1 rfl ?_
    refine gR_go 1 (pc1 := 13) (L1 := [some (.ref 1), some (.int x1), none]) (st1 := [.int ((Int8.ofInt (-2)).toInt32)]) (fun _ _ => rfl) ?_
    obtain ⟨rfl, rfl⟩ := gi2 h
    exact gR_ri rfl rfl
  · refine gR_ic_lt_f rfl c1 ?_
    refine gR_go 2 (pc1 := 8) (L1 := [some (.ref 1), some (.int x1), none]) (st1 := [.int 40, .int x1]) (fun _ _ => rfl) ?_
    rcases gif h with ⟨c2, h⟩ | ⟨c2, h⟩
    · refine gR_ic_le_f rfl c2 ?_
      refine gR_go 1 (pc1 := 13) (L1 := [some (.ref 1), some (.int x1), none]) (st1 := [.int ((Int8.ofInt (-2)).toInt32)]) (fun _ _ => rfl) ?_
      obtain ⟨rfl, rfl⟩ := gi2 h
      exact gR_ri rfl rfl
    · refine gR_ic_le_j rfl c2 rfl ?_
      refine gR_go 1 (pc1 := 15) (L1 := [some (.ref 1), some (.int x1), none]) (st1 := [.ref 1]) (fun _ _ => rfl) ?_
      refine gR_gfR (k := 0) (k' := 14) rfl rfl rfl rfl ?_
      refine gR_gfI (k := 14) rfl rfl rfl ?_
      refine gR_go 2 (pc1 := 23) (L1 := [some (.ref 1), some (.int x1), some (.int (s.1 14 7))]) (st1 := [.ref 1]) (fun _ _ => rfl) ?_
      refine gR_gfR (k := 0) (k' := 14) rfl rfl rfl rfl ?_
      refine gR_go 1 (pc1 := 27) (L1 := [some (.ref 1), some (.int x1), some (.int (s.1 14 7))]) (st1 := [.int x1, .ref 15]) (fun _ _ => rfl) ?_
      obtain ⟨s3, es3, h⟩ := gb h
      refine gR_pfI (k := 14) rfl rfl rfl rfl es3 ?_
      refine gR_go 1 (pc1 := 31) (L1 := [some (.ref 1), some (.int x1), some (.int (s.1 14 7))]) (st1 := [.int (s.1 14 7)]) (fun _ _ => rfl) ?_
      obtain ⟨rfl, rfl⟩ := gi2 h
      exact gR_ri rfl rfl
noncomputable def wX10_spare (x1 : Int32) (s : wS) : Option (Int32) := (wX10_isOutside x1 6 s).bind fun t1 => if t1 = 0 then ((wX2_mayStillGive 14 x1 s).bind fun t4 => some t4) else (some (-1))
theorem wX10_spare_s {x1 : Int32} {s : wS} {rv : Int32} (h : wX10_spare x1 s = some rv) : gEv 3 113 [.ref 1, .int x1] (wmk s) (some (.int rv), wmk s, 0, 0) := by
  refine gEv_of (d := 2) (L := [some (.ref 1), some (.int x1)]) rfl ?_
  unfold wX10_spare at h
  refine gR_go 2 (pc1 := 3) (L1 := [some (.ref 1), some (.int x1)]) (st1 := [.int 6, .int x1]) (fun _ _ => rfl) ?_
  obtain ⟨t1, e2, h⟩ := gb h
  refine gR_csI (wX10_isOutside_s e2) (Nat.le_of_ble_eq_true rfl) rfl rfl rfl rfl ?_
  rcases gif h with ⟨c3, h⟩ | ⟨c3, h⟩
  · refine gR_iz_eq_j rfl c3 rfl ?_
    refine gR_go 1 (pc1 := 14) (L1 := [some (.ref 1), some (.int x1)]) (st1 := [.ref 1]) (fun _ _ => rfl) ?_
    refine gR_gfR (k := 0) (k' := 14) rfl rfl rfl rfl ?_
    refine gR_go 1 (pc1 := 18) (L1 := [some (.ref 1), some (.int x1)]) (st1 := [.int x1, .ref 15]) (fun _ _ => rfl) ?_
    obtain ⟨t4, e5, h⟩ := gb h
    refine gR_cvI (wX2_mayStillGive_s rfl e5) (Nat.le_of_ble_eq_true rfl) rfl rfl rfl rfl rfl ?_
    obtain rfl := gi1 h
    exact gR_ri rfl rfl
  · refine gR_iz_eq_f rfl c3 ?_
    refine gR_go 2 (pc1 := 21) (L1 := [some (.ref 1), some (.int x1)]) (st1 := [.int (-1)]) (fun _ _ => rfl) ?_
    obtain rfl := gi1 h
    exact gR_ri rfl rfl
noncomputable def wX10_nearThings (k1 : Nat) (x2 : Int32) (s : wS) : Option (Int32) := (wX10_at 20 x2 s).bind fun t1 => (wX10_at 21 x2 s).bind fun t3 => (wX10_at 22 x2 s).bind fun t5 => (wX3_nearOf k1 t1 t3 t5 s).bind fun t7 => some t7
theorem wX10_nearThings_s {k1 : Nat} {x2 : Int32} {s : wS} {rv : Int32} (hk1 : wkd k1 = 3) (h : wX10_nearThings k1 x2 s = some rv) : gEv 4 152 [.ref 1, .ref (k1 + 1), .int x2] (wmk s) (some (.int rv), wmk s, 0, 0) := by
  refine gEv_of (d := 3) (L := [some (.ref 1), some (.ref (k1 + 1)), some (.int x2)]) rfl ?_
  unfold wX10_nearThings at h
  refine gR_go 2 (pc1 := 2) (L1 := [some (.ref 1), some (.ref (k1 + 1)), some (.int x2)]) (st1 := [.ref 1, .ref (k1 + 1)]) (fun _ _ => rfl) ?_
  refine gR_gfR (k := 0) (k' := 14) rfl rfl rfl rfl ?_
  refine gR_gfR (k := 14) (k' := 20) rfl rfl rfl rfl ?_
  refine gR_go 1 (pc1 := 9) (L1 := [some (.ref 1), some (.ref (k1 + 1)), some (.int x2)]) (st1 := [.int x2, .ref 21, .ref (k1 + 1)]) (fun _ _ => rfl) ?_
  obtain ⟨t1, e2, h⟩ := gb h
  refine gR_csI (wX10_at_s rfl e2) (Nat.le_of_ble_eq_true rfl) rfl rfl rfl rfl ?_
  refine gR_go 1 (pc1 := 13) (L1 := [some (.ref 1), some (.ref (k1 + 1)), some (.int x2)]) (st1 := [.ref 1, .int t1, .ref (k1 + 1)]) (fun _ _ => rfl) ?_
  refine gR_gfR (k := 0) (k' := 14) rfl rfl rfl rfl ?_
  refine gR_gfR (k := 14) (k' := 21) rfl rfl rfl rfl ?_
  refine gR_go 1 (pc1 := 20) (L1 := [some (.ref 1), some (.ref (k1 + 1)), some (.int x2)]) (st1 := [.int x2, .ref 22, .int t1, .ref (k1 + 1)]) (fun _ _ => rfl) ?_
  obtain ⟨t3, e4, h⟩ := gb h
  refine gR_csI (wX10_at_s rfl e4) (Nat.le_of_ble_eq_true rfl) rfl rfl rfl rfl ?_
  refine gR_go 1 (pc1 := 24) (L1 := [some (.ref 1), some (.ref (k1 + 1)), some (.int x2)]) (st1 := [.ref 1, .int t3, .int t1, .ref (k1 + 1)]) (fun _ _ => rfl) ?_
  refine gR_gfR (k := 0) (k' := 14) rfl rfl rfl rfl ?_
  refine gR_gfR (k := 14) (k' := 22) rfl rfl rfl rfl ?_
  refine gR_go 1 (pc1 := 31) (L1 := [some (.ref 1), some (.ref (k1 + 1)), some (.int x2)]) (st1 := [.int x2, .ref 23, .int t3, .int t1, .ref (k1 + 1)]) (fun _ _ => rfl) ?_
  obtain ⟨t5, e6, h⟩ := gb h
  refine gR_csI (wX10_at_s rfl e6) (Nat.le_of_ble_eq_true rfl) rfl rfl rfl rfl ?_
  obtain ⟨t7, e8, h⟩ := gb h
  refine gR_cvI (wX3_nearOf_s hk1 e8) (Nat.le_of_ble_eq_true rfl) rfl rfl hk1 rfl rfl ?_
  obtain rfl := gi1 h
  exact gR_ri rfl rfl
noncomputable def wX10_isTrue (k1 : Nat) (x2 : Int32) (x3 : Int32) (s : wS) : Option (Int32) := (wX10_at 20 x2 s).bind fun t1 => (wX0_thingIn 15 x3 t1 s).bind fun t3 => (wX10_nearThings k1 x2 s).bind fun t5 => if ((t5 >>> (t3 &&& 31)) &&& 1) = 1 then (some 1) else (some 0)
theorem wX10_isTrue_s {k1 : Nat} {x2 : Int32} {x3 : Int32} {s : wS} {rv : Int32} (hk1 : wkd k1 = 3) (h : wX10_isTrue k1 x2 x3 s = some rv) : gEv 5 154 [.ref 1, .ref (k1 + 1), .int x2, .int x3] (wmk s) (some (.int rv), wmk s, 0, 0) := by
  refine gEv_of (d := 4) (L := [some (.ref 1), some (.ref (k1 + 1)), some (.int x2), some (.int x3), none]) rfl ?_
  unfold wX10_isTrue at h
  refine gR_go 1 (pc1 := 1) (L1 := [some (.ref 1), some (.ref (k1 + 1)), some (.int x2), some (.int x3), none]) (st1 := [.ref 1]) (fun _ _ => rfl) ?_
  refine gR_gfR (k := 0) (k' := 14) rfl rfl rfl rfl ?_
  refine gR_gfR (k := 14) (k' := 15) rfl rfl rfl rfl ?_
  refine gR_go 2 (pc1 := 9) (L1 := [some (.ref 1), some (.ref (k1 + 1)), some (.int x2), some (.int x3), none]) (st1 := [.ref 1, .int x3, .ref 16]) (fun _ _ => rfl) ?_
  refine gR_gfR (k := 0) (k' := 14) rfl rfl rfl rfl ?_
  refine gR_gfR (k := 14) (k' := 20) rfl rfl rfl rfl ?_
  refine gR_go 1 (pc1 := 16) (L1 := [some (.ref 1), some (.ref (k1 + 1)), some (.int x2), some (.int x3), none]) (st1 := [.int x2, .ref 21, .int x3, .ref 16]) (fun _ _ => rfl) ?_
  obtain ⟨t1, e2, h⟩ := gb h
  refine gR_csI (wX10_at_s rfl e2) (Nat.le_of_ble_eq_true rfl) rfl rfl rfl rfl ?_
  obtain ⟨t3, e4, h⟩ := gb h
  refine gR_cvI (wX0_thingIn_s rfl e4) (Nat.le_of_ble_eq_true rfl) rfl rfl rfl rfl rfl ?_
  refine gR_go 4 (pc1 := 27) (L1 := [some (.ref 1), some (.ref (k1 + 1)), some (.int x2), some (.int x3), some (.int t3)]) (st1 := [.int x2, .ref (k1 + 1), .ref 1]) (fun _ _ => rfl) ?_
  obtain ⟨t5, e6, h⟩ := gb h
  refine gR_cvI (wX10_nearThings_s hk1 e6) (Nat.le_of_ble_eq_true rfl) rfl rfl rfl rfl rfl ?_
  refine gR_go 5 (pc1 := 36) (L1 := [some (.ref 1), some (.ref (k1 + 1)), some (.int x2), some (.int x3), some (.int t3)]) (st1 := [.int 1, .int ((t5 >>> (t3 &&& 31)) &&& 1)]) (fun _ _ => rfl) ?_
  rcases gif h with ⟨c7, h⟩ | ⟨c7, h⟩
  · refine gR_ic_ne_f rfl c7 ?_
    refine gR_go 2 (pc1 := 44) (L1 := [some (.ref 1), some (.ref (k1 + 1)), some (.int x2), some (.int x3), some (.int t3)]) (st1 := [.int 1]) (fun _ _ => rfl) ?_
    obtain rfl := gi1 h
    exact gR_rzc rfl rfl rfl
  · refine gR_ic_ne_j rfl c7 rfl ?_
    refine gR_go 1 (pc1 := 44) (L1 := [some (.ref 1), some (.ref (k1 + 1)), some (.int x2), some (.int x3), some (.int t3)]) (st1 := [.int 0]) (fun _ _ => rfl) ?_
    obtain rfl := gi1 h
    exact gR_rzc rfl rfl rfl
noncomputable def wX10_holds (x1 : Int32) (x2 : Int32) (x3 : Int32) (s : wS) : Option (Int32 × wS) := (wX10_lawInUse x1 s).bind fun (o1, s2) => Option.elim o1 (some ((-1), s2)) (fun k4 => (wX2_hasAnswer 14 x2 s2).bind fun t5 => if t5 = 0 then (some ((-1), s2)) else ((wX0_worlds 15 s2).bind fun t8 => (wX10_isOutside x3 t8 s2).bind fun t10 => if t10 = 0 then ((wX10_isTrue k4 x2 x3 s2).bind fun t13 => if t13 = 0 then (some (0, s2)) else (some (1, s2))) else (some ((-1), s2))))
theorem wX10_holds_s {x1 : Int32} {x2 : Int32} {x3 : Int32} {s : wS} {rv : Int32} {rs : wS} (h : wX10_holds x1 x2 x3 s = some (rv, rs)) : gEv 7 114 [.ref 1, .int x1, .int x2, .int x3] (wmk s) (some (.int rv), wmk rs, 0, 0) := by
  refine gEv_of (d := 6) (L := [some (.ref 1), some (.int x1), some (.int x2), some (.int x3), none]) rfl ?_
  unfold wX10_holds at h
  refine gR_go 2 (pc1 := 2) (L1 := [some (.ref 1), some (.int x1), some (.int x2), some (.int x3), none]) (st1 := [.int x1, .ref 1]) (fun _ _ => rfl) ?_
  obtain ⟨⟨o1, s2⟩, e3, h⟩ := gb h
  dsimp only at h
  refine gR_cvR (wX10_lawInUse_s e3) (Nat.le_of_ble_eq_true rfl) rfl rfl rfl rfl rfl ?_
  refine gR_astq (L1 := [some (.ref 1), some (.int x1), some (.int x2), some (.int x3), some (wrv o1)]) rfl rfl rfl ?_
  refine gR_aldq rfl rfl ?_
  rcases gel h with ⟨ek4, hh⟩ | ⟨k4, ek4, hh⟩
  · clear h
    subst ek4
    have h := hh
    clear hh
    refine gR_ifnull_n_j rfl rfl ?_
    refine gR_go 1 (pc1 := 41) (L1 := [some (.ref 1), some (.int x1), some (.int x2), some (.int x3), some (.null)]) (st1 := [.int (-1)]) (fun _ _ => rfl) ?_
    obtain ⟨rfl, rfl⟩ := gi2 h
    exact gR_ri rfl rfl
  · clear h
    subst ek4
    have h := hh
    clear hh
    refine gR_ifnull_r_f rfl ?_
    refine gR_go 1 (pc1 := 13) (L1 := [some (.ref 1), some (.int x1), some (.int x2), some (.int x3), some (.ref (k4 + 1))]) (st1 := [.ref 1]) (fun _ _ => rfl) ?_
    refine gR_gfR (k := 0) (k' := 14) rfl rfl rfl rfl ?_
    refine gR_go 1 (pc1 := 17) (L1 := [some (.ref 1), some (.int x1), some (.int x2), some (.int x3), some (.ref (k4 + 1))]) (st1 := [.int x2, .ref 15]) (fun _ _ => rfl) ?_
    obtain ⟨t5, e6, h⟩ := gb h
    refine gR_cvI (wX2_hasAnswer_s rfl e6) (Nat.le_of_ble_eq_true rfl) rfl rfl rfl rfl rfl ?_
    rcases gif h with ⟨c7, h⟩ | ⟨c7, h⟩
    · refine gR_iz_eq_j rfl c7 rfl ?_
      refine gR_go 1 (pc1 := 41) (L1 := [some (.ref 1), some (.int x1), some (.int x2), some (.int x3), some (.ref (k4 + 1))]) (st1 := [.int (-1)]) (fun _ _ => rfl) ?_
      obtain ⟨rfl, rfl⟩ := gi2 h
      exact gR_ri rfl rfl
    · refine gR_iz_eq_f rfl c7 ?_
      refine gR_go 2 (pc1 := 25) (L1 := [some (.ref 1), some (.int x1), some (.int x2), some (.int x3), some (.ref (k4 + 1))]) (st1 := [.ref 1, .int x3]) (fun _ _ => rfl) ?_
      refine gR_gfR (k := 0) (k' := 14) rfl rfl rfl rfl ?_
      refine gR_gfR (k := 14) (k' := 15) rfl rfl rfl rfl ?_
      obtain ⟨t8, e9, h⟩ := gb h
      refine gR_cvI (wX0_worlds_s rfl e9) (Nat.le_of_ble_eq_true rfl) rfl rfl rfl rfl rfl ?_
      obtain ⟨t10, e11, h⟩ := gb h
      refine gR_csI (wX10_isOutside_s e11) (Nat.le_of_ble_eq_true rfl) rfl rfl rfl rfl ?_
      rcases gif h with ⟨c12, h⟩ | ⟨c12, h⟩
      · refine gR_iz_eq_j rfl c12 rfl ?_
        refine gR_go 4 (pc1 := 47) (L1 := [some (.ref 1), some (.int x1), some (.int x2), some (.int x3), some (.ref (k4 + 1))]) (st1 := [.int x3, .int x2, .ref (k4 + 1), .ref 1]) (fun _ _ => rfl) ?_
        obtain ⟨t13, e14, h⟩ := gb h
        refine gR_cvI (wX10_isTrue_s (wX10_lawInUse_q e3) e14) (Nat.le_of_ble_eq_true rfl) rfl rfl rfl rfl rfl ?_
        rcases gif h with ⟨c15, h⟩ | ⟨c15, h⟩
        · refine gR_iz_eq_j rfl c15 rfl ?_
          refine gR_go 1 (pc1 := 58) (L1 := [some (.ref 1), some (.int x1), some (.int x2), some (.int x3), some (.ref (k4 + 1))]) (st1 := [.int 0]) (fun _ _ => rfl) ?_
          obtain ⟨rfl, rfl⟩ := gi2 h
          exact gR_ri rfl rfl
        · refine gR_iz_eq_f rfl c15 ?_
          refine gR_go 2 (pc1 := 58) (L1 := [some (.ref 1), some (.int x1), some (.int x2), some (.int x3), some (.ref (k4 + 1))]) (st1 := [.int 1]) (fun _ _ => rfl) ?_
          obtain ⟨rfl, rfl⟩ := gi2 h
          exact gR_ri rfl rfl
      · refine gR_iz_eq_f rfl c12 ?_
        refine gR_go 1 (pc1 := 41) (L1 := [some (.ref 1), some (.int x1), some (.int x2), some (.int x3), some (.ref (k4 + 1))]) (st1 := [.int (-1)]) (fun _ _ => rfl) ?_
        obtain ⟨rfl, rfl⟩ := gi2 h
        exact gR_ri rfl rfl
noncomputable def wX10_addFalse_j51 (qq : Int32 → wS → Option (wS)) (x1 : Int32) (x2 : Int32) (x3 : Int32) (s : wS) : Option (wS) := qq (x3 + 1) s
theorem wX10_addFalse_u51 {x1 : Int32} {x2 : Int32} {x3 : Int32} {s : wS} {qq : Int32 → wS → Option (wS)} {x : wS} {r : ri_R} (ih : ∀ {x3 : Int32} {s : wS} , qq x3 s = some x → gRun 2 157 2 [some (.ref 1), some (.int x1), some (.int x2), some (.int x3)] [] (wmk s) r) (he57 : ∀ (s : wS) (w1 : Int32) (w2 : Int32) (w3 : Int32) , x = s → gRun 2 157 57 [some (.ref 1), some (.int w1), some (.int w2), some (.int w3)] [] (wmk s) r) (h : wX10_addFalse_j51 qq x1 x2 x3 s = some x) : gRun 2 157 51 [some (.ref 1), some (.int x1), some (.int x2), some (.int x3)] [] (wmk s) r := by
  unfold wX10_addFalse_j51 at h
  refine gR_go 2 (pc1 := 2) (L1 := [some (.ref 1), some (.int x1), some (.int x2), some (.int (x3 + 1))]) (st1 := []) (fun _ _ => rfl) ?_
  exact ih h
noncomputable def wX10_addFalse_h2 (x1 : Int32) (x2 : Int32) : Nat → Int32 → wS → Option (wS)
  | 0, _, _ => none
  | n + 1, x3, s => (wX0_manyOf 15 x1 s).bind fun t1 => if x3 < t1 then (if ((x2 >>> (x3 &&& 31)) &&& 1) = 0 then ((wX10_slot x1 x3 s).bind fun t5 => (wX10_slot x1 x3 s).bind fun t7 => (wX10_at 32 t7 s).bind fun t9 => (wX10_set 32 t5 (t9 + 1) s).bind fun s12 => wX10_addFalse_j51 (wX10_addFalse_h2 x1 x2 n) x1 x2 x3 s12) else (wX10_addFalse_j51 (wX10_addFalse_h2 x1 x2 n) x1 x2 x3 s)) else (some s)
theorem wX10_addFalse_t2 {x1 : Int32} {x2 : Int32} {x : wS} {r : ri_R} (he57 : ∀ (s : wS) (w1 : Int32) (w2 : Int32) (w3 : Int32) , x = s → gRun 2 157 57 [some (.ref 1), some (.int w1), some (.int w2), some (.int w3)] [] (wmk s) r) : ∀ {n : Nat} {x3 : Int32} {s : wS} , wX10_addFalse_h2 x1 x2 n x3 s = some x → gRun 2 157 2 [some (.ref 1), some (.int x1), some (.int x2), some (.int x3)] [] (wmk s) r := by
  intro n
  induction n with
  | zero => intro x3 s h; cases (show (none : Option (wS)) = some x from h)
  | succ n ih =>
    intro x3 s h
    rw [wX10_addFalse_h2] at h
    refine gR_go 2 (pc1 := 4) (L1 := [some (.ref 1), some (.int x1), some (.int x2), some (.int x3)]) (st1 := [.ref 1, .int x3]) (fun _ _ => rfl) ?_
    refine gR_gfR (k := 0) (k' := 14) rfl rfl rfl rfl ?_
    refine gR_gfR (k := 14) (k' := 15) rfl rfl rfl rfl ?_
    refine gR_go 1 (pc1 := 11) (L1 := [some (.ref 1), some (.int x1), some (.int x2), some (.int x3)]) (st1 := [.int x1, .ref 16, .int x3]) (fun _ _ => rfl) ?_
    obtain ⟨t1, e2, h⟩ := gb h
    refine gR_cvI (wX0_manyOf_s rfl e2) (Nat.le_of_ble_eq_true rfl) rfl rfl rfl rfl rfl ?_
    rcases gif h with ⟨c3, h⟩ | ⟨c3, h⟩
    · refine gR_ic_ge_f rfl c3 ?_
      refine gR_go 5 (pc1 := 22) (L1 := [some (.ref 1), some (.int x1), some (.int x2), some (.int x3)]) (st1 := [.int ((x2 >>> (x3 &&& 31)) &&& 1)]) (fun _ _ => rfl) ?_
      rcases gif h with ⟨c4, h⟩ | ⟨c4, h⟩
      · refine gR_iz_ne_f rfl c4 ?_
        refine gR_go 1 (pc1 := 26) (L1 := [some (.ref 1), some (.int x1), some (.int x2), some (.int x3)]) (st1 := [.ref 1]) (fun _ _ => rfl) ?_
        refine gR_gfR (k := 0) (k' := 32) rfl rfl rfl rfl ?_
        refine gR_go 2 (pc1 := 31) (L1 := [some (.ref 1), some (.int x1), some (.int x2), some (.int x3)]) (st1 := [.int x3, .int x1, .ref 33]) (fun _ _ => rfl) ?_
        obtain ⟨t5, e6, h⟩ := gb h
        refine gR_csI (wX10_slot_s e6) (Nat.le_of_ble_eq_true rfl) rfl rfl rfl rfl ?_
        refine gR_go 1 (pc1 := 35) (L1 := [some (.ref 1), some (.int x1), some (.int x2), some (.int x3)]) (st1 := [.ref 1, .int t5, .ref 33]) (fun _ _ => rfl) ?_
        refine gR_gfR (k := 0) (k' := 32) rfl rfl rfl rfl ?_
        refine gR_go 2 (pc1 := 40) (L1 := [some (.ref 1), some (.int x1), some (.int x2), some (.int x3)]) (st1 := [.int x3, .int x1, .ref 33, .int t5, .ref 33]) (fun _ _ => rfl) ?_
        obtain ⟨t7, e8, h⟩ := gb h
        refine gR_csI (wX10_slot_s e8) (Nat.le_of_ble_eq_true rfl) rfl rfl rfl rfl ?_
        obtain ⟨t9, e10, h⟩ := gb h
        refine gR_csI (wX10_at_s rfl e10) (Nat.le_of_ble_eq_true rfl) rfl rfl rfl rfl ?_
        refine gR_go 2 (pc1 := 48) (L1 := [some (.ref 1), some (.int x1), some (.int x2), some (.int x3)]) (st1 := [.int (t9 + 1), .int t5, .ref 33]) (fun _ _ => rfl) ?_
        obtain ⟨s12, e13, h⟩ := gb h
        refine gR_csV (wX10_set_s rfl e13) (Nat.le_of_ble_eq_true rfl) rfl rfl rfl rfl ?_
        exact wX10_addFalse_u51 ih he57 h
      · refine gR_iz_ne_j rfl c4 rfl ?_
        exact wX10_addFalse_u51 ih he57 h
    · refine gR_ic_ge_j rfl c3 rfl ?_
      exact he57 _ _ _ _ (Option.some.inj h).symm
noncomputable def wX10_addFalse (x1 : Int32) (x2 : Int32) (s : wS) : Option (wS) := (wX10_addFalse_h2 x1 x2 wFuel 0 s).bind fun s15 => some s15
theorem wX10_addFalse_s {x1 : Int32} {x2 : Int32} {s : wS} {rs : wS} (h : wX10_addFalse x1 x2 s = some rs) : gEv 3 157 [.ref 1, .int x1, .int x2] (wmk s) (none, wmk rs, 0, 0) := by
  refine gEv_of (d := 2) (L := [some (.ref 1), some (.int x1), some (.int x2), none]) rfl ?_
  unfold wX10_addFalse at h
  refine gR_go 2 (pc1 := 2) (L1 := [some (.ref 1), some (.int x1), some (.int x2), some (.int 0)]) (st1 := []) (fun _ _ => rfl) ?_
  obtain ⟨z14, ez14, h⟩ := gb h
  refine wX10_addFalse_t2 ?_  ez14
  · intro s15 w16 w17 w18 hz
    replace hz := hz.symm
    subst hz
    obtain rfl := gi1 h
    exact gR_rv rfl rfl
noncomputable def wX10_countFalse_j93 (qq : Int32 → wS → Option (wS)) (k1 : Nat) (x2 : Int32) (x3 : Int32) (x4 : Int32) (x5 : Int32) (s : wS) : Option (wS) := qq (x5 + 1) s
theorem wX10_countFalse_u93 {k1 : Nat} {x2 : Int32} {x3 : Int32} {x4 : Int32} {x5 : Int32} {s : wS} {w6 : Int32} {w7 : Option Value} {w8 : Option Value} {w9 : Option Value} {qq : Int32 → wS → Option (wS)} {x : wS} {r : ri_R} (ih : ∀ {x5 : Int32} {s : wS} {w6 : Option Value} {w7 : Option Value} {w8 : Option Value} {w9 : Option Value} , qq x5 s = some x → gRun 4 156 10 [some (.ref 1), some (.ref (k1 + 1)), some (.int x2), some (.int x3), some (.int x4), some (.int x5), w6, w7, w8, w9] [] (wmk s) r) (he99 : ∀ (s : wS) (w1 : Nat) (w2 : Int32) (w3 : Int32) (w4 : Int32) (w5 : Int32) (w6 : Option Value) (w7 : Option Value) (w8 : Option Value) (w9 : Option Value) , x = s → gRun 4 156 99 [some (.ref 1), some (.ref (w1 + 1)), some (.int w2), some (.int w3), some (.int w4), some (.int w5), w6, w7, w8, w9] [] (wmk s) r) (hk1 : wkd k1 = 3) (h : wX10_countFalse_j93 qq k1 x2 x3 x4 x5 s = some x) : gRun 4 156 93 [some (.ref 1), some (.ref (k1 + 1)), some (.int x2), some (.int x3), some (.int x4), some (.int x5), some (.int w6), w7, w8, w9] [] (wmk s) r := by
  unfold wX10_countFalse_j93 at h
  refine gR_go 2 (pc1 := 10) (L1 := [some (.ref 1), some (.ref (k1 + 1)), some (.int x2), some (.int x3), some (.int x4), some (.int (x5 + 1)), some (.int w6), w7, w8, w9]) (st1 := []) (fun _ _ => rfl) ?_
  exact ih h
noncomputable def wX10_countFalse_j43 (qq : Int32 → wS → Option (wS)) (k1 : Nat) (x2 : Int32) (x3 : Int32) (x4 : Int32) (x5 : Int32) (y0 : Int32) (s : wS) : Option (wS) := (wX2_isLookedAt 14 x5 x2 s).bind fun t6 => if t6 = 0 then (wX10_countFalse_j93 qq k1 x2 x3 x4 x5 s) else (if y0 = 0 then (wX10_countFalse_j93 qq k1 x2 x3 x4 x5 s) else (if x5 = x4 then (wX10_countFalse_j93 qq k1 x2 x3 x4 x5 s) else ((wX10_at 20 x5 s).bind fun t11 => (wX10_nearThings k1 x5 s).bind fun t13 => (wX10_addFalse t11 t13 s).bind fun s16 => wX10_countFalse_j93 qq k1 x2 x3 x4 x5 s16)))
theorem wX10_countFalse_u43 {k1 : Nat} {x2 : Int32} {x3 : Int32} {x4 : Int32} {x5 : Int32} {y0 : Int32} {s : wS} {w6 : Option Value} {w7 : Option Value} {w8 : Option Value} {w9 : Option Value} {qq : Int32 → wS → Option (wS)} {x : wS} {r : ri_R} (ih : ∀ {x5 : Int32} {s : wS} {w6 : Option Value} {w7 : Option Value} {w8 : Option Value} {w9 : Option Value} , qq x5 s = some x → gRun 4 156 10 [some (.ref 1), some (.ref (k1 + 1)), some (.int x2), some (.int x3), some (.int x4), some (.int x5), w6, w7, w8, w9] [] (wmk s) r) (he99 : ∀ (s : wS) (w1 : Nat) (w2 : Int32) (w3 : Int32) (w4 : Int32) (w5 : Int32) (w6 : Option Value) (w7 : Option Value) (w8 : Option Value) (w9 : Option Value) , x = s → gRun 4 156 99 [some (.ref 1), some (.ref (w1 + 1)), some (.int w2), some (.int w3), some (.int w4), some (.int w5), w6, w7, w8, w9] [] (wmk s) r) (hk1 : wkd k1 = 3) (h : wX10_countFalse_j43 qq k1 x2 x3 x4 x5 y0 s = some x) : gRun 4 156 43 [some (.ref 1), some (.ref (k1 + 1)), some (.int x2), some (.int x3), some (.int x4), some (.int x5), w6, w7, w8, w9] [.int y0] (wmk s) r := by
  unfold wX10_countFalse_j43 at h
  refine gR_go 2 (pc1 := 46) (L1 := [some (.ref 1), some (.ref (k1 + 1)), some (.int x2), some (.int x3), some (.int x4), some (.int x5), some (.int y0), w7, w8, w9]) (st1 := [.ref 1]) (fun _ _ => rfl) ?_
  refine gR_gfR (k := 0) (k' := 14) rfl rfl rfl rfl ?_
  refine gR_go 2 (pc1 := 52) (L1 := [some (.ref 1), some (.ref (k1 + 1)), some (.int x2), some (.int x3), some (.int x4), some (.int x5), some (.int y0), w7, w8, w9]) (st1 := [.int x2, .int x5, .ref 15]) (fun _ _ => rfl) ?_
  obtain ⟨t6, e7, h⟩ := gb h
  refine gR_cvI (wX2_isLookedAt_s rfl e7) (Nat.le_of_ble_eq_true rfl) rfl rfl rfl rfl rfl ?_
  rcases gif h with ⟨c8, h⟩ | ⟨c8, h⟩
  · refine gR_iz_eq_j rfl c8 rfl ?_
    exact wX10_countFalse_u93 ih he99 hk1 h
  · refine gR_iz_eq_f rfl c8 ?_
    refine gR_go 1 (pc1 := 60) (L1 := [some (.ref 1), some (.ref (k1 + 1)), some (.int x2), some (.int x3), some (.int x4), some (.int x5), some (.int y0), w7, w8, w9]) (st1 := [.int y0]) (fun _ _ => rfl) ?_
    rcases gif h with ⟨c9, h⟩ | ⟨c9, h⟩
    · refine gR_iz_eq_j rfl c9 rfl ?_
      exact wX10_countFalse_u93 ih he99 hk1 h
    · refine gR_iz_eq_f rfl c9 ?_
      refine gR_go 2 (pc1 := 67) (L1 := [some (.ref 1), some (.ref (k1 + 1)), some (.int x2), some (.int x3), some (.int x4), some (.int x5), some (.int y0), w7, w8, w9]) (st1 := [.int x4, .int x5]) (fun _ _ => rfl) ?_
      rcases gif h with ⟨c10, h⟩ | ⟨c10, h⟩
      · refine gR_ic_eq_j rfl c10 rfl ?_
        exact wX10_countFalse_u93 ih he99 hk1 h
      · refine gR_ic_eq_f rfl c10 ?_
        refine gR_go 2 (pc1 := 72) (L1 := [some (.ref 1), some (.ref (k1 + 1)), some (.int x2), some (.int x3), some (.int x4), some (.int x5), some (.int y0), w7, w8, w9]) (st1 := [.ref 1, .ref 1]) (fun _ _ => rfl) ?_
        refine gR_gfR (k := 0) (k' := 14) rfl rfl rfl rfl ?_
        refine gR_gfR (k := 14) (k' := 20) rfl rfl rfl rfl ?_
        refine gR_go 1 (pc1 := 80) (L1 := [some (.ref 1), some (.ref (k1 + 1)), some (.int x2), some (.int x3), some (.int x4), some (.int x5), some (.int y0), w7, w8, w9]) (st1 := [.int x5, .ref 21, .ref 1]) (fun _ _ => rfl) ?_
        obtain ⟨t11, e12, h⟩ := gb h
        refine gR_csI (wX10_at_s rfl e12) (Nat.le_of_ble_eq_true rfl) rfl rfl rfl rfl ?_
        refine gR_go 3 (pc1 := 87) (L1 := [some (.ref 1), some (.ref (k1 + 1)), some (.int x2), some (.int x3), some (.int x4), some (.int x5), some (.int y0), w7, w8, w9]) (st1 := [.int x5, .ref (k1 + 1), .ref 1, .int t11, .ref 1]) (fun _ _ => rfl) ?_
        obtain ⟨t13, e14, h⟩ := gb h
        refine gR_cvI (wX10_nearThings_s hk1 e14) (Nat.le_of_ble_eq_true rfl) rfl rfl rfl rfl rfl ?_
        obtain ⟨s16, e17, h⟩ := gb h
        refine gR_cvV (wX10_addFalse_s e17) (Nat.le_of_ble_eq_true rfl) rfl rfl rfl rfl rfl ?_
        exact wX10_countFalse_u93 ih he99 hk1 h
noncomputable def wX10_countFalse_j38 (qq : Int32 → wS → Option (wS)) (k1 : Nat) (x2 : Int32) (x3 : Int32) (x4 : Int32) (x5 : Int32) (s : wS) : Option (wS) := wX10_countFalse_j43 qq k1 x2 x3 x4 x5 1 s
theorem wX10_countFalse_u38 {k1 : Nat} {x2 : Int32} {x3 : Int32} {x4 : Int32} {x5 : Int32} {s : wS} {w6 : Option Value} {w7 : Option Value} {w8 : Option Value} {w9 : Option Value} {qq : Int32 → wS → Option (wS)} {x : wS} {r : ri_R} (ih : ∀ {x5 : Int32} {s : wS} {w6 : Option Value} {w7 : Option Value} {w8 : Option Value} {w9 : Option Value} , qq x5 s = some x → gRun 4 156 10 [some (.ref 1), some (.ref (k1 + 1)), some (.int x2), some (.int x3), some (.int x4), some (.int x5), w6, w7, w8, w9] [] (wmk s) r) (he99 : ∀ (s : wS) (w1 : Nat) (w2 : Int32) (w3 : Int32) (w4 : Int32) (w5 : Int32) (w6 : Option Value) (w7 : Option Value) (w8 : Option Value) (w9 : Option Value) , x = s → gRun 4 156 99 [some (.ref 1), some (.ref (w1 + 1)), some (.int w2), some (.int w3), some (.int w4), some (.int w5), w6, w7, w8, w9] [] (wmk s) r) (hk1 : wkd k1 = 3) (h : wX10_countFalse_j38 qq k1 x2 x3 x4 x5 s = some x) : gRun 4 156 38 [some (.ref 1), some (.ref (k1 + 1)), some (.int x2), some (.int x3), some (.int x4), some (.int x5), w6, w7, w8, w9] [] (wmk s) r := by
  unfold wX10_countFalse_j38 at h
  refine gR_go 2 (pc1 := 43) (L1 := [some (.ref 1), some (.ref (k1 + 1)), some (.int x2), some (.int x3), some (.int x4), some (.int x5), w6, w7, w8, w9]) (st1 := [.int 1]) (fun _ _ => rfl) ?_
  exact wX10_countFalse_u43 ih he99 hk1 h
noncomputable def wX10_countFalse_h10 (k1 : Nat) (x2 : Int32) (x3 : Int32) (x4 : Int32) : Nat → Int32 → wS → Option (wS)
  | 0, _, _ => none
  | n + 1, x5, s => if x5 < 40 then (if x3 = (-1) then (wX10_countFalse_j38 (wX10_countFalse_h10 k1 x2 x3 x4 n) k1 x2 x3 x4 x5 s) else ((wX10_at 19 x5 s).bind fun t18 => if t18 = x3 then (wX10_countFalse_j38 (wX10_countFalse_h10 k1 x2 x3 x4 n) k1 x2 x3 x4 x5 s) else (wX10_countFalse_j43 (wX10_countFalse_h10 k1 x2 x3 x4 n) k1 x2 x3 x4 x5 0 s))) else (some s)
theorem wX10_countFalse_t10 {k1 : Nat} {x2 : Int32} {x3 : Int32} {x4 : Int32} {x : wS} {r : ri_R} (hk1 : wkd k1 = 3) (he99 : ∀ (s : wS) (w1 : Nat) (w2 : Int32) (w3 : Int32) (w4 : Int32) (w5 : Int32) (w6 : Option Value) (w7 : Option Value) (w8 : Option Value) (w9 : Option Value) , x = s → gRun 4 156 99 [some (.ref 1), some (.ref (w1 + 1)), some (.int w2), some (.int w3), some (.int w4), some (.int w5), w6, w7, w8, w9] [] (wmk s) r) : ∀ {n : Nat} {x5 : Int32} {s : wS} {w6 : Option Value} {w7 : Option Value} {w8 : Option Value} {w9 : Option Value} , wX10_countFalse_h10 k1 x2 x3 x4 n x5 s = some x → gRun 4 156 10 [some (.ref 1), some (.ref (k1 + 1)), some (.int x2), some (.int x3), some (.int x4), some (.int x5), w6, w7, w8, w9] [] (wmk s) r := by
  intro n
  induction n with
  | zero => intro x5 s w6 w7 w8 w9 h; cases (show (none : Option (wS)) = some x from h)
  | succ n ih =>
    intro x5 s w6 w7 w8 w9 h
    rw [wX10_countFalse_h10] at h
    refine gR_go 2 (pc1 := 14) (L1 := [some (.ref 1), some (.ref (k1 + 1)), some (.int x2), some (.int x3), some (.int x4), some (.int x5), w6, w7, w8, w9]) (st1 := [.int 40, .int x5]) (fun _ _ => rfl) ?_
    rcases gif h with ⟨c4, h⟩ | ⟨c4, h⟩
    · refine gR_ic_ge_f rfl c4 ?_
      refine gR_go 2 (pc1 := 19) (L1 := [some (.ref 1), some (.ref (k1 + 1)), some (.int x2), some (.int x3), some (.int x4), some (.int x5), w6, w7, w8, w9]) (st1 := [.int (-1), .int x3]) (fun _ _ => rfl) ?_
      rcases gif h with ⟨c5, h⟩ | ⟨c5, h⟩
      · refine gR_ic_eq_j rfl c5 rfl ?_
        exact wX10_countFalse_u38 ih he99 hk1 h
      · refine gR_ic_eq_f rfl c5 ?_
        refine gR_go 1 (pc1 := 23) (L1 := [some (.ref 1), some (.ref (k1 + 1)), some (.int x2), some (.int x3), some (.int x4), some (.int x5), w6, w7, w8, w9]) (st1 := [.ref 1]) (fun _ _ => rfl) ?_
        refine gR_gfR (k := 0) (k' := 14) rfl rfl rfl rfl ?_
        refine gR_gfR (k := 14) (k' := 19) rfl rfl rfl rfl ?_
        refine gR_go 1 (pc1 := 31) (L1 := [some (.ref 1), some (.ref (k1 + 1)), some (.int x2), some (.int x3), some (.int x4), some (.int x5), w6, w7, w8, w9]) (st1 := [.int x5, .ref 20]) (fun _ _ => rfl) ?_
        obtain ⟨t18, e19, h⟩ := gb h
        refine gR_csI (wX10_at_s rfl e19) (Nat.le_of_ble_eq_true rfl) rfl rfl rfl rfl ?_
        refine gR_go 1 (pc1 := 35) (L1 := [some (.ref 1), some (.ref (k1 + 1)), some (.int x2), some (.int x3), some (.int x4), some (.int x5), w6, w7, w8, w9]) (st1 := [.int x3, .int t18]) (fun _ _ => rfl) ?_
        rcases gif h with ⟨c20, h⟩ | ⟨c20, h⟩
        · refine gR_ic_ne_f rfl c20 ?_
          exact wX10_countFalse_u38 ih he99 hk1 h
        · refine gR_ic_ne_j rfl c20 rfl ?_
          refine gR_go 1 (pc1 := 43) (L1 := [some (.ref 1), some (.ref (k1 + 1)), some (.int x2), some (.int x3), some (.int x4), some (.int x5), w6, w7, w8, w9]) (st1 := [.int 0]) (fun _ _ => rfl) ?_
          exact wX10_countFalse_u43 ih he99 hk1 h
    · refine gR_ic_ge_j rfl c4 rfl ?_
      exact he99 _ _ _ _ _ _ _ _ _ _ (Option.some.inj h).symm
noncomputable def wX10_countFalse_h172 (x6 : Int32) (x7 : Int32) (x8 : Int32) : Nat → Int32 → Int32 → wS → Option (Int32 × wS)
  | 0, _, _, _ => none
  | n + 1, x5, x9, s => (wX0_manyOf 15 2 s).bind fun t46 => if x9 < t46 then ((wX10_slot 2 x9 s).bind fun t49 => (wX10_at 32 t49 s).bind fun t51 => (wX10_set 33 x5 (x8 + t51) s).bind fun s54 => wX10_countFalse_h172 x6 x7 x8 n (x5 + 1) (x9 + 1) s54) else (some (x5, s))
theorem wX10_countFalse_t172 {x6 : Int32} {x7 : Int32} {x8 : Int32} {x : Int32 × wS} {r : ri_R} (he222 : ∀ (x5 : Int32) (s : wS) (w1 : Nat) (w2 : Int32) (w3 : Int32) (w4 : Int32) (w8 : Int32) (w9 : Int32) , x = (x5, s) → gRun 4 156 222 [some (.ref 1), some (.ref (w1 + 1)), some (.int w2), some (.int w3), some (.int w4), some (.int x5), some (.int x6), some (.int x7), some (.int w8), some (.int w9)] [] (wmk s) r) : ∀ {n : Nat} {x5 : Int32} {x9 : Int32} {s : wS} {w1 : Nat} {w2 : Int32} {w3 : Int32} {w4 : Int32} , wX10_countFalse_h172 x6 x7 x8 n x5 x9 s = some x → gRun 4 156 172 [some (.ref 1), some (.ref (w1 + 1)), some (.int w2), some (.int w3), some (.int w4), some (.int x5), some (.int x6), some (.int x7), some (.int x8), some (.int x9)] [] (wmk s) r := by
  intro n
  induction n with
  | zero => intro x5 x9 s w1 w2 w3 w4 h; cases (show (none : Option (Int32 × wS)) = some x from h)
  | succ n ih =>
    intro x5 x9 s w1 w2 w3 w4 h
    rw [wX10_countFalse_h172] at h
    refine gR_go 2 (pc1 := 175) (L1 := [some (.ref 1), some (.ref (w1 + 1)), some (.int w2), some (.int w3), some (.int w4), some (.int x5), some (.int x6), some (.int x7), some (.int x8), some (.int x9)]) (st1 := [.ref 1, .int x9]) (fun _ _ => rfl) ?_
    refine gR_gfR (k := 0) (k' := 14) rfl rfl rfl rfl ?_
    refine gR_gfR (k := 14) (k' := 15) rfl rfl rfl rfl ?_
    refine gR_go 1 (pc1 := 182) (L1 := [some (.ref 1), some (.ref (w1 + 1)), some (.int w2), some (.int w3), some (.int w4), some (.int x5), some (.int x6), some (.int x7), some (.int x8), some (.int x9)]) (st1 := [.int 2, .ref 16, .int x9]) (fun _ _ => rfl) ?_
    obtain ⟨t46, e47, h⟩ := gb h
    refine gR_cvI (wX0_manyOf_s rfl e47) (Nat.le_of_ble_eq_true rfl) rfl rfl rfl rfl rfl ?_
    rcases gif h with ⟨c48, h⟩ | ⟨c48, h⟩
    · refine gR_ic_ge_f rfl c48 ?_
      refine gR_go 1 (pc1 := 189) (L1 := [some (.ref 1), some (.ref (w1 + 1)), some (.int w2), some (.int w3), some (.int w4), some (.int x5), some (.int x6), some (.int x7), some (.int x8), some (.int x9)]) (st1 := [.ref 1]) (fun _ _ => rfl) ?_
      refine gR_gfR (k := 0) (k' := 33) rfl rfl rfl rfl ?_
      refine gR_go 3 (pc1 := 197) (L1 := [some (.ref 1), some (.ref (w1 + 1)), some (.int w2), some (.int w3), some (.int w4), some (.int x5), some (.int x6), some (.int x7), some (.int x8), some (.int x9)]) (st1 := [.ref 1, .int x8, .int x5, .ref 34]) (fun _ _ => rfl) ?_
      refine gR_gfR (k := 0) (k' := 32) rfl rfl rfl rfl ?_
      refine gR_go 2 (pc1 := 203) (L1 := [some (.ref 1), some (.ref (w1 + 1)), some (.int w2), some (.int w3), some (.int w4), some (.int x5), some (.int x6), some (.int x7), some (.int x8), some (.int x9)]) (st1 := [.int x9, .int 2, .ref 33, .int x8, .int x5, .ref 34]) (fun _ _ => rfl) ?_
      obtain ⟨t49, e50, h⟩ := gb h
      refine gR_csI (wX10_slot_s e50) (Nat.le_of_ble_eq_true rfl) rfl rfl rfl rfl ?_
      obtain ⟨t51, e52, h⟩ := gb h
      refine gR_csI (wX10_at_s rfl e52) (Nat.le_of_ble_eq_true rfl) rfl rfl rfl rfl ?_
      refine gR_go 1 (pc1 := 210) (L1 := [some (.ref 1), some (.ref (w1 + 1)), some (.int w2), some (.int w3), some (.int w4), some (.int x5), some (.int x6), some (.int x7), some (.int x8), some (.int x9)]) (st1 := [.int (x8 + t51), .int x5, .ref 34]) (fun _ _ => rfl) ?_
      obtain ⟨s54, e55, h⟩ := gb h
      refine gR_csV (wX10_set_s rfl e55) (Nat.le_of_ble_eq_true rfl) rfl rfl rfl rfl ?_
      refine gR_go 3 (pc1 := 172) (L1 := [some (.ref 1), some (.ref (w1 + 1)), some (.int w2), some (.int w3), some (.int w4), some (.int (x5 + 1)), some (.int x6), some (.int x7), some (.int x8), some (.int (x9 + 1))]) (st1 := []) (fun _ _ => rfl) ?_
      exact ih h
    · refine gR_ic_ge_j rfl c48 rfl ?_
      exact he222 _ _ _ _ _ _ _ _ (Option.some.inj h).symm
noncomputable def wX10_countFalse_h124 (x6 : Int32) : Nat → Int32 → Int32 → wS → Option (Int32 × wS)
  | 0, _, _, _ => none
  | n + 1, x5, x7, s => (wX0_manyOf 15 1 s).bind fun t35 => if x7 < t35 then ((wX10_slot 0 x6 s).bind fun t38 => (wX10_at 32 t38 s).bind fun t40 => (wX10_slot 1 x7 s).bind fun t42 => (wX10_at 32 t42 s).bind fun t44 => (wX10_countFalse_h172 x6 x7 (t40 + t44) wFuel x5 0 s).bind fun (t57, s58) => wX10_countFalse_h124 x6 n t57 (x7 + 1) s58) else (some (x5, s))
theorem wX10_countFalse_t124 {x6 : Int32} {x : Int32 × wS} {r : ri_R} (he228 : ∀ (x5 : Int32) (s : wS) (w1 : Nat) (w2 : Int32) (w3 : Int32) (w4 : Int32) (w7 : Int32) (w8 : Option Value) (w9 : Option Value) , x = (x5, s) → gRun 4 156 228 [some (.ref 1), some (.ref (w1 + 1)), some (.int w2), some (.int w3), some (.int w4), some (.int x5), some (.int x6), some (.int w7), w8, w9] [] (wmk s) r) : ∀ {n : Nat} {x5 : Int32} {x7 : Int32} {s : wS} {w1 : Nat} {w2 : Int32} {w3 : Int32} {w4 : Int32} {w8 : Option Value} {w9 : Option Value} , wX10_countFalse_h124 x6 n x5 x7 s = some x → gRun 4 156 124 [some (.ref 1), some (.ref (w1 + 1)), some (.int w2), some (.int w3), some (.int w4), some (.int x5), some (.int x6), some (.int x7), w8, w9] [] (wmk s) r := by
  intro n
  induction n with
  | zero => intro x5 x7 s w1 w2 w3 w4 w8 w9 h; cases (show (none : Option (Int32 × wS)) = some x from h)
  | succ n ih =>
    intro x5 x7 s w1 w2 w3 w4 w8 w9 h
    rw [wX10_countFalse_h124] at h
    refine gR_go 2 (pc1 := 127) (L1 := [some (.ref 1), some (.ref (w1 + 1)), some (.int w2), some (.int w3), some (.int w4), some (.int x5), some (.int x6), some (.int x7), w8, w9]) (st1 := [.ref 1, .int x7]) (fun _ _ => rfl) ?_
    refine gR_gfR (k := 0) (k' := 14) rfl rfl rfl rfl ?_
    refine gR_gfR (k := 14) (k' := 15) rfl rfl rfl rfl ?_
    refine gR_go 1 (pc1 := 134) (L1 := [some (.ref 1), some (.ref (w1 + 1)), some (.int w2), some (.int w3), some (.int w4), some (.int x5), some (.int x6), some (.int x7), w8, w9]) (st1 := [.int 1, .ref 16, .int x7]) (fun _ _ => rfl) ?_
    obtain ⟨t35, e36, h⟩ := gb h
    refine gR_cvI (wX0_manyOf_s rfl e36) (Nat.le_of_ble_eq_true rfl) rfl rfl rfl rfl rfl ?_
    rcases gif h with ⟨c37, h⟩ | ⟨c37, h⟩
    · refine gR_ic_ge_f rfl c37 ?_
      refine gR_go 1 (pc1 := 141) (L1 := [some (.ref 1), some (.ref (w1 + 1)), some (.int w2), some (.int w3), some (.int w4), some (.int x5), some (.int x6), some (.int x7), w8, w9]) (st1 := [.ref 1]) (fun _ _ => rfl) ?_
      refine gR_gfR (k := 0) (k' := 32) rfl rfl rfl rfl ?_
      refine gR_go 2 (pc1 := 147) (L1 := [some (.ref 1), some (.ref (w1 + 1)), some (.int w2), some (.int w3), some (.int w4), some (.int x5), some (.int x6), some (.int x7), w8, w9]) (st1 := [.int x6, .int 0, .ref 33]) (fun _ _ => rfl) ?_
      obtain ⟨t38, e39, h⟩ := gb h
      refine gR_csI (wX10_slot_s e39) (Nat.le_of_ble_eq_true rfl) rfl rfl rfl rfl ?_
      obtain ⟨t40, e41, h⟩ := gb h
      refine gR_csI (wX10_at_s rfl e41) (Nat.le_of_ble_eq_true rfl) rfl rfl rfl rfl ?_
      refine gR_go 1 (pc1 := 154) (L1 := [some (.ref 1), some (.ref (w1 + 1)), some (.int w2), some (.int w3), some (.int w4), some (.int x5), some (.int x6), some (.int x7), w8, w9]) (st1 := [.ref 1, .int t40]) (fun _ _ => rfl) ?_
      refine gR_gfR (k := 0) (k' := 32) rfl rfl rfl rfl ?_
      refine gR_go 2 (pc1 := 160) (L1 := [some (.ref 1), some (.ref (w1 + 1)), some (.int w2), some (.int w3), some (.int w4), some (.int x5), some (.int x6), some (.int x7), w8, w9]) (st1 := [.int x7, .int 1, .ref 33, .int t40]) (fun _ _ => rfl) ?_
      obtain ⟨t42, e43, h⟩ := gb h
      refine gR_csI (wX10_slot_s e43) (Nat.le_of_ble_eq_true rfl) rfl rfl rfl rfl ?_
      obtain ⟨t44, e45, h⟩ := gb h
      refine gR_csI (wX10_at_s rfl e45) (Nat.le_of_ble_eq_true rfl) rfl rfl rfl rfl ?_
      refine gR_go 4 (pc1 := 172) (L1 := [some (.ref 1), some (.ref (w1 + 1)), some (.int w2), some (.int w3), some (.int w4), some (.int x5), some (.int x6), some (.int x7), some (.int (t40 + t44)), some (.int 0)]) (st1 := []) (fun _ _ => rfl) ?_
      obtain ⟨z56, ez56, h⟩ := gb h
      refine wX10_countFalse_t172 ?_  ez56
      · intro t57 s58 w59 w60 w61 w62 w63 w64 hz
        replace hz := hz.symm
        subst hz
        dsimp only at h
        refine gR_go 2 (pc1 := 124) (L1 := [some (.ref 1), some (.ref (w59 + 1)), some (.int w60), some (.int w61), some (.int w62), some (.int t57), some (.int x6), some (.int (x7 + 1)), some (.int w63), some (.int w64)]) (st1 := []) (fun _ _ => rfl) ?_
        exact ih h
    · refine gR_ic_ge_j rfl c37 rfl ?_
      exact he228 _ _ _ _ _ _ _ _ _ (Option.some.inj h).symm
noncomputable def wX10_countFalse_h105 : Nat → Int32 → Int32 → wS → Option (wS)
  | 0, _, _, _ => none
  | n + 1, x5, x6, s => (wX0_manyOf 15 0 s).bind fun t32 => if x6 < t32 then ((wX10_countFalse_h124 x6 wFuel x5 0 s).bind fun (t66, s67) => wX10_countFalse_h105 n t66 (x6 + 1) s67) else (some s)
theorem wX10_countFalse_t105 {x : wS} {r : ri_R} (he234 : ∀ (s : wS) (w1 : Nat) (w2 : Int32) (w3 : Int32) (w4 : Int32) (w5 : Int32) (w6 : Int32) (w7 : Option Value) (w8 : Option Value) (w9 : Option Value) , x = s → gRun 4 156 234 [some (.ref 1), some (.ref (w1 + 1)), some (.int w2), some (.int w3), some (.int w4), some (.int w5), some (.int w6), w7, w8, w9] [] (wmk s) r) : ∀ {n : Nat} {x5 : Int32} {x6 : Int32} {s : wS} {w1 : Nat} {w2 : Int32} {w3 : Int32} {w4 : Int32} {w7 : Option Value} {w8 : Option Value} {w9 : Option Value} , wX10_countFalse_h105 n x5 x6 s = some x → gRun 4 156 105 [some (.ref 1), some (.ref (w1 + 1)), some (.int w2), some (.int w3), some (.int w4), some (.int x5), some (.int x6), w7, w8, w9] [] (wmk s) r := by
  intro n
  induction n with
  | zero => intro x5 x6 s w1 w2 w3 w4 w7 w8 w9 h; cases (show (none : Option (wS)) = some x from h)
  | succ n ih =>
    intro x5 x6 s w1 w2 w3 w4 w7 w8 w9 h
    rw [wX10_countFalse_h105] at h
    refine gR_go 2 (pc1 := 108) (L1 := [some (.ref 1), some (.ref (w1 + 1)), some (.int w2), some (.int w3), some (.int w4), some (.int x5), some (.int x6), w7, w8, w9]) (st1 := [.ref 1, .int x6]) (fun _ _ => rfl) ?_
    refine gR_gfR (k := 0) (k' := 14) rfl rfl rfl rfl ?_
    refine gR_gfR (k := 14) (k' := 15) rfl rfl rfl rfl ?_
    refine gR_go 1 (pc1 := 115) (L1 := [some (.ref 1), some (.ref (w1 + 1)), some (.int w2), some (.int w3), some (.int w4), some (.int x5), some (.int x6), w7, w8, w9]) (st1 := [.int 0, .ref 16, .int x6]) (fun _ _ => rfl) ?_
    obtain ⟨t32, e33, h⟩ := gb h
    refine gR_cvI (wX0_manyOf_s rfl e33) (Nat.le_of_ble_eq_true rfl) rfl rfl rfl rfl rfl ?_
    rcases gif h with ⟨c34, h⟩ | ⟨c34, h⟩
    · refine gR_ic_ge_f rfl c34 ?_
      refine gR_go 2 (pc1 := 124) (L1 := [some (.ref 1), some (.ref (w1 + 1)), some (.int w2), some (.int w3), some (.int w4), some (.int x5), some (.int x6), some (.int 0), w8, w9]) (st1 := []) (fun _ _ => rfl) ?_
      obtain ⟨z65, ez65, h⟩ := gb h
      refine wX10_countFalse_t124 ?_  ez65
      · intro t66 s67 w68 w69 w70 w71 w72 w73 w74 hz
        replace hz := hz.symm
        subst hz
        dsimp only at h
        refine gR_go 2 (pc1 := 105) (L1 := [some (.ref 1), some (.ref (w68 + 1)), some (.int w69), some (.int w70), some (.int w71), some (.int t66), some (.int (x6 + 1)), some (.int w72), w73, w74]) (st1 := []) (fun _ _ => rfl) ?_
        exact ih h
    · refine gR_ic_ge_j rfl c34 rfl ?_
      exact he234 _ _ _ _ _ _ _ _ _ _ (Option.some.inj h).symm
noncomputable def wX10_countFalse (k1 : Nat) (x2 : Int32) (x3 : Int32) (x4 : Int32) (s : wS) : Option (wS) := (wX10_empty 32 s).bind fun s2 => (wX10_countFalse_h10 k1 x2 x3 x4 wFuel 0 s2).bind fun s22 => (wX10_countFalse_h105 wFuel 0 0 s22).bind fun s76 => some s76
theorem wX10_countFalse_s {k1 : Nat} {x2 : Int32} {x3 : Int32} {x4 : Int32} {s : wS} {rs : wS} (hk1 : wkd k1 = 3) (h : wX10_countFalse k1 x2 x3 x4 s = some rs) : gEv 5 156 [.ref 1, .ref (k1 + 1), .int x2, .int x3, .int x4] (wmk s) (none, wmk rs, 0, 0) := by
  refine gEv_of (d := 4) (L := [some (.ref 1), some (.ref (k1 + 1)), some (.int x2), some (.int x3), some (.int x4), none, none, none, none, none]) rfl ?_
  unfold wX10_countFalse at h
  refine gR_go 1 (pc1 := 1) (L1 := [some (.ref 1), some (.ref (k1 + 1)), some (.int x2), some (.int x3), some (.int x4), none, none, none, none, none]) (st1 := [.ref 1]) (fun _ _ => rfl) ?_
  refine gR_gfR (k := 0) (k' := 32) rfl rfl rfl rfl ?_
  obtain ⟨s2, e3, h⟩ := gb h
  refine gR_csV (wX10_empty_s rfl e3) (Nat.le_of_ble_eq_true rfl) rfl rfl rfl rfl ?_
  refine gR_go 2 (pc1 := 10) (L1 := [some (.ref 1), some (.ref (k1 + 1)), some (.int x2), some (.int x3), some (.int x4), some (.int 0), none, none, none, none]) (st1 := []) (fun _ _ => rfl) ?_
  obtain ⟨z21, ez21, h⟩ := gb h
  refine wX10_countFalse_t10 hk1 ?_  ez21
  · intro s22 w23 w24 w25 w26 w27 w28 w29 w30 w31 hz
    replace hz := hz.symm
    subst hz
    refine gR_go 4 (pc1 := 105) (L1 := [some (.ref 1), some (.ref (w23 + 1)), some (.int w24), some (.int w25), some (.int w26), some (.int 0), some (.int 0), w29, w30, w31]) (st1 := []) (fun _ _ => rfl) ?_
    obtain ⟨z75, ez75, h⟩ := gb h
    refine wX10_countFalse_t105 ?_  ez75
    · intro s76 w77 w78 w79 w80 w81 w82 w83 w84 w85 hz
      replace hz := hz.symm
      subst hz
      obtain rfl := gi1 h
      exact gR_rv rfl rfl
noncomputable def wX10_wrong (x1 : Int32) (x2 : Int32) (s : wS) : Option (Int32 × wS) := (wX10_lawInUse x1 s).bind fun (o1, s2) => Option.elim o1 (some ((-1), s2)) (fun k4 => (wX0_worlds 15 s2).bind fun t5 => (wX10_isOutside x2 t5 s2).bind fun t7 => if t7 = 0 then ((wX2_first 14 s2).bind fun t10 => (wX10_countFalse k4 t10 (-1) (-1) s2).bind fun s13 => (wX10_at 33 x2 s13).bind fun t15 => some (t15, s13)) else (some ((-1), s2)))
theorem wX10_wrong_s {x1 : Int32} {x2 : Int32} {s : wS} {rv : Int32} {rs : wS} (h : wX10_wrong x1 x2 s = some (rv, rs)) : gEv 7 115 [.ref 1, .int x1, .int x2] (wmk s) (some (.int rv), wmk rs, 0, 0) := by
  refine gEv_of (d := 6) (L := [some (.ref 1), some (.int x1), some (.int x2), none]) rfl ?_
  unfold wX10_wrong at h
  refine gR_go 2 (pc1 := 2) (L1 := [some (.ref 1), some (.int x1), some (.int x2), none]) (st1 := [.int x1, .ref 1]) (fun _ _ => rfl) ?_
  obtain ⟨⟨o1, s2⟩, e3, h⟩ := gb h
  dsimp only at h
  refine gR_cvR (wX10_lawInUse_s e3) (Nat.le_of_ble_eq_true rfl) rfl rfl rfl rfl rfl ?_
  refine gR_astn (L1 := [some (.ref 1), some (.int x1), some (.int x2), some (wrv o1)]) rfl rfl rfl ?_
  refine gR_aldn rfl rfl ?_
  rcases gel h with ⟨ek4, hh⟩ | ⟨k4, ek4, hh⟩
  · clear h
    subst ek4
    have h := hh
    clear hh
    refine gR_ifnull_n_j rfl rfl ?_
    refine gR_go 1 (pc1 := 28) (L1 := [some (.ref 1), some (.int x1), some (.int x2), some (.null)]) (st1 := [.int (-1)]) (fun _ _ => rfl) ?_
    obtain ⟨rfl, rfl⟩ := gi2 h
    exact gR_ri rfl rfl
  · clear h
    subst ek4
    have h := hh
    clear hh
    refine gR_ifnull_r_f rfl ?_
    refine gR_go 2 (pc1 := 12) (L1 := [some (.ref 1), some (.int x1), some (.int x2), some (.ref (k4 + 1))]) (st1 := [.ref 1, .int x2]) (fun _ _ => rfl) ?_
    refine gR_gfR (k := 0) (k' := 14) rfl rfl rfl rfl ?_
    refine gR_gfR (k := 14) (k' := 15) rfl rfl rfl rfl ?_
    obtain ⟨t5, e6, h⟩ := gb h
    refine gR_cvI (wX0_worlds_s rfl e6) (Nat.le_of_ble_eq_true rfl) rfl rfl rfl rfl rfl ?_
    obtain ⟨t7, e8, h⟩ := gb h
    refine gR_csI (wX10_isOutside_s e8) (Nat.le_of_ble_eq_true rfl) rfl rfl rfl rfl ?_
    rcases gif h with ⟨c9, h⟩ | ⟨c9, h⟩
    · refine gR_iz_eq_j rfl c9 rfl ?_
      refine gR_go 3 (pc1 := 32) (L1 := [some (.ref 1), some (.int x1), some (.int x2), some (.ref (k4 + 1))]) (st1 := [.ref 1, .ref (k4 + 1), .ref 1]) (fun _ _ => rfl) ?_
      refine gR_gfR (k := 0) (k' := 14) rfl rfl rfl rfl ?_
      obtain ⟨t10, e11, h⟩ := gb h
      refine gR_cvI (wX2_first_s rfl e11) (Nat.le_of_ble_eq_true rfl) rfl rfl rfl rfl rfl ?_
      refine gR_go 2 (pc1 := 40) (L1 := [some (.ref 1), some (.int x1), some (.int x2), some (.ref (k4 + 1))]) (st1 := [.int (-1), .int (-1), .int t10, .ref (k4 + 1), .ref 1]) (fun _ _ => rfl) ?_
      obtain ⟨s13, e14, h⟩ := gb h
      refine gR_cvV (wX10_countFalse_s (wX10_lawInUse_q e3) e14) (Nat.le_of_ble_eq_true rfl) rfl rfl rfl rfl rfl ?_
      refine gR_go 1 (pc1 := 44) (L1 := [some (.ref 1), some (.int x1), some (.int x2), some (.ref (k4 + 1))]) (st1 := [.ref 1]) (fun _ _ => rfl) ?_
      refine gR_gfR (k := 0) (k' := 33) rfl rfl rfl rfl ?_
      refine gR_go 1 (pc1 := 48) (L1 := [some (.ref 1), some (.int x1), some (.int x2), some (.ref (k4 + 1))]) (st1 := [.int x2, .ref 34]) (fun _ _ => rfl) ?_
      obtain ⟨t15, e16, h⟩ := gb h
      refine gR_csI (wX10_at_s rfl e16) (Nat.le_of_ble_eq_true rfl) rfl rfl rfl rfl ?_
      obtain ⟨rfl, rfl⟩ := gi2 h
      exact gR_ri rfl rfl
    · refine gR_iz_eq_f rfl c9 ?_
      refine gR_go 1 (pc1 := 28) (L1 := [some (.ref 1), some (.int x1), some (.int x2), some (.ref (k4 + 1))]) (st1 := [.int (-1)]) (fun _ _ => rfl) ?_
      obtain ⟨rfl, rfl⟩ := gi2 h
      exact gR_ri rfl rfl
noncomputable def wX10_fillKept_j98 (qq : Int32 → Int32 → wS → Option (Int32 × wS)) (k1 : Nat) (x2 : Int32) (x3 : Int32) (x4 : Int32) (x5 : Int32) (x6 : Int32) (x7 : Int32) (s : wS) : Option (Int32 × wS) := qq (x4 + 1) (x7 + 1) s
theorem wX10_fillKept_u98 {k1 : Nat} {x2 : Int32} {x3 : Int32} {x4 : Int32} {x5 : Int32} {x6 : Int32} {x7 : Int32} {s : wS} {qq : Int32 → Int32 → wS → Option (Int32 × wS)} {x : Int32 × wS} {r : ri_R} (ih : ∀ {x4 : Int32} {x7 : Int32} {s : wS} , qq x4 x7 s = some x → gRun 3 159 48 [some (.ref 1), some (.ref (k1 + 1)), some (.int x2), some (.int x3), some (.int x4), some (.int x5), some (.int x6), some (.int x7)] [] (wmk s) r) (he107 : ∀ (x4 : Int32) (s : wS) (w7 : Int32) , x = (x4, s) → gRun 3 159 107 [some (.ref 1), some (.ref (k1 + 1)), some (.int x2), some (.int x3), some (.int x4), some (.int x5), some (.int x6), some (.int w7)] [] (wmk s) r) (hk1 : wkd k1 = 7) (h : wX10_fillKept_j98 qq k1 x2 x3 x4 x5 x6 x7 s = some x) : gRun 3 159 98 [some (.ref 1), some (.ref (k1 + 1)), some (.int x2), some (.int x3), some (.int x4), some (.int x5), some (.int x6), some (.int x7)] [] (wmk s) r := by
  unfold wX10_fillKept_j98 at h
  refine gR_go 3 (pc1 := 48) (L1 := [some (.ref 1), some (.ref (k1 + 1)), some (.int x2), some (.int x3), some (.int (x4 + 1)), some (.int x5), some (.int x6), some (.int (x7 + 1))]) (st1 := []) (fun _ _ => rfl) ?_
  exact ih h
noncomputable def wX10_fillKept_j88 (qq : Int32 → Int32 → wS → Option (Int32 × wS)) (k1 : Nat) (x2 : Int32) (x3 : Int32) (x4 : Int32) (x5 : Int32) (x6 : Int32) (x7 : Int32) (s : wS) : Option (Int32 × wS) := (wX7_add k1 x5 x6 x7 s).bind fun s18 => wX10_fillKept_j98 qq k1 x2 x3 x4 x5 x6 x7 s18
theorem wX10_fillKept_u88 {k1 : Nat} {x2 : Int32} {x3 : Int32} {x4 : Int32} {x5 : Int32} {x6 : Int32} {x7 : Int32} {s : wS} {qq : Int32 → Int32 → wS → Option (Int32 × wS)} {x : Int32 × wS} {r : ri_R} (ih : ∀ {x4 : Int32} {x7 : Int32} {s : wS} , qq x4 x7 s = some x → gRun 3 159 48 [some (.ref 1), some (.ref (k1 + 1)), some (.int x2), some (.int x3), some (.int x4), some (.int x5), some (.int x6), some (.int x7)] [] (wmk s) r) (he107 : ∀ (x4 : Int32) (s : wS) (w7 : Int32) , x = (x4, s) → gRun 3 159 107 [some (.ref 1), some (.ref (k1 + 1)), some (.int x2), some (.int x3), some (.int x4), some (.int x5), some (.int x6), some (.int w7)] [] (wmk s) r) (hk1 : wkd k1 = 7) (h : wX10_fillKept_j88 qq k1 x2 x3 x4 x5 x6 x7 s = some x) : gRun 3 159 88 [some (.ref 1), some (.ref (k1 + 1)), some (.int x2), some (.int x3), some (.int x4), some (.int x5), some (.int x6), some (.int x7)] [] (wmk s) r := by
  unfold wX10_fillKept_j88 at h
  refine gR_go 4 (pc1 := 95) (L1 := [some (.ref 1), some (.ref (k1 + 1)), some (.int x2), some (.int x3), some (.int x4), some (.int x5), some (.int x6), some (.int x7)]) (st1 := [.int x7, .int x6, .int x5, .ref (k1 + 1)]) (fun _ _ => rfl) ?_
  obtain ⟨s18, e19, h⟩ := gb h
  refine gR_cvV (wX7_add_s hk1 e19) (Nat.le_of_ble_eq_true rfl) rfl rfl hk1 rfl rfl ?_
  exact wX10_fillKept_u98 ih he107 hk1 h
noncomputable def wX10_fillKept_h48 (k1 : Nat) (x2 : Int32) (x3 : Int32) (x5 : Int32) (x6 : Int32) : Nat → Int32 → Int32 → wS → Option (Int32 × wS)
  | 0, _, _, _ => none
  | n + 1, x4, x7, s => (wX0_manyOf 15 2 s).bind fun t10 => if x7 < t10 then ((wX10_at 33 x4 s).bind fun t13 => if x2 < t13 then (wX10_fillKept_j98 (wX10_fillKept_h48 k1 x2 x3 x5 x6 n) k1 x2 x3 x4 x5 x6 x7 s) else (if x3 = (-1) then (wX10_fillKept_j88 (wX10_fillKept_h48 k1 x2 x3 x5 x6 n) k1 x2 x3 x4 x5 x6 x7 s) else (if x7 = x3 then (wX10_fillKept_j88 (wX10_fillKept_h48 k1 x2 x3 x5 x6 n) k1 x2 x3 x4 x5 x6 x7 s) else (wX10_fillKept_j98 (wX10_fillKept_h48 k1 x2 x3 x5 x6 n) k1 x2 x3 x4 x5 x6 x7 s)))) else (some (x4, s))
theorem wX10_fillKept_t48 {k1 : Nat} {x2 : Int32} {x3 : Int32} {x5 : Int32} {x6 : Int32} {x : Int32 × wS} {r : ri_R} (hk1 : wkd k1 = 7) (he107 : ∀ (x4 : Int32) (s : wS) (w7 : Int32) , x = (x4, s) → gRun 3 159 107 [some (.ref 1), some (.ref (k1 + 1)), some (.int x2), some (.int x3), some (.int x4), some (.int x5), some (.int x6), some (.int w7)] [] (wmk s) r) : ∀ {n : Nat} {x4 : Int32} {x7 : Int32} {s : wS} , wX10_fillKept_h48 k1 x2 x3 x5 x6 n x4 x7 s = some x → gRun 3 159 48 [some (.ref 1), some (.ref (k1 + 1)), some (.int x2), some (.int x3), some (.int x4), some (.int x5), some (.int x6), some (.int x7)] [] (wmk s) r := by
  intro n
  induction n with
  | zero => intro x4 x7 s h; cases (show (none : Option (Int32 × wS)) = some x from h)
  | succ n ih =>
    intro x4 x7 s h
    rw [wX10_fillKept_h48] at h
    refine gR_go 2 (pc1 := 51) (L1 := [some (.ref 1), some (.ref (k1 + 1)), some (.int x2), some (.int x3), some (.int x4), some (.int x5), some (.int x6), some (.int x7)]) (st1 := [.ref 1, .int x7]) (fun _ _ => rfl) ?_
    refine gR_gfR (k := 0) (k' := 14) rfl rfl rfl rfl ?_
    refine gR_gfR (k := 14) (k' := 15) rfl rfl rfl rfl ?_
    refine gR_go 1 (pc1 := 58) (L1 := [some (.ref 1), some (.ref (k1 + 1)), some (.int x2), some (.int x3), some (.int x4), some (.int x5), some (.int x6), some (.int x7)]) (st1 := [.int 2, .ref 16, .int x7]) (fun _ _ => rfl) ?_
    obtain ⟨t10, e11, h⟩ := gb h
    refine gR_cvI (wX0_manyOf_s rfl e11) (Nat.le_of_ble_eq_true rfl) rfl rfl rfl rfl rfl ?_
    rcases gif h with ⟨c12, h⟩ | ⟨c12, h⟩
    · refine gR_ic_ge_f rfl c12 ?_
      refine gR_go 1 (pc1 := 65) (L1 := [some (.ref 1), some (.ref (k1 + 1)), some (.int x2), some (.int x3), some (.int x4), some (.int x5), some (.int x6), some (.int x7)]) (st1 := [.ref 1]) (fun _ _ => rfl) ?_
      refine gR_gfR (k := 0) (k' := 33) rfl rfl rfl rfl ?_
      refine gR_go 1 (pc1 := 70) (L1 := [some (.ref 1), some (.ref (k1 + 1)), some (.int x2), some (.int x3), some (.int x4), some (.int x5), some (.int x6), some (.int x7)]) (st1 := [.int x4, .ref 34]) (fun _ _ => rfl) ?_
      obtain ⟨t13, e14, h⟩ := gb h
      refine gR_csI (wX10_at_s rfl e14) (Nat.le_of_ble_eq_true rfl) rfl rfl rfl rfl ?_
      refine gR_go 1 (pc1 := 74) (L1 := [some (.ref 1), some (.ref (k1 + 1)), some (.int x2), some (.int x3), some (.int x4), some (.int x5), some (.int x6), some (.int x7)]) (st1 := [.int x2, .int t13]) (fun _ _ => rfl) ?_
      rcases gif h with ⟨c15, h⟩ | ⟨c15, h⟩
      · refine gR_ic_gt_j rfl c15 rfl ?_
        exact wX10_fillKept_u98 ih he107 hk1 h
      · refine gR_ic_gt_f rfl c15 ?_
        refine gR_go 2 (pc1 := 79) (L1 := [some (.ref 1), some (.ref (k1 + 1)), some (.int x2), some (.int x3), some (.int x4), some (.int x5), some (.int x6), some (.int x7)]) (st1 := [.int (-1), .int x3]) (fun _ _ => rfl) ?_
        rcases gif h with ⟨c16, h⟩ | ⟨c16, h⟩
        · refine gR_ic_eq_j rfl c16 rfl ?_
          exact wX10_fillKept_u88 ih he107 hk1 h
        · refine gR_ic_eq_f rfl c16 ?_
          refine gR_go 2 (pc1 := 85) (L1 := [some (.ref 1), some (.ref (k1 + 1)), some (.int x2), some (.int x3), some (.int x4), some (.int x5), some (.int x6), some (.int x7)]) (st1 := [.int x3, .int x7]) (fun _ _ => rfl) ?_
          rcases gif h with ⟨c20, h⟩ | ⟨c20, h⟩
          · refine gR_ic_ne_f rfl c20 ?_
            exact wX10_fillKept_u88 ih he107 hk1 h
          · refine gR_ic_ne_j rfl c20 rfl ?_
            exact wX10_fillKept_u98 ih he107 hk1 h
    · refine gR_ic_ge_j rfl c12 rfl ?_
      exact he107 _ _ _ (Option.some.inj h).symm
noncomputable def wX10_fillKept_h29 (k1 : Nat) (x2 : Int32) (x3 : Int32) (x5 : Int32) : Nat → Int32 → Int32 → wS → Option (Int32 × wS)
  | 0, _, _, _ => none
  | n + 1, x4, x6, s => (wX0_manyOf 15 1 s).bind fun t7 => if x6 < t7 then ((wX10_fillKept_h48 k1 x2 x3 x5 x6 wFuel x4 0 s).bind fun (t22, s23) => wX10_fillKept_h29 k1 x2 x3 x5 n t22 (x6 + 1) s23) else (some (x4, s))
theorem wX10_fillKept_t29 {k1 : Nat} {x2 : Int32} {x3 : Int32} {x5 : Int32} {x : Int32 × wS} {r : ri_R} (hk1 : wkd k1 = 7) (he113 : ∀ (x4 : Int32) (s : wS) (w6 : Int32) (w7 : Option Value) , x = (x4, s) → gRun 3 159 113 [some (.ref 1), some (.ref (k1 + 1)), some (.int x2), some (.int x3), some (.int x4), some (.int x5), some (.int w6), w7] [] (wmk s) r) : ∀ {n : Nat} {x4 : Int32} {x6 : Int32} {s : wS} {w7 : Option Value} , wX10_fillKept_h29 k1 x2 x3 x5 n x4 x6 s = some x → gRun 3 159 29 [some (.ref 1), some (.ref (k1 + 1)), some (.int x2), some (.int x3), some (.int x4), some (.int x5), some (.int x6), w7] [] (wmk s) r := by
  intro n
  induction n with
  | zero => intro x4 x6 s w7 h; cases (show (none : Option (Int32 × wS)) = some x from h)
  | succ n ih =>
    intro x4 x6 s w7 h
    rw [wX10_fillKept_h29] at h
    refine gR_go 2 (pc1 := 32) (L1 := [some (.ref 1), some (.ref (k1 + 1)), some (.int x2), some (.int x3), some (.int x4), some (.int x5), some (.int x6), w7]) (st1 := [.ref 1, .int x6]) (fun _ _ => rfl) ?_
    refine gR_gfR (k := 0) (k' := 14) rfl rfl rfl rfl ?_
    refine gR_gfR (k := 14) (k' := 15) rfl rfl rfl rfl ?_
    refine gR_go 1 (pc1 := 39) (L1 := [some (.ref 1), some (.ref (k1 + 1)), some (.int x2), some (.int x3), some (.int x4), some (.int x5), some (.int x6), w7]) (st1 := [.int 1, .ref 16, .int x6]) (fun _ _ => rfl) ?_
    obtain ⟨t7, e8, h⟩ := gb h
    refine gR_cvI (wX0_manyOf_s rfl e8) (Nat.le_of_ble_eq_true rfl) rfl rfl rfl rfl rfl ?_
    rcases gif h with ⟨c9, h⟩ | ⟨c9, h⟩
    · refine gR_ic_ge_f rfl c9 ?_
      refine gR_go 2 (pc1 := 48) (L1 := [some (.ref 1), some (.ref (k1 + 1)), some (.int x2), some (.int x3), some (.int x4), some (.int x5), some (.int x6), some (.int 0)]) (st1 := []) (fun _ _ => rfl) ?_
      obtain ⟨z21, ez21, h⟩ := gb h
      refine wX10_fillKept_t48 hk1 ?_  ez21
      · intro t22 s23 w24 hz
        replace hz := hz.symm
        subst hz
        dsimp only at h
        refine gR_go 2 (pc1 := 29) (L1 := [some (.ref 1), some (.ref (k1 + 1)), some (.int x2), some (.int x3), some (.int t22), some (.int x5), some (.int (x6 + 1)), some (.int w24)]) (st1 := []) (fun _ _ => rfl) ?_
        exact ih h
    · refine gR_ic_ge_j rfl c9 rfl ?_
      exact he113 _ _ _ _ (Option.some.inj h).symm
noncomputable def wX10_fillKept_h10 (k1 : Nat) (x2 : Int32) (x3 : Int32) : Nat → Int32 → Int32 → wS → Option (wS)
  | 0, _, _, _ => none
  | n + 1, x4, x5, s => (wX0_manyOf 15 0 s).bind fun t4 => if x5 < t4 then ((wX10_fillKept_h29 k1 x2 x3 x5 wFuel x4 0 s).bind fun (t26, s27) => wX10_fillKept_h10 k1 x2 x3 n t26 (x5 + 1) s27) else (some s)
theorem wX10_fillKept_t10 {k1 : Nat} {x2 : Int32} {x3 : Int32} {x : wS} {r : ri_R} (hk1 : wkd k1 = 7) (he119 : ∀ (s : wS) (w1 : Nat) (w2 : Int32) (w3 : Int32) (w4 : Int32) (w5 : Int32) (w6 : Option Value) (w7 : Option Value) , x = s → gRun 3 159 119 [some (.ref 1), some (.ref (w1 + 1)), some (.int w2), some (.int w3), some (.int w4), some (.int w5), w6, w7] [] (wmk s) r) : ∀ {n : Nat} {x4 : Int32} {x5 : Int32} {s : wS} {w6 : Option Value} {w7 : Option Value} , wX10_fillKept_h10 k1 x2 x3 n x4 x5 s = some x → gRun 3 159 10 [some (.ref 1), some (.ref (k1 + 1)), some (.int x2), some (.int x3), some (.int x4), some (.int x5), w6, w7] [] (wmk s) r := by
  intro n
  induction n with
  | zero => intro x4 x5 s w6 w7 h; cases (show (none : Option (wS)) = some x from h)
  | succ n ih =>
    intro x4 x5 s w6 w7 h
    rw [wX10_fillKept_h10] at h
    refine gR_go 2 (pc1 := 13) (L1 := [some (.ref 1), some (.ref (k1 + 1)), some (.int x2), some (.int x3), some (.int x4), some (.int x5), w6, w7]) (st1 := [.ref 1, .int x5]) (fun _ _ => rfl) ?_
    refine gR_gfR (k := 0) (k' := 14) rfl rfl rfl rfl ?_
    refine gR_gfR (k := 14) (k' := 15) rfl rfl rfl rfl ?_
    refine gR_go 1 (pc1 := 20) (L1 := [some (.ref 1), some (.ref (k1 + 1)), some (.int x2), some (.int x3), some (.int x4), some (.int x5), w6, w7]) (st1 := [.int 0, .ref 16, .int x5]) (fun _ _ => rfl) ?_
    obtain ⟨t4, e5, h⟩ := gb h
    refine gR_cvI (wX0_manyOf_s rfl e5) (Nat.le_of_ble_eq_true rfl) rfl rfl rfl rfl rfl ?_
    rcases gif h with ⟨c6, h⟩ | ⟨c6, h⟩
    · refine gR_ic_ge_f rfl c6 ?_
      refine gR_go 2 (pc1 := 29) (L1 := [some (.ref 1), some (.ref (k1 + 1)), some (.int x2), some (.int x3), some (.int x4), some (.int x5), some (.int 0), w7]) (st1 := []) (fun _ _ => rfl) ?_
      obtain ⟨z25, ez25, h⟩ := gb h
      refine wX10_fillKept_t29 hk1 ?_  ez25
      · intro t26 s27 w28 w29 hz
        replace hz := hz.symm
        subst hz
        dsimp only at h
        refine gR_go 2 (pc1 := 10) (L1 := [some (.ref 1), some (.ref (k1 + 1)), some (.int x2), some (.int x3), some (.int t26), some (.int (x5 + 1)), some (.int w28), w29]) (st1 := []) (fun _ _ => rfl) ?_
        exact ih h
    · refine gR_ic_ge_j rfl c6 rfl ?_
      exact he119 _ _ _ _ _ _ _ _ (Option.some.inj h).symm
noncomputable def wX10_fillKept (k1 : Nat) (x2 : Int32) (x3 : Int32) (s : wS) : Option (wS) := (wX7_clear k1 s).bind fun s2 => (wX10_fillKept_h10 k1 x2 x3 wFuel 0 0 s2).bind fun s31 => some s31
theorem wX10_fillKept_s {k1 : Nat} {x2 : Int32} {x3 : Int32} {s : wS} {rs : wS} (hk1 : wkd k1 = 7) (h : wX10_fillKept k1 x2 x3 s = some rs) : gEv 4 159 [.ref 1, .ref (k1 + 1), .int x2, .int x3] (wmk s) (none, wmk rs, 0, 0) := by
  refine gEv_of (d := 3) (L := [some (.ref 1), some (.ref (k1 + 1)), some (.int x2), some (.int x3), none, none, none, none]) rfl ?_
  unfold wX10_fillKept at h
  refine gR_go 1 (pc1 := 1) (L1 := [some (.ref 1), some (.ref (k1 + 1)), some (.int x2), some (.int x3), none, none, none, none]) (st1 := [.ref (k1 + 1)]) (fun _ _ => rfl) ?_
  obtain ⟨s2, e3, h⟩ := gb h
  refine gR_cvV (wX7_clear_s hk1 e3) (Nat.le_of_ble_eq_true rfl) rfl rfl hk1 rfl rfl ?_
  refine gR_go 4 (pc1 := 10) (L1 := [some (.ref 1), some (.ref (k1 + 1)), some (.int x2), some (.int x3), some (.int 0), some (.int 0), none, none]) (st1 := []) (fun _ _ => rfl) ?_
  obtain ⟨z30, ez30, h⟩ := gb h
  refine wX10_fillKept_t10 hk1 ?_  ez30
  · intro s31 w32 w33 w34 w35 w36 w37 w38 hz
    replace hz := hz.symm
    subst hz
    obtain rfl := gi1 h
    exact gR_rv rfl rfl
noncomputable def wX10_lawWithKept (x1 : Int32) (x2 : Int32) (s : wS) : Option (Option Nat × wS) := (wX10_lawInUse x1 s).bind fun (o1, s2) => Option.elim o1 (some (none, s2)) (fun k4 => (wX10_isOutside x2 41 s2).bind fun t5 => if t5 = 0 then ((wX2_first 14 s2).bind fun t8 => (wX10_countFalse k4 t8 (-1) (-1) s2).bind fun s11 => (wX10_fillKept 35 x2 (-1) s11).bind fun s14 => some (some k4, s14)) else (some (none, s2)))
theorem wX10_lawWithKept_s {x1 : Int32} {x2 : Int32} {s : wS} {rv : Option Nat} {rs : wS} (h : wX10_lawWithKept x1 x2 s = some (rv, rs)) : gEv 7 151 [.ref 1, .int x1, .int x2] (wmk s) (some (wrv rv), wmk rs, 0, 0) := by
  refine gEv_of (d := 6) (L := [some (.ref 1), some (.int x1), some (.int x2), none]) rfl ?_
  unfold wX10_lawWithKept at h
  refine gR_go 2 (pc1 := 2) (L1 := [some (.ref 1), some (.int x1), some (.int x2), none]) (st1 := [.int x1, .ref 1]) (fun _ _ => rfl) ?_
  obtain ⟨⟨o1, s2⟩, e3, h⟩ := gb h
  dsimp only at h
  refine gR_cvR (wX10_lawInUse_s e3) (Nat.le_of_ble_eq_true rfl) rfl rfl rfl rfl rfl ?_
  refine gR_astn (L1 := [some (.ref 1), some (.int x1), some (.int x2), some (wrv o1)]) rfl rfl rfl ?_
  refine gR_aldn rfl rfl ?_
  rcases gel h with ⟨ek4, hh⟩ | ⟨k4, ek4, hh⟩
  · clear h
    subst ek4
    have h := hh
    clear hh
    refine gR_ifnull_n_j rfl rfl ?_
    refine gR_go 1 (pc1 := 20) (L1 := [some (.ref 1), some (.int x1), some (.int x2), some (.null)]) (st1 := [.null]) (fun _ _ => rfl) ?_
    obtain ⟨rfl, rfl⟩ := gi2 h
    exact gR_ra (o := none) rfl rfl
  · clear h
    subst ek4
    have h := hh
    clear hh
    refine gR_ifnull_r_f rfl ?_
    refine gR_go 2 (pc1 := 13) (L1 := [some (.ref 1), some (.int x1), some (.int x2), some (.ref (k4 + 1))]) (st1 := [.int 41, .int x2]) (fun _ _ => rfl) ?_
    obtain ⟨t5, e6, h⟩ := gb h
    refine gR_csI (wX10_isOutside_s e6) (Nat.le_of_ble_eq_true rfl) rfl rfl rfl rfl ?_
    rcases gif h with ⟨c7, h⟩ | ⟨c7, h⟩
    · refine gR_iz_eq_j rfl c7 rfl ?_
      refine gR_go 3 (pc1 := 24) (L1 := [some (.ref 1), some (.int x1), some (.int x2), some (.ref (k4 + 1))]) (st1 := [.ref 1, .ref (k4 + 1), .ref 1]) (fun _ _ => rfl) ?_
      refine gR_gfR (k := 0) (k' := 14) rfl rfl rfl rfl ?_
      obtain ⟨t8, e9, h⟩ := gb h
      refine gR_cvI (wX2_first_s rfl e9) (Nat.le_of_ble_eq_true rfl) rfl rfl rfl rfl rfl ?_
      refine gR_go 2 (pc1 := 32) (L1 := [some (.ref 1), some (.int x1), some (.int x2), some (.ref (k4 + 1))]) (st1 := [.int (-1), .int (-1), .int t8, .ref (k4 + 1), .ref 1]) (fun _ _ => rfl) ?_
      obtain ⟨s11, e12, h⟩ := gb h
      refine gR_cvV (wX10_countFalse_s (wX10_lawInUse_q e3) e12) (Nat.le_of_ble_eq_true rfl) rfl rfl rfl rfl rfl ?_
      refine gR_go 2 (pc1 := 37) (L1 := [some (.ref 1), some (.int x1), some (.int x2), some (.ref (k4 + 1))]) (st1 := [.ref 1, .ref 1]) (fun _ _ => rfl) ?_
      refine gR_gfR (k := 0) (k' := 35) rfl rfl rfl rfl ?_
      refine gR_go 2 (pc1 := 42) (L1 := [some (.ref 1), some (.int x1), some (.int x2), some (.ref (k4 + 1))]) (st1 := [.int (-1), .int x2, .ref 36, .ref 1]) (fun _ _ => rfl) ?_
      obtain ⟨s14, e15, h⟩ := gb h
      refine gR_cvV (wX10_fillKept_s rfl e15) (Nat.le_of_ble_eq_true rfl) rfl rfl rfl rfl rfl ?_
      refine gR_go 1 (pc1 := 46) (L1 := [some (.ref 1), some (.int x1), some (.int x2), some (.ref (k4 + 1))]) (st1 := [.ref (k4 + 1)]) (fun _ _ => rfl) ?_
      obtain ⟨rfl, rfl⟩ := gi2 h
      exact gR_ra (o := some k4) rfl rfl
    · refine gR_iz_eq_f rfl c7 ?_
      refine gR_go 1 (pc1 := 20) (L1 := [some (.ref 1), some (.int x1), some (.int x2), some (.ref (k4 + 1))]) (st1 := [.null]) (fun _ _ => rfl) ?_
      obtain ⟨rfl, rfl⟩ := gi2 h
      exact gR_ra (o := none) rfl rfl
theorem wX10_lawWithKept_q {x1 x2 : Int32} {s s2 : wS} {k : Nat} (h : wX10_lawWithKept x1 x2 s = some (some k, s2)) : wkd k = 3 := by
  unfold wX10_lawWithKept at h
  obtain ⟨⟨o1, s2⟩, e1, h⟩ := gb h
  dsimp only at h
  rcases gel h with ⟨e, h⟩ | ⟨k4, e, h⟩
  · cases (gi2 h).1
  · subst e
    obtain ⟨t5, e5, h⟩ := gb h
    rcases gif h with ⟨_, h⟩ | ⟨_, h⟩
    · obtain ⟨t8, e8, h⟩ := gb h
      obtain ⟨s11, e11, h⟩ := gb h
      obtain ⟨s14, e14, h⟩ := gb h
      cases (gi2 h).1
      exact wX10_lawInUse_q e1
    · cases (gi2 h).1
noncomputable def wX10_kept (x1 : Int32) (x2 : Int32) (s : wS) : Option (Int32 × wS) := (wX10_lawWithKept x1 x2 s).bind fun (o1, s2) => Option.elim o1 (some ((-1), s2)) (fun k4 => some ((s2.1 35 1), s2))
theorem wX10_kept_s {x1 : Int32} {x2 : Int32} {s : wS} {rv : Int32} {rs : wS} (h : wX10_kept x1 x2 s = some (rv, rs)) : gEv 8 116 [.ref 1, .int x1, .int x2] (wmk s) (some (.int rv), wmk rs, 0, 0) := by
  refine gEv_of (d := 7) (L := [some (.ref 1), some (.int x1), some (.int x2), none]) rfl ?_
  unfold wX10_kept at h
  refine gR_go 3 (pc1 := 3) (L1 := [some (.ref 1), some (.int x1), some (.int x2), none]) (st1 := [.int x2, .int x1, .ref 1]) (fun _ _ => rfl) ?_
  obtain ⟨⟨o1, s2⟩, e3, h⟩ := gb h
  dsimp only at h
  refine gR_cvR (wX10_lawWithKept_s e3) (Nat.le_of_ble_eq_true rfl) rfl rfl rfl rfl rfl ?_
  refine gR_astn (L1 := [some (.ref 1), some (.int x1), some (.int x2), some (wrv o1)]) rfl rfl rfl ?_
  refine gR_aldn rfl rfl ?_
  rcases gel h with ⟨ek4, hh⟩ | ⟨k4, ek4, hh⟩
  · clear h
    subst ek4
    have h := hh
    clear hh
    refine gR_ifnonnull_n_f rfl ?_
    refine gR_go 2 (pc1 := 22) (L1 := [some (.ref 1), some (.int x1), some (.int x2), some (.null)]) (st1 := [.int (-1)]) (fun _ _ => rfl) ?_
    obtain ⟨rfl, rfl⟩ := gi2 h
    exact gR_ri rfl rfl
  · clear h
    subst ek4
    have h := hh
    clear hh
    refine gR_ifnonnull_r_j rfl rfl ?_
    refine gR_go 1 (pc1 := 16) (L1 := [some (.ref 1), some (.int x1), some (.int x2), some (.ref (k4 + 1))]) (st1 := [.ref 1]) (fun _ _ => rfl) ?_
    refine gR_gfR (k := 0) (k' := 35) rfl rfl rfl rfl ?_
    refine gR_gfI (k := 35) rfl rfl rfl ?_
    obtain ⟨rfl, rfl⟩ := gi2 h
    exact gR_ri rfl rfl
noncomputable def wX10_world_j61 (qq : Int32 → Int32 → Option ((Unit) ⊕ (Int32))) (x2 : Int32) (x3 : Int32) (x5 : Int32) (x6 : Int32) (s : wS) : Option ((Unit) ⊕ (Int32)) := qq x5 (x6 + 1)
theorem wX10_world_u61 {x2 : Int32} {x3 : Int32} {x5 : Int32} {x6 : Int32} {s : wS} {w1 : Int32} {w4 : Nat} {qq : Int32 → Int32 → Option ((Unit) ⊕ (Int32))} {x : (Unit) ⊕ (Int32)} {r : ri_R} (ih : ∀ {x5 : Int32} {x6 : Int32} {w1 : Int32} {w4 : Nat} , qq x5 x6 = some x → gRun 7 117 21 [some (.ref 1), some (.int w1), some (.int x2), some (.int x3), some (.ref (w4 + 1)), some (.int x5), some (.int x6)] [] (wmk s) r) (he67 : ∀ (w1 : Int32) (w2 : Int32) (w3 : Int32) (w4 : Nat) (w5 : Int32) (w6 : Int32) , x = .inl () → gRun 7 117 67 [some (.ref 1), some (.int w1), some (.int w2), some (.int w3), some (.ref (w4 + 1)), some (.int w5), some (.int w6)] [] (wmk s) r) (he55 : ∀ (x6 : Int32) (w1 : Int32) (w2 : Int32) (w3 : Int32) (w4 : Nat) (w5 : Int32) , x = .inr x6 → gRun 7 117 55 [some (.ref 1), some (.int w1), some (.int w2), some (.int w3), some (.ref (w4 + 1)), some (.int w5), some (.int x6)] [] (wmk s) r) (h : wX10_world_j61 qq x2 x3 x5 x6 s = some x) : gRun 7 117 61 [some (.ref 1), some (.int w1), some (.int x2), some (.int x3), some (.ref (w4 + 1)), some (.int x5), some (.int x6)] [] (wmk s) r := by
  unfold wX10_world_j61 at h
  refine gR_go 2 (pc1 := 21) (L1 := [some (.ref 1), some (.int w1), some (.int x2), some (.int x3), some (.ref (w4 + 1)), some (.int x5), some (.int (x6 + 1))]) (st1 := []) (fun _ _ => rfl) ?_
  exact ih h
noncomputable def wX10_world_h21 (x2 : Int32) (x3 : Int32) (s : wS) : Nat → Int32 → Int32 → Option ((Unit) ⊕ (Int32))
  | 0, _, _ => none
  | n + 1, x5, x6 => (wX0_worlds 15 s).bind fun t5 => if x6 < t5 then ((wX10_at 33 x6 s).bind fun t8 => if x2 < t8 then (wX10_world_j61 (wX10_world_h21 x2 x3 s n) x2 x3 x5 x6 s) else (if x5 = x3 then (some (.inr x6)) else (wX10_world_j61 (wX10_world_h21 x2 x3 s n) x2 x3 (x5 + 1) x6 s))) else (some (.inl ()))
theorem wX10_world_t21 {x2 : Int32} {x3 : Int32} {s : wS} {x : (Unit) ⊕ (Int32)} {r : ri_R} (he67 : ∀ (w1 : Int32) (w2 : Int32) (w3 : Int32) (w4 : Nat) (w5 : Int32) (w6 : Int32) , x = .inl () → gRun 7 117 67 [some (.ref 1), some (.int w1), some (.int w2), some (.int w3), some (.ref (w4 + 1)), some (.int w5), some (.int w6)] [] (wmk s) r) (he55 : ∀ (x6 : Int32) (w1 : Int32) (w2 : Int32) (w3 : Int32) (w4 : Nat) (w5 : Int32) , x = .inr x6 → gRun 7 117 55 [some (.ref 1), some (.int w1), some (.int w2), some (.int w3), some (.ref (w4 + 1)), some (.int w5), some (.int x6)] [] (wmk s) r) : ∀ {n : Nat} {x5 : Int32} {x6 : Int32} {w1 : Int32} {w4 : Nat} , wX10_world_h21 x2 x3 s n x5 x6 = some x → gRun 7 117 21 [some (.ref 1), some (.int w1), some (.int x2), some (.int x3), some (.ref (w4 + 1)), some (.int x5), some (.int x6)] [] (wmk s) r := by
  intro n
  induction n with
  | zero => intro x5 x6 w1 w4 h; cases (show (none : Option ((Unit) ⊕ (Int32))) = some x from h)
  | succ n ih =>
    intro x5 x6 w1 w4 h
    rw [wX10_world_h21] at h
    refine gR_go 2 (pc1 := 24) (L1 := [some (.ref 1), some (.int w1), some (.int x2), some (.int x3), some (.ref (w4 + 1)), some (.int x5), some (.int x6)]) (st1 := [.ref 1, .int x6]) (fun _ _ => rfl) ?_
    refine gR_gfR (k := 0) (k' := 14) rfl rfl rfl rfl ?_
    refine gR_gfR (k := 14) (k' := 15) rfl rfl rfl rfl ?_
    obtain ⟨t5, e6, h⟩ := gb h
    refine gR_cvI (wX0_worlds_s rfl e6) (Nat.le_of_ble_eq_true rfl) rfl rfl rfl rfl rfl ?_
    rcases gif h with ⟨c7, h⟩ | ⟨c7, h⟩
    · refine gR_ic_ge_f rfl c7 ?_
      refine gR_go 1 (pc1 := 37) (L1 := [some (.ref 1), some (.int w1), some (.int x2), some (.int x3), some (.ref (w4 + 1)), some (.int x5), some (.int x6)]) (st1 := [.ref 1]) (fun _ _ => rfl) ?_
      refine gR_gfR (k := 0) (k' := 33) rfl rfl rfl rfl ?_
      refine gR_go 1 (pc1 := 42) (L1 := [some (.ref 1), some (.int w1), some (.int x2), some (.int x3), some (.ref (w4 + 1)), some (.int x5), some (.int x6)]) (st1 := [.int x6, .ref 34]) (fun _ _ => rfl) ?_
      obtain ⟨t8, e9, h⟩ := gb h
      refine gR_csI (wX10_at_s rfl e9) (Nat.le_of_ble_eq_true rfl) rfl rfl rfl rfl ?_
      refine gR_go 1 (pc1 := 46) (L1 := [some (.ref 1), some (.int w1), some (.int x2), some (.int x3), some (.ref (w4 + 1)), some (.int x5), some (.int x6)]) (st1 := [.int x2, .int t8]) (fun _ _ => rfl) ?_
      rcases gif h with ⟨c10, h⟩ | ⟨c10, h⟩
      · refine gR_ic_gt_j rfl c10 rfl ?_
        exact wX10_world_u61 ih he67 he55 h
      · refine gR_ic_gt_f rfl c10 ?_
        refine gR_go 2 (pc1 := 52) (L1 := [some (.ref 1), some (.int w1), some (.int x2), some (.int x3), some (.ref (w4 + 1)), some (.int x5), some (.int x6)]) (st1 := [.int x3, .int x5]) (fun _ _ => rfl) ?_
        rcases gif h with ⟨c11, h⟩ | ⟨c11, h⟩
        · refine gR_ic_ne_f rfl c11 ?_
          exact he55 _ _ _ _ _ _ (Option.some.inj h).symm
        · refine gR_ic_ne_j rfl c11 rfl ?_
          refine gR_go 1 (pc1 := 61) (L1 := [some (.ref 1), some (.int w1), some (.int x2), some (.int x3), some (.ref (w4 + 1)), some (.int (x5 + 1)), some (.int x6)]) (st1 := []) (fun _ _ => rfl) ?_
          exact wX10_world_u61 ih he67 he55 h
    · refine gR_ic_ge_j rfl c7 rfl ?_
      exact he67 _ _ _ _ _ _ (Option.some.inj h).symm
noncomputable def wX10_world (x1 : Int32) (x2 : Int32) (x3 : Int32) (s : wS) : Option (Int32 × wS) := (wX10_lawWithKept x1 x2 s).bind fun (o1, s2) => Option.elim o1 (some ((-1), s2)) (fun k4 => (wX10_world_h21 x2 x3 s2 wFuel 0 0).bind fun z12 => (match z12 with | .inl () => some (((Int8.ofInt (-2)).toInt32), s2) | .inr t19 => some (t19, s2)))
theorem wX10_world_s {x1 : Int32} {x2 : Int32} {x3 : Int32} {s : wS} {rv : Int32} {rs : wS} (h : wX10_world x1 x2 x3 s = some (rv, rs)) : gEv 8 117 [.ref 1, .int x1, .int x2, .int x3] (wmk s) (some (.int rv), wmk rs, 0, 0) := by
  refine gEv_of (d := 7) (L := [some (.ref 1), some (.int x1), some (.int x2), some (.int x3), none, none, none]) rfl ?_
  unfold wX10_world at h
  refine gR_go 3 (pc1 := 3) (L1 := [some (.ref 1), some (.int x1), some (.int x2), some (.int x3), none, none, none]) (st1 := [.int x2, .int x1, .ref 1]) (fun _ _ => rfl) ?_
  obtain ⟨⟨o1, s2⟩, e3, h⟩ := gb h
  dsimp only at h
  refine gR_cvR (wX10_lawWithKept_s e3) (Nat.le_of_ble_eq_true rfl) rfl rfl rfl rfl rfl ?_
  refine gR_astq (L1 := [some (.ref 1), some (.int x1), some (.int x2), some (.int x3), some (wrv o1), none, none]) rfl rfl rfl ?_
  refine gR_aldq rfl rfl ?_
  rcases gel h with ⟨ek4, hh⟩ | ⟨k4, ek4, hh⟩
  · clear h
    subst ek4
    have h := hh
    clear hh
    refine gR_ifnonnull_n_f rfl ?_
    refine gR_go 1 (pc1 := 14) (L1 := [some (.ref 1), some (.int x1), some (.int x2), some (.int x3), some (.null), none, none]) (st1 := [.int (-1)]) (fun _ _ => rfl) ?_
    obtain ⟨rfl, rfl⟩ := gi2 h
    exact gR_ri rfl rfl
  · clear h
    subst ek4
    have h := hh
    clear hh
    refine gR_ifnonnull_r_j rfl rfl ?_
    refine gR_go 4 (pc1 := 21) (L1 := [some (.ref 1), some (.int x1), some (.int x2), some (.int x3), some (.ref (k4 + 1)), some (.int 0), some (.int 0)]) (st1 := []) (fun _ _ => rfl) ?_
    obtain ⟨z12, ez12, h⟩ := gb h
    refine wX10_world_t21 ?_ ?_  ez12
    · intro w13 w14 w15 w16 w17 w18 hz
      replace hz := hz.symm
      subst hz
      dsimp only at h
      refine gR_go 1 (pc1 := 69) (L1 := [some (.ref 1), some (.int w13), some (.int w14), some (.int w15), some (.ref (w16 + 1)), some (.int w17), some (.int w18)]) (st1 := [.int ((Int8.ofInt (-2)).toInt32)]) (fun _ _ => rfl) ?_
      obtain ⟨rfl, rfl⟩ := gi2 h
      exact gR_ri rfl rfl
    · intro t19 w20 w21 w22 w23 w24 hz
      replace hz := hz.symm
      subst hz
      dsimp only at h
      refine gR_go 1 (pc1 := 57) (L1 := [some (.ref 1), some (.int w20), some (.int w21), some (.int w22), some (.ref (w23 + 1)), some (.int w24), some (.int t19)]) (st1 := [.int t19]) (fun _ _ => rfl) ?_
      obtain ⟨rfl, rfl⟩ := gi2 h
      exact gR_ri rfl rfl
noncomputable def wX10_may (x1 : Int32) (x2 : Int32) (x3 : Int32) (x4 : Int32) (s : wS) : Option (Int32 × wS) := (wX10_lawWithKept x1 x2 s).bind fun (o1, s2) => Option.elim o1 (some ((-1), s2)) (fun k4 => (wX0_has 15 x3 x4 s2).bind fun t5 => if t5 = 0 then (some ((-1), s2)) else ((wX7_with 35 x3 x4 s2).bind fun t8 => some (t8, s2)))
theorem wX10_may_s {x1 : Int32} {x2 : Int32} {x3 : Int32} {x4 : Int32} {s : wS} {rv : Int32} {rs : wS} (h : wX10_may x1 x2 x3 x4 s = some (rv, rs)) : gEv 8 118 [.ref 1, .int x1, .int x2, .int x3, .int x4] (wmk s) (some (.int rv), wmk rs, 0, 0) := by
  refine gEv_of (d := 7) (L := [some (.ref 1), some (.int x1), some (.int x2), some (.int x3), some (.int x4), none]) rfl ?_
  unfold wX10_may at h
  refine gR_go 3 (pc1 := 3) (L1 := [some (.ref 1), some (.int x1), some (.int x2), some (.int x3), some (.int x4), none]) (st1 := [.int x2, .int x1, .ref 1]) (fun _ _ => rfl) ?_
  obtain ⟨⟨o1, s2⟩, e3, h⟩ := gb h
  dsimp only at h
  refine gR_cvR (wX10_lawWithKept_s e3) (Nat.le_of_ble_eq_true rfl) rfl rfl rfl rfl rfl ?_
  refine gR_astq (L1 := [some (.ref 1), some (.int x1), some (.int x2), some (.int x3), some (.int x4), some (wrv o1)]) rfl rfl rfl ?_
  refine gR_aldq rfl rfl ?_
  rcases gel h with ⟨ek4, hh⟩ | ⟨k4, ek4, hh⟩
  · clear h
    subst ek4
    have h := hh
    clear hh
    refine gR_ifnull_n_j rfl rfl ?_
    refine gR_go 1 (pc1 := 30) (L1 := [some (.ref 1), some (.int x1), some (.int x2), some (.int x3), some (.int x4), some (.null)]) (st1 := [.int (-1)]) (fun _ _ => rfl) ?_
    obtain ⟨rfl, rfl⟩ := gi2 h
    exact gR_ri rfl rfl
  · clear h
    subst ek4
    have h := hh
    clear hh
    refine gR_ifnull_r_f rfl ?_
    refine gR_go 1 (pc1 := 14) (L1 := [some (.ref 1), some (.int x1), some (.int x2), some (.int x3), some (.int x4), some (.ref (k4 + 1))]) (st1 := [.ref 1]) (fun _ _ => rfl) ?_
    refine gR_gfR (k := 0) (k' := 14) rfl rfl rfl rfl ?_
    refine gR_gfR (k := 14) (k' := 15) rfl rfl rfl rfl ?_
    refine gR_go 2 (pc1 := 23) (L1 := [some (.ref 1), some (.int x1), some (.int x2), some (.int x3), some (.int x4), some (.ref (k4 + 1))]) (st1 := [.int x4, .int x3, .ref 16]) (fun _ _ => rfl) ?_
    obtain ⟨t5, e6, h⟩ := gb h
    refine gR_cvI (wX0_has_s rfl e6) (Nat.le_of_ble_eq_true rfl) rfl rfl rfl rfl rfl ?_
    rcases gif h with ⟨c7, h⟩ | ⟨c7, h⟩
    · refine gR_iz_ne_f rfl c7 ?_
      refine gR_go 1 (pc1 := 30) (L1 := [some (.ref 1), some (.int x1), some (.int x2), some (.int x3), some (.int x4), some (.ref (k4 + 1))]) (st1 := [.int (-1)]) (fun _ _ => rfl) ?_
      obtain ⟨rfl, rfl⟩ := gi2 h
      exact gR_ri rfl rfl
    · refine gR_iz_ne_j rfl c7 rfl ?_
      refine gR_go 1 (pc1 := 32) (L1 := [some (.ref 1), some (.int x1), some (.int x2), some (.int x3), some (.int x4), some (.ref (k4 + 1))]) (st1 := [.ref 1]) (fun _ _ => rfl) ?_
      refine gR_gfR (k := 0) (k' := 35) rfl rfl rfl rfl ?_
      refine gR_go 2 (pc1 := 38) (L1 := [some (.ref 1), some (.int x1), some (.int x2), some (.int x3), some (.int x4), some (.ref (k4 + 1))]) (st1 := [.int x4, .int x3, .ref 36]) (fun _ _ => rfl) ?_
      obtain ⟨t8, e9, h⟩ := gb h
      refine gR_cvI (wX7_with_s rfl e9) (Nat.le_of_ble_eq_true rfl) rfl rfl rfl rfl rfl ?_
      obtain ⟨rfl, rfl⟩ := gi2 h
      exact gR_ri rfl rfl
noncomputable def wX10_cleared (x1 : Int32) (x2 : Int32) (s : wS) : Option (Int32 × wS) := (wX10_lawWithKept x1 x2 s).bind fun (o1, s2) => Option.elim o1 (some ((-1), s2)) (fun k4 => (wX0_bitsOf 15 2 s2).bind fun t5 => (wX7_thingsOf 35 2 s2).bind fun t7 => some ((t5 &&& (t7 ^^^ (-1))), s2))
theorem wX10_cleared_s {x1 : Int32} {x2 : Int32} {s : wS} {rv : Int32} {rs : wS} (h : wX10_cleared x1 x2 s = some (rv, rs)) : gEv 8 119 [.ref 1, .int x1, .int x2] (wmk s) (some (.int rv), wmk rs, 0, 0) := by
  refine gEv_of (d := 7) (L := [some (.ref 1), some (.int x1), some (.int x2), none]) rfl ?_
  unfold wX10_cleared at h
  refine gR_go 3 (pc1 := 3) (L1 := [some (.ref 1), some (.int x1), some (.int x2), none]) (st1 := [.int x2, .int x1, .ref 1]) (fun _ _ => rfl) ?_
  obtain ⟨⟨o1, s2⟩, e3, h⟩ := gb h
  dsimp only at h
  refine gR_cvR (wX10_lawWithKept_s e3) (Nat.le_of_ble_eq_true rfl) rfl rfl rfl rfl rfl ?_
  refine gR_astn (L1 := [some (.ref 1), some (.int x1), some (.int x2), some (wrv o1)]) rfl rfl rfl ?_
  refine gR_aldn rfl rfl ?_
  rcases gel h with ⟨ek4, hh⟩ | ⟨k4, ek4, hh⟩
  · clear h
    subst ek4
    have h := hh
    clear hh
    refine gR_ifnonnull_n_f rfl ?_
    refine gR_go 1 (pc1 := 12) (L1 := [some (.ref 1), some (.int x1), some (.int x2), some (.null)]) (st1 := [.int (-1)]) (fun _ _ => rfl) ?_
    obtain ⟨rfl, rfl⟩ := gi2 h
    exact gR_ri rfl rfl
  · clear h
    subst ek4
    have h := hh
    clear hh
    refine gR_ifnonnull_r_j rfl rfl ?_
    refine gR_go 1 (pc1 := 14) (L1 := [some (.ref 1), some (.int x1), some (.int x2), some (.ref (k4 + 1))]) (st1 := [.ref 1]) (fun _ _ => rfl) ?_
    refine gR_gfR (k := 0) (k' := 14) rfl rfl rfl rfl ?_
    refine gR_gfR (k := 14) (k' := 15) rfl rfl rfl rfl ?_
    refine gR_go 1 (pc1 := 21) (L1 := [some (.ref 1), some (.int x1), some (.int x2), some (.ref (k4 + 1))]) (st1 := [.int 2, .ref 16]) (fun _ _ => rfl) ?_
    obtain ⟨t5, e6, h⟩ := gb h
    refine gR_cvI (wX0_bitsOf_s rfl e6) (Nat.le_of_ble_eq_true rfl) rfl rfl rfl rfl rfl ?_
    refine gR_go 1 (pc1 := 25) (L1 := [some (.ref 1), some (.int x1), some (.int x2), some (.ref (k4 + 1))]) (st1 := [.ref 1, .int t5]) (fun _ _ => rfl) ?_
    refine gR_gfR (k := 0) (k' := 35) rfl rfl rfl rfl ?_
    refine gR_go 1 (pc1 := 29) (L1 := [some (.ref 1), some (.int x1), some (.int x2), some (.ref (k4 + 1))]) (st1 := [.int 2, .ref 36, .int t5]) (fun _ _ => rfl) ?_
    obtain ⟨t7, e8, h⟩ := gb h
    refine gR_cvI (wX7_thingsOf_s rfl e8) (Nat.le_of_ble_eq_true rfl) rfl rfl rfl rfl rfl ?_
    refine gR_go 3 (pc1 := 35) (L1 := [some (.ref 1), some (.int x1), some (.int x2), some (.ref (k4 + 1))]) (st1 := [.int (t5 &&& (t7 ^^^ (-1)))]) (fun _ _ => rfl) ?_
    obtain ⟨rfl, rfl⟩ := gi2 h
    exact gR_ri rfl rfl
noncomputable def wX10_worldsWithAtMost_j33 (qq : Int32 → Int32 → Option (Int32)) (x1 : Int32) (x2 : Int32) (x3 : Int32) (s : wS) : Option (Int32) := qq x2 (x3 + 1)
theorem wX10_worldsWithAtMost_u33 {x1 : Int32} {x2 : Int32} {x3 : Int32} {s : wS} {qq : Int32 → Int32 → Option (Int32)} {x : Int32} {r : ri_R} (ih : ∀ {x2 : Int32} {x3 : Int32} , qq x2 x3 = some x → gRun 1 160 4 [some (.ref 1), some (.int x1), some (.int x2), some (.int x3)] [] (wmk s) r) (he39 : ∀ (x2 : Int32) (w1 : Int32) (w3 : Int32) , x = x2 → gRun 1 160 39 [some (.ref 1), some (.int w1), some (.int x2), some (.int w3)] [] (wmk s) r) (h : wX10_worldsWithAtMost_j33 qq x1 x2 x3 s = some x) : gRun 1 160 33 [some (.ref 1), some (.int x1), some (.int x2), some (.int x3)] [] (wmk s) r := by
  unfold wX10_worldsWithAtMost_j33 at h
  refine gR_go 2 (pc1 := 4) (L1 := [some (.ref 1), some (.int x1), some (.int x2), some (.int (x3 + 1))]) (st1 := []) (fun _ _ => rfl) ?_
  exact ih h
noncomputable def wX10_worldsWithAtMost_h4 (x1 : Int32) (s : wS) : Nat → Int32 → Int32 → Option (Int32)
  | 0, _, _ => none
  | n + 1, x2, x3 => (wX0_worlds 15 s).bind fun t1 => if x3 < t1 then ((wX10_at 33 x3 s).bind fun t4 => if x1 < t4 then (wX10_worldsWithAtMost_j33 (wX10_worldsWithAtMost_h4 x1 s n) x1 x2 x3 s) else (wX10_worldsWithAtMost_j33 (wX10_worldsWithAtMost_h4 x1 s n) x1 (x2 + 1) x3 s)) else (some x2)
theorem wX10_worldsWithAtMost_t4 {x1 : Int32} {s : wS} {x : Int32} {r : ri_R} (he39 : ∀ (x2 : Int32) (w1 : Int32) (w3 : Int32) , x = x2 → gRun 1 160 39 [some (.ref 1), some (.int w1), some (.int x2), some (.int w3)] [] (wmk s) r) : ∀ {n : Nat} {x2 : Int32} {x3 : Int32} , wX10_worldsWithAtMost_h4 x1 s n x2 x3 = some x → gRun 1 160 4 [some (.ref 1), some (.int x1), some (.int x2), some (.int x3)] [] (wmk s) r := by
  intro n
  induction n with
  | zero => intro x2 x3 h; cases (show (none : Option (Int32)) = some x from h)
  | succ n ih =>
    intro x2 x3 h
    rw [wX10_worldsWithAtMost_h4] at h
    refine gR_go 2 (pc1 := 6) (L1 := [some (.ref 1), some (.int x1), some (.int x2), some (.int x3)]) (st1 := [.ref 1, .int x3]) (fun _ _ => rfl) ?_
    refine gR_gfR (k := 0) (k' := 14) rfl rfl rfl rfl ?_
    refine gR_gfR (k := 14) (k' := 15) rfl rfl rfl rfl ?_
    obtain ⟨t1, e2, h⟩ := gb h
    refine gR_cvI (wX0_worlds_s rfl e2) (Nat.le_of_ble_eq_true rfl) rfl rfl rfl rfl rfl ?_
    rcases gif h with ⟨c3, h⟩ | ⟨c3, h⟩
    · refine gR_ic_ge_f rfl c3 ?_
      refine gR_go 1 (pc1 := 19) (L1 := [some (.ref 1), some (.int x1), some (.int x2), some (.int x3)]) (st1 := [.ref 1]) (fun _ _ => rfl) ?_
      refine gR_gfR (k := 0) (k' := 33) rfl rfl rfl rfl ?_
      refine gR_go 1 (pc1 := 23) (L1 := [some (.ref 1), some (.int x1), some (.int x2), some (.int x3)]) (st1 := [.int x3, .ref 34]) (fun _ _ => rfl) ?_
      obtain ⟨t4, e5, h⟩ := gb h
      refine gR_csI (wX10_at_s rfl e5) (Nat.le_of_ble_eq_true rfl) rfl rfl rfl rfl ?_
      refine gR_go 1 (pc1 := 27) (L1 := [some (.ref 1), some (.int x1), some (.int x2), some (.int x3)]) (st1 := [.int x1, .int t4]) (fun _ _ => rfl) ?_
      rcases gif h with ⟨c6, h⟩ | ⟨c6, h⟩
      · refine gR_ic_gt_j rfl c6 rfl ?_
        exact wX10_worldsWithAtMost_u33 ih he39 h
      · refine gR_ic_gt_f rfl c6 ?_
        refine gR_go 1 (pc1 := 33) (L1 := [some (.ref 1), some (.int x1), some (.int (x2 + 1)), some (.int x3)]) (st1 := []) (fun _ _ => rfl) ?_
        exact wX10_worldsWithAtMost_u33 ih he39 h
    · refine gR_ic_ge_j rfl c3 rfl ?_
      exact he39 _ _ _ (Option.some.inj h).symm
noncomputable def wX10_worldsWithAtMost (x1 : Int32) (s : wS) : Option (Int32) := (wX10_worldsWithAtMost_h4 x1 s wFuel 0 0).bind fun t8 => some t8
theorem wX10_worldsWithAtMost_s {x1 : Int32} {s : wS} {rv : Int32} (h : wX10_worldsWithAtMost x1 s = some rv) : gEv 2 160 [.ref 1, .int x1] (wmk s) (some (.int rv), wmk s, 0, 0) := by
  refine gEv_of (d := 1) (L := [some (.ref 1), some (.int x1), none, none]) rfl ?_
  unfold wX10_worldsWithAtMost at h
  refine gR_go 4 (pc1 := 4) (L1 := [some (.ref 1), some (.int x1), some (.int 0), some (.int 0)]) (st1 := []) (fun _ _ => rfl) ?_
  obtain ⟨z7, ez7, h⟩ := gb h
  refine wX10_worldsWithAtMost_t4 ?_  ez7
  · intro t8 w9 w10 hz
    replace hz := hz.symm
    subst hz
    refine gR_go 1 (pc1 := 40) (L1 := [some (.ref 1), some (.int w9), some (.int t8), some (.int w10)]) (st1 := [.int t8]) (fun _ _ => rfl) ?_
    obtain rfl := gi1 h
    exact gR_ri rfl rfl
noncomputable def wX10_bestWorld_j53 (qq : Int32 → Int32 → Option (Int32)) (x2 : Int32) (x3 : Int32) (s : wS) : Option (Int32) := qq x2 (x3 + 1)
theorem wX10_bestWorld_u53 {x2 : Int32} {x3 : Int32} {s : wS} {w1 : Nat} {qq : Int32 → Int32 → Option (Int32)} {x : Int32} {r : ri_R} (ih : ∀ {x2 : Int32} {x3 : Int32} {w1 : Nat} , qq x2 x3 = some x → gRun 5 161 18 [some (.ref 1), some (.ref (w1 + 1)), some (.int x2), some (.int x3)] [] (wmk s) r) (he59 : ∀ (x2 : Int32) (w1 : Nat) (w3 : Int32) , x = x2 → gRun 5 161 59 [some (.ref 1), some (.ref (w1 + 1)), some (.int x2), some (.int w3)] [] (wmk s) r) (h : wX10_bestWorld_j53 qq x2 x3 s = some x) : gRun 5 161 53 [some (.ref 1), some (.ref (w1 + 1)), some (.int x2), some (.int x3)] [] (wmk s) r := by
  unfold wX10_bestWorld_j53 at h
  refine gR_go 2 (pc1 := 18) (L1 := [some (.ref 1), some (.ref (w1 + 1)), some (.int x2), some (.int (x3 + 1))]) (st1 := []) (fun _ _ => rfl) ?_
  exact ih h
noncomputable def wX10_bestWorld_h18 (s : wS) : Nat → Int32 → Int32 → Option (Int32)
  | 0, _, _ => none
  | n + 1, x2, x3 => (wX0_worlds 15 s).bind fun t6 => if x3 < t6 then ((wX10_at 33 x3 s).bind fun t9 => (wX10_at 33 x2 s).bind fun t11 => if t9 < t11 then (wX10_bestWorld_j53 (wX10_bestWorld_h18 s n) x3 x3 s) else (wX10_bestWorld_j53 (wX10_bestWorld_h18 s n) x2 x3 s)) else (some x2)
theorem wX10_bestWorld_t18 {s : wS} {x : Int32} {r : ri_R} (he59 : ∀ (x2 : Int32) (w1 : Nat) (w3 : Int32) , x = x2 → gRun 5 161 59 [some (.ref 1), some (.ref (w1 + 1)), some (.int x2), some (.int w3)] [] (wmk s) r) : ∀ {n : Nat} {x2 : Int32} {x3 : Int32} {w1 : Nat} , wX10_bestWorld_h18 s n x2 x3 = some x → gRun 5 161 18 [some (.ref 1), some (.ref (w1 + 1)), some (.int x2), some (.int x3)] [] (wmk s) r := by
  intro n
  induction n with
  | zero => intro x2 x3 w1 h; cases (show (none : Option (Int32)) = some x from h)
  | succ n ih =>
    intro x2 x3 w1 h
    rw [wX10_bestWorld_h18] at h
    refine gR_go 2 (pc1 := 20) (L1 := [some (.ref 1), some (.ref (w1 + 1)), some (.int x2), some (.int x3)]) (st1 := [.ref 1, .int x3]) (fun _ _ => rfl) ?_
    refine gR_gfR (k := 0) (k' := 14) rfl rfl rfl rfl ?_
    refine gR_gfR (k := 14) (k' := 15) rfl rfl rfl rfl ?_
    obtain ⟨t6, e7, h⟩ := gb h
    refine gR_cvI (wX0_worlds_s rfl e7) (Nat.le_of_ble_eq_true rfl) rfl rfl rfl rfl rfl ?_
    rcases gif h with ⟨c8, h⟩ | ⟨c8, h⟩
    · refine gR_ic_ge_f rfl c8 ?_
      refine gR_go 1 (pc1 := 33) (L1 := [some (.ref 1), some (.ref (w1 + 1)), some (.int x2), some (.int x3)]) (st1 := [.ref 1]) (fun _ _ => rfl) ?_
      refine gR_gfR (k := 0) (k' := 33) rfl rfl rfl rfl ?_
      refine gR_go 1 (pc1 := 37) (L1 := [some (.ref 1), some (.ref (w1 + 1)), some (.int x2), some (.int x3)]) (st1 := [.int x3, .ref 34]) (fun _ _ => rfl) ?_
      obtain ⟨t9, e10, h⟩ := gb h
      refine gR_csI (wX10_at_s rfl e10) (Nat.le_of_ble_eq_true rfl) rfl rfl rfl rfl ?_
      refine gR_go 1 (pc1 := 41) (L1 := [some (.ref 1), some (.ref (w1 + 1)), some (.int x2), some (.int x3)]) (st1 := [.ref 1, .int t9]) (fun _ _ => rfl) ?_
      refine gR_gfR (k := 0) (k' := 33) rfl rfl rfl rfl ?_
      refine gR_go 1 (pc1 := 45) (L1 := [some (.ref 1), some (.ref (w1 + 1)), some (.int x2), some (.int x3)]) (st1 := [.int x2, .ref 34, .int t9]) (fun _ _ => rfl) ?_
      obtain ⟨t11, e12, h⟩ := gb h
      refine gR_csI (wX10_at_s rfl e12) (Nat.le_of_ble_eq_true rfl) rfl rfl rfl rfl ?_
      rcases gif h with ⟨c13, h⟩ | ⟨c13, h⟩
      · refine gR_ic_ge_f rfl c13 ?_
        refine gR_go 2 (pc1 := 53) (L1 := [some (.ref 1), some (.ref (w1 + 1)), some (.int x3), some (.int x3)]) (st1 := []) (fun _ _ => rfl) ?_
        exact wX10_bestWorld_u53 ih he59 h
      · refine gR_ic_ge_j rfl c13 rfl ?_
        exact wX10_bestWorld_u53 ih he59 h
    · refine gR_ic_ge_j rfl c8 rfl ?_
      exact he59 _ _ _ (Option.some.inj h).symm
noncomputable def wX10_bestWorld (k1 : Nat) (s : wS) : Option (Int32 × wS) := (wX2_first 14 s).bind fun t1 => (wX10_countFalse k1 t1 (-1) (-1) s).bind fun s4 => (wX10_bestWorld_h18 s4 wFuel 0 1).bind fun t15 => some (t15, s4)
theorem wX10_bestWorld_s {k1 : Nat} {s : wS} {rv : Int32} {rs : wS} (hk1 : wkd k1 = 3) (h : wX10_bestWorld k1 s = some (rv, rs)) : gEv 6 161 [.ref 1, .ref (k1 + 1)] (wmk s) (some (.int rv), wmk rs, 0, 0) := by
  refine gEv_of (d := 5) (L := [some (.ref 1), some (.ref (k1 + 1)), none, none]) rfl ?_
  unfold wX10_bestWorld at h
  refine gR_go 3 (pc1 := 3) (L1 := [some (.ref 1), some (.ref (k1 + 1)), none, none]) (st1 := [.ref 1, .ref (k1 + 1), .ref 1]) (fun _ _ => rfl) ?_
  refine gR_gfR (k := 0) (k' := 14) rfl rfl rfl rfl ?_
  obtain ⟨t1, e2, h⟩ := gb h
  refine gR_cvI (wX2_first_s rfl e2) (Nat.le_of_ble_eq_true rfl) rfl rfl rfl rfl rfl ?_
  refine gR_go 2 (pc1 := 11) (L1 := [some (.ref 1), some (.ref (k1 + 1)), none, none]) (st1 := [.int (-1), .int (-1), .int t1, .ref (k1 + 1), .ref 1]) (fun _ _ => rfl) ?_
  obtain ⟨s4, e5, h⟩ := gb h
  refine gR_cvV (wX10_countFalse_s hk1 e5) (Nat.le_of_ble_eq_true rfl) rfl rfl rfl rfl rfl ?_
  refine gR_go 4 (pc1 := 18) (L1 := [some (.ref 1), some (.ref (k1 + 1)), some (.int 0), some (.int 1)]) (st1 := []) (fun _ _ => rfl) ?_
  obtain ⟨z14, ez14, h⟩ := gb h
  refine wX10_bestWorld_t18 ?_  ez14
  · intro t15 w16 w17 hz
    replace hz := hz.symm
    subst hz
    refine gR_go 1 (pc1 := 60) (L1 := [some (.ref 1), some (.ref (w16 + 1)), some (.int t15), some (.int w17)]) (st1 := [.int t15]) (fun _ _ => rfl) ?_
    obtain ⟨rfl, rfl⟩ := gi2 h
    exact gR_ri rfl rfl
noncomputable def wX10_fewest (x1 : Int32) (x2 : Int32) (s : wS) : Option (Int32 × wS) := (wX10_lawInUse x1 s).bind fun (o1, s2) => Option.elim o1 (some ((-1), s2)) (fun k4 => (wX10_isOutside x2 3 s2).bind fun t5 => if t5 = 0 then ((wX10_bestWorld k4 s2).bind fun (t8, s9) => (wX10_at 33 t8 s9).bind fun t11 => if x2 = 0 then (some (t11, s9)) else if x2 = 1 then (some (t8, s9)) else ((wX10_worldsWithAtMost t11 s9).bind fun t15 => some (t15, s9))) else (some ((-1), s2)))
theorem wX10_fewest_s {x1 : Int32} {x2 : Int32} {s : wS} {rv : Int32} {rs : wS} (h : wX10_fewest x1 x2 s = some (rv, rs)) : gEv 7 120 [.ref 1, .int x1, .int x2] (wmk s) (some (.int rv), wmk rs, 0, 0) := by
  refine gEv_of (d := 6) (L := [some (.ref 1), some (.int x1), some (.int x2), none, none, none]) rfl ?_
  unfold wX10_fewest at h
  refine gR_go 2 (pc1 := 2) (L1 := [some (.ref 1), some (.int x1), some (.int x2), none, none, none]) (st1 := [.int x1, .ref 1]) (fun _ _ => rfl) ?_
  obtain ⟨⟨o1, s2⟩, e3, h⟩ := gb h
  dsimp only at h
  refine gR_cvR (wX10_lawInUse_s e3) (Nat.le_of_ble_eq_true rfl) rfl rfl rfl rfl rfl ?_
  refine gR_astn (L1 := [some (.ref 1), some (.int x1), some (.int x2), some (wrv o1), none, none]) rfl rfl rfl ?_
  refine gR_aldn rfl rfl ?_
  rcases gel h with ⟨ek4, hh⟩ | ⟨k4, ek4, hh⟩
  · clear h
    subst ek4
    have h := hh
    clear hh
    refine gR_ifnull_n_j rfl rfl ?_
    refine gR_go 1 (pc1 := 19) (L1 := [some (.ref 1), some (.int x1), some (.int x2), some (.null), none, none]) (st1 := [.int (-1)]) (fun _ _ => rfl) ?_
    obtain ⟨rfl, rfl⟩ := gi2 h
    exact gR_ri rfl rfl
  · clear h
    subst ek4
    have h := hh
    clear hh
    refine gR_ifnull_r_f rfl ?_
    refine gR_go 2 (pc1 := 12) (L1 := [some (.ref 1), some (.int x1), some (.int x2), some (.ref (k4 + 1)), none, none]) (st1 := [.int 3, .int x2]) (fun _ _ => rfl) ?_
    obtain ⟨t5, e6, h⟩ := gb h
    refine gR_csI (wX10_isOutside_s e6) (Nat.le_of_ble_eq_true rfl) rfl rfl rfl rfl ?_
    rcases gif h with ⟨c7, h⟩ | ⟨c7, h⟩
    · refine gR_iz_eq_j rfl c7 rfl ?_
      refine gR_go 2 (pc1 := 22) (L1 := [some (.ref 1), some (.int x1), some (.int x2), some (.ref (k4 + 1)), none, none]) (st1 := [.ref (k4 + 1), .ref 1]) (fun _ _ => rfl) ?_
      obtain ⟨⟨t8, s9⟩, e10, h⟩ := gb h
      dsimp only at h
      refine gR_cvI (wX10_bestWorld_s (wX10_lawInUse_q e3) e10) (Nat.le_of_ble_eq_true rfl) rfl rfl rfl rfl rfl ?_
      refine gR_go 2 (pc1 := 28) (L1 := [some (.ref 1), some (.int x1), some (.int x2), some (.ref (k4 + 1)), some (.int t8), none]) (st1 := [.ref 1]) (fun _ _ => rfl) ?_
      refine gR_gfR (k := 0) (k' := 33) rfl rfl rfl rfl ?_
      refine gR_go 1 (pc1 := 33) (L1 := [some (.ref 1), some (.int x1), some (.int x2), some (.ref (k4 + 1)), some (.int t8), none]) (st1 := [.int t8, .ref 34]) (fun _ _ => rfl) ?_
      obtain ⟨t11, e12, h⟩ := gb h
      refine gR_csI (wX10_at_s rfl e12) (Nat.le_of_ble_eq_true rfl) rfl rfl rfl rfl ?_
      refine gR_go 2 (pc1 := 39) (L1 := [some (.ref 1), some (.int x1), some (.int x2), some (.ref (k4 + 1)), some (.int t8), some (.int t11)]) (st1 := [.int x2]) (fun _ _ => rfl) ?_
      rcases gif h with ⟨c13, h⟩ | ⟨c13, h⟩
      · refine gR_ls_k rfl c13 rfl rfl ?_
        refine gR_go 1 (pc1 := 66) (L1 := [some (.ref 1), some (.int x1), some (.int x2), some (.ref (k4 + 1)), some (.int t8), some (.int t11)]) (st1 := [.int t11]) (fun _ _ => rfl) ?_
        obtain ⟨rfl, rfl⟩ := gi2 h
        exact gR_ri rfl rfl
      · rcases gif h with ⟨c14, h⟩ | ⟨c14, h⟩
        · refine gR_ls_k rfl c14 rfl rfl ?_
          refine gR_go 1 (pc1 := 69) (L1 := [some (.ref 1), some (.int x1), some (.int x2), some (.ref (k4 + 1)), some (.int t8), some (.int t11)]) (st1 := [.int t8]) (fun _ _ => rfl) ?_
          obtain ⟨rfl, rfl⟩ := gi2 h
          exact gR_ri rfl rfl
        · refine gR_ls_d [0, 1] rfl (gl1 c13 (gl1 c14 gl0)) (by decide) (by decide) rfl ?_
          refine gR_go 2 (pc1 := 73) (L1 := [some (.ref 1), some (.int x1), some (.int x2), some (.ref (k4 + 1)), some (.int t8), some (.int t11)]) (st1 := [.int t11, .ref 1]) (fun _ _ => rfl) ?_
          obtain ⟨t15, e16, h⟩ := gb h
          refine gR_cvI (wX10_worldsWithAtMost_s e16) (Nat.le_of_ble_eq_true rfl) rfl rfl rfl rfl rfl ?_
          obtain ⟨rfl, rfl⟩ := gi2 h
          exact gR_ri rfl rfl
    · refine gR_iz_eq_f rfl c7 ?_
      refine gR_go 1 (pc1 := 19) (L1 := [some (.ref 1), some (.int x1), some (.int x2), some (.ref (k4 + 1)), none, none]) (st1 := [.int (-1)]) (fun _ _ => rfl) ?_
      obtain ⟨rfl, rfl⟩ := gi2 h
      exact gR_ri rfl rfl
noncomputable def wX10_falseOnes_j72 (qq : Int64 → Int32 → Option (Int64)) (k2 : Nat) (x3 : Int32) (x4 : Int64) (x6 : Int32) (s : wS) : Option (Int64) := qq x4 (x6 + 1)
theorem wX10_falseOnes_u72 {k2 : Nat} {x3 : Int32} {x4 : Int64} {x6 : Int32} {s : wS} {w1 : Int32} {qq : Int64 → Int32 → Option (Int64)} {x : Int64} {r : ri_R} (ih : ∀ {x4 : Int64} {x6 : Int32} {w1 : Int32} , qq x4 x6 = some x → gRun 6 121 26 [some (.ref 1), some (.int w1), some (.ref (k2 + 1)), some (.int x3), some (.long x4), none, some (.int x6)] [] (wmk s) r) (he78 : ∀ (x4 : Int64) (w1 : Int32) (w2 : Nat) (w3 : Int32) (w6 : Int32) , x = x4 → gRun 6 121 78 [some (.ref 1), some (.int w1), some (.ref (w2 + 1)), some (.int w3), some (.long x4), none, some (.int w6)] [] (wmk s) r) (hk2 : wkd k2 = 3) (h : wX10_falseOnes_j72 qq k2 x3 x4 x6 s = some x) : gRun 6 121 72 [some (.ref 1), some (.int w1), some (.ref (k2 + 1)), some (.int x3), some (.long x4), none, some (.int x6)] [] (wmk s) r := by
  unfold wX10_falseOnes_j72 at h
  refine gR_go 2 (pc1 := 26) (L1 := [some (.ref 1), some (.int w1), some (.ref (k2 + 1)), some (.int x3), some (.long x4), none, some (.int (x6 + 1))]) (st1 := []) (fun _ _ => rfl) ?_
  exact ih h
noncomputable def wX10_falseOnes_h26 (k2 : Nat) (x3 : Int32) (s : wS) : Nat → Int64 → Int32 → Option (Int64)
  | 0, _, _ => none
  | n + 1, x4, x6 => if x6 < 40 then ((wX2_first 14 s).bind fun t9 => (wX2_isLookedAt 14 x6 t9 s).bind fun t11 => if t11 = 0 then (wX10_falseOnes_j72 (wX10_falseOnes_h26 k2 x3 s n) k2 x3 x4 x6 s) else ((wX10_isTrue k2 x6 x3 s).bind fun t14 => if t14 = 0 then (wX10_falseOnes_j72 (wX10_falseOnes_h26 k2 x3 s n) k2 x3 (x4 ||| (1 <<< ((x6 : Int32).toInt64 &&& 63))) x6 s) else (wX10_falseOnes_j72 (wX10_falseOnes_h26 k2 x3 s n) k2 x3 x4 x6 s))) else (some x4)
theorem wX10_falseOnes_t26 {k2 : Nat} {x3 : Int32} {s : wS} {x : Int64} {r : ri_R} (hk2 : wkd k2 = 3) (he78 : ∀ (x4 : Int64) (w1 : Int32) (w2 : Nat) (w3 : Int32) (w6 : Int32) , x = x4 → gRun 6 121 78 [some (.ref 1), some (.int w1), some (.ref (w2 + 1)), some (.int w3), some (.long x4), none, some (.int w6)] [] (wmk s) r) : ∀ {n : Nat} {x4 : Int64} {x6 : Int32} {w1 : Int32} , wX10_falseOnes_h26 k2 x3 s n x4 x6 = some x → gRun 6 121 26 [some (.ref 1), some (.int w1), some (.ref (k2 + 1)), some (.int x3), some (.long x4), none, some (.int x6)] [] (wmk s) r := by
  intro n
  induction n with
  | zero => intro x4 x6 w1 h; cases (show (none : Option (Int64)) = some x from h)
  | succ n ih =>
    intro x4 x6 w1 h
    rw [wX10_falseOnes_h26] at h
    refine gR_go 2 (pc1 := 30) (L1 := [some (.ref 1), some (.int w1), some (.ref (k2 + 1)), some (.int x3), some (.long x4), none, some (.int x6)]) (st1 := [.int 40, .int x6]) (fun _ _ => rfl) ?_
    rcases gif h with ⟨c8, h⟩ | ⟨c8, h⟩
    · refine gR_ic_ge_f rfl c8 ?_
      refine gR_go 1 (pc1 := 34) (L1 := [some (.ref 1), some (.int w1), some (.ref (k2 + 1)), some (.int x3), some (.long x4), none, some (.int x6)]) (st1 := [.ref 1]) (fun _ _ => rfl) ?_
      refine gR_gfR (k := 0) (k' := 14) rfl rfl rfl rfl ?_
      refine gR_go 2 (pc1 := 40) (L1 := [some (.ref 1), some (.int w1), some (.ref (k2 + 1)), some (.int x3), some (.long x4), none, some (.int x6)]) (st1 := [.ref 1, .int x6, .ref 15]) (fun _ _ => rfl) ?_
      refine gR_gfR (k := 0) (k' := 14) rfl rfl rfl rfl ?_
      obtain ⟨t9, e10, h⟩ := gb h
      refine gR_cvI (wX2_first_s rfl e10) (Nat.le_of_ble_eq_true rfl) rfl rfl rfl rfl rfl ?_
      obtain ⟨t11, e12, h⟩ := gb h
      refine gR_cvI (wX2_isLookedAt_s rfl e12) (Nat.le_of_ble_eq_true rfl) rfl rfl rfl rfl rfl ?_
      rcases gif h with ⟨c13, h⟩ | ⟨c13, h⟩
      · refine gR_iz_eq_j rfl c13 rfl ?_
        exact wX10_falseOnes_u72 ih he78 hk2 h
      · refine gR_iz_eq_f rfl c13 ?_
        refine gR_go 4 (pc1 := 57) (L1 := [some (.ref 1), some (.int w1), some (.ref (k2 + 1)), some (.int x3), some (.long x4), none, some (.int x6)]) (st1 := [.int x3, .int x6, .ref (k2 + 1), .ref 1]) (fun _ _ => rfl) ?_
        obtain ⟨t14, e15, h⟩ := gb h
        refine gR_cvI (wX10_isTrue_s hk2 e15) (Nat.le_of_ble_eq_true rfl) rfl rfl rfl rfl rfl ?_
        rcases gif h with ⟨c16, h⟩ | ⟨c16, h⟩
        · refine gR_iz_ne_f rfl c16 ?_
          refine gR_go 6 (pc1 := 72) (L1 := [some (.ref 1), some (.int w1), some (.ref (k2 + 1)), some (.int x3), some (.long (x4 ||| (1 <<< ((x6 : Int32).toInt64 &&& 63)))), none, some (.int x6)]) (st1 := []) (fun _ _ => rfl) ?_
          exact wX10_falseOnes_u72 ih he78 hk2 h
        · refine gR_iz_ne_j rfl c16 rfl ?_
          exact wX10_falseOnes_u72 ih he78 hk2 h
    · refine gR_ic_ge_j rfl c8 rfl ?_
      exact he78 _ _ _ _ _ (Option.some.inj h).symm
noncomputable def wX10_falseOnes (x1 : Int32) (s : wS) : Option (Int64 × wS) := (wX10_lawInUse x1 s).bind fun (o1, s2) => Option.elim o1 (some ((-1), s2)) (fun k4 => (wX10_bestWorld k4 s2).bind fun (t5, s6) => (wX10_falseOnes_h26 k4 t5 s6 wFuel 0 0).bind fun t18 => some (t18, s6))
theorem wX10_falseOnes_s {x1 : Int32} {s : wS} {rv : Int64} {rs : wS} (h : wX10_falseOnes x1 s = some (rv, rs)) : gEv 7 121 [.ref 1, .int x1] (wmk s) (some (.long rv), wmk rs, 0, 0) := by
  refine gEv_of (d := 6) (L := [some (.ref 1), some (.int x1), none, none, none, none, none]) rfl ?_
  unfold wX10_falseOnes at h
  refine gR_go 2 (pc1 := 2) (L1 := [some (.ref 1), some (.int x1), none, none, none, none, none]) (st1 := [.int x1, .ref 1]) (fun _ _ => rfl) ?_
  obtain ⟨⟨o1, s2⟩, e3, h⟩ := gb h
  dsimp only at h
  refine gR_cvR (wX10_lawInUse_s e3) (Nat.le_of_ble_eq_true rfl) rfl rfl rfl rfl rfl ?_
  refine gR_astn (L1 := [some (.ref 1), some (.int x1), some (wrv o1), none, none, none, none]) rfl rfl rfl ?_
  refine gR_aldn rfl rfl ?_
  rcases gel h with ⟨ek4, hh⟩ | ⟨k4, ek4, hh⟩
  · clear h
    subst ek4
    have h := hh
    clear hh
    refine gR_ifnonnull_n_f rfl ?_
    refine gR_go 1 (pc1 := 13) (L1 := [some (.ref 1), some (.int x1), some (.null), none, none, none, none]) (st1 := [.long (-1)]) (fun _ _ => rfl) ?_
    obtain ⟨rfl, rfl⟩ := gi2 h
    exact gR_rl rfl rfl
  · clear h
    subst ek4
    have h := hh
    clear hh
    refine gR_ifnonnull_r_j rfl rfl ?_
    refine gR_go 2 (pc1 := 16) (L1 := [some (.ref 1), some (.int x1), some (.ref (k4 + 1)), none, none, none, none]) (st1 := [.ref (k4 + 1), .ref 1]) (fun _ _ => rfl) ?_
    obtain ⟨⟨t5, s6⟩, e7, h⟩ := gb h
    dsimp only at h
    refine gR_cvI (wX10_bestWorld_s (wX10_lawInUse_q e3) e7) (Nat.le_of_ble_eq_true rfl) rfl rfl rfl rfl rfl ?_
    refine gR_go 5 (pc1 := 26) (L1 := [some (.ref 1), some (.int x1), some (.ref (k4 + 1)), some (.int t5), some (.long 0), none, some (.int 0)]) (st1 := []) (fun _ _ => rfl) ?_
    obtain ⟨z17, ez17, h⟩ := gb h
    refine wX10_falseOnes_t26 (wX10_lawInUse_q e3) ?_  ez17
    · intro t18 w19 w20 w21 w22 hz
      replace hz := hz.symm
      subst hz
      refine gR_go 1 (pc1 := 80) (L1 := [some (.ref 1), some (.int w19), some (.ref (w20 + 1)), some (.int w21), some (.long t18), none, some (.int w22)]) (st1 := [.long t18]) (fun _ _ => rfl) ?_
      obtain ⟨rfl, rfl⟩ := gi2 h
      exact gR_rl rfl rfl
noncomputable def wX10_isLesserSet_j23 (s : wS) : Option (Int32) := some 1
theorem wX10_isLesserSet_u23 {s : wS} {w0 : Int32} {w1 : Int32} {w2 : Int32} {rv : Int32} (h : wX10_isLesserSet_j23 s = some rv) : gRun 1 146 23 [some (.int w0), some (.int w1), some (.int w2)] [] (wmk s) (some (.int rv), wmk s, 0, 0) := by
  unfold wX10_isLesserSet_j23 at h
  refine gR_go 2 (pc1 := 28) (L1 := [some (.int w0), some (.int w1), some (.int w2)]) (st1 := [.int 1]) (fun _ _ => rfl) ?_
  obtain rfl := gi1 h
  exact gR_rzc rfl rfl rfl
noncomputable def wX10_isLesserSet (x0 : Int32) (x1 : Int32) (s : wS) : Option (Int32) := (wJ6_bitCount_0f7a4 x0 s).bind fun t1 => (wJ6_bitCount_0f7a4 x1 s).bind fun t3 => if (t1 - t3) < 0 then (wX10_isLesserSet_j23 s) else (if (t1 - t3) = 0 then (if x0 < x1 then (wX10_isLesserSet_j23 s) else (some 0)) else (some 0))
theorem wX10_isLesserSet_s {x0 : Int32} {x1 : Int32} {s : wS} {rv : Int32} (h : wX10_isLesserSet x0 x1 s = some rv) : gEv 2 146 [.int x0, .int x1] (wmk s) (some (.int rv), wmk s, 0, 0) := by
  refine gEv_of (d := 1) (L := [some (.int x0), some (.int x1), none]) rfl ?_
  unfold wX10_isLesserSet at h
  refine gR_go 1 (pc1 := 1) (L1 := [some (.int x0), some (.int x1), none]) (st1 := [.int x0]) (fun _ _ => rfl) ?_
  obtain ⟨t1, e2, h⟩ := gb h
  refine gR_csI (wJ6_bitCount_0f7a4_s e2) (Nat.le_of_ble_eq_true rfl) rfl rfl rfl rfl ?_
  refine gR_go 1 (pc1 := 5) (L1 := [some (.int x0), some (.int x1), none]) (st1 := [.int x1, .int t1]) (fun _ _ => rfl) ?_
  obtain ⟨t3, e4, h⟩ := gb h
  refine gR_csI (wJ6_bitCount_0f7a4_s e4) (Nat.le_of_ble_eq_true rfl) rfl rfl rfl rfl ?_
  refine gR_go 3 (pc1 := 11) (L1 := [some (.int x0), some (.int x1), some (.int (t1 - t3))]) (st1 := [.int (t1 - t3)]) (fun _ _ => rfl) ?_
  rcases gif h with ⟨c5, h⟩ | ⟨c5, h⟩
  · refine gR_iz_lt_j rfl c5 rfl ?_
    exact wX10_isLesserSet_u23 h
  · refine gR_iz_lt_f rfl c5 ?_
    refine gR_go 1 (pc1 := 15) (L1 := [some (.int x0), some (.int x1), some (.int (t1 - t3))]) (st1 := [.int (t1 - t3)]) (fun _ _ => rfl) ?_
    rcases gif h with ⟨c6, h⟩ | ⟨c6, h⟩
    · refine gR_iz_ne_f rfl c6 ?_
      refine gR_go 2 (pc1 := 20) (L1 := [some (.int x0), some (.int x1), some (.int (t1 - t3))]) (st1 := [.int x1, .int x0]) (fun _ _ => rfl) ?_
      rcases gif h with ⟨c7, h⟩ | ⟨c7, h⟩
      · refine gR_ic_ge_f rfl c7 ?_
        exact wX10_isLesserSet_u23 h
      · refine gR_ic_ge_j rfl c7 rfl ?_
        refine gR_go 1 (pc1 := 28) (L1 := [some (.int x0), some (.int x1), some (.int (t1 - t3))]) (st1 := [.int 0]) (fun _ _ => rfl) ?_
        obtain rfl := gi1 h
        exact gR_rzc rfl rfl rfl
    · refine gR_iz_ne_j rfl c6 rfl ?_
      refine gR_go 1 (pc1 := 28) (L1 := [some (.int x0), some (.int x1), some (.int (t1 - t3))]) (st1 := [.int 0]) (fun _ _ => rfl) ?_
      obtain rfl := gi1 h
      exact gR_rzc rfl rfl rfl
noncomputable def wX10_markLiars_j132 (qq : Int32 → wS → Option (wS)) (k1 : Nat) (x2 : Int32) (s : wS) : Option (wS) := qq (x2 + 1) s
theorem wX10_markLiars_u132 {k1 : Nat} {x2 : Int32} {s : wS} {w3 : Option Value} {w4 : Option Value} {w5 : Option Value} {w6 : Option Value} {qq : Int32 → wS → Option (wS)} {x : wS} {r : ri_R} (ih : ∀ {x2 : Int32} {s : wS} {w3 : Option Value} {w4 : Option Value} {w5 : Option Value} {w6 : Option Value} , qq x2 s = some x → gRun 4 162 9 [some (.ref 1), some (.ref (k1 + 1)), some (.int x2), w3, w4, w5, w6] [] (wmk s) r) (he138 : ∀ (s : wS) (w1 : Nat) (w2 : Int32) (w3 : Option Value) (w4 : Option Value) (w5 : Option Value) (w6 : Option Value) , x = s → gRun 4 162 138 [some (.ref 1), some (.ref (w1 + 1)), some (.int w2), w3, w4, w5, w6] [] (wmk s) r) (hk1 : wkd k1 = 3) (h : wX10_markLiars_j132 qq k1 x2 s = some x) : gRun 4 162 132 [some (.ref 1), some (.ref (k1 + 1)), some (.int x2), w3, w4, w5, w6] [] (wmk s) r := by
  unfold wX10_markLiars_j132 at h
  refine gR_go 2 (pc1 := 9) (L1 := [some (.ref 1), some (.ref (k1 + 1)), some (.int (x2 + 1)), w3, w4, w5, w6]) (st1 := []) (fun _ _ => rfl) ?_
  exact ih h
noncomputable def wX10_markLiars_j126 (qq : Int32 → wS → Option (wS)) (k1 : Nat) (x2 : Int32) (x3 : Int32) (x4 : Int32) (x5 : Int32) (s : wS) : Option (wS) := qq (x5 + 1) s
theorem wX10_markLiars_u126 {k1 : Nat} {x2 : Int32} {x3 : Int32} {x4 : Int32} {x5 : Int32} {s : wS} {w6 : Option Value} {qq : Int32 → wS → Option (wS)} {x : wS} {r : ri_R} (ih : ∀ {x5 : Int32} {s : wS} {w6 : Option Value} , qq x5 s = some x → gRun 4 162 56 [some (.ref 1), some (.ref (k1 + 1)), some (.int x2), some (.int x3), some (.int x4), some (.int x5), w6] [] (wmk s) r) (he132 : ∀ (s : wS) (w3 : Option Value) (w4 : Option Value) (w5 : Option Value) (w6 : Option Value) , x = s → gRun 4 162 132 [some (.ref 1), some (.ref (k1 + 1)), some (.int x2), w3, w4, w5, w6] [] (wmk s) r) (hk1 : wkd k1 = 3) (h : wX10_markLiars_j126 qq k1 x2 x3 x4 x5 s = some x) : gRun 4 162 126 [some (.ref 1), some (.ref (k1 + 1)), some (.int x2), some (.int x3), some (.int x4), some (.int x5), w6] [] (wmk s) r := by
  unfold wX10_markLiars_j126 at h
  refine gR_go 2 (pc1 := 56) (L1 := [some (.ref 1), some (.ref (k1 + 1)), some (.int x2), some (.int x3), some (.int x4), some (.int (x5 + 1)), w6]) (st1 := []) (fun _ _ => rfl) ?_
  exact ih h
noncomputable def wX10_markLiars_h56 (k1 : Nat) (x2 : Int32) (x3 : Int32) (x4 : Int32) : Nat → Int32 → wS → Option (wS)
  | 0, _, _ => none
  | n + 1, x5, s => (wX0_manyOf 15 x3 s).bind fun t14 => if x5 < t14 then (if ((x4 >>> (x5 &&& 31)) &&& 1) = 0 then ((wX10_slot x3 x5 s).bind fun t18 => (wX10_at 32 t18 s).bind fun t20 => (wX10_at 19 x2 s).bind fun t22 => (wX10_slot x3 x5 s).bind fun t24 => (wX10_set 32 t24 (t20 ||| (1 <<< (t22 &&& 31))) s).bind fun s27 => wX10_markLiars_j126 (wX10_markLiars_h56 k1 x2 x3 x4 n) k1 x2 x3 x4 x5 s27) else (wX10_markLiars_j126 (wX10_markLiars_h56 k1 x2 x3 x4 n) k1 x2 x3 x4 x5 s)) else (some s)
theorem wX10_markLiars_t56 {k1 : Nat} {x2 : Int32} {x3 : Int32} {x4 : Int32} {x : wS} {r : ri_R} (hk1 : wkd k1 = 3) (he132 : ∀ (s : wS) (w3 : Option Value) (w4 : Option Value) (w5 : Option Value) (w6 : Option Value) , x = s → gRun 4 162 132 [some (.ref 1), some (.ref (k1 + 1)), some (.int x2), w3, w4, w5, w6] [] (wmk s) r) : ∀ {n : Nat} {x5 : Int32} {s : wS} {w6 : Option Value} , wX10_markLiars_h56 k1 x2 x3 x4 n x5 s = some x → gRun 4 162 56 [some (.ref 1), some (.ref (k1 + 1)), some (.int x2), some (.int x3), some (.int x4), some (.int x5), w6] [] (wmk s) r := by
  intro n
  induction n with
  | zero => intro x5 s w6 h; cases (show (none : Option (wS)) = some x from h)
  | succ n ih =>
    intro x5 s w6 h
    rw [wX10_markLiars_h56] at h
    refine gR_go 2 (pc1 := 59) (L1 := [some (.ref 1), some (.ref (k1 + 1)), some (.int x2), some (.int x3), some (.int x4), some (.int x5), w6]) (st1 := [.ref 1, .int x5]) (fun _ _ => rfl) ?_
    refine gR_gfR (k := 0) (k' := 14) rfl rfl rfl rfl ?_
    refine gR_gfR (k := 14) (k' := 15) rfl rfl rfl rfl ?_
    refine gR_go 1 (pc1 := 66) (L1 := [some (.ref 1), some (.ref (k1 + 1)), some (.int x2), some (.int x3), some (.int x4), some (.int x5), w6]) (st1 := [.int x3, .ref 16, .int x5]) (fun _ _ => rfl) ?_
    obtain ⟨t14, e15, h⟩ := gb h
    refine gR_cvI (wX0_manyOf_s rfl e15) (Nat.le_of_ble_eq_true rfl) rfl rfl rfl rfl rfl ?_
    rcases gif h with ⟨c16, h⟩ | ⟨c16, h⟩
    · refine gR_ic_ge_f rfl c16 ?_
      refine gR_go 5 (pc1 := 79) (L1 := [some (.ref 1), some (.ref (k1 + 1)), some (.int x2), some (.int x3), some (.int x4), some (.int x5), w6]) (st1 := [.int ((x4 >>> (x5 &&& 31)) &&& 1)]) (fun _ _ => rfl) ?_
      rcases gif h with ⟨c17, h⟩ | ⟨c17, h⟩
      · refine gR_iz_ne_f rfl c17 ?_
        refine gR_go 1 (pc1 := 83) (L1 := [some (.ref 1), some (.ref (k1 + 1)), some (.int x2), some (.int x3), some (.int x4), some (.int x5), w6]) (st1 := [.ref 1]) (fun _ _ => rfl) ?_
        refine gR_gfR (k := 0) (k' := 32) rfl rfl rfl rfl ?_
        refine gR_go 2 (pc1 := 89) (L1 := [some (.ref 1), some (.ref (k1 + 1)), some (.int x2), some (.int x3), some (.int x4), some (.int x5), w6]) (st1 := [.int x5, .int x3, .ref 33]) (fun _ _ => rfl) ?_
        obtain ⟨t18, e19, h⟩ := gb h
        refine gR_csI (wX10_slot_s e19) (Nat.le_of_ble_eq_true rfl) rfl rfl rfl rfl ?_
        obtain ⟨t20, e21, h⟩ := gb h
        refine gR_csI (wX10_at_s rfl e21) (Nat.le_of_ble_eq_true rfl) rfl rfl rfl rfl ?_
        refine gR_go 2 (pc1 := 97) (L1 := [some (.ref 1), some (.ref (k1 + 1)), some (.int x2), some (.int x3), some (.int x4), some (.int x5), w6]) (st1 := [.ref 1, .int 1, .int t20]) (fun _ _ => rfl) ?_
        refine gR_gfR (k := 0) (k' := 14) rfl rfl rfl rfl ?_
        refine gR_gfR (k := 14) (k' := 19) rfl rfl rfl rfl ?_
        refine gR_go 1 (pc1 := 104) (L1 := [some (.ref 1), some (.ref (k1 + 1)), some (.int x2), some (.int x3), some (.int x4), some (.int x5), w6]) (st1 := [.int x2, .ref 20, .int 1, .int t20]) (fun _ _ => rfl) ?_
        obtain ⟨t22, e23, h⟩ := gb h
        refine gR_csI (wX10_at_s rfl e23) (Nat.le_of_ble_eq_true rfl) rfl rfl rfl rfl ?_
        refine gR_go 4 (pc1 := 112) (L1 := [some (.ref 1), some (.ref (k1 + 1)), some (.int x2), some (.int x3), some (.int x4), some (.int x5), some (.int (t20 ||| (1 <<< (t22 &&& 31))))]) (st1 := [.ref 1]) (fun _ _ => rfl) ?_
        refine gR_gfR (k := 0) (k' := 32) rfl rfl rfl rfl ?_
        refine gR_go 2 (pc1 := 118) (L1 := [some (.ref 1), some (.ref (k1 + 1)), some (.int x2), some (.int x3), some (.int x4), some (.int x5), some (.int (t20 ||| (1 <<< (t22 &&& 31))))]) (st1 := [.int x5, .int x3, .ref 33]) (fun _ _ => rfl) ?_
        obtain ⟨t24, e25, h⟩ := gb h
        refine gR_csI (wX10_slot_s e25) (Nat.le_of_ble_eq_true rfl) rfl rfl rfl rfl ?_
        refine gR_go 1 (pc1 := 123) (L1 := [some (.ref 1), some (.ref (k1 + 1)), some (.int x2), some (.int x3), some (.int x4), some (.int x5), some (.int (t20 ||| (1 <<< (t22 &&& 31))))]) (st1 := [.int (t20 ||| (1 <<< (t22 &&& 31))), .int t24, .ref 33]) (fun _ _ => rfl) ?_
        obtain ⟨s27, e28, h⟩ := gb h
        refine gR_csV (wX10_set_s rfl e28) (Nat.le_of_ble_eq_true rfl) rfl rfl rfl rfl ?_
        exact wX10_markLiars_u126 ih he132 hk1 h
      · refine gR_iz_ne_j rfl c17 rfl ?_
        exact wX10_markLiars_u126 ih he132 hk1 h
    · refine gR_ic_ge_j rfl c16 rfl ?_
      exact he132 _ _ _ _ _ (Option.some.inj h).symm
noncomputable def wX10_markLiars_h9 (k1 : Nat) : Nat → Int32 → wS → Option (wS)
  | 0, _, _ => none
  | n + 1, x2, s => if x2 < 40 then ((wX2_first 14 s).bind fun t5 => (wX2_isLookedAt 14 x2 t5 s).bind fun t7 => if t7 = 0 then (wX10_markLiars_j132 (wX10_markLiars_h9 k1 n) k1 x2 s) else ((wX10_at 20 x2 s).bind fun t10 => (wX10_nearThings k1 x2 s).bind fun t12 => (wX10_markLiars_h56 k1 x2 t10 t12 wFuel 0 s).bind fun s30 => wX10_markLiars_j132 (wX10_markLiars_h9 k1 n) k1 x2 s30)) else (some s)
theorem wX10_markLiars_t9 {k1 : Nat} {x : wS} {r : ri_R} (hk1 : wkd k1 = 3) (he138 : ∀ (s : wS) (w1 : Nat) (w2 : Int32) (w3 : Option Value) (w4 : Option Value) (w5 : Option Value) (w6 : Option Value) , x = s → gRun 4 162 138 [some (.ref 1), some (.ref (w1 + 1)), some (.int w2), w3, w4, w5, w6] [] (wmk s) r) : ∀ {n : Nat} {x2 : Int32} {s : wS} {w3 : Option Value} {w4 : Option Value} {w5 : Option Value} {w6 : Option Value} , wX10_markLiars_h9 k1 n x2 s = some x → gRun 4 162 9 [some (.ref 1), some (.ref (k1 + 1)), some (.int x2), w3, w4, w5, w6] [] (wmk s) r := by
  intro n
  induction n with
  | zero => intro x2 s w3 w4 w5 w6 h; cases (show (none : Option (wS)) = some x from h)
  | succ n ih =>
    intro x2 s w3 w4 w5 w6 h
    rw [wX10_markLiars_h9] at h
    refine gR_go 2 (pc1 := 12) (L1 := [some (.ref 1), some (.ref (k1 + 1)), some (.int x2), w3, w4, w5, w6]) (st1 := [.int 40, .int x2]) (fun _ _ => rfl) ?_
    rcases gif h with ⟨c4, h⟩ | ⟨c4, h⟩
    · refine gR_ic_ge_f rfl c4 ?_
      refine gR_go 1 (pc1 := 16) (L1 := [some (.ref 1), some (.ref (k1 + 1)), some (.int x2), w3, w4, w5, w6]) (st1 := [.ref 1]) (fun _ _ => rfl) ?_
      refine gR_gfR (k := 0) (k' := 14) rfl rfl rfl rfl ?_
      refine gR_go 2 (pc1 := 21) (L1 := [some (.ref 1), some (.ref (k1 + 1)), some (.int x2), w3, w4, w5, w6]) (st1 := [.ref 1, .int x2, .ref 15]) (fun _ _ => rfl) ?_
      refine gR_gfR (k := 0) (k' := 14) rfl rfl rfl rfl ?_
      obtain ⟨t5, e6, h⟩ := gb h
      refine gR_cvI (wX2_first_s rfl e6) (Nat.le_of_ble_eq_true rfl) rfl rfl rfl rfl rfl ?_
      obtain ⟨t7, e8, h⟩ := gb h
      refine gR_cvI (wX2_isLookedAt_s rfl e8) (Nat.le_of_ble_eq_true rfl) rfl rfl rfl rfl rfl ?_
      rcases gif h with ⟨c9, h⟩ | ⟨c9, h⟩
      · refine gR_iz_eq_j rfl c9 rfl ?_
        exact wX10_markLiars_u132 ih he138 hk1 h
      · refine gR_iz_eq_f rfl c9 ?_
        refine gR_go 1 (pc1 := 34) (L1 := [some (.ref 1), some (.ref (k1 + 1)), some (.int x2), w3, w4, w5, w6]) (st1 := [.ref 1]) (fun _ _ => rfl) ?_
        refine gR_gfR (k := 0) (k' := 14) rfl rfl rfl rfl ?_
        refine gR_gfR (k := 14) (k' := 20) rfl rfl rfl rfl ?_
        refine gR_go 1 (pc1 := 41) (L1 := [some (.ref 1), some (.ref (k1 + 1)), some (.int x2), w3, w4, w5, w6]) (st1 := [.int x2, .ref 21]) (fun _ _ => rfl) ?_
        obtain ⟨t10, e11, h⟩ := gb h
        refine gR_csI (wX10_at_s rfl e11) (Nat.le_of_ble_eq_true rfl) rfl rfl rfl rfl ?_
        refine gR_go 4 (pc1 := 48) (L1 := [some (.ref 1), some (.ref (k1 + 1)), some (.int x2), some (.int t10), w4, w5, w6]) (st1 := [.int x2, .ref (k1 + 1), .ref 1]) (fun _ _ => rfl) ?_
        obtain ⟨t12, e13, h⟩ := gb h
        refine gR_cvI (wX10_nearThings_s hk1 e13) (Nat.le_of_ble_eq_true rfl) rfl rfl rfl rfl rfl ?_
        refine gR_go 3 (pc1 := 56) (L1 := [some (.ref 1), some (.ref (k1 + 1)), some (.int x2), some (.int t10), some (.int t12), some (.int 0), w6]) (st1 := []) (fun _ _ => rfl) ?_
        obtain ⟨z29, ez29, h⟩ := gb h
        refine wX10_markLiars_t56 hk1 ?_  ez29
        · intro s30 w31 w32 w33 w34 hz
          replace hz := hz.symm
          subst hz
          exact wX10_markLiars_u132 ih he138 hk1 h
    · refine gR_ic_ge_j rfl c4 rfl ?_
      exact he138 _ _ _ _ _ _ _ (Option.some.inj h).symm
noncomputable def wX10_markLiars (k1 : Nat) (s : wS) : Option (wS) := (wX10_empty 32 s).bind fun s2 => (wX10_markLiars_h9 k1 wFuel 0 s2).bind fun s36 => some s36
theorem wX10_markLiars_s {k1 : Nat} {s : wS} {rs : wS} (hk1 : wkd k1 = 3) (h : wX10_markLiars k1 s = some rs) : gEv 5 162 [.ref 1, .ref (k1 + 1)] (wmk s) (none, wmk rs, 0, 0) := by
  refine gEv_of (d := 4) (L := [some (.ref 1), some (.ref (k1 + 1)), none, none, none, none, none]) rfl ?_
  unfold wX10_markLiars at h
  refine gR_go 1 (pc1 := 1) (L1 := [some (.ref 1), some (.ref (k1 + 1)), none, none, none, none, none]) (st1 := [.ref 1]) (fun _ _ => rfl) ?_
  refine gR_gfR (k := 0) (k' := 32) rfl rfl rfl rfl ?_
  obtain ⟨s2, e3, h⟩ := gb h
  refine gR_csV (wX10_empty_s rfl e3) (Nat.le_of_ble_eq_true rfl) rfl rfl rfl rfl ?_
  refine gR_go 2 (pc1 := 9) (L1 := [some (.ref 1), some (.ref (k1 + 1)), some (.int 0), none, none, none, none]) (st1 := []) (fun _ _ => rfl) ?_
  obtain ⟨z35, ez35, h⟩ := gb h
  refine wX10_markLiars_t9 hk1 ?_  ez35
  · intro s36 w37 w38 w39 w40 w41 w42 hz
    replace hz := hz.symm
    subst hz
    obtain rfl := gi1 h
    exact gR_rv rfl rfl
noncomputable def wX10_liars_h43 (x3 : Int32) (x4 : Int32) (s : wS) : Nat → Int32 → Int32 → Option (Int32)
  | 0, _, _ => none
  | n + 1, x5, x6 => if x6 < 3 then ((wX0_thingIn 15 x4 x6 s).bind fun t12 => (wX10_slot x6 t12 s).bind fun t14 => (wX10_at 32 t14 s).bind fun t16 => wX10_liars_h43 x3 x4 s n (x5 ||| t16) (x6 + 1)) else (some x5)
theorem wX10_liars_t43 {x3 : Int32} {x4 : Int32} {s : wS} {x : Int32} {r : ri_R} (he86 : ∀ (x5 : Int32) (w1 : Int32) (w2 : Nat) (w6 : Int32) , x = x5 → gRun 6 122 86 [some (.ref 1), some (.int w1), some (.ref (w2 + 1)), some (.int x3), some (.int x4), some (.int x5), some (.int w6)] [] (wmk s) r) : ∀ {n : Nat} {x5 : Int32} {x6 : Int32} {w1 : Int32} {w2 : Nat} , wX10_liars_h43 x3 x4 s n x5 x6 = some x → gRun 6 122 43 [some (.ref 1), some (.int w1), some (.ref (w2 + 1)), some (.int x3), some (.int x4), some (.int x5), some (.int x6)] [] (wmk s) r := by
  intro n
  induction n with
  | zero => intro x5 x6 w1 w2 h; cases (show (none : Option (Int32)) = some x from h)
  | succ n ih =>
    intro x5 x6 w1 w2 h
    rw [wX10_liars_h43] at h
    refine gR_go 2 (pc1 := 46) (L1 := [some (.ref 1), some (.int w1), some (.ref (w2 + 1)), some (.int x3), some (.int x4), some (.int x5), some (.int x6)]) (st1 := [.int 3, .int x6]) (fun _ _ => rfl) ?_
    rcases gif h with ⟨c11, h⟩ | ⟨c11, h⟩
    · refine gR_ic_ge_f rfl c11 ?_
      refine gR_go 2 (pc1 := 52) (L1 := [some (.ref 1), some (.int w1), some (.ref (w2 + 1)), some (.int x3), some (.int x4), some (.int x5), some (.int x6)]) (st1 := [.ref 1, .int x5]) (fun _ _ => rfl) ?_
      refine gR_gfR (k := 0) (k' := 32) rfl rfl rfl rfl ?_
      refine gR_go 2 (pc1 := 58) (L1 := [some (.ref 1), some (.int w1), some (.ref (w2 + 1)), some (.int x3), some (.int x4), some (.int x5), some (.int x6)]) (st1 := [.ref 1, .int x6, .ref 33, .int x5]) (fun _ _ => rfl) ?_
      refine gR_gfR (k := 0) (k' := 14) rfl rfl rfl rfl ?_
      refine gR_gfR (k := 14) (k' := 15) rfl rfl rfl rfl ?_
      refine gR_go 2 (pc1 := 68) (L1 := [some (.ref 1), some (.int w1), some (.ref (w2 + 1)), some (.int x3), some (.int x4), some (.int x5), some (.int x6)]) (st1 := [.int x6, .int x4, .ref 16, .int x6, .ref 33, .int x5]) (fun _ _ => rfl) ?_
      obtain ⟨t12, e13, h⟩ := gb h
      refine gR_cvI (wX0_thingIn_s rfl e13) (Nat.le_of_ble_eq_true rfl) rfl rfl rfl rfl rfl ?_
      obtain ⟨t14, e15, h⟩ := gb h
      refine gR_csI (wX10_slot_s e15) (Nat.le_of_ble_eq_true rfl) rfl rfl rfl rfl ?_
      obtain ⟨t16, e17, h⟩ := gb h
      refine gR_csI (wX10_at_s rfl e17) (Nat.le_of_ble_eq_true rfl) rfl rfl rfl rfl ?_
      refine gR_go 4 (pc1 := 43) (L1 := [some (.ref 1), some (.int w1), some (.ref (w2 + 1)), some (.int x3), some (.int x4), some (.int (x5 ||| t16)), some (.int (x6 + 1))]) (st1 := []) (fun _ _ => rfl) ?_
      exact ih h
    · refine gR_ic_ge_j rfl c11 rfl ?_
      exact he86 _ _ _ _ (Option.some.inj h).symm
noncomputable def wX10_liars_j103 (qq : Int32 → Int32 → Option (Int32)) (x3 : Int32) (x4 : Int32) (s : wS) : Option (Int32) := qq x3 (x4 + 1)
theorem wX10_liars_u103 {x3 : Int32} {x4 : Int32} {s : wS} {w1 : Int32} {w2 : Nat} {w5 : Int32} {w6 : Int32} {qq : Int32 → Int32 → Option (Int32)} {x : Int32} {r : ri_R} (ih : ∀ {x3 : Int32} {x4 : Int32} {w1 : Int32} {w2 : Nat} {w5 : Option Value} {w6 : Option Value} , qq x3 x4 = some x → gRun 6 122 22 [some (.ref 1), some (.int w1), some (.ref (w2 + 1)), some (.int x3), some (.int x4), w5, w6] [] (wmk s) r) (he109 : ∀ (x3 : Int32) (w1 : Int32) (w2 : Nat) (w4 : Int32) (w5 : Option Value) (w6 : Option Value) , x = x3 → gRun 6 122 109 [some (.ref 1), some (.int w1), some (.ref (w2 + 1)), some (.int x3), some (.int w4), w5, w6] [] (wmk s) r) (h : wX10_liars_j103 qq x3 x4 s = some x) : gRun 6 122 103 [some (.ref 1), some (.int w1), some (.ref (w2 + 1)), some (.int x3), some (.int x4), some (.int w5), some (.int w6)] [] (wmk s) r := by
  unfold wX10_liars_j103 at h
  refine gR_go 2 (pc1 := 22) (L1 := [some (.ref 1), some (.int w1), some (.ref (w2 + 1)), some (.int x3), some (.int (x4 + 1)), some (.int w5), some (.int w6)]) (st1 := []) (fun _ _ => rfl) ?_
  exact ih h
noncomputable def wX10_liars_j100 (qq : Int32 → Int32 → Option (Int32)) (x4 : Int32) (x5 : Int32) (s : wS) : Option (Int32) := wX10_liars_j103 qq x5 x4 s
theorem wX10_liars_u100 {x4 : Int32} {x5 : Int32} {s : wS} {w1 : Int32} {w2 : Nat} {w3 : Int32} {w6 : Int32} {qq : Int32 → Int32 → Option (Int32)} {x : Int32} {r : ri_R} (ih : ∀ {x3 : Int32} {x4 : Int32} {w1 : Int32} {w2 : Nat} {w5 : Option Value} {w6 : Option Value} , qq x3 x4 = some x → gRun 6 122 22 [some (.ref 1), some (.int w1), some (.ref (w2 + 1)), some (.int x3), some (.int x4), w5, w6] [] (wmk s) r) (he109 : ∀ (x3 : Int32) (w1 : Int32) (w2 : Nat) (w4 : Int32) (w5 : Option Value) (w6 : Option Value) , x = x3 → gRun 6 122 109 [some (.ref 1), some (.int w1), some (.ref (w2 + 1)), some (.int x3), some (.int w4), w5, w6] [] (wmk s) r) (h : wX10_liars_j100 qq x4 x5 s = some x) : gRun 6 122 100 [some (.ref 1), some (.int w1), some (.ref (w2 + 1)), some (.int w3), some (.int x4), some (.int x5), some (.int w6)] [] (wmk s) r := by
  unfold wX10_liars_j100 at h
  refine gR_go 2 (pc1 := 103) (L1 := [some (.ref 1), some (.int w1), some (.ref (w2 + 1)), some (.int x5), some (.int x4), some (.int x5), some (.int w6)]) (st1 := []) (fun _ _ => rfl) ?_
  exact wX10_liars_u103 ih he109 h
noncomputable def wX10_liars_h22 (s : wS) : Nat → Int32 → Int32 → Option (Int32)
  | 0, _, _ => none
  | n + 1, x3, x4 => (wX0_worlds 15 s).bind fun t8 => if x4 < t8 then ((wX10_liars_h43 x3 x4 s wFuel 0 0).bind fun t19 => if x3 = (-1) then (wX10_liars_j100 (wX10_liars_h22 s n) x4 t19 s) else ((wX10_isLesserSet t19 x3 s).bind fun t24 => if t24 = 0 then (wX10_liars_j103 (wX10_liars_h22 s n) x3 x4 s) else (wX10_liars_j100 (wX10_liars_h22 s n) x4 t19 s))) else (some x3)
theorem wX10_liars_t22 {s : wS} {x : Int32} {r : ri_R} (he109 : ∀ (x3 : Int32) (w1 : Int32) (w2 : Nat) (w4 : Int32) (w5 : Option Value) (w6 : Option Value) , x = x3 → gRun 6 122 109 [some (.ref 1), some (.int w1), some (.ref (w2 + 1)), some (.int x3), some (.int w4), w5, w6] [] (wmk s) r) : ∀ {n : Nat} {x3 : Int32} {x4 : Int32} {w1 : Int32} {w2 : Nat} {w5 : Option Value} {w6 : Option Value} , wX10_liars_h22 s n x3 x4 = some x → gRun 6 122 22 [some (.ref 1), some (.int w1), some (.ref (w2 + 1)), some (.int x3), some (.int x4), w5, w6] [] (wmk s) r := by
  intro n
  induction n with
  | zero => intro x3 x4 w1 w2 w5 w6 h; cases (show (none : Option (Int32)) = some x from h)
  | succ n ih =>
    intro x3 x4 w1 w2 w5 w6 h
    rw [wX10_liars_h22] at h
    refine gR_go 2 (pc1 := 25) (L1 := [some (.ref 1), some (.int w1), some (.ref (w2 + 1)), some (.int x3), some (.int x4), w5, w6]) (st1 := [.ref 1, .int x4]) (fun _ _ => rfl) ?_
    refine gR_gfR (k := 0) (k' := 14) rfl rfl rfl rfl ?_
    refine gR_gfR (k := 14) (k' := 15) rfl rfl rfl rfl ?_
    obtain ⟨t8, e9, h⟩ := gb h
    refine gR_cvI (wX0_worlds_s rfl e9) (Nat.le_of_ble_eq_true rfl) rfl rfl rfl rfl rfl ?_
    rcases gif h with ⟨c10, h⟩ | ⟨c10, h⟩
    · refine gR_ic_ge_f rfl c10 ?_
      refine gR_go 4 (pc1 := 43) (L1 := [some (.ref 1), some (.int w1), some (.ref (w2 + 1)), some (.int x3), some (.int x4), some (.int 0), some (.int 0)]) (st1 := []) (fun _ _ => rfl) ?_
      obtain ⟨z18, ez18, h⟩ := gb h
      refine wX10_liars_t43 ?_  ez18
      · intro t19 w20 w21 w22 hz
        replace hz := hz.symm
        subst hz
        refine gR_go 2 (pc1 := 88) (L1 := [some (.ref 1), some (.int w20), some (.ref (w21 + 1)), some (.int x3), some (.int x4), some (.int t19), some (.int w22)]) (st1 := [.int (-1), .int x3]) (fun _ _ => rfl) ?_
        rcases gif h with ⟨c23, h⟩ | ⟨c23, h⟩
        · refine gR_ic_eq_j rfl c23 rfl ?_
          exact wX10_liars_u100 ih he109 h
        · refine gR_ic_eq_f rfl c23 ?_
          refine gR_go 2 (pc1 := 94) (L1 := [some (.ref 1), some (.int w20), some (.ref (w21 + 1)), some (.int x3), some (.int x4), some (.int t19), some (.int w22)]) (st1 := [.int x3, .int t19]) (fun _ _ => rfl) ?_
          obtain ⟨t24, e25, h⟩ := gb h
          refine gR_csI (wX10_isLesserSet_s e25) (Nat.le_of_ble_eq_true rfl) rfl rfl rfl rfl ?_
          rcases gif h with ⟨c26, h⟩ | ⟨c26, h⟩
          · refine gR_iz_eq_j rfl c26 rfl ?_
            exact wX10_liars_u103 ih he109 h
          · refine gR_iz_eq_f rfl c26 ?_
            exact wX10_liars_u100 ih he109 h
    · refine gR_ic_ge_j rfl c10 rfl ?_
      exact he109 _ _ _ _ _ _ (Option.some.inj h).symm
noncomputable def wX10_liars (x1 : Int32) (s : wS) : Option (Int32 × wS) := (wX10_lawInUse x1 s).bind fun (o1, s2) => Option.elim o1 (some ((-1), s2)) (fun k4 => (wX10_markLiars k4 s2).bind fun s6 => (wX10_liars_h22 s6 wFuel (-1) 0).bind fun t28 => some (t28, s6))
theorem wX10_liars_s {x1 : Int32} {s : wS} {rv : Int32} {rs : wS} (h : wX10_liars x1 s = some (rv, rs)) : gEv 7 122 [.ref 1, .int x1] (wmk s) (some (.int rv), wmk rs, 0, 0) := by
  refine gEv_of (d := 6) (L := [some (.ref 1), some (.int x1), none, none, none, none, none]) rfl ?_
  unfold wX10_liars at h
  refine gR_go 2 (pc1 := 2) (L1 := [some (.ref 1), some (.int x1), none, none, none, none, none]) (st1 := [.int x1, .ref 1]) (fun _ _ => rfl) ?_
  obtain ⟨⟨o1, s2⟩, e3, h⟩ := gb h
  dsimp only at h
  refine gR_cvR (wX10_lawInUse_s e3) (Nat.le_of_ble_eq_true rfl) rfl rfl rfl rfl rfl ?_
  refine gR_astn (L1 := [some (.ref 1), some (.int x1), some (wrv o1), none, none, none, none]) rfl rfl rfl ?_
  refine gR_aldn rfl rfl ?_
  rcases gel h with ⟨ek4, hh⟩ | ⟨k4, ek4, hh⟩
  · clear h
    subst ek4
    have h := hh
    clear hh
    refine gR_ifnonnull_n_f rfl ?_
    refine gR_go 1 (pc1 := 11) (L1 := [some (.ref 1), some (.int x1), some (.null), none, none, none, none]) (st1 := [.int (-1)]) (fun _ _ => rfl) ?_
    obtain ⟨rfl, rfl⟩ := gi2 h
    exact gR_ri rfl rfl
  · clear h
    subst ek4
    have h := hh
    clear hh
    refine gR_ifnonnull_r_j rfl rfl ?_
    refine gR_go 2 (pc1 := 14) (L1 := [some (.ref 1), some (.int x1), some (.ref (k4 + 1)), none, none, none, none]) (st1 := [.ref (k4 + 1), .ref 1]) (fun _ _ => rfl) ?_
    obtain ⟨s6, e7, h⟩ := gb h
    refine gR_cvV (wX10_markLiars_s (wX10_lawInUse_q e3) e7) (Nat.le_of_ble_eq_true rfl) rfl rfl rfl rfl rfl ?_
    refine gR_go 4 (pc1 := 22) (L1 := [some (.ref 1), some (.int x1), some (.ref (k4 + 1)), some (.int (-1)), some (.int 0), none, none]) (st1 := []) (fun _ _ => rfl) ?_
    obtain ⟨z27, ez27, h⟩ := gb h
    refine wX10_liars_t22 ?_  ez27
    · intro t28 w29 w30 w31 w32 w33 hz
      replace hz := hz.symm
      subst hz
      refine gR_go 1 (pc1 := 110) (L1 := [some (.ref 1), some (.int w29), some (.ref (w30 + 1)), some (.int t28), some (.int w31), w32, w33]) (st1 := [.int t28]) (fun _ _ => rfl) ?_
      obtain ⟨rfl, rfl⟩ := gi2 h
      exact gR_ri rfl rfl
noncomputable def wX10_trueThings (k1 : Nat) (x2 : Int32) (s : wS) : Option (Int32) := (wX10_at 20 x2 s).bind fun t1 => (wX10_slot t1 0 s).bind fun t3 => (wX0_bitsOfAll 15 s).bind fun t5 => (wX10_nearThings k1 x2 s).bind fun t7 => some ((t5 &&& ((255 <<< (t3 &&& 31)) ^^^ (-1))) ||| (t7 <<< (t3 &&& 31)))
theorem wX10_trueThings_s {k1 : Nat} {x2 : Int32} {s : wS} {rv : Int32} (hk1 : wkd k1 = 3) (h : wX10_trueThings k1 x2 s = some rv) : gEv 5 153 [.ref 1, .ref (k1 + 1), .int x2] (wmk s) (some (.int rv), wmk s, 0, 0) := by
  refine gEv_of (d := 4) (L := [some (.ref 1), some (.ref (k1 + 1)), some (.int x2), none]) rfl ?_
  unfold wX10_trueThings at h
  refine gR_go 1 (pc1 := 1) (L1 := [some (.ref 1), some (.ref (k1 + 1)), some (.int x2), none]) (st1 := [.ref 1]) (fun _ _ => rfl) ?_
  refine gR_gfR (k := 0) (k' := 14) rfl rfl rfl rfl ?_
  refine gR_gfR (k := 14) (k' := 20) rfl rfl rfl rfl ?_
  refine gR_go 1 (pc1 := 8) (L1 := [some (.ref 1), some (.ref (k1 + 1)), some (.int x2), none]) (st1 := [.int x2, .ref 21]) (fun _ _ => rfl) ?_
  obtain ⟨t1, e2, h⟩ := gb h
  refine gR_csI (wX10_at_s rfl e2) (Nat.le_of_ble_eq_true rfl) rfl rfl rfl rfl ?_
  refine gR_go 1 (pc1 := 12) (L1 := [some (.ref 1), some (.ref (k1 + 1)), some (.int x2), none]) (st1 := [.int 0, .int t1]) (fun _ _ => rfl) ?_
  obtain ⟨t3, e4, h⟩ := gb h
  refine gR_csI (wX10_slot_s e4) (Nat.le_of_ble_eq_true rfl) rfl rfl rfl rfl ?_
  refine gR_go 2 (pc1 := 17) (L1 := [some (.ref 1), some (.ref (k1 + 1)), some (.int x2), some (.int t3)]) (st1 := [.ref 1]) (fun _ _ => rfl) ?_
  refine gR_gfR (k := 0) (k' := 14) rfl rfl rfl rfl ?_
  refine gR_gfR (k := 14) (k' := 15) rfl rfl rfl rfl ?_
  obtain ⟨t5, e6, h⟩ := gb h
  refine gR_cvI (wX0_bitsOfAll_s rfl e6) (Nat.le_of_ble_eq_true rfl) rfl rfl rfl rfl rfl ?_
  refine gR_go 9 (pc1 := 37) (L1 := [some (.ref 1), some (.ref (k1 + 1)), some (.int x2), some (.int t3)]) (st1 := [.int x2, .ref (k1 + 1), .ref 1, .int (t5 &&& ((255 <<< (t3 &&& 31)) ^^^ (-1)))]) (fun _ _ => rfl) ?_
  obtain ⟨t7, e8, h⟩ := gb h
  refine gR_cvI (wX10_nearThings_s hk1 e8) (Nat.le_of_ble_eq_true rfl) rfl rfl rfl rfl rfl ?_
  refine gR_go 3 (pc1 := 43) (L1 := [some (.ref 1), some (.ref (k1 + 1)), some (.int x2), some (.int t3)]) (st1 := [.int ((t5 &&& ((255 <<< (t3 &&& 31)) ^^^ (-1))) ||| (t7 <<< (t3 &&& 31)))]) (fun _ _ => rfl) ?_
  obtain rfl := gi1 h
  exact gR_ri rfl rfl
noncomputable def wX10_hasWorld (x0 : Int32) (s : wS) : Option (Int32) := if (x0 &&& 255) = 0 then (some 0) else ((wX10_slot 1 0 s).bind fun t2 => if ((x0 >>> (t2 &&& 31)) &&& 255) = 0 then (some 0) else ((wX10_slot 2 0 s).bind fun t5 => if ((x0 >>> (t5 &&& 31)) &&& 255) = 0 then (some 0) else (some 1)))
theorem wX10_hasWorld_s {x0 : Int32} {s : wS} {rv : Int32} (h : wX10_hasWorld x0 s = some rv) : gEv 2 155 [.int x0] (wmk s) (some (.int rv), wmk s, 0, 0) := by
  refine gEv_of (d := 1) (L := [some (.int x0)]) rfl ?_
  unfold wX10_hasWorld at h
  refine gR_go 3 (pc1 := 5) (L1 := [some (.int x0)]) (st1 := [.int (x0 &&& 255)]) (fun _ _ => rfl) ?_
  rcases gif h with ⟨c1, h⟩ | ⟨c1, h⟩
  · refine gR_iz_eq_j rfl c1 rfl ?_
    refine gR_go 1 (pc1 := 41) (L1 := [some (.int x0)]) (st1 := [.int 0]) (fun _ _ => rfl) ?_
    obtain rfl := gi1 h
    exact gR_rzc rfl rfl rfl
  · refine gR_iz_eq_f rfl c1 ?_
    refine gR_go 3 (pc1 := 11) (L1 := [some (.int x0)]) (st1 := [.int 0, .int 1, .int x0]) (fun _ _ => rfl) ?_
    obtain ⟨t2, e3, h⟩ := gb h
    refine gR_csI (wX10_slot_s e3) (Nat.le_of_ble_eq_true rfl) rfl rfl rfl rfl ?_
    refine gR_go 3 (pc1 := 19) (L1 := [some (.int x0)]) (st1 := [.int ((x0 >>> (t2 &&& 31)) &&& 255)]) (fun _ _ => rfl) ?_
    rcases gif h with ⟨c4, h⟩ | ⟨c4, h⟩
    · refine gR_iz_eq_j rfl c4 rfl ?_
      refine gR_go 1 (pc1 := 41) (L1 := [some (.int x0)]) (st1 := [.int 0]) (fun _ _ => rfl) ?_
      obtain rfl := gi1 h
      exact gR_rzc rfl rfl rfl
    · refine gR_iz_eq_f rfl c4 ?_
      refine gR_go 3 (pc1 := 25) (L1 := [some (.int x0)]) (st1 := [.int 0, .int 2, .int x0]) (fun _ _ => rfl) ?_
      obtain ⟨t5, e6, h⟩ := gb h
      refine gR_csI (wX10_slot_s e6) (Nat.le_of_ble_eq_true rfl) rfl rfl rfl rfl ?_
      refine gR_go 3 (pc1 := 33) (L1 := [some (.int x0)]) (st1 := [.int ((x0 >>> (t5 &&& 31)) &&& 255)]) (fun _ _ => rfl) ?_
      rcases gif h with ⟨c7, h⟩ | ⟨c7, h⟩
      · refine gR_iz_eq_j rfl c7 rfl ?_
        refine gR_go 1 (pc1 := 41) (L1 := [some (.int x0)]) (st1 := [.int 0]) (fun _ _ => rfl) ?_
        obtain rfl := gi1 h
        exact gR_rzc rfl rfl rfl
      · refine gR_iz_eq_f rfl c7 ?_
        refine gR_go 2 (pc1 := 41) (L1 := [some (.int x0)]) (st1 := [.int 1]) (fun _ _ => rfl) ?_
        obtain rfl := gi1 h
        exact gR_rzc rfl rfl rfl
noncomputable def wX10_quarrel_j109 (qq : Int32 → Option ((Unit) ⊕ (Int32))) (k2 : Nat) (x3 : Int32) (x4 : Int32) (s : wS) : Option ((Unit) ⊕ (Int32)) := qq (x4 + 1)
theorem wX10_quarrel_u109 {k2 : Nat} {x3 : Int32} {x4 : Int32} {s : wS} {w1 : Int32} {w5 : Int32} {qq : Int32 → Option ((Unit) ⊕ (Int32))} {x : (Unit) ⊕ (Int32)} {r : ri_R} (ih : ∀ {x4 : Int32} {w1 : Int32} {w5 : Option Value} , qq x4 = some x → gRun 6 123 25 [some (.ref 1), some (.int w1), some (.ref (k2 + 1)), some (.int x3), some (.int x4), w5] [] (wmk s) r) (he115 : ∀ (w1 : Int32) (w4 : Int32) (w5 : Option Value) , x = .inl () → gRun 6 123 115 [some (.ref 1), some (.int w1), some (.ref (k2 + 1)), some (.int x3), some (.int w4), w5] [] (wmk s) r) (he101 : ∀ (x4 : Int32) (w1 : Int32) (w2 : Nat) (w5 : Int32) , x = .inr x4 → gRun 6 123 101 [some (.ref 1), some (.int w1), some (.ref (w2 + 1)), some (.int x3), some (.int x4), some (.int w5)] [] (wmk s) r) (hk2 : wkd k2 = 3) (h : wX10_quarrel_j109 qq k2 x3 x4 s = some x) : gRun 6 123 109 [some (.ref 1), some (.int w1), some (.ref (k2 + 1)), some (.int x3), some (.int x4), some (.int w5)] [] (wmk s) r := by
  unfold wX10_quarrel_j109 at h
  refine gR_go 2 (pc1 := 25) (L1 := [some (.ref 1), some (.int w1), some (.ref (k2 + 1)), some (.int x3), some (.int (x4 + 1)), some (.int w5)]) (st1 := []) (fun _ _ => rfl) ?_
  exact ih h
noncomputable def wX10_quarrel_j74 (qq : Int32 → Option ((Unit) ⊕ (Int32))) (k2 : Nat) (x3 : Int32) (x4 : Int32) (y0 : Int32) (s : wS) : Option ((Unit) ⊕ (Int32)) := if y0 = 0 then (wX10_quarrel_j109 qq k2 x3 x4 s) else ((wX10_trueThings k2 x3 s).bind fun t13 => (wX10_trueThings k2 x4 s).bind fun t15 => (wX10_hasWorld (t13 &&& t15) s).bind fun t17 => if t17 = 0 then (some (.inr x4)) else (wX10_quarrel_j109 qq k2 x3 x4 s))
theorem wX10_quarrel_u74 {k2 : Nat} {x3 : Int32} {x4 : Int32} {y0 : Int32} {s : wS} {w1 : Int32} {w5 : Option Value} {qq : Int32 → Option ((Unit) ⊕ (Int32))} {x : (Unit) ⊕ (Int32)} {r : ri_R} (ih : ∀ {x4 : Int32} {w1 : Int32} {w5 : Option Value} , qq x4 = some x → gRun 6 123 25 [some (.ref 1), some (.int w1), some (.ref (k2 + 1)), some (.int x3), some (.int x4), w5] [] (wmk s) r) (he115 : ∀ (w1 : Int32) (w4 : Int32) (w5 : Option Value) , x = .inl () → gRun 6 123 115 [some (.ref 1), some (.int w1), some (.ref (k2 + 1)), some (.int x3), some (.int w4), w5] [] (wmk s) r) (he101 : ∀ (x4 : Int32) (w1 : Int32) (w2 : Nat) (w5 : Int32) , x = .inr x4 → gRun 6 123 101 [some (.ref 1), some (.int w1), some (.ref (w2 + 1)), some (.int x3), some (.int x4), some (.int w5)] [] (wmk s) r) (hk2 : wkd k2 = 3) (h : wX10_quarrel_j74 qq k2 x3 x4 y0 s = some x) : gRun 6 123 74 [some (.ref 1), some (.int w1), some (.ref (k2 + 1)), some (.int x3), some (.int x4), w5] [.int y0] (wmk s) r := by
  unfold wX10_quarrel_j74 at h
  refine gR_go 2 (pc1 := 78) (L1 := [some (.ref 1), some (.int w1), some (.ref (k2 + 1)), some (.int x3), some (.int x4), some (.int y0)]) (st1 := [.int y0]) (fun _ _ => rfl) ?_
  rcases gif h with ⟨c12, h⟩ | ⟨c12, h⟩
  · refine gR_iz_eq_j rfl c12 rfl ?_
    exact wX10_quarrel_u109 ih he115 he101 hk2 h
  · refine gR_iz_eq_f rfl c12 ?_
    refine gR_go 3 (pc1 := 84) (L1 := [some (.ref 1), some (.int w1), some (.ref (k2 + 1)), some (.int x3), some (.int x4), some (.int y0)]) (st1 := [.int x3, .ref (k2 + 1), .ref 1]) (fun _ _ => rfl) ?_
    obtain ⟨t13, e14, h⟩ := gb h
    refine gR_cvI (wX10_trueThings_s hk2 e14) (Nat.le_of_ble_eq_true rfl) rfl rfl rfl rfl rfl ?_
    refine gR_go 3 (pc1 := 91) (L1 := [some (.ref 1), some (.int w1), some (.ref (k2 + 1)), some (.int x3), some (.int x4), some (.int y0)]) (st1 := [.int x4, .ref (k2 + 1), .ref 1, .int t13]) (fun _ _ => rfl) ?_
    obtain ⟨t15, e16, h⟩ := gb h
    refine gR_cvI (wX10_trueThings_s hk2 e16) (Nat.le_of_ble_eq_true rfl) rfl rfl rfl rfl rfl ?_
    refine gR_go 1 (pc1 := 95) (L1 := [some (.ref 1), some (.int w1), some (.ref (k2 + 1)), some (.int x3), some (.int x4), some (.int y0)]) (st1 := [.int (t13 &&& t15)]) (fun _ _ => rfl) ?_
    obtain ⟨t17, e18, h⟩ := gb h
    refine gR_csI (wX10_hasWorld_s e18) (Nat.le_of_ble_eq_true rfl) rfl rfl rfl rfl ?_
    rcases gif h with ⟨c19, h⟩ | ⟨c19, h⟩
    · refine gR_iz_ne_f rfl c19 ?_
      exact he101 _ _ _ _ (Option.some.inj h).symm
    · refine gR_iz_ne_j rfl c19 rfl ?_
      exact wX10_quarrel_u109 ih he115 he101 hk2 h
noncomputable def wX10_quarrel_j73 (qq : Int32 → Option ((Unit) ⊕ (Int32))) (k2 : Nat) (x3 : Int32) (x4 : Int32) (s : wS) : Option ((Unit) ⊕ (Int32)) := wX10_quarrel_j74 qq k2 x3 x4 0 s
theorem wX10_quarrel_u73 {k2 : Nat} {x3 : Int32} {x4 : Int32} {s : wS} {w1 : Int32} {w5 : Option Value} {qq : Int32 → Option ((Unit) ⊕ (Int32))} {x : (Unit) ⊕ (Int32)} {r : ri_R} (ih : ∀ {x4 : Int32} {w1 : Int32} {w5 : Option Value} , qq x4 = some x → gRun 6 123 25 [some (.ref 1), some (.int w1), some (.ref (k2 + 1)), some (.int x3), some (.int x4), w5] [] (wmk s) r) (he115 : ∀ (w1 : Int32) (w4 : Int32) (w5 : Option Value) , x = .inl () → gRun 6 123 115 [some (.ref 1), some (.int w1), some (.ref (k2 + 1)), some (.int x3), some (.int w4), w5] [] (wmk s) r) (he101 : ∀ (x4 : Int32) (w1 : Int32) (w2 : Nat) (w5 : Int32) , x = .inr x4 → gRun 6 123 101 [some (.ref 1), some (.int w1), some (.ref (w2 + 1)), some (.int x3), some (.int x4), some (.int w5)] [] (wmk s) r) (hk2 : wkd k2 = 3) (h : wX10_quarrel_j73 qq k2 x3 x4 s = some x) : gRun 6 123 73 [some (.ref 1), some (.int w1), some (.ref (k2 + 1)), some (.int x3), some (.int x4), w5] [] (wmk s) r := by
  unfold wX10_quarrel_j73 at h
  refine gR_go 1 (pc1 := 74) (L1 := [some (.ref 1), some (.int w1), some (.ref (k2 + 1)), some (.int x3), some (.int x4), w5]) (st1 := [.int 0]) (fun _ _ => rfl) ?_
  exact wX10_quarrel_u74 ih he115 he101 hk2 h
noncomputable def wX10_quarrel_h25 (k2 : Nat) (x3 : Int32) (s : wS) : Nat → Int32 → Option ((Unit) ⊕ (Int32))
  | 0, _ => none
  | n + 1, x4 => if x4 < 40 then ((wX2_first 14 s).bind fun t7 => (wX2_isLookedAt 14 x3 t7 s).bind fun t9 => if t9 = 0 then (wX10_quarrel_j73 (wX10_quarrel_h25 k2 x3 s n) k2 x3 x4 s) else ((wX2_first 14 s).bind fun t20 => (wX2_isLookedAt 14 x4 t20 s).bind fun t22 => if t22 = 0 then (wX10_quarrel_j73 (wX10_quarrel_h25 k2 x3 s n) k2 x3 x4 s) else (wX10_quarrel_j74 (wX10_quarrel_h25 k2 x3 s n) k2 x3 x4 1 s))) else (some (.inl ()))
theorem wX10_quarrel_t25 {k2 : Nat} {x3 : Int32} {s : wS} {x : (Unit) ⊕ (Int32)} {r : ri_R} (hk2 : wkd k2 = 3) (he115 : ∀ (w1 : Int32) (w4 : Int32) (w5 : Option Value) , x = .inl () → gRun 6 123 115 [some (.ref 1), some (.int w1), some (.ref (k2 + 1)), some (.int x3), some (.int w4), w5] [] (wmk s) r) (he101 : ∀ (x4 : Int32) (w1 : Int32) (w2 : Nat) (w5 : Int32) , x = .inr x4 → gRun 6 123 101 [some (.ref 1), some (.int w1), some (.ref (w2 + 1)), some (.int x3), some (.int x4), some (.int w5)] [] (wmk s) r) : ∀ {n : Nat} {x4 : Int32} {w1 : Int32} {w5 : Option Value} , wX10_quarrel_h25 k2 x3 s n x4 = some x → gRun 6 123 25 [some (.ref 1), some (.int w1), some (.ref (k2 + 1)), some (.int x3), some (.int x4), w5] [] (wmk s) r := by
  intro n
  induction n with
  | zero => intro x4 w1 w5 h; cases (show (none : Option ((Unit) ⊕ (Int32))) = some x from h)
  | succ n ih =>
    intro x4 w1 w5 h
    rw [wX10_quarrel_h25] at h
    refine gR_go 2 (pc1 := 29) (L1 := [some (.ref 1), some (.int w1), some (.ref (k2 + 1)), some (.int x3), some (.int x4), w5]) (st1 := [.int 40, .int x4]) (fun _ _ => rfl) ?_
    rcases gif h with ⟨c6, h⟩ | ⟨c6, h⟩
    · refine gR_ic_ge_f rfl c6 ?_
      refine gR_go 1 (pc1 := 33) (L1 := [some (.ref 1), some (.int w1), some (.ref (k2 + 1)), some (.int x3), some (.int x4), w5]) (st1 := [.ref 1]) (fun _ _ => rfl) ?_
      refine gR_gfR (k := 0) (k' := 14) rfl rfl rfl rfl ?_
      refine gR_go 2 (pc1 := 38) (L1 := [some (.ref 1), some (.int w1), some (.ref (k2 + 1)), some (.int x3), some (.int x4), w5]) (st1 := [.ref 1, .int x3, .ref 15]) (fun _ _ => rfl) ?_
      refine gR_gfR (k := 0) (k' := 14) rfl rfl rfl rfl ?_
      obtain ⟨t7, e8, h⟩ := gb h
      refine gR_cvI (wX2_first_s rfl e8) (Nat.le_of_ble_eq_true rfl) rfl rfl rfl rfl rfl ?_
      obtain ⟨t9, e10, h⟩ := gb h
      refine gR_cvI (wX2_isLookedAt_s rfl e10) (Nat.le_of_ble_eq_true rfl) rfl rfl rfl rfl rfl ?_
      rcases gif h with ⟨c11, h⟩ | ⟨c11, h⟩
      · refine gR_iz_eq_j rfl c11 rfl ?_
        exact wX10_quarrel_u73 ih he115 he101 hk2 h
      · refine gR_iz_eq_f rfl c11 ?_
        refine gR_go 1 (pc1 := 51) (L1 := [some (.ref 1), some (.int w1), some (.ref (k2 + 1)), some (.int x3), some (.int x4), w5]) (st1 := [.ref 1]) (fun _ _ => rfl) ?_
        refine gR_gfR (k := 0) (k' := 14) rfl rfl rfl rfl ?_
        refine gR_go 2 (pc1 := 57) (L1 := [some (.ref 1), some (.int w1), some (.ref (k2 + 1)), some (.int x3), some (.int x4), w5]) (st1 := [.ref 1, .int x4, .ref 15]) (fun _ _ => rfl) ?_
        refine gR_gfR (k := 0) (k' := 14) rfl rfl rfl rfl ?_
        obtain ⟨t20, e21, h⟩ := gb h
        refine gR_cvI (wX2_first_s rfl e21) (Nat.le_of_ble_eq_true rfl) rfl rfl rfl rfl rfl ?_
        obtain ⟨t22, e23, h⟩ := gb h
        refine gR_cvI (wX2_isLookedAt_s rfl e23) (Nat.le_of_ble_eq_true rfl) rfl rfl rfl rfl rfl ?_
        rcases gif h with ⟨c24, h⟩ | ⟨c24, h⟩
        · refine gR_iz_eq_j rfl c24 rfl ?_
          exact wX10_quarrel_u73 ih he115 he101 hk2 h
        · refine gR_iz_eq_f rfl c24 ?_
          refine gR_go 2 (pc1 := 74) (L1 := [some (.ref 1), some (.int w1), some (.ref (k2 + 1)), some (.int x3), some (.int x4), w5]) (st1 := [.int 1]) (fun _ _ => rfl) ?_
          exact wX10_quarrel_u74 ih he115 he101 hk2 h
    · refine gR_ic_ge_j rfl c6 rfl ?_
      exact he115 _ _ _ (Option.some.inj h).symm
noncomputable def wX10_quarrel_h14 (k2 : Nat) (s : wS) : Nat → Int32 → Option ((Unit) ⊕ (Int32 × Int32))
  | 0, _ => none
  | n + 1, x3 => if x3 < 40 then ((wX10_quarrel_h25 k2 x3 s wFuel (x3 + 1)).bind fun z25 => (match z25 with | .inl () => wX10_quarrel_h14 k2 s n (x3 + 1) | .inr t29 => some (.inr (x3, t29)))) else (some (.inl ()))
theorem wX10_quarrel_t14 {k2 : Nat} {s : wS} {x : (Unit) ⊕ (Int32 × Int32)} {r : ri_R} (hk2 : wkd k2 = 3) (he121 : ∀ (w1 : Int32) (w2 : Nat) (w3 : Int32) (w4 : Option Value) (w5 : Option Value) , x = .inl () → gRun 6 123 121 [some (.ref 1), some (.int w1), some (.ref (w2 + 1)), some (.int w3), w4, w5] [] (wmk s) r) (he101 : ∀ (x3 : Int32) (x4 : Int32) (w1 : Int32) (w2 : Nat) (w5 : Int32) , x = .inr (x3, x4) → gRun 6 123 101 [some (.ref 1), some (.int w1), some (.ref (w2 + 1)), some (.int x3), some (.int x4), some (.int w5)] [] (wmk s) r) : ∀ {n : Nat} {x3 : Int32} {w1 : Int32} {w4 : Option Value} {w5 : Option Value} , wX10_quarrel_h14 k2 s n x3 = some x → gRun 6 123 14 [some (.ref 1), some (.int w1), some (.ref (k2 + 1)), some (.int x3), w4, w5] [] (wmk s) r := by
  intro n
  induction n with
  | zero => intro x3 w1 w4 w5 h; cases (show (none : Option ((Unit) ⊕ (Int32 × Int32))) = some x from h)
  | succ n ih =>
    intro x3 w1 w4 w5 h
    rw [wX10_quarrel_h14] at h
    refine gR_go 2 (pc1 := 17) (L1 := [some (.ref 1), some (.int w1), some (.ref (k2 + 1)), some (.int x3), w4, w5]) (st1 := [.int 40, .int x3]) (fun _ _ => rfl) ?_
    rcases gif h with ⟨c5, h⟩ | ⟨c5, h⟩
    · refine gR_ic_ge_f rfl c5 ?_
      refine gR_go 4 (pc1 := 25) (L1 := [some (.ref 1), some (.int w1), some (.ref (k2 + 1)), some (.int x3), some (.int (x3 + 1)), w5]) (st1 := []) (fun _ _ => rfl) ?_
      obtain ⟨z25, ez25, h⟩ := gb h
      refine wX10_quarrel_t25 hk2 ?_ ?_  ez25
      · intro w26 w27 w28 hz
        replace hz := hz.symm
        subst hz
        dsimp only at h
        refine gR_go 2 (pc1 := 14) (L1 := [some (.ref 1), some (.int w26), some (.ref (k2 + 1)), some (.int (x3 + 1)), some (.int w27), w28]) (st1 := []) (fun _ _ => rfl) ?_
        exact ih h
      · intro t29 w30 w31 w32 hz
        replace hz := hz.symm
        subst hz
        dsimp only at h
        exact he101 _ _ _ _ _ (Option.some.inj h).symm
    · refine gR_ic_ge_j rfl c5 rfl ?_
      exact he121 _ _ _ _ _ (Option.some.inj h).symm
noncomputable def wX10_quarrel (x1 : Int32) (s : wS) : Option (Int32 × wS) := (wX10_lawInUse x1 s).bind fun (o1, s2) => Option.elim o1 (some ((-1), s2)) (fun k4 => (wX10_quarrel_h14 k4 s2 wFuel 0).bind fun z33 => (match z33 with | .inl () => some (((Int8.ofInt (-2)).toInt32), s2) | .inr (t39, t40) => some (((64 * t39) + t40), s2)))
theorem wX10_quarrel_s {x1 : Int32} {s : wS} {rv : Int32} {rs : wS} (h : wX10_quarrel x1 s = some (rv, rs)) : gEv 7 123 [.ref 1, .int x1] (wmk s) (some (.int rv), wmk rs, 0, 0) := by
  refine gEv_of (d := 6) (L := [some (.ref 1), some (.int x1), none, none, none, none]) rfl ?_
  unfold wX10_quarrel at h
  refine gR_go 2 (pc1 := 2) (L1 := [some (.ref 1), some (.int x1), none, none, none, none]) (st1 := [.int x1, .ref 1]) (fun _ _ => rfl) ?_
  obtain ⟨⟨o1, s2⟩, e3, h⟩ := gb h
  dsimp only at h
  refine gR_cvR (wX10_lawInUse_s e3) (Nat.le_of_ble_eq_true rfl) rfl rfl rfl rfl rfl ?_
  refine gR_astn (L1 := [some (.ref 1), some (.int x1), some (wrv o1), none, none, none]) rfl rfl rfl ?_
  refine gR_aldn rfl rfl ?_
  rcases gel h with ⟨ek4, hh⟩ | ⟨k4, ek4, hh⟩
  · clear h
    subst ek4
    have h := hh
    clear hh
    refine gR_ifnonnull_n_f rfl ?_
    refine gR_go 1 (pc1 := 11) (L1 := [some (.ref 1), some (.int x1), some (.null), none, none, none]) (st1 := [.int (-1)]) (fun _ _ => rfl) ?_
    obtain ⟨rfl, rfl⟩ := gi2 h
    exact gR_ri rfl rfl
  · clear h
    subst ek4
    have h := hh
    clear hh
    refine gR_ifnonnull_r_j rfl rfl ?_
    refine gR_go 2 (pc1 := 14) (L1 := [some (.ref 1), some (.int x1), some (.ref (k4 + 1)), some (.int 0), none, none]) (st1 := []) (fun _ _ => rfl) ?_
    obtain ⟨z33, ez33, h⟩ := gb h
    refine wX10_quarrel_t14 (wX10_lawInUse_q e3) ?_ ?_  ez33
    · intro w34 w35 w36 w37 w38 hz
      replace hz := hz.symm
      subst hz
      dsimp only at h
      refine gR_go 1 (pc1 := 123) (L1 := [some (.ref 1), some (.int w34), some (.ref (w35 + 1)), some (.int w36), w37, w38]) (st1 := [.int ((Int8.ofInt (-2)).toInt32)]) (fun _ _ => rfl) ?_
      obtain ⟨rfl, rfl⟩ := gi2 h
      exact gR_ri rfl rfl
    · intro t39 t40 w41 w42 w43 hz
      replace hz := hz.symm
      subst hz
      dsimp only at h
      refine gR_go 5 (pc1 := 108) (L1 := [some (.ref 1), some (.int w41), some (.ref (w42 + 1)), some (.int t39), some (.int t40), some (.int w43)]) (st1 := [.int ((64 * t39) + t40)]) (fun _ _ => rfl) ?_
      obtain ⟨rfl, rfl⟩ := gi2 h
      exact gR_ri rfl rfl
noncomputable def wX10_gatherProof_j51 (qq : Int32 → Int32 → wS → Option (Int32 × wS)) (k1 : Nat) (x2 : Int32) (x3 : Int32) (s : wS) : Option (Int32 × wS) := qq x2 (x3 + 1) s
theorem wX10_gatherProof_u51 {k1 : Nat} {x2 : Int32} {x3 : Int32} {s : wS} {qq : Int32 → Int32 → wS → Option (Int32 × wS)} {x : Int32 × wS} {r : ri_R} (ih : ∀ {x2 : Int32} {x3 : Int32} {s : wS} , qq x2 x3 s = some x → gRun 5 163 4 [some (.ref 1), some (.ref (k1 + 1)), some (.int x2), some (.int x3)] [] (wmk s) r) (he57 : ∀ (x2 : Int32) (s : wS) (w1 : Nat) (w3 : Int32) , x = (x2, s) → gRun 5 163 57 [some (.ref 1), some (.ref (w1 + 1)), some (.int x2), some (.int w3)] [] (wmk s) r) (hk1 : wkd k1 = 3) (h : wX10_gatherProof_j51 qq k1 x2 x3 s = some x) : gRun 5 163 51 [some (.ref 1), some (.ref (k1 + 1)), some (.int x2), some (.int x3)] [] (wmk s) r := by
  unfold wX10_gatherProof_j51 at h
  refine gR_go 2 (pc1 := 4) (L1 := [some (.ref 1), some (.ref (k1 + 1)), some (.int x2), some (.int (x3 + 1))]) (st1 := []) (fun _ _ => rfl) ?_
  exact ih h
noncomputable def wX10_gatherProof_h4 (k1 : Nat) : Nat → Int32 → Int32 → wS → Option (Int32 × wS)
  | 0, _, _, _ => none
  | n + 1, x2, x3, s => if x3 < 40 then (if x2 < 12 then ((wX2_first 14 s).bind fun t3 => (wX2_isLookedAt 14 x3 t3 s).bind fun t5 => if t5 = 0 then (wX10_gatherProof_j51 (wX10_gatherProof_h4 k1 n) k1 x2 x3 s) else ((wX10_trueThings k1 x3 s).bind fun t8 => (wX10_set 39 x2 t8 s).bind fun s11 => wX10_gatherProof_j51 (wX10_gatherProof_h4 k1 n) k1 (x2 + 1) x3 s11)) else (some (x2, s))) else (some (x2, s))
theorem wX10_gatherProof_t4 {k1 : Nat} {x : Int32 × wS} {r : ri_R} (hk1 : wkd k1 = 3) (he57 : ∀ (x2 : Int32) (s : wS) (w1 : Nat) (w3 : Int32) , x = (x2, s) → gRun 5 163 57 [some (.ref 1), some (.ref (w1 + 1)), some (.int x2), some (.int w3)] [] (wmk s) r) : ∀ {n : Nat} {x2 : Int32} {x3 : Int32} {s : wS} , wX10_gatherProof_h4 k1 n x2 x3 s = some x → gRun 5 163 4 [some (.ref 1), some (.ref (k1 + 1)), some (.int x2), some (.int x3)] [] (wmk s) r := by
  intro n
  induction n with
  | zero => intro x2 x3 s h; cases (show (none : Option (Int32 × wS)) = some x from h)
  | succ n ih =>
    intro x2 x3 s h
    rw [wX10_gatherProof_h4] at h
    refine gR_go 2 (pc1 := 7) (L1 := [some (.ref 1), some (.ref (k1 + 1)), some (.int x2), some (.int x3)]) (st1 := [.int 40, .int x3]) (fun _ _ => rfl) ?_
    rcases gif h with ⟨c1, h⟩ | ⟨c1, h⟩
    · refine gR_ic_ge_f rfl c1 ?_
      refine gR_go 2 (pc1 := 13) (L1 := [some (.ref 1), some (.ref (k1 + 1)), some (.int x2), some (.int x3)]) (st1 := [.int 12, .int x2]) (fun _ _ => rfl) ?_
      rcases gif h with ⟨c2, h⟩ | ⟨c2, h⟩
      · refine gR_ic_ge_f rfl c2 ?_
        refine gR_go 1 (pc1 := 17) (L1 := [some (.ref 1), some (.ref (k1 + 1)), some (.int x2), some (.int x3)]) (st1 := [.ref 1]) (fun _ _ => rfl) ?_
        refine gR_gfR (k := 0) (k' := 14) rfl rfl rfl rfl ?_
        refine gR_go 2 (pc1 := 22) (L1 := [some (.ref 1), some (.ref (k1 + 1)), some (.int x2), some (.int x3)]) (st1 := [.ref 1, .int x3, .ref 15]) (fun _ _ => rfl) ?_
        refine gR_gfR (k := 0) (k' := 14) rfl rfl rfl rfl ?_
        obtain ⟨t3, e4, h⟩ := gb h
        refine gR_cvI (wX2_first_s rfl e4) (Nat.le_of_ble_eq_true rfl) rfl rfl rfl rfl rfl ?_
        obtain ⟨t5, e6, h⟩ := gb h
        refine gR_cvI (wX2_isLookedAt_s rfl e6) (Nat.le_of_ble_eq_true rfl) rfl rfl rfl rfl rfl ?_
        rcases gif h with ⟨c7, h⟩ | ⟨c7, h⟩
        · refine gR_iz_eq_j rfl c7 rfl ?_
          exact wX10_gatherProof_u51 ih he57 hk1 h
        · refine gR_iz_eq_f rfl c7 ?_
          refine gR_go 1 (pc1 := 35) (L1 := [some (.ref 1), some (.ref (k1 + 1)), some (.int x2), some (.int x3)]) (st1 := [.ref 1]) (fun _ _ => rfl) ?_
          refine gR_gfR (k := 0) (k' := 39) rfl rfl rfl rfl ?_
          refine gR_go 4 (pc1 := 42) (L1 := [some (.ref 1), some (.ref (k1 + 1)), some (.int x2), some (.int x3)]) (st1 := [.int x3, .ref (k1 + 1), .ref 1, .int x2, .ref 40]) (fun _ _ => rfl) ?_
          obtain ⟨t8, e9, h⟩ := gb h
          refine gR_cvI (wX10_trueThings_s hk1 e9) (Nat.le_of_ble_eq_true rfl) rfl rfl rfl rfl rfl ?_
          obtain ⟨s11, e12, h⟩ := gb h
          refine gR_csV (wX10_set_s rfl e12) (Nat.le_of_ble_eq_true rfl) rfl rfl rfl rfl ?_
          refine gR_go 1 (pc1 := 51) (L1 := [some (.ref 1), some (.ref (k1 + 1)), some (.int (x2 + 1)), some (.int x3)]) (st1 := []) (fun _ _ => rfl) ?_
          exact wX10_gatherProof_u51 ih he57 hk1 h
      · refine gR_ic_ge_j rfl c2 rfl ?_
        exact he57 _ _ _ _ (Option.some.inj h).symm
    · refine gR_ic_ge_j rfl c1 rfl ?_
      exact he57 _ _ _ _ (Option.some.inj h).symm
noncomputable def wX10_gatherProof (k1 : Nat) (s : wS) : Option (Int32 × wS) := (wX10_gatherProof_h4 k1 wFuel 0 0 s).bind fun (t14, s15) => some (t14, s15)
theorem wX10_gatherProof_s {k1 : Nat} {s : wS} {rv : Int32} {rs : wS} (hk1 : wkd k1 = 3) (h : wX10_gatherProof k1 s = some (rv, rs)) : gEv 6 163 [.ref 1, .ref (k1 + 1)] (wmk s) (some (.int rv), wmk rs, 0, 0) := by
  refine gEv_of (d := 5) (L := [some (.ref 1), some (.ref (k1 + 1)), none, none]) rfl ?_
  unfold wX10_gatherProof at h
  refine gR_go 4 (pc1 := 4) (L1 := [some (.ref 1), some (.ref (k1 + 1)), some (.int 0), some (.int 0)]) (st1 := []) (fun _ _ => rfl) ?_
  obtain ⟨z13, ez13, h⟩ := gb h
  refine wX10_gatherProof_t4 hk1 ?_  ez13
  · intro t14 s15 w16 w17 hz
    replace hz := hz.symm
    subst hz
    dsimp only at h
    refine gR_go 1 (pc1 := 58) (L1 := [some (.ref 1), some (.ref (w16 + 1)), some (.int t14), some (.int w17)]) (st1 := [.int t14]) (fun _ _ => rfl) ?_
    obtain ⟨rfl, rfl⟩ := gi2 h
    exact gR_ri rfl rfl
noncomputable def wX10_provesMan_j45 (qq : Int32 → Int32 → Option (Int32)) (x1 : Int32) (x2 : Int32) (x3 : Int32) (x4 : Int32) (x5 : Int32) (s : wS) : Option (Int32) := qq x4 (x5 + 1)
theorem wX10_provesMan_u45 {x1 : Int32} {x2 : Int32} {x3 : Int32} {x4 : Int32} {x5 : Int32} {s : wS} {qq : Int32 → Int32 → Option (Int32)} {x : Int32} {r : ri_R} (ih : ∀ {x4 : Int32} {x5 : Int32} , qq x4 x5 = some x → gRun 4 164 15 [some (.ref 1), some (.int x1), some (.int x2), some (.int x3), some (.int x4), some (.int x5)] [] (wmk s) r) (he51 : ∀ (x4 : Int32) (w1 : Int32) (w2 : Int32) (w5 : Int32) , x = x4 → gRun 4 164 51 [some (.ref 1), some (.int w1), some (.int w2), some (.int x3), some (.int x4), some (.int w5)] [] (wmk s) r) (h : wX10_provesMan_j45 qq x1 x2 x3 x4 x5 s = some x) : gRun 4 164 45 [some (.ref 1), some (.int x1), some (.int x2), some (.int x3), some (.int x4), some (.int x5)] [] (wmk s) r := by
  unfold wX10_provesMan_j45 at h
  refine gR_go 2 (pc1 := 15) (L1 := [some (.ref 1), some (.int x1), some (.int x2), some (.int x3), some (.int x4), some (.int (x5 + 1))]) (st1 := []) (fun _ _ => rfl) ?_
  exact ih h
noncomputable def wX10_provesMan_h15 (x1 : Int32) (x2 : Int32) (x3 : Int32) (s : wS) : Nat → Int32 → Int32 → Option (Int32)
  | 0, _, _ => none
  | n + 1, x4, x5 => if x5 < x2 then (if ((x1 >>> (x5 &&& 31)) &&& 1) = 1 then ((wX10_at 39 x5 s).bind fun t5 => wX10_provesMan_j45 (wX10_provesMan_h15 x1 x2 x3 s n) x1 x2 x3 (x4 &&& t5) x5 s) else (wX10_provesMan_j45 (wX10_provesMan_h15 x1 x2 x3 s n) x1 x2 x3 x4 x5 s)) else (some x4)
theorem wX10_provesMan_t15 {x1 : Int32} {x2 : Int32} {x3 : Int32} {s : wS} {x : Int32} {r : ri_R} (he51 : ∀ (x4 : Int32) (w1 : Int32) (w2 : Int32) (w5 : Int32) , x = x4 → gRun 4 164 51 [some (.ref 1), some (.int w1), some (.int w2), some (.int x3), some (.int x4), some (.int w5)] [] (wmk s) r) : ∀ {n : Nat} {x4 : Int32} {x5 : Int32} , wX10_provesMan_h15 x1 x2 x3 s n x4 x5 = some x → gRun 4 164 15 [some (.ref 1), some (.int x1), some (.int x2), some (.int x3), some (.int x4), some (.int x5)] [] (wmk s) r := by
  intro n
  induction n with
  | zero => intro x4 x5 h; cases (show (none : Option (Int32)) = some x from h)
  | succ n ih =>
    intro x4 x5 h
    rw [wX10_provesMan_h15] at h
    refine gR_go 2 (pc1 := 18) (L1 := [some (.ref 1), some (.int x1), some (.int x2), some (.int x3), some (.int x4), some (.int x5)]) (st1 := [.int x2, .int x5]) (fun _ _ => rfl) ?_
    rcases gif h with ⟨c3, h⟩ | ⟨c3, h⟩
    · refine gR_ic_ge_f rfl c3 ?_
      refine gR_go 6 (pc1 := 28) (L1 := [some (.ref 1), some (.int x1), some (.int x2), some (.int x3), some (.int x4), some (.int x5)]) (st1 := [.int 1, .int ((x1 >>> (x5 &&& 31)) &&& 1)]) (fun _ _ => rfl) ?_
      rcases gif h with ⟨c4, h⟩ | ⟨c4, h⟩
      · refine gR_ic_ne_f rfl c4 ?_
        refine gR_go 2 (pc1 := 34) (L1 := [some (.ref 1), some (.int x1), some (.int x2), some (.int x3), some (.int x4), some (.int x5)]) (st1 := [.ref 1, .int x4]) (fun _ _ => rfl) ?_
        refine gR_gfR (k := 0) (k' := 39) rfl rfl rfl rfl ?_
        refine gR_go 1 (pc1 := 39) (L1 := [some (.ref 1), some (.int x1), some (.int x2), some (.int x3), some (.int x4), some (.int x5)]) (st1 := [.int x5, .ref 40, .int x4]) (fun _ _ => rfl) ?_
        obtain ⟨t5, e6, h⟩ := gb h
        refine gR_csI (wX10_at_s rfl e6) (Nat.le_of_ble_eq_true rfl) rfl rfl rfl rfl ?_
        refine gR_go 2 (pc1 := 45) (L1 := [some (.ref 1), some (.int x1), some (.int x2), some (.int x3), some (.int (x4 &&& t5)), some (.int x5)]) (st1 := []) (fun _ _ => rfl) ?_
        exact wX10_provesMan_u45 ih he51 h
      · refine gR_ic_ne_j rfl c4 rfl ?_
        exact wX10_provesMan_u45 ih he51 h
    · refine gR_ic_ge_j rfl c3 rfl ?_
      exact he51 _ _ _ _ (Option.some.inj h).symm
noncomputable def wX10_provesMan (x1 : Int32) (x2 : Int32) (x3 : Int32) (s : wS) : Option (Int32) := (wX0_bitsOfAll 15 s).bind fun t1 => (wX10_provesMan_h15 x1 x2 x3 s wFuel t1 0).bind fun t8 => (wX10_hasWorld t8 s).bind fun t12 => if t12 = 0 then (some 0) else ((wX10_slot 2 0 s).bind fun t15 => if (t8 >>> (t15 &&& 31)) = (1 <<< (x3 &&& 31)) then (some 1) else (some 0))
theorem wX10_provesMan_s {x1 : Int32} {x2 : Int32} {x3 : Int32} {s : wS} {rv : Int32} (h : wX10_provesMan x1 x2 x3 s = some rv) : gEv 5 164 [.ref 1, .int x1, .int x2, .int x3] (wmk s) (some (.int rv), wmk s, 0, 0) := by
  refine gEv_of (d := 4) (L := [some (.ref 1), some (.int x1), some (.int x2), some (.int x3), none, none]) rfl ?_
  unfold wX10_provesMan at h
  refine gR_go 1 (pc1 := 1) (L1 := [some (.ref 1), some (.int x1), some (.int x2), some (.int x3), none, none]) (st1 := [.ref 1]) (fun _ _ => rfl) ?_
  refine gR_gfR (k := 0) (k' := 14) rfl rfl rfl rfl ?_
  refine gR_gfR (k := 14) (k' := 15) rfl rfl rfl rfl ?_
  obtain ⟨t1, e2, h⟩ := gb h
  refine gR_cvI (wX0_bitsOfAll_s rfl e2) (Nat.le_of_ble_eq_true rfl) rfl rfl rfl rfl rfl ?_
  refine gR_go 3 (pc1 := 15) (L1 := [some (.ref 1), some (.int x1), some (.int x2), some (.int x3), some (.int t1), some (.int 0)]) (st1 := []) (fun _ _ => rfl) ?_
  obtain ⟨z7, ez7, h⟩ := gb h
  refine wX10_provesMan_t15 ?_  ez7
  · intro t8 w9 w10 w11 hz
    replace hz := hz.symm
    subst hz
    refine gR_go 1 (pc1 := 53) (L1 := [some (.ref 1), some (.int w9), some (.int w10), some (.int x3), some (.int t8), some (.int w11)]) (st1 := [.int t8]) (fun _ _ => rfl) ?_
    obtain ⟨t12, e13, h⟩ := gb h
    refine gR_csI (wX10_hasWorld_s e13) (Nat.le_of_ble_eq_true rfl) rfl rfl rfl rfl ?_
    rcases gif h with ⟨c14, h⟩ | ⟨c14, h⟩
    · refine gR_iz_eq_j rfl c14 rfl ?_
      refine gR_go 1 (pc1 := 78) (L1 := [some (.ref 1), some (.int w9), some (.int w10), some (.int x3), some (.int t8), some (.int w11)]) (st1 := [.int 0]) (fun _ _ => rfl) ?_
      obtain rfl := gi1 h
      exact gR_rzc rfl rfl rfl
    · refine gR_iz_eq_f rfl c14 ?_
      refine gR_go 3 (pc1 := 63) (L1 := [some (.ref 1), some (.int w9), some (.int w10), some (.int x3), some (.int t8), some (.int w11)]) (st1 := [.int 0, .int 2, .int t8]) (fun _ _ => rfl) ?_
      obtain ⟨t15, e16, h⟩ := gb h
      refine gR_csI (wX10_slot_s e16) (Nat.le_of_ble_eq_true rfl) rfl rfl rfl rfl ?_
      refine gR_go 4 (pc1 := 70) (L1 := [some (.ref 1), some (.int w9), some (.int w10), some (.int x3), some (.int t8), some (.int w11)]) (st1 := [.int (1 <<< (x3 &&& 31)), .int (t8 >>> (t15 &&& 31))]) (fun _ _ => rfl) ?_
      rcases gif h with ⟨c17, h⟩ | ⟨c17, h⟩
      · refine gR_ic_ne_f rfl c17 ?_
        refine gR_go 2 (pc1 := 78) (L1 := [some (.ref 1), some (.int w9), some (.int w10), some (.int x3), some (.int t8), some (.int w11)]) (st1 := [.int 1]) (fun _ _ => rfl) ?_
        obtain rfl := gi1 h
        exact gR_rzc rfl rfl rfl
      · refine gR_ic_ne_j rfl c17 rfl ?_
        refine gR_go 1 (pc1 := 78) (L1 := [some (.ref 1), some (.int w9), some (.int w10), some (.int x3), some (.int t8), some (.int w11)]) (st1 := [.int 0]) (fun _ _ => rfl) ?_
        obtain rfl := gi1 h
        exact gR_rzc rfl rfl rfl
noncomputable def wX10_proof_j98 (qq : Int32 → Int32 → Option (Int32)) (x2 : Int32) (x4 : Int32) (x5 : Int32) (x6 : Int32) (s : wS) : Option (Int32) := qq x5 (x6 + 1)
theorem wX10_proof_u98 {x2 : Int32} {x4 : Int32} {x5 : Int32} {x6 : Int32} {s : wS} {w1 : Int32} {w3 : Nat} {w7 : Int32} {qq : Int32 → Int32 → Option (Int32)} {x : Int32} {r : ri_R} (ih : ∀ {x5 : Int32} {x6 : Int32} {w1 : Int32} {w3 : Nat} {w7 : Option Value} , qq x5 x6 = some x → gRun 6 124 41 [some (.ref 1), some (.int w1), some (.int x2), some (.ref (w3 + 1)), some (.int x4), some (.int x5), some (.int x6), w7] [] (wmk s) r) (he104 : ∀ (x5 : Int32) (w1 : Int32) (w2 : Int32) (w3 : Nat) (w4 : Int32) (w6 : Int32) (w7 : Option Value) , x = x5 → gRun 6 124 104 [some (.ref 1), some (.int w1), some (.int w2), some (.ref (w3 + 1)), some (.int w4), some (.int x5), some (.int w6), w7] [] (wmk s) r) (h : wX10_proof_j98 qq x2 x4 x5 x6 s = some x) : gRun 6 124 98 [some (.ref 1), some (.int w1), some (.int x2), some (.ref (w3 + 1)), some (.int x4), some (.int x5), some (.int x6), some (.int w7)] [] (wmk s) r := by
  unfold wX10_proof_j98 at h
  refine gR_go 2 (pc1 := 41) (L1 := [some (.ref 1), some (.int w1), some (.int x2), some (.ref (w3 + 1)), some (.int x4), some (.int x5), some (.int (x6 + 1)), some (.int w7)]) (st1 := []) (fun _ _ => rfl) ?_
  exact ih h
noncomputable def wX10_proof_j75 (qq : Int32 → Int32 → Option (Int32)) (x2 : Int32) (x4 : Int32) (x5 : Int32) (x6 : Int32) (y0 : Int32) (s : wS) : Option (Int32) := if y0 = 0 then (wX10_proof_j98 qq x2 x4 x5 x6 s) else ((wX10_provesMan x6 x4 x2 s).bind fun t14 => if t14 = 0 then (wX10_proof_j98 qq x2 x4 x5 x6 s) else (wX10_proof_j98 qq x2 x4 x6 x6 s))
theorem wX10_proof_u75 {x2 : Int32} {x4 : Int32} {x5 : Int32} {x6 : Int32} {y0 : Int32} {s : wS} {w1 : Int32} {w3 : Nat} {w7 : Option Value} {qq : Int32 → Int32 → Option (Int32)} {x : Int32} {r : ri_R} (ih : ∀ {x5 : Int32} {x6 : Int32} {w1 : Int32} {w3 : Nat} {w7 : Option Value} , qq x5 x6 = some x → gRun 6 124 41 [some (.ref 1), some (.int w1), some (.int x2), some (.ref (w3 + 1)), some (.int x4), some (.int x5), some (.int x6), w7] [] (wmk s) r) (he104 : ∀ (x5 : Int32) (w1 : Int32) (w2 : Int32) (w3 : Nat) (w4 : Int32) (w6 : Int32) (w7 : Option Value) , x = x5 → gRun 6 124 104 [some (.ref 1), some (.int w1), some (.int w2), some (.ref (w3 + 1)), some (.int w4), some (.int x5), some (.int w6), w7] [] (wmk s) r) (h : wX10_proof_j75 qq x2 x4 x5 x6 y0 s = some x) : gRun 6 124 75 [some (.ref 1), some (.int w1), some (.int x2), some (.ref (w3 + 1)), some (.int x4), some (.int x5), some (.int x6), w7] [.int y0] (wmk s) r := by
  unfold wX10_proof_j75 at h
  refine gR_go 2 (pc1 := 79) (L1 := [some (.ref 1), some (.int w1), some (.int x2), some (.ref (w3 + 1)), some (.int x4), some (.int x5), some (.int x6), some (.int y0)]) (st1 := [.int y0]) (fun _ _ => rfl) ?_
  rcases gif h with ⟨c13, h⟩ | ⟨c13, h⟩
  · refine gR_iz_eq_j rfl c13 rfl ?_
    exact wX10_proof_u98 ih he104 h
  · refine gR_iz_eq_f rfl c13 ?_
    refine gR_go 4 (pc1 := 88) (L1 := [some (.ref 1), some (.int w1), some (.int x2), some (.ref (w3 + 1)), some (.int x4), some (.int x5), some (.int x6), some (.int y0)]) (st1 := [.int x2, .int x4, .int x6, .ref 1]) (fun _ _ => rfl) ?_
    obtain ⟨t14, e15, h⟩ := gb h
    refine gR_cvI (wX10_provesMan_s e15) (Nat.le_of_ble_eq_true rfl) rfl rfl rfl rfl rfl ?_
    rcases gif h with ⟨c16, h⟩ | ⟨c16, h⟩
    · refine gR_iz_eq_j rfl c16 rfl ?_
      exact wX10_proof_u98 ih he104 h
    · refine gR_iz_eq_f rfl c16 ?_
      refine gR_go 2 (pc1 := 98) (L1 := [some (.ref 1), some (.int w1), some (.int x2), some (.ref (w3 + 1)), some (.int x4), some (.int x6), some (.int x6), some (.int y0)]) (st1 := []) (fun _ _ => rfl) ?_
      exact wX10_proof_u98 ih he104 h
noncomputable def wX10_proof_j70 (qq : Int32 → Int32 → Option (Int32)) (x2 : Int32) (x4 : Int32) (x5 : Int32) (x6 : Int32) (s : wS) : Option (Int32) := wX10_proof_j75 qq x2 x4 x5 x6 1 s
theorem wX10_proof_u70 {x2 : Int32} {x4 : Int32} {x5 : Int32} {x6 : Int32} {s : wS} {w1 : Int32} {w3 : Nat} {w7 : Option Value} {qq : Int32 → Int32 → Option (Int32)} {x : Int32} {r : ri_R} (ih : ∀ {x5 : Int32} {x6 : Int32} {w1 : Int32} {w3 : Nat} {w7 : Option Value} , qq x5 x6 = some x → gRun 6 124 41 [some (.ref 1), some (.int w1), some (.int x2), some (.ref (w3 + 1)), some (.int x4), some (.int x5), some (.int x6), w7] [] (wmk s) r) (he104 : ∀ (x5 : Int32) (w1 : Int32) (w2 : Int32) (w3 : Nat) (w4 : Int32) (w6 : Int32) (w7 : Option Value) , x = x5 → gRun 6 124 104 [some (.ref 1), some (.int w1), some (.int w2), some (.ref (w3 + 1)), some (.int w4), some (.int x5), some (.int w6), w7] [] (wmk s) r) (h : wX10_proof_j70 qq x2 x4 x5 x6 s = some x) : gRun 6 124 70 [some (.ref 1), some (.int w1), some (.int x2), some (.ref (w3 + 1)), some (.int x4), some (.int x5), some (.int x6), w7] [] (wmk s) r := by
  unfold wX10_proof_j70 at h
  refine gR_go 2 (pc1 := 75) (L1 := [some (.ref 1), some (.int w1), some (.int x2), some (.ref (w3 + 1)), some (.int x4), some (.int x5), some (.int x6), w7]) (st1 := [.int 1]) (fun _ _ => rfl) ?_
  exact wX10_proof_u75 ih he104 h
noncomputable def wX10_proof_h41 (x2 : Int32) (x4 : Int32) (s : wS) : Nat → Int32 → Int32 → Option (Int32)
  | 0, _, _ => none
  | n + 1, x5, x6 => if x6 < (1 <<< (x4 &&& 31)) then (if x5 = ((Int8.ofInt (-2)).toInt32) then (wX10_proof_j70 (wX10_proof_h41 x2 x4 s n) x2 x4 x5 x6 s) else ((wJ6_bitCount_0f7a4 x6 s).bind fun t17 => (wJ6_bitCount_0f7a4 x5 s).bind fun t19 => if t17 < t19 then (wX10_proof_j70 (wX10_proof_h41 x2 x4 s n) x2 x4 x5 x6 s) else (wX10_proof_j75 (wX10_proof_h41 x2 x4 s n) x2 x4 x5 x6 0 s))) else (some x5)
theorem wX10_proof_t41 {x2 : Int32} {x4 : Int32} {s : wS} {x : Int32} {r : ri_R} (he104 : ∀ (x5 : Int32) (w1 : Int32) (w2 : Int32) (w3 : Nat) (w4 : Int32) (w6 : Int32) (w7 : Option Value) , x = x5 → gRun 6 124 104 [some (.ref 1), some (.int w1), some (.int w2), some (.ref (w3 + 1)), some (.int w4), some (.int x5), some (.int w6), w7] [] (wmk s) r) : ∀ {n : Nat} {x5 : Int32} {x6 : Int32} {w1 : Int32} {w3 : Nat} {w7 : Option Value} , wX10_proof_h41 x2 x4 s n x5 x6 = some x → gRun 6 124 41 [some (.ref 1), some (.int w1), some (.int x2), some (.ref (w3 + 1)), some (.int x4), some (.int x5), some (.int x6), w7] [] (wmk s) r := by
  intro n
  induction n with
  | zero => intro x5 x6 w1 w3 w7 h; cases (show (none : Option (Int32)) = some x from h)
  | succ n ih =>
    intro x5 x6 w1 w3 w7 h
    rw [wX10_proof_h41] at h
    refine gR_go 4 (pc1 := 47) (L1 := [some (.ref 1), some (.int w1), some (.int x2), some (.ref (w3 + 1)), some (.int x4), some (.int x5), some (.int x6), w7]) (st1 := [.int (1 <<< (x4 &&& 31)), .int x6]) (fun _ _ => rfl) ?_
    rcases gif h with ⟨c11, h⟩ | ⟨c11, h⟩
    · refine gR_ic_ge_f rfl c11 ?_
      refine gR_go 2 (pc1 := 54) (L1 := [some (.ref 1), some (.int w1), some (.int x2), some (.ref (w3 + 1)), some (.int x4), some (.int x5), some (.int x6), w7]) (st1 := [.int ((Int8.ofInt (-2)).toInt32), .int x5]) (fun _ _ => rfl) ?_
      rcases gif h with ⟨c12, h⟩ | ⟨c12, h⟩
      · refine gR_ic_eq_j rfl c12 rfl ?_
        exact wX10_proof_u70 ih he104 h
      · refine gR_ic_eq_f rfl c12 ?_
        refine gR_go 1 (pc1 := 59) (L1 := [some (.ref 1), some (.int w1), some (.int x2), some (.ref (w3 + 1)), some (.int x4), some (.int x5), some (.int x6), w7]) (st1 := [.int x6]) (fun _ _ => rfl) ?_
        obtain ⟨t17, e18, h⟩ := gb h
        refine gR_csI (wJ6_bitCount_0f7a4_s e18) (Nat.le_of_ble_eq_true rfl) rfl rfl rfl rfl ?_
        refine gR_go 1 (pc1 := 64) (L1 := [some (.ref 1), some (.int w1), some (.int x2), some (.ref (w3 + 1)), some (.int x4), some (.int x5), some (.int x6), w7]) (st1 := [.int x5, .int t17]) (fun _ _ => rfl) ?_
        obtain ⟨t19, e20, h⟩ := gb h
        refine gR_csI (wJ6_bitCount_0f7a4_s e20) (Nat.le_of_ble_eq_true rfl) rfl rfl rfl rfl ?_
        rcases gif h with ⟨c21, h⟩ | ⟨c21, h⟩
        · refine gR_ic_ge_f rfl c21 ?_
          exact wX10_proof_u70 ih he104 h
        · refine gR_ic_ge_j rfl c21 rfl ?_
          refine gR_go 1 (pc1 := 75) (L1 := [some (.ref 1), some (.int w1), some (.int x2), some (.ref (w3 + 1)), some (.int x4), some (.int x5), some (.int x6), w7]) (st1 := [.int 0]) (fun _ _ => rfl) ?_
          exact wX10_proof_u75 ih he104 h
    · refine gR_ic_ge_j rfl c11 rfl ?_
      exact he104 _ _ _ _ _ _ _ (Option.some.inj h).symm
noncomputable def wX10_proof (x1 : Int32) (x2 : Int32) (s : wS) : Option (Int32 × wS) := (wX10_lawInUse x1 s).bind fun (o1, s2) => Option.elim o1 (some ((-1), s2)) (fun k4 => (wX0_has 15 2 x2 s2).bind fun t5 => if t5 = 0 then (some ((-1), s2)) else ((wX10_gatherProof k4 s2).bind fun (t8, s9) => (wX10_proof_h41 x2 t8 s9 wFuel ((Int8.ofInt (-2)).toInt32) 0).bind fun t23 => some (t23, s9)))
theorem wX10_proof_s {x1 : Int32} {x2 : Int32} {s : wS} {rv : Int32} {rs : wS} (h : wX10_proof x1 x2 s = some (rv, rs)) : gEv 7 124 [.ref 1, .int x1, .int x2] (wmk s) (some (.int rv), wmk rs, 0, 0) := by
  refine gEv_of (d := 6) (L := [some (.ref 1), some (.int x1), some (.int x2), none, none, none, none, none]) rfl ?_
  unfold wX10_proof at h
  refine gR_go 2 (pc1 := 2) (L1 := [some (.ref 1), some (.int x1), some (.int x2), none, none, none, none, none]) (st1 := [.int x1, .ref 1]) (fun _ _ => rfl) ?_
  obtain ⟨⟨o1, s2⟩, e3, h⟩ := gb h
  dsimp only at h
  refine gR_cvR (wX10_lawInUse_s e3) (Nat.le_of_ble_eq_true rfl) rfl rfl rfl rfl rfl ?_
  refine gR_astn (L1 := [some (.ref 1), some (.int x1), some (.int x2), some (wrv o1), none, none, none, none]) rfl rfl rfl ?_
  refine gR_aldn rfl rfl ?_
  rcases gel h with ⟨ek4, hh⟩ | ⟨k4, ek4, hh⟩
  · clear h
    subst ek4
    have h := hh
    clear hh
    refine gR_ifnull_n_j rfl rfl ?_
    refine gR_go 1 (pc1 := 26) (L1 := [some (.ref 1), some (.int x1), some (.int x2), some (.null), none, none, none, none]) (st1 := [.int (-1)]) (fun _ _ => rfl) ?_
    obtain ⟨rfl, rfl⟩ := gi2 h
    exact gR_ri rfl rfl
  · clear h
    subst ek4
    have h := hh
    clear hh
    refine gR_ifnull_r_f rfl ?_
    refine gR_go 1 (pc1 := 11) (L1 := [some (.ref 1), some (.int x1), some (.int x2), some (.ref (k4 + 1)), none, none, none, none]) (st1 := [.ref 1]) (fun _ _ => rfl) ?_
    refine gR_gfR (k := 0) (k' := 14) rfl rfl rfl rfl ?_
    refine gR_gfR (k := 14) (k' := 15) rfl rfl rfl rfl ?_
    refine gR_go 2 (pc1 := 19) (L1 := [some (.ref 1), some (.int x1), some (.int x2), some (.ref (k4 + 1)), none, none, none, none]) (st1 := [.int x2, .int 2, .ref 16]) (fun _ _ => rfl) ?_
    obtain ⟨t5, e6, h⟩ := gb h
    refine gR_cvI (wX0_has_s rfl e6) (Nat.le_of_ble_eq_true rfl) rfl rfl rfl rfl rfl ?_
    rcases gif h with ⟨c7, h⟩ | ⟨c7, h⟩
    · refine gR_iz_ne_f rfl c7 ?_
      refine gR_go 1 (pc1 := 26) (L1 := [some (.ref 1), some (.int x1), some (.int x2), some (.ref (k4 + 1)), none, none, none, none]) (st1 := [.int (-1)]) (fun _ _ => rfl) ?_
      obtain ⟨rfl, rfl⟩ := gi2 h
      exact gR_ri rfl rfl
    · refine gR_iz_ne_j rfl c7 rfl ?_
      refine gR_go 2 (pc1 := 29) (L1 := [some (.ref 1), some (.int x1), some (.int x2), some (.ref (k4 + 1)), none, none, none, none]) (st1 := [.ref (k4 + 1), .ref 1]) (fun _ _ => rfl) ?_
      obtain ⟨⟨t8, s9⟩, e10, h⟩ := gb h
      dsimp only at h
      refine gR_cvI (wX10_gatherProof_s (wX10_lawInUse_q e3) e10) (Nat.le_of_ble_eq_true rfl) rfl rfl rfl rfl rfl ?_
      refine gR_go 5 (pc1 := 41) (L1 := [some (.ref 1), some (.int x1), some (.int x2), some (.ref (k4 + 1)), some (.int t8), some (.int ((Int8.ofInt (-2)).toInt32)), some (.int 0), none]) (st1 := []) (fun _ _ => rfl) ?_
      obtain ⟨z22, ez22, h⟩ := gb h
      refine wX10_proof_t41 ?_  ez22
      · intro t23 w24 w25 w26 w27 w28 w29 hz
        replace hz := hz.symm
        subst hz
        refine gR_go 1 (pc1 := 106) (L1 := [some (.ref 1), some (.int w24), some (.int w25), some (.ref (w26 + 1)), some (.int w27), some (.int t23), some (.int w28), w29]) (st1 := [.int t23]) (fun _ _ => rfl) ?_
        obtain ⟨rfl, rfl⟩ := gi2 h
        exact gR_ri rfl rfl
noncomputable def wX10_countKeptBy_j118 (qq : Int32 → wS → Option (wS)) (x1 : Int32) (x2 : Int32) (x3 : Int32) (s : wS) : Option (wS) := qq (x3 + 1) s
theorem wX10_countKeptBy_u118 {x1 : Int32} {x2 : Int32} {x3 : Int32} {s : wS} {w4 : Option Nat} {w5 : Option Value} {qq : Int32 → wS → Option (wS)} {x : wS} {r : ri_R} (ih : ∀ {x3 : Int32} {s : wS} {w4 : Option Value} {w5 : Option Value} , qq x3 s = some x → gRun 6 165 9 [some (.ref 1), some (.int x1), some (.int x2), some (.int x3), w4, w5] [] (wmk s) r) (he124 : ∀ (s : wS) (w1 : Int32) (w2 : Int32) (w3 : Int32) (w4 : Option Value) (w5 : Option Value) , x = s → gRun 6 165 124 [some (.ref 1), some (.int w1), some (.int w2), some (.int w3), w4, w5] [] (wmk s) r) (h : wX10_countKeptBy_j118 qq x1 x2 x3 s = some x) : gRun 6 165 118 [some (.ref 1), some (.int x1), some (.int x2), some (.int x3), some (wrv w4), w5] [] (wmk s) r := by
  unfold wX10_countKeptBy_j118 at h
  refine gR_go 2 (pc1 := 9) (L1 := [some (.ref 1), some (.int x1), some (.int x2), some (.int (x3 + 1)), some (wrv w4), w5]) (st1 := []) (fun _ _ => rfl) ?_
  exact ih h
noncomputable def wX10_countKeptBy_j108 (qq : Int32 → wS → Option (wS)) (x1 : Int32) (x2 : Int32) (x3 : Int32) (x5 : Int32) (y1 : Int32) (y2 : Int32) (y3 : Int32) (s : wS) : Option (wS) := (wX10_set 34 y1 (y2 + y3) s).bind fun s24 => qq (x5 + 1) s24
theorem wX10_countKeptBy_u108 {x1 : Int32} {x2 : Int32} {x3 : Int32} {x5 : Int32} {y1 : Int32} {y2 : Int32} {y3 : Int32} {s : wS} {w4 : Nat} {qq : Int32 → wS → Option (wS)} {x : wS} {r : ri_R} (ih : ∀ {x5 : Int32} {s : wS} {w4 : Nat} , qq x5 s = some x → gRun 6 165 60 [some (.ref 1), some (.int x1), some (.int x2), some (.int x3), some (.ref (w4 + 1)), some (.int x5)] [] (wmk s) r) (he118 : ∀ (s : wS) (w4 : Option Nat) (w5 : Option Value) , x = s → gRun 6 165 118 [some (.ref 1), some (.int x1), some (.int x2), some (.int x3), some (wrv w4), w5] [] (wmk s) r) (h : wX10_countKeptBy_j108 qq x1 x2 x3 x5 y1 y2 y3 s = some x) : gRun 6 165 108 [some (.ref 1), some (.int x1), some (.int x2), some (.int x3), some (.ref (w4 + 1)), some (.int x5)] [.int y3, .int y2, .int y1, .ref 35] (wmk s) r := by
  unfold wX10_countKeptBy_j108 at h
  refine gR_go 1 (pc1 := 109) (L1 := [some (.ref 1), some (.int x1), some (.int x2), some (.int x3), some (.ref (w4 + 1)), some (.int x5)]) (st1 := [.int (y2 + y3), .int y1, .ref 35]) (fun _ _ => rfl) ?_
  obtain ⟨s24, e25, h⟩ := gb h
  refine gR_csV (wX10_set_s rfl e25) (Nat.le_of_ble_eq_true rfl) rfl rfl rfl rfl ?_
  refine gR_go 2 (pc1 := 60) (L1 := [some (.ref 1), some (.int x1), some (.int x2), some (.int x3), some (.ref (w4 + 1)), some (.int (x5 + 1))]) (st1 := []) (fun _ _ => rfl) ?_
  exact ih h
noncomputable def wX10_countKeptBy_h60 (x1 : Int32) (x2 : Int32) (x3 : Int32) : Nat → Int32 → wS → Option (wS)
  | 0, _, _ => none
  | n + 1, x5, s => (wX0_worlds 15 s).bind fun t15 => if x5 < t15 then ((wX10_at 34 x5 s).bind fun t18 => (wX10_at 33 x5 s).bind fun t20 => if x2 < t20 then (wX10_countKeptBy_j108 (wX10_countKeptBy_h60 x1 x2 x3 n) x1 x2 x3 x5 x5 t18 0 s) else (wX10_countKeptBy_j108 (wX10_countKeptBy_h60 x1 x2 x3 n) x1 x2 x3 x5 x5 t18 1 s)) else (some s)
theorem wX10_countKeptBy_t60 {x1 : Int32} {x2 : Int32} {x3 : Int32} {x : wS} {r : ri_R} (he118 : ∀ (s : wS) (w4 : Option Nat) (w5 : Option Value) , x = s → gRun 6 165 118 [some (.ref 1), some (.int x1), some (.int x2), some (.int x3), some (wrv w4), w5] [] (wmk s) r) : ∀ {n : Nat} {x5 : Int32} {s : wS} {w4 : Nat} , wX10_countKeptBy_h60 x1 x2 x3 n x5 s = some x → gRun 6 165 60 [some (.ref 1), some (.int x1), some (.int x2), some (.int x3), some (.ref (w4 + 1)), some (.int x5)] [] (wmk s) r := by
  intro n
  induction n with
  | zero => intro x5 s w4 h; cases (show (none : Option (wS)) = some x from h)
  | succ n ih =>
    intro x5 s w4 h
    rw [wX10_countKeptBy_h60] at h
    refine gR_go 2 (pc1 := 63) (L1 := [some (.ref 1), some (.int x1), some (.int x2), some (.int x3), some (.ref (w4 + 1)), some (.int x5)]) (st1 := [.ref 1, .int x5]) (fun _ _ => rfl) ?_
    refine gR_gfR (k := 0) (k' := 14) rfl rfl rfl rfl ?_
    refine gR_gfR (k := 14) (k' := 15) rfl rfl rfl rfl ?_
    obtain ⟨t15, e16, h⟩ := gb h
    refine gR_cvI (wX0_worlds_s rfl e16) (Nat.le_of_ble_eq_true rfl) rfl rfl rfl rfl rfl ?_
    rcases gif h with ⟨c17, h⟩ | ⟨c17, h⟩
    · refine gR_ic_ge_f rfl c17 ?_
      refine gR_go 1 (pc1 := 76) (L1 := [some (.ref 1), some (.int x1), some (.int x2), some (.int x3), some (.ref (w4 + 1)), some (.int x5)]) (st1 := [.ref 1]) (fun _ _ => rfl) ?_
      refine gR_gfR (k := 0) (k' := 34) rfl rfl rfl rfl ?_
      refine gR_go 2 (pc1 := 82) (L1 := [some (.ref 1), some (.int x1), some (.int x2), some (.int x3), some (.ref (w4 + 1)), some (.int x5)]) (st1 := [.ref 1, .int x5, .ref 35]) (fun _ _ => rfl) ?_
      refine gR_gfR (k := 0) (k' := 34) rfl rfl rfl rfl ?_
      refine gR_go 1 (pc1 := 87) (L1 := [some (.ref 1), some (.int x1), some (.int x2), some (.int x3), some (.ref (w4 + 1)), some (.int x5)]) (st1 := [.int x5, .ref 35, .int x5, .ref 35]) (fun _ _ => rfl) ?_
      obtain ⟨t18, e19, h⟩ := gb h
      refine gR_csI (wX10_at_s rfl e19) (Nat.le_of_ble_eq_true rfl) rfl rfl rfl rfl ?_
      refine gR_go 1 (pc1 := 91) (L1 := [some (.ref 1), some (.int x1), some (.int x2), some (.int x3), some (.ref (w4 + 1)), some (.int x5)]) (st1 := [.ref 1, .int t18, .int x5, .ref 35]) (fun _ _ => rfl) ?_
      refine gR_gfR (k := 0) (k' := 33) rfl rfl rfl rfl ?_
      refine gR_go 1 (pc1 := 96) (L1 := [some (.ref 1), some (.int x1), some (.int x2), some (.int x3), some (.ref (w4 + 1)), some (.int x5)]) (st1 := [.int x5, .ref 34, .int t18, .int x5, .ref 35]) (fun _ _ => rfl) ?_
      obtain ⟨t20, e21, h⟩ := gb h
      refine gR_csI (wX10_at_s rfl e21) (Nat.le_of_ble_eq_true rfl) rfl rfl rfl rfl ?_
      refine gR_go 1 (pc1 := 100) (L1 := [some (.ref 1), some (.int x1), some (.int x2), some (.int x3), some (.ref (w4 + 1)), some (.int x5)]) (st1 := [.int x2, .int t20, .int t18, .int x5, .ref 35]) (fun _ _ => rfl) ?_
      rcases gif h with ⟨c22, h⟩ | ⟨c22, h⟩
      · refine gR_ic_gt_j rfl c22 rfl ?_
        refine gR_go 1 (pc1 := 108) (L1 := [some (.ref 1), some (.int x1), some (.int x2), some (.int x3), some (.ref (w4 + 1)), some (.int x5)]) (st1 := [.int 0, .int t18, .int x5, .ref 35]) (fun _ _ => rfl) ?_
        exact wX10_countKeptBy_u108 ih he118 h
      · refine gR_ic_gt_f rfl c22 ?_
        refine gR_go 2 (pc1 := 108) (L1 := [some (.ref 1), some (.int x1), some (.int x2), some (.int x3), some (.ref (w4 + 1)), some (.int x5)]) (st1 := [.int 1, .int t18, .int x5, .ref 35]) (fun _ _ => rfl) ?_
        exact wX10_countKeptBy_u108 ih he118 h
    · refine gR_ic_ge_j rfl c17 rfl ?_
      exact he118 _ (some w4) _ (Option.some.inj h).symm
noncomputable def wX10_countKeptBy_j35 (qq : Int32 → wS → Option (wS)) (x1 : Int32) (x2 : Int32) (x3 : Int32) (o100 : Option Nat) (s : wS) : Option (wS) := Option.elim o100 (wX10_countKeptBy_j118 qq x1 x2 x3 s) (fun k9 => (wX2_first 14 s).bind fun t10 => (wX10_countFalse k9 t10 (-1) (-1) s).bind fun s13 => (wX10_countKeptBy_h60 x1 x2 x3 wFuel 0 s13).bind fun s27 => wX10_countKeptBy_j118 qq x1 x2 x3 s27)
theorem wX10_countKeptBy_u35 {x1 : Int32} {x2 : Int32} {x3 : Int32} {o100 : Option Nat} {s : wS} {w4 : Option Value} {w5 : Option Value} {qq : Int32 → wS → Option (wS)} {x : wS} {r : ri_R} (ih : ∀ {x3 : Int32} {s : wS} {w4 : Option Value} {w5 : Option Value} , qq x3 s = some x → gRun 6 165 9 [some (.ref 1), some (.int x1), some (.int x2), some (.int x3), w4, w5] [] (wmk s) r) (he124 : ∀ (s : wS) (w1 : Int32) (w2 : Int32) (w3 : Int32) (w4 : Option Value) (w5 : Option Value) , x = s → gRun 6 165 124 [some (.ref 1), some (.int w1), some (.int w2), some (.int w3), w4, w5] [] (wmk s) r) (hk100 : ∀ k, o100 = some k → wkd k = 3) (h : wX10_countKeptBy_j35 qq x1 x2 x3 o100 s = some x) : gRun 6 165 35 [some (.ref 1), some (.int x1), some (.int x2), some (.int x3), w4, w5] [wrv o100] (wmk s) r := by
  unfold wX10_countKeptBy_j35 at h
  refine gR_astq (L1 := [some (.ref 1), some (.int x1), some (.int x2), some (.int x3), some (wrv o100), w5]) rfl rfl rfl ?_
  refine gR_aldq rfl rfl ?_
  rcases gel h with ⟨ek9, hh⟩ | ⟨k9, ek9, hh⟩
  · clear h
    subst ek9
    have h := hh
    clear hh
    refine gR_ifnull_n_j rfl rfl ?_
    exact wX10_countKeptBy_u118 ih he124 h
  · clear h
    subst ek9
    have h := hh
    clear hh
    refine gR_ifnull_r_f rfl ?_
    refine gR_go 3 (pc1 := 46) (L1 := [some (.ref 1), some (.int x1), some (.int x2), some (.int x3), some (.ref (k9 + 1)), w5]) (st1 := [.ref 1, .ref (k9 + 1), .ref 1]) (fun _ _ => rfl) ?_
    refine gR_gfR (k := 0) (k' := 14) rfl rfl rfl rfl ?_
    obtain ⟨t10, e11, h⟩ := gb h
    refine gR_cvI (wX2_first_s rfl e11) (Nat.le_of_ble_eq_true rfl) rfl rfl rfl rfl rfl ?_
    refine gR_go 2 (pc1 := 54) (L1 := [some (.ref 1), some (.int x1), some (.int x2), some (.int x3), some (.ref (k9 + 1)), w5]) (st1 := [.int (-1), .int (-1), .int t10, .ref (k9 + 1), .ref 1]) (fun _ _ => rfl) ?_
    obtain ⟨s13, e14, h⟩ := gb h
    refine gR_cvV (wX10_countFalse_s (hk100 _ rfl) e14) (Nat.le_of_ble_eq_true rfl) rfl rfl rfl rfl rfl ?_
    refine gR_go 2 (pc1 := 60) (L1 := [some (.ref 1), some (.int x1), some (.int x2), some (.int x3), some (.ref (k9 + 1)), some (.int 0)]) (st1 := []) (fun _ _ => rfl) ?_
    obtain ⟨z26, ez26, h⟩ := gb h
    refine wX10_countKeptBy_t60 ?_  ez26
    · intro s27 w28 w29 hz
      replace hz := hz.symm
      subst hz
      exact wX10_countKeptBy_u118 ih he124 h
noncomputable def wX10_countKeptBy_h9 (x1 : Int32) (x2 : Int32) : Nat → Int32 → wS → Option (wS)
  | 0, _, _ => none
  | n + 1, x3, s => if x3 < (s.1 0 6) then (if ((x1 >>> (x3 &&& 31)) &&& 1) = 1 then ((wX10_lawInUse x3 s).bind fun (o6, s7) => wX10_countKeptBy_j35 (wX10_countKeptBy_h9 x1 x2 n) x1 x2 x3 o6 s7) else (wX10_countKeptBy_j35 (wX10_countKeptBy_h9 x1 x2 n) x1 x2 x3 none s)) else (some s)
theorem wX10_countKeptBy_t9 {x1 : Int32} {x2 : Int32} {x : wS} {r : ri_R} (he124 : ∀ (s : wS) (w1 : Int32) (w2 : Int32) (w3 : Int32) (w4 : Option Value) (w5 : Option Value) , x = s → gRun 6 165 124 [some (.ref 1), some (.int w1), some (.int w2), some (.int w3), w4, w5] [] (wmk s) r) : ∀ {n : Nat} {x3 : Int32} {s : wS} {w4 : Option Value} {w5 : Option Value} , wX10_countKeptBy_h9 x1 x2 n x3 s = some x → gRun 6 165 9 [some (.ref 1), some (.int x1), some (.int x2), some (.int x3), w4, w5] [] (wmk s) r := by
  intro n
  induction n with
  | zero => intro x3 s w4 w5 h; cases (show (none : Option (wS)) = some x from h)
  | succ n ih =>
    intro x3 s w4 w5 h
    rw [wX10_countKeptBy_h9] at h
    refine gR_go 2 (pc1 := 11) (L1 := [some (.ref 1), some (.int x1), some (.int x2), some (.int x3), w4, w5]) (st1 := [.ref 1, .int x3]) (fun _ _ => rfl) ?_
    refine gR_gfI (k := 0) rfl rfl rfl ?_
    rcases gif h with ⟨c4, h⟩ | ⟨c4, h⟩
    · refine gR_ic_ge_f rfl c4 ?_
      refine gR_go 6 (pc1 := 23) (L1 := [some (.ref 1), some (.int x1), some (.int x2), some (.int x3), w4, w5]) (st1 := [.int 1, .int ((x1 >>> (x3 &&& 31)) &&& 1)]) (fun _ _ => rfl) ?_
      rcases gif h with ⟨c5, h⟩ | ⟨c5, h⟩
      · refine gR_ic_ne_f rfl c5 ?_
        refine gR_go 2 (pc1 := 28) (L1 := [some (.ref 1), some (.int x1), some (.int x2), some (.int x3), w4, w5]) (st1 := [.int x3, .ref 1]) (fun _ _ => rfl) ?_
        obtain ⟨⟨o6, s7⟩, e8, h⟩ := gb h
        dsimp only at h
        refine gR_cvR (wX10_lawInUse_s e8) (Nat.le_of_ble_eq_true rfl) rfl rfl rfl rfl rfl ?_
        refine gR_go 1 (pc1 := 35) (L1 := [some (.ref 1), some (.int x1), some (.int x2), some (.int x3), w4, w5]) (st1 := [wrv o6]) (fun _ _ => rfl) ?_
        exact wX10_countKeptBy_u35 ih he124 (fun k ek => wX10_lawInUse_q (k := k) (by rw [← ek]; exact e8)) h
      · refine gR_ic_ne_j rfl c5 rfl ?_
        refine gR_go 1 (pc1 := 35) (L1 := [some (.ref 1), some (.int x1), some (.int x2), some (.int x3), w4, w5]) (st1 := [.null]) (fun _ _ => rfl) ?_
        exact wX10_countKeptBy_u35 ih he124 (fun _ e => by cases e) h
    · refine gR_ic_ge_j rfl c4 rfl ?_
      exact he124 _ _ _ _ _ _ (Option.some.inj h).symm
noncomputable def wX10_countKeptBy (x1 : Int32) (x2 : Int32) (s : wS) : Option (wS) := (wX10_empty 34 s).bind fun s2 => (wX10_countKeptBy_h9 x1 x2 wFuel 0 s2).bind fun s31 => some s31
theorem wX10_countKeptBy_s {x1 : Int32} {x2 : Int32} {s : wS} {rs : wS} (h : wX10_countKeptBy x1 x2 s = some rs) : gEv 7 165 [.ref 1, .int x1, .int x2] (wmk s) (none, wmk rs, 0, 0) := by
  refine gEv_of (d := 6) (L := [some (.ref 1), some (.int x1), some (.int x2), none, none, none]) rfl ?_
  unfold wX10_countKeptBy at h
  refine gR_go 1 (pc1 := 1) (L1 := [some (.ref 1), some (.int x1), some (.int x2), none, none, none]) (st1 := [.ref 1]) (fun _ _ => rfl) ?_
  refine gR_gfR (k := 0) (k' := 34) rfl rfl rfl rfl ?_
  obtain ⟨s2, e3, h⟩ := gb h
  refine gR_csV (wX10_empty_s rfl e3) (Nat.le_of_ble_eq_true rfl) rfl rfl rfl rfl ?_
  refine gR_go 2 (pc1 := 9) (L1 := [some (.ref 1), some (.int x1), some (.int x2), some (.int 0), none, none]) (st1 := []) (fun _ _ => rfl) ?_
  obtain ⟨z30, ez30, h⟩ := gb h
  refine wX10_countKeptBy_t9 ?_  ez30
  · intro s31 w32 w33 w34 w35 w36 hz
    replace hz := hz.symm
    subst hz
    obtain rfl := gi1 h
    exact gR_rv rfl rfl
end
section
/-! The methods as functions of the state, each with the proof that the interpreter runs so. -/
noncomputable def wX10_byLaws_j117 (qq : Int32 → Int32 → Option (Int32)) (x5 : Int32) (x6 : Int32) (x7 : Int32) (s : wS) : Option (Int32) := qq x6 (x7 + 1)
theorem wX10_byLaws_u117 {x5 : Int32} {x6 : Int32} {x7 : Int32} {s : wS} {w1 : Int32} {w2 : Int32} {w3 : Int32} {w4 : Int32} {qq : Int32 → Int32 → Option (Int32)} {x : Int32} {r : ri_R} (ih : ∀ {x6 : Int32} {x7 : Int32} {w1 : Int32} {w2 : Int32} {w3 : Int32} {w4 : Int32} , qq x6 x7 = some x → gRun 7 125 85 [some (.ref 1), some (.int w1), some (.int w2), some (.int w3), some (.int w4), some (.int x5), some (.int x6), some (.int x7)] [] (wmk s) r) (he123 : ∀ (x6 : Int32) (w1 : Int32) (w2 : Int32) (w3 : Int32) (w4 : Int32) (w5 : Int32) (w7 : Int32) , x = x6 → gRun 7 125 123 [some (.ref 1), some (.int w1), some (.int w2), some (.int w3), some (.int w4), some (.int w5), some (.int x6), some (.int w7)] [] (wmk s) r) (h : wX10_byLaws_j117 qq x5 x6 x7 s = some x) : gRun 7 125 117 [some (.ref 1), some (.int w1), some (.int w2), some (.int w3), some (.int w4), some (.int x5), some (.int x6), some (.int x7)] [] (wmk s) r := by
  unfold wX10_byLaws_j117 at h
  refine gR_go 2 (pc1 := 85) (L1 := [some (.ref 1), some (.int w1), some (.int w2), some (.int w3), some (.int w4), some (.int x5), some (.int x6), some (.int (x7 + 1))]) (st1 := []) (fun _ _ => rfl) ?_
  exact ih h
noncomputable def wX10_byLaws_h85 (x5 : Int32) (s : wS) : Nat → Int32 → Int32 → Option (Int32)
  | 0, _, _ => none
  | n + 1, x6, x7 => (wX0_worlds 15 s).bind fun t18 => if x7 < t18 then ((wX10_at 34 x7 s).bind fun t21 => if t21 < x5 then (wX10_byLaws_j117 (wX10_byLaws_h85 x5 s n) x5 x6 x7 s) else (wX10_byLaws_j117 (wX10_byLaws_h85 x5 s n) x5 (x6 + 1) x7 s)) else (some x6)
theorem wX10_byLaws_t85 {x5 : Int32} {s : wS} {x : Int32} {r : ri_R} (he123 : ∀ (x6 : Int32) (w1 : Int32) (w2 : Int32) (w3 : Int32) (w4 : Int32) (w5 : Int32) (w7 : Int32) , x = x6 → gRun 7 125 123 [some (.ref 1), some (.int w1), some (.int w2), some (.int w3), some (.int w4), some (.int w5), some (.int x6), some (.int w7)] [] (wmk s) r) : ∀ {n : Nat} {x6 : Int32} {x7 : Int32} {w1 : Int32} {w2 : Int32} {w3 : Int32} {w4 : Int32} , wX10_byLaws_h85 x5 s n x6 x7 = some x → gRun 7 125 85 [some (.ref 1), some (.int w1), some (.int w2), some (.int w3), some (.int w4), some (.int x5), some (.int x6), some (.int x7)] [] (wmk s) r := by
  intro n
  induction n with
  | zero => intro x6 x7 w1 w2 w3 w4 h; cases (show (none : Option (Int32)) = some x from h)
  | succ n ih =>
    intro x6 x7 w1 w2 w3 w4 h
    rw [wX10_byLaws_h85] at h
    refine gR_go 2 (pc1 := 88) (L1 := [some (.ref 1), some (.int w1), some (.int w2), some (.int w3), some (.int w4), some (.int x5), some (.int x6), some (.int x7)]) (st1 := [.ref 1, .int x7]) (fun _ _ => rfl) ?_
    refine gR_gfR (k := 0) (k' := 14) rfl rfl rfl rfl ?_
    refine gR_gfR (k := 14) (k' := 15) rfl rfl rfl rfl ?_
    obtain ⟨t18, e19, h⟩ := gb h
    refine gR_cvI (wX0_worlds_s rfl e19) (Nat.le_of_ble_eq_true rfl) rfl rfl rfl rfl rfl ?_
    rcases gif h with ⟨c20, h⟩ | ⟨c20, h⟩
    · refine gR_ic_ge_f rfl c20 ?_
      refine gR_go 1 (pc1 := 101) (L1 := [some (.ref 1), some (.int w1), some (.int w2), some (.int w3), some (.int w4), some (.int x5), some (.int x6), some (.int x7)]) (st1 := [.ref 1]) (fun _ _ => rfl) ?_
      refine gR_gfR (k := 0) (k' := 34) rfl rfl rfl rfl ?_
      refine gR_go 1 (pc1 := 106) (L1 := [some (.ref 1), some (.int w1), some (.int w2), some (.int w3), some (.int w4), some (.int x5), some (.int x6), some (.int x7)]) (st1 := [.int x7, .ref 35]) (fun _ _ => rfl) ?_
      obtain ⟨t21, e22, h⟩ := gb h
      refine gR_csI (wX10_at_s rfl e22) (Nat.le_of_ble_eq_true rfl) rfl rfl rfl rfl ?_
      refine gR_go 1 (pc1 := 111) (L1 := [some (.ref 1), some (.int w1), some (.int w2), some (.int w3), some (.int w4), some (.int x5), some (.int x6), some (.int x7)]) (st1 := [.int x5, .int t21]) (fun _ _ => rfl) ?_
      rcases gif h with ⟨c23, h⟩ | ⟨c23, h⟩
      · refine gR_ic_lt_j rfl c23 rfl ?_
        exact wX10_byLaws_u117 ih he123 h
      · refine gR_ic_lt_f rfl c23 ?_
        refine gR_go 1 (pc1 := 117) (L1 := [some (.ref 1), some (.int w1), some (.int w2), some (.int w3), some (.int w4), some (.int x5), some (.int (x6 + 1)), some (.int x7)]) (st1 := []) (fun _ _ => rfl) ?_
        exact wX10_byLaws_u117 ih he123 h
    · refine gR_ic_ge_j rfl c20 rfl ?_
      exact he123 _ _ _ _ _ _ _ (Option.some.inj h).symm
noncomputable def wX10_byLaws_j77 (y0 : Int32) (s : wS) : Option (Int32 × wS) := (wX10_byLaws_h85 y0 s wFuel 0 0).bind fun t25 => some (t25, s)
theorem wX10_byLaws_u77 {y0 : Int32} {s : wS} {w1 : Int32} {w2 : Int32} {w3 : Int32} {w4 : Int32} {w5 : Option Value} {w6 : Option Value} {w7 : Option Value} {rv : Int32} {rs : wS} (h : wX10_byLaws_j77 y0 s = some (rv, rs)) : gRun 7 125 77 [some (.ref 1), some (.int w1), some (.int w2), some (.int w3), some (.int w4), w5, w6, w7] [.int y0] (wmk s) (some (.int rv), wmk rs, 0, 0) := by
  unfold wX10_byLaws_j77 at h
  refine gR_go 5 (pc1 := 85) (L1 := [some (.ref 1), some (.int w1), some (.int w2), some (.int w3), some (.int w4), some (.int y0), some (.int 0), some (.int 0)]) (st1 := []) (fun _ _ => rfl) ?_
  obtain ⟨z24, ez24, h⟩ := gb h
  refine wX10_byLaws_t85 ?_  ez24
  · intro t25 w26 w27 w28 w29 w30 w31 hz
    replace hz := hz.symm
    subst hz
    refine gR_go 1 (pc1 := 125) (L1 := [some (.ref 1), some (.int w26), some (.int w27), some (.int w28), some (.int w29), some (.int w30), some (.int t25), some (.int w31)]) (st1 := [.int t25]) (fun _ _ => rfl) ?_
    obtain ⟨rfl, rfl⟩ := gi2 h
    exact gR_ri rfl rfl
noncomputable def wX10_byLaws_j20 (x1 : Int32) (x2 : Int32) (x3 : Int32) (y0 : Int32) (s : wS) : Option (Int32 × wS) := if y0 = 0 then (some ((-1), s)) else ((wX0_isTold 15 s).bind fun t3 => if t3 = 0 then (some ((-1), s)) else ((wX10_isOutside x2 41 s).bind fun t6 => if t6 = 0 then ((wX10_isOutside x3 2 s).bind fun t9 => if t9 = 0 then ((wX10_countKeptBy x1 x2 s).bind fun s13 => if x3 = 0 then ((wJ6_bitCount_0f7a4 x1 s13).bind fun t16 => wX10_byLaws_j77 t16 s13) else (wX10_byLaws_j77 1 s13)) else (some ((-1), s))) else (some ((-1), s))))
theorem wX10_byLaws_u20 {x1 : Int32} {x2 : Int32} {x3 : Int32} {y0 : Int32} {s : wS} {w4 : Option Value} {w5 : Option Value} {w6 : Option Value} {w7 : Option Value} {rv : Int32} {rs : wS} (h : wX10_byLaws_j20 x1 x2 x3 y0 s = some (rv, rs)) : gRun 7 125 20 [some (.ref 1), some (.int x1), some (.int x2), some (.int x3), w4, w5, w6, w7] [.int y0] (wmk s) (some (.int rv), wmk rs, 0, 0) := by
  unfold wX10_byLaws_j20 at h
  refine gR_go 2 (pc1 := 24) (L1 := [some (.ref 1), some (.int x1), some (.int x2), some (.int x3), some (.int y0), w5, w6, w7]) (st1 := [.int y0]) (fun _ _ => rfl) ?_
  rcases gif h with ⟨c2, h⟩ | ⟨c2, h⟩
  · refine gR_iz_eq_j rfl c2 rfl ?_
    refine gR_go 1 (pc1 := 58) (L1 := [some (.ref 1), some (.int x1), some (.int x2), some (.int x3), some (.int y0), w5, w6, w7]) (st1 := [.int (-1)]) (fun _ _ => rfl) ?_
    obtain ⟨rfl, rfl⟩ := gi2 h
    exact gR_ri rfl rfl
  · refine gR_iz_eq_f rfl c2 ?_
    refine gR_go 1 (pc1 := 28) (L1 := [some (.ref 1), some (.int x1), some (.int x2), some (.int x3), some (.int y0), w5, w6, w7]) (st1 := [.ref 1]) (fun _ _ => rfl) ?_
    refine gR_gfR (k := 0) (k' := 14) rfl rfl rfl rfl ?_
    refine gR_gfR (k := 14) (k' := 15) rfl rfl rfl rfl ?_
    obtain ⟨t3, e4, h⟩ := gb h
    refine gR_cvI (wX0_isTold_s rfl e4) (Nat.le_of_ble_eq_true rfl) rfl rfl rfl rfl rfl ?_
    rcases gif h with ⟨c5, h⟩ | ⟨c5, h⟩
    · refine gR_iz_eq_j rfl c5 rfl ?_
      refine gR_go 1 (pc1 := 58) (L1 := [some (.ref 1), some (.int x1), some (.int x2), some (.int x3), some (.int y0), w5, w6, w7]) (st1 := [.int (-1)]) (fun _ _ => rfl) ?_
      obtain ⟨rfl, rfl⟩ := gi2 h
      exact gR_ri rfl rfl
    · refine gR_iz_eq_f rfl c5 ?_
      refine gR_go 2 (pc1 := 43) (L1 := [some (.ref 1), some (.int x1), some (.int x2), some (.int x3), some (.int y0), w5, w6, w7]) (st1 := [.int 41, .int x2]) (fun _ _ => rfl) ?_
      obtain ⟨t6, e7, h⟩ := gb h
      refine gR_csI (wX10_isOutside_s e7) (Nat.le_of_ble_eq_true rfl) rfl rfl rfl rfl ?_
      rcases gif h with ⟨c8, h⟩ | ⟨c8, h⟩
      · refine gR_iz_ne_f rfl c8 ?_
        refine gR_go 2 (pc1 := 51) (L1 := [some (.ref 1), some (.int x1), some (.int x2), some (.int x3), some (.int y0), w5, w6, w7]) (st1 := [.int 2, .int x3]) (fun _ _ => rfl) ?_
        obtain ⟨t9, e10, h⟩ := gb h
        refine gR_csI (wX10_isOutside_s e10) (Nat.le_of_ble_eq_true rfl) rfl rfl rfl rfl ?_
        rcases gif h with ⟨c11, h⟩ | ⟨c11, h⟩
        · refine gR_iz_eq_j rfl c11 rfl ?_
          refine gR_go 3 (pc1 := 62) (L1 := [some (.ref 1), some (.int x1), some (.int x2), some (.int x3), some (.int y0), w5, w6, w7]) (st1 := [.int x2, .int x1, .ref 1]) (fun _ _ => rfl) ?_
          obtain ⟨s13, e14, h⟩ := gb h
          refine gR_cvV (wX10_countKeptBy_s e14) (Nat.le_of_ble_eq_true rfl) rfl rfl rfl rfl rfl ?_
          refine gR_go 1 (pc1 := 66) (L1 := [some (.ref 1), some (.int x1), some (.int x2), some (.int x3), some (.int y0), w5, w6, w7]) (st1 := [.int x3]) (fun _ _ => rfl) ?_
          rcases gif h with ⟨c15, h⟩ | ⟨c15, h⟩
          · refine gR_iz_ne_f rfl c15 ?_
            refine gR_go 1 (pc1 := 70) (L1 := [some (.ref 1), some (.int x1), some (.int x2), some (.int x3), some (.int y0), w5, w6, w7]) (st1 := [.int x1]) (fun _ _ => rfl) ?_
            obtain ⟨t16, e17, h⟩ := gb h
            refine gR_csI (wJ6_bitCount_0f7a4_s e17) (Nat.le_of_ble_eq_true rfl) rfl rfl rfl rfl ?_
            refine gR_go 1 (pc1 := 77) (L1 := [some (.ref 1), some (.int x1), some (.int x2), some (.int x3), some (.int y0), w5, w6, w7]) (st1 := [.int t16]) (fun _ _ => rfl) ?_
            exact wX10_byLaws_u77 h
          · refine gR_iz_ne_j rfl c15 rfl ?_
            refine gR_go 1 (pc1 := 77) (L1 := [some (.ref 1), some (.int x1), some (.int x2), some (.int x3), some (.int y0), w5, w6, w7]) (st1 := [.int 1]) (fun _ _ => rfl) ?_
            exact wX10_byLaws_u77 h
        · refine gR_iz_eq_f rfl c11 ?_
          refine gR_go 1 (pc1 := 58) (L1 := [some (.ref 1), some (.int x1), some (.int x2), some (.int x3), some (.int y0), w5, w6, w7]) (st1 := [.int (-1)]) (fun _ _ => rfl) ?_
          obtain ⟨rfl, rfl⟩ := gi2 h
          exact gR_ri rfl rfl
      · refine gR_iz_ne_j rfl c8 rfl ?_
        refine gR_go 1 (pc1 := 58) (L1 := [some (.ref 1), some (.int x1), some (.int x2), some (.int x3), some (.int y0), w5, w6, w7]) (st1 := [.int (-1)]) (fun _ _ => rfl) ?_
        obtain ⟨rfl, rfl⟩ := gi2 h
        exact gR_ri rfl rfl
noncomputable def wX10_byLaws_j19 (x1 : Int32) (x2 : Int32) (x3 : Int32) (s : wS) : Option (Int32 × wS) := wX10_byLaws_j20 x1 x2 x3 0 s
theorem wX10_byLaws_u19 {x1 : Int32} {x2 : Int32} {x3 : Int32} {s : wS} {w4 : Option Value} {w5 : Option Value} {w6 : Option Value} {w7 : Option Value} {rv : Int32} {rs : wS} (h : wX10_byLaws_j19 x1 x2 x3 s = some (rv, rs)) : gRun 7 125 19 [some (.ref 1), some (.int x1), some (.int x2), some (.int x3), w4, w5, w6, w7] [] (wmk s) (some (.int rv), wmk rs, 0, 0) := by
  unfold wX10_byLaws_j19 at h
  refine gR_go 1 (pc1 := 20) (L1 := [some (.ref 1), some (.int x1), some (.int x2), some (.int x3), w4, w5, w6, w7]) (st1 := [.int 0]) (fun _ _ => rfl) ?_
  exact wX10_byLaws_u20 h
noncomputable def wX10_byLaws (x1 : Int32) (x2 : Int32) (x3 : Int32) (s : wS) : Option (Int32 × wS) := if x1 < 1 then (wX10_byLaws_j19 x1 x2 x3 s) else (if x1 < (1 <<< ((s.1 0 6) &&& 31)) then (wX10_byLaws_j20 x1 x2 x3 1 s) else (wX10_byLaws_j19 x1 x2 x3 s))
theorem wX10_byLaws_s {x1 : Int32} {x2 : Int32} {x3 : Int32} {s : wS} {rv : Int32} {rs : wS} (h : wX10_byLaws x1 x2 x3 s = some (rv, rs)) : gEv 8 125 [.ref 1, .int x1, .int x2, .int x3] (wmk s) (some (.int rv), wmk rs, 0, 0) := by
  refine gEv_of (d := 7) (L := [some (.ref 1), some (.int x1), some (.int x2), some (.int x3), none, none, none, none]) rfl ?_
  unfold wX10_byLaws at h
  refine gR_go 2 (pc1 := 2) (L1 := [some (.ref 1), some (.int x1), some (.int x2), some (.int x3), none, none, none, none]) (st1 := [.int 1, .int x1]) (fun _ _ => rfl) ?_
  rcases gif h with ⟨c1, h⟩ | ⟨c1, h⟩
  · refine gR_ic_lt_j rfl c1 rfl ?_
    exact wX10_byLaws_u19 h
  · refine gR_ic_lt_f rfl c1 ?_
    refine gR_go 3 (pc1 := 8) (L1 := [some (.ref 1), some (.int x1), some (.int x2), some (.int x3), none, none, none, none]) (st1 := [.ref 1, .int 1, .int x1]) (fun _ _ => rfl) ?_
    refine gR_gfI (k := 0) rfl rfl rfl ?_
    refine gR_go 1 (pc1 := 12) (L1 := [some (.ref 1), some (.int x1), some (.int x2), some (.int x3), none, none, none, none]) (st1 := [.int (1 <<< ((s.1 0 6) &&& 31)), .int x1]) (fun _ _ => rfl) ?_
    rcases gif h with ⟨c32, h⟩ | ⟨c32, h⟩
    · refine gR_ic_ge_f rfl c32 ?_
      refine gR_go 2 (pc1 := 20) (L1 := [some (.ref 1), some (.int x1), some (.int x2), some (.int x3), none, none, none, none]) (st1 := [.int 1]) (fun _ _ => rfl) ?_
      exact wX10_byLaws_u20 h
    · refine gR_ic_ge_j rfl c32 rfl ?_
      exact wX10_byLaws_u19 h
noncomputable def wX10_looks (x1 : Int32) (x2 : Int32) (x3 : Int32) (s : wS) : Option (Int32 × wS) := (wX10_lawWithKept x1 x2 s).bind fun (o1, s2) => Option.elim o1 (some ((-1), s2)) (fun k4 => (wX2_hasAnswer 14 x3 s2).bind fun t5 => if t5 = 0 then (some ((-1), s2)) else ((wX10_at 20 x3 s2).bind fun t8 => (wX10_nearThings k4 x3 s2).bind fun t10 => (wX7_withAny 35 t8 t10 s2).bind fun t12 => some (((s2.1 35 1) - t12), s2)))
theorem wX10_looks_s {x1 : Int32} {x2 : Int32} {x3 : Int32} {s : wS} {rv : Int32} {rs : wS} (h : wX10_looks x1 x2 x3 s = some (rv, rs)) : gEv 8 126 [.ref 1, .int x1, .int x2, .int x3] (wmk s) (some (.int rv), wmk rs, 0, 0) := by
  refine gEv_of (d := 7) (L := [some (.ref 1), some (.int x1), some (.int x2), some (.int x3), none]) rfl ?_
  unfold wX10_looks at h
  refine gR_go 3 (pc1 := 3) (L1 := [some (.ref 1), some (.int x1), some (.int x2), some (.int x3), none]) (st1 := [.int x2, .int x1, .ref 1]) (fun _ _ => rfl) ?_
  obtain ⟨⟨o1, s2⟩, e3, h⟩ := gb h
  dsimp only at h
  refine gR_cvR (wX10_lawWithKept_s e3) (Nat.le_of_ble_eq_true rfl) rfl rfl rfl rfl rfl ?_
  refine gR_astq (L1 := [some (.ref 1), some (.int x1), some (.int x2), some (.int x3), some (wrv o1)]) rfl rfl rfl ?_
  refine gR_aldq rfl rfl ?_
  rcases gel h with ⟨ek4, hh⟩ | ⟨k4, ek4, hh⟩
  · clear h
    subst ek4
    have h := hh
    clear hh
    refine gR_ifnull_n_j rfl rfl ?_
    refine gR_go 1 (pc1 := 25) (L1 := [some (.ref 1), some (.int x1), some (.int x2), some (.int x3), some (.null)]) (st1 := [.int (-1)]) (fun _ _ => rfl) ?_
    obtain ⟨rfl, rfl⟩ := gi2 h
    exact gR_ri rfl rfl
  · clear h
    subst ek4
    have h := hh
    clear hh
    refine gR_ifnull_r_f rfl ?_
    refine gR_go 1 (pc1 := 14) (L1 := [some (.ref 1), some (.int x1), some (.int x2), some (.int x3), some (.ref (k4 + 1))]) (st1 := [.ref 1]) (fun _ _ => rfl) ?_
    refine gR_gfR (k := 0) (k' := 14) rfl rfl rfl rfl ?_
    refine gR_go 1 (pc1 := 18) (L1 := [some (.ref 1), some (.int x1), some (.int x2), some (.int x3), some (.ref (k4 + 1))]) (st1 := [.int x3, .ref 15]) (fun _ _ => rfl) ?_
    obtain ⟨t5, e6, h⟩ := gb h
    refine gR_cvI (wX2_hasAnswer_s rfl e6) (Nat.le_of_ble_eq_true rfl) rfl rfl rfl rfl rfl ?_
    rcases gif h with ⟨c7, h⟩ | ⟨c7, h⟩
    · refine gR_iz_ne_f rfl c7 ?_
      refine gR_go 1 (pc1 := 25) (L1 := [some (.ref 1), some (.int x1), some (.int x2), some (.int x3), some (.ref (k4 + 1))]) (st1 := [.int (-1)]) (fun _ _ => rfl) ?_
      obtain ⟨rfl, rfl⟩ := gi2 h
      exact gR_ri rfl rfl
    · refine gR_iz_ne_j rfl c7 rfl ?_
      refine gR_go 1 (pc1 := 27) (L1 := [some (.ref 1), some (.int x1), some (.int x2), some (.int x3), some (.ref (k4 + 1))]) (st1 := [.ref 1]) (fun _ _ => rfl) ?_
      refine gR_gfR (k := 0) (k' := 35) rfl rfl rfl rfl ?_
      refine gR_gfI (k := 35) rfl rfl rfl ?_
      refine gR_go 1 (pc1 := 34) (L1 := [some (.ref 1), some (.int x1), some (.int x2), some (.int x3), some (.ref (k4 + 1))]) (st1 := [.ref 1, .int (s2.1 35 1)]) (fun _ _ => rfl) ?_
      refine gR_gfR (k := 0) (k' := 35) rfl rfl rfl rfl ?_
      refine gR_go 1 (pc1 := 38) (L1 := [some (.ref 1), some (.int x1), some (.int x2), some (.int x3), some (.ref (k4 + 1))]) (st1 := [.ref 1, .ref 36, .int (s2.1 35 1)]) (fun _ _ => rfl) ?_
      refine gR_gfR (k := 0) (k' := 14) rfl rfl rfl rfl ?_
      refine gR_gfR (k := 14) (k' := 20) rfl rfl rfl rfl ?_
      refine gR_go 1 (pc1 := 45) (L1 := [some (.ref 1), some (.int x1), some (.int x2), some (.int x3), some (.ref (k4 + 1))]) (st1 := [.int x3, .ref 21, .ref 36, .int (s2.1 35 1)]) (fun _ _ => rfl) ?_
      obtain ⟨t8, e9, h⟩ := gb h
      refine gR_csI (wX10_at_s rfl e9) (Nat.le_of_ble_eq_true rfl) rfl rfl rfl rfl ?_
      refine gR_go 3 (pc1 := 52) (L1 := [some (.ref 1), some (.int x1), some (.int x2), some (.int x3), some (.ref (k4 + 1))]) (st1 := [.int x3, .ref (k4 + 1), .ref 1, .int t8, .ref 36, .int (s2.1 35 1)]) (fun _ _ => rfl) ?_
      obtain ⟨t10, e11, h⟩ := gb h
      refine gR_cvI (wX10_nearThings_s (wX10_lawWithKept_q e3) e11) (Nat.le_of_ble_eq_true rfl) rfl rfl rfl rfl rfl ?_
      obtain ⟨t12, e13, h⟩ := gb h
      refine gR_cvI (wX7_withAny_s rfl e13) (Nat.le_of_ble_eq_true rfl) rfl rfl rfl rfl rfl ?_
      refine gR_go 1 (pc1 := 59) (L1 := [some (.ref 1), some (.int x1), some (.int x2), some (.int x3), some (.ref (k4 + 1))]) (st1 := [.int ((s2.1 35 1) - t12)]) (fun _ _ => rfl) ?_
      obtain ⟨rfl, rfl⟩ := gi2 h
      exact gR_ri rfl rfl
noncomputable def wJ6_numberOfTrailingZeros_0f7a4_j74 (x0 : Int32) (x1 : Int32) (s : wS) : Option (Int32) := some (x1 + (ri_ushr x0 1))
theorem wJ6_numberOfTrailingZeros_0f7a4_u74 {x0 : Int32} {x1 : Int32} {s : wS} {rv : Int32} (h : wJ6_numberOfTrailingZeros_0f7a4_j74 x0 x1 s = some rv) : gRun 0 279 74 [some (.int x0), some (.int x1)] [] (wmk s) (some (.int rv), wmk s, 0, 0) := by
  unfold wJ6_numberOfTrailingZeros_0f7a4_j74 at h
  refine gR_go 5 (pc1 := 79) (L1 := [some (.int x0), some (.int x1)]) (st1 := [.int (x1 + (ri_ushr x0 1))]) (fun _ _ => rfl) ?_
  obtain rfl := gi1 h
  exact gR_ri rfl rfl
noncomputable def wJ6_numberOfTrailingZeros_0f7a4_j62 (x0 : Int32) (x1 : Int32) (s : wS) : Option (Int32) := if 4 < x0 then (wJ6_numberOfTrailingZeros_0f7a4_j74 (ri_ushr x0 2) (x1 + 2) s) else (wJ6_numberOfTrailingZeros_0f7a4_j74 x0 x1 s)
theorem wJ6_numberOfTrailingZeros_0f7a4_u62 {x0 : Int32} {x1 : Int32} {s : wS} {rv : Int32} (h : wJ6_numberOfTrailingZeros_0f7a4_j62 x0 x1 s = some rv) : gRun 0 279 62 [some (.int x0), some (.int x1)] [] (wmk s) (some (.int rv), wmk s, 0, 0) := by
  unfold wJ6_numberOfTrailingZeros_0f7a4_j62 at h
  refine gR_go 2 (pc1 := 64) (L1 := [some (.int x0), some (.int x1)]) (st1 := [.int 4, .int x0]) (fun _ _ => rfl) ?_
  rcases gif h with ⟨c5, h⟩ | ⟨c5, h⟩
  · refine gR_ic_le_f rfl c5 ?_
    refine gR_go 5 (pc1 := 74) (L1 := [some (.int (ri_ushr x0 2)), some (.int (x1 + 2))]) (st1 := []) (fun _ _ => rfl) ?_
    exact wJ6_numberOfTrailingZeros_0f7a4_u74 h
  · refine gR_ic_le_j rfl c5 rfl ?_
    exact wJ6_numberOfTrailingZeros_0f7a4_u74 h
noncomputable def wJ6_numberOfTrailingZeros_0f7a4_j49 (x0 : Int32) (x1 : Int32) (s : wS) : Option (Int32) := if 16 < x0 then (wJ6_numberOfTrailingZeros_0f7a4_j62 (ri_ushr x0 4) (x1 + 4) s) else (wJ6_numberOfTrailingZeros_0f7a4_j62 x0 x1 s)
theorem wJ6_numberOfTrailingZeros_0f7a4_u49 {x0 : Int32} {x1 : Int32} {s : wS} {rv : Int32} (h : wJ6_numberOfTrailingZeros_0f7a4_j49 x0 x1 s = some rv) : gRun 0 279 49 [some (.int x0), some (.int x1)] [] (wmk s) (some (.int rv), wmk s, 0, 0) := by
  unfold wJ6_numberOfTrailingZeros_0f7a4_j49 at h
  refine gR_go 2 (pc1 := 52) (L1 := [some (.int x0), some (.int x1)]) (st1 := [.int 16, .int x0]) (fun _ _ => rfl) ?_
  rcases gif h with ⟨c4, h⟩ | ⟨c4, h⟩
  · refine gR_ic_le_f rfl c4 ?_
    refine gR_go 5 (pc1 := 62) (L1 := [some (.int (ri_ushr x0 4)), some (.int (x1 + 4))]) (st1 := []) (fun _ _ => rfl) ?_
    exact wJ6_numberOfTrailingZeros_0f7a4_u62 h
  · refine gR_ic_le_j rfl c4 rfl ?_
    exact wJ6_numberOfTrailingZeros_0f7a4_u62 h
noncomputable def wJ6_numberOfTrailingZeros_0f7a4_j34 (x0 : Int32) (x1 : Int32) (s : wS) : Option (Int32) := if 256 < x0 then (wJ6_numberOfTrailingZeros_0f7a4_j49 (ri_ushr x0 8) (x1 + 8) s) else (wJ6_numberOfTrailingZeros_0f7a4_j49 x0 x1 s)
theorem wJ6_numberOfTrailingZeros_0f7a4_u34 {x0 : Int32} {x1 : Int32} {s : wS} {rv : Int32} (h : wJ6_numberOfTrailingZeros_0f7a4_j34 x0 x1 s = some rv) : gRun 0 279 34 [some (.int x0), some (.int x1)] [] (wmk s) (some (.int rv), wmk s, 0, 0) := by
  unfold wJ6_numberOfTrailingZeros_0f7a4_j34 at h
  refine gR_go 2 (pc1 := 38) (L1 := [some (.int x0), some (.int x1)]) (st1 := [.int 256, .int x0]) (fun _ _ => rfl) ?_
  rcases gif h with ⟨c3, h⟩ | ⟨c3, h⟩
  · refine gR_ic_le_f rfl c3 ?_
    refine gR_go 5 (pc1 := 49) (L1 := [some (.int (ri_ushr x0 8)), some (.int (x1 + 8))]) (st1 := []) (fun _ _ => rfl) ?_
    exact wJ6_numberOfTrailingZeros_0f7a4_u49 h
  · refine gR_ic_le_j rfl c3 rfl ?_
    exact wJ6_numberOfTrailingZeros_0f7a4_u49 h
noncomputable def wJ6_numberOfTrailingZeros_0f7a4 (x0 : Int32) (s : wS) : Option (Int32) := if 0 < ((x0 ^^^ (-1)) &&& (x0 - 1)) then (if 65536 < ((x0 ^^^ (-1)) &&& (x0 - 1)) then (wJ6_numberOfTrailingZeros_0f7a4_j34 (ri_ushr ((x0 ^^^ (-1)) &&& (x0 - 1)) 16) (1 + 16) s) else (wJ6_numberOfTrailingZeros_0f7a4_j34 ((x0 ^^^ (-1)) &&& (x0 - 1)) 1 s)) else (some (((x0 ^^^ (-1)) &&& (x0 - 1)) &&& 32))
theorem wJ6_numberOfTrailingZeros_0f7a4_s {x0 : Int32} {s : wS} {rv : Int32} (h : wJ6_numberOfTrailingZeros_0f7a4 x0 s = some rv) : gEv 1 279 [.int x0] (wmk s) (some (.int rv), wmk s, 0, 0) := by
  refine gEv_of (d := 0) (L := [some (.int x0), none]) rfl ?_
  unfold wJ6_numberOfTrailingZeros_0f7a4 at h
  refine gR_go 9 (pc1 := 9) (L1 := [some (.int ((x0 ^^^ (-1)) &&& (x0 - 1))), none]) (st1 := [.int ((x0 ^^^ (-1)) &&& (x0 - 1))]) (fun _ _ => rfl) ?_
  rcases gif h with ⟨c1, h⟩ | ⟨c1, h⟩
  · refine gR_iz_gt_j rfl c1 rfl ?_
    refine gR_go 4 (pc1 := 23) (L1 := [some (.int ((x0 ^^^ (-1)) &&& (x0 - 1))), some (.int 1)]) (st1 := [.int 65536, .int ((x0 ^^^ (-1)) &&& (x0 - 1))]) (fun _ _ => rfl) ?_
    rcases gif h with ⟨c2, h⟩ | ⟨c2, h⟩
    · refine gR_ic_le_f rfl c2 ?_
      refine gR_go 5 (pc1 := 34) (L1 := [some (.int (ri_ushr ((x0 ^^^ (-1)) &&& (x0 - 1)) 16)), some (.int (1 + 16))]) (st1 := []) (fun _ _ => rfl) ?_
      exact wJ6_numberOfTrailingZeros_0f7a4_u34 h
    · refine gR_ic_le_j rfl c2 rfl ?_
      exact wJ6_numberOfTrailingZeros_0f7a4_u34 h
  · refine gR_iz_gt_f rfl c1 ?_
    refine gR_go 3 (pc1 := 16) (L1 := [some (.int ((x0 ^^^ (-1)) &&& (x0 - 1))), none]) (st1 := [.int (((x0 ^^^ (-1)) &&& (x0 - 1)) &&& 32)]) (fun _ _ => rfl) ?_
    obtain rfl := gi1 h
    exact gR_ri rfl rfl
noncomputable def wX10_sure (x1 : Int32) (x2 : Int32) (x3 : Int32) (s : wS) : Option (Int32 × wS) := (wX10_lawWithKept x1 x2 s).bind fun (o1, s2) => Option.elim o1 (some ((-1), s2)) (fun k4 => (wX10_isOutside x3 3 s2).bind fun t5 => if t5 = 0 then ((wX7_thingsOf 35 x3 s2).bind fun t8 => (wJ6_bitCount_0f7a4 t8 s2).bind fun t10 => if t10 = 1 then ((wJ6_numberOfTrailingZeros_0f7a4 t8 s2).bind fun t13 => some (t13, s2)) else (some (((Int8.ofInt (-2)).toInt32), s2))) else (some ((-1), s2)))
theorem wX10_sure_s {x1 : Int32} {x2 : Int32} {x3 : Int32} {s : wS} {rv : Int32} {rs : wS} (h : wX10_sure x1 x2 x3 s = some (rv, rs)) : gEv 8 127 [.ref 1, .int x1, .int x2, .int x3] (wmk s) (some (.int rv), wmk rs, 0, 0) := by
  refine gEv_of (d := 7) (L := [some (.ref 1), some (.int x1), some (.int x2), some (.int x3), none, none]) rfl ?_
  unfold wX10_sure at h
  refine gR_go 3 (pc1 := 3) (L1 := [some (.ref 1), some (.int x1), some (.int x2), some (.int x3), none, none]) (st1 := [.int x2, .int x1, .ref 1]) (fun _ _ => rfl) ?_
  obtain ⟨⟨o1, s2⟩, e3, h⟩ := gb h
  dsimp only at h
  refine gR_cvR (wX10_lawWithKept_s e3) (Nat.le_of_ble_eq_true rfl) rfl rfl rfl rfl rfl ?_
  refine gR_astq (L1 := [some (.ref 1), some (.int x1), some (.int x2), some (.int x3), some (wrv o1), none]) rfl rfl rfl ?_
  refine gR_aldq rfl rfl ?_
  rcases gel h with ⟨ek4, hh⟩ | ⟨k4, ek4, hh⟩
  · clear h
    subst ek4
    have h := hh
    clear hh
    refine gR_ifnull_n_j rfl rfl ?_
    refine gR_go 1 (pc1 := 22) (L1 := [some (.ref 1), some (.int x1), some (.int x2), some (.int x3), some (.null), none]) (st1 := [.int (-1)]) (fun _ _ => rfl) ?_
    obtain ⟨rfl, rfl⟩ := gi2 h
    exact gR_ri rfl rfl
  · clear h
    subst ek4
    have h := hh
    clear hh
    refine gR_ifnull_r_f rfl ?_
    refine gR_go 2 (pc1 := 15) (L1 := [some (.ref 1), some (.int x1), some (.int x2), some (.int x3), some (.ref (k4 + 1)), none]) (st1 := [.int 3, .int x3]) (fun _ _ => rfl) ?_
    obtain ⟨t5, e6, h⟩ := gb h
    refine gR_csI (wX10_isOutside_s e6) (Nat.le_of_ble_eq_true rfl) rfl rfl rfl rfl ?_
    rcases gif h with ⟨c7, h⟩ | ⟨c7, h⟩
    · refine gR_iz_eq_j rfl c7 rfl ?_
      refine gR_go 1 (pc1 := 24) (L1 := [some (.ref 1), some (.int x1), some (.int x2), some (.int x3), some (.ref (k4 + 1)), none]) (st1 := [.ref 1]) (fun _ _ => rfl) ?_
      refine gR_gfR (k := 0) (k' := 35) rfl rfl rfl rfl ?_
      refine gR_go 1 (pc1 := 28) (L1 := [some (.ref 1), some (.int x1), some (.int x2), some (.int x3), some (.ref (k4 + 1)), none]) (st1 := [.int x3, .ref 36]) (fun _ _ => rfl) ?_
      obtain ⟨t8, e9, h⟩ := gb h
      refine gR_cvI (wX7_thingsOf_s rfl e9) (Nat.le_of_ble_eq_true rfl) rfl rfl rfl rfl rfl ?_
      refine gR_go 2 (pc1 := 35) (L1 := [some (.ref 1), some (.int x1), some (.int x2), some (.int x3), some (.ref (k4 + 1)), some (.int t8)]) (st1 := [.int t8]) (fun _ _ => rfl) ?_
      obtain ⟨t10, e11, h⟩ := gb h
      refine gR_csI (wJ6_bitCount_0f7a4_s e11) (Nat.le_of_ble_eq_true rfl) rfl rfl rfl rfl ?_
      refine gR_go 1 (pc1 := 39) (L1 := [some (.ref 1), some (.int x1), some (.int x2), some (.int x3), some (.ref (k4 + 1)), some (.int t8)]) (st1 := [.int 1, .int t10]) (fun _ _ => rfl) ?_
      rcases gif h with ⟨c12, h⟩ | ⟨c12, h⟩
      · refine gR_ic_ne_f rfl c12 ?_
        refine gR_go 1 (pc1 := 44) (L1 := [some (.ref 1), some (.int x1), some (.int x2), some (.int x3), some (.ref (k4 + 1)), some (.int t8)]) (st1 := [.int t8]) (fun _ _ => rfl) ?_
        obtain ⟨t13, e14, h⟩ := gb h
        refine gR_csI (wJ6_numberOfTrailingZeros_0f7a4_s e14) (Nat.le_of_ble_eq_true rfl) rfl rfl rfl rfl ?_
        refine gR_go 1 (pc1 := 52) (L1 := [some (.ref 1), some (.int x1), some (.int x2), some (.int x3), some (.ref (k4 + 1)), some (.int t8)]) (st1 := [.int t13]) (fun _ _ => rfl) ?_
        obtain ⟨rfl, rfl⟩ := gi2 h
        exact gR_ri rfl rfl
      · refine gR_ic_ne_j rfl c12 rfl ?_
        refine gR_go 1 (pc1 := 52) (L1 := [some (.ref 1), some (.int x1), some (.int x2), some (.int x3), some (.ref (k4 + 1)), some (.int t8)]) (st1 := [.int ((Int8.ofInt (-2)).toInt32)]) (fun _ _ => rfl) ?_
        obtain ⟨rfl, rfl⟩ := gi2 h
        exact gR_ri rfl rfl
    · refine gR_iz_eq_f rfl c7 ?_
      refine gR_go 1 (pc1 := 22) (L1 := [some (.ref 1), some (.int x1), some (.int x2), some (.int x3), some (.ref (k4 + 1)), none]) (st1 := [.int (-1)]) (fun _ _ => rfl) ?_
      obtain ⟨rfl, rfl⟩ := gi2 h
      exact gR_ri rfl rfl
noncomputable def wX10_alone (x1 : Int32) (x2 : Int32) (s : wS) : Option (Int32 × wS) := (wX10_lawInUse x1 s).bind fun (o1, s2) => Option.elim o1 (some ((-1), s2)) (fun k4 => (wX10_isOutside x2 6 s2).bind fun t5 => if t5 = 0 then ((wX2_first 14 s2).bind fun t8 => (wX10_countFalse k4 t8 x2 (-1) s2).bind fun s11 => (wX10_worldsWithAtMost 0 s11).bind fun t13 => some (t13, s11)) else (some ((-1), s2)))
theorem wX10_alone_s {x1 : Int32} {x2 : Int32} {s : wS} {rv : Int32} {rs : wS} (h : wX10_alone x1 x2 s = some (rv, rs)) : gEv 7 128 [.ref 1, .int x1, .int x2] (wmk s) (some (.int rv), wmk rs, 0, 0) := by
  refine gEv_of (d := 6) (L := [some (.ref 1), some (.int x1), some (.int x2), none]) rfl ?_
  unfold wX10_alone at h
  refine gR_go 2 (pc1 := 2) (L1 := [some (.ref 1), some (.int x1), some (.int x2), none]) (st1 := [.int x1, .ref 1]) (fun _ _ => rfl) ?_
  obtain ⟨⟨o1, s2⟩, e3, h⟩ := gb h
  dsimp only at h
  refine gR_cvR (wX10_lawInUse_s e3) (Nat.le_of_ble_eq_true rfl) rfl rfl rfl rfl rfl ?_
  refine gR_astn (L1 := [some (.ref 1), some (.int x1), some (.int x2), some (wrv o1)]) rfl rfl rfl ?_
  refine gR_aldn rfl rfl ?_
  rcases gel h with ⟨ek4, hh⟩ | ⟨k4, ek4, hh⟩
  · clear h
    subst ek4
    have h := hh
    clear hh
    refine gR_ifnull_n_j rfl rfl ?_
    refine gR_go 1 (pc1 := 20) (L1 := [some (.ref 1), some (.int x1), some (.int x2), some (.null)]) (st1 := [.int (-1)]) (fun _ _ => rfl) ?_
    obtain ⟨rfl, rfl⟩ := gi2 h
    exact gR_ri rfl rfl
  · clear h
    subst ek4
    have h := hh
    clear hh
    refine gR_ifnull_r_f rfl ?_
    refine gR_go 2 (pc1 := 13) (L1 := [some (.ref 1), some (.int x1), some (.int x2), some (.ref (k4 + 1))]) (st1 := [.int 6, .int x2]) (fun _ _ => rfl) ?_
    obtain ⟨t5, e6, h⟩ := gb h
    refine gR_csI (wX10_isOutside_s e6) (Nat.le_of_ble_eq_true rfl) rfl rfl rfl rfl ?_
    rcases gif h with ⟨c7, h⟩ | ⟨c7, h⟩
    · refine gR_iz_eq_j rfl c7 rfl ?_
      refine gR_go 3 (pc1 := 24) (L1 := [some (.ref 1), some (.int x1), some (.int x2), some (.ref (k4 + 1))]) (st1 := [.ref 1, .ref (k4 + 1), .ref 1]) (fun _ _ => rfl) ?_
      refine gR_gfR (k := 0) (k' := 14) rfl rfl rfl rfl ?_
      obtain ⟨t8, e9, h⟩ := gb h
      refine gR_cvI (wX2_first_s rfl e9) (Nat.le_of_ble_eq_true rfl) rfl rfl rfl rfl rfl ?_
      refine gR_go 2 (pc1 := 32) (L1 := [some (.ref 1), some (.int x1), some (.int x2), some (.ref (k4 + 1))]) (st1 := [.int (-1), .int x2, .int t8, .ref (k4 + 1), .ref 1]) (fun _ _ => rfl) ?_
      obtain ⟨s11, e12, h⟩ := gb h
      refine gR_cvV (wX10_countFalse_s (wX10_lawInUse_q e3) e12) (Nat.le_of_ble_eq_true rfl) rfl rfl rfl rfl rfl ?_
      refine gR_go 2 (pc1 := 37) (L1 := [some (.ref 1), some (.int x1), some (.int x2), some (.ref (k4 + 1))]) (st1 := [.int 0, .ref 1]) (fun _ _ => rfl) ?_
      obtain ⟨t13, e14, h⟩ := gb h
      refine gR_cvI (wX10_worldsWithAtMost_s e14) (Nat.le_of_ble_eq_true rfl) rfl rfl rfl rfl rfl ?_
      obtain ⟨rfl, rfl⟩ := gi2 h
      exact gR_ri rfl rfl
    · refine gR_iz_eq_f rfl c7 ?_
      refine gR_go 1 (pc1 := 20) (L1 := [some (.ref 1), some (.int x1), some (.int x2), some (.ref (k4 + 1))]) (st1 := [.int (-1)]) (fun _ _ => rfl) ?_
      obtain ⟨rfl, rfl⟩ := gi2 h
      exact gR_ri rfl rfl
noncomputable def wX10_mean_j91 (qq : Int32 → Int32 → Option (Int32)) (x3 : Int32) (x5 : Int32) (x6 : Int32) (y0 : Int32) (s : wS) : Option (Int32) := (wX7_with 35 1 x6 s).bind fun t15 => qq (x5 + (y0 * t15)) (x6 + 1)
theorem wX10_mean_u91 {x3 : Int32} {x5 : Int32} {x6 : Int32} {y0 : Int32} {s : wS} {w1 : Int32} {w2 : Int32} {w4 : Nat} {w7 : Option Value} {qq : Int32 → Int32 → Option (Int32)} {x : Int32} {r : ri_R} (ih : ∀ {x5 : Int32} {x6 : Int32} {w1 : Int32} {w2 : Int32} {w4 : Nat} {w7 : Option Value} , qq x5 x6 = some x → gRun 7 129 42 [some (.ref 1), some (.int w1), some (.int w2), some (.int x3), some (.ref (w4 + 1)), some (.int x5), some (.int x6), w7] [] (wmk s) r) (he117 : ∀ (x5 : Int32) (w1 : Int32) (w2 : Int32) (w3 : Int32) (w4 : Nat) (w6 : Int32) (w7 : Option Value) , x = x5 → gRun 7 129 117 [some (.ref 1), some (.int w1), some (.int w2), some (.int w3), some (.ref (w4 + 1)), some (.int x5), some (.int w6), w7] [] (wmk s) r) (h : wX10_mean_j91 qq x3 x5 x6 y0 s = some x) : gRun 7 129 91 [some (.ref 1), some (.int w1), some (.int w2), some (.int x3), some (.ref (w4 + 1)), some (.int x5), some (.int x6), w7] [.int y0] (wmk s) r := by
  unfold wX10_mean_j91 at h
  refine gR_go 4 (pc1 := 98) (L1 := [some (.ref 1), some (.int w1), some (.int w2), some (.int x3), some (.ref (w4 + 1)), some (.int x5), some (.int x6), some (.int y0)]) (st1 := [.ref 1, .int y0, .int x5]) (fun _ _ => rfl) ?_
  refine gR_gfR (k := 0) (k' := 35) rfl rfl rfl rfl ?_
  refine gR_go 2 (pc1 := 104) (L1 := [some (.ref 1), some (.int w1), some (.int w2), some (.int x3), some (.ref (w4 + 1)), some (.int x5), some (.int x6), some (.int y0)]) (st1 := [.int x6, .int 1, .ref 36, .int y0, .int x5]) (fun _ _ => rfl) ?_
  obtain ⟨t15, e16, h⟩ := gb h
  refine gR_cvI (wX7_with_s rfl e16) (Nat.le_of_ble_eq_true rfl) rfl rfl rfl rfl rfl ?_
  refine gR_go 5 (pc1 := 42) (L1 := [some (.ref 1), some (.int w1), some (.int w2), some (.int x3), some (.ref (w4 + 1)), some (.int (x5 + (y0 * t15))), some (.int (x6 + 1)), some (.int y0)]) (st1 := []) (fun _ _ => rfl) ?_
  exact ih h
noncomputable def wX10_mean_h42 (x3 : Int32) (s : wS) : Nat → Int32 → Int32 → Option (Int32)
  | 0, _, _ => none
  | n + 1, x5, x6 => (wX0_manyOf 15 1 s).bind fun t9 => if x6 < t9 then (if x3 = 0 then ((wX0_firstOf 15 1 x6 s).bind fun t13 => wX10_mean_j91 (wX10_mean_h42 x3 s n) x3 x5 x6 t13 s) else ((wX0_secondOf 15 1 x6 s).bind fun t17 => wX10_mean_j91 (wX10_mean_h42 x3 s n) x3 x5 x6 t17 s)) else (some x5)
theorem wX10_mean_t42 {x3 : Int32} {s : wS} {x : Int32} {r : ri_R} (he117 : ∀ (x5 : Int32) (w1 : Int32) (w2 : Int32) (w3 : Int32) (w4 : Nat) (w6 : Int32) (w7 : Option Value) , x = x5 → gRun 7 129 117 [some (.ref 1), some (.int w1), some (.int w2), some (.int w3), some (.ref (w4 + 1)), some (.int x5), some (.int w6), w7] [] (wmk s) r) : ∀ {n : Nat} {x5 : Int32} {x6 : Int32} {w1 : Int32} {w2 : Int32} {w4 : Nat} {w7 : Option Value} , wX10_mean_h42 x3 s n x5 x6 = some x → gRun 7 129 42 [some (.ref 1), some (.int w1), some (.int w2), some (.int x3), some (.ref (w4 + 1)), some (.int x5), some (.int x6), w7] [] (wmk s) r := by
  intro n
  induction n with
  | zero => intro x5 x6 w1 w2 w4 w7 h; cases (show (none : Option (Int32)) = some x from h)
  | succ n ih =>
    intro x5 x6 w1 w2 w4 w7 h
    rw [wX10_mean_h42] at h
    refine gR_go 2 (pc1 := 45) (L1 := [some (.ref 1), some (.int w1), some (.int w2), some (.int x3), some (.ref (w4 + 1)), some (.int x5), some (.int x6), w7]) (st1 := [.ref 1, .int x6]) (fun _ _ => rfl) ?_
    refine gR_gfR (k := 0) (k' := 14) rfl rfl rfl rfl ?_
    refine gR_gfR (k := 14) (k' := 15) rfl rfl rfl rfl ?_
    refine gR_go 1 (pc1 := 52) (L1 := [some (.ref 1), some (.int w1), some (.int w2), some (.int x3), some (.ref (w4 + 1)), some (.int x5), some (.int x6), w7]) (st1 := [.int 1, .ref 16, .int x6]) (fun _ _ => rfl) ?_
    obtain ⟨t9, e10, h⟩ := gb h
    refine gR_cvI (wX0_manyOf_s rfl e10) (Nat.le_of_ble_eq_true rfl) rfl rfl rfl rfl rfl ?_
    rcases gif h with ⟨c11, h⟩ | ⟨c11, h⟩
    · refine gR_ic_ge_f rfl c11 ?_
      refine gR_go 1 (pc1 := 59) (L1 := [some (.ref 1), some (.int w1), some (.int w2), some (.int x3), some (.ref (w4 + 1)), some (.int x5), some (.int x6), w7]) (st1 := [.int x3]) (fun _ _ => rfl) ?_
      rcases gif h with ⟨c12, h⟩ | ⟨c12, h⟩
      · refine gR_iz_ne_f rfl c12 ?_
        refine gR_go 1 (pc1 := 63) (L1 := [some (.ref 1), some (.int w1), some (.int w2), some (.int x3), some (.ref (w4 + 1)), some (.int x5), some (.int x6), w7]) (st1 := [.ref 1]) (fun _ _ => rfl) ?_
        refine gR_gfR (k := 0) (k' := 14) rfl rfl rfl rfl ?_
        refine gR_gfR (k := 14) (k' := 15) rfl rfl rfl rfl ?_
        refine gR_go 2 (pc1 := 72) (L1 := [some (.ref 1), some (.int w1), some (.int w2), some (.int x3), some (.ref (w4 + 1)), some (.int x5), some (.int x6), w7]) (st1 := [.int x6, .int 1, .ref 16]) (fun _ _ => rfl) ?_
        obtain ⟨t13, e14, h⟩ := gb h
        refine gR_cvI (wX0_firstOf_s rfl e14) (Nat.le_of_ble_eq_true rfl) rfl rfl rfl rfl rfl ?_
        refine gR_go 1 (pc1 := 91) (L1 := [some (.ref 1), some (.int w1), some (.int w2), some (.int x3), some (.ref (w4 + 1)), some (.int x5), some (.int x6), w7]) (st1 := [.int t13]) (fun _ _ => rfl) ?_
        exact wX10_mean_u91 ih he117 h
      · refine gR_iz_ne_j rfl c12 rfl ?_
        refine gR_go 1 (pc1 := 79) (L1 := [some (.ref 1), some (.int w1), some (.int w2), some (.int x3), some (.ref (w4 + 1)), some (.int x5), some (.int x6), w7]) (st1 := [.ref 1]) (fun _ _ => rfl) ?_
        refine gR_gfR (k := 0) (k' := 14) rfl rfl rfl rfl ?_
        refine gR_gfR (k := 14) (k' := 15) rfl rfl rfl rfl ?_
        refine gR_go 2 (pc1 := 88) (L1 := [some (.ref 1), some (.int w1), some (.int w2), some (.int x3), some (.ref (w4 + 1)), some (.int x5), some (.int x6), w7]) (st1 := [.int x6, .int 1, .ref 16]) (fun _ _ => rfl) ?_
        obtain ⟨t17, e18, h⟩ := gb h
        refine gR_cvI (wX0_secondOf_s rfl e18) (Nat.le_of_ble_eq_true rfl) rfl rfl rfl rfl rfl ?_
        exact wX10_mean_u91 ih he117 h
    · refine gR_ic_ge_j rfl c11 rfl ?_
      exact he117 _ _ _ _ _ _ _ (Option.some.inj h).symm
noncomputable def wX10_mean (x1 : Int32) (x2 : Int32) (x3 : Int32) (s : wS) : Option (Int32 × wS) := (wX10_lawWithKept x1 x2 s).bind fun (o1, s2) => Option.elim o1 (some ((-1), s2)) (fun k4 => (wX10_isOutside x3 2 s2).bind fun t5 => if t5 = 0 then (if 0 < (s2.1 35 1) then ((wX10_mean_h42 x3 s2 wFuel 0 0).bind fun t20 => (wdvI t20 (s2.1 35 1)).bind fun t27 => some (t27, s2)) else (some (((Int8.ofInt (-2)).toInt32), s2))) else (some ((-1), s2)))
theorem wX10_mean_s {x1 : Int32} {x2 : Int32} {x3 : Int32} {s : wS} {rv : Int32} {rs : wS} (h : wX10_mean x1 x2 x3 s = some (rv, rs)) : gEv 8 129 [.ref 1, .int x1, .int x2, .int x3] (wmk s) (some (.int rv), wmk rs, 0, 0) := by
  refine gEv_of (d := 7) (L := [some (.ref 1), some (.int x1), some (.int x2), some (.int x3), none, none, none, none]) rfl ?_
  unfold wX10_mean at h
  refine gR_go 3 (pc1 := 3) (L1 := [some (.ref 1), some (.int x1), some (.int x2), some (.int x3), none, none, none, none]) (st1 := [.int x2, .int x1, .ref 1]) (fun _ _ => rfl) ?_
  obtain ⟨⟨o1, s2⟩, e3, h⟩ := gb h
  dsimp only at h
  refine gR_cvR (wX10_lawWithKept_s e3) (Nat.le_of_ble_eq_true rfl) rfl rfl rfl rfl rfl ?_
  refine gR_astq (L1 := [some (.ref 1), some (.int x1), some (.int x2), some (.int x3), some (wrv o1), none, none, none]) rfl rfl rfl ?_
  refine gR_aldq rfl rfl ?_
  rcases gel h with ⟨ek4, hh⟩ | ⟨k4, ek4, hh⟩
  · clear h
    subst ek4
    have h := hh
    clear hh
    refine gR_ifnull_n_j rfl rfl ?_
    refine gR_go 1 (pc1 := 22) (L1 := [some (.ref 1), some (.int x1), some (.int x2), some (.int x3), some (.null), none, none, none]) (st1 := [.int (-1)]) (fun _ _ => rfl) ?_
    obtain ⟨rfl, rfl⟩ := gi2 h
    exact gR_ri rfl rfl
  · clear h
    subst ek4
    have h := hh
    clear hh
    refine gR_ifnull_r_f rfl ?_
    refine gR_go 2 (pc1 := 15) (L1 := [some (.ref 1), some (.int x1), some (.int x2), some (.int x3), some (.ref (k4 + 1)), none, none, none]) (st1 := [.int 2, .int x3]) (fun _ _ => rfl) ?_
    obtain ⟨t5, e6, h⟩ := gb h
    refine gR_csI (wX10_isOutside_s e6) (Nat.le_of_ble_eq_true rfl) rfl rfl rfl rfl ?_
    rcases gif h with ⟨c7, h⟩ | ⟨c7, h⟩
    · refine gR_iz_eq_j rfl c7 rfl ?_
      refine gR_go 1 (pc1 := 24) (L1 := [some (.ref 1), some (.int x1), some (.int x2), some (.int x3), some (.ref (k4 + 1)), none, none, none]) (st1 := [.ref 1]) (fun _ _ => rfl) ?_
      refine gR_gfR (k := 0) (k' := 35) rfl rfl rfl rfl ?_
      refine gR_gfI (k := 35) rfl rfl rfl ?_
      rcases gif h with ⟨c8, h⟩ | ⟨c8, h⟩
      · refine gR_iz_gt_j rfl c8 rfl ?_
        refine gR_go 4 (pc1 := 42) (L1 := [some (.ref 1), some (.int x1), some (.int x2), some (.int x3), some (.ref (k4 + 1)), some (.int 0), some (.int 0), none]) (st1 := []) (fun _ _ => rfl) ?_
        obtain ⟨z19, ez19, h⟩ := gb h
        refine wX10_mean_t42 ?_  ez19
        · intro t20 w21 w22 w23 w24 w25 w26 hz
          replace hz := hz.symm
          subst hz
          refine gR_go 2 (pc1 := 120) (L1 := [some (.ref 1), some (.int w21), some (.int w22), some (.int w23), some (.ref (w24 + 1)), some (.int t20), some (.int w25), w26]) (st1 := [.ref 1, .int t20]) (fun _ _ => rfl) ?_
          refine gR_gfR (k := 0) (k' := 35) rfl rfl rfl rfl ?_
          refine gR_gfI (k := 35) rfl rfl rfl ?_
          obtain ⟨t27, et27, h⟩ := gb h
          refine gR_dvI rfl et27 ?_
          obtain ⟨rfl, rfl⟩ := gi2 h
          exact gR_ri rfl rfl
      · refine gR_iz_gt_f rfl c8 ?_
        refine gR_go 1 (pc1 := 35) (L1 := [some (.ref 1), some (.int x1), some (.int x2), some (.int x3), some (.ref (k4 + 1)), none, none, none]) (st1 := [.int ((Int8.ofInt (-2)).toInt32)]) (fun _ _ => rfl) ?_
        obtain ⟨rfl, rfl⟩ := gi2 h
        exact gR_ri rfl rfl
    · refine gR_iz_eq_f rfl c7 ?_
      refine gR_go 1 (pc1 := 22) (L1 := [some (.ref 1), some (.int x1), some (.int x2), some (.int x3), some (.ref (k4 + 1)), none, none, none]) (st1 := [.int (-1)]) (fun _ _ => rfl) ?_
      obtain ⟨rfl, rfl⟩ := gi2 h
      exact gR_ri rfl rfl
noncomputable def wX10_filled_j147 (qq : Int32 → Int32 → Option (Int32)) (k4 : Nat) (x5 : Int32) (x6 : Int32) (x7 : Int32) (x8 : Int32) (x9 : Int32) (x10 : Int32) (s : wS) : Option (Int32) := qq x8 (x10 + 1)
theorem wX10_filled_u147 {k4 : Nat} {x5 : Int32} {x6 : Int32} {x7 : Int32} {x8 : Int32} {x9 : Int32} {x10 : Int32} {s : wS} {w1 : Int32} {w2 : Int32} {w3 : Int32} {qq : Int32 → Int32 → Option (Int32)} {x : Int32} {r : ri_R} (ih : ∀ {x8 : Int32} {x10 : Int32} {w1 : Int32} {w2 : Int32} {w3 : Int32} , qq x8 x10 = some x → gRun 6 130 113 [some (.ref 1), some (.int w1), some (.int w2), some (.int w3), some (.ref (k4 + 1)), some (.int x5), some (.int x6), some (.int x7), some (.int x8), some (.int x9), some (.int x10)] [] (wmk s) r) (he153 : ∀ (x8 : Int32) (w1 : Int32) (w2 : Int32) (w3 : Int32) (w10 : Int32) , x = x8 → gRun 6 130 153 [some (.ref 1), some (.int w1), some (.int w2), some (.int w3), some (.ref (k4 + 1)), some (.int x5), some (.int x6), some (.int x7), some (.int x8), some (.int x9), some (.int w10)] [] (wmk s) r) (hk4 : wkd k4 = 3) (h : wX10_filled_j147 qq k4 x5 x6 x7 x8 x9 x10 s = some x) : gRun 6 130 147 [some (.ref 1), some (.int w1), some (.int w2), some (.int w3), some (.ref (k4 + 1)), some (.int x5), some (.int x6), some (.int x7), some (.int x8), some (.int x9), some (.int x10)] [] (wmk s) r := by
  unfold wX10_filled_j147 at h
  refine gR_go 2 (pc1 := 113) (L1 := [some (.ref 1), some (.int w1), some (.int w2), some (.int w3), some (.ref (k4 + 1)), some (.int x5), some (.int x6), some (.int x7), some (.int x8), some (.int x9), some (.int (x10 + 1))]) (st1 := []) (fun _ _ => rfl) ?_
  exact ih h
noncomputable def wX10_filled_h113 (k4 : Nat) (x5 : Int32) (x6 : Int32) (x7 : Int32) (x9 : Int32) (s : wS) : Nat → Int32 → Int32 → Option (Int32)
  | 0, _, _ => none
  | n + 1, x8, x10 => if x10 < x7 then (if x9 = x10 then (wX10_filled_j147 (wX10_filled_h113 k4 x5 x6 x7 x9 s n) k4 x5 x6 x7 x8 x9 x10 s) else ((wX3_nearOf k4 x5 x9 x10 s).bind fun t28 => if (t28 &&& x6) = 0 then (wX10_filled_j147 (wX10_filled_h113 k4 x5 x6 x7 x9 s n) k4 x5 x6 x7 x8 x9 x10 s) else (wX10_filled_j147 (wX10_filled_h113 k4 x5 x6 x7 x9 s n) k4 x5 x6 x7 (x8 + 1) x9 x10 s))) else (some x8)
theorem wX10_filled_t113 {k4 : Nat} {x5 : Int32} {x6 : Int32} {x7 : Int32} {x9 : Int32} {s : wS} {x : Int32} {r : ri_R} (hk4 : wkd k4 = 3) (he153 : ∀ (x8 : Int32) (w1 : Int32) (w2 : Int32) (w3 : Int32) (w10 : Int32) , x = x8 → gRun 6 130 153 [some (.ref 1), some (.int w1), some (.int w2), some (.int w3), some (.ref (k4 + 1)), some (.int x5), some (.int x6), some (.int x7), some (.int x8), some (.int x9), some (.int w10)] [] (wmk s) r) : ∀ {n : Nat} {x8 : Int32} {x10 : Int32} {w1 : Int32} {w2 : Int32} {w3 : Int32} , wX10_filled_h113 k4 x5 x6 x7 x9 s n x8 x10 = some x → gRun 6 130 113 [some (.ref 1), some (.int w1), some (.int w2), some (.int w3), some (.ref (k4 + 1)), some (.int x5), some (.int x6), some (.int x7), some (.int x8), some (.int x9), some (.int x10)] [] (wmk s) r := by
  intro n
  induction n with
  | zero => intro x8 x10 w1 w2 w3 h; cases (show (none : Option (Int32)) = some x from h)
  | succ n ih =>
    intro x8 x10 w1 w2 w3 h
    rw [wX10_filled_h113] at h
    refine gR_go 2 (pc1 := 117) (L1 := [some (.ref 1), some (.int w1), some (.int w2), some (.int w3), some (.ref (k4 + 1)), some (.int x5), some (.int x6), some (.int x7), some (.int x8), some (.int x9), some (.int x10)]) (st1 := [.int x7, .int x10]) (fun _ _ => rfl) ?_
    rcases gif h with ⟨c26, h⟩ | ⟨c26, h⟩
    · refine gR_ic_ge_f rfl c26 ?_
      refine gR_go 2 (pc1 := 124) (L1 := [some (.ref 1), some (.int w1), some (.int w2), some (.int w3), some (.ref (k4 + 1)), some (.int x5), some (.int x6), some (.int x7), some (.int x8), some (.int x9), some (.int x10)]) (st1 := [.int x10, .int x9]) (fun _ _ => rfl) ?_
      rcases gif h with ⟨c27, h⟩ | ⟨c27, h⟩
      · refine gR_ic_eq_j rfl c27 rfl ?_
        exact wX10_filled_u147 ih he153 hk4 h
      · refine gR_ic_eq_f rfl c27 ?_
        refine gR_go 4 (pc1 := 135) (L1 := [some (.ref 1), some (.int w1), some (.int w2), some (.int w3), some (.ref (k4 + 1)), some (.int x5), some (.int x6), some (.int x7), some (.int x8), some (.int x9), some (.int x10)]) (st1 := [.int x10, .int x9, .int x5, .ref (k4 + 1)]) (fun _ _ => rfl) ?_
        obtain ⟨t28, e29, h⟩ := gb h
        refine gR_cvI (wX3_nearOf_s hk4 e29) (Nat.le_of_ble_eq_true rfl) rfl rfl hk4 rfl rfl ?_
        refine gR_go 2 (pc1 := 141) (L1 := [some (.ref 1), some (.int w1), some (.int w2), some (.int w3), some (.ref (k4 + 1)), some (.int x5), some (.int x6), some (.int x7), some (.int x8), some (.int x9), some (.int x10)]) (st1 := [.int (t28 &&& x6)]) (fun _ _ => rfl) ?_
        rcases gif h with ⟨c30, h⟩ | ⟨c30, h⟩
        · refine gR_iz_eq_j rfl c30 rfl ?_
          exact wX10_filled_u147 ih he153 hk4 h
        · refine gR_iz_eq_f rfl c30 ?_
          refine gR_go 1 (pc1 := 147) (L1 := [some (.ref 1), some (.int w1), some (.int w2), some (.int w3), some (.ref (k4 + 1)), some (.int x5), some (.int x6), some (.int x7), some (.int (x8 + 1)), some (.int x9), some (.int x10)]) (st1 := []) (fun _ _ => rfl) ?_
          exact wX10_filled_u147 ih he153 hk4 h
    · refine gR_ic_ge_j rfl c26 rfl ?_
      exact he153 _ _ _ _ _ (Option.some.inj h).symm
noncomputable def wX10_filled_h103 (k4 : Nat) (x5 : Int32) (x6 : Int32) (x7 : Int32) (s : wS) : Nat → Int32 → Int32 → Option (Int32)
  | 0, _, _ => none
  | n + 1, x8, x9 => if x9 < x7 then ((wX10_filled_h113 k4 x5 x6 x7 x9 s wFuel x8 0).bind fun t32 => wX10_filled_h103 k4 x5 x6 x7 s n t32 (x9 + 1)) else (some x8)
theorem wX10_filled_t103 {k4 : Nat} {x5 : Int32} {x6 : Int32} {x7 : Int32} {s : wS} {x : Int32} {r : ri_R} (hk4 : wkd k4 = 3) (he159 : ∀ (x8 : Int32) (w1 : Int32) (w2 : Int32) (w3 : Int32) (w4 : Nat) (w5 : Int32) (w6 : Int32) (w7 : Int32) (w9 : Int32) (w10 : Option Value) , x = x8 → gRun 6 130 159 [some (.ref 1), some (.int w1), some (.int w2), some (.int w3), some (.ref (w4 + 1)), some (.int w5), some (.int w6), some (.int w7), some (.int x8), some (.int w9), w10] [] (wmk s) r) : ∀ {n : Nat} {x8 : Int32} {x9 : Int32} {w1 : Int32} {w2 : Int32} {w3 : Int32} {w10 : Option Value} , wX10_filled_h103 k4 x5 x6 x7 s n x8 x9 = some x → gRun 6 130 103 [some (.ref 1), some (.int w1), some (.int w2), some (.int w3), some (.ref (k4 + 1)), some (.int x5), some (.int x6), some (.int x7), some (.int x8), some (.int x9), w10] [] (wmk s) r := by
  intro n
  induction n with
  | zero => intro x8 x9 w1 w2 w3 w10 h; cases (show (none : Option (Int32)) = some x from h)
  | succ n ih =>
    intro x8 x9 w1 w2 w3 w10 h
    rw [wX10_filled_h103] at h
    refine gR_go 2 (pc1 := 107) (L1 := [some (.ref 1), some (.int w1), some (.int w2), some (.int w3), some (.ref (k4 + 1)), some (.int x5), some (.int x6), some (.int x7), some (.int x8), some (.int x9), w10]) (st1 := [.int x7, .int x9]) (fun _ _ => rfl) ?_
    rcases gif h with ⟨c25, h⟩ | ⟨c25, h⟩
    · refine gR_ic_ge_f rfl c25 ?_
      refine gR_go 2 (pc1 := 113) (L1 := [some (.ref 1), some (.int w1), some (.int w2), some (.int w3), some (.ref (k4 + 1)), some (.int x5), some (.int x6), some (.int x7), some (.int x8), some (.int x9), some (.int 0)]) (st1 := []) (fun _ _ => rfl) ?_
      obtain ⟨z31, ez31, h⟩ := gb h
      refine wX10_filled_t113 hk4 ?_  ez31
      · intro t32 w33 w34 w35 w36 hz
        replace hz := hz.symm
        subst hz
        refine gR_go 2 (pc1 := 103) (L1 := [some (.ref 1), some (.int w33), some (.int w34), some (.int w35), some (.ref (k4 + 1)), some (.int x5), some (.int x6), some (.int x7), some (.int t32), some (.int (x9 + 1)), some (.int w36)]) (st1 := []) (fun _ _ => rfl) ?_
        exact ih h
    · refine gR_ic_ge_j rfl c25 rfl ?_
      exact he159 _ _ _ _ _ _ _ _ _ _ (Option.some.inj h).symm
noncomputable def wX10_filled (x1 : Int32) (x2 : Int32) (x3 : Int32) (s : wS) : Option (Int32 × wS) := (wX10_lawInUse x1 s).bind fun (o1, s2) => Option.elim o1 (some ((-1), s2)) (fun k4 => (wX10_isOutside x2 41 s2).bind fun t5 => if t5 = 0 then ((wX2_hasAnswer 14 x3 s2).bind fun t8 => if t8 = 0 then (some ((-1), s2)) else ((wX2_first 14 s2).bind fun t11 => (wX10_countFalse k4 t11 (-1) x3 s2).bind fun s14 => (wX10_fillKept 35 x2 (-1) s14).bind fun s17 => (wX10_at 20 x3 s17).bind fun t19 => (wX7_thingsOf 35 t19 s17).bind fun t21 => (wX0_manyOf 15 t19 s17).bind fun t23 => (wX10_filled_h103 k4 t19 t21 t23 s17 wFuel 0 0).bind fun t38 => some (t38, s17))) else (some ((-1), s2)))
theorem wX10_filled_s {x1 : Int32} {x2 : Int32} {x3 : Int32} {s : wS} {rv : Int32} {rs : wS} (h : wX10_filled x1 x2 x3 s = some (rv, rs)) : gEv 7 130 [.ref 1, .int x1, .int x2, .int x3] (wmk s) (some (.int rv), wmk rs, 0, 0) := by
  refine gEv_of (d := 6) (L := [some (.ref 1), some (.int x1), some (.int x2), some (.int x3), none, none, none, none, none, none, none]) rfl ?_
  unfold wX10_filled at h
  refine gR_go 2 (pc1 := 2) (L1 := [some (.ref 1), some (.int x1), some (.int x2), some (.int x3), none, none, none, none, none, none, none]) (st1 := [.int x1, .ref 1]) (fun _ _ => rfl) ?_
  obtain ⟨⟨o1, s2⟩, e3, h⟩ := gb h
  dsimp only at h
  refine gR_cvR (wX10_lawInUse_s e3) (Nat.le_of_ble_eq_true rfl) rfl rfl rfl rfl rfl ?_
  refine gR_astq (L1 := [some (.ref 1), some (.int x1), some (.int x2), some (.int x3), some (wrv o1), none, none, none, none, none, none]) rfl rfl rfl ?_
  refine gR_aldq rfl rfl ?_
  rcases gel h with ⟨ek4, hh⟩ | ⟨k4, ek4, hh⟩
  · clear h
    subst ek4
    have h := hh
    clear hh
    refine gR_ifnull_n_j rfl rfl ?_
    refine gR_go 1 (pc1 := 33) (L1 := [some (.ref 1), some (.int x1), some (.int x2), some (.int x3), some (.null), none, none, none, none, none, none]) (st1 := [.int (-1)]) (fun _ _ => rfl) ?_
    obtain ⟨rfl, rfl⟩ := gi2 h
    exact gR_ri rfl rfl
  · clear h
    subst ek4
    have h := hh
    clear hh
    refine gR_ifnull_r_f rfl ?_
    refine gR_go 2 (pc1 := 15) (L1 := [some (.ref 1), some (.int x1), some (.int x2), some (.int x3), some (.ref (k4 + 1)), none, none, none, none, none, none]) (st1 := [.int 41, .int x2]) (fun _ _ => rfl) ?_
    obtain ⟨t5, e6, h⟩ := gb h
    refine gR_csI (wX10_isOutside_s e6) (Nat.le_of_ble_eq_true rfl) rfl rfl rfl rfl ?_
    rcases gif h with ⟨c7, h⟩ | ⟨c7, h⟩
    · refine gR_iz_ne_f rfl c7 ?_
      refine gR_go 1 (pc1 := 22) (L1 := [some (.ref 1), some (.int x1), some (.int x2), some (.int x3), some (.ref (k4 + 1)), none, none, none, none, none, none]) (st1 := [.ref 1]) (fun _ _ => rfl) ?_
      refine gR_gfR (k := 0) (k' := 14) rfl rfl rfl rfl ?_
      refine gR_go 1 (pc1 := 26) (L1 := [some (.ref 1), some (.int x1), some (.int x2), some (.int x3), some (.ref (k4 + 1)), none, none, none, none, none, none]) (st1 := [.int x3, .ref 15]) (fun _ _ => rfl) ?_
      obtain ⟨t8, e9, h⟩ := gb h
      refine gR_cvI (wX2_hasAnswer_s rfl e9) (Nat.le_of_ble_eq_true rfl) rfl rfl rfl rfl rfl ?_
      rcases gif h with ⟨c10, h⟩ | ⟨c10, h⟩
      · refine gR_iz_ne_f rfl c10 ?_
        refine gR_go 1 (pc1 := 33) (L1 := [some (.ref 1), some (.int x1), some (.int x2), some (.int x3), some (.ref (k4 + 1)), none, none, none, none, none, none]) (st1 := [.int (-1)]) (fun _ _ => rfl) ?_
        obtain ⟨rfl, rfl⟩ := gi2 h
        exact gR_ri rfl rfl
      · refine gR_iz_ne_j rfl c10 rfl ?_
        refine gR_go 3 (pc1 := 38) (L1 := [some (.ref 1), some (.int x1), some (.int x2), some (.int x3), some (.ref (k4 + 1)), none, none, none, none, none, none]) (st1 := [.ref 1, .ref (k4 + 1), .ref 1]) (fun _ _ => rfl) ?_
        refine gR_gfR (k := 0) (k' := 14) rfl rfl rfl rfl ?_
        obtain ⟨t11, e12, h⟩ := gb h
        refine gR_cvI (wX2_first_s rfl e12) (Nat.le_of_ble_eq_true rfl) rfl rfl rfl rfl rfl ?_
        refine gR_go 2 (pc1 := 46) (L1 := [some (.ref 1), some (.int x1), some (.int x2), some (.int x3), some (.ref (k4 + 1)), none, none, none, none, none, none]) (st1 := [.int x3, .int (-1), .int t11, .ref (k4 + 1), .ref 1]) (fun _ _ => rfl) ?_
        obtain ⟨s14, e15, h⟩ := gb h
        refine gR_cvV (wX10_countFalse_s (wX10_lawInUse_q e3) e15) (Nat.le_of_ble_eq_true rfl) rfl rfl rfl rfl rfl ?_
        refine gR_go 2 (pc1 := 51) (L1 := [some (.ref 1), some (.int x1), some (.int x2), some (.int x3), some (.ref (k4 + 1)), none, none, none, none, none, none]) (st1 := [.ref 1, .ref 1]) (fun _ _ => rfl) ?_
        refine gR_gfR (k := 0) (k' := 35) rfl rfl rfl rfl ?_
        refine gR_go 2 (pc1 := 56) (L1 := [some (.ref 1), some (.int x1), some (.int x2), some (.int x3), some (.ref (k4 + 1)), none, none, none, none, none, none]) (st1 := [.int (-1), .int x2, .ref 36, .ref 1]) (fun _ _ => rfl) ?_
        obtain ⟨s17, e18, h⟩ := gb h
        refine gR_cvV (wX10_fillKept_s rfl e18) (Nat.le_of_ble_eq_true rfl) rfl rfl rfl rfl rfl ?_
        refine gR_go 1 (pc1 := 60) (L1 := [some (.ref 1), some (.int x1), some (.int x2), some (.int x3), some (.ref (k4 + 1)), none, none, none, none, none, none]) (st1 := [.ref 1]) (fun _ _ => rfl) ?_
        refine gR_gfR (k := 0) (k' := 14) rfl rfl rfl rfl ?_
        refine gR_gfR (k := 14) (k' := 20) rfl rfl rfl rfl ?_
        refine gR_go 1 (pc1 := 67) (L1 := [some (.ref 1), some (.int x1), some (.int x2), some (.int x3), some (.ref (k4 + 1)), none, none, none, none, none, none]) (st1 := [.int x3, .ref 21]) (fun _ _ => rfl) ?_
        obtain ⟨t19, e20, h⟩ := gb h
        refine gR_csI (wX10_at_s rfl e20) (Nat.le_of_ble_eq_true rfl) rfl rfl rfl rfl ?_
        refine gR_go 2 (pc1 := 73) (L1 := [some (.ref 1), some (.int x1), some (.int x2), some (.int x3), some (.ref (k4 + 1)), some (.int t19), none, none, none, none, none]) (st1 := [.ref 1]) (fun _ _ => rfl) ?_
        refine gR_gfR (k := 0) (k' := 35) rfl rfl rfl rfl ?_
        refine gR_go 1 (pc1 := 78) (L1 := [some (.ref 1), some (.int x1), some (.int x2), some (.int x3), some (.ref (k4 + 1)), some (.int t19), none, none, none, none, none]) (st1 := [.int t19, .ref 36]) (fun _ _ => rfl) ?_
        obtain ⟨t21, e22, h⟩ := gb h
        refine gR_cvI (wX7_thingsOf_s rfl e22) (Nat.le_of_ble_eq_true rfl) rfl rfl rfl rfl rfl ?_
        refine gR_go 2 (pc1 := 84) (L1 := [some (.ref 1), some (.int x1), some (.int x2), some (.int x3), some (.ref (k4 + 1)), some (.int t19), some (.int t21), none, none, none, none]) (st1 := [.ref 1]) (fun _ _ => rfl) ?_
        refine gR_gfR (k := 0) (k' := 14) rfl rfl rfl rfl ?_
        refine gR_gfR (k := 14) (k' := 15) rfl rfl rfl rfl ?_
        refine gR_go 1 (pc1 := 92) (L1 := [some (.ref 1), some (.int x1), some (.int x2), some (.int x3), some (.ref (k4 + 1)), some (.int t19), some (.int t21), none, none, none, none]) (st1 := [.int t19, .ref 16]) (fun _ _ => rfl) ?_
        obtain ⟨t23, e24, h⟩ := gb h
        refine gR_cvI (wX0_manyOf_s rfl e24) (Nat.le_of_ble_eq_true rfl) rfl rfl rfl rfl rfl ?_
        refine gR_go 5 (pc1 := 103) (L1 := [some (.ref 1), some (.int x1), some (.int x2), some (.int x3), some (.ref (k4 + 1)), some (.int t19), some (.int t21), some (.int t23), some (.int 0), some (.int 0), none]) (st1 := []) (fun _ _ => rfl) ?_
        obtain ⟨z37, ez37, h⟩ := gb h
        refine wX10_filled_t103 (wX10_lawInUse_q e3) ?_  ez37
        · intro t38 w39 w40 w41 w42 w43 w44 w45 w46 w47 hz
          replace hz := hz.symm
          subst hz
          refine gR_go 1 (pc1 := 161) (L1 := [some (.ref 1), some (.int w39), some (.int w40), some (.int w41), some (.ref (w42 + 1)), some (.int w43), some (.int w44), some (.int w45), some (.int t38), some (.int w46), w47]) (st1 := [.int t38]) (fun _ _ => rfl) ?_
          obtain ⟨rfl, rfl⟩ := gi2 h
          exact gR_ri rfl rfl
    · refine gR_iz_ne_j rfl c7 rfl ?_
      refine gR_go 1 (pc1 := 33) (L1 := [some (.ref 1), some (.int x1), some (.int x2), some (.int x3), some (.ref (k4 + 1)), none, none, none, none, none, none]) (st1 := [.int (-1)]) (fun _ _ => rfl) ?_
      obtain ⟨rfl, rfl⟩ := gi2 h
      exact gR_ri rfl rfl
noncomputable def wX10_lowerBound_h2 (x0 : Int32) (s : wS) : Nat → Int32 → Option (Int32)
  | 0, _ => none
  | n + 1, x1 => if x1 < 30 then (if (1 <<< (x1 &&& 31)) < x0 then (wX10_lowerBound_h2 x0 s n (x1 + 1)) else (some x1)) else (some x1)
theorem wX10_lowerBound_t2 {x0 : Int32} {s : wS} {x : Int32} {r : ri_R} (he21 : ∀ (x1 : Int32) (w0 : Int32) , x = x1 → gRun 0 148 21 [some (.int w0), some (.int x1)] [] (wmk s) r) : ∀ {n : Nat} {x1 : Int32} , wX10_lowerBound_h2 x0 s n x1 = some x → gRun 0 148 2 [some (.int x0), some (.int x1)] [] (wmk s) r := by
  intro n
  induction n with
  | zero => intro x1 h; cases (show (none : Option (Int32)) = some x from h)
  | succ n ih =>
    intro x1 h
    rw [wX10_lowerBound_h2] at h
    refine gR_go 2 (pc1 := 5) (L1 := [some (.int x0), some (.int x1)]) (st1 := [.int 30, .int x1]) (fun _ _ => rfl) ?_
    rcases gif h with ⟨c1, h⟩ | ⟨c1, h⟩
    · refine gR_ic_ge_f rfl c1 ?_
      refine gR_go 4 (pc1 := 12) (L1 := [some (.int x0), some (.int x1)]) (st1 := [.int x0, .int (1 <<< (x1 &&& 31))]) (fun _ _ => rfl) ?_
      rcases gif h with ⟨c2, h⟩ | ⟨c2, h⟩
      · refine gR_ic_ge_f rfl c2 ?_
        refine gR_go 2 (pc1 := 2) (L1 := [some (.int x0), some (.int (x1 + 1))]) (st1 := []) (fun _ _ => rfl) ?_
        exact ih h
      · refine gR_ic_ge_j rfl c2 rfl ?_
        exact he21 _ _ (Option.some.inj h).symm
    · refine gR_ic_ge_j rfl c1 rfl ?_
      exact he21 _ _ (Option.some.inj h).symm
noncomputable def wX10_lowerBound (x0 : Int32) (s : wS) : Option (Int32) := (wX10_lowerBound_h2 x0 s wFuel 0).bind fun t4 => some t4
theorem wX10_lowerBound_s {x0 : Int32} {s : wS} {rv : Int32} (h : wX10_lowerBound x0 s = some rv) : gEv 1 148 [.int x0] (wmk s) (some (.int rv), wmk s, 0, 0) := by
  refine gEv_of (d := 0) (L := [some (.int x0), none]) rfl ?_
  unfold wX10_lowerBound at h
  refine gR_go 2 (pc1 := 2) (L1 := [some (.int x0), some (.int 0)]) (st1 := []) (fun _ _ => rfl) ?_
  obtain ⟨z3, ez3, h⟩ := gb h
  refine wX10_lowerBound_t2 ?_  ez3
  · intro t4 w5 hz
    replace hz := hz.symm
    subst hz
    refine gR_go 1 (pc1 := 22) (L1 := [some (.int w5), some (.int t4)]) (st1 := [.int t4]) (fun _ _ => rfl) ?_
    obtain rfl := gi1 h
    exact gR_ri rfl rfl
noncomputable def wX10_usefulPairs_j64 (qq : Int32 → Int32 → Option (Int32)) (k1 : Nat) (x2 : Int32) (x3 : Int32) (s : wS) : Option (Int32) := qq x2 (x3 + 1)
theorem wX10_usefulPairs_u64 {k1 : Nat} {x2 : Int32} {x3 : Int32} {s : wS} {qq : Int32 → Int32 → Option (Int32)} {x : Int32} {r : ri_R} (ih : ∀ {x2 : Int32} {x3 : Int32} , qq x2 x3 = some x → gRun 5 166 4 [some (.ref 1), some (.ref (k1 + 1)), some (.int x2), some (.int x3)] [] (wmk s) r) (he70 : ∀ (x2 : Int32) (w1 : Nat) (w3 : Int32) , x = x2 → gRun 5 166 70 [some (.ref 1), some (.ref (w1 + 1)), some (.int x2), some (.int w3)] [] (wmk s) r) (hk1 : wkd k1 = 3) (h : wX10_usefulPairs_j64 qq k1 x2 x3 s = some x) : gRun 5 166 64 [some (.ref 1), some (.ref (k1 + 1)), some (.int x2), some (.int x3)] [] (wmk s) r := by
  unfold wX10_usefulPairs_j64 at h
  refine gR_go 2 (pc1 := 4) (L1 := [some (.ref 1), some (.ref (k1 + 1)), some (.int x2), some (.int (x3 + 1))]) (st1 := []) (fun _ _ => rfl) ?_
  exact ih h
noncomputable def wX10_usefulPairs_h4 (k1 : Nat) (s : wS) : Nat → Int32 → Int32 → Option (Int32)
  | 0, _, _ => none
  | n + 1, x2, x3 => if x3 < (s.1 28 3) then ((wX5_leftForFirst k1 35 x3 s).bind fun t2 => if t2 < (s.1 35 1) then ((wX5_leftForSecond k1 35 x3 s).bind fun t5 => if t5 < (s.1 35 1) then (wX10_usefulPairs_j64 (wX10_usefulPairs_h4 k1 s n) k1 (x2 + 1) x3 s) else (wX10_usefulPairs_j64 (wX10_usefulPairs_h4 k1 s n) k1 x2 x3 s)) else (wX10_usefulPairs_j64 (wX10_usefulPairs_h4 k1 s n) k1 x2 x3 s)) else (some x2)
theorem wX10_usefulPairs_t4 {k1 : Nat} {s : wS} {x : Int32} {r : ri_R} (hk1 : wkd k1 = 3) (he70 : ∀ (x2 : Int32) (w1 : Nat) (w3 : Int32) , x = x2 → gRun 5 166 70 [some (.ref 1), some (.ref (w1 + 1)), some (.int x2), some (.int w3)] [] (wmk s) r) : ∀ {n : Nat} {x2 : Int32} {x3 : Int32} , wX10_usefulPairs_h4 k1 s n x2 x3 = some x → gRun 5 166 4 [some (.ref 1), some (.ref (k1 + 1)), some (.int x2), some (.int x3)] [] (wmk s) r := by
  intro n
  induction n with
  | zero => intro x2 x3 h; cases (show (none : Option (Int32)) = some x from h)
  | succ n ih =>
    intro x2 x3 h
    rw [wX10_usefulPairs_h4] at h
    refine gR_go 2 (pc1 := 6) (L1 := [some (.ref 1), some (.ref (k1 + 1)), some (.int x2), some (.int x3)]) (st1 := [.ref 1, .int x3]) (fun _ _ => rfl) ?_
    refine gR_gfR (k := 0) (k' := 28) rfl rfl rfl rfl ?_
    refine gR_gfI (k := 28) rfl rfl rfl ?_
    rcases gif h with ⟨c1, h⟩ | ⟨c1, h⟩
    · refine gR_ic_ge_f rfl c1 ?_
      refine gR_go 1 (pc1 := 16) (L1 := [some (.ref 1), some (.ref (k1 + 1)), some (.int x2), some (.int x3)]) (st1 := [.ref 1]) (fun _ _ => rfl) ?_
      refine gR_gfR (k := 0) (k' := 28) rfl rfl rfl rfl ?_
      refine gR_go 2 (pc1 := 21) (L1 := [some (.ref 1), some (.ref (k1 + 1)), some (.int x2), some (.int x3)]) (st1 := [.ref 1, .ref (k1 + 1), .ref 29]) (fun _ _ => rfl) ?_
      refine gR_gfR (k := 0) (k' := 35) rfl rfl rfl rfl ?_
      refine gR_go 1 (pc1 := 25) (L1 := [some (.ref 1), some (.ref (k1 + 1)), some (.int x2), some (.int x3)]) (st1 := [.int x3, .ref 36, .ref (k1 + 1), .ref 29]) (fun _ _ => rfl) ?_
      obtain ⟨t2, e3, h⟩ := gb h
      refine gR_cvI (wX5_leftForFirst_s hk1 rfl e3) (Nat.le_of_ble_eq_true rfl) rfl rfl rfl rfl rfl ?_
      refine gR_go 1 (pc1 := 29) (L1 := [some (.ref 1), some (.ref (k1 + 1)), some (.int x2), some (.int x3)]) (st1 := [.ref 1, .int t2]) (fun _ _ => rfl) ?_
      refine gR_gfR (k := 0) (k' := 35) rfl rfl rfl rfl ?_
      refine gR_gfI (k := 35) rfl rfl rfl ?_
      rcases gif h with ⟨c4, h⟩ | ⟨c4, h⟩
      · refine gR_ic_ge_f rfl c4 ?_
        refine gR_go 1 (pc1 := 39) (L1 := [some (.ref 1), some (.ref (k1 + 1)), some (.int x2), some (.int x3)]) (st1 := [.ref 1]) (fun _ _ => rfl) ?_
        refine gR_gfR (k := 0) (k' := 28) rfl rfl rfl rfl ?_
        refine gR_go 2 (pc1 := 44) (L1 := [some (.ref 1), some (.ref (k1 + 1)), some (.int x2), some (.int x3)]) (st1 := [.ref 1, .ref (k1 + 1), .ref 29]) (fun _ _ => rfl) ?_
        refine gR_gfR (k := 0) (k' := 35) rfl rfl rfl rfl ?_
        refine gR_go 1 (pc1 := 48) (L1 := [some (.ref 1), some (.ref (k1 + 1)), some (.int x2), some (.int x3)]) (st1 := [.int x3, .ref 36, .ref (k1 + 1), .ref 29]) (fun _ _ => rfl) ?_
        obtain ⟨t5, e6, h⟩ := gb h
        refine gR_cvI (wX5_leftForSecond_s hk1 rfl e6) (Nat.le_of_ble_eq_true rfl) rfl rfl rfl rfl rfl ?_
        refine gR_go 1 (pc1 := 52) (L1 := [some (.ref 1), some (.ref (k1 + 1)), some (.int x2), some (.int x3)]) (st1 := [.ref 1, .int t5]) (fun _ _ => rfl) ?_
        refine gR_gfR (k := 0) (k' := 35) rfl rfl rfl rfl ?_
        refine gR_gfI (k := 35) rfl rfl rfl ?_
        rcases gif h with ⟨c7, h⟩ | ⟨c7, h⟩
        · refine gR_ic_ge_f rfl c7 ?_
          refine gR_go 1 (pc1 := 64) (L1 := [some (.ref 1), some (.ref (k1 + 1)), some (.int (x2 + 1)), some (.int x3)]) (st1 := []) (fun _ _ => rfl) ?_
          exact wX10_usefulPairs_u64 ih he70 hk1 h
        · refine gR_ic_ge_j rfl c7 rfl ?_
          exact wX10_usefulPairs_u64 ih he70 hk1 h
      · refine gR_ic_ge_j rfl c4 rfl ?_
        exact wX10_usefulPairs_u64 ih he70 hk1 h
    · refine gR_ic_ge_j rfl c1 rfl ?_
      exact he70 _ _ _ (Option.some.inj h).symm
noncomputable def wX10_usefulPairs (k1 : Nat) (s : wS) : Option (Int32) := (wX10_usefulPairs_h4 k1 s wFuel 0 0).bind fun t9 => some t9
theorem wX10_usefulPairs_s {k1 : Nat} {s : wS} {rv : Int32} (hk1 : wkd k1 = 3) (h : wX10_usefulPairs k1 s = some rv) : gEv 6 166 [.ref 1, .ref (k1 + 1)] (wmk s) (some (.int rv), wmk s, 0, 0) := by
  refine gEv_of (d := 5) (L := [some (.ref 1), some (.ref (k1 + 1)), none, none]) rfl ?_
  unfold wX10_usefulPairs at h
  refine gR_go 4 (pc1 := 4) (L1 := [some (.ref 1), some (.ref (k1 + 1)), some (.int 0), some (.int 0)]) (st1 := []) (fun _ _ => rfl) ?_
  obtain ⟨z8, ez8, h⟩ := gb h
  refine wX10_usefulPairs_t4 hk1 ?_  ez8
  · intro t9 w10 w11 hz
    replace hz := hz.symm
    subst hz
    refine gR_go 1 (pc1 := 71) (L1 := [some (.ref 1), some (.ref (w10 + 1)), some (.int t9), some (.int w11)]) (st1 := [.int t9]) (fun _ _ => rfl) ?_
    obtain rfl := gi1 h
    exact gR_ri rfl rfl
noncomputable def wX10_useful (x1 : Int32) (x2 : Int32) (x3 : Int32) (s : wS) : Option (Int32 × wS) := (wX10_lawWithKept x1 x2 s).bind fun (o1, s2) => Option.elim o1 (some ((-1), s2)) (fun k4 => (wX10_isOutside x3 2 s2).bind fun t5 => if t5 = 0 then (if x3 = 0 then ((wX10_usefulPairs k4 s2).bind fun t9 => some (t9, s2)) else ((wX10_lowerBound (s2.1 35 1) s2).bind fun t11 => some (t11, s2))) else (some ((-1), s2)))
theorem wX10_useful_s {x1 : Int32} {x2 : Int32} {x3 : Int32} {s : wS} {rv : Int32} {rs : wS} (h : wX10_useful x1 x2 x3 s = some (rv, rs)) : gEv 8 131 [.ref 1, .int x1, .int x2, .int x3] (wmk s) (some (.int rv), wmk rs, 0, 0) := by
  refine gEv_of (d := 7) (L := [some (.ref 1), some (.int x1), some (.int x2), some (.int x3), none]) rfl ?_
  unfold wX10_useful at h
  refine gR_go 3 (pc1 := 3) (L1 := [some (.ref 1), some (.int x1), some (.int x2), some (.int x3), none]) (st1 := [.int x2, .int x1, .ref 1]) (fun _ _ => rfl) ?_
  obtain ⟨⟨o1, s2⟩, e3, h⟩ := gb h
  dsimp only at h
  refine gR_cvR (wX10_lawWithKept_s e3) (Nat.le_of_ble_eq_true rfl) rfl rfl rfl rfl rfl ?_
  refine gR_astq (L1 := [some (.ref 1), some (.int x1), some (.int x2), some (.int x3), some (wrv o1)]) rfl rfl rfl ?_
  refine gR_aldq rfl rfl ?_
  rcases gel h with ⟨ek4, hh⟩ | ⟨k4, ek4, hh⟩
  · clear h
    subst ek4
    have h := hh
    clear hh
    refine gR_ifnull_n_j rfl rfl ?_
    refine gR_go 1 (pc1 := 22) (L1 := [some (.ref 1), some (.int x1), some (.int x2), some (.int x3), some (.null)]) (st1 := [.int (-1)]) (fun _ _ => rfl) ?_
    obtain ⟨rfl, rfl⟩ := gi2 h
    exact gR_ri rfl rfl
  · clear h
    subst ek4
    have h := hh
    clear hh
    refine gR_ifnull_r_f rfl ?_
    refine gR_go 2 (pc1 := 15) (L1 := [some (.ref 1), some (.int x1), some (.int x2), some (.int x3), some (.ref (k4 + 1))]) (st1 := [.int 2, .int x3]) (fun _ _ => rfl) ?_
    obtain ⟨t5, e6, h⟩ := gb h
    refine gR_csI (wX10_isOutside_s e6) (Nat.le_of_ble_eq_true rfl) rfl rfl rfl rfl ?_
    rcases gif h with ⟨c7, h⟩ | ⟨c7, h⟩
    · refine gR_iz_eq_j rfl c7 rfl ?_
      refine gR_go 1 (pc1 := 24) (L1 := [some (.ref 1), some (.int x1), some (.int x2), some (.int x3), some (.ref (k4 + 1))]) (st1 := [.int x3]) (fun _ _ => rfl) ?_
      rcases gif h with ⟨c8, h⟩ | ⟨c8, h⟩
      · refine gR_iz_ne_f rfl c8 ?_
        refine gR_go 2 (pc1 := 30) (L1 := [some (.ref 1), some (.int x1), some (.int x2), some (.int x3), some (.ref (k4 + 1))]) (st1 := [.ref (k4 + 1), .ref 1]) (fun _ _ => rfl) ?_
        obtain ⟨t9, e10, h⟩ := gb h
        refine gR_cvI (wX10_usefulPairs_s (wX10_lawWithKept_q e3) e10) (Nat.le_of_ble_eq_true rfl) rfl rfl rfl rfl rfl ?_
        refine gR_go 1 (pc1 := 46) (L1 := [some (.ref 1), some (.int x1), some (.int x2), some (.int x3), some (.ref (k4 + 1))]) (st1 := [.int t9]) (fun _ _ => rfl) ?_
        obtain ⟨rfl, rfl⟩ := gi2 h
        exact gR_ri rfl rfl
      · refine gR_iz_ne_j rfl c8 rfl ?_
        refine gR_go 1 (pc1 := 37) (L1 := [some (.ref 1), some (.int x1), some (.int x2), some (.int x3), some (.ref (k4 + 1))]) (st1 := [.ref 1]) (fun _ _ => rfl) ?_
        refine gR_gfR (k := 0) (k' := 35) rfl rfl rfl rfl ?_
        refine gR_gfI (k := 35) rfl rfl rfl ?_
        obtain ⟨t11, e12, h⟩ := gb h
        refine gR_csI (wX10_lowerBound_s e12) (Nat.le_of_ble_eq_true rfl) rfl rfl rfl rfl ?_
        obtain ⟨rfl, rfl⟩ := gi2 h
        exact gR_ri rfl rfl
    · refine gR_iz_eq_f rfl c7 ?_
      refine gR_go 1 (pc1 := 22) (L1 := [some (.ref 1), some (.int x1), some (.int x2), some (.int x3), some (.ref (k4 + 1))]) (st1 := [.int (-1)]) (fun _ _ => rfl) ?_
      obtain ⟨rfl, rfl⟩ := gi2 h
      exact gR_ri rfl rfl
noncomputable def wX10_next (x1 : Int32) (x2 : Int32) (x3 : Int32) (x4 : Int32) (s : wS) : Option (Int32 × wS) := (wX10_isOutside x3 2 s).bind fun t1 => if t1 = 0 then ((wX10_isOutside x4 5 s).bind fun t4 => if t4 = 0 then ((wX10_lawWithKept x1 x2 s).bind fun (o7, s8) => Option.elim o7 (some ((-1), s8)) (fun k10 => (wX5_best k10 35 x3 s8).bind fun t11 => if t11 = (-1) then (some (((Int8.ofInt (-2)).toInt32), s8)) else ((wX5_leftForFirst k10 35 t11 s8).bind fun t14 => (wX5_leftForSecond k10 35 t11 s8).bind fun t16 => (wX5_told t11 x4 (wmax t14 t16) (wmin t14 t16) s8).bind fun t18 => some (t18, s8)))) else (some ((-1), s))) else (some ((-1), s))
theorem wX10_next_s {x1 : Int32} {x2 : Int32} {x3 : Int32} {x4 : Int32} {s : wS} {rv : Int32} {rs : wS} (h : wX10_next x1 x2 x3 x4 s = some (rv, rs)) : gEv 8 132 [.ref 1, .int x1, .int x2, .int x3, .int x4] (wmk s) (some (.int rv), wmk rs, 0, 0) := by
  refine gEv_of (d := 7) (L := [some (.ref 1), some (.int x1), some (.int x2), some (.int x3), some (.int x4), none, none, none, none]) rfl ?_
  unfold wX10_next at h
  refine gR_go 2 (pc1 := 2) (L1 := [some (.ref 1), some (.int x1), some (.int x2), some (.int x3), some (.int x4), none, none, none, none]) (st1 := [.int 2, .int x3]) (fun _ _ => rfl) ?_
  obtain ⟨t1, e2, h⟩ := gb h
  refine gR_csI (wX10_isOutside_s e2) (Nat.le_of_ble_eq_true rfl) rfl rfl rfl rfl ?_
  rcases gif h with ⟨c3, h⟩ | ⟨c3, h⟩
  · refine gR_iz_ne_f rfl c3 ?_
    refine gR_go 2 (pc1 := 11) (L1 := [some (.ref 1), some (.int x1), some (.int x2), some (.int x3), some (.int x4), none, none, none, none]) (st1 := [.int 5, .int x4]) (fun _ _ => rfl) ?_
    obtain ⟨t4, e5, h⟩ := gb h
    refine gR_csI (wX10_isOutside_s e5) (Nat.le_of_ble_eq_true rfl) rfl rfl rfl rfl ?_
    rcases gif h with ⟨c6, h⟩ | ⟨c6, h⟩
    · refine gR_iz_eq_j rfl c6 rfl ?_
      refine gR_go 3 (pc1 := 22) (L1 := [some (.ref 1), some (.int x1), some (.int x2), some (.int x3), some (.int x4), none, none, none, none]) (st1 := [.int x2, .int x1, .ref 1]) (fun _ _ => rfl) ?_
      obtain ⟨⟨o7, s8⟩, e9, h⟩ := gb h
      dsimp only at h
      refine gR_cvR (wX10_lawWithKept_s e9) (Nat.le_of_ble_eq_true rfl) rfl rfl rfl rfl rfl ?_
      refine gR_astq (L1 := [some (.ref 1), some (.int x1), some (.int x2), some (.int x3), some (.int x4), some (wrv o7), none, none, none]) rfl rfl rfl ?_
      refine gR_aldq rfl rfl ?_
      rcases gel h with ⟨ek10, hh⟩ | ⟨k10, ek10, hh⟩
      · clear h
        subst ek10
        have h := hh
        clear hh
        refine gR_ifnonnull_n_f rfl ?_
        refine gR_go 1 (pc1 := 33) (L1 := [some (.ref 1), some (.int x1), some (.int x2), some (.int x3), some (.int x4), some (.null), none, none, none]) (st1 := [.int (-1)]) (fun _ _ => rfl) ?_
        obtain ⟨rfl, rfl⟩ := gi2 h
        exact gR_ri rfl rfl
      · clear h
        subst ek10
        have h := hh
        clear hh
        refine gR_ifnonnull_r_j rfl rfl ?_
        refine gR_go 1 (pc1 := 35) (L1 := [some (.ref 1), some (.int x1), some (.int x2), some (.int x3), some (.int x4), some (.ref (k10 + 1)), none, none, none]) (st1 := [.ref 1]) (fun _ _ => rfl) ?_
        refine gR_gfR (k := 0) (k' := 28) rfl rfl rfl rfl ?_
        refine gR_go 2 (pc1 := 41) (L1 := [some (.ref 1), some (.int x1), some (.int x2), some (.int x3), some (.int x4), some (.ref (k10 + 1)), none, none, none]) (st1 := [.ref 1, .ref (k10 + 1), .ref 29]) (fun _ _ => rfl) ?_
        refine gR_gfR (k := 0) (k' := 35) rfl rfl rfl rfl ?_
        refine gR_go 1 (pc1 := 45) (L1 := [some (.ref 1), some (.int x1), some (.int x2), some (.int x3), some (.int x4), some (.ref (k10 + 1)), none, none, none]) (st1 := [.int x3, .ref 36, .ref (k10 + 1), .ref 29]) (fun _ _ => rfl) ?_
        obtain ⟨t11, e12, h⟩ := gb h
        refine gR_cvI (wX5_best_s (wX10_lawWithKept_q e9) rfl e12) (Nat.le_of_ble_eq_true rfl) rfl rfl rfl rfl rfl ?_
        refine gR_go 3 (pc1 := 53) (L1 := [some (.ref 1), some (.int x1), some (.int x2), some (.int x3), some (.int x4), some (.ref (k10 + 1)), some (.int t11), none, none]) (st1 := [.int (-1), .int t11]) (fun _ _ => rfl) ?_
        rcases gif h with ⟨c13, h⟩ | ⟨c13, h⟩
        · refine gR_ic_ne_f rfl c13 ?_
          refine gR_go 1 (pc1 := 58) (L1 := [some (.ref 1), some (.int x1), some (.int x2), some (.int x3), some (.int x4), some (.ref (k10 + 1)), some (.int t11), none, none]) (st1 := [.int ((Int8.ofInt (-2)).toInt32)]) (fun _ _ => rfl) ?_
          obtain ⟨rfl, rfl⟩ := gi2 h
          exact gR_ri rfl rfl
        · refine gR_ic_ne_j rfl c13 rfl ?_
          refine gR_go 1 (pc1 := 60) (L1 := [some (.ref 1), some (.int x1), some (.int x2), some (.int x3), some (.int x4), some (.ref (k10 + 1)), some (.int t11), none, none]) (st1 := [.ref 1]) (fun _ _ => rfl) ?_
          refine gR_gfR (k := 0) (k' := 28) rfl rfl rfl rfl ?_
          refine gR_go 2 (pc1 := 66) (L1 := [some (.ref 1), some (.int x1), some (.int x2), some (.int x3), some (.int x4), some (.ref (k10 + 1)), some (.int t11), none, none]) (st1 := [.ref 1, .ref (k10 + 1), .ref 29]) (fun _ _ => rfl) ?_
          refine gR_gfR (k := 0) (k' := 35) rfl rfl rfl rfl ?_
          refine gR_go 1 (pc1 := 71) (L1 := [some (.ref 1), some (.int x1), some (.int x2), some (.int x3), some (.int x4), some (.ref (k10 + 1)), some (.int t11), none, none]) (st1 := [.int t11, .ref 36, .ref (k10 + 1), .ref 29]) (fun _ _ => rfl) ?_
          obtain ⟨t14, e15, h⟩ := gb h
          refine gR_cvI (wX5_leftForFirst_s (wX10_lawWithKept_q e9) rfl e15) (Nat.le_of_ble_eq_true rfl) rfl rfl rfl rfl rfl ?_
          refine gR_go 2 (pc1 := 77) (L1 := [some (.ref 1), some (.int x1), some (.int x2), some (.int x3), some (.int x4), some (.ref (k10 + 1)), some (.int t11), some (.int t14), none]) (st1 := [.ref 1]) (fun _ _ => rfl) ?_
          refine gR_gfR (k := 0) (k' := 28) rfl rfl rfl rfl ?_
          refine gR_go 2 (pc1 := 83) (L1 := [some (.ref 1), some (.int x1), some (.int x2), some (.int x3), some (.int x4), some (.ref (k10 + 1)), some (.int t11), some (.int t14), none]) (st1 := [.ref 1, .ref (k10 + 1), .ref 29]) (fun _ _ => rfl) ?_
          refine gR_gfR (k := 0) (k' := 35) rfl rfl rfl rfl ?_
          refine gR_go 1 (pc1 := 88) (L1 := [some (.ref 1), some (.int x1), some (.int x2), some (.int x3), some (.int x4), some (.ref (k10 + 1)), some (.int t11), some (.int t14), none]) (st1 := [.int t11, .ref 36, .ref (k10 + 1), .ref 29]) (fun _ _ => rfl) ?_
          obtain ⟨t16, e17, h⟩ := gb h
          refine gR_cvI (wX5_leftForSecond_s (wX10_lawWithKept_q e9) rfl e17) (Nat.le_of_ble_eq_true rfl) rfl rfl rfl rfl rfl ?_
          refine gR_go 2 (pc1 := 94) (L1 := [some (.ref 1), some (.int x1), some (.int x2), some (.int x3), some (.int x4), some (.ref (k10 + 1)), some (.int t11), some (.int t14), some (.int t16)]) (st1 := [.ref 1]) (fun _ _ => rfl) ?_
          refine gR_gfR (k := 0) (k' := 28) rfl rfl rfl rfl ?_
          refine gR_go 4 (pc1 := 105) (L1 := [some (.ref 1), some (.int x1), some (.int x2), some (.int x3), some (.int x4), some (.ref (k10 + 1)), some (.int t11), some (.int t14), some (.int t16)]) (st1 := [.int t16, .int t14, .int x4, .int t11, .ref 29]) (fun _ _ => rfl) ?_
          refine gR_max rfl rfl rfl ?_
          refine gR_go 2 (pc1 := 112) (L1 := [some (.ref 1), some (.int x1), some (.int x2), some (.int x3), some (.int x4), some (.ref (k10 + 1)), some (.int t11), some (.int t14), some (.int t16)]) (st1 := [.int t16, .int t14, .int (wmax t14 t16), .int x4, .int t11, .ref 29]) (fun _ _ => rfl) ?_
          refine gR_min rfl rfl rfl ?_
          obtain ⟨t18, e19, h⟩ := gb h
          refine gR_cvI (wX5_told_s e19) (Nat.le_of_ble_eq_true rfl) rfl rfl rfl rfl rfl ?_
          obtain ⟨rfl, rfl⟩ := gi2 h
          exact gR_ri rfl rfl
    · refine gR_iz_eq_f rfl c6 ?_
      refine gR_go 1 (pc1 := 18) (L1 := [some (.ref 1), some (.int x1), some (.int x2), some (.int x3), some (.int x4), none, none, none, none]) (st1 := [.int (-1)]) (fun _ _ => rfl) ?_
      obtain ⟨rfl, rfl⟩ := gi2 h
      exact gR_ri rfl rfl
  · refine gR_iz_ne_j rfl c3 rfl ?_
    refine gR_go 1 (pc1 := 18) (L1 := [some (.ref 1), some (.int x1), some (.int x2), some (.int x3), some (.int x4), none, none, none, none]) (st1 := [.int (-1)]) (fun _ _ => rfl) ?_
    obtain ⟨rfl, rfl⟩ := gi2 h
    exact gR_ri rfl rfl
noncomputable def wX10_needed_j106 (qq : Int32 → wS → Option (wS)) (x2 : Int32) (k3 : Nat) (x4 : Int32) (s : wS) : Option (wS) := qq (x4 + 1) s
theorem wX10_needed_u106 {x2 : Int32} {k3 : Nat} {x4 : Int32} {s : wS} {w1 : Int32} {qq : Int32 → wS → Option (wS)} {x : wS} {r : ri_R} (ih : ∀ {x4 : Int32} {s : wS} {w1 : Int32} , qq x4 s = some x → gRun 7 133 57 [some (.ref 1), some (.int w1), some (.int x2), some (.ref (k3 + 1)), some (.int x4)] [] (wmk s) r) (he112 : ∀ (s : wS) (w1 : Int32) (w2 : Int32) (w3 : Nat) (w4 : Int32) , x = s → gRun 7 133 112 [some (.ref 1), some (.int w1), some (.int w2), some (.ref (w3 + 1)), some (.int w4)] [] (wmk s) r) (hk3 : wkd k3 = 3) (h : wX10_needed_j106 qq x2 k3 x4 s = some x) : gRun 7 133 106 [some (.ref 1), some (.int w1), some (.int x2), some (.ref (k3 + 1)), some (.int x4)] [] (wmk s) r := by
  unfold wX10_needed_j106 at h
  refine gR_go 2 (pc1 := 57) (L1 := [some (.ref 1), some (.int w1), some (.int x2), some (.ref (k3 + 1)), some (.int (x4 + 1))]) (st1 := []) (fun _ _ => rfl) ?_
  exact ih h
noncomputable def wX10_needed_h57 (x2 : Int32) (k3 : Nat) : Nat → Int32 → wS → Option (wS)
  | 0, _, _ => none
  | n + 1, x4, s => (wX0_worlds 15 s).bind fun t10 => if x4 < t10 then ((wX10_at 33 x4 s).bind fun t13 => if x2 < t13 then (wX10_needed_j106 (wX10_needed_h57 x2 k3 n) x2 k3 x4 s) else ((wX6_add x4 k3 15 s).bind fun s17 => wX10_needed_j106 (wX10_needed_h57 x2 k3 n) x2 k3 x4 s17)) else (some s)
theorem wX10_needed_t57 {x2 : Int32} {k3 : Nat} {x : wS} {r : ri_R} (hk3 : wkd k3 = 3) (he112 : ∀ (s : wS) (w1 : Int32) (w2 : Int32) (w3 : Nat) (w4 : Int32) , x = s → gRun 7 133 112 [some (.ref 1), some (.int w1), some (.int w2), some (.ref (w3 + 1)), some (.int w4)] [] (wmk s) r) : ∀ {n : Nat} {x4 : Int32} {s : wS} {w1 : Int32} , wX10_needed_h57 x2 k3 n x4 s = some x → gRun 7 133 57 [some (.ref 1), some (.int w1), some (.int x2), some (.ref (k3 + 1)), some (.int x4)] [] (wmk s) r := by
  intro n
  induction n with
  | zero => intro x4 s w1 h; cases (show (none : Option (wS)) = some x from h)
  | succ n ih =>
    intro x4 s w1 h
    rw [wX10_needed_h57] at h
    refine gR_go 2 (pc1 := 60) (L1 := [some (.ref 1), some (.int w1), some (.int x2), some (.ref (k3 + 1)), some (.int x4)]) (st1 := [.ref 1, .int x4]) (fun _ _ => rfl) ?_
    refine gR_gfR (k := 0) (k' := 14) rfl rfl rfl rfl ?_
    refine gR_gfR (k := 14) (k' := 15) rfl rfl rfl rfl ?_
    obtain ⟨t10, e11, h⟩ := gb h
    refine gR_cvI (wX0_worlds_s rfl e11) (Nat.le_of_ble_eq_true rfl) rfl rfl rfl rfl rfl ?_
    rcases gif h with ⟨c12, h⟩ | ⟨c12, h⟩
    · refine gR_ic_ge_f rfl c12 ?_
      refine gR_go 1 (pc1 := 73) (L1 := [some (.ref 1), some (.int w1), some (.int x2), some (.ref (k3 + 1)), some (.int x4)]) (st1 := [.ref 1]) (fun _ _ => rfl) ?_
      refine gR_gfR (k := 0) (k' := 33) rfl rfl rfl rfl ?_
      refine gR_go 1 (pc1 := 78) (L1 := [some (.ref 1), some (.int w1), some (.int x2), some (.ref (k3 + 1)), some (.int x4)]) (st1 := [.int x4, .ref 34]) (fun _ _ => rfl) ?_
      obtain ⟨t13, e14, h⟩ := gb h
      refine gR_csI (wX10_at_s rfl e14) (Nat.le_of_ble_eq_true rfl) rfl rfl rfl rfl ?_
      refine gR_go 1 (pc1 := 82) (L1 := [some (.ref 1), some (.int w1), some (.int x2), some (.ref (k3 + 1)), some (.int x4)]) (st1 := [.int x2, .int t13]) (fun _ _ => rfl) ?_
      rcases gif h with ⟨c15, h⟩ | ⟨c15, h⟩
      · refine gR_ic_gt_j rfl c15 rfl ?_
        exact wX10_needed_u106 ih he112 hk3 h
      · refine gR_ic_gt_f rfl c15 ?_
        refine gR_go 1 (pc1 := 86) (L1 := [some (.ref 1), some (.int w1), some (.int x2), some (.ref (k3 + 1)), some (.int x4)]) (st1 := [.ref 1]) (fun _ _ => rfl) ?_
        refine gR_gfR (k := 0) (k' := 40) rfl rfl rfl rfl ?_
        refine gR_go 3 (pc1 := 93) (L1 := [some (.ref 1), some (.int w1), some (.int x2), some (.ref (k3 + 1)), some (.int x4)]) (st1 := [.ref 1, .ref (k3 + 1), .int x4, .ref 41]) (fun _ _ => rfl) ?_
        refine gR_gfR (k := 0) (k' := 14) rfl rfl rfl rfl ?_
        refine gR_gfR (k := 14) (k' := 15) rfl rfl rfl rfl ?_
        refine gR_go 1 (pc1 := 100) (L1 := [some (.ref 1), some (.int w1), some (.int x2), some (.ref (k3 + 1)), some (.int x4)]) (st1 := [.ref 1, .ref 16, .ref (k3 + 1), .int x4, .ref 41]) (fun _ _ => rfl) ?_
        refine gR_gfR (k := 0) (k' := 28) rfl rfl rfl rfl ?_
        obtain ⟨s17, e18, h⟩ := gb h
        refine gR_cvV (wX6_add_s hk3 rfl e18) (Nat.le_of_ble_eq_true rfl) rfl rfl rfl rfl rfl ?_
        exact wX10_needed_u106 ih he112 hk3 h
    · refine gR_ic_ge_j rfl c12 rfl ?_
      exact he112 _ _ _ _ _ (Option.some.inj h).symm
noncomputable def wX10_needed (x1 : Int32) (x2 : Int32) (s : wS) : Option (Int32 × wS) := (wX10_lawWithKept x1 x2 s).bind fun (o1, s2) => Option.elim o1 (some ((-1), s2)) (fun k4 => if 64 < (s2.1 35 1) then (some ((-1), s2)) else (if 8 < (s2.1 35 1) then (some (((Int8.ofInt (-2)).toInt32), s2)) else ((wX6_clear (s2.1 28 3) s2).bind fun s8 => (wX10_needed_h57 x2 k4 wFuel 0 s8).bind fun s20 => (wX6_pairsForAll s20).bind fun (t25, s26) => if 3 < t25 then (some (((Int8.ofInt (-2)).toInt32), s26)) else (some (t25, s26)))))
theorem wX10_needed_s {x1 : Int32} {x2 : Int32} {s : wS} {rv : Int32} {rs : wS} (h : wX10_needed x1 x2 s = some (rv, rs)) : gEv 8 133 [.ref 1, .int x1, .int x2] (wmk s) (some (.int rv), wmk rs, 0, 0) := by
  refine gEv_of (d := 7) (L := [some (.ref 1), some (.int x1), some (.int x2), none, none]) rfl ?_
  unfold wX10_needed at h
  refine gR_go 3 (pc1 := 3) (L1 := [some (.ref 1), some (.int x1), some (.int x2), none, none]) (st1 := [.int x2, .int x1, .ref 1]) (fun _ _ => rfl) ?_
  obtain ⟨⟨o1, s2⟩, e3, h⟩ := gb h
  dsimp only at h
  refine gR_cvR (wX10_lawWithKept_s e3) (Nat.le_of_ble_eq_true rfl) rfl rfl rfl rfl rfl ?_
  refine gR_astn (L1 := [some (.ref 1), some (.int x1), some (.int x2), some (wrv o1), none]) rfl rfl rfl ?_
  refine gR_aldn rfl rfl ?_
  rcases gel h with ⟨ek4, hh⟩ | ⟨k4, ek4, hh⟩
  · clear h
    subst ek4
    have h := hh
    clear hh
    refine gR_ifnull_n_j rfl rfl ?_
    refine gR_go 1 (pc1 := 24) (L1 := [some (.ref 1), some (.int x1), some (.int x2), some (.null), none]) (st1 := [.int (-1)]) (fun _ _ => rfl) ?_
    obtain ⟨rfl, rfl⟩ := gi2 h
    exact gR_ri rfl rfl
  · clear h
    subst ek4
    have h := hh
    clear hh
    refine gR_ifnull_r_f rfl ?_
    refine gR_go 1 (pc1 := 12) (L1 := [some (.ref 1), some (.int x1), some (.int x2), some (.ref (k4 + 1)), none]) (st1 := [.ref 1]) (fun _ _ => rfl) ?_
    refine gR_gfR (k := 0) (k' := 35) rfl rfl rfl rfl ?_
    refine gR_gfI (k := 35) rfl rfl rfl ?_
    refine gR_go 1 (pc1 := 20) (L1 := [some (.ref 1), some (.int x1), some (.int x2), some (.ref (k4 + 1)), none]) (st1 := [.int 64, .int (s2.1 35 1)]) (fun _ _ => rfl) ?_
    rcases gif h with ⟨c5, h⟩ | ⟨c5, h⟩
    · refine gR_ic_le_f rfl c5 ?_
      refine gR_go 1 (pc1 := 24) (L1 := [some (.ref 1), some (.int x1), some (.int x2), some (.ref (k4 + 1)), none]) (st1 := [.int (-1)]) (fun _ _ => rfl) ?_
      obtain ⟨rfl, rfl⟩ := gi2 h
      exact gR_ri rfl rfl
    · refine gR_ic_le_j rfl c5 rfl ?_
      refine gR_go 1 (pc1 := 26) (L1 := [some (.ref 1), some (.int x1), some (.int x2), some (.ref (k4 + 1)), none]) (st1 := [.ref 1]) (fun _ _ => rfl) ?_
      refine gR_gfR (k := 0) (k' := 35) rfl rfl rfl rfl ?_
      refine gR_gfI (k := 35) rfl rfl rfl ?_
      refine gR_go 1 (pc1 := 34) (L1 := [some (.ref 1), some (.int x1), some (.int x2), some (.ref (k4 + 1)), none]) (st1 := [.int 8, .int (s2.1 35 1)]) (fun _ _ => rfl) ?_
      rcases gif h with ⟨c6, h⟩ | ⟨c6, h⟩
      · refine gR_ic_le_f rfl c6 ?_
        refine gR_go 1 (pc1 := 39) (L1 := [some (.ref 1), some (.int x1), some (.int x2), some (.ref (k4 + 1)), none]) (st1 := [.int ((Int8.ofInt (-2)).toInt32)]) (fun _ _ => rfl) ?_
        obtain ⟨rfl, rfl⟩ := gi2 h
        exact gR_ri rfl rfl
      · refine gR_ic_le_j rfl c6 rfl ?_
        refine gR_go 1 (pc1 := 41) (L1 := [some (.ref 1), some (.int x1), some (.int x2), some (.ref (k4 + 1)), none]) (st1 := [.ref 1]) (fun _ _ => rfl) ?_
        refine gR_gfR (k := 0) (k' := 40) rfl rfl rfl rfl ?_
        refine gR_go 1 (pc1 := 45) (L1 := [some (.ref 1), some (.int x1), some (.int x2), some (.ref (k4 + 1)), none]) (st1 := [.ref 1, .ref 41]) (fun _ _ => rfl) ?_
        refine gR_gfR (k := 0) (k' := 28) rfl rfl rfl rfl ?_
        refine gR_gfI (k := 28) rfl rfl rfl ?_
        obtain ⟨s8, e9, h⟩ := gb h
        refine gR_cvV (wX6_clear_s e9) (Nat.le_of_ble_eq_true rfl) rfl rfl rfl rfl rfl ?_
        refine gR_go 2 (pc1 := 57) (L1 := [some (.ref 1), some (.int x1), some (.int x2), some (.ref (k4 + 1)), some (.int 0)]) (st1 := []) (fun _ _ => rfl) ?_
        obtain ⟨z19, ez19, h⟩ := gb h
        refine wX10_needed_t57 (wX10_lawWithKept_q e3) ?_  ez19
        · intro s20 w21 w22 w23 w24 hz
          replace hz := hz.symm
          subst hz
          refine gR_go 1 (pc1 := 113) (L1 := [some (.ref 1), some (.int w21), some (.int w22), some (.ref (w23 + 1)), some (.int w24)]) (st1 := [.ref 1]) (fun _ _ => rfl) ?_
          refine gR_gfR (k := 0) (k' := 40) rfl rfl rfl rfl ?_
          obtain ⟨⟨t25, s26⟩, e27, h⟩ := gb h
          dsimp only at h
          refine gR_cvI (wX6_pairsForAll_s e27) (Nat.le_of_ble_eq_true rfl) rfl rfl rfl rfl rfl ?_
          refine gR_go 3 (pc1 := 124) (L1 := [some (.ref 1), some (.int w21), some (.int w22), some (.ref (w23 + 1)), some (.int t25)]) (st1 := [.int 3, .int t25]) (fun _ _ => rfl) ?_
          rcases gif h with ⟨c28, h⟩ | ⟨c28, h⟩
          · refine gR_ic_le_f rfl c28 ?_
            refine gR_go 2 (pc1 := 134) (L1 := [some (.ref 1), some (.int w21), some (.int w22), some (.ref (w23 + 1)), some (.int t25)]) (st1 := [.int ((Int8.ofInt (-2)).toInt32)]) (fun _ _ => rfl) ?_
            obtain ⟨rfl, rfl⟩ := gi2 h
            exact gR_ri rfl rfl
          · refine gR_ic_le_j rfl c28 rfl ?_
            refine gR_go 1 (pc1 := 134) (L1 := [some (.ref 1), some (.int w21), some (.int w22), some (.ref (w23 + 1)), some (.int t25)]) (st1 := [.int t25]) (fun _ _ => rfl) ?_
            obtain ⟨rfl, rfl⟩ := gi2 h
            exact gR_ri rfl rfl
noncomputable def wX10_steered_j178 (qq : Int32 → Int32 → Int32 → Int32 → Option (Int32 × Int32 × Int32)) (x3 : Int32) (x5 : Int32) (k6 : Nat) (x7 : Int32) (x8 : Int32) (x9 : Int32) (x10 : Int32) (s : wS) : Option (Int32 × Int32 × Int32) := qq x7 x8 x9 (x10 + 1)
theorem wX10_steered_u178 {x3 : Int32} {x5 : Int32} {k6 : Nat} {x7 : Int32} {x8 : Int32} {x9 : Int32} {x10 : Int32} {s : wS} {w1 : Int32} {w2 : Int32} {w4 : Int32} {w11 : Int32} {w12 : Int32} {qq : Int32 → Int32 → Int32 → Int32 → Option (Int32 × Int32 × Int32)} {x : Int32 × Int32 × Int32} {r : ri_R} (ih : ∀ {x7 : Int32} {x8 : Int32} {x9 : Int32} {x10 : Int32} {w1 : Int32} {w2 : Int32} {w4 : Int32} {w11 : Option Value} {w12 : Option Value} , qq x7 x8 x9 x10 = some x → gRun 7 134 80 [some (.ref 1), some (.int w1), some (.int w2), some (.int x3), some (.int w4), some (.int x5), some (.ref (k6 + 1)), some (.int x7), some (.int x8), some (.int x9), some (.int x10), w11, w12] [] (wmk s) r) (he184 : ∀ (x7 : Int32) (x8 : Int32) (x9 : Int32) (w1 : Int32) (w2 : Int32) (w3 : Int32) (w4 : Int32) (w6 : Nat) (w10 : Int32) (w11 : Option Value) (w12 : Option Value) , x = (x7, x8, x9) → gRun 7 134 184 [some (.ref 1), some (.int w1), some (.int w2), some (.int w3), some (.int w4), some (.int x5), some (.ref (w6 + 1)), some (.int x7), some (.int x8), some (.int x9), some (.int w10), w11, w12] [] (wmk s) r) (hk6 : wkd k6 = 3) (h : wX10_steered_j178 qq x3 x5 k6 x7 x8 x9 x10 s = some x) : gRun 7 134 178 [some (.ref 1), some (.int w1), some (.int w2), some (.int x3), some (.int w4), some (.int x5), some (.ref (k6 + 1)), some (.int x7), some (.int x8), some (.int x9), some (.int x10), some (.int w11), some (.int w12)] [] (wmk s) r := by
  unfold wX10_steered_j178 at h
  refine gR_go 2 (pc1 := 80) (L1 := [some (.ref 1), some (.int w1), some (.int w2), some (.int x3), some (.int w4), some (.int x5), some (.ref (k6 + 1)), some (.int x7), some (.int x8), some (.int x9), some (.int (x10 + 1)), some (.int w11), some (.int w12)]) (st1 := []) (fun _ _ => rfl) ?_
  exact ih h
noncomputable def wX10_steered_j166 (qq : Int32 → Int32 → Int32 → Int32 → Option (Int32 × Int32 × Int32)) (x3 : Int32) (x5 : Int32) (k6 : Nat) (x10 : Int32) (x11 : Int32) (x12 : Int32) (s : wS) : Option (Int32 × Int32 × Int32) := wX10_steered_j178 qq x3 x5 k6 x10 x12 x11 x10 s
theorem wX10_steered_u166 {x3 : Int32} {x5 : Int32} {k6 : Nat} {x10 : Int32} {x11 : Int32} {x12 : Int32} {s : wS} {w1 : Int32} {w2 : Int32} {w4 : Int32} {w7 : Int32} {w8 : Int32} {w9 : Int32} {qq : Int32 → Int32 → Int32 → Int32 → Option (Int32 × Int32 × Int32)} {x : Int32 × Int32 × Int32} {r : ri_R} (ih : ∀ {x7 : Int32} {x8 : Int32} {x9 : Int32} {x10 : Int32} {w1 : Int32} {w2 : Int32} {w4 : Int32} {w11 : Option Value} {w12 : Option Value} , qq x7 x8 x9 x10 = some x → gRun 7 134 80 [some (.ref 1), some (.int w1), some (.int w2), some (.int x3), some (.int w4), some (.int x5), some (.ref (k6 + 1)), some (.int x7), some (.int x8), some (.int x9), some (.int x10), w11, w12] [] (wmk s) r) (he184 : ∀ (x7 : Int32) (x8 : Int32) (x9 : Int32) (w1 : Int32) (w2 : Int32) (w3 : Int32) (w4 : Int32) (w6 : Nat) (w10 : Int32) (w11 : Option Value) (w12 : Option Value) , x = (x7, x8, x9) → gRun 7 134 184 [some (.ref 1), some (.int w1), some (.int w2), some (.int w3), some (.int w4), some (.int x5), some (.ref (w6 + 1)), some (.int x7), some (.int x8), some (.int x9), some (.int w10), w11, w12] [] (wmk s) r) (hk6 : wkd k6 = 3) (h : wX10_steered_j166 qq x3 x5 k6 x10 x11 x12 s = some x) : gRun 7 134 166 [some (.ref 1), some (.int w1), some (.int w2), some (.int x3), some (.int w4), some (.int x5), some (.ref (k6 + 1)), some (.int w7), some (.int w8), some (.int w9), some (.int x10), some (.int x11), some (.int x12)] [] (wmk s) r := by
  unfold wX10_steered_j166 at h
  refine gR_go 6 (pc1 := 178) (L1 := [some (.ref 1), some (.int w1), some (.int w2), some (.int x3), some (.int w4), some (.int x5), some (.ref (k6 + 1)), some (.int x10), some (.int x12), some (.int x11), some (.int x10), some (.int x11), some (.int x12)]) (st1 := []) (fun _ _ => rfl) ?_
  exact wX10_steered_u178 ih he184 hk6 h
noncomputable def wX10_steered_h80 (x3 : Int32) (x5 : Int32) (k6 : Nat) (s : wS) : Nat → Int32 → Int32 → Int32 → Int32 → Option (Int32 × Int32 × Int32)
  | 0, _, _, _, _ => none
  | n + 1, x7, x8, x9, x10 => if x10 < (s.1 28 3) then ((wX5_leftAsIn k6 35 x10 15 x3 s).bind fun t20 => (wX5_leftAsIn k6 37 x10 15 x3 s).bind fun t22 => if 0 < t20 then (if x7 = (-1) then (wX10_steered_j166 (wX10_steered_h80 x3 x5 k6 s n) x3 x5 k6 x10 t20 t22 s) else (if (x8 * t20) < (t22 * x9) then (wX10_steered_j166 (wX10_steered_h80 x3 x5 k6 s n) x3 x5 k6 x10 t20 t22 s) else (wX10_steered_j178 (wX10_steered_h80 x3 x5 k6 s n) x3 x5 k6 x7 x8 x9 x10 s))) else (wX10_steered_j178 (wX10_steered_h80 x3 x5 k6 s n) x3 x5 k6 x7 x8 x9 x10 s)) else (some (x7, x8, x9))
theorem wX10_steered_t80 {x3 : Int32} {x5 : Int32} {k6 : Nat} {s : wS} {x : Int32 × Int32 × Int32} {r : ri_R} (hk6 : wkd k6 = 3) (he184 : ∀ (x7 : Int32) (x8 : Int32) (x9 : Int32) (w1 : Int32) (w2 : Int32) (w3 : Int32) (w4 : Int32) (w6 : Nat) (w10 : Int32) (w11 : Option Value) (w12 : Option Value) , x = (x7, x8, x9) → gRun 7 134 184 [some (.ref 1), some (.int w1), some (.int w2), some (.int w3), some (.int w4), some (.int x5), some (.ref (w6 + 1)), some (.int x7), some (.int x8), some (.int x9), some (.int w10), w11, w12] [] (wmk s) r) : ∀ {n : Nat} {x7 : Int32} {x8 : Int32} {x9 : Int32} {x10 : Int32} {w1 : Int32} {w2 : Int32} {w4 : Int32} {w11 : Option Value} {w12 : Option Value} , wX10_steered_h80 x3 x5 k6 s n x7 x8 x9 x10 = some x → gRun 7 134 80 [some (.ref 1), some (.int w1), some (.int w2), some (.int x3), some (.int w4), some (.int x5), some (.ref (k6 + 1)), some (.int x7), some (.int x8), some (.int x9), some (.int x10), w11, w12] [] (wmk s) r := by
  intro n
  induction n with
  | zero => intro x7 x8 x9 x10 w1 w2 w4 w11 w12 h; cases (show (none : Option (Int32 × Int32 × Int32)) = some x from h)
  | succ n ih =>
    intro x7 x8 x9 x10 w1 w2 w4 w11 w12 h
    rw [wX10_steered_h80] at h
    refine gR_go 2 (pc1 := 83) (L1 := [some (.ref 1), some (.int w1), some (.int w2), some (.int x3), some (.int w4), some (.int x5), some (.ref (k6 + 1)), some (.int x7), some (.int x8), some (.int x9), some (.int x10), w11, w12]) (st1 := [.ref 1, .int x10]) (fun _ _ => rfl) ?_
    refine gR_gfR (k := 0) (k' := 28) rfl rfl rfl rfl ?_
    refine gR_gfI (k := 28) rfl rfl rfl ?_
    rcases gif h with ⟨c19, h⟩ | ⟨c19, h⟩
    · refine gR_ic_ge_f rfl c19 ?_
      refine gR_go 1 (pc1 := 93) (L1 := [some (.ref 1), some (.int w1), some (.int w2), some (.int x3), some (.int w4), some (.int x5), some (.ref (k6 + 1)), some (.int x7), some (.int x8), some (.int x9), some (.int x10), w11, w12]) (st1 := [.ref 1]) (fun _ _ => rfl) ?_
      refine gR_gfR (k := 0) (k' := 28) rfl rfl rfl rfl ?_
      refine gR_go 2 (pc1 := 99) (L1 := [some (.ref 1), some (.int w1), some (.int w2), some (.int x3), some (.int w4), some (.int x5), some (.ref (k6 + 1)), some (.int x7), some (.int x8), some (.int x9), some (.int x10), w11, w12]) (st1 := [.ref 1, .ref (k6 + 1), .ref 29]) (fun _ _ => rfl) ?_
      refine gR_gfR (k := 0) (k' := 35) rfl rfl rfl rfl ?_
      refine gR_go 2 (pc1 := 105) (L1 := [some (.ref 1), some (.int w1), some (.int w2), some (.int x3), some (.int w4), some (.int x5), some (.ref (k6 + 1)), some (.int x7), some (.int x8), some (.int x9), some (.int x10), w11, w12]) (st1 := [.ref 1, .int x10, .ref 36, .ref (k6 + 1), .ref 29]) (fun _ _ => rfl) ?_
      refine gR_gfR (k := 0) (k' := 14) rfl rfl rfl rfl ?_
      refine gR_gfR (k := 14) (k' := 15) rfl rfl rfl rfl ?_
      refine gR_go 1 (pc1 := 112) (L1 := [some (.ref 1), some (.int w1), some (.int w2), some (.int x3), some (.int w4), some (.int x5), some (.ref (k6 + 1)), some (.int x7), some (.int x8), some (.int x9), some (.int x10), w11, w12]) (st1 := [.int x3, .ref 16, .int x10, .ref 36, .ref (k6 + 1), .ref 29]) (fun _ _ => rfl) ?_
      obtain ⟨t20, e21, h⟩ := gb h
      refine gR_cvI (wX5_leftAsIn_s hk6 rfl rfl e21) (Nat.le_of_ble_eq_true rfl) rfl rfl rfl rfl rfl ?_
      refine gR_go 2 (pc1 := 118) (L1 := [some (.ref 1), some (.int w1), some (.int w2), some (.int x3), some (.int w4), some (.int x5), some (.ref (k6 + 1)), some (.int x7), some (.int x8), some (.int x9), some (.int x10), some (.int t20), w12]) (st1 := [.ref 1]) (fun _ _ => rfl) ?_
      refine gR_gfR (k := 0) (k' := 28) rfl rfl rfl rfl ?_
      refine gR_go 2 (pc1 := 124) (L1 := [some (.ref 1), some (.int w1), some (.int w2), some (.int x3), some (.int w4), some (.int x5), some (.ref (k6 + 1)), some (.int x7), some (.int x8), some (.int x9), some (.int x10), some (.int t20), w12]) (st1 := [.ref 1, .ref (k6 + 1), .ref 29]) (fun _ _ => rfl) ?_
      refine gR_gfR (k := 0) (k' := 37) rfl rfl rfl rfl ?_
      refine gR_go 2 (pc1 := 130) (L1 := [some (.ref 1), some (.int w1), some (.int w2), some (.int x3), some (.int w4), some (.int x5), some (.ref (k6 + 1)), some (.int x7), some (.int x8), some (.int x9), some (.int x10), some (.int t20), w12]) (st1 := [.ref 1, .int x10, .ref 38, .ref (k6 + 1), .ref 29]) (fun _ _ => rfl) ?_
      refine gR_gfR (k := 0) (k' := 14) rfl rfl rfl rfl ?_
      refine gR_gfR (k := 14) (k' := 15) rfl rfl rfl rfl ?_
      refine gR_go 1 (pc1 := 137) (L1 := [some (.ref 1), some (.int w1), some (.int w2), some (.int x3), some (.int w4), some (.int x5), some (.ref (k6 + 1)), some (.int x7), some (.int x8), some (.int x9), some (.int x10), some (.int t20), w12]) (st1 := [.int x3, .ref 16, .int x10, .ref 38, .ref (k6 + 1), .ref 29]) (fun _ _ => rfl) ?_
      obtain ⟨t22, e23, h⟩ := gb h
      refine gR_cvI (wX5_leftAsIn_s hk6 rfl rfl e23) (Nat.le_of_ble_eq_true rfl) rfl rfl rfl rfl rfl ?_
      refine gR_go 2 (pc1 := 144) (L1 := [some (.ref 1), some (.int w1), some (.int w2), some (.int x3), some (.int w4), some (.int x5), some (.ref (k6 + 1)), some (.int x7), some (.int x8), some (.int x9), some (.int x10), some (.int t20), some (.int t22)]) (st1 := [.int t20]) (fun _ _ => rfl) ?_
      rcases gif h with ⟨c24, h⟩ | ⟨c24, h⟩
      · refine gR_iz_le_f rfl c24 ?_
        refine gR_go 2 (pc1 := 150) (L1 := [some (.ref 1), some (.int w1), some (.int w2), some (.int x3), some (.int w4), some (.int x5), some (.ref (k6 + 1)), some (.int x7), some (.int x8), some (.int x9), some (.int x10), some (.int t20), some (.int t22)]) (st1 := [.int (-1), .int x7]) (fun _ _ => rfl) ?_
        rcases gif h with ⟨c25, h⟩ | ⟨c25, h⟩
        · refine gR_ic_eq_j rfl c25 rfl ?_
          exact wX10_steered_u166 ih he184 hk6 h
        · refine gR_ic_eq_f rfl c25 ?_
          refine gR_go 6 (pc1 := 163) (L1 := [some (.ref 1), some (.int w1), some (.int w2), some (.int x3), some (.int w4), some (.int x5), some (.ref (k6 + 1)), some (.int x7), some (.int x8), some (.int x9), some (.int x10), some (.int t20), some (.int t22)]) (st1 := [.int (x8 * t20), .int (t22 * x9)]) (fun _ _ => rfl) ?_
          rcases gif h with ⟨c26, h⟩ | ⟨c26, h⟩
          · refine gR_ic_le_f rfl c26 ?_
            exact wX10_steered_u166 ih he184 hk6 h
          · refine gR_ic_le_j rfl c26 rfl ?_
            exact wX10_steered_u178 ih he184 hk6 h
      · refine gR_iz_le_j rfl c24 rfl ?_
        exact wX10_steered_u178 ih he184 hk6 h
    · refine gR_ic_ge_j rfl c19 rfl ?_
      exact he184 _ _ _ _ _ _ _ _ _ _ _ (Option.some.inj h).symm
noncomputable def wX10_steered (x1 : Int32) (x2 : Int32) (x3 : Int32) (x4 : Int32) (x5 : Int32) (s : wS) : Option (Int32 × wS) := (wX10_lawWithKept x1 x2 s).bind fun (o1, s2) => Option.elim o1 (some ((-1), s2)) (fun k4 => (wX0_worlds 15 s2).bind fun t5 => (wX10_isOutside x3 t5 s2).bind fun t7 => if t7 = 0 then ((wX0_has 15 2 x4 s2).bind fun t10 => if t10 = 0 then (some ((-1), s2)) else ((wX10_isOutside x5 5 s2).bind fun t13 => if t13 = 0 then ((wX10_fillKept 37 x2 x4 s2).bind fun s17 => (wX10_steered_h80 x3 x5 k4 s17 wFuel (-1) 0 0 0).bind fun (t28, t29, t30) => if t28 = (-1) then (some (((Int8.ofInt (-2)).toInt32), s17)) else ((wX5_told t28 x5 t29 t30 s17).bind fun t40 => some (t40, s17))) else (some ((-1), s2)))) else (some ((-1), s2)))
theorem wX10_steered_s {x1 : Int32} {x2 : Int32} {x3 : Int32} {x4 : Int32} {x5 : Int32} {s : wS} {rv : Int32} {rs : wS} (h : wX10_steered x1 x2 x3 x4 x5 s = some (rv, rs)) : gEv 8 134 [.ref 1, .int x1, .int x2, .int x3, .int x4, .int x5] (wmk s) (some (.int rv), wmk rs, 0, 0) := by
  refine gEv_of (d := 7) (L := [some (.ref 1), some (.int x1), some (.int x2), some (.int x3), some (.int x4), some (.int x5), none, none, none, none, none, none, none]) rfl ?_
  unfold wX10_steered at h
  refine gR_go 3 (pc1 := 3) (L1 := [some (.ref 1), some (.int x1), some (.int x2), some (.int x3), some (.int x4), some (.int x5), none, none, none, none, none, none, none]) (st1 := [.int x2, .int x1, .ref 1]) (fun _ _ => rfl) ?_
  obtain ⟨⟨o1, s2⟩, e3, h⟩ := gb h
  dsimp only at h
  refine gR_cvR (wX10_lawWithKept_s e3) (Nat.le_of_ble_eq_true rfl) rfl rfl rfl rfl rfl ?_
  refine gR_astq (L1 := [some (.ref 1), some (.int x1), some (.int x2), some (.int x3), some (.int x4), some (.int x5), some (wrv o1), none, none, none, none, none, none]) rfl rfl rfl ?_
  refine gR_aldq rfl rfl ?_
  rcases gel h with ⟨ek4, hh⟩ | ⟨k4, ek4, hh⟩
  · clear h
    subst ek4
    have h := hh
    clear hh
    refine gR_ifnull_n_j rfl rfl ?_
    refine gR_go 1 (pc1 := 56) (L1 := [some (.ref 1), some (.int x1), some (.int x2), some (.int x3), some (.int x4), some (.int x5), some (.null), none, none, none, none, none, none]) (st1 := [.int (-1)]) (fun _ _ => rfl) ?_
    obtain ⟨rfl, rfl⟩ := gi2 h
    exact gR_ri rfl rfl
  · clear h
    subst ek4
    have h := hh
    clear hh
    refine gR_ifnull_r_f rfl ?_
    refine gR_go 2 (pc1 := 15) (L1 := [some (.ref 1), some (.int x1), some (.int x2), some (.int x3), some (.int x4), some (.int x5), some (.ref (k4 + 1)), none, none, none, none, none, none]) (st1 := [.ref 1, .int x3]) (fun _ _ => rfl) ?_
    refine gR_gfR (k := 0) (k' := 14) rfl rfl rfl rfl ?_
    refine gR_gfR (k := 14) (k' := 15) rfl rfl rfl rfl ?_
    obtain ⟨t5, e6, h⟩ := gb h
    refine gR_cvI (wX0_worlds_s rfl e6) (Nat.le_of_ble_eq_true rfl) rfl rfl rfl rfl rfl ?_
    obtain ⟨t7, e8, h⟩ := gb h
    refine gR_csI (wX10_isOutside_s e8) (Nat.le_of_ble_eq_true rfl) rfl rfl rfl rfl ?_
    rcases gif h with ⟨c9, h⟩ | ⟨c9, h⟩
    · refine gR_iz_ne_f rfl c9 ?_
      refine gR_go 1 (pc1 := 31) (L1 := [some (.ref 1), some (.int x1), some (.int x2), some (.int x3), some (.int x4), some (.int x5), some (.ref (k4 + 1)), none, none, none, none, none, none]) (st1 := [.ref 1]) (fun _ _ => rfl) ?_
      refine gR_gfR (k := 0) (k' := 14) rfl rfl rfl rfl ?_
      refine gR_gfR (k := 14) (k' := 15) rfl rfl rfl rfl ?_
      refine gR_go 2 (pc1 := 40) (L1 := [some (.ref 1), some (.int x1), some (.int x2), some (.int x3), some (.int x4), some (.int x5), some (.ref (k4 + 1)), none, none, none, none, none, none]) (st1 := [.int x4, .int 2, .ref 16]) (fun _ _ => rfl) ?_
      obtain ⟨t10, e11, h⟩ := gb h
      refine gR_cvI (wX0_has_s rfl e11) (Nat.le_of_ble_eq_true rfl) rfl rfl rfl rfl rfl ?_
      rcases gif h with ⟨c12, h⟩ | ⟨c12, h⟩
      · refine gR_iz_eq_j rfl c12 rfl ?_
        refine gR_go 1 (pc1 := 56) (L1 := [some (.ref 1), some (.int x1), some (.int x2), some (.int x3), some (.int x4), some (.int x5), some (.ref (k4 + 1)), none, none, none, none, none, none]) (st1 := [.int (-1)]) (fun _ _ => rfl) ?_
        obtain ⟨rfl, rfl⟩ := gi2 h
        exact gR_ri rfl rfl
      · refine gR_iz_eq_f rfl c12 ?_
        refine gR_go 2 (pc1 := 49) (L1 := [some (.ref 1), some (.int x1), some (.int x2), some (.int x3), some (.int x4), some (.int x5), some (.ref (k4 + 1)), none, none, none, none, none, none]) (st1 := [.int 5, .int x5]) (fun _ _ => rfl) ?_
        obtain ⟨t13, e14, h⟩ := gb h
        refine gR_csI (wX10_isOutside_s e14) (Nat.le_of_ble_eq_true rfl) rfl rfl rfl rfl ?_
        rcases gif h with ⟨c15, h⟩ | ⟨c15, h⟩
        · refine gR_iz_eq_j rfl c15 rfl ?_
          refine gR_go 2 (pc1 := 59) (L1 := [some (.ref 1), some (.int x1), some (.int x2), some (.int x3), some (.int x4), some (.int x5), some (.ref (k4 + 1)), none, none, none, none, none, none]) (st1 := [.ref 1, .ref 1]) (fun _ _ => rfl) ?_
          refine gR_gfR (k := 0) (k' := 37) rfl rfl rfl rfl ?_
          refine gR_go 2 (pc1 := 65) (L1 := [some (.ref 1), some (.int x1), some (.int x2), some (.int x3), some (.int x4), some (.int x5), some (.ref (k4 + 1)), none, none, none, none, none, none]) (st1 := [.int x4, .int x2, .ref 38, .ref 1]) (fun _ _ => rfl) ?_
          obtain ⟨s17, e18, h⟩ := gb h
          refine gR_cvV (wX10_fillKept_s rfl e18) (Nat.le_of_ble_eq_true rfl) rfl rfl rfl rfl rfl ?_
          refine gR_go 8 (pc1 := 80) (L1 := [some (.ref 1), some (.int x1), some (.int x2), some (.int x3), some (.int x4), some (.int x5), some (.ref (k4 + 1)), some (.int (-1)), some (.int 0), some (.int 0), some (.int 0), none, none]) (st1 := []) (fun _ _ => rfl) ?_
          obtain ⟨z27, ez27, h⟩ := gb h
          refine wX10_steered_t80 (wX10_lawWithKept_q e3) ?_  ez27
          · intro t28 t29 t30 w31 w32 w33 w34 w35 w36 w37 w38 hz
            replace hz := hz.symm
            subst hz
            dsimp only at h
            refine gR_go 2 (pc1 := 187) (L1 := [some (.ref 1), some (.int w31), some (.int w32), some (.int w33), some (.int w34), some (.int x5), some (.ref (w35 + 1)), some (.int t28), some (.int t29), some (.int t30), some (.int w36), w37, w38]) (st1 := [.int (-1), .int t28]) (fun _ _ => rfl) ?_
            rcases gif h with ⟨c39, h⟩ | ⟨c39, h⟩
            · refine gR_ic_ne_f rfl c39 ?_
              refine gR_go 2 (pc1 := 210) (L1 := [some (.ref 1), some (.int w31), some (.int w32), some (.int w33), some (.int w34), some (.int x5), some (.ref (w35 + 1)), some (.int t28), some (.int t29), some (.int t30), some (.int w36), w37, w38]) (st1 := [.int ((Int8.ofInt (-2)).toInt32)]) (fun _ _ => rfl) ?_
              obtain ⟨rfl, rfl⟩ := gi2 h
              exact gR_ri rfl rfl
            · refine gR_ic_ne_j rfl c39 rfl ?_
              refine gR_go 1 (pc1 := 196) (L1 := [some (.ref 1), some (.int w31), some (.int w32), some (.int w33), some (.int w34), some (.int x5), some (.ref (w35 + 1)), some (.int t28), some (.int t29), some (.int t30), some (.int w36), w37, w38]) (st1 := [.ref 1]) (fun _ _ => rfl) ?_
              refine gR_gfR (k := 0) (k' := 28) rfl rfl rfl rfl ?_
              refine gR_go 4 (pc1 := 207) (L1 := [some (.ref 1), some (.int w31), some (.int w32), some (.int w33), some (.int w34), some (.int x5), some (.ref (w35 + 1)), some (.int t28), some (.int t29), some (.int t30), some (.int w36), w37, w38]) (st1 := [.int t30, .int t29, .int x5, .int t28, .ref 29]) (fun _ _ => rfl) ?_
              obtain ⟨t40, e41, h⟩ := gb h
              refine gR_cvI (wX5_told_s e41) (Nat.le_of_ble_eq_true rfl) rfl rfl rfl rfl rfl ?_
              obtain ⟨rfl, rfl⟩ := gi2 h
              exact gR_ri rfl rfl
        · refine gR_iz_eq_f rfl c15 ?_
          refine gR_go 1 (pc1 := 56) (L1 := [some (.ref 1), some (.int x1), some (.int x2), some (.int x3), some (.int x4), some (.int x5), some (.ref (k4 + 1)), none, none, none, none, none, none]) (st1 := [.int (-1)]) (fun _ _ => rfl) ?_
          obtain ⟨rfl, rfl⟩ := gi2 h
          exact gR_ri rfl rfl
    · refine gR_iz_ne_j rfl c9 rfl ?_
      refine gR_go 1 (pc1 := 56) (L1 := [some (.ref 1), some (.int x1), some (.int x2), some (.int x3), some (.int x4), some (.int x5), some (.ref (k4 + 1)), none, none, none, none, none, none]) (st1 := [.int (-1)]) (fun _ _ => rfl) ?_
      obtain ⟨rfl, rfl⟩ := gi2 h
      exact gR_ri rfl rfl
noncomputable def wX10_seed (x1 : Int32) (s : wS) : Option (Int32 × wS) := if x1 < 0 then (some ((-1), s)) else ((wpfI s 14 11 x1).bind fun s2 => some ((s.1 14 11), s2))
theorem wX10_seed_s {x1 : Int32} {s : wS} {rv : Int32} {rs : wS} (h : wX10_seed x1 s = some (rv, rs)) : gEv 1 135 [.ref 1, .int x1] (wmk s) (some (.int rv), wmk rs, 0, 0) := by
  refine gEv_of (d := 0) (L := [some (.ref 1), some (.int x1), none]) rfl ?_
  unfold wX10_seed at h
  refine gR_go 1 (pc1 := 1) (L1 := [some (.ref 1), some (.int x1), none]) (st1 := [.int x1]) (fun _ _ => rfl) ?_
  rcases gif h with ⟨c1, h⟩ | ⟨c1, h⟩
  · refine gR_iz_ge_f rfl c1 ?_
    refine gR_go 1 (pc1 := 5) (L1 := [some (.ref 1), some (.int x1), none]) (st1 := [.int (-1)]) (fun _ _ => rfl) ?_
    obtain ⟨rfl, rfl⟩ := gi2 h
    exact gR_ri rfl rfl
  · refine gR_iz_ge_j rfl c1 rfl ?_
    refine gR_go 1 (pc1 := 7) (L1 := [some (.ref 1), some (.int x1), none]) (st1 := [.ref 1]) (fun _ _ => rfl) ?_
    refine gR_gfR (k := 0) (k' := 14) rfl rfl rfl rfl ?_
    refine gR_gfI (k := 14) rfl rfl rfl ?_
    refine gR_go 2 (pc1 := 15) (L1 := [some (.ref 1), some (.int x1), some (.int (s.1 14 11))]) (st1 := [.ref 1]) (fun _ _ => rfl) ?_
    refine gR_gfR (k := 0) (k' := 14) rfl rfl rfl rfl ?_
    refine gR_go 1 (pc1 := 19) (L1 := [some (.ref 1), some (.int x1), some (.int (s.1 14 11))]) (st1 := [.int x1, .ref 15]) (fun _ _ => rfl) ?_
    obtain ⟨s2, es2, h⟩ := gb h
    refine gR_pfI (k := 14) rfl rfl rfl rfl es2 ?_
    refine gR_go 1 (pc1 := 23) (L1 := [some (.ref 1), some (.int x1), some (.int (s.1 14 11))]) (st1 := [.int (s.1 14 11)]) (fun _ _ => rfl) ?_
    obtain ⟨rfl, rfl⟩ := gi2 h
    exact gR_ri rfl rfl
noncomputable def wX10_drawn (x0 : Int32) (s : wS) : Option (Int32) := some (((((((x0 : Int32).toInt64) * 1103515245) + 12345) - ((((x0 : Int32).toInt64) * 1103515245) + 12345) / 2147483648 * 2147483648) : Int64).toInt32)
theorem wX10_drawn_s {x0 : Int32} {s : wS} {rv : Int32} (h : wX10_drawn x0 s = some rv) : gEv 1 147 [.int x0] (wmk s) (some (.int rv), wmk s, 0, 0) := by
  refine gEv_of (d := 0) (L := [some (.int x0)]) rfl ?_
  unfold wX10_drawn at h
  refine gR_go 7 (pc1 := 13) (L1 := [some (.int x0)]) (st1 := [.long 2147483648, .long ((((x0 : Int32).toInt64) * 1103515245) + 12345)]) (fun _ _ => rfl) ?_
  refine gR_rmLc rfl (by decide) ?_
  refine gR_go 1 (pc1 := 15) (L1 := [some (.int x0)]) (st1 := [.int (((((((x0 : Int32).toInt64) * 1103515245) + 12345) - ((((x0 : Int32).toInt64) * 1103515245) + 12345) / 2147483648 * 2147483648) : Int64).toInt32)]) (fun _ _ => rfl) ?_
  obtain rfl := gi1 h
  exact gR_ri rfl rfl
noncomputable def wX10_trial_h19 (k1 : Nat) (x2 : Int32) : Nat → Int32 → wS → Option ((Int32 × wS) ⊕ (Int32 × wS))
  | 0, _, _ => none
  | n + 1, x3, s => if x3 < 9 then (if 1 < (s.1 37 1) then ((wX5_best k1 37 0 s).bind fun t8 => if t8 = (-1) then (some (.inr (x3, s))) else ((wX5_greaterLeft k1 37 t8 s).bind fun t11 => if t11 < (s.1 37 1) then ((wX10_at 29 t8 s).bind fun t14 => (wX5_nearAsIn k1 t8 15 x2 s).bind fun t16 => (wX7_keepOnly 37 t14 t16 s).bind fun s19 => wX10_trial_h19 k1 x2 n (x3 + 1) s19) else (some (.inr (x3, s))))) else (some (.inl (x3, s)))) else (some (.inl (x3, s)))
theorem wX10_trial_t19 {k1 : Nat} {x2 : Int32} {x : (Int32 × wS) ⊕ (Int32 × wS)} {r : ri_R} (hk1 : wkd k1 = 3) (he130 : ∀ (x3 : Int32) (s : wS) (w1 : Nat) (w2 : Int32) (w4 : Option Value) (w5 : Option Value) , x = .inl (x3, s) → gRun 6 167 130 [some (.ref 1), some (.ref (w1 + 1)), some (.int w2), some (.int x3), w4, w5] [] (wmk s) r) (he81 : ∀ (x3 : Int32) (s : wS) (w1 : Nat) (w2 : Int32) (w4 : Int32) (w5 : Option Value) , x = .inr (x3, s) → gRun 6 167 81 [some (.ref 1), some (.ref (w1 + 1)), some (.int w2), some (.int x3), some (.int w4), w5] [] (wmk s) r) : ∀ {n : Nat} {x3 : Int32} {s : wS} {w4 : Option Value} {w5 : Option Value} , wX10_trial_h19 k1 x2 n x3 s = some x → gRun 6 167 19 [some (.ref 1), some (.ref (k1 + 1)), some (.int x2), some (.int x3), w4, w5] [] (wmk s) r := by
  intro n
  induction n with
  | zero => intro x3 s w4 w5 h; cases (show (none : Option ((Int32 × wS) ⊕ (Int32 × wS))) = some x from h)
  | succ n ih =>
    intro x3 s w4 w5 h
    rw [wX10_trial_h19] at h
    refine gR_go 2 (pc1 := 22) (L1 := [some (.ref 1), some (.ref (k1 + 1)), some (.int x2), some (.int x3), w4, w5]) (st1 := [.int 9, .int x3]) (fun _ _ => rfl) ?_
    rcases gif h with ⟨c6, h⟩ | ⟨c6, h⟩
    · refine gR_ic_ge_f rfl c6 ?_
      refine gR_go 1 (pc1 := 26) (L1 := [some (.ref 1), some (.ref (k1 + 1)), some (.int x2), some (.int x3), w4, w5]) (st1 := [.ref 1]) (fun _ _ => rfl) ?_
      refine gR_gfR (k := 0) (k' := 37) rfl rfl rfl rfl ?_
      refine gR_gfI (k := 37) rfl rfl rfl ?_
      refine gR_go 1 (pc1 := 33) (L1 := [some (.ref 1), some (.ref (k1 + 1)), some (.int x2), some (.int x3), w4, w5]) (st1 := [.int 1, .int (s.1 37 1)]) (fun _ _ => rfl) ?_
      rcases gif h with ⟨c7, h⟩ | ⟨c7, h⟩
      · refine gR_ic_le_f rfl c7 ?_
        refine gR_go 1 (pc1 := 37) (L1 := [some (.ref 1), some (.ref (k1 + 1)), some (.int x2), some (.int x3), w4, w5]) (st1 := [.ref 1]) (fun _ _ => rfl) ?_
        refine gR_gfR (k := 0) (k' := 28) rfl rfl rfl rfl ?_
        refine gR_go 2 (pc1 := 42) (L1 := [some (.ref 1), some (.ref (k1 + 1)), some (.int x2), some (.int x3), w4, w5]) (st1 := [.ref 1, .ref (k1 + 1), .ref 29]) (fun _ _ => rfl) ?_
        refine gR_gfR (k := 0) (k' := 37) rfl rfl rfl rfl ?_
        refine gR_go 1 (pc1 := 46) (L1 := [some (.ref 1), some (.ref (k1 + 1)), some (.int x2), some (.int x3), w4, w5]) (st1 := [.int 0, .ref 38, .ref (k1 + 1), .ref 29]) (fun _ _ => rfl) ?_
        obtain ⟨t8, e9, h⟩ := gb h
        refine gR_cvI (wX5_best_s hk1 rfl e9) (Nat.le_of_ble_eq_true rfl) rfl rfl rfl rfl rfl ?_
        refine gR_go 3 (pc1 := 54) (L1 := [some (.ref 1), some (.ref (k1 + 1)), some (.int x2), some (.int x3), some (.int t8), w5]) (st1 := [.int (-1), .int t8]) (fun _ _ => rfl) ?_
        rcases gif h with ⟨c10, h⟩ | ⟨c10, h⟩
        · refine gR_ic_eq_j rfl c10 rfl ?_
          exact he81 _ _ _ _ _ _ (Option.some.inj h).symm
        · refine gR_ic_eq_f rfl c10 ?_
          refine gR_go 1 (pc1 := 58) (L1 := [some (.ref 1), some (.ref (k1 + 1)), some (.int x2), some (.int x3), some (.int t8), w5]) (st1 := [.ref 1]) (fun _ _ => rfl) ?_
          refine gR_gfR (k := 0) (k' := 28) rfl rfl rfl rfl ?_
          refine gR_go 2 (pc1 := 63) (L1 := [some (.ref 1), some (.ref (k1 + 1)), some (.int x2), some (.int x3), some (.int t8), w5]) (st1 := [.ref 1, .ref (k1 + 1), .ref 29]) (fun _ _ => rfl) ?_
          refine gR_gfR (k := 0) (k' := 37) rfl rfl rfl rfl ?_
          refine gR_go 1 (pc1 := 68) (L1 := [some (.ref 1), some (.ref (k1 + 1)), some (.int x2), some (.int x3), some (.int t8), w5]) (st1 := [.int t8, .ref 38, .ref (k1 + 1), .ref 29]) (fun _ _ => rfl) ?_
          obtain ⟨t11, e12, h⟩ := gb h
          refine gR_cvI (wX5_greaterLeft_s hk1 rfl e12) (Nat.le_of_ble_eq_true rfl) rfl rfl rfl rfl rfl ?_
          refine gR_go 1 (pc1 := 72) (L1 := [some (.ref 1), some (.ref (k1 + 1)), some (.int x2), some (.int x3), some (.int t8), w5]) (st1 := [.ref 1, .int t11]) (fun _ _ => rfl) ?_
          refine gR_gfR (k := 0) (k' := 37) rfl rfl rfl rfl ?_
          refine gR_gfI (k := 37) rfl rfl rfl ?_
          rcases gif h with ⟨c13, h⟩ | ⟨c13, h⟩
          · refine gR_ic_lt_j rfl c13 rfl ?_
            refine gR_go 1 (pc1 := 84) (L1 := [some (.ref 1), some (.ref (k1 + 1)), some (.int x2), some (.int x3), some (.int t8), w5]) (st1 := [.ref 1]) (fun _ _ => rfl) ?_
            refine gR_gfR (k := 0) (k' := 28) rfl rfl rfl rfl ?_
            refine gR_gfR (k := 28) (k' := 29) rfl rfl rfl rfl ?_
            refine gR_go 1 (pc1 := 92) (L1 := [some (.ref 1), some (.ref (k1 + 1)), some (.int x2), some (.int x3), some (.int t8), w5]) (st1 := [.int t8, .ref 30]) (fun _ _ => rfl) ?_
            obtain ⟨t14, e15, h⟩ := gb h
            refine gR_csI (wX10_at_s rfl e15) (Nat.le_of_ble_eq_true rfl) rfl rfl rfl rfl ?_
            refine gR_go 2 (pc1 := 98) (L1 := [some (.ref 1), some (.ref (k1 + 1)), some (.int x2), some (.int x3), some (.int t8), some (.int t14)]) (st1 := [.ref 1]) (fun _ _ => rfl) ?_
            refine gR_gfR (k := 0) (k' := 37) rfl rfl rfl rfl ?_
            refine gR_go 2 (pc1 := 104) (L1 := [some (.ref 1), some (.ref (k1 + 1)), some (.int x2), some (.int x3), some (.int t8), some (.int t14)]) (st1 := [.ref 1, .int t14, .ref 38]) (fun _ _ => rfl) ?_
            refine gR_gfR (k := 0) (k' := 28) rfl rfl rfl rfl ?_
            refine gR_go 3 (pc1 := 111) (L1 := [some (.ref 1), some (.ref (k1 + 1)), some (.int x2), some (.int x3), some (.int t8), some (.int t14)]) (st1 := [.ref 1, .int t8, .ref (k1 + 1), .ref 29, .int t14, .ref 38]) (fun _ _ => rfl) ?_
            refine gR_gfR (k := 0) (k' := 14) rfl rfl rfl rfl ?_
            refine gR_gfR (k := 14) (k' := 15) rfl rfl rfl rfl ?_
            refine gR_go 1 (pc1 := 118) (L1 := [some (.ref 1), some (.ref (k1 + 1)), some (.int x2), some (.int x3), some (.int t8), some (.int t14)]) (st1 := [.int x2, .ref 16, .int t8, .ref (k1 + 1), .ref 29, .int t14, .ref 38]) (fun _ _ => rfl) ?_
            obtain ⟨t16, e17, h⟩ := gb h
            refine gR_cvI (wX5_nearAsIn_s hk1 rfl e17) (Nat.le_of_ble_eq_true rfl) rfl rfl rfl rfl rfl ?_
            obtain ⟨s19, e20, h⟩ := gb h
            refine gR_cvV (wX7_keepOnly_s rfl e20) (Nat.le_of_ble_eq_true rfl) rfl rfl rfl rfl rfl ?_
            refine gR_go 2 (pc1 := 19) (L1 := [some (.ref 1), some (.ref (k1 + 1)), some (.int x2), some (.int (x3 + 1)), some (.int t8), some (.int t14)]) (st1 := []) (fun _ _ => rfl) ?_
            exact ih h
          · refine gR_ic_lt_f rfl c13 ?_
            exact he81 _ _ _ _ _ _ (Option.some.inj h).symm
      · refine gR_ic_le_j rfl c7 rfl ?_
        exact he130 _ _ _ _ _ _ (Option.some.inj h).symm
    · refine gR_ic_ge_j rfl c6 rfl ?_
      exact he130 _ _ _ _ _ _ (Option.some.inj h).symm
noncomputable def wX10_trial (k1 : Nat) (x2 : Int32) (s : wS) : Option (Int32 × wS) := (wX0_bitsOfAll 15 s).bind fun t1 => (wX7_fillWith 37 t1 s).bind fun s4 => (wX10_trial_h19 k1 x2 wFuel 0 s4).bind fun z21 => (match z21 with | .inl (t22, s23) => some (t22, s23) | .inr (t28, s29) => some (t28, s29))
theorem wX10_trial_s {k1 : Nat} {x2 : Int32} {s : wS} {rv : Int32} {rs : wS} (hk1 : wkd k1 = 3) (h : wX10_trial k1 x2 s = some (rv, rs)) : gEv 7 167 [.ref 1, .ref (k1 + 1), .int x2] (wmk s) (some (.int rv), wmk rs, 0, 0) := by
  refine gEv_of (d := 6) (L := [some (.ref 1), some (.ref (k1 + 1)), some (.int x2), none, none, none]) rfl ?_
  unfold wX10_trial at h
  refine gR_go 1 (pc1 := 1) (L1 := [some (.ref 1), some (.ref (k1 + 1)), some (.int x2), none, none, none]) (st1 := [.ref 1]) (fun _ _ => rfl) ?_
  refine gR_gfR (k := 0) (k' := 37) rfl rfl rfl rfl ?_
  refine gR_go 1 (pc1 := 5) (L1 := [some (.ref 1), some (.ref (k1 + 1)), some (.int x2), none, none, none]) (st1 := [.ref 1, .ref 38]) (fun _ _ => rfl) ?_
  refine gR_gfR (k := 0) (k' := 14) rfl rfl rfl rfl ?_
  refine gR_gfR (k := 14) (k' := 15) rfl rfl rfl rfl ?_
  obtain ⟨t1, e2, h⟩ := gb h
  refine gR_cvI (wX0_bitsOfAll_s rfl e2) (Nat.le_of_ble_eq_true rfl) rfl rfl rfl rfl rfl ?_
  obtain ⟨s4, e5, h⟩ := gb h
  refine gR_cvV (wX7_fillWith_s rfl e5) (Nat.le_of_ble_eq_true rfl) rfl rfl rfl rfl rfl ?_
  refine gR_go 2 (pc1 := 19) (L1 := [some (.ref 1), some (.ref (k1 + 1)), some (.int x2), some (.int 0), none, none]) (st1 := []) (fun _ _ => rfl) ?_
  obtain ⟨z21, ez21, h⟩ := gb h
  refine wX10_trial_t19 hk1 ?_ ?_  ez21
  · intro t22 s23 w24 w25 w26 w27 hz
    replace hz := hz.symm
    subst hz
    dsimp only at h
    refine gR_go 1 (pc1 := 131) (L1 := [some (.ref 1), some (.ref (w24 + 1)), some (.int w25), some (.int t22), w26, w27]) (st1 := [.int t22]) (fun _ _ => rfl) ?_
    obtain ⟨rfl, rfl⟩ := gi2 h
    exact gR_ri rfl rfl
  · intro t28 s29 w30 w31 w32 w33 hz
    replace hz := hz.symm
    subst hz
    dsimp only at h
    refine gR_go 1 (pc1 := 82) (L1 := [some (.ref 1), some (.ref (w30 + 1)), some (.int w31), some (.int t28), some (.int w32), w33]) (st1 := [.int t28]) (fun _ _ => rfl) ?_
    obtain ⟨rfl, rfl⟩ := gi2 h
    exact gR_ri rfl rfl
noncomputable def wX10_trials_j130 (qq : Int32 → Int32 → Int32 → Int32 → Int32 → wS → Option (Int32 × Int32 × Int32 × wS)) (x2 : Int32) (x3 : Int32) (k4 : Nat) (x5 : Int32) (x6 : Int32) (x7 : Int32) (x8 : Int32) (x9 : Int32) (x10 : Int32) (s : wS) : Option (Int32 × Int32 × Int32 × wS) := qq x6 x7 x8 x9 (x10 + 1) s
theorem wX10_trials_u130 {x2 : Int32} {x3 : Int32} {k4 : Nat} {x5 : Int32} {x6 : Int32} {x7 : Int32} {x8 : Int32} {x9 : Int32} {x10 : Int32} {s : wS} {w1 : Int32} {qq : Int32 → Int32 → Int32 → Int32 → Int32 → wS → Option (Int32 × Int32 × Int32 × wS)} {x : Int32 × Int32 × Int32 × wS} {r : ri_R} (ih : ∀ {x6 : Int32} {x7 : Int32} {x8 : Int32} {x9 : Int32} {x10 : Int32} {s : wS} {w1 : Int32} , qq x6 x7 x8 x9 x10 s = some x → gRun 7 136 71 [some (.ref 1), some (.int w1), some (.int x2), some (.int x3), some (.ref (k4 + 1)), some (.int x5), some (.int x6), some (.int x7), some (.int x8), some (.int x9), some (.int x10)] [] (wmk s) r) (he136 : ∀ (x7 : Int32) (x8 : Int32) (x9 : Int32) (s : wS) (w1 : Int32) (w2 : Int32) (w4 : Nat) (w5 : Int32) (w6 : Int32) (w10 : Int32) , x = (x7, x8, x9, s) → gRun 7 136 136 [some (.ref 1), some (.int w1), some (.int w2), some (.int x3), some (.ref (w4 + 1)), some (.int w5), some (.int w6), some (.int x7), some (.int x8), some (.int x9), some (.int w10)] [] (wmk s) r) (hk4 : wkd k4 = 3) (h : wX10_trials_j130 qq x2 x3 k4 x5 x6 x7 x8 x9 x10 s = some x) : gRun 7 136 130 [some (.ref 1), some (.int w1), some (.int x2), some (.int x3), some (.ref (k4 + 1)), some (.int x5), some (.int x6), some (.int x7), some (.int x8), some (.int x9), some (.int x10)] [] (wmk s) r := by
  unfold wX10_trials_j130 at h
  refine gR_go 2 (pc1 := 71) (L1 := [some (.ref 1), some (.int w1), some (.int x2), some (.int x3), some (.ref (k4 + 1)), some (.int x5), some (.int x6), some (.int x7), some (.int x8), some (.int x9), some (.int (x10 + 1))]) (st1 := []) (fun _ _ => rfl) ?_
  exact ih h
noncomputable def wX10_trials_h71 (x2 : Int32) (x3 : Int32) (k4 : Nat) (x5 : Int32) : Nat → Int32 → Int32 → Int32 → Int32 → Int32 → wS → Option (Int32 × Int32 × Int32 × wS)
  | 0, _, _, _, _, _, _ => none
  | n + 1, x6, x7, x8, x9, x10, s => if x10 < x2 then ((wX10_drawn x6 s).bind fun t14 => (wrmI (t14 / 65536) x5).bind fun t16 => (wX10_trial k4 t16 s).bind fun (t17, s18) => if (s18.1 37 1) = 1 then (wX10_trials_j130 (wX10_trials_h71 x2 x3 k4 x5 n) x2 x3 k4 x5 t14 (x7 + t17) (x8 + 1) (x9 + (s18.1 37 1)) x10 s18) else (wX10_trials_j130 (wX10_trials_h71 x2 x3 k4 x5 n) x2 x3 k4 x5 t14 (x7 + t17) x8 (x9 + (s18.1 37 1)) x10 s18)) else (some (x7, x8, x9, s))
theorem wX10_trials_t71 {x2 : Int32} {x3 : Int32} {k4 : Nat} {x5 : Int32} {x : Int32 × Int32 × Int32 × wS} {r : ri_R} (hk4 : wkd k4 = 3) (he136 : ∀ (x7 : Int32) (x8 : Int32) (x9 : Int32) (s : wS) (w1 : Int32) (w2 : Int32) (w4 : Nat) (w5 : Int32) (w6 : Int32) (w10 : Int32) , x = (x7, x8, x9, s) → gRun 7 136 136 [some (.ref 1), some (.int w1), some (.int w2), some (.int x3), some (.ref (w4 + 1)), some (.int w5), some (.int w6), some (.int x7), some (.int x8), some (.int x9), some (.int w10)] [] (wmk s) r) : ∀ {n : Nat} {x6 : Int32} {x7 : Int32} {x8 : Int32} {x9 : Int32} {x10 : Int32} {s : wS} {w1 : Int32} , wX10_trials_h71 x2 x3 k4 x5 n x6 x7 x8 x9 x10 s = some x → gRun 7 136 71 [some (.ref 1), some (.int w1), some (.int x2), some (.int x3), some (.ref (k4 + 1)), some (.int x5), some (.int x6), some (.int x7), some (.int x8), some (.int x9), some (.int x10)] [] (wmk s) r := by
  intro n
  induction n with
  | zero => intro x6 x7 x8 x9 x10 s w1 h; cases (show (none : Option (Int32 × Int32 × Int32 × wS)) = some x from h)
  | succ n ih =>
    intro x6 x7 x8 x9 x10 s w1 h
    rw [wX10_trials_h71] at h
    refine gR_go 2 (pc1 := 74) (L1 := [some (.ref 1), some (.int w1), some (.int x2), some (.int x3), some (.ref (k4 + 1)), some (.int x5), some (.int x6), some (.int x7), some (.int x8), some (.int x9), some (.int x10)]) (st1 := [.int x2, .int x10]) (fun _ _ => rfl) ?_
    rcases gif h with ⟨c13, h⟩ | ⟨c13, h⟩
    · refine gR_ic_ge_f rfl c13 ?_
      refine gR_go 1 (pc1 := 79) (L1 := [some (.ref 1), some (.int w1), some (.int x2), some (.int x3), some (.ref (k4 + 1)), some (.int x5), some (.int x6), some (.int x7), some (.int x8), some (.int x9), some (.int x10)]) (st1 := [.int x6]) (fun _ _ => rfl) ?_
      obtain ⟨t14, e15, h⟩ := gb h
      refine gR_csI (wX10_drawn_s e15) (Nat.le_of_ble_eq_true rfl) rfl rfl rfl rfl ?_
      refine gR_go 6 (pc1 := 94) (L1 := [some (.ref 1), some (.int w1), some (.int x2), some (.int x3), some (.ref (k4 + 1)), some (.int x5), some (.int t14), some (.int x7), some (.int x8), some (.int x9), some (.int x10)]) (st1 := [.int 65536, .int t14, .ref (k4 + 1), .ref 1, .int x7]) (fun _ _ => rfl) ?_
      refine gR_dvIc rfl (by decide) ?_
      refine gR_go 1 (pc1 := 97) (L1 := [some (.ref 1), some (.int w1), some (.int x2), some (.int x3), some (.ref (k4 + 1)), some (.int x5), some (.int t14), some (.int x7), some (.int x8), some (.int x9), some (.int x10)]) (st1 := [.int x5, .int (t14 / 65536), .ref (k4 + 1), .ref 1, .int x7]) (fun _ _ => rfl) ?_
      obtain ⟨t16, et16, h⟩ := gb h
      refine gR_rmI rfl et16 ?_
      obtain ⟨⟨t17, s18⟩, e19, h⟩ := gb h
      dsimp only at h
      refine gR_cvI (wX10_trial_s hk4 e19) (Nat.le_of_ble_eq_true rfl) rfl rfl rfl rfl rfl ?_
      refine gR_go 4 (pc1 := 107) (L1 := [some (.ref 1), some (.int w1), some (.int x2), some (.int x3), some (.ref (k4 + 1)), some (.int x5), some (.int t14), some (.int (x7 + t17)), some (.int x8), some (.int x9), some (.int x10)]) (st1 := [.ref 1, .int x9]) (fun _ _ => rfl) ?_
      refine gR_gfR (k := 0) (k' := 37) rfl rfl rfl rfl ?_
      refine gR_gfI (k := 37) rfl rfl rfl ?_
      refine gR_go 3 (pc1 := 117) (L1 := [some (.ref 1), some (.int w1), some (.int x2), some (.int x3), some (.ref (k4 + 1)), some (.int x5), some (.int t14), some (.int (x7 + t17)), some (.int x8), some (.int (x9 + (s18.1 37 1))), some (.int x10)]) (st1 := [.ref 1]) (fun _ _ => rfl) ?_
      refine gR_gfR (k := 0) (k' := 37) rfl rfl rfl rfl ?_
      refine gR_gfI (k := 37) rfl rfl rfl ?_
      refine gR_go 1 (pc1 := 124) (L1 := [some (.ref 1), some (.int w1), some (.int x2), some (.int x3), some (.ref (k4 + 1)), some (.int x5), some (.int t14), some (.int (x7 + t17)), some (.int x8), some (.int (x9 + (s18.1 37 1))), some (.int x10)]) (st1 := [.int 1, .int (s18.1 37 1)]) (fun _ _ => rfl) ?_
      rcases gif h with ⟨c20, h⟩ | ⟨c20, h⟩
      · refine gR_ic_ne_f rfl c20 ?_
        refine gR_go 1 (pc1 := 130) (L1 := [some (.ref 1), some (.int w1), some (.int x2), some (.int x3), some (.ref (k4 + 1)), some (.int x5), some (.int t14), some (.int (x7 + t17)), some (.int (x8 + 1)), some (.int (x9 + (s18.1 37 1))), some (.int x10)]) (st1 := []) (fun _ _ => rfl) ?_
        exact wX10_trials_u130 ih he136 hk4 h
      · refine gR_ic_ne_j rfl c20 rfl ?_
        exact wX10_trials_u130 ih he136 hk4 h
    · refine gR_ic_ge_j rfl c13 rfl ?_
      exact he136 _ _ _ _ _ _ _ _ _ _ (Option.some.inj h).symm
noncomputable def wX10_trials (x1 : Int32) (x2 : Int32) (x3 : Int32) (s : wS) : Option (Int32 × wS) := (wX10_lawInUse x1 s).bind fun (o1, s2) => (wX0_worlds 15 s2).bind fun t4 => Option.elim o1 (some ((-1), s2)) (fun k6 => if 0 < t4 then (if x2 < 1 then (some ((-1), s2)) else (if 20 < x2 then (some ((-1), s2)) else ((wX10_isOutside x3 3 s2).bind fun t10 => if t10 = 0 then ((wX10_trials_h71 x2 x3 k6 t4 wFuel (s2.1 14 11) 0 0 0 0 s2).bind fun (t22, t23, t24, s25) => if x3 = 0 then (some (t22, s25)) else if x3 = 1 then (some (t23, s25)) else (some (t24, s25))) else (some ((-1), s2))))) else (some ((-1), s2)))
theorem wX10_trials_s {x1 : Int32} {x2 : Int32} {x3 : Int32} {s : wS} {rv : Int32} {rs : wS} (h : wX10_trials x1 x2 x3 s = some (rv, rs)) : gEv 8 136 [.ref 1, .int x1, .int x2, .int x3] (wmk s) (some (.int rv), wmk rs, 0, 0) := by
  refine gEv_of (d := 7) (L := [some (.ref 1), some (.int x1), some (.int x2), some (.int x3), none, none, none, none, none, none, none]) rfl ?_
  unfold wX10_trials at h
  refine gR_go 2 (pc1 := 2) (L1 := [some (.ref 1), some (.int x1), some (.int x2), some (.int x3), none, none, none, none, none, none, none]) (st1 := [.int x1, .ref 1]) (fun _ _ => rfl) ?_
  obtain ⟨⟨o1, s2⟩, e3, h⟩ := gb h
  dsimp only at h
  refine gR_cvR (wX10_lawInUse_s e3) (Nat.le_of_ble_eq_true rfl) rfl rfl rfl rfl rfl ?_
  refine gR_astq (L1 := [some (.ref 1), some (.int x1), some (.int x2), some (.int x3), some (wrv o1), none, none, none, none, none, none]) rfl rfl rfl ?_
  refine gR_go 1 (pc1 := 8) (L1 := [some (.ref 1), some (.int x1), some (.int x2), some (.int x3), some (wrv o1), none, none, none, none, none, none]) (st1 := [.ref 1]) (fun _ _ => rfl) ?_
  refine gR_gfR (k := 0) (k' := 14) rfl rfl rfl rfl ?_
  refine gR_gfR (k := 14) (k' := 15) rfl rfl rfl rfl ?_
  obtain ⟨t4, e5, h⟩ := gb h
  refine gR_cvI (wX0_worlds_s rfl e5) (Nat.le_of_ble_eq_true rfl) rfl rfl rfl rfl rfl ?_
  refine gR_istq (j := 4) (L1 := [some (.ref 1), some (.int x1), some (.int x2), some (.int x3), some (wrv o1), some (.int t4), none, none, none, none, none]) rfl rfl rfl rfl ?_
  refine gR_aldq rfl rfl ?_
  rcases gel h with ⟨ek6, hh⟩ | ⟨k6, ek6, hh⟩
  · clear h
    subst ek6
    have h := hh
    clear hh
    refine gR_ifnull_n_j rfl rfl ?_
    refine gR_go 1 (pc1 := 49) (L1 := [some (.ref 1), some (.int x1), some (.int x2), some (.int x3), some (.null), some (.int t4), none, none, none, none, none]) (st1 := [.int (-1)]) (fun _ _ => rfl) ?_
    obtain ⟨rfl, rfl⟩ := gi2 h
    exact gR_ri rfl rfl
  · clear h
    subst ek6
    have h := hh
    clear hh
    refine gR_ifnull_r_f rfl ?_
    refine gR_go 1 (pc1 := 26) (L1 := [some (.ref 1), some (.int x1), some (.int x2), some (.int x3), some (.ref (k6 + 1)), some (.int t4), none, none, none, none, none]) (st1 := [.int t4]) (fun _ _ => rfl) ?_
    rcases gif h with ⟨c7, h⟩ | ⟨c7, h⟩
    · refine gR_iz_le_f rfl c7 ?_
      refine gR_go 2 (pc1 := 31) (L1 := [some (.ref 1), some (.int x1), some (.int x2), some (.int x3), some (.ref (k6 + 1)), some (.int t4), none, none, none, none, none]) (st1 := [.int 1, .int x2]) (fun _ _ => rfl) ?_
      rcases gif h with ⟨c8, h⟩ | ⟨c8, h⟩
      · refine gR_ic_lt_j rfl c8 rfl ?_
        refine gR_go 1 (pc1 := 49) (L1 := [some (.ref 1), some (.int x1), some (.int x2), some (.int x3), some (.ref (k6 + 1)), some (.int t4), none, none, none, none, none]) (st1 := [.int (-1)]) (fun _ _ => rfl) ?_
        obtain ⟨rfl, rfl⟩ := gi2 h
        exact gR_ri rfl rfl
      · refine gR_ic_lt_f rfl c8 ?_
        refine gR_go 2 (pc1 := 37) (L1 := [some (.ref 1), some (.int x1), some (.int x2), some (.int x3), some (.ref (k6 + 1)), some (.int t4), none, none, none, none, none]) (st1 := [.int 20, .int x2]) (fun _ _ => rfl) ?_
        rcases gif h with ⟨c9, h⟩ | ⟨c9, h⟩
        · refine gR_ic_gt_j rfl c9 rfl ?_
          refine gR_go 1 (pc1 := 49) (L1 := [some (.ref 1), some (.int x1), some (.int x2), some (.int x3), some (.ref (k6 + 1)), some (.int t4), none, none, none, none, none]) (st1 := [.int (-1)]) (fun _ _ => rfl) ?_
          obtain ⟨rfl, rfl⟩ := gi2 h
          exact gR_ri rfl rfl
        · refine gR_ic_gt_f rfl c9 ?_
          refine gR_go 2 (pc1 := 42) (L1 := [some (.ref 1), some (.int x1), some (.int x2), some (.int x3), some (.ref (k6 + 1)), some (.int t4), none, none, none, none, none]) (st1 := [.int 3, .int x3]) (fun _ _ => rfl) ?_
          obtain ⟨t10, e11, h⟩ := gb h
          refine gR_csI (wX10_isOutside_s e11) (Nat.le_of_ble_eq_true rfl) rfl rfl rfl rfl ?_
          rcases gif h with ⟨c12, h⟩ | ⟨c12, h⟩
          · refine gR_iz_eq_j rfl c12 rfl ?_
            refine gR_go 1 (pc1 := 51) (L1 := [some (.ref 1), some (.int x1), some (.int x2), some (.int x3), some (.ref (k6 + 1)), some (.int t4), none, none, none, none, none]) (st1 := [.ref 1]) (fun _ _ => rfl) ?_
            refine gR_gfR (k := 0) (k' := 14) rfl rfl rfl rfl ?_
            refine gR_gfI (k := 14) rfl rfl rfl ?_
            refine gR_go 9 (pc1 := 71) (L1 := [some (.ref 1), some (.int x1), some (.int x2), some (.int x3), some (.ref (k6 + 1)), some (.int t4), some (.int (s2.1 14 11)), some (.int 0), some (.int 0), some (.int 0), some (.int 0)]) (st1 := []) (fun _ _ => rfl) ?_
            obtain ⟨z21, ez21, h⟩ := gb h
            refine wX10_trials_t71 (wX10_lawInUse_q e3) ?_  ez21
            · intro t22 t23 t24 s25 w26 w27 w28 w29 w30 w31 hz
              replace hz := hz.symm
              subst hz
              dsimp only at h
              refine gR_go 1 (pc1 := 137) (L1 := [some (.ref 1), some (.int w26), some (.int w27), some (.int x3), some (.ref (w28 + 1)), some (.int w29), some (.int w30), some (.int t22), some (.int t23), some (.int t24), some (.int w31)]) (st1 := [.int x3]) (fun _ _ => rfl) ?_
              rcases gif h with ⟨c32, h⟩ | ⟨c32, h⟩
              · refine gR_ls_k rfl c32 rfl rfl ?_
                refine gR_go 1 (pc1 := 166) (L1 := [some (.ref 1), some (.int w26), some (.int w27), some (.int x3), some (.ref (w28 + 1)), some (.int w29), some (.int w30), some (.int t22), some (.int t23), some (.int t24), some (.int w31)]) (st1 := [.int t22]) (fun _ _ => rfl) ?_
                obtain ⟨rfl, rfl⟩ := gi2 h
                exact gR_ri rfl rfl
              · rcases gif h with ⟨c33, h⟩ | ⟨c33, h⟩
                · refine gR_ls_k rfl c33 rfl rfl ?_
                  refine gR_go 1 (pc1 := 169) (L1 := [some (.ref 1), some (.int w26), some (.int w27), some (.int x3), some (.ref (w28 + 1)), some (.int w29), some (.int w30), some (.int t22), some (.int t23), some (.int t24), some (.int w31)]) (st1 := [.int t23]) (fun _ _ => rfl) ?_
                  obtain ⟨rfl, rfl⟩ := gi2 h
                  exact gR_ri rfl rfl
                · refine gR_ls_d [0, 1] rfl (gl1 c32 (gl1 c33 gl0)) (by decide) (by decide) rfl ?_
                  refine gR_go 1 (pc1 := 172) (L1 := [some (.ref 1), some (.int w26), some (.int w27), some (.int x3), some (.ref (w28 + 1)), some (.int w29), some (.int w30), some (.int t22), some (.int t23), some (.int t24), some (.int w31)]) (st1 := [.int t24]) (fun _ _ => rfl) ?_
                  obtain ⟨rfl, rfl⟩ := gi2 h
                  exact gR_ri rfl rfl
          · refine gR_iz_eq_f rfl c12 ?_
            refine gR_go 1 (pc1 := 49) (L1 := [some (.ref 1), some (.int x1), some (.int x2), some (.int x3), some (.ref (k6 + 1)), some (.int t4), none, none, none, none, none]) (st1 := [.int (-1)]) (fun _ _ => rfl) ?_
            obtain ⟨rfl, rfl⟩ := gi2 h
            exact gR_ri rfl rfl
    · refine gR_iz_le_j rfl c7 rfl ?_
      refine gR_go 1 (pc1 := 49) (L1 := [some (.ref 1), some (.int x1), some (.int x2), some (.int x3), some (.ref (k6 + 1)), some (.int t4), none, none, none, none, none]) (st1 := [.int (-1)]) (fun _ _ => rfl) ?_
      obtain ⟨rfl, rfl⟩ := gi2 h
      exact gR_ri rfl rfl
noncomputable def wX10_verdict (x1 : Int32) (s : wS) : Option (Int32 × wS) := if x1 = (-1) then ((wpfI s 14 10 0).bind fun s2 => some (0, s2)) else ((wX0_worlds 15 s).bind fun t3 => (wX10_isOutside x1 t3 s).bind fun t5 => if t5 = 0 then (if (s.1 14 10) < 10 then ((wX2_judge 14 x1 s).bind fun s10 => some ((s10.1 14 10), s10)) else (some (((Int8.ofInt (-2)).toInt32), s))) else (some (((Int8.ofInt (-2)).toInt32), s)))
theorem wX10_verdict_s {x1 : Int32} {s : wS} {rv : Int32} {rs : wS} (h : wX10_verdict x1 s = some (rv, rs)) : gEv 3 137 [.ref 1, .int x1] (wmk s) (some (.int rv), wmk rs, 0, 0) := by
  refine gEv_of (d := 2) (L := [some (.ref 1), some (.int x1)]) rfl ?_
  unfold wX10_verdict at h
  refine gR_go 2 (pc1 := 2) (L1 := [some (.ref 1), some (.int x1)]) (st1 := [.int (-1), .int x1]) (fun _ _ => rfl) ?_
  rcases gif h with ⟨c1, h⟩ | ⟨c1, h⟩
  · refine gR_ic_ne_f rfl c1 ?_
    refine gR_go 1 (pc1 := 6) (L1 := [some (.ref 1), some (.int x1)]) (st1 := [.ref 1]) (fun _ _ => rfl) ?_
    refine gR_gfR (k := 0) (k' := 14) rfl rfl rfl rfl ?_
    refine gR_go 1 (pc1 := 10) (L1 := [some (.ref 1), some (.int x1)]) (st1 := [.int 0, .ref 15]) (fun _ _ => rfl) ?_
    obtain ⟨s2, es2, h⟩ := gb h
    refine gR_pfI (k := 14) rfl rfl rfl rfl es2 ?_
    refine gR_go 1 (pc1 := 14) (L1 := [some (.ref 1), some (.int x1)]) (st1 := [.int 0]) (fun _ _ => rfl) ?_
    obtain ⟨rfl, rfl⟩ := gi2 h
    exact gR_ri rfl rfl
  · refine gR_ic_ne_j rfl c1 rfl ?_
    refine gR_go 2 (pc1 := 17) (L1 := [some (.ref 1), some (.int x1)]) (st1 := [.ref 1, .int x1]) (fun _ _ => rfl) ?_
    refine gR_gfR (k := 0) (k' := 14) rfl rfl rfl rfl ?_
    refine gR_gfR (k := 14) (k' := 15) rfl rfl rfl rfl ?_
    obtain ⟨t3, e4, h⟩ := gb h
    refine gR_cvI (wX0_worlds_s rfl e4) (Nat.le_of_ble_eq_true rfl) rfl rfl rfl rfl rfl ?_
    obtain ⟨t5, e6, h⟩ := gb h
    refine gR_csI (wX10_isOutside_s e6) (Nat.le_of_ble_eq_true rfl) rfl rfl rfl rfl ?_
    rcases gif h with ⟨c7, h⟩ | ⟨c7, h⟩
    · refine gR_iz_ne_f rfl c7 ?_
      refine gR_go 1 (pc1 := 33) (L1 := [some (.ref 1), some (.int x1)]) (st1 := [.ref 1]) (fun _ _ => rfl) ?_
      refine gR_gfR (k := 0) (k' := 14) rfl rfl rfl rfl ?_
      refine gR_gfI (k := 14) rfl rfl rfl ?_
      refine gR_go 1 (pc1 := 41) (L1 := [some (.ref 1), some (.int x1)]) (st1 := [.int 10, .int (s.1 14 10)]) (fun _ _ => rfl) ?_
      rcases gif h with ⟨c8, h⟩ | ⟨c8, h⟩
      · refine gR_ic_lt_j rfl c8 rfl ?_
        refine gR_go 1 (pc1 := 48) (L1 := [some (.ref 1), some (.int x1)]) (st1 := [.ref 1]) (fun _ _ => rfl) ?_
        refine gR_gfR (k := 0) (k' := 14) rfl rfl rfl rfl ?_
        refine gR_go 1 (pc1 := 52) (L1 := [some (.ref 1), some (.int x1)]) (st1 := [.int x1, .ref 15]) (fun _ _ => rfl) ?_
        obtain ⟨s10, e11, h⟩ := gb h
        refine gR_cvV (wX2_judge_s rfl e11) (Nat.le_of_ble_eq_true rfl) rfl rfl rfl rfl rfl ?_
        refine gR_go 1 (pc1 := 56) (L1 := [some (.ref 1), some (.int x1)]) (st1 := [.ref 1]) (fun _ _ => rfl) ?_
        refine gR_gfR (k := 0) (k' := 14) rfl rfl rfl rfl ?_
        refine gR_gfI (k := 14) rfl rfl rfl ?_
        obtain ⟨rfl, rfl⟩ := gi2 h
        exact gR_ri rfl rfl
      · refine gR_ic_lt_f rfl c8 ?_
        refine gR_go 1 (pc1 := 46) (L1 := [some (.ref 1), some (.int x1)]) (st1 := [.int ((Int8.ofInt (-2)).toInt32)]) (fun _ _ => rfl) ?_
        obtain ⟨rfl, rfl⟩ := gi2 h
        exact gR_ri rfl rfl
    · refine gR_iz_ne_j rfl c7 rfl ?_
      refine gR_go 1 (pc1 := 46) (L1 := [some (.ref 1), some (.int x1)]) (st1 := [.int ((Int8.ofInt (-2)).toInt32)]) (fun _ _ => rfl) ?_
      obtain ⟨rfl, rfl⟩ := gi2 h
      exact gR_ri rfl rfl
noncomputable def wX10_old_j96 (x2 : Int32) (x4 : Int32) (x6 : Int32) (y0 : Int32) (s : wS) : Option (Int32 × wS) := if x4 = 0 then (some (y0, s)) else if x4 = 1 then ((wX10_worldsWithAtMost x2 s).bind fun t26 => some ((t26 - y0), s)) else (some (x6, s))
theorem wX10_old_u96 {x2 : Int32} {x4 : Int32} {x6 : Int32} {y0 : Int32} {s : wS} {w1 : Int32} {w3 : Int32} {w5 : Nat} {w7 : Option Value} {rv : Int32} {rs : wS} (h : wX10_old_j96 x2 x4 x6 y0 s = some (rv, rs)) : gRun 6 138 96 [some (.ref 1), some (.int w1), some (.int x2), some (.int w3), some (.int x4), some (.ref (w5 + 1)), some (.int x6), w7] [.int y0] (wmk s) (some (.int rv), wmk rs, 0, 0) := by
  unfold wX10_old_j96 at h
  refine gR_go 2 (pc1 := 100) (L1 := [some (.ref 1), some (.int w1), some (.int x2), some (.int w3), some (.int x4), some (.ref (w5 + 1)), some (.int x6), some (.int y0)]) (st1 := [.int x4]) (fun _ _ => rfl) ?_
  rcases gif h with ⟨c24, h⟩ | ⟨c24, h⟩
  · refine gR_ls_k rfl c24 rfl rfl ?_
    refine gR_go 1 (pc1 := 130) (L1 := [some (.ref 1), some (.int w1), some (.int x2), some (.int w3), some (.int x4), some (.ref (w5 + 1)), some (.int x6), some (.int y0)]) (st1 := [.int y0]) (fun _ _ => rfl) ?_
    obtain ⟨rfl, rfl⟩ := gi2 h
    exact gR_ri rfl rfl
  · rcases gif h with ⟨c25, h⟩ | ⟨c25, h⟩
    · refine gR_ls_k rfl c25 rfl rfl ?_
      refine gR_go 2 (pc1 := 133) (L1 := [some (.ref 1), some (.int w1), some (.int x2), some (.int w3), some (.int x4), some (.ref (w5 + 1)), some (.int x6), some (.int y0)]) (st1 := [.int x2, .ref 1]) (fun _ _ => rfl) ?_
      obtain ⟨t26, e27, h⟩ := gb h
      refine gR_cvI (wX10_worldsWithAtMost_s e27) (Nat.le_of_ble_eq_true rfl) rfl rfl rfl rfl rfl ?_
      refine gR_go 2 (pc1 := 139) (L1 := [some (.ref 1), some (.int w1), some (.int x2), some (.int w3), some (.int x4), some (.ref (w5 + 1)), some (.int x6), some (.int y0)]) (st1 := [.int (t26 - y0)]) (fun _ _ => rfl) ?_
      obtain ⟨rfl, rfl⟩ := gi2 h
      exact gR_ri rfl rfl
    · refine gR_ls_d [0, 1] rfl (gl1 c24 (gl1 c25 gl0)) (by decide) (by decide) rfl ?_
      refine gR_go 1 (pc1 := 142) (L1 := [some (.ref 1), some (.int w1), some (.int x2), some (.int w3), some (.int x4), some (.ref (w5 + 1)), some (.int x6), some (.int y0)]) (st1 := [.int x6]) (fun _ _ => rfl) ?_
      obtain ⟨rfl, rfl⟩ := gi2 h
      exact gR_ri rfl rfl
noncomputable def wX10_old (x1 : Int32) (x2 : Int32) (x3 : Int32) (x4 : Int32) (s : wS) : Option (Int32 × wS) := (wX10_lawInUse x1 s).bind fun (o1, s2) => Option.elim o1 (some ((-1), s2)) (fun k4 => (wX10_isOutside x2 41 s2).bind fun t5 => if t5 = 0 then ((wX10_isOutside x3 (s2.1 14 10) s2).bind fun t8 => if t8 = 0 then ((wX10_isOutside x4 3 s2).bind fun t11 => if t11 = 0 then ((wX10_at 25 x3 s2).bind fun t14 => (wX10_countFalse k4 t14 (-1) (-1) s2).bind fun s17 => (wX10_at 24 x3 s17).bind fun t19 => (wX10_at 33 t19 s17).bind fun t21 => if x2 < t21 then (wX10_old_j96 x2 x4 t14 0 s17) else (wX10_old_j96 x2 x4 t14 1 s17)) else (some ((-1), s2))) else (some ((-1), s2))) else (some ((-1), s2)))
theorem wX10_old_s {x1 : Int32} {x2 : Int32} {x3 : Int32} {x4 : Int32} {s : wS} {rv : Int32} {rs : wS} (h : wX10_old x1 x2 x3 x4 s = some (rv, rs)) : gEv 7 138 [.ref 1, .int x1, .int x2, .int x3, .int x4] (wmk s) (some (.int rv), wmk rs, 0, 0) := by
  refine gEv_of (d := 6) (L := [some (.ref 1), some (.int x1), some (.int x2), some (.int x3), some (.int x4), none, none, none]) rfl ?_
  unfold wX10_old at h
  refine gR_go 2 (pc1 := 2) (L1 := [some (.ref 1), some (.int x1), some (.int x2), some (.int x3), some (.int x4), none, none, none]) (st1 := [.int x1, .ref 1]) (fun _ _ => rfl) ?_
  obtain ⟨⟨o1, s2⟩, e3, h⟩ := gb h
  dsimp only at h
  refine gR_cvR (wX10_lawInUse_s e3) (Nat.le_of_ble_eq_true rfl) rfl rfl rfl rfl rfl ?_
  refine gR_astq (L1 := [some (.ref 1), some (.int x1), some (.int x2), some (.int x3), some (.int x4), some (wrv o1), none, none]) rfl rfl rfl ?_
  refine gR_aldq rfl rfl ?_
  rcases gel h with ⟨ek4, hh⟩ | ⟨k4, ek4, hh⟩
  · clear h
    subst ek4
    have h := hh
    clear hh
    refine gR_ifnull_n_j rfl rfl ?_
    refine gR_go 1 (pc1 := 45) (L1 := [some (.ref 1), some (.int x1), some (.int x2), some (.int x3), some (.int x4), some (.null), none, none]) (st1 := [.int (-1)]) (fun _ _ => rfl) ?_
    obtain ⟨rfl, rfl⟩ := gi2 h
    exact gR_ri rfl rfl
  · clear h
    subst ek4
    have h := hh
    clear hh
    refine gR_ifnull_r_f rfl ?_
    refine gR_go 2 (pc1 := 15) (L1 := [some (.ref 1), some (.int x1), some (.int x2), some (.int x3), some (.int x4), some (.ref (k4 + 1)), none, none]) (st1 := [.int 41, .int x2]) (fun _ _ => rfl) ?_
    obtain ⟨t5, e6, h⟩ := gb h
    refine gR_csI (wX10_isOutside_s e6) (Nat.le_of_ble_eq_true rfl) rfl rfl rfl rfl ?_
    rcases gif h with ⟨c7, h⟩ | ⟨c7, h⟩
    · refine gR_iz_ne_f rfl c7 ?_
      refine gR_go 2 (pc1 := 23) (L1 := [some (.ref 1), some (.int x1), some (.int x2), some (.int x3), some (.int x4), some (.ref (k4 + 1)), none, none]) (st1 := [.ref 1, .int x3]) (fun _ _ => rfl) ?_
      refine gR_gfR (k := 0) (k' := 14) rfl rfl rfl rfl ?_
      refine gR_gfI (k := 14) rfl rfl rfl ?_
      obtain ⟨t8, e9, h⟩ := gb h
      refine gR_csI (wX10_isOutside_s e9) (Nat.le_of_ble_eq_true rfl) rfl rfl rfl rfl ?_
      rcases gif h with ⟨c10, h⟩ | ⟨c10, h⟩
      · refine gR_iz_ne_f rfl c10 ?_
        refine gR_go 2 (pc1 := 38) (L1 := [some (.ref 1), some (.int x1), some (.int x2), some (.int x3), some (.int x4), some (.ref (k4 + 1)), none, none]) (st1 := [.int 3, .int x4]) (fun _ _ => rfl) ?_
        obtain ⟨t11, e12, h⟩ := gb h
        refine gR_csI (wX10_isOutside_s e12) (Nat.le_of_ble_eq_true rfl) rfl rfl rfl rfl ?_
        rcases gif h with ⟨c13, h⟩ | ⟨c13, h⟩
        · refine gR_iz_eq_j rfl c13 rfl ?_
          refine gR_go 1 (pc1 := 47) (L1 := [some (.ref 1), some (.int x1), some (.int x2), some (.int x3), some (.int x4), some (.ref (k4 + 1)), none, none]) (st1 := [.ref 1]) (fun _ _ => rfl) ?_
          refine gR_gfR (k := 0) (k' := 14) rfl rfl rfl rfl ?_
          refine gR_gfR (k := 14) (k' := 25) rfl rfl rfl rfl ?_
          refine gR_go 1 (pc1 := 54) (L1 := [some (.ref 1), some (.int x1), some (.int x2), some (.int x3), some (.int x4), some (.ref (k4 + 1)), none, none]) (st1 := [.int x3, .ref 26]) (fun _ _ => rfl) ?_
          obtain ⟨t14, e15, h⟩ := gb h
          refine gR_csI (wX10_at_s rfl e15) (Nat.le_of_ble_eq_true rfl) rfl rfl rfl rfl ?_
          refine gR_go 6 (pc1 := 66) (L1 := [some (.ref 1), some (.int x1), some (.int x2), some (.int x3), some (.int x4), some (.ref (k4 + 1)), some (.int t14), none]) (st1 := [.int (-1), .int (-1), .int t14, .ref (k4 + 1), .ref 1]) (fun _ _ => rfl) ?_
          obtain ⟨s17, e18, h⟩ := gb h
          refine gR_cvV (wX10_countFalse_s (wX10_lawInUse_q e3) e18) (Nat.le_of_ble_eq_true rfl) rfl rfl rfl rfl rfl ?_
          refine gR_go 1 (pc1 := 70) (L1 := [some (.ref 1), some (.int x1), some (.int x2), some (.int x3), some (.int x4), some (.ref (k4 + 1)), some (.int t14), none]) (st1 := [.ref 1]) (fun _ _ => rfl) ?_
          refine gR_gfR (k := 0) (k' := 33) rfl rfl rfl rfl ?_
          refine gR_go 1 (pc1 := 74) (L1 := [some (.ref 1), some (.int x1), some (.int x2), some (.int x3), some (.int x4), some (.ref (k4 + 1)), some (.int t14), none]) (st1 := [.ref 1, .ref 34]) (fun _ _ => rfl) ?_
          refine gR_gfR (k := 0) (k' := 14) rfl rfl rfl rfl ?_
          refine gR_gfR (k := 14) (k' := 24) rfl rfl rfl rfl ?_
          refine gR_go 1 (pc1 := 81) (L1 := [some (.ref 1), some (.int x1), some (.int x2), some (.int x3), some (.int x4), some (.ref (k4 + 1)), some (.int t14), none]) (st1 := [.int x3, .ref 25, .ref 34]) (fun _ _ => rfl) ?_
          obtain ⟨t19, e20, h⟩ := gb h
          refine gR_csI (wX10_at_s rfl e20) (Nat.le_of_ble_eq_true rfl) rfl rfl rfl rfl ?_
          obtain ⟨t21, e22, h⟩ := gb h
          refine gR_csI (wX10_at_s rfl e22) (Nat.le_of_ble_eq_true rfl) rfl rfl rfl rfl ?_
          refine gR_go 1 (pc1 := 88) (L1 := [some (.ref 1), some (.int x1), some (.int x2), some (.int x3), some (.int x4), some (.ref (k4 + 1)), some (.int t14), none]) (st1 := [.int x2, .int t21]) (fun _ _ => rfl) ?_
          rcases gif h with ⟨c23, h⟩ | ⟨c23, h⟩
          · refine gR_ic_gt_j rfl c23 rfl ?_
            refine gR_go 1 (pc1 := 96) (L1 := [some (.ref 1), some (.int x1), some (.int x2), some (.int x3), some (.int x4), some (.ref (k4 + 1)), some (.int t14), none]) (st1 := [.int 0]) (fun _ _ => rfl) ?_
            exact wX10_old_u96 h
          · refine gR_ic_gt_f rfl c23 ?_
            refine gR_go 2 (pc1 := 96) (L1 := [some (.ref 1), some (.int x1), some (.int x2), some (.int x3), some (.int x4), some (.ref (k4 + 1)), some (.int t14), none]) (st1 := [.int 1]) (fun _ _ => rfl) ?_
            exact wX10_old_u96 h
        · refine gR_iz_eq_f rfl c13 ?_
          refine gR_go 1 (pc1 := 45) (L1 := [some (.ref 1), some (.int x1), some (.int x2), some (.int x3), some (.int x4), some (.ref (k4 + 1)), none, none]) (st1 := [.int (-1)]) (fun _ _ => rfl) ?_
          obtain ⟨rfl, rfl⟩ := gi2 h
          exact gR_ri rfl rfl
      · refine gR_iz_ne_j rfl c10 rfl ?_
        refine gR_go 1 (pc1 := 45) (L1 := [some (.ref 1), some (.int x1), some (.int x2), some (.int x3), some (.int x4), some (.ref (k4 + 1)), none, none]) (st1 := [.int (-1)]) (fun _ _ => rfl) ?_
        obtain ⟨rfl, rfl⟩ := gi2 h
        exact gR_ri rfl rfl
    · refine gR_iz_ne_j rfl c7 rfl ?_
      refine gR_go 1 (pc1 := 45) (L1 := [some (.ref 1), some (.int x1), some (.int x2), some (.int x3), some (.int x4), some (.ref (k4 + 1)), none, none]) (st1 := [.int (-1)]) (fun _ _ => rfl) ?_
      obtain ⟨rfl, rfl⟩ := gi2 h
      exact gR_ri rfl rfl
noncomputable def wX10_count_j56 (x1 : Int32) (s : wS) : Option (Int32) := (wX0_manyOf 15 x1 s).bind fun t2 => some t2
theorem wX10_count_u56 {x1 : Int32} {s : wS} {rv : Int32} (h : wX10_count_j56 x1 s = some rv) : gRun 4 139 56 [some (.ref 1), some (.int x1)] [] (wmk s) (some (.int rv), wmk s, 0, 0) := by
  unfold wX10_count_j56 at h
  refine gR_go 1 (pc1 := 57) (L1 := [some (.ref 1), some (.int x1)]) (st1 := [.ref 1]) (fun _ _ => rfl) ?_
  refine gR_gfR (k := 0) (k' := 14) rfl rfl rfl rfl ?_
  refine gR_gfR (k := 14) (k' := 15) rfl rfl rfl rfl ?_
  refine gR_go 1 (pc1 := 64) (L1 := [some (.ref 1), some (.int x1)]) (st1 := [.int x1, .ref 16]) (fun _ _ => rfl) ?_
  obtain ⟨t2, e3, h⟩ := gb h
  refine gR_cvI (wX0_manyOf_s rfl e3) (Nat.le_of_ble_eq_true rfl) rfl rfl rfl rfl rfl ?_
  obtain rfl := gi1 h
  exact gR_ri rfl rfl
noncomputable def wX10_count (x1 : Int32) (s : wS) : Option (Int32) := if x1 = 0 then (wX10_count_j56 x1 s) else if x1 = 1 then (wX10_count_j56 x1 s) else if x1 = 2 then (wX10_count_j56 x1 s) else if x1 = 3 then (some (s.1 0 6)) else if x1 = 4 then (some (s.1 14 6)) else if x1 = 5 then ((wX2_struckOnes 14 s).bind fun t9 => some t9) else if x1 = 6 then ((wX2_lookedAtOnes 14 s).bind fun t12 => some t12) else if x1 = 7 then (some (s.1 14 10)) else if x1 = 8 then (some (s.1 14 11)) else if x1 = 9 then (some (s.1 1 1)) else (some (-1))
theorem wX10_count_s {x1 : Int32} {s : wS} {rv : Int32} (h : wX10_count x1 s = some rv) : gEv 5 139 [.ref 1, .int x1] (wmk s) (some (.int rv), wmk s, 0, 0) := by
  refine gEv_of (d := 4) (L := [some (.ref 1), some (.int x1)]) rfl ?_
  unfold wX10_count at h
  refine gR_go 1 (pc1 := 1) (L1 := [some (.ref 1), some (.int x1)]) (st1 := [.int x1]) (fun _ _ => rfl) ?_
  rcases gif h with ⟨c1, h⟩ | ⟨c1, h⟩
  · refine gR_sw_k rfl c1 rfl rfl ?_
    exact wX10_count_u56 h
  · rcases gif h with ⟨c4, h⟩ | ⟨c4, h⟩
    · refine gR_sw_k rfl c4 rfl rfl ?_
      exact wX10_count_u56 h
    · rcases gif h with ⟨c5, h⟩ | ⟨c5, h⟩
      · refine gR_sw_k rfl c5 rfl rfl ?_
        exact wX10_count_u56 h
      · rcases gif h with ⟨c6, h⟩ | ⟨c6, h⟩
        · refine gR_sw_k rfl c6 rfl rfl ?_
          refine gR_go 1 (pc1 := 69) (L1 := [some (.ref 1), some (.int x1)]) (st1 := [.ref 1]) (fun _ _ => rfl) ?_
          refine gR_gfI (k := 0) rfl rfl rfl ?_
          obtain rfl := gi1 h
          exact gR_ri rfl rfl
        · rcases gif h with ⟨c7, h⟩ | ⟨c7, h⟩
          · refine gR_sw_k rfl c7 rfl rfl ?_
            refine gR_go 1 (pc1 := 74) (L1 := [some (.ref 1), some (.int x1)]) (st1 := [.ref 1]) (fun _ _ => rfl) ?_
            refine gR_gfR (k := 0) (k' := 14) rfl rfl rfl rfl ?_
            refine gR_gfI (k := 14) rfl rfl rfl ?_
            obtain rfl := gi1 h
            exact gR_ri rfl rfl
          · rcases gif h with ⟨c8, h⟩ | ⟨c8, h⟩
            · refine gR_sw_k rfl c8 rfl rfl ?_
              refine gR_go 1 (pc1 := 82) (L1 := [some (.ref 1), some (.int x1)]) (st1 := [.ref 1]) (fun _ _ => rfl) ?_
              refine gR_gfR (k := 0) (k' := 14) rfl rfl rfl rfl ?_
              obtain ⟨t9, e10, h⟩ := gb h
              refine gR_cvI (wX2_struckOnes_s rfl e10) (Nat.le_of_ble_eq_true rfl) rfl rfl rfl rfl rfl ?_
              obtain rfl := gi1 h
              exact gR_ri rfl rfl
            · rcases gif h with ⟨c11, h⟩ | ⟨c11, h⟩
              · refine gR_sw_k rfl c11 rfl rfl ?_
                refine gR_go 1 (pc1 := 90) (L1 := [some (.ref 1), some (.int x1)]) (st1 := [.ref 1]) (fun _ _ => rfl) ?_
                refine gR_gfR (k := 0) (k' := 14) rfl rfl rfl rfl ?_
                obtain ⟨t12, e13, h⟩ := gb h
                refine gR_cvI (wX2_lookedAtOnes_s rfl e13) (Nat.le_of_ble_eq_true rfl) rfl rfl rfl rfl rfl ?_
                obtain rfl := gi1 h
                exact gR_ri rfl rfl
              · rcases gif h with ⟨c14, h⟩ | ⟨c14, h⟩
                · refine gR_sw_k rfl c14 rfl rfl ?_
                  refine gR_go 1 (pc1 := 98) (L1 := [some (.ref 1), some (.int x1)]) (st1 := [.ref 1]) (fun _ _ => rfl) ?_
                  refine gR_gfR (k := 0) (k' := 14) rfl rfl rfl rfl ?_
                  refine gR_gfI (k := 14) rfl rfl rfl ?_
                  obtain rfl := gi1 h
                  exact gR_ri rfl rfl
                · rcases gif h with ⟨c15, h⟩ | ⟨c15, h⟩
                  · refine gR_sw_k rfl c15 rfl rfl ?_
                    refine gR_go 1 (pc1 := 106) (L1 := [some (.ref 1), some (.int x1)]) (st1 := [.ref 1]) (fun _ _ => rfl) ?_
                    refine gR_gfR (k := 0) (k' := 14) rfl rfl rfl rfl ?_
                    refine gR_gfI (k := 14) rfl rfl rfl ?_
                    obtain rfl := gi1 h
                    exact gR_ri rfl rfl
                  · rcases gif h with ⟨c16, h⟩ | ⟨c16, h⟩
                    · refine gR_sw_k rfl c16 rfl rfl ?_
                      refine gR_go 1 (pc1 := 114) (L1 := [some (.ref 1), some (.int x1)]) (st1 := [.ref 1]) (fun _ _ => rfl) ?_
                      refine gR_gfR (k := 0) (k' := 1) rfl rfl rfl rfl ?_
                      refine gR_gfI (k := 1) rfl rfl rfl ?_
                      obtain rfl := gi1 h
                      exact gR_ri rfl rfl
                    · refine gR_sw_d [0, 1, 2, 3, 4, 5, 6, 7, 8, 9] rfl (gl1 c1 (gl1 c4 (gl1 c5 (gl1 c6 (gl1 c7 (gl1 c8 (gl1 c11 (gl1 c14 (gl1 c15 (gl1 c16 gl0)))))))))) (by decide) (by decide) rfl ?_
                      refine gR_go 1 (pc1 := 122) (L1 := [some (.ref 1), some (.int x1)]) (st1 := [.int (-1)]) (fun _ _ => rfl) ?_
                      obtain rfl := gi1 h
                      exact gR_ri rfl rfl
noncomputable def wX10_image (x1 : Int32) (s : wS) : Option (Int32 × wS) := (wX10_isOutside x1 4 s).bind fun t1 => if t1 = 0 then ((wldR 26 4 x1).bind fun k4 => (wldR 26 4 x1).bind fun k5 => (wX2_becomes k5 14 s).bind fun s7 => (wstZ s7 27 4 x1 1).bind fun s9 => some ((s9.1 14 6), s9)) else (some ((-1), s))
theorem wX10_image_s {x1 : Int32} {s : wS} {rv : Int32} {rs : wS} (h : wX10_image x1 s = some (rv, rs)) : gEv 3 140 [.ref 1, .int x1] (wmk s) (some (.int rv), wmk rs, 0, 0) := by
  refine gEv_of (d := 2) (L := [some (.ref 1), some (.int x1)]) rfl ?_
  unfold wX10_image at h
  refine gR_go 2 (pc1 := 2) (L1 := [some (.ref 1), some (.int x1)]) (st1 := [.int 4, .int x1]) (fun _ _ => rfl) ?_
  obtain ⟨t1, e2, h⟩ := gb h
  refine gR_csI (wX10_isOutside_s e2) (Nat.le_of_ble_eq_true rfl) rfl rfl rfl rfl ?_
  rcases gif h with ⟨c3, h⟩ | ⟨c3, h⟩
  · refine gR_iz_ne_f rfl c3 ?_
    refine gR_go 1 (pc1 := 9) (L1 := [some (.ref 1), some (.int x1)]) (st1 := [.ref 1]) (fun _ _ => rfl) ?_
    refine gR_gfR (k := 0) (k' := 26) rfl rfl rfl rfl ?_
    refine gR_go 1 (pc1 := 13) (L1 := [some (.ref 1), some (.int x1)]) (st1 := [.int x1, .ref 27]) (fun _ _ => rfl) ?_
    obtain ⟨k4, ek4, h⟩ := gb h
    refine gR_aal (k := 26) rfl rfl rfl ek4 ?_
    refine gR_ifnonnull_r_j rfl rfl ?_
    refine gR_go 1 (pc1 := 20) (L1 := [some (.ref 1), some (.int x1)]) (st1 := [.ref 1]) (fun _ _ => rfl) ?_
    refine gR_gfR (k := 0) (k' := 26) rfl rfl rfl rfl ?_
    refine gR_go 1 (pc1 := 24) (L1 := [some (.ref 1), some (.int x1)]) (st1 := [.int x1, .ref 27]) (fun _ _ => rfl) ?_
    obtain ⟨k5, ek5, h⟩ := gb h
    refine gR_aal (k := 26) rfl rfl rfl ek5 ?_
    refine gR_go 1 (pc1 := 26) (L1 := [some (.ref 1), some (.int x1)]) (st1 := [.ref 1, .ref (k5 + 1)]) (fun _ _ => rfl) ?_
    refine gR_gfR (k := 0) (k' := 14) rfl rfl rfl rfl ?_
    obtain ⟨s7, e8, h⟩ := gb h
    refine gR_cvV (wX2_becomes_s (wldR_2 ek5) rfl e8) (Nat.le_of_ble_eq_true rfl) rfl rfl (wldR_2 ek5) rfl rfl ?_
    refine gR_go 1 (pc1 := 33) (L1 := [some (.ref 1), some (.int x1)]) (st1 := [.ref 1]) (fun _ _ => rfl) ?_
    refine gR_gfR (k := 0) (k' := 27) rfl rfl rfl rfl ?_
    refine gR_go 2 (pc1 := 38) (L1 := [some (.ref 1), some (.int x1)]) (st1 := [.int 1, .int x1, .ref 28]) (fun _ _ => rfl) ?_
    obtain ⟨s9, es9, h⟩ := gb h
    refine gR_zas (k := 27) rfl rfl rfl es9 ?_
    refine gR_go 1 (pc1 := 40) (L1 := [some (.ref 1), some (.int x1)]) (st1 := [.ref 1]) (fun _ _ => rfl) ?_
    refine gR_gfR (k := 0) (k' := 14) rfl rfl rfl rfl ?_
    refine gR_gfI (k := 14) rfl rfl rfl ?_
    obtain ⟨rfl, rfl⟩ := gi2 h
    exact gR_ri rfl rfl
  · refine gR_iz_ne_j rfl c3 rfl ?_
    refine gR_go 1 (pc1 := 18) (L1 := [some (.ref 1), some (.int x1)]) (st1 := [.int (-1)]) (fun _ _ => rfl) ?_
    obtain ⟨rfl, rfl⟩ := gi2 h
    exact gR_ri rfl rfl
noncomputable def wX10_back (x1 : Int32) (s : wS) : Option (Int32 × wS) := (wX10_isOutside x1 4 s).bind fun t1 => if t1 = 0 then ((wldI s 27 4 x1).bind fun t4 => if t4 = 0 then (some ((-1), s)) else ((wldR 26 4 x1).bind fun k6 => (wldR 26 4 x1).bind fun k7 => (wX2_becomes 14 k7 s).bind fun s9 => (wX10_courtIsAnother s9).bind fun s12 => some ((s12.1 14 6), s12))) else (some ((-1), s))
theorem wX10_back_s {x1 : Int32} {s : wS} {rv : Int32} {rs : wS} (h : wX10_back x1 s = some (rv, rs)) : gEv 5 141 [.ref 1, .int x1] (wmk s) (some (.int rv), wmk rs, 0, 0) := by
  refine gEv_of (d := 4) (L := [some (.ref 1), some (.int x1)]) rfl ?_
  unfold wX10_back at h
  refine gR_go 2 (pc1 := 2) (L1 := [some (.ref 1), some (.int x1)]) (st1 := [.int 4, .int x1]) (fun _ _ => rfl) ?_
  obtain ⟨t1, e2, h⟩ := gb h
  refine gR_csI (wX10_isOutside_s e2) (Nat.le_of_ble_eq_true rfl) rfl rfl rfl rfl ?_
  rcases gif h with ⟨c3, h⟩ | ⟨c3, h⟩
  · refine gR_iz_ne_f rfl c3 ?_
    refine gR_go 1 (pc1 := 9) (L1 := [some (.ref 1), some (.int x1)]) (st1 := [.ref 1]) (fun _ _ => rfl) ?_
    refine gR_gfR (k := 0) (k' := 27) rfl rfl rfl rfl ?_
    refine gR_go 1 (pc1 := 13) (L1 := [some (.ref 1), some (.int x1)]) (st1 := [.int x1, .ref 28]) (fun _ _ => rfl) ?_
    obtain ⟨t4, et4, h⟩ := gb h
    refine gR_zal (k := 27) rfl rfl rfl et4 ?_
    rcases gif h with ⟨c5, h⟩ | ⟨c5, h⟩
    · refine gR_iz_eq_j rfl c5 rfl ?_
      refine gR_go 1 (pc1 := 27) (L1 := [some (.ref 1), some (.int x1)]) (st1 := [.int (-1)]) (fun _ _ => rfl) ?_
      obtain ⟨rfl, rfl⟩ := gi2 h
      exact gR_ri rfl rfl
    · refine gR_iz_eq_f rfl c5 ?_
      refine gR_go 1 (pc1 := 18) (L1 := [some (.ref 1), some (.int x1)]) (st1 := [.ref 1]) (fun _ _ => rfl) ?_
      refine gR_gfR (k := 0) (k' := 26) rfl rfl rfl rfl ?_
      refine gR_go 1 (pc1 := 22) (L1 := [some (.ref 1), some (.int x1)]) (st1 := [.int x1, .ref 27]) (fun _ _ => rfl) ?_
      obtain ⟨k6, ek6, h⟩ := gb h
      refine gR_aal (k := 26) rfl rfl rfl ek6 ?_
      refine gR_ifnonnull_r_j rfl rfl ?_
      refine gR_go 1 (pc1 := 29) (L1 := [some (.ref 1), some (.int x1)]) (st1 := [.ref 1]) (fun _ _ => rfl) ?_
      refine gR_gfR (k := 0) (k' := 14) rfl rfl rfl rfl ?_
      refine gR_go 1 (pc1 := 33) (L1 := [some (.ref 1), some (.int x1)]) (st1 := [.ref 1, .ref 15]) (fun _ _ => rfl) ?_
      refine gR_gfR (k := 0) (k' := 26) rfl rfl rfl rfl ?_
      refine gR_go 1 (pc1 := 37) (L1 := [some (.ref 1), some (.int x1)]) (st1 := [.int x1, .ref 27, .ref 15]) (fun _ _ => rfl) ?_
      obtain ⟨k7, ek7, h⟩ := gb h
      refine gR_aal (k := 26) rfl rfl rfl ek7 ?_
      obtain ⟨s9, e10, h⟩ := gb h
      refine gR_cvV (wX2_becomes_s rfl (wldR_2 ek7) e10) (Nat.le_of_ble_eq_true rfl) rfl rfl rfl rfl rfl ?_
      refine gR_go 1 (pc1 := 42) (L1 := [some (.ref 1), some (.int x1)]) (st1 := [.ref 1]) (fun _ _ => rfl) ?_
      obtain ⟨s12, e13, h⟩ := gb h
      refine gR_cvV (wX10_courtIsAnother_s e13) (Nat.le_of_ble_eq_true rfl) rfl rfl rfl rfl rfl ?_
      refine gR_go 1 (pc1 := 46) (L1 := [some (.ref 1), some (.int x1)]) (st1 := [.ref 1]) (fun _ _ => rfl) ?_
      refine gR_gfR (k := 0) (k' := 14) rfl rfl rfl rfl ?_
      refine gR_gfI (k := 14) rfl rfl rfl ?_
      obtain ⟨rfl, rfl⟩ := gi2 h
      exact gR_ri rfl rfl
  · refine gR_iz_ne_j rfl c3 rfl ?_
    refine gR_go 1 (pc1 := 27) (L1 := [some (.ref 1), some (.int x1)]) (st1 := [.int (-1)]) (fun _ _ => rfl) ?_
    obtain ⟨rfl, rfl⟩ := gi2 h
    exact gR_ri rfl rfl
noncomputable def wX11_in (x0 : Int64) (x2 : Int64) (x4 : Int64) (s : wS) : Option (Int32) := if x0 < x2 then (some 0) else (if x4 < x0 then (some 0) else (some 1))
theorem wX11_in_s {x0 : Int64} {x2 : Int64} {x4 : Int64} {s : wS} {rv : Int32} (h : wX11_in x0 x2 x4 s = some rv) : gEv 1 169 [.long x0, .long x2, .long x4] (wmk s) (some (.int rv), wmk s, 0, 0) := by
  refine gEv_of (d := 0) (L := [some (.long x0), none, some (.long x2), none, some (.long x4), none]) rfl ?_
  unfold wX11_in at h
  refine gR_go 3 (pc1 := 3) (L1 := [some (.long x0), none, some (.long x2), none, some (.long x4), none]) (st1 := [.int (lg_cmp x0 x2)]) (fun _ _ => rfl) ?_
  rcases gif h with ⟨c1, h⟩ | ⟨c1, h⟩
  · refine gR_lc_lt_j rfl c1 rfl ?_
    refine gR_go 1 (pc1 := 18) (L1 := [some (.long x0), none, some (.long x2), none, some (.long x4), none]) (st1 := [.int 0]) (fun _ _ => rfl) ?_
    obtain rfl := gi1 h
    exact gR_rzc rfl rfl rfl
  · refine gR_lc_lt_f rfl c1 ?_
    refine gR_go 3 (pc1 := 10) (L1 := [some (.long x0), none, some (.long x2), none, some (.long x4), none]) (st1 := [.int (lg_cmp x0 x4)]) (fun _ _ => rfl) ?_
    rcases gif h with ⟨c2, h⟩ | ⟨c2, h⟩
    · refine gR_lc_gt_j rfl c2 rfl ?_
      refine gR_go 1 (pc1 := 18) (L1 := [some (.long x0), none, some (.long x2), none, some (.long x4), none]) (st1 := [.int 0]) (fun _ _ => rfl) ?_
      obtain rfl := gi1 h
      exact gR_rzc rfl rfl rfl
    · refine gR_lc_gt_f rfl c2 ?_
      refine gR_go 2 (pc1 := 18) (L1 := [some (.long x0), none, some (.long x2), none, some (.long x4), none]) (st1 := [.int 1]) (fun _ _ => rfl) ?_
      obtain rfl := gi1 h
      exact gR_rzc rfl rfl rfl
noncomputable def wX11_bits_h4 (s : wS) : Nat → Int32 → Int64 → Option (Int32)
  | 0, _, _ => none
  | n + 1, x2, x3 => if x3 = 0 then (some x2) else (wX11_bits_h4 s n (x2 + 1) (x3 &&& (x3 - 1)))
theorem wX11_bits_t4 {s : wS} {x : Int32} {r : ri_R} (he22 : ∀ (x2 : Int32) (w0 : Int64) (w3 : Int64) , x = x2 → gRun 0 170 22 [some (.long w0), none, some (.int x2), some (.long w3), none] [] (wmk s) r) : ∀ {n : Nat} {x2 : Int32} {x3 : Int64} {w0 : Int64} , wX11_bits_h4 s n x2 x3 = some x → gRun 0 170 4 [some (.long w0), none, some (.int x2), some (.long x3), none] [] (wmk s) r := by
  intro n
  induction n with
  | zero => intro x2 x3 w0 h; cases (show (none : Option (Int32)) = some x from h)
  | succ n ih =>
    intro x2 x3 w0 h
    rw [wX11_bits_h4] at h
    refine gR_go 3 (pc1 := 7) (L1 := [some (.long w0), none, some (.int x2), some (.long x3), none]) (st1 := [.int (lg_cmp x3 0)]) (fun _ _ => rfl) ?_
    rcases gif h with ⟨c1, h⟩ | ⟨c1, h⟩
    · refine gR_lc_eq_j rfl c1 rfl ?_
      exact he22 _ _ _ (Option.some.inj h).symm
    · refine gR_lc_eq_f rfl c1 ?_
      refine gR_go 8 (pc1 := 4) (L1 := [some (.long w0), none, some (.int (x2 + 1)), some (.long (x3 &&& (x3 - 1))), none]) (st1 := []) (fun _ _ => rfl) ?_
      exact ih h
noncomputable def wX11_bits (x0 : Int64) (s : wS) : Option (Int32) := (wX11_bits_h4 s wFuel 0 x0).bind fun t3 => some t3
theorem wX11_bits_s {x0 : Int64} {s : wS} {rv : Int32} (h : wX11_bits x0 s = some rv) : gEv 1 170 [.long x0] (wmk s) (some (.int rv), wmk s, 0, 0) := by
  refine gEv_of (d := 0) (L := [some (.long x0), none, none, none, none]) rfl ?_
  unfold wX11_bits at h
  refine gR_go 4 (pc1 := 4) (L1 := [some (.long x0), none, some (.int 0), some (.long x0), none]) (st1 := []) (fun _ _ => rfl) ?_
  obtain ⟨z2, ez2, h⟩ := gb h
  refine wX11_bits_t4 ?_  ez2
  · intro t3 w4 w5 hz
    replace hz := hz.symm
    subst hz
    refine gR_go 1 (pc1 := 23) (L1 := [some (.long w4), none, some (.int t3), some (.long w5), none]) (st1 := [.int t3]) (fun _ _ => rfl) ?_
    obtain rfl := gi1 h
    exact gR_ri rfl rfl
noncomputable def wX11_four_h3 (x1 : Int32) : Nat → Int32 → wS → Option (wS)
  | 0, _, _ => none
  | n + 1, x2, s => if x2 < 0 then (some s) else ((wstB s 153 400 (s.1 152 1) (((x1 >>> (x2 &&& 31))).toInt8.toInt32)).bind fun s2 => (wpfI s2 152 1 ((s2.1 152 1) + 1)).bind fun s3 => wX11_four_h3 x1 n (x2 + (-8)) s3)
theorem wX11_four_t3 {x1 : Int32} {x : wS} {r : ri_R} (he36 : ∀ (s : wS) (w1 : Int32) (w2 : Int32) , x = s → gRun 0 171 36 [some (.ref 153), some (.int w1), some (.int w2)] [] (wmk s) r) : ∀ {n : Nat} {x2 : Int32} {s : wS} , wX11_four_h3 x1 n x2 s = some x → gRun 0 171 3 [some (.ref 153), some (.int x1), some (.int x2)] [] (wmk s) r := by
  intro n
  induction n with
  | zero => intro x2 s h; cases (show (none : Option (wS)) = some x from h)
  | succ n ih =>
    intro x2 s h
    rw [wX11_four_h3] at h
    refine gR_go 1 (pc1 := 4) (L1 := [some (.ref 153), some (.int x1), some (.int x2)]) (st1 := [.int x2]) (fun _ _ => rfl) ?_
    rcases gif h with ⟨c1, h⟩ | ⟨c1, h⟩
    · refine gR_iz_lt_j rfl c1 rfl ?_
      exact he36 _ _ _ (Option.some.inj h).symm
    · refine gR_iz_lt_f rfl c1 ?_
      refine gR_go 1 (pc1 := 8) (L1 := [some (.ref 153), some (.int x1), some (.int x2)]) (st1 := [.ref 153]) (fun _ _ => rfl) ?_
      refine gR_gfR (k := 152) (k' := 153) rfl rfl rfl rfl ?_
      refine gR_go 1 (pc1 := 12) (L1 := [some (.ref 153), some (.int x1), some (.int x2)]) (st1 := [.ref 153, .ref 154]) (fun _ _ => rfl) ?_
      refine gR_gfI (k := 152) rfl rfl rfl ?_
      refine gR_go 4 (pc1 := 19) (L1 := [some (.ref 153), some (.int x1), some (.int x2)]) (st1 := [.int (((x1 >>> (x2 &&& 31))).toInt8.toInt32), .int (s.1 152 1), .ref 154]) (fun _ _ => rfl) ?_
      obtain ⟨s2, es2, h⟩ := gb h
      refine gR_bas (k := 153) rfl rfl rfl es2 ?_
      refine gR_go 2 (pc1 := 22) (L1 := [some (.ref 153), some (.int x1), some (.int x2)]) (st1 := [.ref 153, .ref 153]) (fun _ _ => rfl) ?_
      refine gR_gfI (k := 152) rfl rfl rfl ?_
      refine gR_go 2 (pc1 := 27) (L1 := [some (.ref 153), some (.int x1), some (.int x2)]) (st1 := [.int ((s2.1 152 1) + 1), .ref 153]) (fun _ _ => rfl) ?_
      obtain ⟨s3, es3, h⟩ := gb h
      refine gR_pfI (k := 152) rfl rfl rfl rfl es3 ?_
      refine gR_incn (v := (-8)) (L1 := [some (.ref 153), some (.int x1), some (.int (x2 + (-8)))]) rfl rfl rfl (by decide) rfl ?_
      refine gR_go 1 (pc1 := 3) (L1 := [some (.ref 153), some (.int x1), some (.int (x2 + (-8)))]) (st1 := []) (fun _ _ => rfl) ?_
      exact ih h
noncomputable def wX11_four (x1 : Int32) (s : wS) : Option (wS) := (wX11_four_h3 x1 wFuel 24 s).bind fun s5 => some s5
theorem wX11_four_s {x1 : Int32} {s : wS} {rs : wS} (h : wX11_four x1 s = some rs) : gEv 1 171 [.ref 153, .int x1] (wmk s) (none, wmk rs, 0, 0) := by
  refine gEv_of (d := 0) (L := [some (.ref 153), some (.int x1), none]) rfl ?_
  unfold wX11_four at h
  refine gR_go 2 (pc1 := 3) (L1 := [some (.ref 153), some (.int x1), some (.int 24)]) (st1 := []) (fun _ _ => rfl) ?_
  obtain ⟨z4, ez4, h⟩ := gb h
  refine wX11_four_t3 ?_  ez4
  · intro s5 w6 w7 hz
    replace hz := hz.symm
    subst hz
    obtain rfl := gi1 h
    exact gR_rv rfl rfl
noncomputable def wX11_feed (x1 : Int32) (x2 : Int32) (x3 : Int32) (x4 : Int32) (x5 : Int32) (s : wS) : Option (Int32 × wS) := if 400 < ((s.1 152 1) + 20) then (some ((-1), s)) else ((wX11_four x1 s).bind fun s3 => (wX11_four x2 s3).bind fun s6 => (wX11_four x3 s6).bind fun s9 => (wX11_four x4 s9).bind fun s12 => (wX11_four x5 s12).bind fun s15 => some ((s15.1 152 1), s15))
theorem wX11_feed_s {x1 : Int32} {x2 : Int32} {x3 : Int32} {x4 : Int32} {x5 : Int32} {s : wS} {rv : Int32} {rs : wS} (h : wX11_feed x1 x2 x3 x4 x5 s = some (rv, rs)) : gEv 2 172 [.ref 153, .int x1, .int x2, .int x3, .int x4, .int x5] (wmk s) (some (.int rv), wmk rs, 0, 0) := by
  refine gEv_of (d := 1) (L := [some (.ref 153), some (.int x1), some (.int x2), some (.int x3), some (.int x4), some (.int x5)]) rfl ?_
  unfold wX11_feed at h
  refine gR_go 1 (pc1 := 1) (L1 := [some (.ref 153), some (.int x1), some (.int x2), some (.int x3), some (.int x4), some (.int x5)]) (st1 := [.ref 153]) (fun _ _ => rfl) ?_
  refine gR_gfI (k := 152) rfl rfl rfl ?_
  refine gR_go 3 (pc1 := 10) (L1 := [some (.ref 153), some (.int x1), some (.int x2), some (.int x3), some (.int x4), some (.int x5)]) (st1 := [.int 400, .int ((s.1 152 1) + 20)]) (fun _ _ => rfl) ?_
  rcases gif h with ⟨c1, h⟩ | ⟨c1, h⟩
  · refine gR_ic_le_f rfl c1 ?_
    refine gR_go 1 (pc1 := 14) (L1 := [some (.ref 153), some (.int x1), some (.int x2), some (.int x3), some (.int x4), some (.int x5)]) (st1 := [.int (-1)]) (fun _ _ => rfl) ?_
    obtain ⟨rfl, rfl⟩ := gi2 h
    exact gR_ri rfl rfl
  · refine gR_ic_le_j rfl c1 rfl ?_
    refine gR_go 2 (pc1 := 17) (L1 := [some (.ref 153), some (.int x1), some (.int x2), some (.int x3), some (.int x4), some (.int x5)]) (st1 := [.int x1, .ref 153]) (fun _ _ => rfl) ?_
    obtain ⟨s3, e4, h⟩ := gb h
    refine gR_cvV (wX11_four_s e4) (Nat.le_of_ble_eq_true rfl) rfl rfl rfl rfl rfl ?_
    refine gR_go 2 (pc1 := 22) (L1 := [some (.ref 153), some (.int x1), some (.int x2), some (.int x3), some (.int x4), some (.int x5)]) (st1 := [.int x2, .ref 153]) (fun _ _ => rfl) ?_
    obtain ⟨s6, e7, h⟩ := gb h
    refine gR_cvV (wX11_four_s e7) (Nat.le_of_ble_eq_true rfl) rfl rfl rfl rfl rfl ?_
    refine gR_go 2 (pc1 := 27) (L1 := [some (.ref 153), some (.int x1), some (.int x2), some (.int x3), some (.int x4), some (.int x5)]) (st1 := [.int x3, .ref 153]) (fun _ _ => rfl) ?_
    obtain ⟨s9, e10, h⟩ := gb h
    refine gR_cvV (wX11_four_s e10) (Nat.le_of_ble_eq_true rfl) rfl rfl rfl rfl rfl ?_
    refine gR_go 2 (pc1 := 33) (L1 := [some (.ref 153), some (.int x1), some (.int x2), some (.int x3), some (.int x4), some (.int x5)]) (st1 := [.int x4, .ref 153]) (fun _ _ => rfl) ?_
    obtain ⟨s12, e13, h⟩ := gb h
    refine gR_cvV (wX11_four_s e13) (Nat.le_of_ble_eq_true rfl) rfl rfl rfl rfl rfl ?_
    refine gR_go 2 (pc1 := 39) (L1 := [some (.ref 153), some (.int x1), some (.int x2), some (.int x3), some (.int x4), some (.int x5)]) (st1 := [.int x5, .ref 153]) (fun _ _ => rfl) ?_
    obtain ⟨s15, e16, h⟩ := gb h
    refine gR_cvV (wX11_four_s e16) (Nat.le_of_ble_eq_true rfl) rfl rfl rfl rfl rfl ?_
    refine gR_go 1 (pc1 := 43) (L1 := [some (.ref 153), some (.int x1), some (.int x2), some (.int x3), some (.int x4), some (.int x5)]) (st1 := [.ref 153]) (fun _ _ => rfl) ?_
    refine gR_gfI (k := 152) rfl rfl rfl ?_
    obtain ⟨rfl, rfl⟩ := gi2 h
    exact gR_ri rfl rfl
noncomputable def wX11_end (x1 : Int32) (s : wS) : Option (Int32 × wS) := if x1 < 0 then (some ((-1), s)) else (if (s.1 152 1) < x1 then (some ((-1), s)) else ((wpfI s 152 1 x1).bind fun s3 => some (x1, s3)))
theorem wX11_end_s {x1 : Int32} {s : wS} {rv : Int32} {rs : wS} (h : wX11_end x1 s = some (rv, rs)) : gEv 1 173 [.ref 153, .int x1] (wmk s) (some (.int rv), wmk rs, 0, 0) := by
  refine gEv_of (d := 0) (L := [some (.ref 153), some (.int x1)]) rfl ?_
  unfold wX11_end at h
  refine gR_go 1 (pc1 := 1) (L1 := [some (.ref 153), some (.int x1)]) (st1 := [.int x1]) (fun _ _ => rfl) ?_
  rcases gif h with ⟨c1, h⟩ | ⟨c1, h⟩
  · refine gR_iz_lt_j rfl c1 rfl ?_
    refine gR_go 1 (pc1 := 13) (L1 := [some (.ref 153), some (.int x1)]) (st1 := [.int (-1)]) (fun _ _ => rfl) ?_
    obtain ⟨rfl, rfl⟩ := gi2 h
    exact gR_ri rfl rfl
  · refine gR_iz_lt_f rfl c1 ?_
    refine gR_go 2 (pc1 := 6) (L1 := [some (.ref 153), some (.int x1)]) (st1 := [.ref 153, .int x1]) (fun _ _ => rfl) ?_
    refine gR_gfI (k := 152) rfl rfl rfl ?_
    rcases gif h with ⟨c2, h⟩ | ⟨c2, h⟩
    · refine gR_ic_le_f rfl c2 ?_
      refine gR_go 1 (pc1 := 13) (L1 := [some (.ref 153), some (.int x1)]) (st1 := [.int (-1)]) (fun _ _ => rfl) ?_
      obtain ⟨rfl, rfl⟩ := gi2 h
      exact gR_ri rfl rfl
    · refine gR_ic_le_j rfl c2 rfl ?_
      refine gR_go 2 (pc1 := 16) (L1 := [some (.ref 153), some (.int x1)]) (st1 := [.int x1, .ref 153]) (fun _ _ => rfl) ?_
      obtain ⟨s3, es3, h⟩ := gb h
      refine gR_pfI (k := 152) rfl rfl rfl rfl es3 ?_
      refine gR_go 1 (pc1 := 20) (L1 := [some (.ref 153), some (.int x1)]) (st1 := [.int x1]) (fun _ _ => rfl) ?_
      obtain ⟨rfl, rfl⟩ := gi2 h
      exact gR_ri rfl rfl
noncomputable def wX11_fails (x1 : Int32) (x2 : Int32) (s : wS) : Option (Int32 × wS) := if (s.1 152 13) = 0 then ((wpfI s 152 13 ((1 + (8 * x2)) + x1)).bind fun s2 => some (0, s2)) else (some (0, s))
theorem wX11_fails_s {x1 : Int32} {x2 : Int32} {s : wS} {rv : Int32} {rs : wS} (h : wX11_fails x1 x2 s = some (rv, rs)) : gEv 1 174 [.ref 153, .int x1, .int x2] (wmk s) (some (.int rv), wmk rs, 0, 0) := by
  refine gEv_of (d := 0) (L := [some (.ref 153), some (.int x1), some (.int x2)]) rfl ?_
  unfold wX11_fails at h
  refine gR_go 1 (pc1 := 1) (L1 := [some (.ref 153), some (.int x1), some (.int x2)]) (st1 := [.ref 153]) (fun _ _ => rfl) ?_
  refine gR_gfI (k := 152) rfl rfl rfl ?_
  rcases gif h with ⟨c1, h⟩ | ⟨c1, h⟩
  · refine gR_iz_ne_f rfl c1 ?_
    refine gR_go 8 (pc1 := 16) (L1 := [some (.ref 153), some (.int x1), some (.int x2)]) (st1 := [.int ((1 + (8 * x2)) + x1), .ref 153]) (fun _ _ => rfl) ?_
    obtain ⟨s2, es2, h⟩ := gb h
    refine gR_pfI (k := 152) rfl rfl rfl rfl es2 ?_
    refine gR_go 1 (pc1 := 20) (L1 := [some (.ref 153), some (.int x1), some (.int x2)]) (st1 := [.int 0]) (fun _ _ => rfl) ?_
    obtain ⟨rfl, rfl⟩ := gi2 h
    exact gR_rzc rfl rfl rfl
  · refine gR_iz_ne_j rfl c1 rfl ?_
    refine gR_go 1 (pc1 := 20) (L1 := [some (.ref 153), some (.int x1), some (.int x2)]) (st1 := [.int 0]) (fun _ _ => rfl) ?_
    obtain ⟨rfl, rfl⟩ := gi2 h
    exact gR_rzc rfl rfl rfl
noncomputable def wX11_see_h0 : Nat → wS → Option (wS)
  | 0, _ => none
  | n + 1, s => if (s.1 152 12) < (s.1 152 1) then ((wldI s 153 400 (s.1 152 12)).bind fun t2 => if t2 = 32 then ((wpfI s 152 12 ((s.1 152 12) + 1)).bind fun s4 => wX11_see_h0 n s4) else (some s)) else (some s)
theorem wX11_see_t0 {x : wS} {r : ri_R} (he38 : ∀ (s : wS) , x = s → gRun 0 175 38 [some (.ref 153)] [] (wmk s) r) : ∀ {n : Nat} {s : wS} , wX11_see_h0 n s = some x → gRun 0 175 0 [some (.ref 153)] [] (wmk s) r := by
  intro n
  induction n with
  | zero => intro s h; cases (show (none : Option (wS)) = some x from h)
  | succ n ih =>
    intro s h
    rw [wX11_see_h0] at h
    refine gR_go 1 (pc1 := 1) (L1 := [some (.ref 153)]) (st1 := [.ref 153]) (fun _ _ => rfl) ?_
    refine gR_gfI (k := 152) rfl rfl rfl ?_
    refine gR_go 1 (pc1 := 5) (L1 := [some (.ref 153)]) (st1 := [.ref 153, .int (s.1 152 12)]) (fun _ _ => rfl) ?_
    refine gR_gfI (k := 152) rfl rfl rfl ?_
    rcases gif h with ⟨c1, h⟩ | ⟨c1, h⟩
    · refine gR_ic_ge_f rfl c1 ?_
      refine gR_go 1 (pc1 := 12) (L1 := [some (.ref 153)]) (st1 := [.ref 153]) (fun _ _ => rfl) ?_
      refine gR_gfR (k := 152) (k' := 153) rfl rfl rfl rfl ?_
      refine gR_go 1 (pc1 := 16) (L1 := [some (.ref 153)]) (st1 := [.ref 153, .ref 154]) (fun _ _ => rfl) ?_
      refine gR_gfI (k := 152) rfl rfl rfl ?_
      obtain ⟨t2, et2, h⟩ := gb h
      refine gR_bal (k := 153) rfl rfl rfl et2 ?_
      refine gR_go 1 (pc1 := 22) (L1 := [some (.ref 153)]) (st1 := [.int 32, .int t2]) (fun _ _ => rfl) ?_
      rcases gif h with ⟨c3, h⟩ | ⟨c3, h⟩
      · refine gR_ic_ne_f rfl c3 ?_
        refine gR_go 2 (pc1 := 27) (L1 := [some (.ref 153)]) (st1 := [.ref 153, .ref 153]) (fun _ _ => rfl) ?_
        refine gR_gfI (k := 152) rfl rfl rfl ?_
        refine gR_go 2 (pc1 := 32) (L1 := [some (.ref 153)]) (st1 := [.int ((s.1 152 12) + 1), .ref 153]) (fun _ _ => rfl) ?_
        obtain ⟨s4, es4, h⟩ := gb h
        refine gR_pfI (k := 152) rfl rfl rfl rfl es4 ?_
        refine gR_go 1 (pc1 := 0) (L1 := [some (.ref 153)]) (st1 := []) (fun _ _ => rfl) ?_
        exact ih h
      · refine gR_ic_ne_j rfl c3 rfl ?_
        exact he38 _ (Option.some.inj h).symm
    · refine gR_ic_ge_j rfl c1 rfl ?_
      exact he38 _ (Option.some.inj h).symm
noncomputable def wX11_see_j38 (s : wS) : Option (Int32 × wS) := if (s.1 152 12) < (s.1 152 1) then ((wldI s 153 400 (s.1 152 12)).bind fun t8 => some ((t8 &&& 255), s)) else (some ((-1), s))
theorem wX11_see_u38 {s : wS} {rv : Int32} {rs : wS} (h : wX11_see_j38 s = some (rv, rs)) : gRun 0 175 38 [some (.ref 153)] [] (wmk s) (some (.int rv), wmk rs, 0, 0) := by
  unfold wX11_see_j38 at h
  refine gR_go 1 (pc1 := 39) (L1 := [some (.ref 153)]) (st1 := [.ref 153]) (fun _ _ => rfl) ?_
  refine gR_gfI (k := 152) rfl rfl rfl ?_
  refine gR_go 1 (pc1 := 43) (L1 := [some (.ref 153)]) (st1 := [.ref 153, .int (s.1 152 12)]) (fun _ _ => rfl) ?_
  refine gR_gfI (k := 152) rfl rfl rfl ?_
  rcases gif h with ⟨c7, h⟩ | ⟨c7, h⟩
  · refine gR_ic_ge_f rfl c7 ?_
    refine gR_go 1 (pc1 := 50) (L1 := [some (.ref 153)]) (st1 := [.ref 153]) (fun _ _ => rfl) ?_
    refine gR_gfR (k := 152) (k' := 153) rfl rfl rfl rfl ?_
    refine gR_go 1 (pc1 := 54) (L1 := [some (.ref 153)]) (st1 := [.ref 153, .ref 154]) (fun _ _ => rfl) ?_
    refine gR_gfI (k := 152) rfl rfl rfl ?_
    obtain ⟨t8, et8, h⟩ := gb h
    refine gR_bal (k := 153) rfl rfl rfl et8 ?_
    refine gR_go 3 (pc1 := 66) (L1 := [some (.ref 153)]) (st1 := [.int (t8 &&& 255)]) (fun _ _ => rfl) ?_
    obtain ⟨rfl, rfl⟩ := gi2 h
    exact gR_ri rfl rfl
  · refine gR_ic_ge_j rfl c7 rfl ?_
    refine gR_go 1 (pc1 := 66) (L1 := [some (.ref 153)]) (st1 := [.int (-1)]) (fun _ _ => rfl) ?_
    obtain ⟨rfl, rfl⟩ := gi2 h
    exact gR_ri rfl rfl
noncomputable def wX11_see (s : wS) : Option (Int32 × wS) := (wX11_see_h0 wFuel s).bind fun s6 => wX11_see_j38 s6
theorem wX11_see_s {s : wS} {rv : Int32} {rs : wS} (h : wX11_see s = some (rv, rs)) : gEv 1 175 [.ref 153] (wmk s) (some (.int rv), wmk rs, 0, 0) := by
  refine gEv_of (d := 0) (L := [some (.ref 153)]) rfl ?_
  unfold wX11_see at h
  obtain ⟨z5, ez5, h⟩ := gb h
  refine wX11_see_t0 ?_  ez5
  · intro s6 hz
    replace hz := hz.symm
    subst hz
    exact wX11_see_u38 h
noncomputable def wX11_isDigit (x1 : Int32) (s : wS) : Option (Int32) := if x1 < (s.1 152 1) then ((wldI s 153 400 x1).bind fun t2 => if t2 < 48 then (some 0) else ((wldI s 153 400 x1).bind fun t4 => if 57 < t4 then (some 0) else (some 1))) else (some 0)
theorem wX11_isDigit_s {x1 : Int32} {s : wS} {rv : Int32} (h : wX11_isDigit x1 s = some rv) : gEv 1 176 [.ref 153, .int x1] (wmk s) (some (.int rv), wmk s, 0, 0) := by
  refine gEv_of (d := 0) (L := [some (.ref 153), some (.int x1)]) rfl ?_
  unfold wX11_isDigit at h
  refine gR_go 2 (pc1 := 2) (L1 := [some (.ref 153), some (.int x1)]) (st1 := [.ref 153, .int x1]) (fun _ _ => rfl) ?_
  refine gR_gfI (k := 152) rfl rfl rfl ?_
  rcases gif h with ⟨c1, h⟩ | ⟨c1, h⟩
  · refine gR_ic_ge_f rfl c1 ?_
    refine gR_go 1 (pc1 := 9) (L1 := [some (.ref 153), some (.int x1)]) (st1 := [.ref 153]) (fun _ _ => rfl) ?_
    refine gR_gfR (k := 152) (k' := 153) rfl rfl rfl rfl ?_
    refine gR_go 1 (pc1 := 13) (L1 := [some (.ref 153), some (.int x1)]) (st1 := [.int x1, .ref 154]) (fun _ _ => rfl) ?_
    obtain ⟨t2, et2, h⟩ := gb h
    refine gR_bal (k := 153) rfl rfl rfl et2 ?_
    refine gR_go 1 (pc1 := 16) (L1 := [some (.ref 153), some (.int x1)]) (st1 := [.int 48, .int t2]) (fun _ _ => rfl) ?_
    rcases gif h with ⟨c3, h⟩ | ⟨c3, h⟩
    · refine gR_ic_lt_j rfl c3 rfl ?_
      refine gR_go 1 (pc1 := 35) (L1 := [some (.ref 153), some (.int x1)]) (st1 := [.int 0]) (fun _ _ => rfl) ?_
      obtain rfl := gi1 h
      exact gR_rzc rfl rfl rfl
    · refine gR_ic_lt_f rfl c3 ?_
      refine gR_go 1 (pc1 := 20) (L1 := [some (.ref 153), some (.int x1)]) (st1 := [.ref 153]) (fun _ _ => rfl) ?_
      refine gR_gfR (k := 152) (k' := 153) rfl rfl rfl rfl ?_
      refine gR_go 1 (pc1 := 24) (L1 := [some (.ref 153), some (.int x1)]) (st1 := [.int x1, .ref 154]) (fun _ _ => rfl) ?_
      obtain ⟨t4, et4, h⟩ := gb h
      refine gR_bal (k := 153) rfl rfl rfl et4 ?_
      refine gR_go 1 (pc1 := 27) (L1 := [some (.ref 153), some (.int x1)]) (st1 := [.int 57, .int t4]) (fun _ _ => rfl) ?_
      rcases gif h with ⟨c5, h⟩ | ⟨c5, h⟩
      · refine gR_ic_gt_j rfl c5 rfl ?_
        refine gR_go 1 (pc1 := 35) (L1 := [some (.ref 153), some (.int x1)]) (st1 := [.int 0]) (fun _ _ => rfl) ?_
        obtain rfl := gi1 h
        exact gR_rzc rfl rfl rfl
      · refine gR_ic_gt_f rfl c5 ?_
        refine gR_go 2 (pc1 := 35) (L1 := [some (.ref 153), some (.int x1)]) (st1 := [.int 1]) (fun _ _ => rfl) ?_
        obtain rfl := gi1 h
        exact gR_rzc rfl rfl rfl
  · refine gR_ic_ge_j rfl c1 rfl ?_
    refine gR_go 1 (pc1 := 35) (L1 := [some (.ref 153), some (.int x1)]) (st1 := [.int 0]) (fun _ _ => rfl) ?_
    obtain rfl := gi1 h
    exact gR_rzc rfl rfl rfl
noncomputable def wX11_isLetter (x1 : Int32) (s : wS) : Option (Int32) := if x1 < (s.1 152 1) then ((wldI s 153 400 x1).bind fun t2 => if t2 < 97 then (some 0) else ((wldI s 153 400 x1).bind fun t4 => if 122 < t4 then (some 0) else (some 1))) else (some 0)
theorem wX11_isLetter_s {x1 : Int32} {s : wS} {rv : Int32} (h : wX11_isLetter x1 s = some rv) : gEv 1 177 [.ref 153, .int x1] (wmk s) (some (.int rv), wmk s, 0, 0) := by
  refine gEv_of (d := 0) (L := [some (.ref 153), some (.int x1)]) rfl ?_
  unfold wX11_isLetter at h
  refine gR_go 2 (pc1 := 2) (L1 := [some (.ref 153), some (.int x1)]) (st1 := [.ref 153, .int x1]) (fun _ _ => rfl) ?_
  refine gR_gfI (k := 152) rfl rfl rfl ?_
  rcases gif h with ⟨c1, h⟩ | ⟨c1, h⟩
  · refine gR_ic_ge_f rfl c1 ?_
    refine gR_go 1 (pc1 := 9) (L1 := [some (.ref 153), some (.int x1)]) (st1 := [.ref 153]) (fun _ _ => rfl) ?_
    refine gR_gfR (k := 152) (k' := 153) rfl rfl rfl rfl ?_
    refine gR_go 1 (pc1 := 13) (L1 := [some (.ref 153), some (.int x1)]) (st1 := [.int x1, .ref 154]) (fun _ _ => rfl) ?_
    obtain ⟨t2, et2, h⟩ := gb h
    refine gR_bal (k := 153) rfl rfl rfl et2 ?_
    refine gR_go 1 (pc1 := 16) (L1 := [some (.ref 153), some (.int x1)]) (st1 := [.int 97, .int t2]) (fun _ _ => rfl) ?_
    rcases gif h with ⟨c3, h⟩ | ⟨c3, h⟩
    · refine gR_ic_lt_j rfl c3 rfl ?_
      refine gR_go 1 (pc1 := 35) (L1 := [some (.ref 153), some (.int x1)]) (st1 := [.int 0]) (fun _ _ => rfl) ?_
      obtain rfl := gi1 h
      exact gR_rzc rfl rfl rfl
    · refine gR_ic_lt_f rfl c3 ?_
      refine gR_go 1 (pc1 := 20) (L1 := [some (.ref 153), some (.int x1)]) (st1 := [.ref 153]) (fun _ _ => rfl) ?_
      refine gR_gfR (k := 152) (k' := 153) rfl rfl rfl rfl ?_
      refine gR_go 1 (pc1 := 24) (L1 := [some (.ref 153), some (.int x1)]) (st1 := [.int x1, .ref 154]) (fun _ _ => rfl) ?_
      obtain ⟨t4, et4, h⟩ := gb h
      refine gR_bal (k := 153) rfl rfl rfl et4 ?_
      refine gR_go 1 (pc1 := 27) (L1 := [some (.ref 153), some (.int x1)]) (st1 := [.int 122, .int t4]) (fun _ _ => rfl) ?_
      rcases gif h with ⟨c5, h⟩ | ⟨c5, h⟩
      · refine gR_ic_gt_j rfl c5 rfl ?_
        refine gR_go 1 (pc1 := 35) (L1 := [some (.ref 153), some (.int x1)]) (st1 := [.int 0]) (fun _ _ => rfl) ?_
        obtain rfl := gi1 h
        exact gR_rzc rfl rfl rfl
      · refine gR_ic_gt_f rfl c5 ?_
        refine gR_go 2 (pc1 := 35) (L1 := [some (.ref 153), some (.int x1)]) (st1 := [.int 1]) (fun _ _ => rfl) ?_
        obtain rfl := gi1 h
        exact gR_rzc rfl rfl rfl
  · refine gR_ic_ge_j rfl c1 rfl ?_
    refine gR_go 1 (pc1 := 35) (L1 := [some (.ref 153), some (.int x1)]) (st1 := [.int 0]) (fun _ _ => rfl) ?_
    obtain rfl := gi1 h
    exact gR_rzc rfl rfl rfl
noncomputable def wX11_isWord_j50 (qq : Int64 → Int32 → Option (Int64 × Int32)) (x1 : Int64) (x3 : Int64) (x5 : Int32) (s : wS) : Option (Int64 × Int32) := qq x3 (x5 + 1)
theorem wX11_isWord_u50 {x1 : Int64} {x3 : Int64} {x5 : Int32} {s : wS} {qq : Int64 → Int32 → Option (Int64 × Int32)} {x : Int64 × Int32} {r : ri_R} (ih : ∀ {x3 : Int64} {x5 : Int32} , qq x3 x5 = some x → gRun 1 178 10 [some (.ref 153), some (.long x1), none, some (.long x3), none, some (.int x5)] [] (wmk s) r) (he56 : ∀ (x3 : Int64) (x5 : Int32) , x = (x3, x5) → gRun 1 178 56 [some (.ref 153), some (.long x1), none, some (.long x3), none, some (.int x5)] [] (wmk s) r) (h : wX11_isWord_j50 qq x1 x3 x5 s = some x) : gRun 1 178 50 [some (.ref 153), some (.long x1), none, some (.long x3), none, some (.int x5)] [] (wmk s) r := by
  unfold wX11_isWord_j50 at h
  refine gR_go 2 (pc1 := 10) (L1 := [some (.ref 153), some (.long x1), none, some (.long x3), none, some (.int (x5 + 1))]) (st1 := []) (fun _ _ => rfl) ?_
  exact ih h
noncomputable def wX11_isWord_h10 (x1 : Int64) (s : wS) : Nat → Int64 → Int32 → Option (Int64 × Int32)
  | 0, _, _ => none
  | n + 1, x3, x5 => (wX11_isLetter ((s.1 152 12) + x5) s).bind fun t4 => if t4 = 0 then (some (x3, x5)) else (if x5 < 8 then ((wldI s 153 400 ((s.1 152 12) + x5)).bind fun t8 => wX11_isWord_j50 (wX11_isWord_h10 x1 s n) x1 ((x3 <<< ((8 : Int32).toInt64 &&& 63)) ||| ((t8 : Int32).toInt64)) x5 s) else (wX11_isWord_j50 (wX11_isWord_h10 x1 s n) x1 x3 x5 s))
theorem wX11_isWord_t10 {x1 : Int64} {s : wS} {x : Int64 × Int32} {r : ri_R} (he56 : ∀ (x3 : Int64) (x5 : Int32) , x = (x3, x5) → gRun 1 178 56 [some (.ref 153), some (.long x1), none, some (.long x3), none, some (.int x5)] [] (wmk s) r) : ∀ {n : Nat} {x3 : Int64} {x5 : Int32} , wX11_isWord_h10 x1 s n x3 x5 = some x → gRun 1 178 10 [some (.ref 153), some (.long x1), none, some (.long x3), none, some (.int x5)] [] (wmk s) r := by
  intro n
  induction n with
  | zero => intro x3 x5 h; cases (show (none : Option (Int64 × Int32)) = some x from h)
  | succ n ih =>
    intro x3 x5 h
    rw [wX11_isWord_h10] at h
    refine gR_go 2 (pc1 := 12) (L1 := [some (.ref 153), some (.long x1), none, some (.long x3), none, some (.int x5)]) (st1 := [.ref 153, .ref 153]) (fun _ _ => rfl) ?_
    refine gR_gfI (k := 152) rfl rfl rfl ?_
    refine gR_go 2 (pc1 := 18) (L1 := [some (.ref 153), some (.long x1), none, some (.long x3), none, some (.int x5)]) (st1 := [.int ((s.1 152 12) + x5), .ref 153]) (fun _ _ => rfl) ?_
    obtain ⟨t4, e5, h⟩ := gb h
    refine gR_cvI (wX11_isLetter_s e5) (Nat.le_of_ble_eq_true rfl) rfl rfl rfl rfl rfl ?_
    rcases gif h with ⟨c6, h⟩ | ⟨c6, h⟩
    · refine gR_iz_eq_j rfl c6 rfl ?_
      exact he56 _ _ (Option.some.inj h).symm
    · refine gR_iz_eq_f rfl c6 ?_
      refine gR_go 2 (pc1 := 28) (L1 := [some (.ref 153), some (.long x1), none, some (.long x3), none, some (.int x5)]) (st1 := [.int 8, .int x5]) (fun _ _ => rfl) ?_
      rcases gif h with ⟨c7, h⟩ | ⟨c7, h⟩
      · refine gR_ic_ge_f rfl c7 ?_
        refine gR_go 4 (pc1 := 36) (L1 := [some (.ref 153), some (.long x1), none, some (.long x3), none, some (.int x5)]) (st1 := [.ref 153, .long (x3 <<< ((8 : Int32).toInt64 &&& 63))]) (fun _ _ => rfl) ?_
        refine gR_gfR (k := 152) (k' := 153) rfl rfl rfl rfl ?_
        refine gR_go 1 (pc1 := 40) (L1 := [some (.ref 153), some (.long x1), none, some (.long x3), none, some (.int x5)]) (st1 := [.ref 153, .ref 154, .long (x3 <<< ((8 : Int32).toInt64 &&& 63))]) (fun _ _ => rfl) ?_
        refine gR_gfI (k := 152) rfl rfl rfl ?_
        refine gR_go 2 (pc1 := 46) (L1 := [some (.ref 153), some (.long x1), none, some (.long x3), none, some (.int x5)]) (st1 := [.int ((s.1 152 12) + x5), .ref 154, .long (x3 <<< ((8 : Int32).toInt64 &&& 63))]) (fun _ _ => rfl) ?_
        obtain ⟨t8, et8, h⟩ := gb h
        refine gR_bal (k := 153) rfl rfl rfl et8 ?_
        refine gR_go 3 (pc1 := 50) (L1 := [some (.ref 153), some (.long x1), none, some (.long ((x3 <<< ((8 : Int32).toInt64 &&& 63)) ||| ((t8 : Int32).toInt64))), none, some (.int x5)]) (st1 := []) (fun _ _ => rfl) ?_
        exact wX11_isWord_u50 ih he56 h
      · refine gR_ic_ge_j rfl c7 rfl ?_
        exact wX11_isWord_u50 ih he56 h
noncomputable def wX11_isWord (x1 : Int64) (s : wS) : Option (Int32 × wS) := (wX11_see s).bind fun (t1, s2) => (wX11_isWord_h10 x1 s2 wFuel 0 0).bind fun (t10, t11) => if 0 < t11 then (if t11 < 8 then (if t10 = x1 then (some (1, s2)) else (some (0, s2))) else (some (0, s2))) else (some (0, s2))
theorem wX11_isWord_s {x1 : Int64} {s : wS} {rv : Int32} {rs : wS} (h : wX11_isWord x1 s = some (rv, rs)) : gEv 2 178 [.ref 153, .long x1] (wmk s) (some (.int rv), wmk rs, 0, 0) := by
  refine gEv_of (d := 1) (L := [some (.ref 153), some (.long x1), none, none, none, none]) rfl ?_
  unfold wX11_isWord at h
  refine gR_go 1 (pc1 := 1) (L1 := [some (.ref 153), some (.long x1), none, none, none, none]) (st1 := [.ref 153]) (fun _ _ => rfl) ?_
  obtain ⟨⟨t1, s2⟩, e3, h⟩ := gb h
  dsimp only at h
  refine gR_cvI (wX11_see_s e3) (Nat.le_of_ble_eq_true rfl) rfl rfl rfl rfl rfl ?_
  refine gR_go 5 (pc1 := 10) (L1 := [some (.ref 153), some (.long x1), none, some (.long 0), none, some (.int 0)]) (st1 := []) (fun _ _ => rfl) ?_
  obtain ⟨z9, ez9, h⟩ := gb h
  refine wX11_isWord_t10 ?_  ez9
  · intro t10 t11 hz
    replace hz := hz.symm
    subst hz
    dsimp only at h
    refine gR_go 1 (pc1 := 58) (L1 := [some (.ref 153), some (.long x1), none, some (.long t10), none, some (.int t11)]) (st1 := [.int t11]) (fun _ _ => rfl) ?_
    rcases gif h with ⟨c12, h⟩ | ⟨c12, h⟩
    · refine gR_iz_le_f rfl c12 ?_
      refine gR_go 2 (pc1 := 65) (L1 := [some (.ref 153), some (.long x1), none, some (.long t10), none, some (.int t11)]) (st1 := [.int 8, .int t11]) (fun _ _ => rfl) ?_
      rcases gif h with ⟨c13, h⟩ | ⟨c13, h⟩
      · refine gR_ic_ge_f rfl c13 ?_
        refine gR_go 3 (pc1 := 71) (L1 := [some (.ref 153), some (.long x1), none, some (.long t10), none, some (.int t11)]) (st1 := [.int (lg_cmp t10 x1)]) (fun _ _ => rfl) ?_
        rcases gif h with ⟨c14, h⟩ | ⟨c14, h⟩
        · refine gR_lc_ne_f rfl c14 ?_
          refine gR_go 2 (pc1 := 79) (L1 := [some (.ref 153), some (.long x1), none, some (.long t10), none, some (.int t11)]) (st1 := [.int 1]) (fun _ _ => rfl) ?_
          obtain ⟨rfl, rfl⟩ := gi2 h
          exact gR_rzc rfl rfl rfl
        · refine gR_lc_ne_j rfl c14 rfl ?_
          refine gR_go 1 (pc1 := 79) (L1 := [some (.ref 153), some (.long x1), none, some (.long t10), none, some (.int t11)]) (st1 := [.int 0]) (fun _ _ => rfl) ?_
          obtain ⟨rfl, rfl⟩ := gi2 h
          exact gR_rzc rfl rfl rfl
      · refine gR_ic_ge_j rfl c13 rfl ?_
        refine gR_go 1 (pc1 := 79) (L1 := [some (.ref 153), some (.long x1), none, some (.long t10), none, some (.int t11)]) (st1 := [.int 0]) (fun _ _ => rfl) ?_
        obtain ⟨rfl, rfl⟩ := gi2 h
        exact gR_rzc rfl rfl rfl
    · refine gR_iz_le_j rfl c12 rfl ?_
      refine gR_go 1 (pc1 := 79) (L1 := [some (.ref 153), some (.long x1), none, some (.long t10), none, some (.int t11)]) (st1 := [.int 0]) (fun _ _ => rfl) ?_
      obtain ⟨rfl, rfl⟩ := gi2 h
      exact gR_rzc rfl rfl rfl
noncomputable def wX11_passWord_h0 : Nat → wS → Option (wS)
  | 0, _ => none
  | n + 1, s => (wX11_isLetter (s.1 152 12) s).bind fun t1 => if t1 = 0 then (some s) else ((wpfI s 152 12 ((s.1 152 12) + 1)).bind fun s4 => wX11_passWord_h0 n s4)
theorem wX11_passWord_t0 {x : wS} {r : ri_R} (he24 : ∀ (s : wS) , x = s → gRun 1 179 24 [some (.ref 153)] [] (wmk s) r) : ∀ {n : Nat} {s : wS} , wX11_passWord_h0 n s = some x → gRun 1 179 0 [some (.ref 153)] [] (wmk s) r := by
  intro n
  induction n with
  | zero => intro s h; cases (show (none : Option (wS)) = some x from h)
  | succ n ih =>
    intro s h
    rw [wX11_passWord_h0] at h
    refine gR_go 2 (pc1 := 2) (L1 := [some (.ref 153)]) (st1 := [.ref 153, .ref 153]) (fun _ _ => rfl) ?_
    refine gR_gfI (k := 152) rfl rfl rfl ?_
    obtain ⟨t1, e2, h⟩ := gb h
    refine gR_cvI (wX11_isLetter_s e2) (Nat.le_of_ble_eq_true rfl) rfl rfl rfl rfl rfl ?_
    rcases gif h with ⟨c3, h⟩ | ⟨c3, h⟩
    · refine gR_iz_eq_j rfl c3 rfl ?_
      exact he24 _ (Option.some.inj h).symm
    · refine gR_iz_eq_f rfl c3 ?_
      refine gR_go 2 (pc1 := 13) (L1 := [some (.ref 153)]) (st1 := [.ref 153, .ref 153]) (fun _ _ => rfl) ?_
      refine gR_gfI (k := 152) rfl rfl rfl ?_
      refine gR_go 2 (pc1 := 18) (L1 := [some (.ref 153)]) (st1 := [.int ((s.1 152 12) + 1), .ref 153]) (fun _ _ => rfl) ?_
      obtain ⟨s4, es4, h⟩ := gb h
      refine gR_pfI (k := 152) rfl rfl rfl rfl es4 ?_
      refine gR_go 1 (pc1 := 0) (L1 := [some (.ref 153)]) (st1 := []) (fun _ _ => rfl) ?_
      exact ih h
noncomputable def wX11_passWord (s : wS) : Option (wS) := (wX11_passWord_h0 wFuel s).bind fun s6 => some s6
theorem wX11_passWord_s {s : wS} {rs : wS} (h : wX11_passWord s = some rs) : gEv 2 179 [.ref 153] (wmk s) (none, wmk rs, 0, 0) := by
  refine gEv_of (d := 1) (L := [some (.ref 153)]) rfl ?_
  unfold wX11_passWord at h
  obtain ⟨z5, ez5, h⟩ := gb h
  refine wX11_passWord_t0 ?_  ez5
  · intro s6 hz
    replace hz := hz.symm
    subst hz
    obtain rfl := gi1 h
    exact gR_rv rfl rfl
noncomputable def wX11_takesWord (x1 : Int64) (s : wS) : Option (Int32 × wS) := (wX11_isWord x1 s).bind fun (t1, s2) => if t1 = 0 then (some (0, s2)) else ((wX11_passWord s2).bind fun s6 => some (1, s6))
theorem wX11_takesWord_s {x1 : Int64} {s : wS} {rv : Int32} {rs : wS} (h : wX11_takesWord x1 s = some (rv, rs)) : gEv 3 180 [.ref 153, .long x1] (wmk s) (some (.int rv), wmk rs, 0, 0) := by
  refine gEv_of (d := 2) (L := [some (.ref 153), some (.long x1), none]) rfl ?_
  unfold wX11_takesWord at h
  refine gR_go 2 (pc1 := 2) (L1 := [some (.ref 153), some (.long x1), none]) (st1 := [.long x1, .ref 153]) (fun _ _ => rfl) ?_
  obtain ⟨⟨t1, s2⟩, e3, h⟩ := gb h
  dsimp only at h
  refine gR_cvI (wX11_isWord_s e3) (Nat.le_of_ble_eq_true rfl) rfl rfl rfl rfl rfl ?_
  rcases gif h with ⟨c4, h⟩ | ⟨c4, h⟩
  · refine gR_iz_ne_f rfl c4 ?_
    refine gR_go 1 (pc1 := 9) (L1 := [some (.ref 153), some (.long x1), none]) (st1 := [.int 0]) (fun _ _ => rfl) ?_
    obtain ⟨rfl, rfl⟩ := gi2 h
    exact gR_rzc rfl rfl rfl
  · refine gR_iz_ne_j rfl c4 rfl ?_
    refine gR_go 1 (pc1 := 11) (L1 := [some (.ref 153), some (.long x1), none]) (st1 := [.ref 153]) (fun _ _ => rfl) ?_
    obtain ⟨s6, e7, h⟩ := gb h
    refine gR_cvV (wX11_passWord_s e7) (Nat.le_of_ble_eq_true rfl) rfl rfl rfl rfl rfl ?_
    refine gR_go 1 (pc1 := 15) (L1 := [some (.ref 153), some (.long x1), none]) (st1 := [.int 1]) (fun _ _ => rfl) ?_
    obtain ⟨rfl, rfl⟩ := gi2 h
    exact gR_rzc rfl rfl rfl
noncomputable def wX11_numberHere_j75 (qq : Int32 → wS → Option (Int32 × wS)) (x1 : Int32) (x2 : Int32) (x3 : Int32) (x4 : Int32) (s : wS) : Option (Int32 × wS) := (wpfI s 152 12 ((s.1 152 12) + 1)).bind fun s16 => qq x4 s16
theorem wX11_numberHere_u75 {x1 : Int32} {x2 : Int32} {x3 : Int32} {x4 : Int32} {s : wS} {qq : Int32 → wS → Option (Int32 × wS)} {x : Int32 × wS} {r : ri_R} (ih : ∀ {x4 : Int32} {s : wS} , qq x4 s = some x → gRun 1 181 34 [some (.ref 153), some (.int x1), some (.int x2), some (.int x3), some (.int x4)] [] (wmk s) r) (he88 : ∀ (x4 : Int32) (s : wS) , x = (x4, s) → gRun 1 181 88 [some (.ref 153), some (.int x1), some (.int x2), some (.int x3), some (.int x4)] [] (wmk s) r) (h : wX11_numberHere_j75 qq x1 x2 x3 x4 s = some x) : gRun 1 181 75 [some (.ref 153), some (.int x1), some (.int x2), some (.int x3), some (.int x4)] [] (wmk s) r := by
  unfold wX11_numberHere_j75 at h
  refine gR_go 2 (pc1 := 77) (L1 := [some (.ref 153), some (.int x1), some (.int x2), some (.int x3), some (.int x4)]) (st1 := [.ref 153, .ref 153]) (fun _ _ => rfl) ?_
  refine gR_gfI (k := 152) rfl rfl rfl ?_
  refine gR_go 2 (pc1 := 82) (L1 := [some (.ref 153), some (.int x1), some (.int x2), some (.int x3), some (.int x4)]) (st1 := [.int ((s.1 152 12) + 1), .ref 153]) (fun _ _ => rfl) ?_
  obtain ⟨s16, es16, h⟩ := gb h
  refine gR_pfI (k := 152) rfl rfl rfl rfl es16 ?_
  refine gR_go 1 (pc1 := 34) (L1 := [some (.ref 153), some (.int x1), some (.int x2), some (.int x3), some (.int x4)]) (st1 := []) (fun _ _ => rfl) ?_
  exact ih h
noncomputable def wX11_numberHere_h34 (x1 : Int32) (x2 : Int32) (x3 : Int32) : Nat → Int32 → wS → Option (Int32 × wS)
  | 0, _, _ => none
  | n + 1, x4, s => (wX11_isDigit (s.1 152 12) s).bind fun t11 => if t11 = 0 then (some (x4, s)) else (if ((s.1 152 12) - x3) < 5 then ((wldI s 153 400 (s.1 152 12)).bind fun t15 => wX11_numberHere_j75 (wX11_numberHere_h34 x1 x2 x3 n) x1 x2 x3 (((10 * x4) + t15) - 48) s) else (wX11_numberHere_j75 (wX11_numberHere_h34 x1 x2 x3 n) x1 x2 x3 x4 s))
theorem wX11_numberHere_t34 {x1 : Int32} {x2 : Int32} {x3 : Int32} {x : Int32 × wS} {r : ri_R} (he88 : ∀ (x4 : Int32) (s : wS) , x = (x4, s) → gRun 1 181 88 [some (.ref 153), some (.int x1), some (.int x2), some (.int x3), some (.int x4)] [] (wmk s) r) : ∀ {n : Nat} {x4 : Int32} {s : wS} , wX11_numberHere_h34 x1 x2 x3 n x4 s = some x → gRun 1 181 34 [some (.ref 153), some (.int x1), some (.int x2), some (.int x3), some (.int x4)] [] (wmk s) r := by
  intro n
  induction n with
  | zero => intro x4 s h; cases (show (none : Option (Int32 × wS)) = some x from h)
  | succ n ih =>
    intro x4 s h
    rw [wX11_numberHere_h34] at h
    refine gR_go 2 (pc1 := 36) (L1 := [some (.ref 153), some (.int x1), some (.int x2), some (.int x3), some (.int x4)]) (st1 := [.ref 153, .ref 153]) (fun _ _ => rfl) ?_
    refine gR_gfI (k := 152) rfl rfl rfl ?_
    obtain ⟨t11, e12, h⟩ := gb h
    refine gR_cvI (wX11_isDigit_s e12) (Nat.le_of_ble_eq_true rfl) rfl rfl rfl rfl rfl ?_
    rcases gif h with ⟨c13, h⟩ | ⟨c13, h⟩
    · refine gR_iz_eq_j rfl c13 rfl ?_
      exact he88 _ _ (Option.some.inj h).symm
    · refine gR_iz_eq_f rfl c13 ?_
      refine gR_go 1 (pc1 := 46) (L1 := [some (.ref 153), some (.int x1), some (.int x2), some (.int x3), some (.int x4)]) (st1 := [.ref 153]) (fun _ _ => rfl) ?_
      refine gR_gfI (k := 152) rfl rfl rfl ?_
      refine gR_go 3 (pc1 := 52) (L1 := [some (.ref 153), some (.int x1), some (.int x2), some (.int x3), some (.int x4)]) (st1 := [.int 5, .int ((s.1 152 12) - x3)]) (fun _ _ => rfl) ?_
      rcases gif h with ⟨c14, h⟩ | ⟨c14, h⟩
      · refine gR_ic_ge_f rfl c14 ?_
        refine gR_go 4 (pc1 := 61) (L1 := [some (.ref 153), some (.int x1), some (.int x2), some (.int x3), some (.int x4)]) (st1 := [.ref 153, .int (10 * x4)]) (fun _ _ => rfl) ?_
        refine gR_gfR (k := 152) (k' := 153) rfl rfl rfl rfl ?_
        refine gR_go 1 (pc1 := 65) (L1 := [some (.ref 153), some (.int x1), some (.int x2), some (.int x3), some (.int x4)]) (st1 := [.ref 153, .ref 154, .int (10 * x4)]) (fun _ _ => rfl) ?_
        refine gR_gfI (k := 152) rfl rfl rfl ?_
        obtain ⟨t15, et15, h⟩ := gb h
        refine gR_bal (k := 153) rfl rfl rfl et15 ?_
        refine gR_go 4 (pc1 := 75) (L1 := [some (.ref 153), some (.int x1), some (.int x2), some (.int x3), some (.int (((10 * x4) + t15) - 48))]) (st1 := []) (fun _ _ => rfl) ?_
        exact wX11_numberHere_u75 ih he88 h
      · refine gR_ic_ge_j rfl c14 rfl ?_
        exact wX11_numberHere_u75 ih he88 h
noncomputable def wX11_numberHere_j126 (s : wS) : Option (Int32 × wS) := some (1, s)
theorem wX11_numberHere_u126 {s : wS} {w1 : Int32} {w2 : Int32} {w3 : Int32} {w4 : Int32} {rv : Int32} {rs : wS} (h : wX11_numberHere_j126 s = some (rv, rs)) : gRun 1 181 126 [some (.ref 153), some (.int w1), some (.int w2), some (.int w3), some (.int w4)] [] (wmk s) (some (.int rv), wmk rs, 0, 0) := by
  unfold wX11_numberHere_j126 at h
  refine gR_go 2 (pc1 := 131) (L1 := [some (.ref 153), some (.int w1), some (.int w2), some (.int w3), some (.int w4)]) (st1 := [.int 1]) (fun _ _ => rfl) ?_
  obtain ⟨rfl, rfl⟩ := gi2 h
  exact gR_rzc rfl rfl rfl
noncomputable def wX11_numberHere_j117 (x3 : Int32) (s : wS) : Option (Int32 × wS) := (wX11_fails 1 x3 s).bind fun (t22, s23) => if t22 = 0 then (some (0, s23)) else (wX11_numberHere_j126 s23)
theorem wX11_numberHere_u117 {x3 : Int32} {s : wS} {w1 : Int32} {w2 : Int32} {w4 : Int32} {rv : Int32} {rs : wS} (h : wX11_numberHere_j117 x3 s = some (rv, rs)) : gRun 1 181 117 [some (.ref 153), some (.int w1), some (.int w2), some (.int x3), some (.int w4)] [] (wmk s) (some (.int rv), wmk rs, 0, 0) := by
  unfold wX11_numberHere_j117 at h
  refine gR_go 3 (pc1 := 120) (L1 := [some (.ref 153), some (.int w1), some (.int w2), some (.int x3), some (.int w4)]) (st1 := [.int x3, .int 1, .ref 153]) (fun _ _ => rfl) ?_
  obtain ⟨⟨t22, s23⟩, e24, h⟩ := gb h
  dsimp only at h
  refine gR_cvI (wX11_fails_s e24) (Nat.le_of_ble_eq_true rfl) rfl rfl rfl rfl rfl ?_
  rcases gif h with ⟨c25, h⟩ | ⟨c25, h⟩
  · refine gR_iz_eq_j rfl c25 rfl ?_
    refine gR_go 1 (pc1 := 131) (L1 := [some (.ref 153), some (.int w1), some (.int w2), some (.int x3), some (.int w4)]) (st1 := [.int 0]) (fun _ _ => rfl) ?_
    obtain ⟨rfl, rfl⟩ := gi2 h
    exact gR_rzc rfl rfl rfl
  · refine gR_iz_eq_f rfl c25 ?_
    exact wX11_numberHere_u126 h
noncomputable def wX11_numberHere (x1 : Int32) (x2 : Int32) (s : wS) : Option (Int32 × wS) := (wX11_see s).bind fun (t1, s2) => (wX11_isDigit (s2.1 152 12) s2).bind fun t4 => if t4 = 0 then ((wX11_fails 0 (s2.1 152 12) s2).bind fun (t7, s8) => (wrtZ t7).bind fun t10 => some (t10, s8)) else ((wX11_numberHere_h34 x1 x2 (s2.1 152 12) wFuel 0 s2).bind fun (t18, s19) => (wpfI s19 152 14 t18).bind fun s20 => if 5 < ((s20.1 152 12) - (s2.1 152 12)) then (wX11_numberHere_j117 (s2.1 152 12) s20) else ((wX11_in ((t18 : Int32).toInt64) ((x1 : Int32).toInt64) ((x2 : Int32).toInt64) s20).bind fun t26 => if t26 = 0 then (wX11_numberHere_j117 (s2.1 152 12) s20) else (wX11_numberHere_j126 s20)))
theorem wX11_numberHere_s {x1 : Int32} {x2 : Int32} {s : wS} {rv : Int32} {rs : wS} (h : wX11_numberHere x1 x2 s = some (rv, rs)) : gEv 2 181 [.ref 153, .int x1, .int x2] (wmk s) (some (.int rv), wmk rs, 0, 0) := by
  refine gEv_of (d := 1) (L := [some (.ref 153), some (.int x1), some (.int x2), none, none]) rfl ?_
  unfold wX11_numberHere at h
  refine gR_go 1 (pc1 := 1) (L1 := [some (.ref 153), some (.int x1), some (.int x2), none, none]) (st1 := [.ref 153]) (fun _ _ => rfl) ?_
  obtain ⟨⟨t1, s2⟩, e3, h⟩ := gb h
  dsimp only at h
  refine gR_cvI (wX11_see_s e3) (Nat.le_of_ble_eq_true rfl) rfl rfl rfl rfl rfl ?_
  refine gR_go 3 (pc1 := 7) (L1 := [some (.ref 153), some (.int x1), some (.int x2), none, none]) (st1 := [.ref 153, .ref 153]) (fun _ _ => rfl) ?_
  refine gR_gfI (k := 152) rfl rfl rfl ?_
  obtain ⟨t4, e5, h⟩ := gb h
  refine gR_cvI (wX11_isDigit_s e5) (Nat.le_of_ble_eq_true rfl) rfl rfl rfl rfl rfl ?_
  rcases gif h with ⟨c6, h⟩ | ⟨c6, h⟩
  · refine gR_iz_ne_f rfl c6 ?_
    refine gR_go 3 (pc1 := 19) (L1 := [some (.ref 153), some (.int x1), some (.int x2), none, none]) (st1 := [.ref 153, .int 0, .ref 153]) (fun _ _ => rfl) ?_
    refine gR_gfI (k := 152) rfl rfl rfl ?_
    obtain ⟨⟨t7, s8⟩, e9, h⟩ := gb h
    dsimp only at h
    refine gR_cvI (wX11_fails_s e9) (Nat.le_of_ble_eq_true rfl) rfl rfl rfl rfl rfl ?_
    obtain ⟨t10, et10, h⟩ := gb h
    obtain ⟨rfl, rfl⟩ := gi2 h
    exact gR_rz rfl rfl et10
  · refine gR_iz_ne_j rfl c6 rfl ?_
    refine gR_go 1 (pc1 := 27) (L1 := [some (.ref 153), some (.int x1), some (.int x2), none, none]) (st1 := [.ref 153]) (fun _ _ => rfl) ?_
    refine gR_gfI (k := 152) rfl rfl rfl ?_
    refine gR_go 3 (pc1 := 34) (L1 := [some (.ref 153), some (.int x1), some (.int x2), some (.int (s2.1 152 12)), some (.int 0)]) (st1 := []) (fun _ _ => rfl) ?_
    obtain ⟨z17, ez17, h⟩ := gb h
    refine wX11_numberHere_t34 ?_  ez17
    · intro t18 s19 hz
      replace hz := hz.symm
      subst hz
      dsimp only at h
      refine gR_go 2 (pc1 := 91) (L1 := [some (.ref 153), some (.int x1), some (.int x2), some (.int (s2.1 152 12)), some (.int t18)]) (st1 := [.int t18, .ref 153]) (fun _ _ => rfl) ?_
      obtain ⟨s20, es20, h⟩ := gb h
      refine gR_pfI (k := 152) rfl rfl rfl rfl es20 ?_
      refine gR_go 1 (pc1 := 95) (L1 := [some (.ref 153), some (.int x1), some (.int x2), some (.int (s2.1 152 12)), some (.int t18)]) (st1 := [.ref 153]) (fun _ _ => rfl) ?_
      refine gR_gfI (k := 152) rfl rfl rfl ?_
      refine gR_go 3 (pc1 := 101) (L1 := [some (.ref 153), some (.int x1), some (.int x2), some (.int (s2.1 152 12)), some (.int t18)]) (st1 := [.int 5, .int ((s20.1 152 12) - (s2.1 152 12))]) (fun _ _ => rfl) ?_
      rcases gif h with ⟨c21, h⟩ | ⟨c21, h⟩
      · refine gR_ic_gt_j rfl c21 rfl ?_
        exact wX11_numberHere_u117 h
      · refine gR_ic_gt_f rfl c21 ?_
        refine gR_go 6 (pc1 := 111) (L1 := [some (.ref 153), some (.int x1), some (.int x2), some (.int (s2.1 152 12)), some (.int t18)]) (st1 := [.long ((x2 : Int32).toInt64), .long ((x1 : Int32).toInt64), .long ((t18 : Int32).toInt64)]) (fun _ _ => rfl) ?_
        obtain ⟨t26, e27, h⟩ := gb h
        refine gR_csI (wX11_in_s e27) (Nat.le_of_ble_eq_true rfl) rfl rfl rfl rfl ?_
        rcases gif h with ⟨c28, h⟩ | ⟨c28, h⟩
        · refine gR_iz_ne_f rfl c28 ?_
          exact wX11_numberHere_u117 h
        · refine gR_iz_ne_j rfl c28 rfl ?_
          exact wX11_numberHere_u126 h
end
