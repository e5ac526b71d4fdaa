section
/-! The methods as functions of the state, each with the proof that the interpreter runs so. -/
noncomputable def wX0_clear (k0 : Nat) (s : wS) : Option (wS) := (wstI s (k0 + 1) 3 0 1).bind fun s1 => (wstI s1 (k0 + 1) 3 1 0).bind fun s2 => (wstI s2 (k0 + 1) 3 2 0).bind fun s3 => some s3
theorem wX0_clear_s {k0 : Nat} {s : wS} {rs : wS} (hk0 : wkd k0 = 0) (h : wX0_clear k0 s = some rs) : gEv 1 1 [.ref (k0 + 1)] (wmk s) (none, wmk rs, 0, 0) := by
  refine gEv_of (d := 0) (L := [some (.ref (k0 + 1))]) rfl ?_
  unfold wX0_clear at h
  refine gR_go 1 (pc1 := 1) (L1 := [some (.ref (k0 + 1))]) (st1 := [.ref (k0 + 1)]) (fun _ _ => rfl) ?_
  refine gR_gfR (k := k0) (k' := (k0 + 1)) rfl hk0 rfl (wly_0_0 hk0).1 ?_
  refine gR_go 2 (pc1 := 6) (L1 := [some (.ref (k0 + 1))]) (st1 := [.int 1, .int 0, .ref ((k0 + 1) + 1)]) (fun _ _ => rfl) ?_
  obtain ⟨s1, es1, h⟩ := gb h
  refine gR_ias (k := (k0 + 1)) rfl (wly_0_0 hk0).2.1 (wly_0_0 hk0).2.2 es1 ?_
  refine gR_go 1 (pc1 := 8) (L1 := [some (.ref (k0 + 1))]) (st1 := [.ref (k0 + 1)]) (fun _ _ => rfl) ?_
  refine gR_gfR (k := k0) (k' := (k0 + 1)) rfl hk0 rfl (wly_0_0 hk0).1 ?_
  refine gR_go 2 (pc1 := 13) (L1 := [some (.ref (k0 + 1))]) (st1 := [.int 0, .int 1, .ref ((k0 + 1) + 1)]) (fun _ _ => rfl) ?_
  obtain ⟨s2, es2, h⟩ := gb h
  refine gR_ias (k := (k0 + 1)) rfl (wly_0_0 hk0).2.1 (wly_0_0 hk0).2.2 es2 ?_
  refine gR_go 1 (pc1 := 15) (L1 := [some (.ref (k0 + 1))]) (st1 := [.ref (k0 + 1)]) (fun _ _ => rfl) ?_
  refine gR_gfR (k := k0) (k' := (k0 + 1)) rfl hk0 rfl (wly_0_0 hk0).1 ?_
  refine gR_go 2 (pc1 := 20) (L1 := [some (.ref (k0 + 1))]) (st1 := [.int 0, .int 2, .ref ((k0 + 1) + 1)]) (fun _ _ => rfl) ?_
  obtain ⟨s3, es3, h⟩ := gb h
  refine gR_ias (k := (k0 + 1)) rfl (wly_0_0 hk0).2.1 (wly_0_0 hk0).2.2 es3 ?_
  obtain rfl := gi1 h
  exact gR_rv rfl rfl
noncomputable def wX10_isOutside_j9 (s : wS) : Option (Int32) := some 1
theorem wX10_isOutside_u9 {s : wS} {w0 : Int32} {w1 : Int32} {rv : Int32} (h : wX10_isOutside_j9 s = some rv) : gRun 0 142 9 [some (.int w0), some (.int w1)] [] (wmk s) (some (.int rv), wmk s, 0, 0) := by
  unfold wX10_isOutside_j9 at h
  refine gR_go 2 (pc1 := 14) (L1 := [some (.int w0), some (.int w1)]) (st1 := [.int 1]) (fun _ _ => rfl) ?_
  obtain rfl := gi1 h
  exact gR_rzc rfl rfl rfl
noncomputable def wX10_isOutside (x0 : Int32) (x1 : Int32) (s : wS) : Option (Int32) := if x0 < 0 then (wX10_isOutside_j9 s) else (if x0 < x1 then (some 0) else (wX10_isOutside_j9 s))
theorem wX10_isOutside_s {x0 : Int32} {x1 : Int32} {s : wS} {rv : Int32} (h : wX10_isOutside x0 x1 s = some rv) : gEv 1 142 [.int x0, .int x1] (wmk s) (some (.int rv), wmk s, 0, 0) := by
  refine gEv_of (d := 0) (L := [some (.int x0), some (.int x1)]) rfl ?_
  unfold wX10_isOutside at h
  refine gR_go 1 (pc1 := 1) (L1 := [some (.int x0), some (.int x1)]) (st1 := [.int x0]) (fun _ _ => rfl) ?_
  rcases gif h with ⟨c1, h⟩ | ⟨c1, h⟩
  · refine gR_iz_lt_j rfl c1 rfl ?_
    exact wX10_isOutside_u9 h
  · refine gR_iz_lt_f rfl c1 ?_
    refine gR_go 2 (pc1 := 6) (L1 := [some (.int x0), some (.int x1)]) (st1 := [.int x1, .int x0]) (fun _ _ => rfl) ?_
    rcases gif h with ⟨c2, h⟩ | ⟨c2, h⟩
    · refine gR_ic_lt_j rfl c2 rfl ?_
      refine gR_go 1 (pc1 := 14) (L1 := [some (.int x0), some (.int x1)]) (st1 := [.int 0]) (fun _ _ => rfl) ?_
      obtain rfl := gi1 h
      exact gR_rzc rfl rfl rfl
    · refine gR_ic_lt_f rfl c2 ?_
      exact wX10_isOutside_u9 h
noncomputable def wX0_setHours_j19 (k100 : Nat) (y1 : Int32) (y2 : Int32) (s : wS) : Option (wS) := (wstI s k100 (wln k100) y1 y2).bind fun s4 => some s4
theorem wX0_setHours_u19 {k100 : Nat} {y1 : Int32} {y2 : Int32} {s : wS} {w0 : Nat} {w1 : Int32} {rs : wS} (hk100 : wkd k100 = 20) (h : wX0_setHours_j19 k100 y1 y2 s = some rs) : gRun 1 2 19 [some (.ref (w0 + 1)), some (.int w1)] [.int y2, .int y1, .ref (k100 + 1)] (wmk s) (none, wmk rs, 0, 0) := by
  unfold wX0_setHours_j19 at h
  obtain ⟨s4, es4, h⟩ := gb h
  refine gR_ias (k := k100) rfl hk100 rfl es4 ?_
  obtain rfl := gi1 h
  exact gR_rv rfl rfl
noncomputable def wX0_setHours (k0 : Nat) (x1 : Int32) (s : wS) : Option (wS) := (wX10_isOutside x1 9 s).bind fun t1 => if t1 = 0 then (wX0_setHours_j19 (k0 + 1) 0 x1 s) else (wX0_setHours_j19 (k0 + 1) 0 1 s)
theorem wX0_setHours_s {k0 : Nat} {x1 : Int32} {s : wS} {rs : wS} (hk0 : wkd k0 = 0) (h : wX0_setHours k0 x1 s = some rs) : gEv 2 2 [.ref (k0 + 1), .int x1] (wmk s) (none, wmk rs, 0, 0) := by
  refine gEv_of (d := 1) (L := [some (.ref (k0 + 1)), some (.int x1)]) rfl ?_
  unfold wX0_setHours at h
  refine gR_go 1 (pc1 := 1) (L1 := [some (.ref (k0 + 1)), some (.int x1)]) (st1 := [.ref (k0 + 1)]) (fun _ _ => rfl) ?_
  refine gR_gfR (k := k0) (k' := (k0 + 1)) rfl hk0 rfl (wly_0_0 hk0).1 ?_
  refine gR_go 3 (pc1 := 8) (L1 := [some (.ref (k0 + 1)), some (.int x1)]) (st1 := [.int 9, .int x1, .int 0, .ref ((k0 + 1) + 1)]) (fun _ _ => rfl) ?_
  obtain ⟨t1, e2, h⟩ := gb h
  refine gR_csI (wX10_isOutside_s e2) (Nat.le_of_ble_eq_true rfl) rfl rfl rfl rfl ?_
  rcases gif h with ⟨c3, h⟩ | ⟨c3, h⟩
  · refine gR_iz_eq_j rfl c3 rfl ?_
    refine gR_go 1 (pc1 := 19) (L1 := [some (.ref (k0 + 1)), some (.int x1)]) (st1 := [.int x1, .int 0, .ref ((k0 + 1) + 1)]) (fun _ _ => rfl) ?_
    exact wX0_setHours_u19 (wly_0_0 hk0).2.1 h
  · refine gR_iz_eq_f rfl c3 ?_
    refine gR_go 2 (pc1 := 19) (L1 := [some (.ref (k0 + 1)), some (.int x1)]) (st1 := [.int 1, .int 0, .ref ((k0 + 1) + 1)]) (fun _ _ => rfl) ?_
    exact wX0_setHours_u19 (wly_0_0 hk0).2.1 h
noncomputable def wX10_at (k0 : Nat) (x1 : Int32) (s : wS) : Option (Int32) := if x1 < 0 then (some 0) else (if x1 < (Int32.ofNat (wln k0)) then ((wldI s k0 (wln k0) x1).bind fun t3 => some t3) else (some 0))
theorem wX10_at_s {k0 : Nat} {x1 : Int32} {s : wS} {rv : Int32} (hk0 : wkd k0 = 20) (h : wX10_at k0 x1 s = some rv) : gEv 1 143 [.ref (k0 + 1), .int x1] (wmk s) (some (.int rv), wmk s, 0, 0) := by
  refine gEv_of (d := 0) (L := [some (.ref (k0 + 1)), some (.int x1)]) rfl ?_
  unfold wX10_at at h
  refine gR_go 1 (pc1 := 1) (L1 := [some (.ref (k0 + 1)), some (.int x1)]) (st1 := [.int x1]) (fun _ _ => rfl) ?_
  rcases gif h with ⟨c1, h⟩ | ⟨c1, h⟩
  · refine gR_iz_lt_j rfl c1 rfl ?_
    refine gR_go 1 (pc1 := 17) (L1 := [some (.ref (k0 + 1)), some (.int x1)]) (st1 := [.int 0]) (fun _ _ => rfl) ?_
    obtain rfl := gi1 h
    exact gR_ri rfl rfl
  · refine gR_iz_lt_f rfl c1 ?_
    refine gR_go 2 (pc1 := 6) (L1 := [some (.ref (k0 + 1)), some (.int x1)]) (st1 := [.ref (k0 + 1), .int x1]) (fun _ _ => rfl) ?_
    refine gR_aln (k := k0) rfl (by rw [hk0]; decide) rfl (w := (Int32.ofNat (wln k0))) rfl ?_
    rcases gif h with ⟨c2, h⟩ | ⟨c2, h⟩
    · refine gR_ic_ge_f rfl c2 ?_
      refine gR_go 2 (pc1 := 12) (L1 := [some (.ref (k0 + 1)), some (.int x1)]) (st1 := [.int x1, .ref (k0 + 1)]) (fun _ _ => rfl) ?_
      obtain ⟨t3, et3, h⟩ := gb h
      refine gR_ial (k := k0) rfl hk0 rfl et3 ?_
      refine gR_go 1 (pc1 := 17) (L1 := [some (.ref (k0 + 1)), some (.int x1)]) (st1 := [.int t3]) (fun _ _ => rfl) ?_
      obtain rfl := gi1 h
      exact gR_ri rfl rfl
    · refine gR_ic_ge_j rfl c2 rfl ?_
      refine gR_go 1 (pc1 := 17) (L1 := [some (.ref (k0 + 1)), some (.int x1)]) (st1 := [.int 0]) (fun _ _ => rfl) ?_
      obtain rfl := gi1 h
      exact gR_ri rfl rfl
noncomputable def wX0_manyOf (k0 : Nat) (x1 : Int32) (s : wS) : Option (Int32) := (wX10_at (k0 + 1) x1 s).bind fun t1 => some t1
theorem wX0_manyOf_s {k0 : Nat} {x1 : Int32} {s : wS} {rv : Int32} (hk0 : wkd k0 = 0) (h : wX0_manyOf k0 x1 s = some rv) : gEv 2 7 [.ref (k0 + 1), .int x1] (wmk s) (some (.int rv), wmk s, 0, 0) := by
  refine gEv_of (d := 1) (L := [some (.ref (k0 + 1)), some (.int x1)]) rfl ?_
  unfold wX0_manyOf at h
  refine gR_go 1 (pc1 := 1) (L1 := [some (.ref (k0 + 1)), some (.int x1)]) (st1 := [.ref (k0 + 1)]) (fun _ _ => rfl) ?_
  refine gR_gfR (k := k0) (k' := (k0 + 1)) rfl hk0 rfl (wly_0_0 hk0).1 ?_
  refine gR_go 1 (pc1 := 5) (L1 := [some (.ref (k0 + 1)), some (.int x1)]) (st1 := [.int x1, .ref ((k0 + 1) + 1)]) (fun _ _ => rfl) ?_
  obtain ⟨t1, e2, h⟩ := gb h
  refine gR_csI (wX10_at_s (wly_0_0 hk0).2.1 e2) (Nat.le_of_ble_eq_true rfl) rfl rfl rfl rfl ?_
  obtain rfl := gi1 h
  exact gR_ri rfl rfl
noncomputable def wX10_set (k0 : Nat) (x1 : Int32) (x2 : Int32) (s : wS) : Option (wS) := if x1 < 0 then (some s) else (if x1 < (Int32.ofNat (wln k0)) then ((wstI s k0 (wln k0) x1 x2).bind fun s3 => some s3) else (some s))
theorem wX10_set_s {k0 : Nat} {x1 : Int32} {x2 : Int32} {s : wS} {rs : wS} (hk0 : wkd k0 = 20) (h : wX10_set k0 x1 x2 s = some rs) : gEv 1 144 [.ref (k0 + 1), .int x1, .int x2] (wmk s) (none, wmk rs, 0, 0) := by
  refine gEv_of (d := 0) (L := [some (.ref (k0 + 1)), some (.int x1), some (.int x2)]) rfl ?_
  unfold wX10_set at h
  refine gR_go 1 (pc1 := 1) (L1 := [some (.ref (k0 + 1)), some (.int x1), some (.int x2)]) (st1 := [.int x1]) (fun _ _ => rfl) ?_
  rcases gif h with ⟨c1, h⟩ | ⟨c1, h⟩
  · refine gR_iz_lt_j rfl c1 rfl ?_
    obtain rfl := gi1 h
    exact gR_rv rfl rfl
  · refine gR_iz_lt_f rfl c1 ?_
    refine gR_go 2 (pc1 := 6) (L1 := [some (.ref (k0 + 1)), some (.int x1), some (.int x2)]) (st1 := [.ref (k0 + 1), .int x1]) (fun _ _ => rfl) ?_
    refine gR_aln (k := k0) rfl (by rw [hk0]; decide) rfl (w := (Int32.ofNat (wln k0))) rfl ?_
    rcases gif h with ⟨c2, h⟩ | ⟨c2, h⟩
    · refine gR_ic_ge_f rfl c2 ?_
      refine gR_go 3 (pc1 := 13) (L1 := [some (.ref (k0 + 1)), some (.int x1), some (.int x2)]) (st1 := [.int x2, .int x1, .ref (k0 + 1)]) (fun _ _ => rfl) ?_
      obtain ⟨s3, es3, h⟩ := gb h
      refine gR_ias (k := k0) rfl hk0 rfl es3 ?_
      obtain rfl := gi1 h
      exact gR_rv rfl rfl
    · refine gR_ic_ge_j rfl c2 rfl ?_
      obtain rfl := gi1 h
      exact gR_rv rfl rfl
noncomputable def wX10_slot (x0 : Int32) (x1 : Int32) (s : wS) : Option (Int32) := some ((x0 * 8) + x1)
theorem wX10_slot_s {x0 : Int32} {x1 : Int32} {s : wS} {rv : Int32} (h : wX10_slot x0 x1 s = some rv) : gEv 1 145 [.int x0, .int x1] (wmk s) (some (.int rv), wmk s, 0, 0) := by
  refine gEv_of (d := 0) (L := [some (.int x0), some (.int x1)]) rfl ?_
  unfold wX10_slot at h
  refine gR_go 5 (pc1 := 6) (L1 := [some (.int x0), some (.int x1)]) (st1 := [.int ((x0 * 8) + x1)]) (fun _ _ => rfl) ?_
  obtain rfl := gi1 h
  exact gR_ri rfl rfl
noncomputable def wX0_add (k0 : Nat) (x1 : Int32) (x2 : Int32) (x3 : Int32) (s : wS) : Option (wS) := (wX0_manyOf k0 x1 s).bind fun t1 => if t1 < 8 then ((wX10_slot x1 t1 s).bind fun t4 => (wX10_set (k0 + 2) t4 x2 s).bind fun s7 => (wX10_slot x1 t1 s7).bind fun t9 => (wX10_set (k0 + 3) t9 x3 s7).bind fun s12 => (wX10_set (k0 + 1) x1 (t1 + 1) s12).bind fun s15 => some s15) else (some s)
theorem wX0_add_s {k0 : Nat} {x1 : Int32} {x2 : Int32} {x3 : Int32} {s : wS} {rs : wS} (hk0 : wkd k0 = 0) (h : wX0_add k0 x1 x2 x3 s = some rs) : gEv 3 3 [.ref (k0 + 1), .int x1, .int x2, .int x3] (wmk s) (none, wmk rs, 0, 0) := by
  refine gEv_of (d := 2) (L := [some (.ref (k0 + 1)), some (.int x1), some (.int x2), some (.int x3), none]) rfl ?_
  unfold wX0_add at h
  refine gR_go 2 (pc1 := 2) (L1 := [some (.ref (k0 + 1)), some (.int x1), some (.int x2), some (.int x3), none]) (st1 := [.int x1, .ref (k0 + 1)]) (fun _ _ => rfl) ?_
  obtain ⟨t1, e2, h⟩ := gb h
  refine gR_cvI (wX0_manyOf_s hk0 e2) (Nat.le_of_ble_eq_true rfl) rfl rfl hk0 rfl rfl ?_
  refine gR_go 3 (pc1 := 11) (L1 := [some (.ref (k0 + 1)), some (.int x1), some (.int x2), some (.int x3), some (.int t1)]) (st1 := [.int 8, .int t1]) (fun _ _ => rfl) ?_
  rcases gif h with ⟨c3, h⟩ | ⟨c3, h⟩
  · refine gR_ic_ge_f rfl c3 ?_
    refine gR_go 1 (pc1 := 15) (L1 := [some (.ref (k0 + 1)), some (.int x1), some (.int x2), some (.int x3), some (.int t1)]) (st1 := [.ref (k0 + 1)]) (fun _ _ => rfl) ?_
    refine gR_gfR (k := k0) (k' := (k0 + 2)) rfl hk0 rfl (wly_0_1 hk0).1 ?_
    refine gR_go 2 (pc1 := 21) (L1 := [some (.ref (k0 + 1)), some (.int x1), some (.int x2), some (.int x3), some (.int t1)]) (st1 := [.int t1, .int x1, .ref ((k0 + 2) + 1)]) (fun _ _ => rfl) ?_
    obtain ⟨t4, e5, h⟩ := gb h
    refine gR_csI (wX10_slot_s e5) (Nat.le_of_ble_eq_true rfl) rfl rfl rfl rfl ?_
    refine gR_go 1 (pc1 := 25) (L1 := [some (.ref (k0 + 1)), some (.int x1), some (.int x2), some (.int x3), some (.int t1)]) (st1 := [.int x2, .int t4, .ref ((k0 + 2) + 1)]) (fun _ _ => rfl) ?_
    obtain ⟨s7, e8, h⟩ := gb h
    refine gR_csV (wX10_set_s (wly_0_1 hk0).2.1 e8) (Nat.le_of_ble_eq_true rfl) rfl rfl rfl rfl ?_
    refine gR_go 1 (pc1 := 29) (L1 := [some (.ref (k0 + 1)), some (.int x1), some (.int x2), some (.int x3), some (.int t1)]) (st1 := [.ref (k0 + 1)]) (fun _ _ => rfl) ?_
    refine gR_gfR (k := k0) (k' := (k0 + 3)) rfl hk0 rfl (wly_0_2 hk0).1 ?_
    refine gR_go 2 (pc1 := 35) (L1 := [some (.ref (k0 + 1)), some (.int x1), some (.int x2), some (.int x3), some (.int t1)]) (st1 := [.int t1, .int x1, .ref ((k0 + 3) + 1)]) (fun _ _ => rfl) ?_
    obtain ⟨t9, e10, h⟩ := gb h
    refine gR_csI (wX10_slot_s e10) (Nat.le_of_ble_eq_true rfl) rfl rfl rfl rfl ?_
    refine gR_go 1 (pc1 := 39) (L1 := [some (.ref (k0 + 1)), some (.int x1), some (.int x2), some (.int x3), some (.int t1)]) (st1 := [.int x3, .int t9, .ref ((k0 + 3) + 1)]) (fun _ _ => rfl) ?_
    obtain ⟨s12, e13, h⟩ := gb h
    refine gR_csV (wX10_set_s (wly_0_2 hk0).2.1 e13) (Nat.le_of_ble_eq_true rfl) rfl rfl rfl rfl ?_
    refine gR_go 1 (pc1 := 43) (L1 := [some (.ref (k0 + 1)), some (.int x1), some (.int x2), some (.int x3), some (.int t1)]) (st1 := [.ref (k0 + 1)]) (fun _ _ => rfl) ?_
    refine gR_gfR (k := k0) (k' := (k0 + 1)) rfl hk0 rfl (wly_0_0 hk0).1 ?_
    refine gR_go 4 (pc1 := 51) (L1 := [some (.ref (k0 + 1)), some (.int x1), some (.int x2), some (.int x3), some (.int t1)]) (st1 := [.int (t1 + 1), .int x1, .ref ((k0 + 1) + 1)]) (fun _ _ => rfl) ?_
    obtain ⟨s15, e16, h⟩ := gb h
    refine gR_csV (wX10_set_s (wly_0_0 hk0).2.1 e16) (Nat.le_of_ble_eq_true rfl) rfl rfl rfl rfl ?_
    obtain rfl := gi1 h
    exact gR_rv rfl rfl
  · refine gR_ic_ge_j rfl c3 rfl ?_
    obtain rfl := gi1 h
    exact gR_rv rfl rfl
noncomputable def wX0_becomes (k0 : Nat) (k1 : Nat) (s : wS) : Option (wS) := (wcpI s (k1 + 1) 3 (k0 + 1) 3 0 0 3).bind fun s1 => (wcpI s1 (k1 + 2) 24 (k0 + 2) 24 0 0 24).bind fun s2 => (wcpI s2 (k1 + 3) 24 (k0 + 3) 24 0 0 24).bind fun s3 => some s3
theorem wX0_becomes_s {k0 : Nat} {k1 : Nat} {s : wS} {rs : wS} (hk0 : wkd k0 = 0) (hk1 : wkd k1 = 0) (h : wX0_becomes k0 k1 s = some rs) : gEv 1 4 [.ref (k0 + 1), .ref (k1 + 1)] (wmk s) (none, wmk rs, 0, 0) := by
  refine gEv_of (d := 0) (L := [some (.ref (k0 + 1)), some (.ref (k1 + 1))]) rfl ?_
  unfold wX0_becomes at h
  refine gR_go 1 (pc1 := 1) (L1 := [some (.ref (k0 + 1)), some (.ref (k1 + 1))]) (st1 := [.ref (k1 + 1)]) (fun _ _ => rfl) ?_
  refine gR_gfR (k := k1) (k' := (k1 + 1)) rfl hk1 rfl (wly_0_0 hk1).1 ?_
  refine gR_go 2 (pc1 := 6) (L1 := [some (.ref (k0 + 1)), some (.ref (k1 + 1))]) (st1 := [.ref (k0 + 1), .int 0, .ref ((k1 + 1) + 1)]) (fun _ _ => rfl) ?_
  refine gR_gfR (k := k0) (k' := (k0 + 1)) rfl hk0 rfl (wly_0_0 hk0).1 ?_
  refine gR_go 2 (pc1 := 11) (L1 := [some (.ref (k0 + 1)), some (.ref (k1 + 1))]) (st1 := [.int 3, .int 0, .ref ((k0 + 1) + 1), .int 0, .ref ((k1 + 1) + 1)]) (fun _ _ => rfl) ?_
  obtain ⟨s1, es1, h⟩ := gb h
  refine gR_acp (k := (k1 + 1)) (k1 := (k0 + 1)) rfl rfl (wly_0_0 hk1).2.1 (wly_0_0 hk1).2.2 (wly_0_0 hk0).2.1 (wly_0_0 hk0).2.2 es1 rfl ?_
  refine gR_go 1 (pc1 := 15) (L1 := [some (.ref (k0 + 1)), some (.ref (k1 + 1))]) (st1 := [.ref (k1 + 1)]) (fun _ _ => rfl) ?_
  refine gR_gfR (k := k1) (k' := (k1 + 2)) rfl hk1 rfl (wly_0_1 hk1).1 ?_
  refine gR_go 2 (pc1 := 20) (L1 := [some (.ref (k0 + 1)), some (.ref (k1 + 1))]) (st1 := [.ref (k0 + 1), .int 0, .ref ((k1 + 2) + 1)]) (fun _ _ => rfl) ?_
  refine gR_gfR (k := k0) (k' := (k0 + 2)) rfl hk0 rfl (wly_0_1 hk0).1 ?_
  refine gR_go 2 (pc1 := 26) (L1 := [some (.ref (k0 + 1)), some (.ref (k1 + 1))]) (st1 := [.int 24, .int 0, .ref ((k0 + 2) + 1), .int 0, .ref ((k1 + 2) + 1)]) (fun _ _ => rfl) ?_
  obtain ⟨s2, es2, h⟩ := gb h
  refine gR_acp (k := (k1 + 2)) (k1 := (k0 + 2)) rfl rfl (wly_0_1 hk1).2.1 (wly_0_1 hk1).2.2 (wly_0_1 hk0).2.1 (wly_0_1 hk0).2.2 es2 rfl ?_
  refine gR_go 1 (pc1 := 30) (L1 := [some (.ref (k0 + 1)), some (.ref (k1 + 1))]) (st1 := [.ref (k1 + 1)]) (fun _ _ => rfl) ?_
  refine gR_gfR (k := k1) (k' := (k1 + 3)) rfl hk1 rfl (wly_0_2 hk1).1 ?_
  refine gR_go 2 (pc1 := 35) (L1 := [some (.ref (k0 + 1)), some (.ref (k1 + 1))]) (st1 := [.ref (k0 + 1), .int 0, .ref ((k1 + 3) + 1)]) (fun _ _ => rfl) ?_
  refine gR_gfR (k := k0) (k' := (k0 + 3)) rfl hk0 rfl (wly_0_2 hk0).1 ?_
  refine gR_go 2 (pc1 := 41) (L1 := [some (.ref (k0 + 1)), some (.ref (k1 + 1))]) (st1 := [.int 24, .int 0, .ref ((k0 + 3) + 1), .int 0, .ref ((k1 + 3) + 1)]) (fun _ _ => rfl) ?_
  obtain ⟨s3, es3, h⟩ := gb h
  refine gR_acp (k := (k1 + 3)) (k1 := (k0 + 3)) rfl rfl (wly_0_2 hk1).2.1 (wly_0_2 hk1).2.2 (wly_0_2 hk0).2.1 (wly_0_2 hk0).2.2 es3 rfl ?_
  obtain rfl := gi1 h
  exact gR_rv rfl rfl
noncomputable def wX0_isTold (k0 : Nat) (s : wS) : Option (Int32) := (wldI s (k0 + 1) 3 1).bind fun t1 => if 0 < t1 then ((wldI s (k0 + 1) 3 2).bind fun t3 => if 0 < t3 then (some 1) else (some 0)) else (some 0)
theorem wX0_isTold_s {k0 : Nat} {s : wS} {rv : Int32} (hk0 : wkd k0 = 0) (h : wX0_isTold k0 s = some rv) : gEv 1 5 [.ref (k0 + 1)] (wmk s) (some (.int rv), wmk s, 0, 0) := by
  refine gEv_of (d := 0) (L := [some (.ref (k0 + 1))]) rfl ?_
  unfold wX0_isTold at h
  refine gR_go 1 (pc1 := 1) (L1 := [some (.ref (k0 + 1))]) (st1 := [.ref (k0 + 1)]) (fun _ _ => rfl) ?_
  refine gR_gfR (k := k0) (k' := (k0 + 1)) rfl hk0 rfl (wly_0_0 hk0).1 ?_
  refine gR_go 1 (pc1 := 5) (L1 := [some (.ref (k0 + 1))]) (st1 := [.int 1, .ref ((k0 + 1) + 1)]) (fun _ _ => rfl) ?_
  obtain ⟨t1, et1, h⟩ := gb h
  refine gR_ial (k := (k0 + 1)) rfl (wly_0_0 hk0).2.1 (wly_0_0 hk0).2.2 et1 ?_
  rcases gif h with ⟨c2, h⟩ | ⟨c2, h⟩
  · refine gR_iz_le_f rfl c2 ?_
    refine gR_go 1 (pc1 := 10) (L1 := [some (.ref (k0 + 1))]) (st1 := [.ref (k0 + 1)]) (fun _ _ => rfl) ?_
    refine gR_gfR (k := k0) (k' := (k0 + 1)) rfl hk0 rfl (wly_0_0 hk0).1 ?_
    refine gR_go 1 (pc1 := 14) (L1 := [some (.ref (k0 + 1))]) (st1 := [.int 2, .ref ((k0 + 1) + 1)]) (fun _ _ => rfl) ?_
    obtain ⟨t3, et3, h⟩ := gb h
    refine gR_ial (k := (k0 + 1)) rfl (wly_0_0 hk0).2.1 (wly_0_0 hk0).2.2 et3 ?_
    rcases gif h with ⟨c4, h⟩ | ⟨c4, h⟩
    · refine gR_iz_le_f rfl c4 ?_
      refine gR_go 2 (pc1 := 23) (L1 := [some (.ref (k0 + 1))]) (st1 := [.int 1]) (fun _ _ => rfl) ?_
      obtain rfl := gi1 h
      exact gR_rzc rfl rfl rfl
    · refine gR_iz_le_j rfl c4 rfl ?_
      refine gR_go 1 (pc1 := 23) (L1 := [some (.ref (k0 + 1))]) (st1 := [.int 0]) (fun _ _ => rfl) ?_
      obtain rfl := gi1 h
      exact gR_rzc rfl rfl rfl
  · refine gR_iz_le_j rfl c2 rfl ?_
    refine gR_go 1 (pc1 := 23) (L1 := [some (.ref (k0 + 1))]) (st1 := [.int 0]) (fun _ _ => rfl) ?_
    obtain rfl := gi1 h
    exact gR_rzc rfl rfl rfl
noncomputable def wX0_worlds (k0 : Nat) (s : wS) : Option (Int32) := (wldI s (k0 + 1) 3 0).bind fun t1 => (wldI s (k0 + 1) 3 1).bind fun t2 => (wldI s (k0 + 1) 3 2).bind fun t3 => some ((t1 * t2) * t3)
theorem wX0_worlds_s {k0 : Nat} {s : wS} {rv : Int32} (hk0 : wkd k0 = 0) (h : wX0_worlds k0 s = some rv) : gEv 1 6 [.ref (k0 + 1)] (wmk s) (some (.int rv), wmk s, 0, 0) := by
  refine gEv_of (d := 0) (L := [some (.ref (k0 + 1))]) rfl ?_
  unfold wX0_worlds at h
  refine gR_go 1 (pc1 := 1) (L1 := [some (.ref (k0 + 1))]) (st1 := [.ref (k0 + 1)]) (fun _ _ => rfl) ?_
  refine gR_gfR (k := k0) (k' := (k0 + 1)) rfl hk0 rfl (wly_0_0 hk0).1 ?_
  refine gR_go 1 (pc1 := 5) (L1 := [some (.ref (k0 + 1))]) (st1 := [.int 0, .ref ((k0 + 1) + 1)]) (fun _ _ => rfl) ?_
  obtain ⟨t1, et1, h⟩ := gb h
  refine gR_ial (k := (k0 + 1)) rfl (wly_0_0 hk0).2.1 (wly_0_0 hk0).2.2 et1 ?_
  refine gR_go 1 (pc1 := 7) (L1 := [some (.ref (k0 + 1))]) (st1 := [.ref (k0 + 1), .int t1]) (fun _ _ => rfl) ?_
  refine gR_gfR (k := k0) (k' := (k0 + 1)) rfl hk0 rfl (wly_0_0 hk0).1 ?_
  refine gR_go 1 (pc1 := 11) (L1 := [some (.ref (k0 + 1))]) (st1 := [.int 1, .ref ((k0 + 1) + 1), .int t1]) (fun _ _ => rfl) ?_
  obtain ⟨t2, et2, h⟩ := gb h
  refine gR_ial (k := (k0 + 1)) rfl (wly_0_0 hk0).2.1 (wly_0_0 hk0).2.2 et2 ?_
  refine gR_go 2 (pc1 := 14) (L1 := [some (.ref (k0 + 1))]) (st1 := [.ref (k0 + 1), .int (t1 * t2)]) (fun _ _ => rfl) ?_
  refine gR_gfR (k := k0) (k' := (k0 + 1)) rfl hk0 rfl (wly_0_0 hk0).1 ?_
  refine gR_go 1 (pc1 := 18) (L1 := [some (.ref (k0 + 1))]) (st1 := [.int 2, .ref ((k0 + 1) + 1), .int (t1 * t2)]) (fun _ _ => rfl) ?_
  obtain ⟨t3, et3, h⟩ := gb h
  refine gR_ial (k := (k0 + 1)) rfl (wly_0_0 hk0).2.1 (wly_0_0 hk0).2.2 et3 ?_
  refine gR_go 1 (pc1 := 20) (L1 := [some (.ref (k0 + 1))]) (st1 := [.int ((t1 * t2) * t3)]) (fun _ _ => rfl) ?_
  obtain rfl := gi1 h
  exact gR_ri rfl rfl
noncomputable def wX0_has (k0 : Nat) (x1 : Int32) (x2 : Int32) (s : wS) : Option (Int32) := (wX10_isOutside x1 3 s).bind fun t1 => if t1 = 0 then ((wldI s (k0 + 1) 3 x1).bind fun t4 => (wX10_isOutside x2 t4 s).bind fun t5 => if t5 = 0 then (some 1) else (some 0)) else (some 0)
theorem wX0_has_s {k0 : Nat} {x1 : Int32} {x2 : Int32} {s : wS} {rv : Int32} (hk0 : wkd k0 = 0) (h : wX0_has k0 x1 x2 s = some rv) : gEv 2 8 [.ref (k0 + 1), .int x1, .int x2] (wmk s) (some (.int rv), wmk s, 0, 0) := by
  refine gEv_of (d := 1) (L := [some (.ref (k0 + 1)), some (.int x1), some (.int x2)]) rfl ?_
  unfold wX0_has at h
  refine gR_go 2 (pc1 := 2) (L1 := [some (.ref (k0 + 1)), some (.int x1), some (.int x2)]) (st1 := [.int 3, .int x1]) (fun _ _ => rfl) ?_
  obtain ⟨t1, e2, h⟩ := gb h
  refine gR_csI (wX10_isOutside_s e2) (Nat.le_of_ble_eq_true rfl) rfl rfl rfl rfl ?_
  rcases gif h with ⟨c3, h⟩ | ⟨c3, h⟩
  · refine gR_iz_ne_f rfl c3 ?_
    refine gR_go 2 (pc1 := 10) (L1 := [some (.ref (k0 + 1)), some (.int x1), some (.int x2)]) (st1 := [.ref (k0 + 1), .int x2]) (fun _ _ => rfl) ?_
    refine gR_gfR (k := k0) (k' := (k0 + 1)) rfl hk0 rfl (wly_0_0 hk0).1 ?_
    refine gR_go 1 (pc1 := 14) (L1 := [some (.ref (k0 + 1)), some (.int x1), some (.int x2)]) (st1 := [.int x1, .ref ((k0 + 1) + 1), .int x2]) (fun _ _ => rfl) ?_
    obtain ⟨t4, et4, h⟩ := gb h
    refine gR_ial (k := (k0 + 1)) rfl (wly_0_0 hk0).2.1 (wly_0_0 hk0).2.2 et4 ?_
    obtain ⟨t5, e6, h⟩ := gb h
    refine gR_csI (wX10_isOutside_s e6) (Nat.le_of_ble_eq_true rfl) rfl rfl rfl rfl ?_
    rcases gif h with ⟨c7, h⟩ | ⟨c7, h⟩
    · refine gR_iz_ne_f rfl c7 ?_
      refine gR_go 2 (pc1 := 26) (L1 := [some (.ref (k0 + 1)), some (.int x1), some (.int x2)]) (st1 := [.int 1]) (fun _ _ => rfl) ?_
      obtain rfl := gi1 h
      exact gR_rzc rfl rfl rfl
    · refine gR_iz_ne_j rfl c7 rfl ?_
      refine gR_go 1 (pc1 := 26) (L1 := [some (.ref (k0 + 1)), some (.int x1), some (.int x2)]) (st1 := [.int 0]) (fun _ _ => rfl) ?_
      obtain rfl := gi1 h
      exact gR_rzc rfl rfl rfl
  · refine gR_iz_ne_j rfl c3 rfl ?_
    refine gR_go 1 (pc1 := 26) (L1 := [some (.ref (k0 + 1)), some (.int x1), some (.int x2)]) (st1 := [.int 0]) (fun _ _ => rfl) ?_
    obtain rfl := gi1 h
    exact gR_rzc rfl rfl rfl
noncomputable def wX0_firstOf (k0 : Nat) (x1 : Int32) (x2 : Int32) (s : wS) : Option (Int32) := (wX10_slot x1 x2 s).bind fun t1 => (wX10_at (k0 + 2) t1 s).bind fun t3 => some t3
theorem wX0_firstOf_s {k0 : Nat} {x1 : Int32} {x2 : Int32} {s : wS} {rv : Int32} (hk0 : wkd k0 = 0) (h : wX0_firstOf k0 x1 x2 s = some rv) : gEv 2 9 [.ref (k0 + 1), .int x1, .int x2] (wmk s) (some (.int rv), wmk s, 0, 0) := by
  refine gEv_of (d := 1) (L := [some (.ref (k0 + 1)), some (.int x1), some (.int x2)]) rfl ?_
  unfold wX0_firstOf at h
  refine gR_go 1 (pc1 := 1) (L1 := [some (.ref (k0 + 1)), some (.int x1), some (.int x2)]) (st1 := [.ref (k0 + 1)]) (fun _ _ => rfl) ?_
  refine gR_gfR (k := k0) (k' := (k0 + 2)) rfl hk0 rfl (wly_0_1 hk0).1 ?_
  refine gR_go 2 (pc1 := 6) (L1 := [some (.ref (k0 + 1)), some (.int x1), some (.int x2)]) (st1 := [.int x2, .int x1, .ref ((k0 + 2) + 1)]) (fun _ _ => rfl) ?_
  obtain ⟨t1, e2, h⟩ := gb h
  refine gR_csI (wX10_slot_s e2) (Nat.le_of_ble_eq_true rfl) rfl rfl rfl rfl ?_
  obtain ⟨t3, e4, h⟩ := gb h
  refine gR_csI (wX10_at_s (wly_0_1 hk0).2.1 e4) (Nat.le_of_ble_eq_true rfl) rfl rfl rfl rfl ?_
  obtain rfl := gi1 h
  exact gR_ri rfl rfl
noncomputable def wX0_secondOf (k0 : Nat) (x1 : Int32) (x2 : Int32) (s : wS) : Option (Int32) := (wX10_slot x1 x2 s).bind fun t1 => (wX10_at (k0 + 3) t1 s).bind fun t3 => some t3
theorem wX0_secondOf_s {k0 : Nat} {x1 : Int32} {x2 : Int32} {s : wS} {rv : Int32} (hk0 : wkd k0 = 0) (h : wX0_secondOf k0 x1 x2 s = some rv) : gEv 2 10 [.ref (k0 + 1), .int x1, .int x2] (wmk s) (some (.int rv), wmk s, 0, 0) := by
  refine gEv_of (d := 1) (L := [some (.ref (k0 + 1)), some (.int x1), some (.int x2)]) rfl ?_
  unfold wX0_secondOf at h
  refine gR_go 1 (pc1 := 1) (L1 := [some (.ref (k0 + 1)), some (.int x1), some (.int x2)]) (st1 := [.ref (k0 + 1)]) (fun _ _ => rfl) ?_
  refine gR_gfR (k := k0) (k' := (k0 + 3)) rfl hk0 rfl (wly_0_2 hk0).1 ?_
  refine gR_go 2 (pc1 := 6) (L1 := [some (.ref (k0 + 1)), some (.int x1), some (.int x2)]) (st1 := [.int x2, .int x1, .ref ((k0 + 3) + 1)]) (fun _ _ => rfl) ?_
  obtain ⟨t1, e2, h⟩ := gb h
  refine gR_csI (wX10_slot_s e2) (Nat.le_of_ble_eq_true rfl) rfl rfl rfl rfl ?_
  obtain ⟨t3, e4, h⟩ := gb h
  refine gR_csI (wX10_at_s (wly_0_2 hk0).2.1 e4) (Nat.le_of_ble_eq_true rfl) rfl rfl rfl rfl ?_
  obtain rfl := gi1 h
  exact gR_ri rfl rfl
noncomputable def wX0_bitsOf (k0 : Nat) (x1 : Int32) (s : wS) : Option (Int32) := (wX0_manyOf k0 x1 s).bind fun t1 => some ((1 <<< (t1 &&& 31)) - 1)
theorem wX0_bitsOf_s {k0 : Nat} {x1 : Int32} {s : wS} {rv : Int32} (hk0 : wkd k0 = 0) (h : wX0_bitsOf k0 x1 s = some rv) : gEv 3 11 [.ref (k0 + 1), .int x1] (wmk s) (some (.int rv), wmk s, 0, 0) := by
  refine gEv_of (d := 2) (L := [some (.ref (k0 + 1)), some (.int x1)]) rfl ?_
  unfold wX0_bitsOf at h
  refine gR_go 3 (pc1 := 3) (L1 := [some (.ref (k0 + 1)), some (.int x1)]) (st1 := [.int x1, .ref (k0 + 1), .int 1]) (fun _ _ => rfl) ?_
  obtain ⟨t1, e2, h⟩ := gb h
  refine gR_cvI (wX0_manyOf_s hk0 e2) (Nat.le_of_ble_eq_true rfl) rfl rfl hk0 rfl rfl ?_
  refine gR_go 3 (pc1 := 9) (L1 := [some (.ref (k0 + 1)), some (.int x1)]) (st1 := [.int ((1 <<< (t1 &&& 31)) - 1)]) (fun _ _ => rfl) ?_
  obtain rfl := gi1 h
  exact gR_ri rfl rfl
noncomputable def wX0_bitsOfAll (k0 : Nat) (s : wS) : Option (Int32) := (wX0_bitsOf k0 0 s).bind fun t1 => (wX0_bitsOf k0 1 s).bind fun t3 => (wX10_slot 1 0 s).bind fun t5 => (wX0_bitsOf k0 2 s).bind fun t7 => (wX10_slot 2 0 s).bind fun t9 => some ((t1 ||| (t3 <<< (t5 &&& 31))) ||| (t7 <<< (t9 &&& 31)))
theorem wX0_bitsOfAll_s {k0 : Nat} {s : wS} {rv : Int32} (hk0 : wkd k0 = 0) (h : wX0_bitsOfAll k0 s = some rv) : gEv 4 12 [.ref (k0 + 1)] (wmk s) (some (.int rv), wmk s, 0, 0) := by
  refine gEv_of (d := 3) (L := [some (.ref (k0 + 1))]) rfl ?_
  unfold wX0_bitsOfAll at h
  refine gR_go 2 (pc1 := 2) (L1 := [some (.ref (k0 + 1))]) (st1 := [.int 0, .ref (k0 + 1)]) (fun _ _ => rfl) ?_
  obtain ⟨t1, e2, h⟩ := gb h
  refine gR_cvI (wX0_bitsOf_s hk0 e2) (Nat.le_of_ble_eq_true rfl) rfl rfl hk0 rfl rfl ?_
  refine gR_go 2 (pc1 := 7) (L1 := [some (.ref (k0 + 1))]) (st1 := [.int 1, .ref (k0 + 1), .int t1]) (fun _ _ => rfl) ?_
  obtain ⟨t3, e4, h⟩ := gb h
  refine gR_cvI (wX0_bitsOf_s hk0 e4) (Nat.le_of_ble_eq_true rfl) rfl rfl hk0 rfl rfl ?_
  refine gR_go 2 (pc1 := 12) (L1 := [some (.ref (k0 + 1))]) (st1 := [.int 0, .int 1, .int t3, .int t1]) (fun _ _ => rfl) ?_
  obtain ⟨t5, e6, h⟩ := gb h
  refine gR_csI (wX10_slot_s e6) (Nat.le_of_ble_eq_true rfl) rfl rfl rfl rfl ?_
  refine gR_go 4 (pc1 := 19) (L1 := [some (.ref (k0 + 1))]) (st1 := [.int 2, .ref (k0 + 1), .int (t1 ||| (t3 <<< (t5 &&& 31)))]) (fun _ _ => rfl) ?_
  obtain ⟨t7, e8, h⟩ := gb h
  refine gR_cvI (wX0_bitsOf_s hk0 e8) (Nat.le_of_ble_eq_true rfl) rfl rfl hk0 rfl rfl ?_
  refine gR_go 2 (pc1 := 24) (L1 := [some (.ref (k0 + 1))]) (st1 := [.int 0, .int 2, .int t7, .int (t1 ||| (t3 <<< (t5 &&& 31)))]) (fun _ _ => rfl) ?_
  obtain ⟨t9, e10, h⟩ := gb h
  refine gR_csI (wX10_slot_s e10) (Nat.le_of_ble_eq_true rfl) rfl rfl rfl rfl ?_
  refine gR_go 2 (pc1 := 29) (L1 := [some (.ref (k0 + 1))]) (st1 := [.int ((t1 ||| (t3 <<< (t5 &&& 31))) ||| (t7 <<< (t9 &&& 31)))]) (fun _ _ => rfl) ?_
  obtain rfl := gi1 h
  exact gR_ri rfl rfl
noncomputable def wX0_thingIn (k0 : Nat) (x1 : Int32) (x2 : Int32) (s : wS) : Option (Int32) := (wldI s (k0 + 1) 3 2).bind fun t1 => (wldI s (k0 + 1) 3 1).bind fun t2 => if 0 < t1 then (if 0 < t2 then (if x2 = 0 then ((wdvI x1 t1).bind fun t6 => (wdvI t6 t2).bind fun t7 => some t7) else if x2 = 1 then ((wdvI x1 t1).bind fun t9 => (wrmI t9 t2).bind fun t10 => some t10) else ((wrmI x1 t1).bind fun t11 => some t11)) else (some 0)) else (some 0)
theorem wX0_thingIn_s {k0 : Nat} {x1 : Int32} {x2 : Int32} {s : wS} {rv : Int32} (hk0 : wkd k0 = 0) (h : wX0_thingIn k0 x1 x2 s = some rv) : gEv 1 13 [.ref (k0 + 1), .int x1, .int x2] (wmk s) (some (.int rv), wmk s, 0, 0) := by
  refine gEv_of (d := 0) (L := [some (.ref (k0 + 1)), some (.int x1), some (.int x2), none, none]) rfl ?_
  unfold wX0_thingIn at h
  refine gR_go 1 (pc1 := 1) (L1 := [some (.ref (k0 + 1)), some (.int x1), some (.int x2), none, none]) (st1 := [.ref (k0 + 1)]) (fun _ _ => rfl) ?_
  refine gR_gfR (k := k0) (k' := (k0 + 1)) rfl hk0 rfl (wly_0_0 hk0).1 ?_
  refine gR_go 1 (pc1 := 5) (L1 := [some (.ref (k0 + 1)), some (.int x1), some (.int x2), none, none]) (st1 := [.int 2, .ref ((k0 + 1) + 1)]) (fun _ _ => rfl) ?_
  obtain ⟨t1, et1, h⟩ := gb h
  refine gR_ial (k := (k0 + 1)) rfl (wly_0_0 hk0).2.1 (wly_0_0 hk0).2.2 et1 ?_
  refine gR_go 2 (pc1 := 8) (L1 := [some (.ref (k0 + 1)), some (.int x1), some (.int x2), some (.int t1), none]) (st1 := [.ref (k0 + 1)]) (fun _ _ => rfl) ?_
  refine gR_gfR (k := k0) (k' := (k0 + 1)) rfl hk0 rfl (wly_0_0 hk0).1 ?_
  refine gR_go 1 (pc1 := 12) (L1 := [some (.ref (k0 + 1)), some (.int x1), some (.int x2), some (.int t1), none]) (st1 := [.int 1, .ref ((k0 + 1) + 1)]) (fun _ _ => rfl) ?_
  obtain ⟨t2, et2, h⟩ := gb h
  refine gR_ial (k := (k0 + 1)) rfl (wly_0_0 hk0).2.1 (wly_0_0 hk0).2.2 et2 ?_
  refine gR_go 2 (pc1 := 16) (L1 := [some (.ref (k0 + 1)), some (.int x1), some (.int x2), some (.int t1), some (.int t2)]) (st1 := [.int t1]) (fun _ _ => rfl) ?_
  rcases gif h with ⟨c3, h⟩ | ⟨c3, h⟩
  · refine gR_iz_le_f rfl c3 ?_
    refine gR_go 1 (pc1 := 21) (L1 := [some (.ref (k0 + 1)), some (.int x1), some (.int x2), some (.int t1), some (.int t2)]) (st1 := [.int t2]) (fun _ _ => rfl) ?_
    rcases gif h with ⟨c4, h⟩ | ⟨c4, h⟩
    · refine gR_iz_gt_j rfl c4 rfl ?_
      refine gR_go 1 (pc1 := 27) (L1 := [some (.ref (k0 + 1)), some (.int x1), some (.int x2), some (.int t1), some (.int t2)]) (st1 := [.int x2]) (fun _ _ => rfl) ?_
      rcases gif h with ⟨c5, h⟩ | ⟨c5, h⟩
      · refine gR_ls_k rfl c5 rfl rfl ?_
        refine gR_go 2 (pc1 := 54) (L1 := [some (.ref (k0 + 1)), some (.int x1), some (.int x2), some (.int t1), some (.int t2)]) (st1 := [.int t1, .int x1]) (fun _ _ => rfl) ?_
        obtain ⟨t6, et6, h⟩ := gb h
        refine gR_dvI rfl et6 ?_
        refine gR_go 1 (pc1 := 57) (L1 := [some (.ref (k0 + 1)), some (.int x1), some (.int x2), some (.int t1), some (.int t2)]) (st1 := [.int t2, .int t6]) (fun _ _ => rfl) ?_
        obtain ⟨t7, et7, h⟩ := gb h
        refine gR_dvI rfl et7 ?_
        obtain rfl := gi1 h
        exact gR_ri rfl rfl
      · rcases gif h with ⟨c8, h⟩ | ⟨c8, h⟩
        · refine gR_ls_k rfl c8 rfl rfl ?_
          refine gR_go 2 (pc1 := 61) (L1 := [some (.ref (k0 + 1)), some (.int x1), some (.int x2), some (.int t1), some (.int t2)]) (st1 := [.int t1, .int x1]) (fun _ _ => rfl) ?_
          obtain ⟨t9, et9, h⟩ := gb h
          refine gR_dvI rfl et9 ?_
          refine gR_go 1 (pc1 := 64) (L1 := [some (.ref (k0 + 1)), some (.int x1), some (.int x2), some (.int t1), some (.int t2)]) (st1 := [.int t2, .int t9]) (fun _ _ => rfl) ?_
          obtain ⟨t10, et10, h⟩ := gb h
          refine gR_rmI rfl et10 ?_
          obtain rfl := gi1 h
          exact gR_ri rfl rfl
        · refine gR_ls_d [0, 1] rfl (gl1 c5 (gl1 c8 gl0)) (by decide) (by decide) rfl ?_
          refine gR_go 2 (pc1 := 68) (L1 := [some (.ref (k0 + 1)), some (.int x1), some (.int x2), some (.int t1), some (.int t2)]) (st1 := [.int t1, .int x1]) (fun _ _ => rfl) ?_
          obtain ⟨t11, et11, h⟩ := gb h
          refine gR_rmI rfl et11 ?_
          obtain rfl := gi1 h
          exact gR_ri rfl rfl
    · refine gR_iz_gt_f rfl c4 ?_
      refine gR_go 1 (pc1 := 25) (L1 := [some (.ref (k0 + 1)), some (.int x1), some (.int x2), some (.int t1), some (.int t2)]) (st1 := [.int 0]) (fun _ _ => rfl) ?_
      obtain rfl := gi1 h
      exact gR_ri rfl rfl
  · refine gR_iz_le_j rfl c3 rfl ?_
    refine gR_go 1 (pc1 := 25) (L1 := [some (.ref (k0 + 1)), some (.int x1), some (.int x2), some (.int t1), some (.int t2)]) (st1 := [.int 0]) (fun _ _ => rfl) ?_
    obtain rfl := gi1 h
    exact gR_ri rfl rfl
noncomputable def wX1_kindOf (x0 : Int32) (s : wS) : Option (Int32) := if x0 = 15 then (some 0) else if x0 = 17 then (some 1) else if x0 = 18 then (some 2) else (some (-1))
theorem wX1_kindOf_s {x0 : Int32} {s : wS} {rv : Int32} (h : wX1_kindOf x0 s = some rv) : gEv 1 17 [.int x0] (wmk s) (some (.int rv), wmk s, 0, 0) := by
  refine gEv_of (d := 0) (L := [some (.int x0)]) rfl ?_
  unfold wX1_kindOf at h
  refine gR_go 1 (pc1 := 1) (L1 := [some (.int x0)]) (st1 := [.int x0]) (fun _ _ => rfl) ?_
  rcases gif h with ⟨c1, h⟩ | ⟨c1, h⟩
  · refine gR_sw_k rfl c1 rfl rfl ?_
    refine gR_go 1 (pc1 := 33) (L1 := [some (.int x0)]) (st1 := [.int 0]) (fun _ _ => rfl) ?_
    obtain rfl := gi1 h
    exact gR_ri rfl rfl
  · rcases gif h with ⟨c2, h⟩ | ⟨c2, h⟩
    · refine gR_sw_k rfl c2 rfl rfl ?_
      refine gR_go 1 (pc1 := 35) (L1 := [some (.int x0)]) (st1 := [.int 1]) (fun _ _ => rfl) ?_
      obtain rfl := gi1 h
      exact gR_ri rfl rfl
    · rcases gif h with ⟨c3, h⟩ | ⟨c3, h⟩
      · refine gR_sw_k rfl c3 rfl rfl ?_
        refine gR_go 1 (pc1 := 37) (L1 := [some (.int x0)]) (st1 := [.int 2]) (fun _ _ => rfl) ?_
        obtain rfl := gi1 h
        exact gR_ri rfl rfl
      · refine gR_sw_d [15, 17, 18] rfl (gl1 c1 (gl1 c2 (gl1 c3 gl0))) (by decide) (by decide) rfl ?_
        refine gR_go 1 (pc1 := 39) (L1 := [some (.int x0)]) (st1 := [.int (-1)]) (fun _ _ => rfl) ?_
        obtain rfl := gi1 h
        exact gR_ri rfl rfl
noncomputable def wX9_sign (s : wS) : Option (Int32) := (wX10_at 4 (s.1 3 4) s).bind fun t1 => some t1
theorem wX9_sign_s {s : wS} {rv : Int32} (h : wX9_sign s = some rv) : gEv 2 96 [.ref 4] (wmk s) (some (.int rv), wmk s, 0, 0) := by
  refine gEv_of (d := 1) (L := [some (.ref 4)]) rfl ?_
  unfold wX9_sign at h
  refine gR_go 1 (pc1 := 1) (L1 := [some (.ref 4)]) (st1 := [.ref 4]) (fun _ _ => rfl) ?_
  refine gR_gfR (k := 3) (k' := 4) rfl rfl rfl rfl ?_
  refine gR_go 1 (pc1 := 5) (L1 := [some (.ref 4)]) (st1 := [.ref 4, .ref 5]) (fun _ _ => rfl) ?_
  refine gR_gfI (k := 3) rfl rfl rfl ?_
  obtain ⟨t1, e2, h⟩ := gb h
  refine gR_csI (wX10_at_s rfl e2) (Nat.le_of_ble_eq_true rfl) rfl rfl rfl rfl ?_
  obtain rfl := gi1 h
  exact gR_ri rfl rfl
noncomputable def wX9_skip (s : wS) : Option (wS) := if (s.1 3 4) < ((s.1 3 3) - 1) then ((wpfI s 3 4 ((s.1 3 4) + 1)).bind fun s2 => some s2) else (some s)
theorem wX9_skip_s {s : wS} {rs : wS} (h : wX9_skip s = some rs) : gEv 1 98 [.ref 4] (wmk s) (none, wmk rs, 0, 0) := by
  refine gEv_of (d := 0) (L := [some (.ref 4)]) rfl ?_
  unfold wX9_skip at h
  refine gR_go 1 (pc1 := 1) (L1 := [some (.ref 4)]) (st1 := [.ref 4]) (fun _ _ => rfl) ?_
  refine gR_gfI (k := 3) rfl rfl rfl ?_
  refine gR_go 1 (pc1 := 5) (L1 := [some (.ref 4)]) (st1 := [.ref 4, .int (s.1 3 4)]) (fun _ _ => rfl) ?_
  refine gR_gfI (k := 3) rfl rfl rfl ?_
  refine gR_go 2 (pc1 := 10) (L1 := [some (.ref 4)]) (st1 := [.int ((s.1 3 3) - 1), .int (s.1 3 4)]) (fun _ _ => rfl) ?_
  rcases gif h with ⟨c1, h⟩ | ⟨c1, h⟩
  · refine gR_ic_ge_f rfl c1 ?_
    refine gR_go 2 (pc1 := 15) (L1 := [some (.ref 4)]) (st1 := [.ref 4, .ref 4]) (fun _ _ => rfl) ?_
    refine gR_gfI (k := 3) rfl rfl rfl ?_
    refine gR_go 2 (pc1 := 20) (L1 := [some (.ref 4)]) (st1 := [.int ((s.1 3 4) + 1), .ref 4]) (fun _ _ => rfl) ?_
    obtain ⟨s2, es2, h⟩ := gb h
    refine gR_pfI (k := 3) rfl rfl rfl rfl es2 ?_
    obtain rfl := gi1 h
    exact gR_rv rfl rfl
  · refine gR_ic_ge_j rfl c1 rfl ?_
    obtain rfl := gi1 h
    exact gR_rv rfl rfl
noncomputable def wX9_fail_j29 (s : wS) : Option (wS) := (wpfI s 3 4 ((s.1 3 3) - 1)).bind fun s5 => some s5
theorem wX9_fail_u29 {s : wS} {w1 : Int32} {rs : wS} (h : wX9_fail_j29 s = some rs) : gRun 1 100 29 [some (.ref 4), some (.int w1)] [] (wmk s) (none, wmk rs, 0, 0) := by
  unfold wX9_fail_j29 at h
  refine gR_go 2 (pc1 := 31) (L1 := [some (.ref 4), some (.int w1)]) (st1 := [.ref 4, .ref 4]) (fun _ _ => rfl) ?_
  refine gR_gfI (k := 3) rfl rfl rfl ?_
  refine gR_go 2 (pc1 := 36) (L1 := [some (.ref 4), some (.int w1)]) (st1 := [.int ((s.1 3 3) - 1), .ref 4]) (fun _ _ => rfl) ?_
  obtain ⟨s5, es5, h⟩ := gb h
  refine gR_pfI (k := 3) rfl rfl rfl rfl es5 ?_
  obtain rfl := gi1 h
  exact gR_rv rfl rfl
noncomputable def wX9_fail (x1 : Int32) (s : wS) : Option (wS) := if (s.1 3 5) = 0 then ((wX10_at 5 (s.1 3 4) s).bind fun t2 => (wpfI s 3 5 ((1 + (8 * t2)) + x1)).bind fun s4 => wX9_fail_j29 s4) else (wX9_fail_j29 s)
theorem wX9_fail_s {x1 : Int32} {s : wS} {rs : wS} (h : wX9_fail x1 s = some rs) : gEv 2 100 [.ref 4, .int x1] (wmk s) (none, wmk rs, 0, 0) := by
  refine gEv_of (d := 1) (L := [some (.ref 4), some (.int x1)]) rfl ?_
  unfold wX9_fail at h
  refine gR_go 1 (pc1 := 1) (L1 := [some (.ref 4), some (.int x1)]) (st1 := [.ref 4]) (fun _ _ => rfl) ?_
  refine gR_gfI (k := 3) rfl rfl rfl ?_
  rcases gif h with ⟨c1, h⟩ | ⟨c1, h⟩
  · refine gR_iz_ne_f rfl c1 ?_
    refine gR_go 4 (pc1 := 12) (L1 := [some (.ref 4), some (.int x1)]) (st1 := [.ref 4, .int 8, .int 1, .ref 4]) (fun _ _ => rfl) ?_
    refine gR_gfR (k := 3) (k' := 5) rfl rfl rfl rfl ?_
    refine gR_go 1 (pc1 := 16) (L1 := [some (.ref 4), some (.int x1)]) (st1 := [.ref 4, .ref 6, .int 8, .int 1, .ref 4]) (fun _ _ => rfl) ?_
    refine gR_gfI (k := 3) rfl rfl rfl ?_
    obtain ⟨t2, e3, h⟩ := gb h
    refine gR_csI (wX10_at_s rfl e3) (Nat.le_of_ble_eq_true rfl) rfl rfl rfl rfl ?_
    refine gR_go 4 (pc1 := 26) (L1 := [some (.ref 4), some (.int x1)]) (st1 := [.int ((1 + (8 * t2)) + x1), .ref 4]) (fun _ _ => rfl) ?_
    obtain ⟨s4, es4, h⟩ := gb h
    refine gR_pfI (k := 3) rfl rfl rfl rfl es4 ?_
    exact wX9_fail_u29 h
  · refine gR_iz_ne_j rfl c1 rfl ?_
    exact wX9_fail_u29 h
noncomputable def wX9_takeNumber_j45 (x3 : Int32) (s : wS) : Option (Int32 × wS) := (wX9_fail 1 s).bind fun s8 => some (x3, s8)
theorem wX9_takeNumber_u45 {x3 : Int32} {s : wS} {w1 : Int32} {w2 : Int32} {rv : Int32} {rs : wS} (h : wX9_takeNumber_j45 x3 s = some (rv, rs)) : gRun 2 101 45 [some (.ref 4), some (.int w1), some (.int w2), some (.int x3)] [] (wmk s) (some (.int rv), wmk rs, 0, 0) := by
  unfold wX9_takeNumber_j45 at h
  refine gR_go 2 (pc1 := 47) (L1 := [some (.ref 4), some (.int w1), some (.int w2), some (.int x3)]) (st1 := [.int 1, .ref 4]) (fun _ _ => rfl) ?_
  obtain ⟨s8, e9, h⟩ := gb h
  refine gR_cvV (wX9_fail_s e9) (Nat.le_of_ble_eq_true rfl) rfl rfl rfl rfl rfl ?_
  refine gR_go 2 (pc1 := 58) (L1 := [some (.ref 4), some (.int w1), some (.int w2), some (.int x3)]) (st1 := [.int x3]) (fun _ _ => rfl) ?_
  obtain ⟨rfl, rfl⟩ := gi2 h
  exact gR_ri rfl rfl
noncomputable def wX9_takeNumber (x1 : Int32) (x2 : Int32) (s : wS) : Option (Int32 × wS) := (wX10_at 6 (s.1 3 4) s).bind fun t1 => (wX10_at 4 (s.1 3 4) s).bind fun t3 => if t3 = 2 then (if t1 < x1 then (wX9_takeNumber_j45 t1 s) else (if x2 < t1 then (wX9_takeNumber_j45 t1 s) else ((wX9_skip s).bind fun s12 => some (t1, s12)))) else ((wX9_fail 0 s).bind fun s15 => some (t1, s15))
theorem wX9_takeNumber_s {x1 : Int32} {x2 : Int32} {s : wS} {rv : Int32} {rs : wS} (h : wX9_takeNumber x1 x2 s = some (rv, rs)) : gEv 3 101 [.ref 4, .int x1, .int x2] (wmk s) (some (.int rv), wmk rs, 0, 0) := by
  refine gEv_of (d := 2) (L := [some (.ref 4), some (.int x1), some (.int x2), none]) rfl ?_
  unfold wX9_takeNumber at h
  refine gR_go 1 (pc1 := 1) (L1 := [some (.ref 4), some (.int x1), some (.int x2), none]) (st1 := [.ref 4]) (fun _ _ => rfl) ?_
  refine gR_gfR (k := 3) (k' := 6) rfl rfl rfl rfl ?_
  refine gR_go 1 (pc1 := 5) (L1 := [some (.ref 4), some (.int x1), some (.int x2), none]) (st1 := [.ref 4, .ref 7]) (fun _ _ => rfl) ?_
  refine gR_gfI (k := 3) rfl rfl rfl ?_
  obtain ⟨t1, e2, h⟩ := gb h
  refine gR_csI (wX10_at_s rfl e2) (Nat.le_of_ble_eq_true rfl) rfl rfl rfl rfl ?_
  refine gR_go 2 (pc1 := 13) (L1 := [some (.ref 4), some (.int x1), some (.int x2), some (.int t1)]) (st1 := [.ref 4]) (fun _ _ => rfl) ?_
  refine gR_gfR (k := 3) (k' := 4) rfl rfl rfl rfl ?_
  refine gR_go 1 (pc1 := 17) (L1 := [some (.ref 4), some (.int x1), some (.int x2), some (.int t1)]) (st1 := [.ref 4, .ref 5]) (fun _ _ => rfl) ?_
  refine gR_gfI (k := 3) rfl rfl rfl ?_
  obtain ⟨t3, e4, h⟩ := gb h
  refine gR_csI (wX10_at_s rfl e4) (Nat.le_of_ble_eq_true rfl) rfl rfl rfl rfl ?_
  refine gR_go 1 (pc1 := 24) (L1 := [some (.ref 4), some (.int x1), some (.int x2), some (.int t1)]) (st1 := [.int 2, .int t3]) (fun _ _ => rfl) ?_
  rcases gif h with ⟨c5, h⟩ | ⟨c5, h⟩
  · refine gR_ic_eq_j rfl c5 rfl ?_
    refine gR_go 2 (pc1 := 37) (L1 := [some (.ref 4), some (.int x1), some (.int x2), some (.int t1)]) (st1 := [.int x1, .int t1]) (fun _ _ => rfl) ?_
    rcases gif h with ⟨c6, h⟩ | ⟨c6, h⟩
    · refine gR_ic_lt_j rfl c6 rfl ?_
      exact wX9_takeNumber_u45 h
    · refine gR_ic_lt_f rfl c6 ?_
      refine gR_go 2 (pc1 := 42) (L1 := [some (.ref 4), some (.int x1), some (.int x2), some (.int t1)]) (st1 := [.int x2, .int t1]) (fun _ _ => rfl) ?_
      rcases gif h with ⟨c10, h⟩ | ⟨c10, h⟩
      · refine gR_ic_le_f rfl c10 ?_
        exact wX9_takeNumber_u45 h
      · refine gR_ic_le_j rfl c10 rfl ?_
        refine gR_go 1 (pc1 := 54) (L1 := [some (.ref 4), some (.int x1), some (.int x2), some (.int t1)]) (st1 := [.ref 4]) (fun _ _ => rfl) ?_
        obtain ⟨s12, e13, h⟩ := gb h
        refine gR_cvV (wX9_skip_s e13) (Nat.le_of_ble_eq_true rfl) rfl rfl rfl rfl rfl ?_
        refine gR_go 1 (pc1 := 58) (L1 := [some (.ref 4), some (.int x1), some (.int x2), some (.int t1)]) (st1 := [.int t1]) (fun _ _ => rfl) ?_
        obtain ⟨rfl, rfl⟩ := gi2 h
        exact gR_ri rfl rfl
  · refine gR_ic_eq_f rfl c5 ?_
    refine gR_go 2 (pc1 := 29) (L1 := [some (.ref 4), some (.int x1), some (.int x2), some (.int t1)]) (st1 := [.int 0, .ref 4]) (fun _ _ => rfl) ?_
    obtain ⟨s15, e16, h⟩ := gb h
    refine gR_cvV (wX9_fail_s e16) (Nat.le_of_ble_eq_true rfl) rfl rfl rfl rfl rfl ?_
    refine gR_go 2 (pc1 := 58) (L1 := [some (.ref 4), some (.int x1), some (.int x2), some (.int t1)]) (st1 := [.int t1]) (fun _ _ => rfl) ?_
    obtain ⟨rfl, rfl⟩ := gi2 h
    exact gR_ri rfl rfl
noncomputable def wX1_readClause_j121 (k100 : Nat) (y1 : Int32) (y2 : Int32) (y4 : Int32) (y5 : Int32) (s : wS) : Option (wS) := (wX9_takeNumber y4 y5 s).bind fun (t26, s27) => (wX0_add k100 y1 y2 t26 s27).bind fun s30 => some s30
theorem wX1_readClause_u121 {k100 : Nat} {y1 : Int32} {y2 : Int32} {y4 : Int32} {y5 : Int32} {s : wS} {w2 : Nat} {w3 : Int32} {w4 : Int32} {w5 : Int32} {w6 : Int32} {rs : wS} (hk100 : wkd k100 = 0) (h : wX1_readClause_j121 k100 y1 y2 y4 y5 s = some rs) : gRun 3 16 121 [some (.ref 8), some (.ref 4), some (.ref (w2 + 1)), some (.int w3), some (.int w4), some (.int w5), some (.int w6)] [.int y5, .int y4, .ref 4, .int y2, .int y1, .ref (k100 + 1)] (wmk s) (none, wmk rs, 0, 0) := by
  unfold wX1_readClause_j121 at h
  obtain ⟨⟨t26, s27⟩, e28, h⟩ := gb h
  dsimp only at h
  refine gR_cvI (wX9_takeNumber_s e28) (Nat.le_of_ble_eq_true rfl) rfl rfl rfl rfl rfl ?_
  obtain ⟨s30, e31, h⟩ := gb h
  refine gR_cvV (wX0_add_s hk100 e31) (Nat.le_of_ble_eq_true rfl) rfl rfl hk100 rfl rfl ?_
  obtain rfl := gi1 h
  exact gR_rv rfl rfl
noncomputable def wX1_readClause_j51 (k2 : Nat) (x4 : Int32) (y0 : Int32) (s : wS) : Option (wS) := if y0 = 0 then ((wX9_skip s).bind fun s12 => if x4 = 0 then ((wX9_takeNumber 1 8 s12).bind fun (t15, s16) => (wX0_setHours k2 t15 s16).bind fun s19 => (wpfZ s19 7 0 1).bind fun s21 => some s21) else ((wX9_takeNumber 0 99 s12).bind fun (t22, s23) => if x4 = 1 then (wX1_readClause_j121 k2 x4 t22 0 99 s23) else (wX1_readClause_j121 k2 x4 t22 0 9 s23))) else ((wX9_fail 4 s).bind fun s33 => some s33)
theorem wX1_readClause_u51 {k2 : Nat} {x4 : Int32} {y0 : Int32} {s : wS} {w3 : Int32} {w5 : Option Value} {w6 : Option Value} {rs : wS} (hk2 : wkd k2 = 0) (h : wX1_readClause_j51 k2 x4 y0 s = some rs) : gRun 3 16 51 [some (.ref 8), some (.ref 4), some (.ref (k2 + 1)), some (.int w3), some (.int x4), w5, w6] [.int y0] (wmk s) (none, wmk rs, 0, 0) := by
  unfold wX1_readClause_j51 at h
  refine gR_go 2 (pc1 := 55) (L1 := [some (.ref 8), some (.ref 4), some (.ref (k2 + 1)), some (.int w3), some (.int x4), some (.int y0), w6]) (st1 := [.int y0]) (fun _ _ => rfl) ?_
  rcases gif h with ⟨c10, h⟩ | ⟨c10, h⟩
  · refine gR_iz_eq_j rfl c10 rfl ?_
    refine gR_go 1 (pc1 := 65) (L1 := [some (.ref 8), some (.ref 4), some (.ref (k2 + 1)), some (.int w3), some (.int x4), some (.int y0), w6]) (st1 := [.ref 4]) (fun _ _ => rfl) ?_
    obtain ⟨s12, e13, h⟩ := gb h
    refine gR_cvV (wX9_skip_s e13) (Nat.le_of_ble_eq_true rfl) rfl rfl rfl rfl rfl ?_
    refine gR_go 1 (pc1 := 70) (L1 := [some (.ref 8), some (.ref 4), some (.ref (k2 + 1)), some (.int w3), some (.int x4), some (.int y0), w6]) (st1 := [.int x4]) (fun _ _ => rfl) ?_
    rcases gif h with ⟨c14, h⟩ | ⟨c14, h⟩
    · refine gR_iz_ne_f rfl c14 ?_
      refine gR_go 4 (pc1 := 78) (L1 := [some (.ref 8), some (.ref 4), some (.ref (k2 + 1)), some (.int w3), some (.int x4), some (.int y0), w6]) (st1 := [.int 8, .int 1, .ref 4, .ref (k2 + 1)]) (fun _ _ => rfl) ?_
      obtain ⟨⟨t15, s16⟩, e17, h⟩ := gb h
      dsimp only at h
      refine gR_cvI (wX9_takeNumber_s e17) (Nat.le_of_ble_eq_true rfl) rfl rfl rfl rfl rfl ?_
      obtain ⟨s19, e20, h⟩ := gb h
      refine gR_cvV (wX0_setHours_s hk2 e20) (Nat.le_of_ble_eq_true rfl) rfl rfl hk2 rfl rfl ?_
      refine gR_go 2 (pc1 := 86) (L1 := [some (.ref 8), some (.ref 4), some (.ref (k2 + 1)), some (.int w3), some (.int x4), some (.int y0), w6]) (st1 := [.int 1, .ref 8]) (fun _ _ => rfl) ?_
      obtain ⟨s21, es21, h⟩ := gb h
      refine gR_pfZ (k := 7) rfl rfl rfl rfl es21 ?_
      refine gR_go 1 (pc1 := 127) (L1 := [some (.ref 8), some (.ref 4), some (.ref (k2 + 1)), some (.int w3), some (.int x4), some (.int y0), w6]) (st1 := []) (fun _ _ => rfl) ?_
      obtain rfl := gi1 h
      exact gR_rv rfl rfl
    · refine gR_iz_ne_j rfl c14 rfl ?_
      refine gR_go 3 (pc1 := 96) (L1 := [some (.ref 8), some (.ref 4), some (.ref (k2 + 1)), some (.int w3), some (.int x4), some (.int y0), w6]) (st1 := [.int 99, .int 0, .ref 4]) (fun _ _ => rfl) ?_
      obtain ⟨⟨t22, s23⟩, e24, h⟩ := gb h
      dsimp only at h
      refine gR_cvI (wX9_takeNumber_s e24) (Nat.le_of_ble_eq_true rfl) rfl rfl rfl rfl rfl ?_
      refine gR_go 8 (pc1 := 111) (L1 := [some (.ref 8), some (.ref 4), some (.ref (k2 + 1)), some (.int w3), some (.int x4), some (.int y0), some (.int t22)]) (st1 := [.int 1, .int x4, .int 0, .ref 4, .int t22, .int x4, .ref (k2 + 1)]) (fun _ _ => rfl) ?_
      rcases gif h with ⟨c25, h⟩ | ⟨c25, h⟩
      · refine gR_ic_ne_f rfl c25 ?_
        refine gR_go 2 (pc1 := 121) (L1 := [some (.ref 8), some (.ref 4), some (.ref (k2 + 1)), some (.int w3), some (.int x4), some (.int y0), some (.int t22)]) (st1 := [.int 99, .int 0, .ref 4, .int t22, .int x4, .ref (k2 + 1)]) (fun _ _ => rfl) ?_
        exact wX1_readClause_u121 hk2 h
      · refine gR_ic_ne_j rfl c25 rfl ?_
        refine gR_go 1 (pc1 := 121) (L1 := [some (.ref 8), some (.ref 4), some (.ref (k2 + 1)), some (.int w3), some (.int x4), some (.int y0), some (.int t22)]) (st1 := [.int 9, .int 0, .ref 4, .int t22, .int x4, .ref (k2 + 1)]) (fun _ _ => rfl) ?_
        exact wX1_readClause_u121 hk2 h
  · refine gR_iz_eq_f rfl c10 ?_
    refine gR_go 2 (pc1 := 60) (L1 := [some (.ref 8), some (.ref 4), some (.ref (k2 + 1)), some (.int w3), some (.int x4), some (.int y0), w6]) (st1 := [.int 4, .ref 4]) (fun _ _ => rfl) ?_
    obtain ⟨s33, e34, h⟩ := gb h
    refine gR_cvV (wX9_fail_s e34) (Nat.le_of_ble_eq_true rfl) rfl rfl rfl rfl rfl ?_
    obtain rfl := gi1 h
    exact gR_rv rfl rfl
noncomputable def wX1_readClause (k2 : Nat) (s : wS) : Option (wS) := (wX9_sign s).bind fun t1 => (wX1_kindOf t1 s).bind fun t3 => if t3 = (-1) then ((wX9_fail 0 s).bind fun s7 => some s7) else (if t3 = 0 then (wX1_readClause_j51 k2 t3 (s.1 7 0) s) else ((wX0_manyOf k2 t3 s).bind fun t35 => if t35 < 8 then (wX1_readClause_j51 k2 t3 0 s) else (wX1_readClause_j51 k2 t3 1 s)))
theorem wX1_readClause_s {k2 : Nat} {s : wS} {rs : wS} (hk2 : wkd k2 = 0) (h : wX1_readClause k2 s = some rs) : gEv 4 16 [.ref 8, .ref 4, .ref (k2 + 1)] (wmk s) (none, wmk rs, 0, 0) := by
  refine gEv_of (d := 3) (L := [some (.ref 8), some (.ref 4), some (.ref (k2 + 1)), none, none, none, none]) rfl ?_
  unfold wX1_readClause at h
  refine gR_go 1 (pc1 := 1) (L1 := [some (.ref 8), some (.ref 4), some (.ref (k2 + 1)), none, none, none, none]) (st1 := [.ref 4]) (fun _ _ => rfl) ?_
  obtain ⟨t1, e2, h⟩ := gb h
  refine gR_cvI (wX9_sign_s e2) (Nat.le_of_ble_eq_true rfl) rfl rfl rfl rfl rfl ?_
  refine gR_go 2 (pc1 := 6) (L1 := [some (.ref 8), some (.ref 4), some (.ref (k2 + 1)), some (.int t1), none, none, none]) (st1 := [.int t1]) (fun _ _ => rfl) ?_
  obtain ⟨t3, e4, h⟩ := gb h
  refine gR_csI (wX1_kindOf_s e4) (Nat.le_of_ble_eq_true rfl) rfl rfl rfl rfl ?_
  refine gR_go 3 (pc1 := 14) (L1 := [some (.ref 8), some (.ref 4), some (.ref (k2 + 1)), some (.int t1), some (.int t3), none, none]) (st1 := [.int (-1), .int t3]) (fun _ _ => rfl) ?_
  rcases gif h with ⟨c5, h⟩ | ⟨c5, h⟩
  · refine gR_ic_ne_f rfl c5 ?_
    refine gR_go 2 (pc1 := 19) (L1 := [some (.ref 8), some (.ref 4), some (.ref (k2 + 1)), some (.int t1), some (.int t3), none, none]) (st1 := [.int 0, .ref 4]) (fun _ _ => rfl) ?_
    obtain ⟨s7, e8, h⟩ := gb h
    refine gR_cvV (wX9_fail_s e8) (Nat.le_of_ble_eq_true rfl) rfl rfl rfl rfl rfl ?_
    obtain rfl := gi1 h
    exact gR_rv rfl rfl
  · refine gR_ic_ne_j rfl c5 rfl ?_
    refine gR_go 1 (pc1 := 25) (L1 := [some (.ref 8), some (.ref 4), some (.ref (k2 + 1)), some (.int t1), some (.int t3), none, none]) (st1 := [.int t3]) (fun _ _ => rfl) ?_
    rcases gif h with ⟨c9, h⟩ | ⟨c9, h⟩
    · refine gR_iz_ne_f rfl c9 ?_
      refine gR_go 1 (pc1 := 29) (L1 := [some (.ref 8), some (.ref 4), some (.ref (k2 + 1)), some (.int t1), some (.int t3), none, none]) (st1 := [.ref 8]) (fun _ _ => rfl) ?_
      refine gR_gfI (k := 7) rfl rfl rfl ?_
      refine gR_go 1 (pc1 := 51) (L1 := [some (.ref 8), some (.ref 4), some (.ref (k2 + 1)), some (.int t1), some (.int t3), none, none]) (st1 := [.int (s.1 7 0)]) (fun _ _ => rfl) ?_
      exact wX1_readClause_u51 hk2 h
    · refine gR_iz_ne_j rfl c9 rfl ?_
      refine gR_go 2 (pc1 := 38) (L1 := [some (.ref 8), some (.ref 4), some (.ref (k2 + 1)), some (.int t1), some (.int t3), none, none]) (st1 := [.int t3, .ref (k2 + 1)]) (fun _ _ => rfl) ?_
      obtain ⟨t35, e36, h⟩ := gb h
      refine gR_cvI (wX0_manyOf_s hk2 e36) (Nat.le_of_ble_eq_true rfl) rfl rfl hk2 rfl rfl ?_
      refine gR_go 1 (pc1 := 43) (L1 := [some (.ref 8), some (.ref 4), some (.ref (k2 + 1)), some (.int t1), some (.int t3), none, none]) (st1 := [.int 8, .int t35]) (fun _ _ => rfl) ?_
      rcases gif h with ⟨c37, h⟩ | ⟨c37, h⟩
      · refine gR_ic_lt_j rfl c37 rfl ?_
        refine gR_go 1 (pc1 := 51) (L1 := [some (.ref 8), some (.ref 4), some (.ref (k2 + 1)), some (.int t1), some (.int t3), none, none]) (st1 := [.int 0]) (fun _ _ => rfl) ?_
        exact wX1_readClause_u51 hk2 h
      · refine gR_ic_lt_f rfl c37 ?_
        refine gR_go 2 (pc1 := 51) (L1 := [some (.ref 8), some (.ref 4), some (.ref (k2 + 1)), some (.int t1), some (.int t3), none, none]) (st1 := [.int 1]) (fun _ _ => rfl) ?_
        exact wX1_readClause_u51 hk2 h
noncomputable def wX9_take (x1 : Int32) (s : wS) : Option (Int32 × wS) := (wX10_at 4 (s.1 3 4) s).bind fun t1 => if t1 = x1 then ((wX9_skip s).bind fun s5 => some (1, s5)) else (some (0, s))
theorem wX9_take_s {x1 : Int32} {s : wS} {rv : Int32} {rs : wS} (h : wX9_take x1 s = some (rv, rs)) : gEv 2 99 [.ref 4, .int x1] (wmk s) (some (.int rv), wmk rs, 0, 0) := by
  refine gEv_of (d := 1) (L := [some (.ref 4), some (.int x1)]) rfl ?_
  unfold wX9_take at h
  refine gR_go 1 (pc1 := 1) (L1 := [some (.ref 4), some (.int x1)]) (st1 := [.ref 4]) (fun _ _ => rfl) ?_
  refine gR_gfR (k := 3) (k' := 4) rfl rfl rfl rfl ?_
  refine gR_go 1 (pc1 := 5) (L1 := [some (.ref 4), some (.int x1)]) (st1 := [.ref 4, .ref 5]) (fun _ _ => rfl) ?_
  refine gR_gfI (k := 3) rfl rfl rfl ?_
  obtain ⟨t1, e2, h⟩ := gb h
  refine gR_csI (wX10_at_s rfl e2) (Nat.le_of_ble_eq_true rfl) rfl rfl rfl rfl ?_
  refine gR_go 1 (pc1 := 12) (L1 := [some (.ref 4), some (.int x1)]) (st1 := [.int x1, .int t1]) (fun _ _ => rfl) ?_
  rcases gif h with ⟨c3, h⟩ | ⟨c3, h⟩
  · refine gR_ic_eq_j rfl c3 rfl ?_
    refine gR_go 1 (pc1 := 18) (L1 := [some (.ref 4), some (.int x1)]) (st1 := [.ref 4]) (fun _ _ => rfl) ?_
    obtain ⟨s5, e6, h⟩ := gb h
    refine gR_cvV (wX9_skip_s e6) (Nat.le_of_ble_eq_true rfl) rfl rfl rfl rfl rfl ?_
    refine gR_go 1 (pc1 := 22) (L1 := [some (.ref 4), some (.int x1)]) (st1 := [.int 1]) (fun _ _ => rfl) ?_
    obtain ⟨rfl, rfl⟩ := gi2 h
    exact gR_rzc rfl rfl rfl
  · refine gR_ic_eq_f rfl c3 ?_
    refine gR_go 1 (pc1 := 16) (L1 := [some (.ref 4), some (.int x1)]) (st1 := [.int 0]) (fun _ _ => rfl) ?_
    obtain ⟨rfl, rfl⟩ := gi2 h
    exact gR_rzc rfl rfl rfl
noncomputable def wX1_read_h14 (k2 : Nat) : Nat → Int32 → Int32 → wS → Option (wS)
  | 0, _, _, _ => none
  | n + 1, x3, x4, s => if x4 < 400 then (if x3 = 0 then (some s) else ((wX1_readClause k2 s).bind fun s8 => (wX9_take 3 s8).bind fun (t10, s11) => wX1_read_h14 k2 n t10 (x4 + 1) s11)) else (some s)
theorem wX1_read_t14 {k2 : Nat} {x : wS} {r : ri_R} (hk2 : wkd k2 = 0) (he44 : ∀ (s : wS) (w3 : Int32) (w4 : Int32) , x = s → gRun 4 15 44 [some (.ref 8), some (.ref 4), some (.ref (k2 + 1)), some (.int w3), some (.int w4)] [] (wmk s) r) : ∀ {n : Nat} {x3 : Int32} {x4 : Int32} {s : wS} , wX1_read_h14 k2 n x3 x4 s = some x → gRun 4 15 14 [some (.ref 8), some (.ref 4), some (.ref (k2 + 1)), some (.int x3), some (.int x4)] [] (wmk s) r := by
  intro n
  induction n with
  | zero => intro x3 x4 s h; cases (show (none : Option (wS)) = some x from h)
  | succ n ih =>
    intro x3 x4 s h
    rw [wX1_read_h14] at h
    refine gR_go 2 (pc1 := 19) (L1 := [some (.ref 8), some (.ref 4), some (.ref (k2 + 1)), some (.int x3), some (.int x4)]) (st1 := [.int 400, .int x4]) (fun _ _ => rfl) ?_
    rcases gif h with ⟨c5, h⟩ | ⟨c5, h⟩
    · refine gR_ic_ge_f rfl c5 ?_
      refine gR_go 1 (pc1 := 23) (L1 := [some (.ref 8), some (.ref 4), some (.ref (k2 + 1)), some (.int x3), some (.int x4)]) (st1 := [.int x3]) (fun _ _ => rfl) ?_
      rcases gif h with ⟨c6, h⟩ | ⟨c6, h⟩
      · refine gR_iz_eq_j rfl c6 rfl ?_
        exact he44 _ _ _ (Option.some.inj h).symm
      · refine gR_iz_eq_f rfl c6 ?_
        refine gR_go 3 (pc1 := 29) (L1 := [some (.ref 8), some (.ref 4), some (.ref (k2 + 1)), some (.int x3), some (.int x4)]) (st1 := [.ref (k2 + 1), .ref 4, .ref 8]) (fun _ _ => rfl) ?_
        obtain ⟨s8, e9, h⟩ := gb h
        refine gR_cvV (wX1_readClause_s hk2 e9) (Nat.le_of_ble_eq_true rfl) rfl rfl rfl rfl rfl ?_
        refine gR_go 2 (pc1 := 34) (L1 := [some (.ref 8), some (.ref 4), some (.ref (k2 + 1)), some (.int x3), some (.int x4)]) (st1 := [.int 3, .ref 4]) (fun _ _ => rfl) ?_
        obtain ⟨⟨t10, s11⟩, e12, h⟩ := gb h
        dsimp only at h
        refine gR_cvI (wX9_take_s e12) (Nat.le_of_ble_eq_true rfl) rfl rfl rfl rfl rfl ?_
        refine gR_go 3 (pc1 := 14) (L1 := [some (.ref 8), some (.ref 4), some (.ref (k2 + 1)), some (.int t10), some (.int (x4 + 1))]) (st1 := []) (fun _ _ => rfl) ?_
        exact ih h
    · refine gR_ic_ge_j rfl c5 rfl ?_
      exact he44 _ _ _ (Option.some.inj h).symm
noncomputable def wX1_read_j58 (s : wS) : Option (wS) := (wX9_fail 0 s).bind fun s24 => some s24
theorem wX1_read_u58 {s : wS} {w2 : Nat} {w3 : Int32} {w4 : Int32} {rs : wS} (h : wX1_read_j58 s = some rs) : gRun 4 15 58 [some (.ref 8), some (.ref 4), some (.ref (w2 + 1)), some (.int w3), some (.int w4)] [] (wmk s) (none, wmk rs, 0, 0) := by
  unfold wX1_read_j58 at h
  refine gR_go 2 (pc1 := 60) (L1 := [some (.ref 8), some (.ref 4), some (.ref (w2 + 1)), some (.int w3), some (.int w4)]) (st1 := [.int 0, .ref 4]) (fun _ _ => rfl) ?_
  obtain ⟨s24, e25, h⟩ := gb h
  refine gR_cvV (wX9_fail_s e25) (Nat.le_of_ble_eq_true rfl) rfl rfl rfl rfl rfl ?_
  obtain rfl := gi1 h
  exact gR_rv rfl rfl
noncomputable def wX1_read_j44 (k2 : Nat) (s : wS) : Option (wS) := (wX9_sign s).bind fun t17 => if t17 = 0 then ((wX0_isTold k2 s).bind fun t20 => if t20 = 0 then (wX1_read_j58 s) else (some s)) else (wX1_read_j58 s)
theorem wX1_read_u44 {k2 : Nat} {s : wS} {w3 : Int32} {w4 : Int32} {rs : wS} (hk2 : wkd k2 = 0) (h : wX1_read_j44 k2 s = some rs) : gRun 4 15 44 [some (.ref 8), some (.ref 4), some (.ref (k2 + 1)), some (.int w3), some (.int w4)] [] (wmk s) (none, wmk rs, 0, 0) := by
  unfold wX1_read_j44 at h
  refine gR_go 1 (pc1 := 45) (L1 := [some (.ref 8), some (.ref 4), some (.ref (k2 + 1)), some (.int w3), some (.int w4)]) (st1 := [.ref 4]) (fun _ _ => rfl) ?_
  obtain ⟨t17, e18, h⟩ := gb h
  refine gR_cvI (wX9_sign_s e18) (Nat.le_of_ble_eq_true rfl) rfl rfl rfl rfl rfl ?_
  rcases gif h with ⟨c19, h⟩ | ⟨c19, h⟩
  · refine gR_iz_ne_f rfl c19 ?_
    refine gR_go 1 (pc1 := 52) (L1 := [some (.ref 8), some (.ref 4), some (.ref (k2 + 1)), some (.int w3), some (.int w4)]) (st1 := [.ref (k2 + 1)]) (fun _ _ => rfl) ?_
    obtain ⟨t20, e21, h⟩ := gb h
    refine gR_cvI (wX0_isTold_s hk2 e21) (Nat.le_of_ble_eq_true rfl) rfl rfl hk2 rfl rfl ?_
    rcases gif h with ⟨c22, h⟩ | ⟨c22, h⟩
    · refine gR_iz_ne_f rfl c22 ?_
      exact wX1_read_u58 h
    · refine gR_iz_ne_j rfl c22 rfl ?_
      obtain rfl := gi1 h
      exact gR_rv rfl rfl
  · refine gR_iz_ne_j rfl c19 rfl ?_
    exact wX1_read_u58 h
noncomputable def wX1_read (k2 : Nat) (s : wS) : Option (wS) := (wX0_clear k2 s).bind fun s2 => (wpfZ s2 7 0 0).bind fun s4 => (wX1_read_h14 k2 wFuel 1 0 s4).bind fun s14 => wX1_read_j44 k2 s14
theorem wX1_read_s {k2 : Nat} {s : wS} {rs : wS} (hk2 : wkd k2 = 0) (h : wX1_read k2 s = some rs) : gEv 5 15 [.ref 8, .ref 4, .ref (k2 + 1)] (wmk s) (none, wmk rs, 0, 0) := by
  refine gEv_of (d := 4) (L := [some (.ref 8), some (.ref 4), some (.ref (k2 + 1)), none, none]) rfl ?_
  unfold wX1_read at h
  refine gR_go 1 (pc1 := 1) (L1 := [some (.ref 8), some (.ref 4), some (.ref (k2 + 1)), none, none]) (st1 := [.ref (k2 + 1)]) (fun _ _ => rfl) ?_
  obtain ⟨s2, e3, h⟩ := gb h
  refine gR_cvV (wX0_clear_s hk2 e3) (Nat.le_of_ble_eq_true rfl) rfl rfl hk2 rfl rfl ?_
  refine gR_go 2 (pc1 := 6) (L1 := [some (.ref 8), some (.ref 4), some (.ref (k2 + 1)), none, none]) (st1 := [.int 0, .ref 8]) (fun _ _ => rfl) ?_
  obtain ⟨s4, es4, h⟩ := gb h
  refine gR_pfZ (k := 7) rfl rfl rfl rfl es4 ?_
  refine gR_go 4 (pc1 := 14) (L1 := [some (.ref 8), some (.ref 4), some (.ref (k2 + 1)), some (.int 1), some (.int 0)]) (st1 := []) (fun _ _ => rfl) ?_
  obtain ⟨z13, ez13, h⟩ := gb h
  refine wX1_read_t14 hk2 ?_  ez13
  · intro s14 w15 w16 hz
    replace hz := hz.symm
    subst hz
    exact wX1_read_u44 hk2 h
noncomputable def wX2_open (k0 : Nat) (k1 : Nat) (s : wS) : Option (wS) := (wX0_becomes (k0 + 1) k1 s).bind fun s2 => (wpfI s2 k0 6 0).bind fun s4 => (wpfI s4 k0 7 (-1)).bind fun s5 => (wpfI s5 k0 10 0).bind fun s6 => some s6
theorem wX2_open_s {k0 : Nat} {k1 : Nat} {s : wS} {rs : wS} (hk0 : wkd k0 = 2) (hk1 : wkd k1 = 0) (h : wX2_open k0 k1 s = some rs) : gEv 2 19 [.ref (k0 + 1), .ref (k1 + 1)] (wmk s) (none, wmk rs, 0, 0) := by
  refine gEv_of (d := 1) (L := [some (.ref (k0 + 1)), some (.ref (k1 + 1))]) rfl ?_
  unfold wX2_open at h
  refine gR_go 1 (pc1 := 1) (L1 := [some (.ref (k0 + 1)), some (.ref (k1 + 1))]) (st1 := [.ref (k0 + 1)]) (fun _ _ => rfl) ?_
  refine gR_gfR (k := k0) (k' := (k0 + 1)) rfl hk0 rfl (wly_2_0 hk0).1 ?_
  refine gR_go 1 (pc1 := 5) (L1 := [some (.ref (k0 + 1)), some (.ref (k1 + 1))]) (st1 := [.ref (k1 + 1), .ref ((k0 + 1) + 1)]) (fun _ _ => rfl) ?_
  obtain ⟨s2, e3, h⟩ := gb h
  refine gR_cvV (wX0_becomes_s (wly_2_0 hk0).2.1 hk1 e3) (Nat.le_of_ble_eq_true rfl) rfl rfl (wly_2_0 hk0).2.1 rfl rfl ?_
  refine gR_go 2 (pc1 := 10) (L1 := [some (.ref (k0 + 1)), some (.ref (k1 + 1))]) (st1 := [.int 0, .ref (k0 + 1)]) (fun _ _ => rfl) ?_
  obtain ⟨s4, es4, h⟩ := gb h
  refine gR_pfI (k := k0) rfl hk0 rfl rfl es4 ?_
  refine gR_go 2 (pc1 := 15) (L1 := [some (.ref (k0 + 1)), some (.ref (k1 + 1))]) (st1 := [.int (-1), .ref (k0 + 1)]) (fun _ _ => rfl) ?_
  obtain ⟨s5, es5, h⟩ := gb h
  refine gR_pfI (k := k0) rfl hk0 rfl rfl es5 ?_
  refine gR_go 2 (pc1 := 20) (L1 := [some (.ref (k0 + 1)), some (.ref (k1 + 1))]) (st1 := [.int 0, .ref (k0 + 1)]) (fun _ _ => rfl) ?_
  obtain ⟨s6, es6, h⟩ := gb h
  refine gR_pfI (k := k0) rfl hk0 rfl rfl es6 ?_
  obtain rfl := gi1 h
  exact gR_rv rfl rfl
noncomputable def wX2_becomes_h73 (k0 : Nat) (k1 : Nat) : Nat → Int32 → wS → Option (wS)
  | 0, _, _ => none
  | n + 1, x2, s => if x2 < 40 then ((wldI s (k1 + 9) 40 x2).bind fun t9 => (wstZ s (k0 + 9) 40 x2 t9).bind fun s10 => wX2_becomes_h73 k0 k1 n (x2 + 1) s10) else (some s)
theorem wX2_becomes_t73 {k0 : Nat} {k1 : Nat} {x : wS} {r : ri_R} (hk0 : wkd k0 = 2) (hk1 : wkd k1 = 2) (he97 : ∀ (s : wS) (w2 : Int32) , x = s → gRun 1 20 97 [some (.ref (k0 + 1)), some (.ref (k1 + 1)), some (.int w2)] [] (wmk s) r) : ∀ {n : Nat} {x2 : Int32} {s : wS} , wX2_becomes_h73 k0 k1 n x2 s = some x → gRun 1 20 73 [some (.ref (k0 + 1)), some (.ref (k1 + 1)), some (.int x2)] [] (wmk s) r := by
  intro n
  induction n with
  | zero => intro x2 s h; cases (show (none : Option (wS)) = some x from h)
  | succ n ih =>
    intro x2 s h
    rw [wX2_becomes_h73] at h
    refine gR_go 2 (pc1 := 76) (L1 := [some (.ref (k0 + 1)), some (.ref (k1 + 1)), some (.int x2)]) (st1 := [.int 40, .int x2]) (fun _ _ => rfl) ?_
    rcases gif h with ⟨c8, h⟩ | ⟨c8, h⟩
    · refine gR_ic_ge_f rfl c8 ?_
      refine gR_go 1 (pc1 := 80) (L1 := [some (.ref (k0 + 1)), some (.ref (k1 + 1)), some (.int x2)]) (st1 := [.ref (k0 + 1)]) (fun _ _ => rfl) ?_
      refine gR_gfR (k := k0) (k' := (k0 + 9)) rfl hk0 rfl (wly_2_5 hk0).1 ?_
      refine gR_go 2 (pc1 := 85) (L1 := [some (.ref (k0 + 1)), some (.ref (k1 + 1)), some (.int x2)]) (st1 := [.ref (k1 + 1), .int x2, .ref ((k0 + 9) + 1)]) (fun _ _ => rfl) ?_
      refine gR_gfR (k := k1) (k' := (k1 + 9)) rfl hk1 rfl (wly_2_5 hk1).1 ?_
      refine gR_go 1 (pc1 := 89) (L1 := [some (.ref (k0 + 1)), some (.ref (k1 + 1)), some (.int x2)]) (st1 := [.int x2, .ref ((k1 + 9) + 1), .int x2, .ref ((k0 + 9) + 1)]) (fun _ _ => rfl) ?_
      obtain ⟨t9, et9, h⟩ := gb h
      refine gR_zal (k := (k1 + 9)) rfl (wly_2_5 hk1).2.1 (wly_2_5 hk1).2.2 et9 ?_
      obtain ⟨s10, es10, h⟩ := gb h
      refine gR_zas (k := (k0 + 9)) rfl (wly_2_5 hk0).2.1 (wly_2_5 hk0).2.2 es10 ?_
      refine gR_go 2 (pc1 := 73) (L1 := [some (.ref (k0 + 1)), some (.ref (k1 + 1)), some (.int (x2 + 1))]) (st1 := []) (fun _ _ => rfl) ?_
      exact ih h
    · refine gR_ic_ge_j rfl c8 rfl ?_
      exact he97 _ _ (Option.some.inj h).symm
noncomputable def wX2_becomes (k0 : Nat) (k1 : Nat) (s : wS) : Option (wS) := (wX0_becomes (k0 + 1) (k1 + 1) s).bind fun s2 => (wcpI s2 (k1 + 5) 40 (k0 + 5) 40 0 0 40).bind fun s4 => (wcpI s4 (k1 + 6) 40 (k0 + 6) 40 0 0 40).bind fun s5 => (wcpI s5 (k1 + 7) 40 (k0 + 7) 40 0 0 40).bind fun s6 => (wcpI s6 (k1 + 8) 40 (k0 + 8) 40 0 0 40).bind fun s7 => (wX2_becomes_h73 k0 k1 wFuel 0 s7).bind fun s12 => (wpfI s12 k0 6 (s12.1 k1 6)).bind fun s14 => (wpfI s14 k0 7 (s14.1 k1 7)).bind fun s15 => (wcpI s15 (k1 + 10) 10 (k0 + 10) 10 0 0 10).bind fun s16 => (wcpI s16 (k1 + 11) 10 (k0 + 11) 10 0 0 10).bind fun s17 => (wpfI s17 k0 10 (s17.1 k1 10)).bind fun s18 => (wpfI s18 k0 11 (s18.1 k1 11)).bind fun s19 => some s19
theorem wX2_becomes_s {k0 : Nat} {k1 : Nat} {s : wS} {rs : wS} (hk0 : wkd k0 = 2) (hk1 : wkd k1 = 2) (h : wX2_becomes k0 k1 s = some rs) : gEv 2 20 [.ref (k0 + 1), .ref (k1 + 1)] (wmk s) (none, wmk rs, 0, 0) := by
  refine gEv_of (d := 1) (L := [some (.ref (k0 + 1)), some (.ref (k1 + 1)), none]) rfl ?_
  unfold wX2_becomes at h
  refine gR_go 1 (pc1 := 1) (L1 := [some (.ref (k0 + 1)), some (.ref (k1 + 1)), none]) (st1 := [.ref (k0 + 1)]) (fun _ _ => rfl) ?_
  refine gR_gfR (k := k0) (k' := (k0 + 1)) rfl hk0 rfl (wly_2_0 hk0).1 ?_
  refine gR_go 1 (pc1 := 5) (L1 := [some (.ref (k0 + 1)), some (.ref (k1 + 1)), none]) (st1 := [.ref (k1 + 1), .ref ((k0 + 1) + 1)]) (fun _ _ => rfl) ?_
  refine gR_gfR (k := k1) (k' := (k1 + 1)) rfl hk1 rfl (wly_2_0 hk1).1 ?_
  obtain ⟨s2, e3, h⟩ := gb h
  refine gR_cvV (wX0_becomes_s (wly_2_0 hk0).2.1 (wly_2_0 hk1).2.1 e3) (Nat.le_of_ble_eq_true rfl) rfl rfl (wly_2_0 hk0).2.1 rfl rfl ?_
  refine gR_go 1 (pc1 := 12) (L1 := [some (.ref (k0 + 1)), some (.ref (k1 + 1)), none]) (st1 := [.ref (k1 + 1)]) (fun _ _ => rfl) ?_
  refine gR_gfR (k := k1) (k' := (k1 + 5)) rfl hk1 rfl (wly_2_1 hk1).1 ?_
  refine gR_go 2 (pc1 := 17) (L1 := [some (.ref (k0 + 1)), some (.ref (k1 + 1)), none]) (st1 := [.ref (k0 + 1), .int 0, .ref ((k1 + 5) + 1)]) (fun _ _ => rfl) ?_
  refine gR_gfR (k := k0) (k' := (k0 + 5)) rfl hk0 rfl (wly_2_1 hk0).1 ?_
  refine gR_go 2 (pc1 := 23) (L1 := [some (.ref (k0 + 1)), some (.ref (k1 + 1)), none]) (st1 := [.int 40, .int 0, .ref ((k0 + 5) + 1), .int 0, .ref ((k1 + 5) + 1)]) (fun _ _ => rfl) ?_
  obtain ⟨s4, es4, h⟩ := gb h
  refine gR_acp (k := (k1 + 5)) (k1 := (k0 + 5)) rfl rfl (wly_2_1 hk1).2.1 (wly_2_1 hk1).2.2 (wly_2_1 hk0).2.1 (wly_2_1 hk0).2.2 es4 rfl ?_
  refine gR_go 1 (pc1 := 27) (L1 := [some (.ref (k0 + 1)), some (.ref (k1 + 1)), none]) (st1 := [.ref (k1 + 1)]) (fun _ _ => rfl) ?_
  refine gR_gfR (k := k1) (k' := (k1 + 6)) rfl hk1 rfl (wly_2_2 hk1).1 ?_
  refine gR_go 2 (pc1 := 32) (L1 := [some (.ref (k0 + 1)), some (.ref (k1 + 1)), none]) (st1 := [.ref (k0 + 1), .int 0, .ref ((k1 + 6) + 1)]) (fun _ _ => rfl) ?_
  refine gR_gfR (k := k0) (k' := (k0 + 6)) rfl hk0 rfl (wly_2_2 hk0).1 ?_
  refine gR_go 2 (pc1 := 38) (L1 := [some (.ref (k0 + 1)), some (.ref (k1 + 1)), none]) (st1 := [.int 40, .int 0, .ref ((k0 + 6) + 1), .int 0, .ref ((k1 + 6) + 1)]) (fun _ _ => rfl) ?_
  obtain ⟨s5, es5, h⟩ := gb h
  refine gR_acp (k := (k1 + 6)) (k1 := (k0 + 6)) rfl rfl (wly_2_2 hk1).2.1 (wly_2_2 hk1).2.2 (wly_2_2 hk0).2.1 (wly_2_2 hk0).2.2 es5 rfl ?_
  refine gR_go 1 (pc1 := 42) (L1 := [some (.ref (k0 + 1)), some (.ref (k1 + 1)), none]) (st1 := [.ref (k1 + 1)]) (fun _ _ => rfl) ?_
  refine gR_gfR (k := k1) (k' := (k1 + 7)) rfl hk1 rfl (wly_2_3 hk1).1 ?_
  refine gR_go 2 (pc1 := 47) (L1 := [some (.ref (k0 + 1)), some (.ref (k1 + 1)), none]) (st1 := [.ref (k0 + 1), .int 0, .ref ((k1 + 7) + 1)]) (fun _ _ => rfl) ?_
  refine gR_gfR (k := k0) (k' := (k0 + 7)) rfl hk0 rfl (wly_2_3 hk0).1 ?_
  refine gR_go 2 (pc1 := 53) (L1 := [some (.ref (k0 + 1)), some (.ref (k1 + 1)), none]) (st1 := [.int 40, .int 0, .ref ((k0 + 7) + 1), .int 0, .ref ((k1 + 7) + 1)]) (fun _ _ => rfl) ?_
  obtain ⟨s6, es6, h⟩ := gb h
  refine gR_acp (k := (k1 + 7)) (k1 := (k0 + 7)) rfl rfl (wly_2_3 hk1).2.1 (wly_2_3 hk1).2.2 (wly_2_3 hk0).2.1 (wly_2_3 hk0).2.2 es6 rfl ?_
  refine gR_go 1 (pc1 := 57) (L1 := [some (.ref (k0 + 1)), some (.ref (k1 + 1)), none]) (st1 := [.ref (k1 + 1)]) (fun _ _ => rfl) ?_
  refine gR_gfR (k := k1) (k' := (k1 + 8)) rfl hk1 rfl (wly_2_4 hk1).1 ?_
  refine gR_go 2 (pc1 := 62) (L1 := [some (.ref (k0 + 1)), some (.ref (k1 + 1)), none]) (st1 := [.ref (k0 + 1), .int 0, .ref ((k1 + 8) + 1)]) (fun _ _ => rfl) ?_
  refine gR_gfR (k := k0) (k' := (k0 + 8)) rfl hk0 rfl (wly_2_4 hk0).1 ?_
  refine gR_go 2 (pc1 := 68) (L1 := [some (.ref (k0 + 1)), some (.ref (k1 + 1)), none]) (st1 := [.int 40, .int 0, .ref ((k0 + 8) + 1), .int 0, .ref ((k1 + 8) + 1)]) (fun _ _ => rfl) ?_
  obtain ⟨s7, es7, h⟩ := gb h
  refine gR_acp (k := (k1 + 8)) (k1 := (k0 + 8)) rfl rfl (wly_2_4 hk1).2.1 (wly_2_4 hk1).2.2 (wly_2_4 hk0).2.1 (wly_2_4 hk0).2.2 es7 rfl ?_
  refine gR_go 2 (pc1 := 73) (L1 := [some (.ref (k0 + 1)), some (.ref (k1 + 1)), some (.int 0)]) (st1 := []) (fun _ _ => rfl) ?_
  obtain ⟨z11, ez11, h⟩ := gb h
  refine wX2_becomes_t73 hk0 hk1 ?_  ez11
  · intro s12 w13 hz
    replace hz := hz.symm
    subst hz
    refine gR_go 2 (pc1 := 99) (L1 := [some (.ref (k0 + 1)), some (.ref (k1 + 1)), some (.int w13)]) (st1 := [.ref (k1 + 1), .ref (k0 + 1)]) (fun _ _ => rfl) ?_
    refine gR_gfI (k := k1) rfl hk1 rfl ?_
    obtain ⟨s14, es14, h⟩ := gb h
    refine gR_pfI (k := k0) rfl hk0 rfl rfl es14 ?_
    refine gR_go 2 (pc1 := 107) (L1 := [some (.ref (k0 + 1)), some (.ref (k1 + 1)), some (.int w13)]) (st1 := [.ref (k1 + 1), .ref (k0 + 1)]) (fun _ _ => rfl) ?_
    refine gR_gfI (k := k1) rfl hk1 rfl ?_
    obtain ⟨s15, es15, h⟩ := gb h
    refine gR_pfI (k := k0) rfl hk0 rfl rfl es15 ?_
    refine gR_go 1 (pc1 := 114) (L1 := [some (.ref (k0 + 1)), some (.ref (k1 + 1)), some (.int w13)]) (st1 := [.ref (k1 + 1)]) (fun _ _ => rfl) ?_
    refine gR_gfR (k := k1) (k' := (k1 + 10)) rfl hk1 rfl (wly_2_8 hk1).1 ?_
    refine gR_go 2 (pc1 := 119) (L1 := [some (.ref (k0 + 1)), some (.ref (k1 + 1)), some (.int w13)]) (st1 := [.ref (k0 + 1), .int 0, .ref ((k1 + 10) + 1)]) (fun _ _ => rfl) ?_
    refine gR_gfR (k := k0) (k' := (k0 + 10)) rfl hk0 rfl (wly_2_8 hk0).1 ?_
    refine gR_go 2 (pc1 := 125) (L1 := [some (.ref (k0 + 1)), some (.ref (k1 + 1)), some (.int w13)]) (st1 := [.int 10, .int 0, .ref ((k0 + 10) + 1), .int 0, .ref ((k1 + 10) + 1)]) (fun _ _ => rfl) ?_
    obtain ⟨s16, es16, h⟩ := gb h
    refine gR_acp (k := (k1 + 10)) (k1 := (k0 + 10)) rfl rfl (wly_2_8 hk1).2.1 (wly_2_8 hk1).2.2 (wly_2_8 hk0).2.1 (wly_2_8 hk0).2.2 es16 rfl ?_
    refine gR_go 1 (pc1 := 129) (L1 := [some (.ref (k0 + 1)), some (.ref (k1 + 1)), some (.int w13)]) (st1 := [.ref (k1 + 1)]) (fun _ _ => rfl) ?_
    refine gR_gfR (k := k1) (k' := (k1 + 11)) rfl hk1 rfl (wly_2_9 hk1).1 ?_
    refine gR_go 2 (pc1 := 134) (L1 := [some (.ref (k0 + 1)), some (.ref (k1 + 1)), some (.int w13)]) (st1 := [.ref (k0 + 1), .int 0, .ref ((k1 + 11) + 1)]) (fun _ _ => rfl) ?_
    refine gR_gfR (k := k0) (k' := (k0 + 11)) rfl hk0 rfl (wly_2_9 hk0).1 ?_
    refine gR_go 2 (pc1 := 140) (L1 := [some (.ref (k0 + 1)), some (.ref (k1 + 1)), some (.int w13)]) (st1 := [.int 10, .int 0, .ref ((k0 + 11) + 1), .int 0, .ref ((k1 + 11) + 1)]) (fun _ _ => rfl) ?_
    obtain ⟨s17, es17, h⟩ := gb h
    refine gR_acp (k := (k1 + 11)) (k1 := (k0 + 11)) rfl rfl (wly_2_9 hk1).2.1 (wly_2_9 hk1).2.2 (wly_2_9 hk0).2.1 (wly_2_9 hk0).2.2 es17 rfl ?_
    refine gR_go 2 (pc1 := 145) (L1 := [some (.ref (k0 + 1)), some (.ref (k1 + 1)), some (.int w13)]) (st1 := [.ref (k1 + 1), .ref (k0 + 1)]) (fun _ _ => rfl) ?_
    refine gR_gfI (k := k1) rfl hk1 rfl ?_
    obtain ⟨s18, es18, h⟩ := gb h
    refine gR_pfI (k := k0) rfl hk0 rfl rfl es18 ?_
    refine gR_go 2 (pc1 := 153) (L1 := [some (.ref (k0 + 1)), some (.ref (k1 + 1)), some (.int w13)]) (st1 := [.ref (k1 + 1), .ref (k0 + 1)]) (fun _ _ => rfl) ?_
    refine gR_gfI (k := k1) rfl hk1 rfl ?_
    obtain ⟨s19, es19, h⟩ := gb h
    refine gR_pfI (k := k0) rfl hk0 rfl rfl es19 ?_
    obtain rfl := gi1 h
    exact gR_rv rfl rfl
noncomputable def wX2_mayStillGive_j27 (qq : Int32 → Int32 → Option (Int32)) (k0 : Nat) (x1 : Int32) (x2 : Int32) (x3 : Int32) (s : wS) : Option (Int32) := qq x2 (x3 + 1)
theorem wX2_mayStillGive_u27 {k0 : Nat} {x1 : Int32} {x2 : Int32} {x3 : Int32} {s : wS} {qq : Int32 → Int32 → Option (Int32)} {x : Int32} {r : ri_R} (ih : ∀ {x2 : Int32} {x3 : Int32} , qq x2 x3 = some x → gRun 1 21 4 [some (.ref (k0 + 1)), some (.int x1), some (.int x2), some (.int x3)] [] (wmk s) r) (he33 : ∀ (x2 : Int32) (w1 : Int32) (w3 : Int32) , x = x2 → gRun 1 21 33 [some (.ref (k0 + 1)), some (.int w1), some (.int x2), some (.int w3)] [] (wmk s) r) (hk0 : wkd k0 = 2) (h : wX2_mayStillGive_j27 qq k0 x1 x2 x3 s = some x) : gRun 1 21 27 [some (.ref (k0 + 1)), some (.int x1), some (.int x2), some (.int x3)] [] (wmk s) r := by
  unfold wX2_mayStillGive_j27 at h
  refine gR_go 2 (pc1 := 4) (L1 := [some (.ref (k0 + 1)), some (.int x1), some (.int x2), some (.int (x3 + 1))]) (st1 := []) (fun _ _ => rfl) ?_
  exact ih h
noncomputable def wX2_mayStillGive_h4 (k0 : Nat) (x1 : Int32) (s : wS) : Nat → Int32 → Int32 → Option (Int32)
  | 0, _, _ => none
  | n + 1, x2, x3 => if x3 < (s.1 k0 6) then ((wX10_at (k0 + 5) x3 s).bind fun t2 => if t2 = x1 then (wX2_mayStillGive_j27 (wX2_mayStillGive_h4 k0 x1 s n) k0 x1 (x2 + 1) x3 s) else (wX2_mayStillGive_j27 (wX2_mayStillGive_h4 k0 x1 s n) k0 x1 x2 x3 s)) else (some x2)
theorem wX2_mayStillGive_t4 {k0 : Nat} {x1 : Int32} {s : wS} {x : Int32} {r : ri_R} (hk0 : wkd k0 = 2) (he33 : ∀ (x2 : Int32) (w1 : Int32) (w3 : Int32) , x = x2 → gRun 1 21 33 [some (.ref (k0 + 1)), some (.int w1), some (.int x2), some (.int w3)] [] (wmk s) r) : ∀ {n : Nat} {x2 : Int32} {x3 : Int32} , wX2_mayStillGive_h4 k0 x1 s n x2 x3 = some x → gRun 1 21 4 [some (.ref (k0 + 1)), some (.int x1), some (.int x2), some (.int x3)] [] (wmk s) r := by
  intro n
  induction n with
  | zero => intro x2 x3 h; cases (show (none : Option (Int32)) = some x from h)
  | succ n ih =>
    intro x2 x3 h
    rw [wX2_mayStillGive_h4] at h
    refine gR_go 2 (pc1 := 6) (L1 := [some (.ref (k0 + 1)), some (.int x1), some (.int x2), some (.int x3)]) (st1 := [.ref (k0 + 1), .int x3]) (fun _ _ => rfl) ?_
    refine gR_gfI (k := k0) rfl hk0 rfl ?_
    rcases gif h with ⟨c1, h⟩ | ⟨c1, h⟩
    · refine gR_ic_ge_f rfl c1 ?_
      refine gR_go 1 (pc1 := 13) (L1 := [some (.ref (k0 + 1)), some (.int x1), some (.int x2), some (.int x3)]) (st1 := [.ref (k0 + 1)]) (fun _ _ => rfl) ?_
      refine gR_gfR (k := k0) (k' := (k0 + 5)) rfl hk0 rfl (wly_2_1 hk0).1 ?_
      refine gR_go 1 (pc1 := 17) (L1 := [some (.ref (k0 + 1)), some (.int x1), some (.int x2), some (.int x3)]) (st1 := [.int x3, .ref ((k0 + 5) + 1)]) (fun _ _ => rfl) ?_
      obtain ⟨t2, e3, h⟩ := gb h
      refine gR_csI (wX10_at_s (wly_2_1 hk0).2.1 e3) (Nat.le_of_ble_eq_true rfl) rfl rfl rfl rfl ?_
      refine gR_go 1 (pc1 := 21) (L1 := [some (.ref (k0 + 1)), some (.int x1), some (.int x2), some (.int x3)]) (st1 := [.int x1, .int t2]) (fun _ _ => rfl) ?_
      rcases gif h with ⟨c4, h⟩ | ⟨c4, h⟩
      · refine gR_ic_ne_f rfl c4 ?_
        refine gR_go 1 (pc1 := 27) (L1 := [some (.ref (k0 + 1)), some (.int x1), some (.int (x2 + 1)), some (.int x3)]) (st1 := []) (fun _ _ => rfl) ?_
        exact wX2_mayStillGive_u27 ih he33 hk0 h
      · refine gR_ic_ne_j rfl c4 rfl ?_
        exact wX2_mayStillGive_u27 ih he33 hk0 h
    · refine gR_ic_ge_j rfl c1 rfl ?_
      exact he33 _ _ _ (Option.some.inj h).symm
noncomputable def wX2_mayStillGive (k0 : Nat) (x1 : Int32) (s : wS) : Option (Int32) := (wX2_mayStillGive_h4 k0 x1 s wFuel 0 0).bind fun t6 => some (wmin (9 - t6) (40 - (s.1 k0 6)))
theorem wX2_mayStillGive_s {k0 : Nat} {x1 : Int32} {s : wS} {rv : Int32} (hk0 : wkd k0 = 2) (h : wX2_mayStillGive k0 x1 s = some rv) : gEv 2 21 [.ref (k0 + 1), .int x1] (wmk s) (some (.int rv), wmk s, 0, 0) := by
  refine gEv_of (d := 1) (L := [some (.ref (k0 + 1)), some (.int x1), none, none]) rfl ?_
  unfold wX2_mayStillGive at h
  refine gR_go 4 (pc1 := 4) (L1 := [some (.ref (k0 + 1)), some (.int x1), some (.int 0), some (.int 0)]) (st1 := []) (fun _ _ => rfl) ?_
  obtain ⟨z5, ez5, h⟩ := gb h
  refine wX2_mayStillGive_t4 hk0 ?_  ez5
  · intro t6 w7 w8 hz
    replace hz := hz.symm
    subst hz
    refine gR_go 5 (pc1 := 40) (L1 := [some (.ref (k0 + 1)), some (.int w7), some (.int t6), some (.int w8)]) (st1 := [.ref (k0 + 1), .int 40, .int (9 - t6)]) (fun _ _ => rfl) ?_
    refine gR_gfI (k := k0) rfl hk0 rfl ?_
    refine gR_go 1 (pc1 := 44) (L1 := [some (.ref (k0 + 1)), some (.int w7), some (.int t6), some (.int w8)]) (st1 := [.int (40 - (s.1 k0 6)), .int (9 - t6)]) (fun _ _ => rfl) ?_
    refine gR_min rfl rfl rfl ?_
    obtain rfl := gi1 h
    exact gR_ri rfl rfl
noncomputable def wX2_takeDown (k0 : Nat) (x1 : Int32) (x2 : Int32) (x3 : Int32) (x4 : Int32) (s : wS) : Option (Int32 × wS) := (wX10_isOutside (s.1 k0 6) 40 s).bind fun t1 => if t1 = 0 then ((wstI s (k0 + 5) 40 (s.1 k0 6) x1).bind fun s4 => (wstI s4 (k0 + 6) 40 (s4.1 k0 6) x2).bind fun s5 => (wstI s5 (k0 + 7) 40 (s5.1 k0 6) x3).bind fun s6 => (wstI s6 (k0 + 8) 40 (s6.1 k0 6) x4).bind fun s7 => (wstZ s7 (k0 + 9) 40 (s7.1 k0 6) 0).bind fun s8 => (wpfI s8 k0 6 ((s8.1 k0 6) + 1)).bind fun s9 => some (((s9.1 k0 6) - 1), s9)) else (some ((-1), s))
theorem wX2_takeDown_s {k0 : Nat} {x1 : Int32} {x2 : Int32} {x3 : Int32} {x4 : Int32} {s : wS} {rv : Int32} {rs : wS} (hk0 : wkd k0 = 2) (h : wX2_takeDown k0 x1 x2 x3 x4 s = some (rv, rs)) : gEv 2 22 [.ref (k0 + 1), .int x1, .int x2, .int x3, .int x4] (wmk s) (some (.int rv), wmk rs, 0, 0) := by
  refine gEv_of (d := 1) (L := [some (.ref (k0 + 1)), some (.int x1), some (.int x2), some (.int x3), some (.int x4)]) rfl ?_
  unfold wX2_takeDown at h
  refine gR_go 1 (pc1 := 1) (L1 := [some (.ref (k0 + 1)), some (.int x1), some (.int x2), some (.int x3), some (.int x4)]) (st1 := [.ref (k0 + 1)]) (fun _ _ => rfl) ?_
  refine gR_gfI (k := k0) rfl hk0 rfl ?_
  refine gR_go 1 (pc1 := 6) (L1 := [some (.ref (k0 + 1)), some (.int x1), some (.int x2), some (.int x3), some (.int x4)]) (st1 := [.int 40, .int (s.1 k0 6)]) (fun _ _ => rfl) ?_
  obtain ⟨t1, e2, h⟩ := gb h
  refine gR_csI (wX10_isOutside_s e2) (Nat.le_of_ble_eq_true rfl) rfl rfl rfl rfl ?_
  rcases gif h with ⟨c3, h⟩ | ⟨c3, h⟩
  · refine gR_iz_eq_j rfl c3 rfl ?_
    refine gR_go 1 (pc1 := 15) (L1 := [some (.ref (k0 + 1)), some (.int x1), some (.int x2), some (.int x3), some (.int x4)]) (st1 := [.ref (k0 + 1)]) (fun _ _ => rfl) ?_
    refine gR_gfR (k := k0) (k' := (k0 + 5)) rfl hk0 rfl (wly_2_1 hk0).1 ?_
    refine gR_go 1 (pc1 := 19) (L1 := [some (.ref (k0 + 1)), some (.int x1), some (.int x2), some (.int x3), some (.int x4)]) (st1 := [.ref (k0 + 1), .ref ((k0 + 5) + 1)]) (fun _ _ => rfl) ?_
    refine gR_gfI (k := k0) rfl hk0 rfl ?_
    refine gR_go 1 (pc1 := 23) (L1 := [some (.ref (k0 + 1)), some (.int x1), some (.int x2), some (.int x3), some (.int x4)]) (st1 := [.int x1, .int (s.1 k0 6), .ref ((k0 + 5) + 1)]) (fun _ _ => rfl) ?_
    obtain ⟨s4, es4, h⟩ := gb h
    refine gR_ias (k := (k0 + 5)) rfl (wly_2_1 hk0).2.1 (wly_2_1 hk0).2.2 es4 ?_
    refine gR_go 1 (pc1 := 25) (L1 := [some (.ref (k0 + 1)), some (.int x1), some (.int x2), some (.int x3), some (.int x4)]) (st1 := [.ref (k0 + 1)]) (fun _ _ => rfl) ?_
    refine gR_gfR (k := k0) (k' := (k0 + 6)) rfl hk0 rfl (wly_2_2 hk0).1 ?_
    refine gR_go 1 (pc1 := 29) (L1 := [some (.ref (k0 + 1)), some (.int x1), some (.int x2), some (.int x3), some (.int x4)]) (st1 := [.ref (k0 + 1), .ref ((k0 + 6) + 1)]) (fun _ _ => rfl) ?_
    refine gR_gfI (k := k0) rfl hk0 rfl ?_
    refine gR_go 1 (pc1 := 33) (L1 := [some (.ref (k0 + 1)), some (.int x1), some (.int x2), some (.int x3), some (.int x4)]) (st1 := [.int x2, .int (s4.1 k0 6), .ref ((k0 + 6) + 1)]) (fun _ _ => rfl) ?_
    obtain ⟨s5, es5, h⟩ := gb h
    refine gR_ias (k := (k0 + 6)) rfl (wly_2_2 hk0).2.1 (wly_2_2 hk0).2.2 es5 ?_
    refine gR_go 1 (pc1 := 35) (L1 := [some (.ref (k0 + 1)), some (.int x1), some (.int x2), some (.int x3), some (.int x4)]) (st1 := [.ref (k0 + 1)]) (fun _ _ => rfl) ?_
    refine gR_gfR (k := k0) (k' := (k0 + 7)) rfl hk0 rfl (wly_2_3 hk0).1 ?_
    refine gR_go 1 (pc1 := 39) (L1 := [some (.ref (k0 + 1)), some (.int x1), some (.int x2), some (.int x3), some (.int x4)]) (st1 := [.ref (k0 + 1), .ref ((k0 + 7) + 1)]) (fun _ _ => rfl) ?_
    refine gR_gfI (k := k0) rfl hk0 rfl ?_
    refine gR_go 1 (pc1 := 43) (L1 := [some (.ref (k0 + 1)), some (.int x1), some (.int x2), some (.int x3), some (.int x4)]) (st1 := [.int x3, .int (s5.1 k0 6), .ref ((k0 + 7) + 1)]) (fun _ _ => rfl) ?_
    obtain ⟨s6, es6, h⟩ := gb h
    refine gR_ias (k := (k0 + 7)) rfl (wly_2_3 hk0).2.1 (wly_2_3 hk0).2.2 es6 ?_
    refine gR_go 1 (pc1 := 45) (L1 := [some (.ref (k0 + 1)), some (.int x1), some (.int x2), some (.int x3), some (.int x4)]) (st1 := [.ref (k0 + 1)]) (fun _ _ => rfl) ?_
    refine gR_gfR (k := k0) (k' := (k0 + 8)) rfl hk0 rfl (wly_2_4 hk0).1 ?_
    refine gR_go 1 (pc1 := 49) (L1 := [some (.ref (k0 + 1)), some (.int x1), some (.int x2), some (.int x3), some (.int x4)]) (st1 := [.ref (k0 + 1), .ref ((k0 + 8) + 1)]) (fun _ _ => rfl) ?_
    refine gR_gfI (k := k0) rfl hk0 rfl ?_
    refine gR_go 1 (pc1 := 54) (L1 := [some (.ref (k0 + 1)), some (.int x1), some (.int x2), some (.int x3), some (.int x4)]) (st1 := [.int x4, .int (s6.1 k0 6), .ref ((k0 + 8) + 1)]) (fun _ _ => rfl) ?_
    obtain ⟨s7, es7, h⟩ := gb h
    refine gR_ias (k := (k0 + 8)) rfl (wly_2_4 hk0).2.1 (wly_2_4 hk0).2.2 es7 ?_
    refine gR_go 1 (pc1 := 56) (L1 := [some (.ref (k0 + 1)), some (.int x1), some (.int x2), some (.int x3), some (.int x4)]) (st1 := [.ref (k0 + 1)]) (fun _ _ => rfl) ?_
    refine gR_gfR (k := k0) (k' := (k0 + 9)) rfl hk0 rfl (wly_2_5 hk0).1 ?_
    refine gR_go 1 (pc1 := 60) (L1 := [some (.ref (k0 + 1)), some (.int x1), some (.int x2), some (.int x3), some (.int x4)]) (st1 := [.ref (k0 + 1), .ref ((k0 + 9) + 1)]) (fun _ _ => rfl) ?_
    refine gR_gfI (k := k0) rfl hk0 rfl ?_
    refine gR_go 1 (pc1 := 64) (L1 := [some (.ref (k0 + 1)), some (.int x1), some (.int x2), some (.int x3), some (.int x4)]) (st1 := [.int 0, .int (s7.1 k0 6), .ref ((k0 + 9) + 1)]) (fun _ _ => rfl) ?_
    obtain ⟨s8, es8, h⟩ := gb h
    refine gR_zas (k := (k0 + 9)) rfl (wly_2_5 hk0).2.1 (wly_2_5 hk0).2.2 es8 ?_
    refine gR_go 2 (pc1 := 67) (L1 := [some (.ref (k0 + 1)), some (.int x1), some (.int x2), some (.int x3), some (.int x4)]) (st1 := [.ref (k0 + 1), .ref (k0 + 1)]) (fun _ _ => rfl) ?_
    refine gR_gfI (k := k0) rfl hk0 rfl ?_
    refine gR_go 2 (pc1 := 72) (L1 := [some (.ref (k0 + 1)), some (.int x1), some (.int x2), some (.int x3), some (.int x4)]) (st1 := [.int ((s8.1 k0 6) + 1), .ref (k0 + 1)]) (fun _ _ => rfl) ?_
    obtain ⟨s9, es9, h⟩ := gb h
    refine gR_pfI (k := k0) rfl hk0 rfl rfl es9 ?_
    refine gR_go 1 (pc1 := 76) (L1 := [some (.ref (k0 + 1)), some (.int x1), some (.int x2), some (.int x3), some (.int x4)]) (st1 := [.ref (k0 + 1)]) (fun _ _ => rfl) ?_
    refine gR_gfI (k := k0) rfl hk0 rfl ?_
    refine gR_go 2 (pc1 := 81) (L1 := [some (.ref (k0 + 1)), some (.int x1), some (.int x2), some (.int x3), some (.int x4)]) (st1 := [.int ((s9.1 k0 6) - 1)]) (fun _ _ => rfl) ?_
    obtain ⟨rfl, rfl⟩ := gi2 h
    exact gR_ri rfl rfl
  · refine gR_iz_eq_f rfl c3 ?_
    refine gR_go 1 (pc1 := 13) (L1 := [some (.ref (k0 + 1)), some (.int x1), some (.int x2), some (.int x3), some (.int x4)]) (st1 := [.int (-1)]) (fun _ _ => rfl) ?_
    obtain ⟨rfl, rfl⟩ := gi2 h
    exact gR_ri rfl rfl
noncomputable def wX2_hasAnswer (k0 : Nat) (x1 : Int32) (s : wS) : Option (Int32) := (wX10_isOutside x1 (s.1 k0 6) s).bind fun t1 => if t1 = 0 then (some 1) else (some 0)
theorem wX2_hasAnswer_s {k0 : Nat} {x1 : Int32} {s : wS} {rv : Int32} (hk0 : wkd k0 = 2) (h : wX2_hasAnswer k0 x1 s = some rv) : gEv 2 23 [.ref (k0 + 1), .int x1] (wmk s) (some (.int rv), wmk s, 0, 0) := by
  refine gEv_of (d := 1) (L := [some (.ref (k0 + 1)), some (.int x1)]) rfl ?_
  unfold wX2_hasAnswer at h
  refine gR_go 2 (pc1 := 2) (L1 := [some (.ref (k0 + 1)), some (.int x1)]) (st1 := [.ref (k0 + 1), .int x1]) (fun _ _ => rfl) ?_
  refine gR_gfI (k := k0) rfl hk0 rfl ?_
  obtain ⟨t1, e2, h⟩ := gb h
  refine gR_csI (wX10_isOutside_s e2) (Nat.le_of_ble_eq_true rfl) rfl rfl rfl rfl ?_
  rcases gif h with ⟨c3, h⟩ | ⟨c3, h⟩
  · refine gR_iz_ne_f rfl c3 ?_
    refine gR_go 2 (pc1 := 16) (L1 := [some (.ref (k0 + 1)), some (.int x1)]) (st1 := [.int 1]) (fun _ _ => rfl) ?_
    obtain rfl := gi1 h
    exact gR_rzc rfl rfl rfl
  · refine gR_iz_ne_j rfl c3 rfl ?_
    refine gR_go 1 (pc1 := 16) (L1 := [some (.ref (k0 + 1)), some (.int x1)]) (st1 := [.int 0]) (fun _ _ => rfl) ?_
    obtain rfl := gi1 h
    exact gR_rzc rfl rfl rfl
noncomputable def wX2_isStruck (k0 : Nat) (x1 : Int32) (s : wS) : Option (Int32) := (wX10_isOutside x1 40 s).bind fun t1 => if t1 = 0 then ((wldI s (k0 + 9) 40 x1).bind fun t4 => if t4 = 0 then (some 0) else (some 1)) else (some 0)
theorem wX2_isStruck_s {k0 : Nat} {x1 : Int32} {s : wS} {rv : Int32} (hk0 : wkd k0 = 2) (h : wX2_isStruck k0 x1 s = some rv) : gEv 2 24 [.ref (k0 + 1), .int x1] (wmk s) (some (.int rv), wmk s, 0, 0) := by
  refine gEv_of (d := 1) (L := [some (.ref (k0 + 1)), some (.int x1)]) rfl ?_
  unfold wX2_isStruck at h
  refine gR_go 2 (pc1 := 3) (L1 := [some (.ref (k0 + 1)), some (.int x1)]) (st1 := [.int 40, .int x1]) (fun _ _ => rfl) ?_
  obtain ⟨t1, e2, h⟩ := gb h
  refine gR_csI (wX10_isOutside_s e2) (Nat.le_of_ble_eq_true rfl) rfl rfl rfl rfl ?_
  rcases gif h with ⟨c3, h⟩ | ⟨c3, h⟩
  · refine gR_iz_ne_f rfl c3 ?_
    refine gR_go 1 (pc1 := 10) (L1 := [some (.ref (k0 + 1)), some (.int x1)]) (st1 := [.ref (k0 + 1)]) (fun _ _ => rfl) ?_
    refine gR_gfR (k := k0) (k' := (k0 + 9)) rfl hk0 rfl (wly_2_5 hk0).1 ?_
    refine gR_go 1 (pc1 := 14) (L1 := [some (.ref (k0 + 1)), some (.int x1)]) (st1 := [.int x1, .ref ((k0 + 9) + 1)]) (fun _ _ => rfl) ?_
    obtain ⟨t4, et4, h⟩ := gb h
    refine gR_zal (k := (k0 + 9)) rfl (wly_2_5 hk0).2.1 (wly_2_5 hk0).2.2 et4 ?_
    rcases gif h with ⟨c5, h⟩ | ⟨c5, h⟩
    · refine gR_iz_eq_j rfl c5 rfl ?_
      refine gR_go 1 (pc1 := 23) (L1 := [some (.ref (k0 + 1)), some (.int x1)]) (st1 := [.int 0]) (fun _ _ => rfl) ?_
      obtain rfl := gi1 h
      exact gR_rzc rfl rfl rfl
    · refine gR_iz_eq_f rfl c5 ?_
      refine gR_go 2 (pc1 := 23) (L1 := [some (.ref (k0 + 1)), some (.int x1)]) (st1 := [.int 1]) (fun _ _ => rfl) ?_
      obtain rfl := gi1 h
      exact gR_rzc rfl rfl rfl
  · refine gR_iz_ne_j rfl c3 rfl ?_
    refine gR_go 1 (pc1 := 23) (L1 := [some (.ref (k0 + 1)), some (.int x1)]) (st1 := [.int 0]) (fun _ _ => rfl) ?_
    obtain rfl := gi1 h
    exact gR_rzc rfl rfl rfl
noncomputable def wX2_setStruck (k0 : Nat) (x1 : Int32) (x2 : Int32) (s : wS) : Option (wS) := (wX10_isOutside x1 40 s).bind fun t1 => if t1 = 0 then ((wstZ s (k0 + 9) 40 x1 x2).bind fun s4 => some s4) else (some s)
theorem wX2_setStruck_s {k0 : Nat} {x1 : Int32} {x2 : Int32} {s : wS} {rs : wS} (hk0 : wkd k0 = 2) (h : wX2_setStruck k0 x1 x2 s = some rs) : gEv 2 25 [.ref (k0 + 1), .int x1, .int x2] (wmk s) (none, wmk rs, 0, 0) := by
  refine gEv_of (d := 1) (L := [some (.ref (k0 + 1)), some (.int x1), some (.int x2)]) rfl ?_
  unfold wX2_setStruck at h
  refine gR_go 2 (pc1 := 3) (L1 := [some (.ref (k0 + 1)), some (.int x1), some (.int x2)]) (st1 := [.int 40, .int x1]) (fun _ _ => rfl) ?_
  obtain ⟨t1, e2, h⟩ := gb h
  refine gR_csI (wX10_isOutside_s e2) (Nat.le_of_ble_eq_true rfl) rfl rfl rfl rfl ?_
  rcases gif h with ⟨c3, h⟩ | ⟨c3, h⟩
  · refine gR_iz_ne_f rfl c3 ?_
    refine gR_go 1 (pc1 := 10) (L1 := [some (.ref (k0 + 1)), some (.int x1), some (.int x2)]) (st1 := [.ref (k0 + 1)]) (fun _ _ => rfl) ?_
    refine gR_gfR (k := k0) (k' := (k0 + 9)) rfl hk0 rfl (wly_2_5 hk0).1 ?_
    refine gR_go 2 (pc1 := 15) (L1 := [some (.ref (k0 + 1)), some (.int x1), some (.int x2)]) (st1 := [.int x2, .int x1, .ref ((k0 + 9) + 1)]) (fun _ _ => rfl) ?_
    obtain ⟨s4, es4, h⟩ := gb h
    refine gR_zas (k := (k0 + 9)) rfl (wly_2_5 hk0).2.1 (wly_2_5 hk0).2.2 es4 ?_
    obtain rfl := gi1 h
    exact gR_rv rfl rfl
  · refine gR_iz_ne_j rfl c3 rfl ?_
    obtain rfl := gi1 h
    exact gR_rv rfl rfl
noncomputable def wX2_first (k0 : Nat) (s : wS) : Option (Int32) := if (s.1 k0 7) = (-1) then (some (s.1 k0 6)) else (some (wmin (s.1 k0 7) (s.1 k0 6)))
theorem wX2_first_s {k0 : Nat} {s : wS} {rv : Int32} (hk0 : wkd k0 = 2) (h : wX2_first k0 s = some rv) : gEv 1 26 [.ref (k0 + 1)] (wmk s) (some (.int rv), wmk s, 0, 0) := by
  refine gEv_of (d := 0) (L := [some (.ref (k0 + 1))]) rfl ?_
  unfold wX2_first at h
  refine gR_go 1 (pc1 := 1) (L1 := [some (.ref (k0 + 1))]) (st1 := [.ref (k0 + 1)]) (fun _ _ => rfl) ?_
  refine gR_gfI (k := k0) rfl hk0 rfl ?_
  refine gR_go 1 (pc1 := 5) (L1 := [some (.ref (k0 + 1))]) (st1 := [.int (-1), .int (s.1 k0 7)]) (fun _ _ => rfl) ?_
  rcases gif h with ⟨c1, h⟩ | ⟨c1, h⟩
  · refine gR_ic_ne_f rfl c1 ?_
    refine gR_go 1 (pc1 := 9) (L1 := [some (.ref (k0 + 1))]) (st1 := [.ref (k0 + 1)]) (fun _ _ => rfl) ?_
    refine gR_gfI (k := k0) rfl hk0 rfl ?_
    refine gR_go 1 (pc1 := 26) (L1 := [some (.ref (k0 + 1))]) (st1 := [.int (s.1 k0 6)]) (fun _ _ => rfl) ?_
    obtain rfl := gi1 h
    exact gR_ri rfl rfl
  · refine gR_ic_ne_j rfl c1 rfl ?_
    refine gR_go 1 (pc1 := 16) (L1 := [some (.ref (k0 + 1))]) (st1 := [.ref (k0 + 1)]) (fun _ _ => rfl) ?_
    refine gR_gfI (k := k0) rfl hk0 rfl ?_
    refine gR_go 1 (pc1 := 20) (L1 := [some (.ref (k0 + 1))]) (st1 := [.ref (k0 + 1), .int (s.1 k0 7)]) (fun _ _ => rfl) ?_
    refine gR_gfI (k := k0) rfl hk0 rfl ?_
    refine gR_min rfl rfl rfl ?_
    obtain rfl := gi1 h
    exact gR_ri rfl rfl
noncomputable def wX2_isLookedAt (k0 : Nat) (x1 : Int32) (x2 : Int32) (s : wS) : Option (Int32) := if x1 < x2 then ((wX2_hasAnswer k0 x1 s).bind fun t2 => if t2 = 0 then (some 0) else ((wX2_isStruck k0 x1 s).bind fun t5 => if t5 = 0 then (some 1) else (some 0))) else (some 0)
theorem wX2_isLookedAt_s {k0 : Nat} {x1 : Int32} {x2 : Int32} {s : wS} {rv : Int32} (hk0 : wkd k0 = 2) (h : wX2_isLookedAt k0 x1 x2 s = some rv) : gEv 3 27 [.ref (k0 + 1), .int x1, .int x2] (wmk s) (some (.int rv), wmk s, 0, 0) := by
  refine gEv_of (d := 2) (L := [some (.ref (k0 + 1)), some (.int x1), some (.int x2)]) rfl ?_
  unfold wX2_isLookedAt at h
  refine gR_go 2 (pc1 := 2) (L1 := [some (.ref (k0 + 1)), some (.int x1), some (.int x2)]) (st1 := [.int x2, .int x1]) (fun _ _ => rfl) ?_
  rcases gif h with ⟨c1, h⟩ | ⟨c1, h⟩
  · refine gR_ic_ge_f rfl c1 ?_
    refine gR_go 2 (pc1 := 7) (L1 := [some (.ref (k0 + 1)), some (.int x1), some (.int x2)]) (st1 := [.int x1, .ref (k0 + 1)]) (fun _ _ => rfl) ?_
    obtain ⟨t2, e3, h⟩ := gb h
    refine gR_cvI (wX2_hasAnswer_s hk0 e3) (Nat.le_of_ble_eq_true rfl) rfl rfl hk0 rfl rfl ?_
    rcases gif h with ⟨c4, h⟩ | ⟨c4, h⟩
    · refine gR_iz_eq_j rfl c4 rfl ?_
      refine gR_go 1 (pc1 := 26) (L1 := [some (.ref (k0 + 1)), some (.int x1), some (.int x2)]) (st1 := [.int 0]) (fun _ _ => rfl) ?_
      obtain rfl := gi1 h
      exact gR_rzc rfl rfl rfl
    · refine gR_iz_eq_f rfl c4 ?_
      refine gR_go 2 (pc1 := 15) (L1 := [some (.ref (k0 + 1)), some (.int x1), some (.int x2)]) (st1 := [.int x1, .ref (k0 + 1)]) (fun _ _ => rfl) ?_
      obtain ⟨t5, e6, h⟩ := gb h
      refine gR_cvI (wX2_isStruck_s hk0 e6) (Nat.le_of_ble_eq_true rfl) rfl rfl hk0 rfl rfl ?_
      rcases gif h with ⟨c7, h⟩ | ⟨c7, h⟩
      · refine gR_iz_ne_f rfl c7 ?_
        refine gR_go 2 (pc1 := 26) (L1 := [some (.ref (k0 + 1)), some (.int x1), some (.int x2)]) (st1 := [.int 1]) (fun _ _ => rfl) ?_
        obtain rfl := gi1 h
        exact gR_rzc rfl rfl rfl
      · refine gR_iz_ne_j rfl c7 rfl ?_
        refine gR_go 1 (pc1 := 26) (L1 := [some (.ref (k0 + 1)), some (.int x1), some (.int x2)]) (st1 := [.int 0]) (fun _ _ => rfl) ?_
        obtain rfl := gi1 h
        exact gR_rzc rfl rfl rfl
  · refine gR_ic_ge_j rfl c1 rfl ?_
    refine gR_go 1 (pc1 := 26) (L1 := [some (.ref (k0 + 1)), some (.int x1), some (.int x2)]) (st1 := [.int 0]) (fun _ _ => rfl) ?_
    obtain rfl := gi1 h
    exact gR_rzc rfl rfl rfl
noncomputable def wX2_struckOnes_j23 (qq : Int32 → Int32 → Option (Int32)) (k0 : Nat) (x1 : Int32) (x2 : Int32) (s : wS) : Option (Int32) := qq x1 (x2 + 1)
theorem wX2_struckOnes_u23 {k0 : Nat} {x1 : Int32} {x2 : Int32} {s : wS} {qq : Int32 → Int32 → Option (Int32)} {x : Int32} {r : ri_R} (ih : ∀ {x1 : Int32} {x2 : Int32} , qq x1 x2 = some x → gRun 2 28 4 [some (.ref (k0 + 1)), some (.int x1), some (.int x2)] [] (wmk s) r) (he29 : ∀ (x1 : Int32) (w0 : Nat) (w2 : Int32) , x = x1 → gRun 2 28 29 [some (.ref (w0 + 1)), some (.int x1), some (.int w2)] [] (wmk s) r) (hk0 : wkd k0 = 2) (h : wX2_struckOnes_j23 qq k0 x1 x2 s = some x) : gRun 2 28 23 [some (.ref (k0 + 1)), some (.int x1), some (.int x2)] [] (wmk s) r := by
  unfold wX2_struckOnes_j23 at h
  refine gR_go 2 (pc1 := 4) (L1 := [some (.ref (k0 + 1)), some (.int x1), some (.int (x2 + 1))]) (st1 := []) (fun _ _ => rfl) ?_
  exact ih h
noncomputable def wX2_struckOnes_h4 (k0 : Nat) (s : wS) : Nat → Int32 → Int32 → Option (Int32)
  | 0, _, _ => none
  | n + 1, x1, x2 => if x2 < (s.1 k0 6) then ((wX2_isStruck k0 x2 s).bind fun t2 => if t2 = 0 then (wX2_struckOnes_j23 (wX2_struckOnes_h4 k0 s n) k0 x1 x2 s) else (wX2_struckOnes_j23 (wX2_struckOnes_h4 k0 s n) k0 (x1 + 1) x2 s)) else (some x1)
theorem wX2_struckOnes_t4 {k0 : Nat} {s : wS} {x : Int32} {r : ri_R} (hk0 : wkd k0 = 2) (he29 : ∀ (x1 : Int32) (w0 : Nat) (w2 : Int32) , x = x1 → gRun 2 28 29 [some (.ref (w0 + 1)), some (.int x1), some (.int w2)] [] (wmk s) r) : ∀ {n : Nat} {x1 : Int32} {x2 : Int32} , wX2_struckOnes_h4 k0 s n x1 x2 = some x → gRun 2 28 4 [some (.ref (k0 + 1)), some (.int x1), some (.int x2)] [] (wmk s) r := by
  intro n
  induction n with
  | zero => intro x1 x2 h; cases (show (none : Option (Int32)) = some x from h)
  | succ n ih =>
    intro x1 x2 h
    rw [wX2_struckOnes_h4] at h
    refine gR_go 2 (pc1 := 6) (L1 := [some (.ref (k0 + 1)), some (.int x1), some (.int x2)]) (st1 := [.ref (k0 + 1), .int x2]) (fun _ _ => rfl) ?_
    refine gR_gfI (k := k0) rfl hk0 rfl ?_
    rcases gif h with ⟨c1, h⟩ | ⟨c1, h⟩
    · refine gR_ic_ge_f rfl c1 ?_
      refine gR_go 2 (pc1 := 14) (L1 := [some (.ref (k0 + 1)), some (.int x1), some (.int x2)]) (st1 := [.int x2, .ref (k0 + 1)]) (fun _ _ => rfl) ?_
      obtain ⟨t2, e3, h⟩ := gb h
      refine gR_cvI (wX2_isStruck_s hk0 e3) (Nat.le_of_ble_eq_true rfl) rfl rfl hk0 rfl rfl ?_
      rcases gif h with ⟨c4, h⟩ | ⟨c4, h⟩
      · refine gR_iz_eq_j rfl c4 rfl ?_
        exact wX2_struckOnes_u23 ih he29 hk0 h
      · refine gR_iz_eq_f rfl c4 ?_
        refine gR_go 1 (pc1 := 23) (L1 := [some (.ref (k0 + 1)), some (.int (x1 + 1)), some (.int x2)]) (st1 := []) (fun _ _ => rfl) ?_
        exact wX2_struckOnes_u23 ih he29 hk0 h
    · refine gR_ic_ge_j rfl c1 rfl ?_
      exact he29 _ _ _ (Option.some.inj h).symm
noncomputable def wX2_struckOnes (k0 : Nat) (s : wS) : Option (Int32) := (wX2_struckOnes_h4 k0 s wFuel 0 0).bind fun t6 => some t6
theorem wX2_struckOnes_s {k0 : Nat} {s : wS} {rv : Int32} (hk0 : wkd k0 = 2) (h : wX2_struckOnes k0 s = some rv) : gEv 3 28 [.ref (k0 + 1)] (wmk s) (some (.int rv), wmk s, 0, 0) := by
  refine gEv_of (d := 2) (L := [some (.ref (k0 + 1)), none, none]) rfl ?_
  unfold wX2_struckOnes at h
  refine gR_go 4 (pc1 := 4) (L1 := [some (.ref (k0 + 1)), some (.int 0), some (.int 0)]) (st1 := []) (fun _ _ => rfl) ?_
  obtain ⟨z5, ez5, h⟩ := gb h
  refine wX2_struckOnes_t4 hk0 ?_  ez5
  · intro t6 w7 w8 hz
    replace hz := hz.symm
    subst hz
    refine gR_go 1 (pc1 := 30) (L1 := [some (.ref (w7 + 1)), some (.int t6), some (.int w8)]) (st1 := [.int t6]) (fun _ _ => rfl) ?_
    obtain rfl := gi1 h
    exact gR_ri rfl rfl
noncomputable def wX2_lookedAtOnes_j27 (qq : Int32 → Int32 → Option (Int32)) (k0 : Nat) (x1 : Int32) (x2 : Int32) (s : wS) : Option (Int32) := qq x1 (x2 + 1)
theorem wX2_lookedAtOnes_u27 {k0 : Nat} {x1 : Int32} {x2 : Int32} {s : wS} {qq : Int32 → Int32 → Option (Int32)} {x : Int32} {r : ri_R} (ih : ∀ {x1 : Int32} {x2 : Int32} , qq x1 x2 = some x → gRun 3 29 4 [some (.ref (k0 + 1)), some (.int x1), some (.int x2)] [] (wmk s) r) (he33 : ∀ (x1 : Int32) (w0 : Nat) (w2 : Int32) , x = x1 → gRun 3 29 33 [some (.ref (w0 + 1)), some (.int x1), some (.int w2)] [] (wmk s) r) (hk0 : wkd k0 = 2) (h : wX2_lookedAtOnes_j27 qq k0 x1 x2 s = some x) : gRun 3 29 27 [some (.ref (k0 + 1)), some (.int x1), some (.int x2)] [] (wmk s) r := by
  unfold wX2_lookedAtOnes_j27 at h
  refine gR_go 2 (pc1 := 4) (L1 := [some (.ref (k0 + 1)), some (.int x1), some (.int (x2 + 1))]) (st1 := []) (fun _ _ => rfl) ?_
  exact ih h
noncomputable def wX2_lookedAtOnes_h4 (k0 : Nat) (s : wS) : Nat → Int32 → Int32 → Option (Int32)
  | 0, _, _ => none
  | n + 1, x1, x2 => if x2 < (s.1 k0 6) then ((wX2_first k0 s).bind fun t2 => (wX2_isLookedAt k0 x2 t2 s).bind fun t4 => if t4 = 0 then (wX2_lookedAtOnes_j27 (wX2_lookedAtOnes_h4 k0 s n) k0 x1 x2 s) else (wX2_lookedAtOnes_j27 (wX2_lookedAtOnes_h4 k0 s n) k0 (x1 + 1) x2 s)) else (some x1)
theorem wX2_lookedAtOnes_t4 {k0 : Nat} {s : wS} {x : Int32} {r : ri_R} (hk0 : wkd k0 = 2) (he33 : ∀ (x1 : Int32) (w0 : Nat) (w2 : Int32) , x = x1 → gRun 3 29 33 [some (.ref (w0 + 1)), some (.int x1), some (.int w2)] [] (wmk s) r) : ∀ {n : Nat} {x1 : Int32} {x2 : Int32} , wX2_lookedAtOnes_h4 k0 s n x1 x2 = some x → gRun 3 29 4 [some (.ref (k0 + 1)), some (.int x1), some (.int x2)] [] (wmk s) r := by
  intro n
  induction n with
  | zero => intro x1 x2 h; cases (show (none : Option (Int32)) = some x from h)
  | succ n ih =>
    intro x1 x2 h
    rw [wX2_lookedAtOnes_h4] at h
    refine gR_go 2 (pc1 := 6) (L1 := [some (.ref (k0 + 1)), some (.int x1), some (.int x2)]) (st1 := [.ref (k0 + 1), .int x2]) (fun _ _ => rfl) ?_
    refine gR_gfI (k := k0) rfl hk0 rfl ?_
    rcases gif h with ⟨c1, h⟩ | ⟨c1, h⟩
    · refine gR_ic_ge_f rfl c1 ?_
      refine gR_go 3 (pc1 := 15) (L1 := [some (.ref (k0 + 1)), some (.int x1), some (.int x2)]) (st1 := [.ref (k0 + 1), .int x2, .ref (k0 + 1)]) (fun _ _ => rfl) ?_
      obtain ⟨t2, e3, h⟩ := gb h
      refine gR_cvI (wX2_first_s hk0 e3) (Nat.le_of_ble_eq_true rfl) rfl rfl hk0 rfl rfl ?_
      obtain ⟨t4, e5, h⟩ := gb h
      refine gR_cvI (wX2_isLookedAt_s hk0 e5) (Nat.le_of_ble_eq_true rfl) rfl rfl hk0 rfl rfl ?_
      rcases gif h with ⟨c6, h⟩ | ⟨c6, h⟩
      · refine gR_iz_eq_j rfl c6 rfl ?_
        exact wX2_lookedAtOnes_u27 ih he33 hk0 h
      · refine gR_iz_eq_f rfl c6 ?_
        refine gR_go 1 (pc1 := 27) (L1 := [some (.ref (k0 + 1)), some (.int (x1 + 1)), some (.int x2)]) (st1 := []) (fun _ _ => rfl) ?_
        exact wX2_lookedAtOnes_u27 ih he33 hk0 h
    · refine gR_ic_ge_j rfl c1 rfl ?_
      exact he33 _ _ _ (Option.some.inj h).symm
noncomputable def wX2_lookedAtOnes (k0 : Nat) (s : wS) : Option (Int32) := (wX2_lookedAtOnes_h4 k0 s wFuel 0 0).bind fun t8 => some t8
theorem wX2_lookedAtOnes_s {k0 : Nat} {s : wS} {rv : Int32} (hk0 : wkd k0 = 2) (h : wX2_lookedAtOnes k0 s = some rv) : gEv 4 29 [.ref (k0 + 1)] (wmk s) (some (.int rv), wmk s, 0, 0) := by
  refine gEv_of (d := 3) (L := [some (.ref (k0 + 1)), none, none]) rfl ?_
  unfold wX2_lookedAtOnes at h
  refine gR_go 4 (pc1 := 4) (L1 := [some (.ref (k0 + 1)), some (.int 0), some (.int 0)]) (st1 := []) (fun _ _ => rfl) ?_
  obtain ⟨z7, ez7, h⟩ := gb h
  refine wX2_lookedAtOnes_t4 hk0 ?_  ez7
  · intro t8 w9 w10 hz
    replace hz := hz.symm
    subst hz
    refine gR_go 1 (pc1 := 34) (L1 := [some (.ref (w9 + 1)), some (.int t8), some (.int w10)]) (st1 := [.int t8]) (fun _ _ => rfl) ?_
    obtain rfl := gi1 h
    exact gR_ri rfl rfl
noncomputable def wX2_judge (k0 : Nat) (x1 : Int32) (s : wS) : Option (wS) := (wX10_isOutside (s.1 k0 10) 10 s).bind fun t1 => if t1 = 0 then ((wstI s (k0 + 10) 10 (s.1 k0 10) x1).bind fun s4 => (wstI s4 (k0 + 11) 10 (s4.1 k0 10) (s4.1 k0 6)).bind fun s5 => (wpfI s5 k0 10 ((s5.1 k0 10) + 1)).bind fun s6 => some s6) else (some s)
theorem wX2_judge_s {k0 : Nat} {x1 : Int32} {s : wS} {rs : wS} (hk0 : wkd k0 = 2) (h : wX2_judge k0 x1 s = some rs) : gEv 2 30 [.ref (k0 + 1), .int x1] (wmk s) (none, wmk rs, 0, 0) := by
  refine gEv_of (d := 1) (L := [some (.ref (k0 + 1)), some (.int x1)]) rfl ?_
  unfold wX2_judge at h
  refine gR_go 1 (pc1 := 1) (L1 := [some (.ref (k0 + 1)), some (.int x1)]) (st1 := [.ref (k0 + 1)]) (fun _ _ => rfl) ?_
  refine gR_gfI (k := k0) rfl hk0 rfl ?_
  refine gR_go 1 (pc1 := 6) (L1 := [some (.ref (k0 + 1)), some (.int x1)]) (st1 := [.int 10, .int (s.1 k0 10)]) (fun _ _ => rfl) ?_
  obtain ⟨t1, e2, h⟩ := gb h
  refine gR_csI (wX10_isOutside_s e2) (Nat.le_of_ble_eq_true rfl) rfl rfl rfl rfl ?_
  rcases gif h with ⟨c3, h⟩ | ⟨c3, h⟩
  · refine gR_iz_ne_f rfl c3 ?_
    refine gR_go 1 (pc1 := 13) (L1 := [some (.ref (k0 + 1)), some (.int x1)]) (st1 := [.ref (k0 + 1)]) (fun _ _ => rfl) ?_
    refine gR_gfR (k := k0) (k' := (k0 + 10)) rfl hk0 rfl (wly_2_8 hk0).1 ?_
    refine gR_go 1 (pc1 := 17) (L1 := [some (.ref (k0 + 1)), some (.int x1)]) (st1 := [.ref (k0 + 1), .ref ((k0 + 10) + 1)]) (fun _ _ => rfl) ?_
    refine gR_gfI (k := k0) rfl hk0 rfl ?_
    refine gR_go 1 (pc1 := 21) (L1 := [some (.ref (k0 + 1)), some (.int x1)]) (st1 := [.int x1, .int (s.1 k0 10), .ref ((k0 + 10) + 1)]) (fun _ _ => rfl) ?_
    obtain ⟨s4, es4, h⟩ := gb h
    refine gR_ias (k := (k0 + 10)) rfl (wly_2_8 hk0).2.1 (wly_2_8 hk0).2.2 es4 ?_
    refine gR_go 1 (pc1 := 23) (L1 := [some (.ref (k0 + 1)), some (.int x1)]) (st1 := [.ref (k0 + 1)]) (fun _ _ => rfl) ?_
    refine gR_gfR (k := k0) (k' := (k0 + 11)) rfl hk0 rfl (wly_2_9 hk0).1 ?_
    refine gR_go 1 (pc1 := 27) (L1 := [some (.ref (k0 + 1)), some (.int x1)]) (st1 := [.ref (k0 + 1), .ref ((k0 + 11) + 1)]) (fun _ _ => rfl) ?_
    refine gR_gfI (k := k0) rfl hk0 rfl ?_
    refine gR_go 1 (pc1 := 31) (L1 := [some (.ref (k0 + 1)), some (.int x1)]) (st1 := [.ref (k0 + 1), .int (s4.1 k0 10), .ref ((k0 + 11) + 1)]) (fun _ _ => rfl) ?_
    refine gR_gfI (k := k0) rfl hk0 rfl ?_
    obtain ⟨s5, es5, h⟩ := gb h
    refine gR_ias (k := (k0 + 11)) rfl (wly_2_9 hk0).2.1 (wly_2_9 hk0).2.2 es5 ?_
    refine gR_go 2 (pc1 := 37) (L1 := [some (.ref (k0 + 1)), some (.int x1)]) (st1 := [.ref (k0 + 1), .ref (k0 + 1)]) (fun _ _ => rfl) ?_
    refine gR_gfI (k := k0) rfl hk0 rfl ?_
    refine gR_go 2 (pc1 := 42) (L1 := [some (.ref (k0 + 1)), some (.int x1)]) (st1 := [.int ((s5.1 k0 10) + 1), .ref (k0 + 1)]) (fun _ _ => rfl) ?_
    obtain ⟨s6, es6, h⟩ := gb h
    refine gR_pfI (k := k0) rfl hk0 rfl rfl es6 ?_
    obtain rfl := gi1 h
    exact gR_rv rfl rfl
  · refine gR_iz_ne_j rfl c3 rfl ?_
    obtain rfl := gi1 h
    exact gR_rv rfl rfl
noncomputable def wX3_clear (k0 : Nat) (s : wS) : Option (wS) := (wpfI s k0 1 0).bind fun s1 => (wpfI s1 k0 6 0).bind fun s2 => (wpfZ s2 k0 12 0).bind fun s3 => some s3
theorem wX3_clear_s {k0 : Nat} {s : wS} {rs : wS} (hk0 : wkd k0 = 3) (h : wX3_clear k0 s = some rs) : gEv 1 32 [.ref (k0 + 1)] (wmk s) (none, wmk rs, 0, 0) := by
  refine gEv_of (d := 0) (L := [some (.ref (k0 + 1))]) rfl ?_
  unfold wX3_clear at h
  refine gR_go 2 (pc1 := 2) (L1 := [some (.ref (k0 + 1))]) (st1 := [.int 0, .ref (k0 + 1)]) (fun _ _ => rfl) ?_
  obtain ⟨s1, es1, h⟩ := gb h
  refine gR_pfI (k := k0) rfl hk0 rfl rfl es1 ?_
  refine gR_go 2 (pc1 := 7) (L1 := [some (.ref (k0 + 1))]) (st1 := [.int 0, .ref (k0 + 1)]) (fun _ _ => rfl) ?_
  obtain ⟨s2, es2, h⟩ := gb h
  refine gR_pfI (k := k0) rfl hk0 rfl rfl es2 ?_
  refine gR_go 2 (pc1 := 12) (L1 := [some (.ref (k0 + 1))]) (st1 := [.int 0, .ref (k0 + 1)]) (fun _ _ => rfl) ?_
  obtain ⟨s3, es3, h⟩ := gb h
  refine gR_pfZ (k := k0) rfl hk0 rfl rfl es3 ?_
  obtain rfl := gi1 h
  exact gR_rv rfl rfl
noncomputable def wX3_put (k0 : Nat) (x1 : Int32) (s : wS) : Option (wS) := if x1 = 0 then (some s) else (if (s.1 k0 1) < 0 then (some s) else (if (s.1 k0 1) < 400 then ((wstI s (k0 + 1) 400 (s.1 k0 1) x1).bind fun s4 => (wpfI s4 k0 1 ((s4.1 k0 1) + 1)).bind fun s5 => some s5) else (some s)))
theorem wX3_put_s {k0 : Nat} {x1 : Int32} {s : wS} {rs : wS} (hk0 : wkd k0 = 3) (h : wX3_put k0 x1 s = some rs) : gEv 1 33 [.ref (k0 + 1), .int x1] (wmk s) (none, wmk rs, 0, 0) := by
  refine gEv_of (d := 0) (L := [some (.ref (k0 + 1)), some (.int x1)]) rfl ?_
  unfold wX3_put at h
  refine gR_go 1 (pc1 := 1) (L1 := [some (.ref (k0 + 1)), some (.int x1)]) (st1 := [.int x1]) (fun _ _ => rfl) ?_
  rcases gif h with ⟨c1, h⟩ | ⟨c1, h⟩
  · refine gR_iz_eq_j rfl c1 rfl ?_
    obtain rfl := gi1 h
    exact gR_rv rfl rfl
  · refine gR_iz_eq_f rfl c1 ?_
    refine gR_go 1 (pc1 := 5) (L1 := [some (.ref (k0 + 1)), some (.int x1)]) (st1 := [.ref (k0 + 1)]) (fun _ _ => rfl) ?_
    refine gR_gfI (k := k0) rfl hk0 rfl ?_
    rcases gif h with ⟨c2, h⟩ | ⟨c2, h⟩
    · refine gR_iz_lt_j rfl c2 rfl ?_
      obtain rfl := gi1 h
      exact gR_rv rfl rfl
    · refine gR_iz_lt_f rfl c2 ?_
      refine gR_go 1 (pc1 := 12) (L1 := [some (.ref (k0 + 1)), some (.int x1)]) (st1 := [.ref (k0 + 1)]) (fun _ _ => rfl) ?_
      refine gR_gfI (k := k0) rfl hk0 rfl ?_
      refine gR_go 1 (pc1 := 16) (L1 := [some (.ref (k0 + 1)), some (.int x1)]) (st1 := [.ref (k0 + 1), .int (s.1 k0 1)]) (fun _ _ => rfl) ?_
      refine gR_gfR (k := k0) (k' := (k0 + 1)) rfl hk0 rfl (wly_3_0 hk0).1 ?_
      refine gR_aln (k := (k0 + 1)) rfl (by rw [(wly_3_0 hk0).2.1]; decide) (wly_3_0 hk0).2.2 (w := 400) rfl ?_
      rcases gif h with ⟨c3, h⟩ | ⟨c3, h⟩
      · refine gR_ic_ge_f rfl c3 ?_
        refine gR_go 1 (pc1 := 24) (L1 := [some (.ref (k0 + 1)), some (.int x1)]) (st1 := [.ref (k0 + 1)]) (fun _ _ => rfl) ?_
        refine gR_gfR (k := k0) (k' := (k0 + 1)) rfl hk0 rfl (wly_3_0 hk0).1 ?_
        refine gR_go 1 (pc1 := 28) (L1 := [some (.ref (k0 + 1)), some (.int x1)]) (st1 := [.ref (k0 + 1), .ref ((k0 + 1) + 1)]) (fun _ _ => rfl) ?_
        refine gR_gfI (k := k0) rfl hk0 rfl ?_
        refine gR_go 1 (pc1 := 32) (L1 := [some (.ref (k0 + 1)), some (.int x1)]) (st1 := [.int x1, .int (s.1 k0 1), .ref ((k0 + 1) + 1)]) (fun _ _ => rfl) ?_
        obtain ⟨s4, es4, h⟩ := gb h
        refine gR_ias (k := (k0 + 1)) rfl (wly_3_0 hk0).2.1 (wly_3_0 hk0).2.2 es4 ?_
        refine gR_go 2 (pc1 := 35) (L1 := [some (.ref (k0 + 1)), some (.int x1)]) (st1 := [.ref (k0 + 1), .ref (k0 + 1)]) (fun _ _ => rfl) ?_
        refine gR_gfI (k := k0) rfl hk0 rfl ?_
        refine gR_go 2 (pc1 := 40) (L1 := [some (.ref (k0 + 1)), some (.int x1)]) (st1 := [.int ((s4.1 k0 1) + 1), .ref (k0 + 1)]) (fun _ _ => rfl) ?_
        obtain ⟨s5, es5, h⟩ := gb h
        refine gR_pfI (k := k0) rfl hk0 rfl rfl es5 ?_
        obtain rfl := gi1 h
        exact gR_rv rfl rfl
      · refine gR_ic_ge_j rfl c3 rfl ?_
        obtain rfl := gi1 h
        exact gR_rv rfl rfl
noncomputable def wX3_addClause (k0 : Nat) (x1 : Int32) (x2 : Int32) (x3 : Int32) (s : wS) : Option (wS) := (wX10_isOutside (s.1 k0 6) 12 s).bind fun t1 => if t1 = 0 then ((wstI s (k0 + 2) 12 (s.1 k0 6) x1).bind fun s4 => (wstI s4 (k0 + 3) 12 (s4.1 k0 6) x2).bind fun s5 => (wstI s5 (k0 + 4) 12 (s5.1 k0 6) x3).bind fun s6 => (wstI s6 (k0 + 5) 12 (s6.1 k0 6) (s6.1 k0 1)).bind fun s7 => (wpfI s7 k0 6 ((s7.1 k0 6) + 1)).bind fun s8 => some s8) else (some s)
theorem wX3_addClause_s {k0 : Nat} {x1 : Int32} {x2 : Int32} {x3 : Int32} {s : wS} {rs : wS} (hk0 : wkd k0 = 3) (h : wX3_addClause k0 x1 x2 x3 s = some rs) : gEv 2 34 [.ref (k0 + 1), .int x1, .int x2, .int x3] (wmk s) (none, wmk rs, 0, 0) := by
  refine gEv_of (d := 1) (L := [some (.ref (k0 + 1)), some (.int x1), some (.int x2), some (.int x3)]) rfl ?_
  unfold wX3_addClause at h
  refine gR_go 1 (pc1 := 1) (L1 := [some (.ref (k0 + 1)), some (.int x1), some (.int x2), some (.int x3)]) (st1 := [.ref (k0 + 1)]) (fun _ _ => rfl) ?_
  refine gR_gfI (k := k0) rfl hk0 rfl ?_
  refine gR_go 1 (pc1 := 6) (L1 := [some (.ref (k0 + 1)), some (.int x1), some (.int x2), some (.int x3)]) (st1 := [.int 12, .int (s.1 k0 6)]) (fun _ _ => rfl) ?_
  obtain ⟨t1, e2, h⟩ := gb h
  refine gR_csI (wX10_isOutside_s e2) (Nat.le_of_ble_eq_true rfl) rfl rfl rfl rfl ?_
  rcases gif h with ⟨c3, h⟩ | ⟨c3, h⟩
  · refine gR_iz_ne_f rfl c3 ?_
    refine gR_go 1 (pc1 := 13) (L1 := [some (.ref (k0 + 1)), some (.int x1), some (.int x2), some (.int x3)]) (st1 := [.ref (k0 + 1)]) (fun _ _ => rfl) ?_
    refine gR_gfR (k := k0) (k' := (k0 + 2)) rfl hk0 rfl (wly_3_2 hk0).1 ?_
    refine gR_go 1 (pc1 := 17) (L1 := [some (.ref (k0 + 1)), some (.int x1), some (.int x2), some (.int x3)]) (st1 := [.ref (k0 + 1), .ref ((k0 + 2) + 1)]) (fun _ _ => rfl) ?_
    refine gR_gfI (k := k0) rfl hk0 rfl ?_
    refine gR_go 1 (pc1 := 21) (L1 := [some (.ref (k0 + 1)), some (.int x1), some (.int x2), some (.int x3)]) (st1 := [.int x1, .int (s.1 k0 6), .ref ((k0 + 2) + 1)]) (fun _ _ => rfl) ?_
    obtain ⟨s4, es4, h⟩ := gb h
    refine gR_ias (k := (k0 + 2)) rfl (wly_3_2 hk0).2.1 (wly_3_2 hk0).2.2 es4 ?_
    refine gR_go 1 (pc1 := 23) (L1 := [some (.ref (k0 + 1)), some (.int x1), some (.int x2), some (.int x3)]) (st1 := [.ref (k0 + 1)]) (fun _ _ => rfl) ?_
    refine gR_gfR (k := k0) (k' := (k0 + 3)) rfl hk0 rfl (wly_3_3 hk0).1 ?_
    refine gR_go 1 (pc1 := 27) (L1 := [some (.ref (k0 + 1)), some (.int x1), some (.int x2), some (.int x3)]) (st1 := [.ref (k0 + 1), .ref ((k0 + 3) + 1)]) (fun _ _ => rfl) ?_
    refine gR_gfI (k := k0) rfl hk0 rfl ?_
    refine gR_go 1 (pc1 := 31) (L1 := [some (.ref (k0 + 1)), some (.int x1), some (.int x2), some (.int x3)]) (st1 := [.int x2, .int (s4.1 k0 6), .ref ((k0 + 3) + 1)]) (fun _ _ => rfl) ?_
    obtain ⟨s5, es5, h⟩ := gb h
    refine gR_ias (k := (k0 + 3)) rfl (wly_3_3 hk0).2.1 (wly_3_3 hk0).2.2 es5 ?_
    refine gR_go 1 (pc1 := 33) (L1 := [some (.ref (k0 + 1)), some (.int x1), some (.int x2), some (.int x3)]) (st1 := [.ref (k0 + 1)]) (fun _ _ => rfl) ?_
    refine gR_gfR (k := k0) (k' := (k0 + 4)) rfl hk0 rfl (wly_3_4 hk0).1 ?_
    refine gR_go 1 (pc1 := 37) (L1 := [some (.ref (k0 + 1)), some (.int x1), some (.int x2), some (.int x3)]) (st1 := [.ref (k0 + 1), .ref ((k0 + 4) + 1)]) (fun _ _ => rfl) ?_
    refine gR_gfI (k := k0) rfl hk0 rfl ?_
    refine gR_go 1 (pc1 := 41) (L1 := [some (.ref (k0 + 1)), some (.int x1), some (.int x2), some (.int x3)]) (st1 := [.int x3, .int (s5.1 k0 6), .ref ((k0 + 4) + 1)]) (fun _ _ => rfl) ?_
    obtain ⟨s6, es6, h⟩ := gb h
    refine gR_ias (k := (k0 + 4)) rfl (wly_3_4 hk0).2.1 (wly_3_4 hk0).2.2 es6 ?_
    refine gR_go 1 (pc1 := 43) (L1 := [some (.ref (k0 + 1)), some (.int x1), some (.int x2), some (.int x3)]) (st1 := [.ref (k0 + 1)]) (fun _ _ => rfl) ?_
    refine gR_gfR (k := k0) (k' := (k0 + 5)) rfl hk0 rfl (wly_3_5 hk0).1 ?_
    refine gR_go 1 (pc1 := 47) (L1 := [some (.ref (k0 + 1)), some (.int x1), some (.int x2), some (.int x3)]) (st1 := [.ref (k0 + 1), .ref ((k0 + 5) + 1)]) (fun _ _ => rfl) ?_
    refine gR_gfI (k := k0) rfl hk0 rfl ?_
    refine gR_go 1 (pc1 := 51) (L1 := [some (.ref (k0 + 1)), some (.int x1), some (.int x2), some (.int x3)]) (st1 := [.ref (k0 + 1), .int (s6.1 k0 6), .ref ((k0 + 5) + 1)]) (fun _ _ => rfl) ?_
    refine gR_gfI (k := k0) rfl hk0 rfl ?_
    obtain ⟨s7, es7, h⟩ := gb h
    refine gR_ias (k := (k0 + 5)) rfl (wly_3_5 hk0).2.1 (wly_3_5 hk0).2.2 es7 ?_
    refine gR_go 2 (pc1 := 57) (L1 := [some (.ref (k0 + 1)), some (.int x1), some (.int x2), some (.int x3)]) (st1 := [.ref (k0 + 1), .ref (k0 + 1)]) (fun _ _ => rfl) ?_
    refine gR_gfI (k := k0) rfl hk0 rfl ?_
    refine gR_go 2 (pc1 := 62) (L1 := [some (.ref (k0 + 1)), some (.int x1), some (.int x2), some (.int x3)]) (st1 := [.int ((s7.1 k0 6) + 1), .ref (k0 + 1)]) (fun _ _ => rfl) ?_
    obtain ⟨s8, es8, h⟩ := gb h
    refine gR_pfI (k := k0) rfl hk0 rfl rfl es8 ?_
    obtain rfl := gi1 h
    exact gR_rv rfl rfl
  · refine gR_iz_ne_j rfl c3 rfl ?_
    obtain rfl := gi1 h
    exact gR_rv rfl rfl
noncomputable def wX3_cell (x0 : Int32) (x1 : Int32) (x2 : Int32) (s : wS) : Option (Int32) := (wX10_slot x0 x1 s).bind fun t1 => some ((t1 * 8) + x2)
theorem wX3_cell_s {x0 : Int32} {x1 : Int32} {x2 : Int32} {s : wS} {rv : Int32} (h : wX3_cell x0 x1 x2 s = some rv) : gEv 2 35 [.int x0, .int x1, .int x2] (wmk s) (some (.int rv), wmk s, 0, 0) := by
  refine gEv_of (d := 1) (L := [some (.int x0), some (.int x1), some (.int x2)]) rfl ?_
  unfold wX3_cell at h
  refine gR_go 2 (pc1 := 2) (L1 := [some (.int x0), some (.int x1), some (.int x2)]) (st1 := [.int x1, .int x0]) (fun _ _ => rfl) ?_
  obtain ⟨t1, e2, h⟩ := gb h
  refine gR_csI (wX10_slot_s e2) (Nat.le_of_ble_eq_true rfl) rfl rfl rfl rfl ?_
  refine gR_go 4 (pc1 := 10) (L1 := [some (.int x0), some (.int x1), some (.int x2)]) (st1 := [.int ((t1 * 8) + x2)]) (fun _ _ => rfl) ?_
  obtain rfl := gi1 h
  exact gR_ri rfl rfl
noncomputable def wX3_farOf (k0 : Nat) (x1 : Int32) (x2 : Int32) (x3 : Int32) (s : wS) : Option (Int64) := (wX3_cell x1 x2 x3 s).bind fun t1 => (wX10_isOutside t1 192 s).bind fun t3 => if t3 = 0 then ((wldL s (k0 + 8) 192 t1).bind fun t6 => some t6) else (some 0)
theorem wX3_farOf_s {k0 : Nat} {x1 : Int32} {x2 : Int32} {x3 : Int32} {s : wS} {rv : Int64} (hk0 : wkd k0 = 3) (h : wX3_farOf k0 x1 x2 x3 s = some rv) : gEv 3 36 [.ref (k0 + 1), .int x1, .int x2, .int x3] (wmk s) (some (.long rv), wmk s, 0, 0) := by
  refine gEv_of (d := 2) (L := [some (.ref (k0 + 1)), some (.int x1), some (.int x2), some (.int x3), none]) rfl ?_
  unfold wX3_farOf at h
  refine gR_go 3 (pc1 := 3) (L1 := [some (.ref (k0 + 1)), some (.int x1), some (.int x2), some (.int x3), none]) (st1 := [.int x3, .int x2, .int x1]) (fun _ _ => rfl) ?_
  obtain ⟨t1, e2, h⟩ := gb h
  refine gR_csI (wX3_cell_s e2) (Nat.le_of_ble_eq_true rfl) rfl rfl rfl rfl ?_
  refine gR_go 3 (pc1 := 11) (L1 := [some (.ref (k0 + 1)), some (.int x1), some (.int x2), some (.int x3), some (.int t1)]) (st1 := [.ref (k0 + 1), .int t1]) (fun _ _ => rfl) ?_
  refine gR_gfR (k := k0) (k' := (k0 + 8)) rfl hk0 rfl (wly_3_10 hk0).1 ?_
  refine gR_aln (k := (k0 + 8)) rfl (by rw [(wly_3_10 hk0).2.1]; decide) (wly_3_10 hk0).2.2 (w := 192) rfl ?_
  obtain ⟨t3, e4, h⟩ := gb h
  refine gR_csI (wX10_isOutside_s e4) (Nat.le_of_ble_eq_true rfl) rfl rfl rfl rfl ?_
  rcases gif h with ⟨c5, h⟩ | ⟨c5, h⟩
  · refine gR_iz_eq_j rfl c5 rfl ?_
    refine gR_go 1 (pc1 := 26) (L1 := [some (.ref (k0 + 1)), some (.int x1), some (.int x2), some (.int x3), some (.int t1)]) (st1 := [.ref (k0 + 1)]) (fun _ _ => rfl) ?_
    refine gR_gfR (k := k0) (k' := (k0 + 8)) rfl hk0 rfl (wly_3_10 hk0).1 ?_
    refine gR_go 1 (pc1 := 31) (L1 := [some (.ref (k0 + 1)), some (.int x1), some (.int x2), some (.int x3), some (.int t1)]) (st1 := [.int t1, .ref ((k0 + 8) + 1)]) (fun _ _ => rfl) ?_
    obtain ⟨t6, et6, h⟩ := gb h
    refine gR_lal (k := (k0 + 8)) rfl (wly_3_10 hk0).2.1 (wly_3_10 hk0).2.2 et6 ?_
    obtain rfl := gi1 h
    exact gR_rl rfl rfl
  · refine gR_iz_eq_f rfl c5 ?_
    refine gR_go 2 (pc1 := 32) (L1 := [some (.ref (k0 + 1)), some (.int x1), some (.int x2), some (.int x3), some (.int t1)]) (st1 := [.long 0]) (fun _ _ => rfl) ?_
    obtain rfl := gi1 h
    exact gR_rl rfl rfl
noncomputable def wX3_nearOf (k0 : Nat) (x1 : Int32) (x2 : Int32) (x3 : Int32) (s : wS) : Option (Int32) := (wX3_cell x1 x2 x3 s).bind fun t1 => (wX10_at (k0 + 9) t1 s).bind fun t3 => some t3
theorem wX3_nearOf_s {k0 : Nat} {x1 : Int32} {x2 : Int32} {x3 : Int32} {s : wS} {rv : Int32} (hk0 : wkd k0 = 3) (h : wX3_nearOf k0 x1 x2 x3 s = some rv) : gEv 3 37 [.ref (k0 + 1), .int x1, .int x2, .int x3] (wmk s) (some (.int rv), wmk s, 0, 0) := by
  refine gEv_of (d := 2) (L := [some (.ref (k0 + 1)), some (.int x1), some (.int x2), some (.int x3)]) rfl ?_
  unfold wX3_nearOf at h
  refine gR_go 1 (pc1 := 1) (L1 := [some (.ref (k0 + 1)), some (.int x1), some (.int x2), some (.int x3)]) (st1 := [.ref (k0 + 1)]) (fun _ _ => rfl) ?_
  refine gR_gfR (k := k0) (k' := (k0 + 9)) rfl hk0 rfl (wly_3_11 hk0).1 ?_
  refine gR_go 3 (pc1 := 7) (L1 := [some (.ref (k0 + 1)), some (.int x1), some (.int x2), some (.int x3)]) (st1 := [.int x3, .int x2, .int x1, .ref ((k0 + 9) + 1)]) (fun _ _ => rfl) ?_
  obtain ⟨t1, e2, h⟩ := gb h
  refine gR_csI (wX3_cell_s e2) (Nat.le_of_ble_eq_true rfl) rfl rfl rfl rfl ?_
  obtain ⟨t3, e4, h⟩ := gb h
  refine gR_csI (wX10_at_s (wly_3_11 hk0).2.1 e4) (Nat.le_of_ble_eq_true rfl) rfl rfl rfl rfl ?_
  obtain rfl := gi1 h
  exact gR_ri rfl rfl
noncomputable def wX3_setWord (k0 : Nat) (x1 : Int32) (x2 : Int32) (s : wS) : Option (wS) := if (x1 - 23) < 0 then (some s) else (if (x1 - 23) < 8 then ((wstL s (k0 + 6) 8 (x1 - 23) ((x2 : Int32).toInt64)).bind fun s3 => some s3) else (some s))
theorem wX3_setWord_s {k0 : Nat} {x1 : Int32} {x2 : Int32} {s : wS} {rs : wS} (hk0 : wkd k0 = 3) (h : wX3_setWord k0 x1 x2 s = some rs) : gEv 1 42 [.ref (k0 + 1), .int x1, .int x2] (wmk s) (none, wmk rs, 0, 0) := by
  refine gEv_of (d := 0) (L := [some (.ref (k0 + 1)), some (.int x1), some (.int x2), none]) rfl ?_
  unfold wX3_setWord at h
  refine gR_go 5 (pc1 := 6) (L1 := [some (.ref (k0 + 1)), some (.int x1), some (.int x2), some (.int (x1 - 23))]) (st1 := [.int (x1 - 23)]) (fun _ _ => rfl) ?_
  rcases gif h with ⟨c1, h⟩ | ⟨c1, h⟩
  · refine gR_iz_lt_j rfl c1 rfl ?_
    obtain rfl := gi1 h
    exact gR_rv rfl rfl
  · refine gR_iz_lt_f rfl c1 ?_
    refine gR_go 2 (pc1 := 11) (L1 := [some (.ref (k0 + 1)), some (.int x1), some (.int x2), some (.int (x1 - 23))]) (st1 := [.ref (k0 + 1), .int (x1 - 23)]) (fun _ _ => rfl) ?_
    refine gR_gfR (k := k0) (k' := (k0 + 6)) rfl hk0 rfl (wly_3_7 hk0).1 ?_
    refine gR_aln (k := (k0 + 6)) rfl (by rw [(wly_3_7 hk0).2.1]; decide) (wly_3_7 hk0).2.2 (w := 8) rfl ?_
    rcases gif h with ⟨c2, h⟩ | ⟨c2, h⟩
    · refine gR_ic_ge_f rfl c2 ?_
      refine gR_go 1 (pc1 := 19) (L1 := [some (.ref (k0 + 1)), some (.int x1), some (.int x2), some (.int (x1 - 23))]) (st1 := [.ref (k0 + 1)]) (fun _ _ => rfl) ?_
      refine gR_gfR (k := k0) (k' := (k0 + 6)) rfl hk0 rfl (wly_3_7 hk0).1 ?_
      refine gR_go 3 (pc1 := 25) (L1 := [some (.ref (k0 + 1)), some (.int x1), some (.int x2), some (.int (x1 - 23))]) (st1 := [.long ((x2 : Int32).toInt64), .int (x1 - 23), .ref ((k0 + 6) + 1)]) (fun _ _ => rfl) ?_
      obtain ⟨s3, es3, h⟩ := gb h
      refine gR_las (k := (k0 + 6)) rfl (wly_3_7 hk0).2.1 (wly_3_7 hk0).2.2 es3 ?_
      obtain rfl := gi1 h
      exact gR_rv rfl rfl
    · refine gR_ic_ge_j rfl c2 rfl ?_
      obtain rfl := gi1 h
      exact gR_rv rfl rfl
noncomputable def wX3_setWords_j180 (k100 : Nat) (y1 : Int32) (y2 : Int32) (s : wS) : Option (wS) := (wX3_setWord k100 y1 y2 s).bind fun s38 => some s38
theorem wX3_setWords_u180 {k100 : Nat} {y1 : Int32} {y2 : Int32} {s : wS} {w0 : Nat} {w1 : Nat} {w2 : Int32} {w3 : Int32} {w4 : Int32} {w5 : Int32} {w6 : Int32} {w7 : Int32} {w8 : Int32} {rs : wS} (hk100 : wkd k100 = 3) (h : wX3_setWords_j180 k100 y1 y2 s = some rs) : gRun 2 41 180 [some (.ref (w0 + 1)), some (.ref (w1 + 1)), some (.int w2), some (.int w3), some (.int w4), some (.int w5), some (.int w6), some (.int w7), some (.int w8)] [.int y2, .int y1, .ref (k100 + 1)] (wmk s) (none, wmk rs, 0, 0) := by
  unfold wX3_setWords_j180 at h
  obtain ⟨s38, e39, h⟩ := gb h
  refine gR_cvV (wX3_setWord_s hk100 e39) (Nat.le_of_ble_eq_true rfl) rfl rfl hk100 rfl rfl ?_
  obtain rfl := gi1 h
  exact gR_rv rfl rfl
noncomputable def wX3_setWords_j179 (k100 : Nat) (y1 : Int32) (s : wS) : Option (wS) := wX3_setWords_j180 k100 y1 0 s
theorem wX3_setWords_u179 {k100 : Nat} {y1 : Int32} {s : wS} {w0 : Nat} {w1 : Nat} {w2 : Int32} {w3 : Int32} {w4 : Int32} {w5 : Int32} {w6 : Int32} {w7 : Int32} {w8 : Int32} {rs : wS} (hk100 : wkd k100 = 3) (h : wX3_setWords_j179 k100 y1 s = some rs) : gRun 2 41 179 [some (.ref (w0 + 1)), some (.ref (w1 + 1)), some (.int w2), some (.int w3), some (.int w4), some (.int w5), some (.int w6), some (.int w7), some (.int w8)] [.int y1, .ref (k100 + 1)] (wmk s) (none, wmk rs, 0, 0) := by
  unfold wX3_setWords_j179 at h
  refine gR_go 1 (pc1 := 180) (L1 := [some (.ref (w0 + 1)), some (.ref (w1 + 1)), some (.int w2), some (.int w3), some (.int w4), some (.int w5), some (.int w6), some (.int w7), some (.int w8)]) (st1 := [.int 0, .int y1, .ref (k100 + 1)]) (fun _ _ => rfl) ?_
  exact wX3_setWords_u180 hk100 h
noncomputable def wX3_setWords_j159 (k0 : Nat) (x6 : Int32) (x8 : Int32) (k100 : Nat) (y1 : Int32) (y2 : Int32) (s : wS) : Option (wS) := (wX3_setWord k100 y1 y2 s).bind fun s34 => if x8 = 0 then (wX3_setWords_j179 k0 30 s34) else (if x6 = 0 then (wX3_setWords_j180 k0 30 1 s34) else (wX3_setWords_j179 k0 30 s34))
theorem wX3_setWords_u159 {k0 : Nat} {x6 : Int32} {x8 : Int32} {k100 : Nat} {y1 : Int32} {y2 : Int32} {s : wS} {w1 : Nat} {w2 : Int32} {w3 : Int32} {w4 : Int32} {w5 : Int32} {w7 : Int32} {rs : wS} (hk0 : wkd k0 = 3) (hk100 : wkd k100 = 3) (h : wX3_setWords_j159 k0 x6 x8 k100 y1 y2 s = some rs) : gRun 2 41 159 [some (.ref (k0 + 1)), some (.ref (w1 + 1)), some (.int w2), some (.int w3), some (.int w4), some (.int w5), some (.int x6), some (.int w7), some (.int x8)] [.int y2, .int y1, .ref (k100 + 1)] (wmk s) (none, wmk rs, 0, 0) := by
  unfold wX3_setWords_j159 at h
  obtain ⟨s34, e35, h⟩ := gb h
  refine gR_cvV (wX3_setWord_s hk100 e35) (Nat.le_of_ble_eq_true rfl) rfl rfl hk100 rfl rfl ?_
  refine gR_go 3 (pc1 := 167) (L1 := [some (.ref (k0 + 1)), some (.ref (w1 + 1)), some (.int w2), some (.int w3), some (.int w4), some (.int w5), some (.int x6), some (.int w7), some (.int x8)]) (st1 := [.int x8, .int 30, .ref (k0 + 1)]) (fun _ _ => rfl) ?_
  rcases gif h with ⟨c36, h⟩ | ⟨c36, h⟩
  · refine gR_iz_eq_j rfl c36 rfl ?_
    exact wX3_setWords_u179 hk0 h
  · refine gR_iz_eq_f rfl c36 ?_
    refine gR_go 1 (pc1 := 172) (L1 := [some (.ref (k0 + 1)), some (.ref (w1 + 1)), some (.int w2), some (.int w3), some (.int w4), some (.int w5), some (.int x6), some (.int w7), some (.int x8)]) (st1 := [.int x6, .int 30, .ref (k0 + 1)]) (fun _ _ => rfl) ?_
    rcases gif h with ⟨c40, h⟩ | ⟨c40, h⟩
    · refine gR_iz_ne_f rfl c40 ?_
      refine gR_go 2 (pc1 := 180) (L1 := [some (.ref (k0 + 1)), some (.ref (w1 + 1)), some (.int w2), some (.int w3), some (.int w4), some (.int w5), some (.int x6), some (.int w7), some (.int x8)]) (st1 := [.int 1, .int 30, .ref (k0 + 1)]) (fun _ _ => rfl) ?_
      exact wX3_setWords_u180 hk0 h
    · refine gR_iz_ne_j rfl c40 rfl ?_
      exact wX3_setWords_u179 hk0 h
noncomputable def wX3_setWords_j142 (k0 : Nat) (x5 : Int32) (x6 : Int32) (x8 : Int32) (k100 : Nat) (y1 : Int32) (y2 : Int32) (s : wS) : Option (wS) := (wX3_setWord k100 y1 y2 s).bind fun s30 => if x8 = 0 then (wX3_setWords_j159 k0 x6 x8 k0 29 0 s30) else (wX3_setWords_j159 k0 x6 x8 k0 29 x5 s30)
theorem wX3_setWords_u142 {k0 : Nat} {x5 : Int32} {x6 : Int32} {x8 : Int32} {k100 : Nat} {y1 : Int32} {y2 : Int32} {s : wS} {w1 : Nat} {w2 : Int32} {w3 : Int32} {w4 : Int32} {w7 : Int32} {rs : wS} (hk0 : wkd k0 = 3) (hk100 : wkd k100 = 3) (h : wX3_setWords_j142 k0 x5 x6 x8 k100 y1 y2 s = some rs) : gRun 2 41 142 [some (.ref (k0 + 1)), some (.ref (w1 + 1)), some (.int w2), some (.int w3), some (.int w4), some (.int x5), some (.int x6), some (.int w7), some (.int x8)] [.int y2, .int y1, .ref (k100 + 1)] (wmk s) (none, wmk rs, 0, 0) := by
  unfold wX3_setWords_j142 at h
  obtain ⟨s30, e31, h⟩ := gb h
  refine gR_cvV (wX3_setWord_s hk100 e31) (Nat.le_of_ble_eq_true rfl) rfl rfl hk100 rfl rfl ?_
  refine gR_go 3 (pc1 := 150) (L1 := [some (.ref (k0 + 1)), some (.ref (w1 + 1)), some (.int w2), some (.int w3), some (.int w4), some (.int x5), some (.int x6), some (.int w7), some (.int x8)]) (st1 := [.int x8, .int 29, .ref (k0 + 1)]) (fun _ _ => rfl) ?_
  rcases gif h with ⟨c32, h⟩ | ⟨c32, h⟩
  · refine gR_iz_eq_j rfl c32 rfl ?_
    refine gR_go 1 (pc1 := 159) (L1 := [some (.ref (k0 + 1)), some (.ref (w1 + 1)), some (.int w2), some (.int w3), some (.int w4), some (.int x5), some (.int x6), some (.int w7), some (.int x8)]) (st1 := [.int 0, .int 29, .ref (k0 + 1)]) (fun _ _ => rfl) ?_
    exact wX3_setWords_u159 hk0 hk0 h
  · refine gR_iz_eq_f rfl c32 ?_
    refine gR_go 2 (pc1 := 159) (L1 := [some (.ref (k0 + 1)), some (.ref (w1 + 1)), some (.int w2), some (.int w3), some (.int w4), some (.int x5), some (.int x6), some (.int w7), some (.int x8)]) (st1 := [.int x5, .int 29, .ref (k0 + 1)]) (fun _ _ => rfl) ?_
    exact wX3_setWords_u159 hk0 hk0 h
noncomputable def wX3_setWords_j121 (k0 : Nat) (k1 : Nat) (x2 : Int32) (x3 : Int32) (x5 : Int32) (x6 : Int32) (x8 : Int32) (k100 : Nat) (y1 : Int32) (y2 : Int32) (s : wS) : Option (wS) := (wX3_setWord k100 y1 y2 s).bind fun s26 => if x8 = 0 then (wX3_setWords_j142 k0 x5 x6 x8 k0 28 0 s26) else ((wX0_firstOf k1 x2 x3 s26).bind fun t41 => wX3_setWords_j142 k0 x5 x6 x8 k0 28 t41 s26)
theorem wX3_setWords_u121 {k0 : Nat} {k1 : Nat} {x2 : Int32} {x3 : Int32} {x5 : Int32} {x6 : Int32} {x8 : Int32} {k100 : Nat} {y1 : Int32} {y2 : Int32} {s : wS} {w4 : Int32} {w7 : Int32} {rs : wS} (hk0 : wkd k0 = 3) (hk1 : wkd k1 = 0) (hk100 : wkd k100 = 3) (h : wX3_setWords_j121 k0 k1 x2 x3 x5 x6 x8 k100 y1 y2 s = some rs) : gRun 2 41 121 [some (.ref (k0 + 1)), some (.ref (k1 + 1)), some (.int x2), some (.int x3), some (.int w4), some (.int x5), some (.int x6), some (.int w7), some (.int x8)] [.int y2, .int y1, .ref (k100 + 1)] (wmk s) (none, wmk rs, 0, 0) := by
  unfold wX3_setWords_j121 at h
  obtain ⟨s26, e27, h⟩ := gb h
  refine gR_cvV (wX3_setWord_s hk100 e27) (Nat.le_of_ble_eq_true rfl) rfl rfl hk100 rfl rfl ?_
  refine gR_go 3 (pc1 := 129) (L1 := [some (.ref (k0 + 1)), some (.ref (k1 + 1)), some (.int x2), some (.int x3), some (.int w4), some (.int x5), some (.int x6), some (.int w7), some (.int x8)]) (st1 := [.int x8, .int 28, .ref (k0 + 1)]) (fun _ _ => rfl) ?_
  rcases gif h with ⟨c28, h⟩ | ⟨c28, h⟩
  · refine gR_iz_eq_j rfl c28 rfl ?_
    refine gR_go 1 (pc1 := 142) (L1 := [some (.ref (k0 + 1)), some (.ref (k1 + 1)), some (.int x2), some (.int x3), some (.int w4), some (.int x5), some (.int x6), some (.int w7), some (.int x8)]) (st1 := [.int 0, .int 28, .ref (k0 + 1)]) (fun _ _ => rfl) ?_
    exact wX3_setWords_u142 hk0 hk0 h
  · refine gR_iz_eq_f rfl c28 ?_
    refine gR_go 3 (pc1 := 135) (L1 := [some (.ref (k0 + 1)), some (.ref (k1 + 1)), some (.int x2), some (.int x3), some (.int w4), some (.int x5), some (.int x6), some (.int w7), some (.int x8)]) (st1 := [.int x3, .int x2, .ref (k1 + 1), .int 28, .ref (k0 + 1)]) (fun _ _ => rfl) ?_
    obtain ⟨t41, e42, h⟩ := gb h
    refine gR_cvI (wX0_firstOf_s hk1 e42) (Nat.le_of_ble_eq_true rfl) rfl rfl hk1 rfl rfl ?_
    refine gR_go 1 (pc1 := 142) (L1 := [some (.ref (k0 + 1)), some (.ref (k1 + 1)), some (.int x2), some (.int x3), some (.int w4), some (.int x5), some (.int x6), some (.int w7), some (.int x8)]) (st1 := [.int t41, .int 28, .ref (k0 + 1)]) (fun _ _ => rfl) ?_
    exact wX3_setWords_u142 hk0 hk0 h
noncomputable def wX3_setWords_j104 (k0 : Nat) (k1 : Nat) (x2 : Int32) (x3 : Int32) (x5 : Int32) (x6 : Int32) (x7 : Int32) (x8 : Int32) (k100 : Nat) (y1 : Int32) (y2 : Int32) (s : wS) : Option (wS) := (wX3_setWord k100 y1 y2 s).bind fun s22 => if x7 = 0 then (wX3_setWords_j121 k0 k1 x2 x3 x5 x6 x8 k0 27 0 s22) else (wX3_setWords_j121 k0 k1 x2 x3 x5 x6 x8 k0 27 x6 s22)
theorem wX3_setWords_u104 {k0 : Nat} {k1 : Nat} {x2 : Int32} {x3 : Int32} {x5 : Int32} {x6 : Int32} {x7 : Int32} {x8 : Int32} {k100 : Nat} {y1 : Int32} {y2 : Int32} {s : wS} {w4 : Int32} {rs : wS} (hk0 : wkd k0 = 3) (hk1 : wkd k1 = 0) (hk100 : wkd k100 = 3) (h : wX3_setWords_j104 k0 k1 x2 x3 x5 x6 x7 x8 k100 y1 y2 s = some rs) : gRun 2 41 104 [some (.ref (k0 + 1)), some (.ref (k1 + 1)), some (.int x2), some (.int x3), some (.int w4), some (.int x5), some (.int x6), some (.int x7), some (.int x8)] [.int y2, .int y1, .ref (k100 + 1)] (wmk s) (none, wmk rs, 0, 0) := by
  unfold wX3_setWords_j104 at h
  obtain ⟨s22, e23, h⟩ := gb h
  refine gR_cvV (wX3_setWord_s hk100 e23) (Nat.le_of_ble_eq_true rfl) rfl rfl hk100 rfl rfl ?_
  refine gR_go 3 (pc1 := 112) (L1 := [some (.ref (k0 + 1)), some (.ref (k1 + 1)), some (.int x2), some (.int x3), some (.int w4), some (.int x5), some (.int x6), some (.int x7), some (.int x8)]) (st1 := [.int x7, .int 27, .ref (k0 + 1)]) (fun _ _ => rfl) ?_
  rcases gif h with ⟨c24, h⟩ | ⟨c24, h⟩
  · refine gR_iz_eq_j rfl c24 rfl ?_
    refine gR_go 1 (pc1 := 121) (L1 := [some (.ref (k0 + 1)), some (.ref (k1 + 1)), some (.int x2), some (.int x3), some (.int w4), some (.int x5), some (.int x6), some (.int x7), some (.int x8)]) (st1 := [.int 0, .int 27, .ref (k0 + 1)]) (fun _ _ => rfl) ?_
    exact wX3_setWords_u121 hk0 hk1 hk0 h
  · refine gR_iz_eq_f rfl c24 ?_
    refine gR_go 2 (pc1 := 121) (L1 := [some (.ref (k0 + 1)), some (.ref (k1 + 1)), some (.int x2), some (.int x3), some (.int w4), some (.int x5), some (.int x6), some (.int x7), some (.int x8)]) (st1 := [.int x6, .int 27, .ref (k0 + 1)]) (fun _ _ => rfl) ?_
    exact wX3_setWords_u121 hk0 hk1 hk0 h
noncomputable def wX3_setWords_j60 (k0 : Nat) (k1 : Nat) (x2 : Int32) (x3 : Int32) (x4 : Int32) (x5 : Int32) (x6 : Int32) (x7 : Int32) (y0 : Int32) (s : wS) : Option (wS) := (wX3_setWord k0 23 x3 s).bind fun s12 => (wX3_setWord k0 24 x4 s12).bind fun s15 => (wX3_setWord k0 25 (wabs (x3 - x4)) s15).bind fun s18 => if x7 = 0 then (wX3_setWords_j104 k0 k1 x2 x3 x5 x6 x7 y0 k0 26 0 s18) else (wX3_setWords_j104 k0 k1 x2 x3 x5 x6 x7 y0 k0 26 x5 s18)
theorem wX3_setWords_u60 {k0 : Nat} {k1 : Nat} {x2 : Int32} {x3 : Int32} {x4 : Int32} {x5 : Int32} {x6 : Int32} {x7 : Int32} {y0 : Int32} {s : wS} {w8 : Option Value} {rs : wS} (hk0 : wkd k0 = 3) (hk1 : wkd k1 = 0) (h : wX3_setWords_j60 k0 k1 x2 x3 x4 x5 x6 x7 y0 s = some rs) : gRun 2 41 60 [some (.ref (k0 + 1)), some (.ref (k1 + 1)), some (.int x2), some (.int x3), some (.int x4), some (.int x5), some (.int x6), some (.int x7), w8] [.int y0] (wmk s) (none, wmk rs, 0, 0) := by
  unfold wX3_setWords_j60 at h
  refine gR_go 4 (pc1 := 66) (L1 := [some (.ref (k0 + 1)), some (.ref (k1 + 1)), some (.int x2), some (.int x3), some (.int x4), some (.int x5), some (.int x6), some (.int x7), some (.int y0)]) (st1 := [.int x3, .int 23, .ref (k0 + 1)]) (fun _ _ => rfl) ?_
  obtain ⟨s12, e13, h⟩ := gb h
  refine gR_cvV (wX3_setWord_s hk0 e13) (Nat.le_of_ble_eq_true rfl) rfl rfl hk0 rfl rfl ?_
  refine gR_go 3 (pc1 := 74) (L1 := [some (.ref (k0 + 1)), some (.ref (k1 + 1)), some (.int x2), some (.int x3), some (.int x4), some (.int x5), some (.int x6), some (.int x7), some (.int y0)]) (st1 := [.int x4, .int 24, .ref (k0 + 1)]) (fun _ _ => rfl) ?_
  obtain ⟨s15, e16, h⟩ := gb h
  refine gR_cvV (wX3_setWord_s hk0 e16) (Nat.le_of_ble_eq_true rfl) rfl rfl hk0 rfl rfl ?_
  refine gR_go 5 (pc1 := 84) (L1 := [some (.ref (k0 + 1)), some (.ref (k1 + 1)), some (.int x2), some (.int x3), some (.int x4), some (.int x5), some (.int x6), some (.int x7), some (.int y0)]) (st1 := [.int (x3 - x4), .int 25, .ref (k0 + 1)]) (fun _ _ => rfl) ?_
  refine gR_abs rfl rfl rfl ?_
  obtain ⟨s18, e19, h⟩ := gb h
  refine gR_cvV (wX3_setWord_s hk0 e19) (Nat.le_of_ble_eq_true rfl) rfl rfl hk0 rfl rfl ?_
  refine gR_go 3 (pc1 := 95) (L1 := [some (.ref (k0 + 1)), some (.ref (k1 + 1)), some (.int x2), some (.int x3), some (.int x4), some (.int x5), some (.int x6), some (.int x7), some (.int y0)]) (st1 := [.int x7, .int 26, .ref (k0 + 1)]) (fun _ _ => rfl) ?_
  rcases gif h with ⟨c20, h⟩ | ⟨c20, h⟩
  · refine gR_iz_eq_j rfl c20 rfl ?_
    refine gR_go 1 (pc1 := 104) (L1 := [some (.ref (k0 + 1)), some (.ref (k1 + 1)), some (.int x2), some (.int x3), some (.int x4), some (.int x5), some (.int x6), some (.int x7), some (.int y0)]) (st1 := [.int 0, .int 26, .ref (k0 + 1)]) (fun _ _ => rfl) ?_
    exact wX3_setWords_u104 hk0 hk1 hk0 h
  · refine gR_iz_eq_f rfl c20 ?_
    refine gR_go 2 (pc1 := 104) (L1 := [some (.ref (k0 + 1)), some (.ref (k1 + 1)), some (.int x2), some (.int x3), some (.int x4), some (.int x5), some (.int x6), some (.int x7), some (.int y0)]) (st1 := [.int x5, .int 26, .ref (k0 + 1)]) (fun _ _ => rfl) ?_
    exact wX3_setWords_u104 hk0 hk1 hk0 h
noncomputable def wX3_setWords_j48 (k0 : Nat) (k1 : Nat) (x2 : Int32) (x3 : Int32) (x4 : Int32) (x5 : Int32) (x6 : Int32) (y0 : Int32) (s : wS) : Option (wS) := if x2 = 2 then (wX3_setWords_j60 k0 k1 x2 x3 x4 x5 x6 y0 1 s) else (wX3_setWords_j60 k0 k1 x2 x3 x4 x5 x6 y0 0 s)
theorem wX3_setWords_u48 {k0 : Nat} {k1 : Nat} {x2 : Int32} {x3 : Int32} {x4 : Int32} {x5 : Int32} {x6 : Int32} {y0 : Int32} {s : wS} {w7 : Option Value} {w8 : Option Value} {rs : wS} (hk0 : wkd k0 = 3) (hk1 : wkd k1 = 0) (h : wX3_setWords_j48 k0 k1 x2 x3 x4 x5 x6 y0 s = some rs) : gRun 2 41 48 [some (.ref (k0 + 1)), some (.ref (k1 + 1)), some (.int x2), some (.int x3), some (.int x4), some (.int x5), some (.int x6), w7, w8] [.int y0] (wmk s) (none, wmk rs, 0, 0) := by
  unfold wX3_setWords_j48 at h
  refine gR_go 3 (pc1 := 52) (L1 := [some (.ref (k0 + 1)), some (.ref (k1 + 1)), some (.int x2), some (.int x3), some (.int x4), some (.int x5), some (.int x6), some (.int y0), w8]) (st1 := [.int 2, .int x2]) (fun _ _ => rfl) ?_
  rcases gif h with ⟨c10, h⟩ | ⟨c10, h⟩
  · refine gR_ic_ne_f rfl c10 ?_
    refine gR_go 2 (pc1 := 60) (L1 := [some (.ref (k0 + 1)), some (.ref (k1 + 1)), some (.int x2), some (.int x3), some (.int x4), some (.int x5), some (.int x6), some (.int y0), w8]) (st1 := [.int 1]) (fun _ _ => rfl) ?_
    exact wX3_setWords_u60 hk0 hk1 h
  · refine gR_ic_ne_j rfl c10 rfl ?_
    refine gR_go 1 (pc1 := 60) (L1 := [some (.ref (k0 + 1)), some (.ref (k1 + 1)), some (.int x2), some (.int x3), some (.int x4), some (.int x5), some (.int x6), some (.int y0), w8]) (st1 := [.int 0]) (fun _ _ => rfl) ?_
    exact wX3_setWords_u60 hk0 hk1 h
noncomputable def wX3_setWords (k0 : Nat) (k1 : Nat) (x2 : Int32) (x3 : Int32) (x4 : Int32) (s : wS) : Option (wS) := (wX0_firstOf k1 x2 x3 s).bind fun t1 => (wX0_firstOf k1 x2 x4 s).bind fun t3 => (wX0_secondOf k1 x2 x3 s).bind fun t5 => (wX0_secondOf k1 x2 x4 s).bind fun t7 => if x2 = 1 then (wX3_setWords_j48 k0 k1 x2 x3 x4 (wabs (t1 - t3)) (wabs (t5 - t7)) 1 s) else (wX3_setWords_j48 k0 k1 x2 x3 x4 (wabs (t1 - t3)) (wabs (t5 - t7)) 0 s)
theorem wX3_setWords_s {k0 : Nat} {k1 : Nat} {x2 : Int32} {x3 : Int32} {x4 : Int32} {s : wS} {rs : wS} (hk0 : wkd k0 = 3) (hk1 : wkd k1 = 0) (h : wX3_setWords k0 k1 x2 x3 x4 s = some rs) : gEv 3 41 [.ref (k0 + 1), .ref (k1 + 1), .int x2, .int x3, .int x4] (wmk s) (none, wmk rs, 0, 0) := by
  refine gEv_of (d := 2) (L := [some (.ref (k0 + 1)), some (.ref (k1 + 1)), some (.int x2), some (.int x3), some (.int x4), none, none, none, none]) rfl ?_
  unfold wX3_setWords at h
  refine gR_go 3 (pc1 := 3) (L1 := [some (.ref (k0 + 1)), some (.ref (k1 + 1)), some (.int x2), some (.int x3), some (.int x4), none, none, none, none]) (st1 := [.int x3, .int x2, .ref (k1 + 1)]) (fun _ _ => rfl) ?_
  obtain ⟨t1, e2, h⟩ := gb h
  refine gR_cvI (wX0_firstOf_s hk1 e2) (Nat.le_of_ble_eq_true rfl) rfl rfl hk1 rfl rfl ?_
  refine gR_go 3 (pc1 := 10) (L1 := [some (.ref (k0 + 1)), some (.ref (k1 + 1)), some (.int x2), some (.int x3), some (.int x4), none, none, none, none]) (st1 := [.int x4, .int x2, .ref (k1 + 1), .int t1]) (fun _ _ => rfl) ?_
  obtain ⟨t3, e4, h⟩ := gb h
  refine gR_cvI (wX0_firstOf_s hk1 e4) (Nat.le_of_ble_eq_true rfl) rfl rfl hk1 rfl rfl ?_
  refine gR_go 1 (pc1 := 14) (L1 := [some (.ref (k0 + 1)), some (.ref (k1 + 1)), some (.int x2), some (.int x3), some (.int x4), none, none, none, none]) (st1 := [.int (t1 - t3)]) (fun _ _ => rfl) ?_
  refine gR_abs rfl rfl rfl ?_
  refine gR_go 4 (pc1 := 22) (L1 := [some (.ref (k0 + 1)), some (.ref (k1 + 1)), some (.int x2), some (.int x3), some (.int x4), some (.int (wabs (t1 - t3))), none, none, none]) (st1 := [.int x3, .int x2, .ref (k1 + 1)]) (fun _ _ => rfl) ?_
  obtain ⟨t5, e6, h⟩ := gb h
  refine gR_cvI (wX0_secondOf_s hk1 e6) (Nat.le_of_ble_eq_true rfl) rfl rfl hk1 rfl rfl ?_
  refine gR_go 3 (pc1 := 29) (L1 := [some (.ref (k0 + 1)), some (.ref (k1 + 1)), some (.int x2), some (.int x3), some (.int x4), some (.int (wabs (t1 - t3))), none, none, none]) (st1 := [.int x4, .int x2, .ref (k1 + 1), .int t5]) (fun _ _ => rfl) ?_
  obtain ⟨t7, e8, h⟩ := gb h
  refine gR_cvI (wX0_secondOf_s hk1 e8) (Nat.le_of_ble_eq_true rfl) rfl rfl hk1 rfl rfl ?_
  refine gR_go 1 (pc1 := 33) (L1 := [some (.ref (k0 + 1)), some (.ref (k1 + 1)), some (.int x2), some (.int x3), some (.int x4), some (.int (wabs (t1 - t3))), none, none, none]) (st1 := [.int (t5 - t7)]) (fun _ _ => rfl) ?_
  refine gR_abs rfl rfl rfl ?_
  refine gR_go 3 (pc1 := 40) (L1 := [some (.ref (k0 + 1)), some (.ref (k1 + 1)), some (.int x2), some (.int x3), some (.int x4), some (.int (wabs (t1 - t3))), some (.int (wabs (t5 - t7))), none, none]) (st1 := [.int 1, .int x2]) (fun _ _ => rfl) ?_
  rcases gif h with ⟨c9, h⟩ | ⟨c9, h⟩
  · refine gR_ic_ne_f rfl c9 ?_
    refine gR_go 2 (pc1 := 48) (L1 := [some (.ref (k0 + 1)), some (.ref (k1 + 1)), some (.int x2), some (.int x3), some (.int x4), some (.int (wabs (t1 - t3))), some (.int (wabs (t5 - t7))), none, none]) (st1 := [.int 1]) (fun _ _ => rfl) ?_
    exact wX3_setWords_u48 hk0 hk1 h
  · refine gR_ic_ne_j rfl c9 rfl ?_
    refine gR_go 1 (pc1 := 48) (L1 := [some (.ref (k0 + 1)), some (.ref (k1 + 1)), some (.int x2), some (.int x3), some (.int x4), some (.int (wabs (t1 - t3))), some (.int (wabs (t5 - t7))), none, none]) (st1 := [.int 0]) (fun _ _ => rfl) ?_
    exact wX3_setWords_u48 hk0 hk1 h
noncomputable def wX3_wordOf (k0 : Nat) (x1 : Int32) (s : wS) : Option (Int64) := if (x1 - 23) < 0 then (some 0) else (if (x1 - 23) < 8 then ((wldL s (k0 + 6) 8 (x1 - 23)).bind fun t3 => some t3) else (some 0))
theorem wX3_wordOf_s {k0 : Nat} {x1 : Int32} {s : wS} {rv : Int64} (hk0 : wkd k0 = 3) (h : wX3_wordOf k0 x1 s = some rv) : gEv 1 43 [.ref (k0 + 1), .int x1] (wmk s) (some (.long rv), wmk s, 0, 0) := by
  refine gEv_of (d := 0) (L := [some (.ref (k0 + 1)), some (.int x1), none]) rfl ?_
  unfold wX3_wordOf at h
  refine gR_go 5 (pc1 := 6) (L1 := [some (.ref (k0 + 1)), some (.int x1), some (.int (x1 - 23))]) (st1 := [.int (x1 - 23)]) (fun _ _ => rfl) ?_
  rcases gif h with ⟨c1, h⟩ | ⟨c1, h⟩
  · refine gR_iz_lt_j rfl c1 rfl ?_
    refine gR_go 1 (pc1 := 28) (L1 := [some (.ref (k0 + 1)), some (.int x1), some (.int (x1 - 23))]) (st1 := [.long 0]) (fun _ _ => rfl) ?_
    obtain rfl := gi1 h
    exact gR_rl rfl rfl
  · refine gR_iz_lt_f rfl c1 ?_
    refine gR_go 2 (pc1 := 11) (L1 := [some (.ref (k0 + 1)), some (.int x1), some (.int (x1 - 23))]) (st1 := [.ref (k0 + 1), .int (x1 - 23)]) (fun _ _ => rfl) ?_
    refine gR_gfR (k := k0) (k' := (k0 + 6)) rfl hk0 rfl (wly_3_7 hk0).1 ?_
    refine gR_aln (k := (k0 + 6)) rfl (by rw [(wly_3_7 hk0).2.1]; decide) (wly_3_7 hk0).2.2 (w := 8) rfl ?_
    rcases gif h with ⟨c2, h⟩ | ⟨c2, h⟩
    · refine gR_ic_ge_f rfl c2 ?_
      refine gR_go 1 (pc1 := 19) (L1 := [some (.ref (k0 + 1)), some (.int x1), some (.int (x1 - 23))]) (st1 := [.ref (k0 + 1)]) (fun _ _ => rfl) ?_
      refine gR_gfR (k := k0) (k' := (k0 + 6)) rfl hk0 rfl (wly_3_7 hk0).1 ?_
      refine gR_go 1 (pc1 := 23) (L1 := [some (.ref (k0 + 1)), some (.int x1), some (.int (x1 - 23))]) (st1 := [.int (x1 - 23), .ref ((k0 + 6) + 1)]) (fun _ _ => rfl) ?_
      obtain ⟨t3, et3, h⟩ := gb h
      refine gR_lal (k := (k0 + 6)) rfl (wly_3_7 hk0).2.1 (wly_3_7 hk0).2.2 et3 ?_
      refine gR_go 1 (pc1 := 28) (L1 := [some (.ref (k0 + 1)), some (.int x1), some (.int (x1 - 23))]) (st1 := [.long t3]) (fun _ _ => rfl) ?_
      obtain rfl := gi1 h
      exact gR_rl rfl rfl
    · refine gR_ic_ge_j rfl c2 rfl ?_
      refine gR_go 1 (pc1 := 28) (L1 := [some (.ref (k0 + 1)), some (.int x1), some (.int (x1 - 23))]) (st1 := [.long 0]) (fun _ _ => rfl) ?_
      obtain rfl := gi1 h
      exact gR_rl rfl rfl
noncomputable def wX3_push (k0 : Nat) (x1 : Int64) (s : wS) : Option (wS) := if (s.1 k0 9) < 0 then (some s) else (if (s.1 k0 9) < 61 then ((wstL s (k0 + 7) 61 (s.1 k0 9) x1).bind fun s3 => (wpfI s3 k0 9 ((s3.1 k0 9) + 1)).bind fun s4 => some s4) else (some s))
theorem wX3_push_s {k0 : Nat} {x1 : Int64} {s : wS} {rs : wS} (hk0 : wkd k0 = 3) (h : wX3_push k0 x1 s = some rs) : gEv 1 46 [.ref (k0 + 1), .long x1] (wmk s) (none, wmk rs, 0, 0) := by
  refine gEv_of (d := 0) (L := [some (.ref (k0 + 1)), some (.long x1), none]) rfl ?_
  unfold wX3_push at h
  refine gR_go 1 (pc1 := 1) (L1 := [some (.ref (k0 + 1)), some (.long x1), none]) (st1 := [.ref (k0 + 1)]) (fun _ _ => rfl) ?_
  refine gR_gfI (k := k0) rfl hk0 rfl ?_
  rcases gif h with ⟨c1, h⟩ | ⟨c1, h⟩
  · refine gR_iz_lt_j rfl c1 rfl ?_
    obtain rfl := gi1 h
    exact gR_rv rfl rfl
  · refine gR_iz_lt_f rfl c1 ?_
    refine gR_go 1 (pc1 := 8) (L1 := [some (.ref (k0 + 1)), some (.long x1), none]) (st1 := [.ref (k0 + 1)]) (fun _ _ => rfl) ?_
    refine gR_gfI (k := k0) rfl hk0 rfl ?_
    refine gR_go 1 (pc1 := 12) (L1 := [some (.ref (k0 + 1)), some (.long x1), none]) (st1 := [.ref (k0 + 1), .int (s.1 k0 9)]) (fun _ _ => rfl) ?_
    refine gR_gfR (k := k0) (k' := (k0 + 7)) rfl hk0 rfl (wly_3_8 hk0).1 ?_
    refine gR_aln (k := (k0 + 7)) rfl (by rw [(wly_3_8 hk0).2.1]; decide) (wly_3_8 hk0).2.2 (w := 61) rfl ?_
    rcases gif h with ⟨c2, h⟩ | ⟨c2, h⟩
    · refine gR_ic_ge_f rfl c2 ?_
      refine gR_go 1 (pc1 := 20) (L1 := [some (.ref (k0 + 1)), some (.long x1), none]) (st1 := [.ref (k0 + 1)]) (fun _ _ => rfl) ?_
      refine gR_gfR (k := k0) (k' := (k0 + 7)) rfl hk0 rfl (wly_3_8 hk0).1 ?_
      refine gR_go 1 (pc1 := 24) (L1 := [some (.ref (k0 + 1)), some (.long x1), none]) (st1 := [.ref (k0 + 1), .ref ((k0 + 7) + 1)]) (fun _ _ => rfl) ?_
      refine gR_gfI (k := k0) rfl hk0 rfl ?_
      refine gR_go 1 (pc1 := 28) (L1 := [some (.ref (k0 + 1)), some (.long x1), none]) (st1 := [.long x1, .int (s.1 k0 9), .ref ((k0 + 7) + 1)]) (fun _ _ => rfl) ?_
      obtain ⟨s3, es3, h⟩ := gb h
      refine gR_las (k := (k0 + 7)) rfl (wly_3_8 hk0).2.1 (wly_3_8 hk0).2.2 es3 ?_
      refine gR_go 2 (pc1 := 31) (L1 := [some (.ref (k0 + 1)), some (.long x1), none]) (st1 := [.ref (k0 + 1), .ref (k0 + 1)]) (fun _ _ => rfl) ?_
      refine gR_gfI (k := k0) rfl hk0 rfl ?_
      refine gR_go 2 (pc1 := 36) (L1 := [some (.ref (k0 + 1)), some (.long x1), none]) (st1 := [.int ((s3.1 k0 9) + 1), .ref (k0 + 1)]) (fun _ _ => rfl) ?_
      obtain ⟨s4, es4, h⟩ := gb h
      refine gR_pfI (k := k0) rfl hk0 rfl rfl es4 ?_
      obtain rfl := gi1 h
      exact gR_rv rfl rfl
    · refine gR_ic_ge_j rfl c2 rfl ?_
      obtain rfl := gi1 h
      exact gR_rv rfl rfl
noncomputable def wX3_pop (k0 : Nat) (s : wS) : Option (Int64 × wS) := if (s.1 k0 9) < 1 then (some (0, s)) else (if 61 < (s.1 k0 9) then (some (0, s)) else ((wpfI s k0 9 ((s.1 k0 9) - 1)).bind fun s3 => (wldL s3 (k0 + 7) 61 (s3.1 k0 9)).bind fun t4 => some (t4, s3)))
theorem wX3_pop_s {k0 : Nat} {s : wS} {rv : Int64} {rs : wS} (hk0 : wkd k0 = 3) (h : wX3_pop k0 s = some (rv, rs)) : gEv 1 47 [.ref (k0 + 1)] (wmk s) (some (.long rv), wmk rs, 0, 0) := by
  refine gEv_of (d := 0) (L := [some (.ref (k0 + 1))]) rfl ?_
  unfold wX3_pop at h
  refine gR_go 1 (pc1 := 1) (L1 := [some (.ref (k0 + 1))]) (st1 := [.ref (k0 + 1)]) (fun _ _ => rfl) ?_
  refine gR_gfI (k := k0) rfl hk0 rfl ?_
  refine gR_go 1 (pc1 := 5) (L1 := [some (.ref (k0 + 1))]) (st1 := [.int 1, .int (s.1 k0 9)]) (fun _ _ => rfl) ?_
  rcases gif h with ⟨c1, h⟩ | ⟨c1, h⟩
  · refine gR_ic_lt_j rfl c1 rfl ?_
    refine gR_go 1 (pc1 := 21) (L1 := [some (.ref (k0 + 1))]) (st1 := [.long 0]) (fun _ _ => rfl) ?_
    obtain ⟨rfl, rfl⟩ := gi2 h
    exact gR_rl rfl rfl
  · refine gR_ic_lt_f rfl c1 ?_
    refine gR_go 1 (pc1 := 9) (L1 := [some (.ref (k0 + 1))]) (st1 := [.ref (k0 + 1)]) (fun _ _ => rfl) ?_
    refine gR_gfI (k := k0) rfl hk0 rfl ?_
    refine gR_go 1 (pc1 := 13) (L1 := [some (.ref (k0 + 1))]) (st1 := [.ref (k0 + 1), .int (s.1 k0 9)]) (fun _ _ => rfl) ?_
    refine gR_gfR (k := k0) (k' := (k0 + 7)) rfl hk0 rfl (wly_3_8 hk0).1 ?_
    refine gR_aln (k := (k0 + 7)) rfl (by rw [(wly_3_8 hk0).2.1]; decide) (wly_3_8 hk0).2.2 (w := 61) rfl ?_
    rcases gif h with ⟨c2, h⟩ | ⟨c2, h⟩
    · refine gR_ic_le_f rfl c2 ?_
      refine gR_go 1 (pc1 := 21) (L1 := [some (.ref (k0 + 1))]) (st1 := [.long 0]) (fun _ _ => rfl) ?_
      obtain ⟨rfl, rfl⟩ := gi2 h
      exact gR_rl rfl rfl
    · refine gR_ic_le_j rfl c2 rfl ?_
      refine gR_go 2 (pc1 := 24) (L1 := [some (.ref (k0 + 1))]) (st1 := [.ref (k0 + 1), .ref (k0 + 1)]) (fun _ _ => rfl) ?_
      refine gR_gfI (k := k0) rfl hk0 rfl ?_
      refine gR_go 2 (pc1 := 29) (L1 := [some (.ref (k0 + 1))]) (st1 := [.int ((s.1 k0 9) - 1), .ref (k0 + 1)]) (fun _ _ => rfl) ?_
      obtain ⟨s3, es3, h⟩ := gb h
      refine gR_pfI (k := k0) rfl hk0 rfl rfl es3 ?_
      refine gR_go 1 (pc1 := 33) (L1 := [some (.ref (k0 + 1))]) (st1 := [.ref (k0 + 1)]) (fun _ _ => rfl) ?_
      refine gR_gfR (k := k0) (k' := (k0 + 7)) rfl hk0 rfl (wly_3_8 hk0).1 ?_
      refine gR_go 1 (pc1 := 37) (L1 := [some (.ref (k0 + 1))]) (st1 := [.ref (k0 + 1), .ref ((k0 + 7) + 1)]) (fun _ _ => rfl) ?_
      refine gR_gfI (k := k0) rfl hk0 rfl ?_
      obtain ⟨t4, et4, h⟩ := gb h
      refine gR_lal (k := (k0 + 7)) rfl (wly_3_8 hk0).2.1 (wly_3_8 hk0).2.2 et4 ?_
      obtain ⟨rfl, rfl⟩ := gi2 h
      exact gR_rl rfl rfl
noncomputable def wX3_joined_j170 (x1 : Int64) (x3 : Int64) (s : wS) : Option (Int64) := some (x1 ||| x3)
theorem wX3_joined_u170 {x1 : Int64} {x3 : Int64} {s : wS} {w0 : Int32} {rv : Int64} (h : wX3_joined_j170 x1 x3 s = some rv) : gRun 0 48 170 [some (.int w0), some (.long x1), none, some (.long x3), none] [] (wmk s) (some (.long rv), wmk s, 0, 0) := by
  unfold wX3_joined_j170 at h
  refine gR_go 3 (pc1 := 173) (L1 := [some (.int w0), some (.long x1), none, some (.long x3), none]) (st1 := [.long (x1 ||| x3)]) (fun _ _ => rfl) ?_
  obtain rfl := gi1 h
  exact gR_rl rfl rfl
noncomputable def wX3_joined (x0 : Int32) (x1 : Int64) (x3 : Int64) (s : wS) : Option (Int64) := if x0 = 6 then (some (x1 + x3)) else if x0 = 7 then (some (x1 - x3)) else if x0 = 8 then (some (x1 * x3)) else if x0 = 9 then (if x3 = 0 then (some 0) else ((wdvL x1 x3).bind fun t6 => some t6)) else if x0 = 10 then (if x1 < x3 then (some 1) else (some 0)) else if x0 = 11 then (if x3 < x1 then (some 0) else (some 1)) else if x0 = 12 then (if x1 = x3 then (some 1) else (some 0)) else if x0 = 13 then (if x1 < x3 then (some 0) else (some 1)) else if x0 = 14 then (if x3 < x1 then (some 1) else (some 0)) else if x0 = 21 then (some (x1 &&& x3)) else (wX3_joined_j170 x1 x3 s)
theorem wX3_joined_s {x0 : Int32} {x1 : Int64} {x3 : Int64} {s : wS} {rv : Int64} (h : wX3_joined x0 x1 x3 s = some rv) : gEv 1 48 [.int x0, .long x1, .long x3] (wmk s) (some (.long rv), wmk s, 0, 0) := by
  refine gEv_of (d := 0) (L := [some (.int x0), some (.long x1), none, some (.long x3), none]) rfl ?_
  unfold wX3_joined at h
  refine gR_go 1 (pc1 := 1) (L1 := [some (.int x0), some (.long x1), none, some (.long x3), none]) (st1 := [.int x0]) (fun _ _ => rfl) ?_
  rcases gif h with ⟨c1, h⟩ | ⟨c1, h⟩
  · refine gR_sw_k rfl c1 rfl rfl ?_
    refine gR_go 3 (pc1 := 83) (L1 := [some (.int x0), some (.long x1), none, some (.long x3), none]) (st1 := [.long (x1 + x3)]) (fun _ _ => rfl) ?_
    obtain rfl := gi1 h
    exact gR_rl rfl rfl
  · rcases gif h with ⟨c2, h⟩ | ⟨c2, h⟩
    · refine gR_sw_k rfl c2 rfl rfl ?_
      refine gR_go 3 (pc1 := 87) (L1 := [some (.int x0), some (.long x1), none, some (.long x3), none]) (st1 := [.long (x1 - x3)]) (fun _ _ => rfl) ?_
      obtain rfl := gi1 h
      exact gR_rl rfl rfl
    · rcases gif h with ⟨c3, h⟩ | ⟨c3, h⟩
      · refine gR_sw_k rfl c3 rfl rfl ?_
        refine gR_go 3 (pc1 := 91) (L1 := [some (.int x0), some (.long x1), none, some (.long x3), none]) (st1 := [.long (x1 * x3)]) (fun _ _ => rfl) ?_
        obtain rfl := gi1 h
        exact gR_rl rfl rfl
      · rcases gif h with ⟨c4, h⟩ | ⟨c4, h⟩
        · refine gR_sw_k rfl c4 rfl rfl ?_
          refine gR_go 3 (pc1 := 95) (L1 := [some (.int x0), some (.long x1), none, some (.long x3), none]) (st1 := [.int (lg_cmp x3 0)]) (fun _ _ => rfl) ?_
          rcases gif h with ⟨c5, h⟩ | ⟨c5, h⟩
          · refine gR_lc_ne_f rfl c5 ?_
            refine gR_go 2 (pc1 := 105) (L1 := [some (.int x0), some (.long x1), none, some (.long x3), none]) (st1 := [.long 0]) (fun _ _ => rfl) ?_
            obtain rfl := gi1 h
            exact gR_rl rfl rfl
          · refine gR_lc_ne_j rfl c5 rfl ?_
            refine gR_go 2 (pc1 := 104) (L1 := [some (.int x0), some (.long x1), none, some (.long x3), none]) (st1 := [.long x3, .long x1]) (fun _ _ => rfl) ?_
            obtain ⟨t6, et6, h⟩ := gb h
            refine gR_dvL rfl et6 ?_
            obtain rfl := gi1 h
            exact gR_rl rfl rfl
        · rcases gif h with ⟨c7, h⟩ | ⟨c7, h⟩
          · refine gR_sw_k rfl c7 rfl rfl ?_
            refine gR_go 3 (pc1 := 109) (L1 := [some (.int x0), some (.long x1), none, some (.long x3), none]) (st1 := [.int (lg_cmp x1 x3)]) (fun _ _ => rfl) ?_
            rcases gif h with ⟨c8, h⟩ | ⟨c8, h⟩
            · refine gR_lc_ge_f rfl c8 ?_
              refine gR_go 2 (pc1 := 117) (L1 := [some (.int x0), some (.long x1), none, some (.long x3), none]) (st1 := [.long 1]) (fun _ _ => rfl) ?_
              obtain rfl := gi1 h
              exact gR_rl rfl rfl
            · refine gR_lc_ge_j rfl c8 rfl ?_
              refine gR_go 1 (pc1 := 117) (L1 := [some (.int x0), some (.long x1), none, some (.long x3), none]) (st1 := [.long 0]) (fun _ _ => rfl) ?_
              obtain rfl := gi1 h
              exact gR_rl rfl rfl
          · rcases gif h with ⟨c9, h⟩ | ⟨c9, h⟩
            · refine gR_sw_k rfl c9 rfl rfl ?_
              refine gR_go 3 (pc1 := 121) (L1 := [some (.int x0), some (.long x1), none, some (.long x3), none]) (st1 := [.int (lg_cmp x1 x3)]) (fun _ _ => rfl) ?_
              rcases gif h with ⟨c10, h⟩ | ⟨c10, h⟩
              · refine gR_lc_gt_j rfl c10 rfl ?_
                refine gR_go 1 (pc1 := 129) (L1 := [some (.int x0), some (.long x1), none, some (.long x3), none]) (st1 := [.long 0]) (fun _ _ => rfl) ?_
                obtain rfl := gi1 h
                exact gR_rl rfl rfl
              · refine gR_lc_gt_f rfl c10 ?_
                refine gR_go 2 (pc1 := 129) (L1 := [some (.int x0), some (.long x1), none, some (.long x3), none]) (st1 := [.long 1]) (fun _ _ => rfl) ?_
                obtain rfl := gi1 h
                exact gR_rl rfl rfl
            · rcases gif h with ⟨c11, h⟩ | ⟨c11, h⟩
              · refine gR_sw_k rfl c11 rfl rfl ?_
                refine gR_go 3 (pc1 := 133) (L1 := [some (.int x0), some (.long x1), none, some (.long x3), none]) (st1 := [.int (lg_cmp x1 x3)]) (fun _ _ => rfl) ?_
                rcases gif h with ⟨c12, h⟩ | ⟨c12, h⟩
                · refine gR_lc_ne_f rfl c12 ?_
                  refine gR_go 2 (pc1 := 141) (L1 := [some (.int x0), some (.long x1), none, some (.long x3), none]) (st1 := [.long 1]) (fun _ _ => rfl) ?_
                  obtain rfl := gi1 h
                  exact gR_rl rfl rfl
                · refine gR_lc_ne_j rfl c12 rfl ?_
                  refine gR_go 1 (pc1 := 141) (L1 := [some (.int x0), some (.long x1), none, some (.long x3), none]) (st1 := [.long 0]) (fun _ _ => rfl) ?_
                  obtain rfl := gi1 h
                  exact gR_rl rfl rfl
              · rcases gif h with ⟨c13, h⟩ | ⟨c13, h⟩
                · refine gR_sw_k rfl c13 rfl rfl ?_
                  refine gR_go 3 (pc1 := 145) (L1 := [some (.int x0), some (.long x1), none, some (.long x3), none]) (st1 := [.int (lg_cmp x1 x3)]) (fun _ _ => rfl) ?_
                  rcases gif h with ⟨c14, h⟩ | ⟨c14, h⟩
                  · refine gR_lc_lt_j rfl c14 rfl ?_
                    refine gR_go 1 (pc1 := 153) (L1 := [some (.int x0), some (.long x1), none, some (.long x3), none]) (st1 := [.long 0]) (fun _ _ => rfl) ?_
                    obtain rfl := gi1 h
                    exact gR_rl rfl rfl
                  · refine gR_lc_lt_f rfl c14 ?_
                    refine gR_go 2 (pc1 := 153) (L1 := [some (.int x0), some (.long x1), none, some (.long x3), none]) (st1 := [.long 1]) (fun _ _ => rfl) ?_
                    obtain rfl := gi1 h
                    exact gR_rl rfl rfl
                · rcases gif h with ⟨c15, h⟩ | ⟨c15, h⟩
                  · refine gR_sw_k rfl c15 rfl rfl ?_
                    refine gR_go 3 (pc1 := 157) (L1 := [some (.int x0), some (.long x1), none, some (.long x3), none]) (st1 := [.int (lg_cmp x1 x3)]) (fun _ _ => rfl) ?_
                    rcases gif h with ⟨c16, h⟩ | ⟨c16, h⟩
                    · refine gR_lc_le_f rfl c16 ?_
                      refine gR_go 2 (pc1 := 165) (L1 := [some (.int x0), some (.long x1), none, some (.long x3), none]) (st1 := [.long 1]) (fun _ _ => rfl) ?_
                      obtain rfl := gi1 h
                      exact gR_rl rfl rfl
                    · refine gR_lc_le_j rfl c16 rfl ?_
                      refine gR_go 1 (pc1 := 165) (L1 := [some (.int x0), some (.long x1), none, some (.long x3), none]) (st1 := [.long 0]) (fun _ _ => rfl) ?_
                      obtain rfl := gi1 h
                      exact gR_rl rfl rfl
                  · rcases gif h with ⟨c17, h⟩ | ⟨c17, h⟩
                    · refine gR_sw_k rfl c17 rfl rfl ?_
                      refine gR_go 3 (pc1 := 169) (L1 := [some (.int x0), some (.long x1), none, some (.long x3), none]) (st1 := [.long (x1 &&& x3)]) (fun _ _ => rfl) ?_
                      obtain rfl := gi1 h
                      exact gR_rl rfl rfl
                    · refine gR_sw_d [6, 7, 8, 9, 10, 11, 12, 13, 14, 21] rfl (gl1 c1 (gl1 c2 (gl1 c3 (gl1 c4 (gl1 c7 (gl1 c9 (gl1 c11 (gl1 c13 (gl1 c15 (gl1 c17 gl0)))))))))) (by decide) (by decide) rfl ?_
                      exact wX3_joined_u170 h
noncomputable def wX3_run_j103 (qq : Int32 → wS → Option (wS)) (k0 : Nat) (x2 : Int32) (x3 : Int32) (s : wS) : Option (wS) := qq (x3 + 1) s
theorem wX3_run_u103 {k0 : Nat} {x2 : Int32} {x3 : Int32} {s : wS} {w1 : Int32} {w4 : Int32} {w5 : Option Value} {w6 : Option Value} {qq : Int32 → wS → Option (wS)} {x : wS} {r : ri_R} (ih : ∀ {x3 : Int32} {s : wS} {w1 : Int32} {w4 : Option Value} {w5 : Option Value} {w6 : Option Value} , qq x3 s = some x → gRun 1 45 7 [some (.ref (k0 + 1)), some (.int w1), some (.int x2), some (.int x3), w4, w5, w6] [] (wmk s) r) (he109 : ∀ (s : wS) (w1 : Int32) (w2 : Int32) (w3 : Int32) (w4 : Option Value) (w5 : Option Value) (w6 : Option Value) , x = s → gRun 1 45 109 [some (.ref (k0 + 1)), some (.int w1), some (.int w2), some (.int w3), w4, w5, w6] [] (wmk s) r) (hk0 : wkd k0 = 3) (h : wX3_run_j103 qq k0 x2 x3 s = some x) : gRun 1 45 103 [some (.ref (k0 + 1)), some (.int w1), some (.int x2), some (.int x3), some (.int w4), w5, w6] [] (wmk s) r := by
  unfold wX3_run_j103 at h
  refine gR_go 2 (pc1 := 7) (L1 := [some (.ref (k0 + 1)), some (.int w1), some (.int x2), some (.int (x3 + 1)), some (.int w4), w5, w6]) (st1 := []) (fun _ _ => rfl) ?_
  exact ih h
noncomputable def wX3_run_h7 (k0 : Nat) (x2 : Int32) : Nat → Int32 → wS → Option (wS)
  | 0, _, _ => none
  | n + 1, x3, s => if x3 < x2 then ((wX10_at (k0 + 1) x3 s).bind fun t3 => if t3 < 100 then (if t3 < 23 then (if t3 = 22 then ((wX3_pop k0 s).bind fun (t8, s9) => (wX3_push k0 (1 - t8) s9).bind fun s12 => wX3_run_j103 (wX3_run_h7 k0 x2 n) k0 x2 x3 s12) else ((wX3_pop k0 s).bind fun (t14, s15) => (wX3_pop k0 s15).bind fun (t17, s18) => (wX3_joined t3 t17 t14 s18).bind fun t20 => (wX3_push k0 t20 s18).bind fun s23 => wX3_run_j103 (wX3_run_h7 k0 x2 n) k0 x2 x3 s23)) else ((wX3_wordOf k0 t3 s).bind fun t25 => (wX3_push k0 t25 s).bind fun s28 => wX3_run_j103 (wX3_run_h7 k0 x2 n) k0 x2 x3 s28)) else ((wX3_push k0 (((t3 - 100) : Int32).toInt64) s).bind fun s31 => wX3_run_j103 (wX3_run_h7 k0 x2 n) k0 x2 x3 s31)) else (some s)
theorem wX3_run_t7 {k0 : Nat} {x2 : Int32} {x : wS} {r : ri_R} (hk0 : wkd k0 = 3) (he109 : ∀ (s : wS) (w1 : Int32) (w2 : Int32) (w3 : Int32) (w4 : Option Value) (w5 : Option Value) (w6 : Option Value) , x = s → gRun 1 45 109 [some (.ref (k0 + 1)), some (.int w1), some (.int w2), some (.int w3), w4, w5, w6] [] (wmk s) r) : ∀ {n : Nat} {x3 : Int32} {s : wS} {w1 : Int32} {w4 : Option Value} {w5 : Option Value} {w6 : Option Value} , wX3_run_h7 k0 x2 n x3 s = some x → gRun 1 45 7 [some (.ref (k0 + 1)), some (.int w1), some (.int x2), some (.int x3), w4, w5, w6] [] (wmk s) r := by
  intro n
  induction n with
  | zero => intro x3 s w1 w4 w5 w6 h; cases (show (none : Option (wS)) = some x from h)
  | succ n ih =>
    intro x3 s w1 w4 w5 w6 h
    rw [wX3_run_h7] at h
    refine gR_go 2 (pc1 := 9) (L1 := [some (.ref (k0 + 1)), some (.int w1), some (.int x2), some (.int x3), w4, w5, w6]) (st1 := [.int x2, .int x3]) (fun _ _ => rfl) ?_
    rcases gif h with ⟨c2, h⟩ | ⟨c2, h⟩
    · refine gR_ic_ge_f rfl c2 ?_
      refine gR_go 1 (pc1 := 13) (L1 := [some (.ref (k0 + 1)), some (.int w1), some (.int x2), some (.int x3), w4, w5, w6]) (st1 := [.ref (k0 + 1)]) (fun _ _ => rfl) ?_
      refine gR_gfR (k := k0) (k' := (k0 + 1)) rfl hk0 rfl (wly_3_0 hk0).1 ?_
      refine gR_go 1 (pc1 := 17) (L1 := [some (.ref (k0 + 1)), some (.int w1), some (.int x2), some (.int x3), w4, w5, w6]) (st1 := [.int x3, .ref ((k0 + 1) + 1)]) (fun _ _ => rfl) ?_
      obtain ⟨t3, e4, h⟩ := gb h
      refine gR_csI (wX10_at_s (wly_3_0 hk0).2.1 e4) (Nat.le_of_ble_eq_true rfl) rfl rfl rfl rfl ?_
      refine gR_go 3 (pc1 := 26) (L1 := [some (.ref (k0 + 1)), some (.int w1), some (.int x2), some (.int x3), some (.int t3), w5, w6]) (st1 := [.int 100, .int t3]) (fun _ _ => rfl) ?_
      rcases gif h with ⟨c5, h⟩ | ⟨c5, h⟩
      · refine gR_ic_lt_j rfl c5 rfl ?_
        refine gR_go 2 (pc1 := 46) (L1 := [some (.ref (k0 + 1)), some (.int w1), some (.int x2), some (.int x3), some (.int t3), w5, w6]) (st1 := [.int 23, .int t3]) (fun _ _ => rfl) ?_
        rcases gif h with ⟨c6, h⟩ | ⟨c6, h⟩
        · refine gR_ic_lt_j rfl c6 rfl ?_
          refine gR_go 2 (pc1 := 66) (L1 := [some (.ref (k0 + 1)), some (.int w1), some (.int x2), some (.int x3), some (.int t3), w5, w6]) (st1 := [.int 22, .int t3]) (fun _ _ => rfl) ?_
          rcases gif h with ⟨c7, h⟩ | ⟨c7, h⟩
          · refine gR_ic_ne_f rfl c7 ?_
            refine gR_go 3 (pc1 := 72) (L1 := [some (.ref (k0 + 1)), some (.int w1), some (.int x2), some (.int x3), some (.int t3), w5, w6]) (st1 := [.ref (k0 + 1), .long 1, .ref (k0 + 1)]) (fun _ _ => rfl) ?_
            obtain ⟨⟨t8, s9⟩, e10, h⟩ := gb h
            dsimp only at h
            refine gR_cvL (wX3_pop_s hk0 e10) (Nat.le_of_ble_eq_true rfl) rfl rfl hk0 rfl rfl ?_
            refine gR_go 1 (pc1 := 76) (L1 := [some (.ref (k0 + 1)), some (.int w1), some (.int x2), some (.int x3), some (.int t3), w5, w6]) (st1 := [.long (1 - t8), .ref (k0 + 1)]) (fun _ _ => rfl) ?_
            obtain ⟨s12, e13, h⟩ := gb h
            refine gR_cvV (wX3_push_s hk0 e13) (Nat.le_of_ble_eq_true rfl) rfl rfl hk0 rfl rfl ?_
            refine gR_go 1 (pc1 := 103) (L1 := [some (.ref (k0 + 1)), some (.int w1), some (.int x2), some (.int x3), some (.int t3), w5, w6]) (st1 := []) (fun _ _ => rfl) ?_
            exact wX3_run_u103 ih he109 hk0 h
          · refine gR_ic_ne_j rfl c7 rfl ?_
            refine gR_go 1 (pc1 := 83) (L1 := [some (.ref (k0 + 1)), some (.int w1), some (.int x2), some (.int x3), some (.int t3), w5, w6]) (st1 := [.ref (k0 + 1)]) (fun _ _ => rfl) ?_
            obtain ⟨⟨t14, s15⟩, e16, h⟩ := gb h
            dsimp only at h
            refine gR_cvL (wX3_pop_s hk0 e16) (Nat.le_of_ble_eq_true rfl) rfl rfl hk0 rfl rfl ?_
            refine gR_go 4 (pc1 := 92) (L1 := [some (.ref (k0 + 1)), some (.int w1), some (.int x2), some (.int x3), some (.int t3), some (.long t14), none]) (st1 := [.ref (k0 + 1), .int t3, .ref (k0 + 1)]) (fun _ _ => rfl) ?_
            obtain ⟨⟨t17, s18⟩, e19, h⟩ := gb h
            dsimp only at h
            refine gR_cvL (wX3_pop_s hk0 e19) (Nat.le_of_ble_eq_true rfl) rfl rfl hk0 rfl rfl ?_
            refine gR_go 1 (pc1 := 97) (L1 := [some (.ref (k0 + 1)), some (.int w1), some (.int x2), some (.int x3), some (.int t3), some (.long t14), none]) (st1 := [.long t14, .long t17, .int t3, .ref (k0 + 1)]) (fun _ _ => rfl) ?_
            obtain ⟨t20, e21, h⟩ := gb h
            refine gR_csL (wX3_joined_s e21) (Nat.le_of_ble_eq_true rfl) rfl rfl rfl rfl ?_
            obtain ⟨s23, e24, h⟩ := gb h
            refine gR_cvV (wX3_push_s hk0 e24) (Nat.le_of_ble_eq_true rfl) rfl rfl hk0 rfl rfl ?_
            exact wX3_run_u103 ih he109 hk0 h
        · refine gR_ic_lt_f rfl c6 ?_
          refine gR_go 3 (pc1 := 53) (L1 := [some (.ref (k0 + 1)), some (.int w1), some (.int x2), some (.int x3), some (.int t3), w5, w6]) (st1 := [.int t3, .ref (k0 + 1), .ref (k0 + 1)]) (fun _ _ => rfl) ?_
          obtain ⟨t25, e26, h⟩ := gb h
          refine gR_cvL (wX3_wordOf_s hk0 e26) (Nat.le_of_ble_eq_true rfl) rfl rfl hk0 rfl rfl ?_
          obtain ⟨s28, e29, h⟩ := gb h
          refine gR_cvV (wX3_push_s hk0 e29) (Nat.le_of_ble_eq_true rfl) rfl rfl hk0 rfl rfl ?_
          refine gR_go 1 (pc1 := 103) (L1 := [some (.ref (k0 + 1)), some (.int w1), some (.int x2), some (.int x3), some (.int t3), w5, w6]) (st1 := []) (fun _ _ => rfl) ?_
          exact wX3_run_u103 ih he109 hk0 h
      · refine gR_ic_lt_f rfl c5 ?_
        refine gR_go 5 (pc1 := 36) (L1 := [some (.ref (k0 + 1)), some (.int w1), some (.int x2), some (.int x3), some (.int t3), w5, w6]) (st1 := [.long (((t3 - 100) : Int32).toInt64), .ref (k0 + 1)]) (fun _ _ => rfl) ?_
        obtain ⟨s31, e32, h⟩ := gb h
        refine gR_cvV (wX3_push_s hk0 e32) (Nat.le_of_ble_eq_true rfl) rfl rfl hk0 rfl rfl ?_
        refine gR_go 1 (pc1 := 103) (L1 := [some (.ref (k0 + 1)), some (.int w1), some (.int x2), some (.int x3), some (.int t3), w5, w6]) (st1 := []) (fun _ _ => rfl) ?_
        exact wX3_run_u103 ih he109 hk0 h
    · refine gR_ic_ge_j rfl c2 rfl ?_
      exact he109 _ _ _ _ _ _ _ (Option.some.inj h).symm
noncomputable def wX3_run (k0 : Nat) (x1 : Int32) (x2 : Int32) (s : wS) : Option (Int64 × wS) := (wpfI s k0 9 0).bind fun s1 => (wX3_run_h7 k0 x2 wFuel x1 s1).bind fun s34 => (wX3_pop k0 s34).bind fun (t41, s42) => some (t41, s42)
theorem wX3_run_s {k0 : Nat} {x1 : Int32} {x2 : Int32} {s : wS} {rv : Int64} {rs : wS} (hk0 : wkd k0 = 3) (h : wX3_run k0 x1 x2 s = some (rv, rs)) : gEv 2 45 [.ref (k0 + 1), .int x1, .int x2] (wmk s) (some (.long rv), wmk rs, 0, 0) := by
  refine gEv_of (d := 1) (L := [some (.ref (k0 + 1)), some (.int x1), some (.int x2), none, none, none, none]) rfl ?_
  unfold wX3_run at h
  refine gR_go 2 (pc1 := 2) (L1 := [some (.ref (k0 + 1)), some (.int x1), some (.int x2), none, none, none, none]) (st1 := [.int 0, .ref (k0 + 1)]) (fun _ _ => rfl) ?_
  obtain ⟨s1, es1, h⟩ := gb h
  refine gR_pfI (k := k0) rfl hk0 rfl rfl es1 ?_
  refine gR_go 2 (pc1 := 7) (L1 := [some (.ref (k0 + 1)), some (.int x1), some (.int x2), some (.int x1), none, none, none]) (st1 := []) (fun _ _ => rfl) ?_
  obtain ⟨z33, ez33, h⟩ := gb h
  refine wX3_run_t7 hk0 ?_  ez33
  · intro s34 w35 w36 w37 w38 w39 w40 hz
    replace hz := hz.symm
    subst hz
    refine gR_go 1 (pc1 := 110) (L1 := [some (.ref (k0 + 1)), some (.int w35), some (.int w36), some (.int w37), w38, w39, w40]) (st1 := [.ref (k0 + 1)]) (fun _ _ => rfl) ?_
    obtain ⟨⟨t41, s42⟩, e43, h⟩ := gb h
    dsimp only at h
    refine gR_cvL (wX3_pop_s hk0 e43) (Nat.le_of_ble_eq_true rfl) rfl rfl hk0 rfl rfl ?_
    obtain ⟨rfl, rfl⟩ := gi2 h
    exact gR_rl rfl rfl
noncomputable def wX3_farByClauses_j89 (qq : Int32 → wS → Option ((wS) ⊕ (Int32 × wS))) (k0 : Nat) (x1 : Int32) (x2 : Int32) (s : wS) : Option ((wS) ⊕ (Int32 × wS)) := qq (x2 + 1) s
theorem wX3_farByClauses_u89 {k0 : Nat} {x1 : Int32} {x2 : Int32} {s : wS} {w3 : Int32} {qq : Int32 → wS → Option ((wS) ⊕ (Int32 × wS))} {x : (wS) ⊕ (Int32 × wS)} {r : ri_R} (ih : ∀ {x2 : Int32} {s : wS} {w3 : Option Value} , qq x2 s = some x → gRun 2 44 2 [some (.ref (k0 + 1)), some (.int x1), some (.int x2), w3] [] (wmk s) r) (he95 : ∀ (s : wS) (w1 : Int32) (w2 : Int32) (w3 : Option Value) , x = .inl s → gRun 2 44 95 [some (.ref (k0 + 1)), some (.int w1), some (.int w2), w3] [] (wmk s) r) (he72 : ∀ (x2 : Int32) (s : wS) (w1 : Int32) (w3 : Int32) , x = .inr (x2, s) → gRun 2 44 72 [some (.ref (k0 + 1)), some (.int w1), some (.int x2), some (.int w3)] [] (wmk s) r) (hk0 : wkd k0 = 3) (h : wX3_farByClauses_j89 qq k0 x1 x2 s = some x) : gRun 2 44 89 [some (.ref (k0 + 1)), some (.int x1), some (.int x2), some (.int w3)] [] (wmk s) r := by
  unfold wX3_farByClauses_j89 at h
  refine gR_go 2 (pc1 := 2) (L1 := [some (.ref (k0 + 1)), some (.int x1), some (.int (x2 + 1)), some (.int w3)]) (st1 := []) (fun _ _ => rfl) ?_
  exact ih h
noncomputable def wX3_farByClauses_j36 (qq : Int32 → wS → Option ((wS) ⊕ (Int32 × wS))) (k0 : Nat) (x1 : Int32) (x2 : Int32) (y0 : Int32) (s : wS) : Option ((wS) ⊕ (Int32 × wS)) := (wldI s (k0 + 2) 12 x2).bind fun t6 => if t6 = x1 then (if y0 = 0 then (some (.inr (x2, s))) else ((wldI s (k0 + 4) 12 x2).bind fun t9 => (wldI s (k0 + 5) 12 x2).bind fun t10 => (wX3_run k0 t9 t10 s).bind fun (t11, s12) => if t11 = 0 then (wX3_farByClauses_j89 qq k0 x1 x2 s12) else (some (.inr (x2, s12))))) else (wX3_farByClauses_j89 qq k0 x1 x2 s)
theorem wX3_farByClauses_u36 {k0 : Nat} {x1 : Int32} {x2 : Int32} {y0 : Int32} {s : wS} {w3 : Option Value} {qq : Int32 → wS → Option ((wS) ⊕ (Int32 × wS))} {x : (wS) ⊕ (Int32 × wS)} {r : ri_R} (ih : ∀ {x2 : Int32} {s : wS} {w3 : Option Value} , qq x2 s = some x → gRun 2 44 2 [some (.ref (k0 + 1)), some (.int x1), some (.int x2), w3] [] (wmk s) r) (he95 : ∀ (s : wS) (w1 : Int32) (w2 : Int32) (w3 : Option Value) , x = .inl s → gRun 2 44 95 [some (.ref (k0 + 1)), some (.int w1), some (.int w2), w3] [] (wmk s) r) (he72 : ∀ (x2 : Int32) (s : wS) (w1 : Int32) (w3 : Int32) , x = .inr (x2, s) → gRun 2 44 72 [some (.ref (k0 + 1)), some (.int w1), some (.int x2), some (.int w3)] [] (wmk s) r) (hk0 : wkd k0 = 3) (h : wX3_farByClauses_j36 qq k0 x1 x2 y0 s = some x) : gRun 2 44 36 [some (.ref (k0 + 1)), some (.int x1), some (.int x2), w3] [.int y0] (wmk s) r := by
  unfold wX3_farByClauses_j36 at h
  refine gR_go 2 (pc1 := 38) (L1 := [some (.ref (k0 + 1)), some (.int x1), some (.int x2), some (.int y0)]) (st1 := [.ref (k0 + 1)]) (fun _ _ => rfl) ?_
  refine gR_gfR (k := k0) (k' := (k0 + 2)) rfl hk0 rfl (wly_3_2 hk0).1 ?_
  refine gR_go 1 (pc1 := 42) (L1 := [some (.ref (k0 + 1)), some (.int x1), some (.int x2), some (.int y0)]) (st1 := [.int x2, .ref ((k0 + 2) + 1)]) (fun _ _ => rfl) ?_
  obtain ⟨t6, et6, h⟩ := gb h
  refine gR_ial (k := (k0 + 2)) rfl (wly_3_2 hk0).2.1 (wly_3_2 hk0).2.2 et6 ?_
  refine gR_go 1 (pc1 := 44) (L1 := [some (.ref (k0 + 1)), some (.int x1), some (.int x2), some (.int y0)]) (st1 := [.int x1, .int t6]) (fun _ _ => rfl) ?_
  rcases gif h with ⟨c7, h⟩ | ⟨c7, h⟩
  · refine gR_ic_ne_f rfl c7 ?_
    refine gR_go 1 (pc1 := 48) (L1 := [some (.ref (k0 + 1)), some (.int x1), some (.int x2), some (.int y0)]) (st1 := [.int y0]) (fun _ _ => rfl) ?_
    rcases gif h with ⟨c8, h⟩ | ⟨c8, h⟩
    · refine gR_iz_eq_j rfl c8 rfl ?_
      exact he72 _ _ _ _ (Option.some.inj h).symm
    · refine gR_iz_eq_f rfl c8 ?_
      refine gR_go 2 (pc1 := 53) (L1 := [some (.ref (k0 + 1)), some (.int x1), some (.int x2), some (.int y0)]) (st1 := [.ref (k0 + 1), .ref (k0 + 1)]) (fun _ _ => rfl) ?_
      refine gR_gfR (k := k0) (k' := (k0 + 4)) rfl hk0 rfl (wly_3_4 hk0).1 ?_
      refine gR_go 1 (pc1 := 57) (L1 := [some (.ref (k0 + 1)), some (.int x1), some (.int x2), some (.int y0)]) (st1 := [.int x2, .ref ((k0 + 4) + 1), .ref (k0 + 1)]) (fun _ _ => rfl) ?_
      obtain ⟨t9, et9, h⟩ := gb h
      refine gR_ial (k := (k0 + 4)) rfl (wly_3_4 hk0).2.1 (wly_3_4 hk0).2.2 et9 ?_
      refine gR_go 1 (pc1 := 59) (L1 := [some (.ref (k0 + 1)), some (.int x1), some (.int x2), some (.int y0)]) (st1 := [.ref (k0 + 1), .int t9, .ref (k0 + 1)]) (fun _ _ => rfl) ?_
      refine gR_gfR (k := k0) (k' := (k0 + 5)) rfl hk0 rfl (wly_3_5 hk0).1 ?_
      refine gR_go 1 (pc1 := 63) (L1 := [some (.ref (k0 + 1)), some (.int x1), some (.int x2), some (.int y0)]) (st1 := [.int x2, .ref ((k0 + 5) + 1), .int t9, .ref (k0 + 1)]) (fun _ _ => rfl) ?_
      obtain ⟨t10, et10, h⟩ := gb h
      refine gR_ial (k := (k0 + 5)) rfl (wly_3_5 hk0).2.1 (wly_3_5 hk0).2.2 et10 ?_
      obtain ⟨⟨t11, s12⟩, e13, h⟩ := gb h
      dsimp only at h
      refine gR_cvL (wX3_run_s hk0 e13) (Nat.le_of_ble_eq_true rfl) rfl rfl hk0 rfl rfl ?_
      refine gR_go 2 (pc1 := 69) (L1 := [some (.ref (k0 + 1)), some (.int x1), some (.int x2), some (.int y0)]) (st1 := [.int (lg_cmp t11 0)]) (fun _ _ => rfl) ?_
      rcases gif h with ⟨c14, h⟩ | ⟨c14, h⟩
      · refine gR_lc_eq_j rfl c14 rfl ?_
        exact wX3_farByClauses_u89 ih he95 he72 hk0 h
      · refine gR_lc_eq_f rfl c14 ?_
        exact he72 _ _ _ _ (Option.some.inj h).symm
  · refine gR_ic_ne_j rfl c7 rfl ?_
    exact wX3_farByClauses_u89 ih he95 he72 hk0 h
noncomputable def wX3_farByClauses_h2 (k0 : Nat) (x1 : Int32) : Nat → Int32 → wS → Option ((wS) ⊕ (Int32 × wS))
  | 0, _, _ => none
  | n + 1, x2, s => if x2 < (s.1 k0 6) then (if x2 < 12 then ((wldI s (k0 + 4) 12 x2).bind fun t3 => (wldI s (k0 + 5) 12 x2).bind fun t4 => if t3 < t4 then (wX3_farByClauses_j36 (wX3_farByClauses_h2 k0 x1 n) k0 x1 x2 1 s) else (wX3_farByClauses_j36 (wX3_farByClauses_h2 k0 x1 n) k0 x1 x2 0 s)) else (some (.inl s))) else (some (.inl s))
theorem wX3_farByClauses_t2 {k0 : Nat} {x1 : Int32} {x : (wS) ⊕ (Int32 × wS)} {r : ri_R} (hk0 : wkd k0 = 3) (he95 : ∀ (s : wS) (w1 : Int32) (w2 : Int32) (w3 : Option Value) , x = .inl s → gRun 2 44 95 [some (.ref (k0 + 1)), some (.int w1), some (.int w2), w3] [] (wmk s) r) (he72 : ∀ (x2 : Int32) (s : wS) (w1 : Int32) (w3 : Int32) , x = .inr (x2, s) → gRun 2 44 72 [some (.ref (k0 + 1)), some (.int w1), some (.int x2), some (.int w3)] [] (wmk s) r) : ∀ {n : Nat} {x2 : Int32} {s : wS} {w3 : Option Value} , wX3_farByClauses_h2 k0 x1 n x2 s = some x → gRun 2 44 2 [some (.ref (k0 + 1)), some (.int x1), some (.int x2), w3] [] (wmk s) r := by
  intro n
  induction n with
  | zero => intro x2 s w3 h; cases (show (none : Option ((wS) ⊕ (Int32 × wS))) = some x from h)
  | succ n ih =>
    intro x2 s w3 h
    rw [wX3_farByClauses_h2] at h
    refine gR_go 2 (pc1 := 4) (L1 := [some (.ref (k0 + 1)), some (.int x1), some (.int x2), w3]) (st1 := [.ref (k0 + 1), .int x2]) (fun _ _ => rfl) ?_
    refine gR_gfI (k := k0) rfl hk0 rfl ?_
    rcases gif h with ⟨c1, h⟩ | ⟨c1, h⟩
    · refine gR_ic_ge_f rfl c1 ?_
      refine gR_go 2 (pc1 := 13) (L1 := [some (.ref (k0 + 1)), some (.int x1), some (.int x2), w3]) (st1 := [.int 12, .int x2]) (fun _ _ => rfl) ?_
      rcases gif h with ⟨c2, h⟩ | ⟨c2, h⟩
      · refine gR_ic_ge_f rfl c2 ?_
        refine gR_go 1 (pc1 := 17) (L1 := [some (.ref (k0 + 1)), some (.int x1), some (.int x2), w3]) (st1 := [.ref (k0 + 1)]) (fun _ _ => rfl) ?_
        refine gR_gfR (k := k0) (k' := (k0 + 4)) rfl hk0 rfl (wly_3_4 hk0).1 ?_
        refine gR_go 1 (pc1 := 21) (L1 := [some (.ref (k0 + 1)), some (.int x1), some (.int x2), w3]) (st1 := [.int x2, .ref ((k0 + 4) + 1)]) (fun _ _ => rfl) ?_
        obtain ⟨t3, et3, h⟩ := gb h
        refine gR_ial (k := (k0 + 4)) rfl (wly_3_4 hk0).2.1 (wly_3_4 hk0).2.2 et3 ?_
        refine gR_go 1 (pc1 := 23) (L1 := [some (.ref (k0 + 1)), some (.int x1), some (.int x2), w3]) (st1 := [.ref (k0 + 1), .int t3]) (fun _ _ => rfl) ?_
        refine gR_gfR (k := k0) (k' := (k0 + 5)) rfl hk0 rfl (wly_3_5 hk0).1 ?_
        refine gR_go 1 (pc1 := 27) (L1 := [some (.ref (k0 + 1)), some (.int x1), some (.int x2), w3]) (st1 := [.int x2, .ref ((k0 + 5) + 1), .int t3]) (fun _ _ => rfl) ?_
        obtain ⟨t4, et4, h⟩ := gb h
        refine gR_ial (k := (k0 + 5)) rfl (wly_3_5 hk0).2.1 (wly_3_5 hk0).2.2 et4 ?_
        rcases gif h with ⟨c5, h⟩ | ⟨c5, h⟩
        · refine gR_ic_ge_f rfl c5 ?_
          refine gR_go 2 (pc1 := 36) (L1 := [some (.ref (k0 + 1)), some (.int x1), some (.int x2), w3]) (st1 := [.int 1]) (fun _ _ => rfl) ?_
          exact wX3_farByClauses_u36 ih he95 he72 hk0 h
        · refine gR_ic_ge_j rfl c5 rfl ?_
          refine gR_go 1 (pc1 := 36) (L1 := [some (.ref (k0 + 1)), some (.int x1), some (.int x2), w3]) (st1 := [.int 0]) (fun _ _ => rfl) ?_
          exact wX3_farByClauses_u36 ih he95 he72 hk0 h
      · refine gR_ic_ge_j rfl c2 rfl ?_
        exact he95 _ _ _ _ (Option.some.inj h).symm
    · refine gR_ic_ge_j rfl c1 rfl ?_
      exact he95 _ _ _ _ (Option.some.inj h).symm
noncomputable def wX3_farByClauses_j95 (k0 : Nat) (s : wS) : Option (Int64 × wS) := (wX3_wordOf k0 25 s).bind fun t20 => some (t20, s)
theorem wX3_farByClauses_u95 {k0 : Nat} {s : wS} {w1 : Int32} {w2 : Int32} {w3 : Option Value} {rv : Int64} {rs : wS} (hk0 : wkd k0 = 3) (h : wX3_farByClauses_j95 k0 s = some (rv, rs)) : gRun 2 44 95 [some (.ref (k0 + 1)), some (.int w1), some (.int w2), w3] [] (wmk s) (some (.long rv), wmk rs, 0, 0) := by
  unfold wX3_farByClauses_j95 at h
  refine gR_go 2 (pc1 := 98) (L1 := [some (.ref (k0 + 1)), some (.int w1), some (.int w2), w3]) (st1 := [.int 25, .ref (k0 + 1)]) (fun _ _ => rfl) ?_
  obtain ⟨t20, e21, h⟩ := gb h
  refine gR_cvL (wX3_wordOf_s hk0 e21) (Nat.le_of_ble_eq_true rfl) rfl rfl hk0 rfl rfl ?_
  obtain ⟨rfl, rfl⟩ := gi2 h
  exact gR_rl rfl rfl
noncomputable def wX3_farByClauses_j72 (k0 : Nat) (x2 : Int32) (s : wS) : Option (Int64 × wS) := (wldI s (k0 + 3) 12 x2).bind fun t26 => (wldI s (k0 + 4) 12 x2).bind fun t27 => (wX3_run k0 t26 t27 s).bind fun (t28, s29) => some (t28, s29)
theorem wX3_farByClauses_u72 {k0 : Nat} {x2 : Int32} {s : wS} {w1 : Int32} {w3 : Int32} {rv : Int64} {rs : wS} (hk0 : wkd k0 = 3) (h : wX3_farByClauses_j72 k0 x2 s = some (rv, rs)) : gRun 2 44 72 [some (.ref (k0 + 1)), some (.int w1), some (.int x2), some (.int w3)] [] (wmk s) (some (.long rv), wmk rs, 0, 0) := by
  unfold wX3_farByClauses_j72 at h
  refine gR_go 2 (pc1 := 74) (L1 := [some (.ref (k0 + 1)), some (.int w1), some (.int x2), some (.int w3)]) (st1 := [.ref (k0 + 1), .ref (k0 + 1)]) (fun _ _ => rfl) ?_
  refine gR_gfR (k := k0) (k' := (k0 + 3)) rfl hk0 rfl (wly_3_3 hk0).1 ?_
  refine gR_go 1 (pc1 := 78) (L1 := [some (.ref (k0 + 1)), some (.int w1), some (.int x2), some (.int w3)]) (st1 := [.int x2, .ref ((k0 + 3) + 1), .ref (k0 + 1)]) (fun _ _ => rfl) ?_
  obtain ⟨t26, et26, h⟩ := gb h
  refine gR_ial (k := (k0 + 3)) rfl (wly_3_3 hk0).2.1 (wly_3_3 hk0).2.2 et26 ?_
  refine gR_go 1 (pc1 := 80) (L1 := [some (.ref (k0 + 1)), some (.int w1), some (.int x2), some (.int w3)]) (st1 := [.ref (k0 + 1), .int t26, .ref (k0 + 1)]) (fun _ _ => rfl) ?_
  refine gR_gfR (k := k0) (k' := (k0 + 4)) rfl hk0 rfl (wly_3_4 hk0).1 ?_
  refine gR_go 1 (pc1 := 84) (L1 := [some (.ref (k0 + 1)), some (.int w1), some (.int x2), some (.int w3)]) (st1 := [.int x2, .ref ((k0 + 4) + 1), .int t26, .ref (k0 + 1)]) (fun _ _ => rfl) ?_
  obtain ⟨t27, et27, h⟩ := gb h
  refine gR_ial (k := (k0 + 4)) rfl (wly_3_4 hk0).2.1 (wly_3_4 hk0).2.2 et27 ?_
  obtain ⟨⟨t28, s29⟩, e30, h⟩ := gb h
  dsimp only at h
  refine gR_cvL (wX3_run_s hk0 e30) (Nat.le_of_ble_eq_true rfl) rfl rfl hk0 rfl rfl ?_
  obtain ⟨rfl, rfl⟩ := gi2 h
  exact gR_rl rfl rfl
noncomputable def wX3_farByClauses (k0 : Nat) (x1 : Int32) (s : wS) : Option (Int64 × wS) := (wX3_farByClauses_h2 k0 x1 wFuel 0 s).bind fun z15 => (match z15 with | .inl s16 => wX3_farByClauses_j95 k0 s16 | .inr (t22, s23) => wX3_farByClauses_j72 k0 t22 s23)
theorem wX3_farByClauses_s {k0 : Nat} {x1 : Int32} {s : wS} {rv : Int64} {rs : wS} (hk0 : wkd k0 = 3) (h : wX3_farByClauses k0 x1 s = some (rv, rs)) : gEv 3 44 [.ref (k0 + 1), .int x1] (wmk s) (some (.long rv), wmk rs, 0, 0) := by
  refine gEv_of (d := 2) (L := [some (.ref (k0 + 1)), some (.int x1), none, none]) rfl ?_
  unfold wX3_farByClauses at h
  refine gR_go 2 (pc1 := 2) (L1 := [some (.ref (k0 + 1)), some (.int x1), some (.int 0), none]) (st1 := []) (fun _ _ => rfl) ?_
  obtain ⟨z15, ez15, h⟩ := gb h
  refine wX3_farByClauses_t2 hk0 ?_ ?_  ez15
  · intro s16 w17 w18 w19 hz
    replace hz := hz.symm
    subst hz
    dsimp only at h
    exact wX3_farByClauses_u95 hk0 h
  · intro t22 s23 w24 w25 hz
    replace hz := hz.symm
    subst hz
    dsimp only at h
    exact wX3_farByClauses_u72 hk0 h
noncomputable def wX3_measureFar_j67 (qq : Int32 → wS → Option (wS)) (k0 : Nat) (k1 : Nat) (x2 : Int32) (x3 : Int32) (x4 : Int32) (s : wS) : Option (wS) := qq (x4 + 1) s
theorem wX3_measureFar_u67 {k0 : Nat} {k1 : Nat} {x2 : Int32} {x3 : Int32} {x4 : Int32} {s : wS} {w5 : Int32} {qq : Int32 → wS → Option (wS)} {x : wS} {r : ri_R} (ih : ∀ {x4 : Int32} {s : wS} {w5 : Option Value} , qq x4 s = some x → gRun 3 39 14 [some (.ref (k0 + 1)), some (.ref (k1 + 1)), some (.int x2), some (.int x3), some (.int x4), w5] [] (wmk s) r) (he73 : ∀ (s : wS) (w4 : Int32) (w5 : Option Value) , x = s → gRun 3 39 73 [some (.ref (k0 + 1)), some (.ref (k1 + 1)), some (.int x2), some (.int x3), some (.int w4), w5] [] (wmk s) r) (hk0 : wkd k0 = 3) (hk1 : wkd k1 = 0) (h : wX3_measureFar_j67 qq k0 k1 x2 x3 x4 s = some x) : gRun 3 39 67 [some (.ref (k0 + 1)), some (.ref (k1 + 1)), some (.int x2), some (.int x3), some (.int x4), some (.int w5)] [] (wmk s) r := by
  unfold wX3_measureFar_j67 at h
  refine gR_go 2 (pc1 := 14) (L1 := [some (.ref (k0 + 1)), some (.ref (k1 + 1)), some (.int x2), some (.int x3), some (.int (x4 + 1)), some (.int w5)]) (st1 := []) (fun _ _ => rfl) ?_
  exact ih h
noncomputable def wX3_measureFar_h14 (k0 : Nat) (k1 : Nat) (x2 : Int32) (x3 : Int32) : Nat → Int32 → wS → Option (wS)
  | 0, _, _ => none
  | n + 1, x4, s => (wX0_manyOf k1 x2 s).bind fun t4 => if x4 < t4 then ((wX3_setWords k0 k1 x2 x3 x4 s).bind fun s8 => (wX3_cell x2 x3 x4 s8).bind fun t10 => (wX10_isOutside t10 192 s8).bind fun t12 => if t12 = 0 then ((wX3_farByClauses k0 x2 s8).bind fun (t15, s16) => (wstL s16 (k0 + 8) 192 t10 t15).bind fun s18 => wX3_measureFar_j67 (wX3_measureFar_h14 k0 k1 x2 x3 n) k0 k1 x2 x3 x4 s18) else (wX3_measureFar_j67 (wX3_measureFar_h14 k0 k1 x2 x3 n) k0 k1 x2 x3 x4 s8)) else (some s)
theorem wX3_measureFar_t14 {k0 : Nat} {k1 : Nat} {x2 : Int32} {x3 : Int32} {x : wS} {r : ri_R} (hk0 : wkd k0 = 3) (hk1 : wkd k1 = 0) (he73 : ∀ (s : wS) (w4 : Int32) (w5 : Option Value) , x = s → gRun 3 39 73 [some (.ref (k0 + 1)), some (.ref (k1 + 1)), some (.int x2), some (.int x3), some (.int w4), w5] [] (wmk s) r) : ∀ {n : Nat} {x4 : Int32} {s : wS} {w5 : Option Value} , wX3_measureFar_h14 k0 k1 x2 x3 n x4 s = some x → gRun 3 39 14 [some (.ref (k0 + 1)), some (.ref (k1 + 1)), some (.int x2), some (.int x3), some (.int x4), w5] [] (wmk s) r := by
  intro n
  induction n with
  | zero => intro x4 s w5 h; cases (show (none : Option (wS)) = some x from h)
  | succ n ih =>
    intro x4 s w5 h
    rw [wX3_measureFar_h14] at h
    refine gR_go 3 (pc1 := 18) (L1 := [some (.ref (k0 + 1)), some (.ref (k1 + 1)), some (.int x2), some (.int x3), some (.int x4), w5]) (st1 := [.int x2, .ref (k1 + 1), .int x4]) (fun _ _ => rfl) ?_
    obtain ⟨t4, e5, h⟩ := gb h
    refine gR_cvI (wX0_manyOf_s hk1 e5) (Nat.le_of_ble_eq_true rfl) rfl rfl hk1 rfl rfl ?_
    rcases gif h with ⟨c6, h⟩ | ⟨c6, h⟩
    · refine gR_ic_ge_f rfl c6 ?_
      refine gR_go 5 (pc1 := 30) (L1 := [some (.ref (k0 + 1)), some (.ref (k1 + 1)), some (.int x2), some (.int x3), some (.int x4), w5]) (st1 := [.int x4, .int x3, .int x2, .ref (k1 + 1), .ref (k0 + 1)]) (fun _ _ => rfl) ?_
      obtain ⟨s8, e9, h⟩ := gb h
      refine gR_cvV (wX3_setWords_s hk0 hk1 e9) (Nat.le_of_ble_eq_true rfl) rfl rfl hk0 rfl rfl ?_
      refine gR_go 3 (pc1 := 37) (L1 := [some (.ref (k0 + 1)), some (.ref (k1 + 1)), some (.int x2), some (.int x3), some (.int x4), w5]) (st1 := [.int x4, .int x3, .int x2]) (fun _ _ => rfl) ?_
      obtain ⟨t10, e11, h⟩ := gb h
      refine gR_csI (wX3_cell_s e11) (Nat.le_of_ble_eq_true rfl) rfl rfl rfl rfl ?_
      refine gR_go 3 (pc1 := 45) (L1 := [some (.ref (k0 + 1)), some (.ref (k1 + 1)), some (.int x2), some (.int x3), some (.int x4), some (.int t10)]) (st1 := [.ref (k0 + 1), .int t10]) (fun _ _ => rfl) ?_
      refine gR_gfR (k := k0) (k' := (k0 + 8)) rfl hk0 rfl (wly_3_10 hk0).1 ?_
      refine gR_aln (k := (k0 + 8)) rfl (by rw [(wly_3_10 hk0).2.1]; decide) (wly_3_10 hk0).2.2 (w := 192) rfl ?_
      obtain ⟨t12, e13, h⟩ := gb h
      refine gR_csI (wX10_isOutside_s e13) (Nat.le_of_ble_eq_true rfl) rfl rfl rfl rfl ?_
      rcases gif h with ⟨c14, h⟩ | ⟨c14, h⟩
      · refine gR_iz_ne_f rfl c14 ?_
        refine gR_go 1 (pc1 := 56) (L1 := [some (.ref (k0 + 1)), some (.ref (k1 + 1)), some (.int x2), some (.int x3), some (.int x4), some (.int t10)]) (st1 := [.ref (k0 + 1)]) (fun _ _ => rfl) ?_
        refine gR_gfR (k := k0) (k' := (k0 + 8)) rfl hk0 rfl (wly_3_10 hk0).1 ?_
        refine gR_go 3 (pc1 := 63) (L1 := [some (.ref (k0 + 1)), some (.ref (k1 + 1)), some (.int x2), some (.int x3), some (.int x4), some (.int t10)]) (st1 := [.int x2, .ref (k0 + 1), .int t10, .ref ((k0 + 8) + 1)]) (fun _ _ => rfl) ?_
        obtain ⟨⟨t15, s16⟩, e17, h⟩ := gb h
        dsimp only at h
        refine gR_cvL (wX3_farByClauses_s hk0 e17) (Nat.le_of_ble_eq_true rfl) rfl rfl hk0 rfl rfl ?_
        obtain ⟨s18, es18, h⟩ := gb h
        refine gR_las (k := (k0 + 8)) rfl (wly_3_10 hk0).2.1 (wly_3_10 hk0).2.2 es18 ?_
        exact wX3_measureFar_u67 ih he73 hk0 hk1 h
      · refine gR_iz_ne_j rfl c14 rfl ?_
        exact wX3_measureFar_u67 ih he73 hk0 hk1 h
    · refine gR_ic_ge_j rfl c6 rfl ?_
      exact he73 _ _ _ (Option.some.inj h).symm
noncomputable def wX3_measureFar_h2 (k0 : Nat) (k1 : Nat) (x2 : Int32) : Nat → Int32 → wS → Option (wS)
  | 0, _, _ => none
  | n + 1, x3, s => (wX0_manyOf k1 x2 s).bind fun t1 => if x3 < t1 then ((wX3_measureFar_h14 k0 k1 x2 x3 wFuel 0 s).bind fun s20 => wX3_measureFar_h2 k0 k1 x2 n (x3 + 1) s20) else (some s)
theorem wX3_measureFar_t2 {k0 : Nat} {k1 : Nat} {x2 : Int32} {x : wS} {r : ri_R} (hk0 : wkd k0 = 3) (hk1 : wkd k1 = 0) (he79 : ∀ (s : wS) (w0 : Nat) (w1 : Nat) (w2 : Int32) (w3 : Int32) (w4 : Option Value) (w5 : Option Value) , x = s → gRun 3 39 79 [some (.ref (w0 + 1)), some (.ref (w1 + 1)), some (.int w2), some (.int w3), w4, w5] [] (wmk s) r) : ∀ {n : Nat} {x3 : Int32} {s : wS} {w4 : Option Value} {w5 : Option Value} , wX3_measureFar_h2 k0 k1 x2 n x3 s = some x → gRun 3 39 2 [some (.ref (k0 + 1)), some (.ref (k1 + 1)), some (.int x2), some (.int x3), w4, w5] [] (wmk s) r := by
  intro n
  induction n with
  | zero => intro x3 s w4 w5 h; cases (show (none : Option (wS)) = some x from h)
  | succ n ih =>
    intro x3 s w4 w5 h
    rw [wX3_measureFar_h2] at h
    refine gR_go 3 (pc1 := 5) (L1 := [some (.ref (k0 + 1)), some (.ref (k1 + 1)), some (.int x2), some (.int x3), w4, w5]) (st1 := [.int x2, .ref (k1 + 1), .int x3]) (fun _ _ => rfl) ?_
    obtain ⟨t1, e2, h⟩ := gb h
    refine gR_cvI (wX0_manyOf_s hk1 e2) (Nat.le_of_ble_eq_true rfl) rfl rfl hk1 rfl rfl ?_
    rcases gif h with ⟨c3, h⟩ | ⟨c3, h⟩
    · refine gR_ic_ge_f rfl c3 ?_
      refine gR_go 2 (pc1 := 14) (L1 := [some (.ref (k0 + 1)), some (.ref (k1 + 1)), some (.int x2), some (.int x3), some (.int 0), w5]) (st1 := []) (fun _ _ => rfl) ?_
      obtain ⟨z19, ez19, h⟩ := gb h
      refine wX3_measureFar_t14 hk0 hk1 ?_  ez19
      · intro s20 w21 w22 hz
        replace hz := hz.symm
        subst hz
        refine gR_go 2 (pc1 := 2) (L1 := [some (.ref (k0 + 1)), some (.ref (k1 + 1)), some (.int x2), some (.int (x3 + 1)), some (.int w21), w22]) (st1 := []) (fun _ _ => rfl) ?_
        exact ih h
    · refine gR_ic_ge_j rfl c3 rfl ?_
      exact he79 _ _ _ _ _ _ _ (Option.some.inj h).symm
noncomputable def wX3_measureFar (k0 : Nat) (k1 : Nat) (x2 : Int32) (s : wS) : Option (wS) := (wX3_measureFar_h2 k0 k1 x2 wFuel 0 s).bind fun s24 => some s24
theorem wX3_measureFar_s {k0 : Nat} {k1 : Nat} {x2 : Int32} {s : wS} {rs : wS} (hk0 : wkd k0 = 3) (hk1 : wkd k1 = 0) (h : wX3_measureFar k0 k1 x2 s = some rs) : gEv 4 39 [.ref (k0 + 1), .ref (k1 + 1), .int x2] (wmk s) (none, wmk rs, 0, 0) := by
  refine gEv_of (d := 3) (L := [some (.ref (k0 + 1)), some (.ref (k1 + 1)), some (.int x2), none, none, none]) rfl ?_
  unfold wX3_measureFar at h
  refine gR_go 2 (pc1 := 2) (L1 := [some (.ref (k0 + 1)), some (.ref (k1 + 1)), some (.int x2), some (.int 0), none, none]) (st1 := []) (fun _ _ => rfl) ?_
  obtain ⟨z23, ez23, h⟩ := gb h
  refine wX3_measureFar_t2 hk0 hk1 ?_  ez23
  · intro s24 w25 w26 w27 w28 w29 w30 hz
    replace hz := hz.symm
    subst hz
    obtain rfl := gi1 h
    exact gR_rv rfl rfl
noncomputable def wX3_measureNear_j67 (qq : Int32 → Int32 → Option (Int32)) (k0 : Nat) (x2 : Int32) (x3 : Int32) (x4 : Int32) (x5 : Int32) (x6 : Int32) (x7 : Int32) (s : wS) : Option (Int32) := qq x6 (x7 + 1)
theorem wX3_measureNear_u67 {k0 : Nat} {x2 : Int32} {x3 : Int32} {x4 : Int32} {x5 : Int32} {x6 : Int32} {x7 : Int32} {s : wS} {w1 : Nat} {qq : Int32 → Int32 → Option (Int32)} {x : Int32} {r : ri_R} (ih : ∀ {x6 : Int32} {x7 : Int32} {w1 : Nat} , qq x6 x7 = some x → gRun 3 40 30 [some (.ref (k0 + 1)), some (.ref (w1 + 1)), some (.int x2), some (.int x3), some (.int x4), some (.int x5), some (.int x6), some (.int x7)] [] (wmk s) r) (he73 : ∀ (x6 : Int32) (w1 : Nat) (w7 : Int32) , x = x6 → gRun 3 40 73 [some (.ref (k0 + 1)), some (.ref (w1 + 1)), some (.int x2), some (.int x3), some (.int x4), some (.int x5), some (.int x6), some (.int w7)] [] (wmk s) r) (hk0 : wkd k0 = 3) (h : wX3_measureNear_j67 qq k0 x2 x3 x4 x5 x6 x7 s = some x) : gRun 3 40 67 [some (.ref (k0 + 1)), some (.ref (w1 + 1)), some (.int x2), some (.int x3), some (.int x4), some (.int x5), some (.int x6), some (.int x7)] [] (wmk s) r := by
  unfold wX3_measureNear_j67 at h
  refine gR_go 2 (pc1 := 30) (L1 := [some (.ref (k0 + 1)), some (.ref (w1 + 1)), some (.int x2), some (.int x3), some (.int x4), some (.int x5), some (.int x6), some (.int (x7 + 1))]) (st1 := []) (fun _ _ => rfl) ?_
  exact ih h
noncomputable def wX3_measureNear_h30 (k0 : Nat) (x2 : Int32) (x3 : Int32) (x4 : Int32) (x5 : Int32) (s : wS) : Nat → Int32 → Int32 → Option (Int32)
  | 0, _, _ => none
  | n + 1, x6, x7 => if x7 < x3 then ((wX3_farOf k0 x2 x4 x7 s).bind fun t6 => (wX3_farOf k0 x2 x5 x7 s).bind fun t8 => if t8 < t6 then (wX3_measureNear_j67 (wX3_measureNear_h30 k0 x2 x3 x4 x5 s n) k0 x2 x3 x4 x5 x6 x7 s) else (wX3_measureNear_j67 (wX3_measureNear_h30 k0 x2 x3 x4 x5 s n) k0 x2 x3 x4 x5 (x6 ||| (1 <<< (x7 &&& 31))) x7 s)) else (some x6)
theorem wX3_measureNear_t30 {k0 : Nat} {x2 : Int32} {x3 : Int32} {x4 : Int32} {x5 : Int32} {s : wS} {x : Int32} {r : ri_R} (hk0 : wkd k0 = 3) (he73 : ∀ (x6 : Int32) (w1 : Nat) (w7 : Int32) , x = x6 → gRun 3 40 73 [some (.ref (k0 + 1)), some (.ref (w1 + 1)), some (.int x2), some (.int x3), some (.int x4), some (.int x5), some (.int x6), some (.int w7)] [] (wmk s) r) : ∀ {n : Nat} {x6 : Int32} {x7 : Int32} {w1 : Nat} , wX3_measureNear_h30 k0 x2 x3 x4 x5 s n x6 x7 = some x → gRun 3 40 30 [some (.ref (k0 + 1)), some (.ref (w1 + 1)), some (.int x2), some (.int x3), some (.int x4), some (.int x5), some (.int x6), some (.int x7)] [] (wmk s) r := by
  intro n
  induction n with
  | zero => intro x6 x7 w1 h; cases (show (none : Option (Int32)) = some x from h)
  | succ n ih =>
    intro x6 x7 w1 h
    rw [wX3_measureNear_h30] at h
    refine gR_go 2 (pc1 := 33) (L1 := [some (.ref (k0 + 1)), some (.ref (w1 + 1)), some (.int x2), some (.int x3), some (.int x4), some (.int x5), some (.int x6), some (.int x7)]) (st1 := [.int x3, .int x7]) (fun _ _ => rfl) ?_
    rcases gif h with ⟨c5, h⟩ | ⟨c5, h⟩
    · refine gR_ic_ge_f rfl c5 ?_
      refine gR_go 4 (pc1 := 42) (L1 := [some (.ref (k0 + 1)), some (.ref (w1 + 1)), some (.int x2), some (.int x3), some (.int x4), some (.int x5), some (.int x6), some (.int x7)]) (st1 := [.int x7, .int x4, .int x2, .ref (k0 + 1)]) (fun _ _ => rfl) ?_
      obtain ⟨t6, e7, h⟩ := gb h
      refine gR_cvL (wX3_farOf_s hk0 e7) (Nat.le_of_ble_eq_true rfl) rfl rfl hk0 rfl rfl ?_
      refine gR_go 4 (pc1 := 51) (L1 := [some (.ref (k0 + 1)), some (.ref (w1 + 1)), some (.int x2), some (.int x3), some (.int x4), some (.int x5), some (.int x6), some (.int x7)]) (st1 := [.int x7, .int x5, .int x2, .ref (k0 + 1), .long t6]) (fun _ _ => rfl) ?_
      obtain ⟨t8, e9, h⟩ := gb h
      refine gR_cvL (wX3_farOf_s hk0 e9) (Nat.le_of_ble_eq_true rfl) rfl rfl hk0 rfl rfl ?_
      refine gR_go 1 (pc1 := 55) (L1 := [some (.ref (k0 + 1)), some (.ref (w1 + 1)), some (.int x2), some (.int x3), some (.int x4), some (.int x5), some (.int x6), some (.int x7)]) (st1 := [.int (lg_cmp t6 t8)]) (fun _ _ => rfl) ?_
      rcases gif h with ⟨c10, h⟩ | ⟨c10, h⟩
      · refine gR_lc_gt_j rfl c10 rfl ?_
        exact wX3_measureNear_u67 ih he73 hk0 h
      · refine gR_lc_gt_f rfl c10 ?_
        refine gR_go 6 (pc1 := 67) (L1 := [some (.ref (k0 + 1)), some (.ref (w1 + 1)), some (.int x2), some (.int x3), some (.int x4), some (.int x5), some (.int (x6 ||| (1 <<< (x7 &&& 31)))), some (.int x7)]) (st1 := []) (fun _ _ => rfl) ?_
        exact wX3_measureNear_u67 ih he73 hk0 h
    · refine gR_ic_ge_j rfl c5 rfl ?_
      exact he73 _ _ _ (Option.some.inj h).symm
noncomputable def wX3_measureNear_h18 (k0 : Nat) (x2 : Int32) (x3 : Int32) (x4 : Int32) : Nat → Int32 → wS → Option (wS)
  | 0, _, _ => none
  | n + 1, x5, s => if x5 < x3 then ((wX3_measureNear_h30 k0 x2 x3 x4 x5 s wFuel 0 0).bind fun t12 => (wX3_cell x2 x4 x5 s).bind fun t15 => (wX10_set (k0 + 9) t15 t12 s).bind fun s18 => wX3_measureNear_h18 k0 x2 x3 x4 n (x5 + 1) s18) else (some s)
theorem wX3_measureNear_t18 {k0 : Nat} {x2 : Int32} {x3 : Int32} {x4 : Int32} {x : wS} {r : ri_R} (hk0 : wkd k0 = 3) (he96 : ∀ (s : wS) (w1 : Nat) (w5 : Int32) (w6 : Option Value) (w7 : Option Value) , x = s → gRun 3 40 96 [some (.ref (k0 + 1)), some (.ref (w1 + 1)), some (.int x2), some (.int x3), some (.int x4), some (.int w5), w6, w7] [] (wmk s) r) : ∀ {n : Nat} {x5 : Int32} {s : wS} {w1 : Nat} {w6 : Option Value} {w7 : Option Value} , wX3_measureNear_h18 k0 x2 x3 x4 n x5 s = some x → gRun 3 40 18 [some (.ref (k0 + 1)), some (.ref (w1 + 1)), some (.int x2), some (.int x3), some (.int x4), some (.int x5), w6, w7] [] (wmk s) r := by
  intro n
  induction n with
  | zero => intro x5 s w1 w6 w7 h; cases (show (none : Option (wS)) = some x from h)
  | succ n ih =>
    intro x5 s w1 w6 w7 h
    rw [wX3_measureNear_h18] at h
    refine gR_go 2 (pc1 := 21) (L1 := [some (.ref (k0 + 1)), some (.ref (w1 + 1)), some (.int x2), some (.int x3), some (.int x4), some (.int x5), w6, w7]) (st1 := [.int x3, .int x5]) (fun _ _ => rfl) ?_
    rcases gif h with ⟨c4, h⟩ | ⟨c4, h⟩
    · refine gR_ic_ge_f rfl c4 ?_
      refine gR_go 4 (pc1 := 30) (L1 := [some (.ref (k0 + 1)), some (.ref (w1 + 1)), some (.int x2), some (.int x3), some (.int x4), some (.int x5), some (.int 0), some (.int 0)]) (st1 := []) (fun _ _ => rfl) ?_
      obtain ⟨z11, ez11, h⟩ := gb h
      refine wX3_measureNear_t30 hk0 ?_  ez11
      · intro t12 w13 w14 hz
        replace hz := hz.symm
        subst hz
        refine gR_go 1 (pc1 := 74) (L1 := [some (.ref (k0 + 1)), some (.ref (w13 + 1)), some (.int x2), some (.int x3), some (.int x4), some (.int x5), some (.int t12), some (.int w14)]) (st1 := [.ref (k0 + 1)]) (fun _ _ => rfl) ?_
        refine gR_gfR (k := k0) (k' := (k0 + 9)) rfl hk0 rfl (wly_3_11 hk0).1 ?_
        refine gR_go 3 (pc1 := 82) (L1 := [some (.ref (k0 + 1)), some (.ref (w13 + 1)), some (.int x2), some (.int x3), some (.int x4), some (.int x5), some (.int t12), some (.int w14)]) (st1 := [.int x5, .int x4, .int x2, .ref ((k0 + 9) + 1)]) (fun _ _ => rfl) ?_
        obtain ⟨t15, e16, h⟩ := gb h
        refine gR_csI (wX3_cell_s e16) (Nat.le_of_ble_eq_true rfl) rfl rfl rfl rfl ?_
        refine gR_go 1 (pc1 := 87) (L1 := [some (.ref (k0 + 1)), some (.ref (w13 + 1)), some (.int x2), some (.int x3), some (.int x4), some (.int x5), some (.int t12), some (.int w14)]) (st1 := [.int t12, .int t15, .ref ((k0 + 9) + 1)]) (fun _ _ => rfl) ?_
        obtain ⟨s18, e19, h⟩ := gb h
        refine gR_csV (wX10_set_s (wly_3_11 hk0).2.1 e19) (Nat.le_of_ble_eq_true rfl) rfl rfl rfl rfl ?_
        refine gR_go 2 (pc1 := 18) (L1 := [some (.ref (k0 + 1)), some (.ref (w13 + 1)), some (.int x2), some (.int x3), some (.int x4), some (.int (x5 + 1)), some (.int t12), some (.int w14)]) (st1 := []) (fun _ _ => rfl) ?_
        exact ih h
    · refine gR_ic_ge_j rfl c4 rfl ?_
      exact he96 _ _ _ _ _ (Option.some.inj h).symm
noncomputable def wX3_measureNear_h9 (k0 : Nat) (x2 : Int32) (x3 : Int32) : Nat → Int32 → wS → Option (wS)
  | 0, _, _ => none
  | n + 1, x4, s => if x4 < x3 then ((wX3_measureNear_h18 k0 x2 x3 x4 wFuel 0 s).bind fun s21 => wX3_measureNear_h9 k0 x2 x3 n (x4 + 1) s21) else (some s)
theorem wX3_measureNear_t9 {k0 : Nat} {x2 : Int32} {x3 : Int32} {x : wS} {r : ri_R} (hk0 : wkd k0 = 3) (he102 : ∀ (s : wS) (w0 : Nat) (w1 : Nat) (w2 : Int32) (w3 : Int32) (w4 : Int32) (w5 : Option Value) (w6 : Option Value) (w7 : Option Value) , x = s → gRun 3 40 102 [some (.ref (w0 + 1)), some (.ref (w1 + 1)), some (.int w2), some (.int w3), some (.int w4), w5, w6, w7] [] (wmk s) r) : ∀ {n : Nat} {x4 : Int32} {s : wS} {w1 : Nat} {w5 : Option Value} {w6 : Option Value} {w7 : Option Value} , wX3_measureNear_h9 k0 x2 x3 n x4 s = some x → gRun 3 40 9 [some (.ref (k0 + 1)), some (.ref (w1 + 1)), some (.int x2), some (.int x3), some (.int x4), w5, w6, w7] [] (wmk s) r := by
  intro n
  induction n with
  | zero => intro x4 s w1 w5 w6 w7 h; cases (show (none : Option (wS)) = some x from h)
  | succ n ih =>
    intro x4 s w1 w5 w6 w7 h
    rw [wX3_measureNear_h9] at h
    refine gR_go 2 (pc1 := 12) (L1 := [some (.ref (k0 + 1)), some (.ref (w1 + 1)), some (.int x2), some (.int x3), some (.int x4), w5, w6, w7]) (st1 := [.int x3, .int x4]) (fun _ _ => rfl) ?_
    rcases gif h with ⟨c3, h⟩ | ⟨c3, h⟩
    · refine gR_ic_ge_f rfl c3 ?_
      refine gR_go 2 (pc1 := 18) (L1 := [some (.ref (k0 + 1)), some (.ref (w1 + 1)), some (.int x2), some (.int x3), some (.int x4), some (.int 0), w6, w7]) (st1 := []) (fun _ _ => rfl) ?_
      obtain ⟨z20, ez20, h⟩ := gb h
      refine wX3_measureNear_t18 hk0 ?_  ez20
      · intro s21 w22 w23 w24 w25 hz
        replace hz := hz.symm
        subst hz
        refine gR_go 2 (pc1 := 9) (L1 := [some (.ref (k0 + 1)), some (.ref (w22 + 1)), some (.int x2), some (.int x3), some (.int (x4 + 1)), some (.int w23), w24, w25]) (st1 := []) (fun _ _ => rfl) ?_
        exact ih h
    · refine gR_ic_ge_j rfl c3 rfl ?_
      exact he102 _ _ _ _ _ _ _ _ _ (Option.some.inj h).symm
noncomputable def wX3_measureNear (k0 : Nat) (k1 : Nat) (x2 : Int32) (s : wS) : Option (wS) := (wX0_manyOf k1 x2 s).bind fun t1 => (wX3_measureNear_h9 k0 x2 t1 wFuel 0 s).bind fun s27 => some s27
theorem wX3_measureNear_s {k0 : Nat} {k1 : Nat} {x2 : Int32} {s : wS} {rs : wS} (hk0 : wkd k0 = 3) (hk1 : wkd k1 = 0) (h : wX3_measureNear k0 k1 x2 s = some rs) : gEv 4 40 [.ref (k0 + 1), .ref (k1 + 1), .int x2] (wmk s) (none, wmk rs, 0, 0) := by
  refine gEv_of (d := 3) (L := [some (.ref (k0 + 1)), some (.ref (k1 + 1)), some (.int x2), none, none, none, none, none]) rfl ?_
  unfold wX3_measureNear at h
  refine gR_go 2 (pc1 := 2) (L1 := [some (.ref (k0 + 1)), some (.ref (k1 + 1)), some (.int x2), none, none, none, none, none]) (st1 := [.int x2, .ref (k1 + 1)]) (fun _ _ => rfl) ?_
  obtain ⟨t1, e2, h⟩ := gb h
  refine gR_cvI (wX0_manyOf_s hk1 e2) (Nat.le_of_ble_eq_true rfl) rfl rfl hk1 rfl rfl ?_
  refine gR_go 3 (pc1 := 9) (L1 := [some (.ref (k0 + 1)), some (.ref (k1 + 1)), some (.int x2), some (.int t1), some (.int 0), none, none, none]) (st1 := []) (fun _ _ => rfl) ?_
  obtain ⟨z26, ez26, h⟩ := gb h
  refine wX3_measureNear_t9 hk0 ?_  ez26
  · intro s27 w28 w29 w30 w31 w32 w33 w34 w35 hz
    replace hz := hz.symm
    subst hz
    obtain rfl := gi1 h
    exact gR_rv rfl rfl
noncomputable def wX3_measure_h2 (k0 : Nat) (k1 : Nat) : Nat → Int32 → wS → Option (wS)
  | 0, _, _ => none
  | n + 1, x2, s => if x2 < 3 then ((wX3_measureFar k0 k1 x2 s).bind fun s3 => (wX3_measureNear k0 k1 x2 s3).bind fun s6 => wX3_measure_h2 k0 k1 n (x2 + 1) s6) else (some s)
theorem wX3_measure_t2 {k0 : Nat} {k1 : Nat} {x : wS} {r : ri_R} (hk0 : wkd k0 = 3) (hk1 : wkd k1 = 0) (he25 : ∀ (s : wS) (w1 : Nat) (w2 : Int32) , x = s → gRun 4 38 25 [some (.ref (k0 + 1)), some (.ref (w1 + 1)), some (.int w2)] [] (wmk s) r) : ∀ {n : Nat} {x2 : Int32} {s : wS} , wX3_measure_h2 k0 k1 n x2 s = some x → gRun 4 38 2 [some (.ref (k0 + 1)), some (.ref (k1 + 1)), some (.int x2)] [] (wmk s) r := by
  intro n
  induction n with
  | zero => intro x2 s h; cases (show (none : Option (wS)) = some x from h)
  | succ n ih =>
    intro x2 s h
    rw [wX3_measure_h2] at h
    refine gR_go 2 (pc1 := 4) (L1 := [some (.ref (k0 + 1)), some (.ref (k1 + 1)), some (.int x2)]) (st1 := [.int 3, .int x2]) (fun _ _ => rfl) ?_
    rcases gif h with ⟨c1, h⟩ | ⟨c1, h⟩
    · refine gR_ic_ge_f rfl c1 ?_
      refine gR_go 3 (pc1 := 10) (L1 := [some (.ref (k0 + 1)), some (.ref (k1 + 1)), some (.int x2)]) (st1 := [.int x2, .ref (k1 + 1), .ref (k0 + 1)]) (fun _ _ => rfl) ?_
      obtain ⟨s3, e4, h⟩ := gb h
      refine gR_cvV (wX3_measureFar_s hk0 hk1 e4) (Nat.le_of_ble_eq_true rfl) rfl rfl hk0 rfl rfl ?_
      refine gR_go 3 (pc1 := 16) (L1 := [some (.ref (k0 + 1)), some (.ref (k1 + 1)), some (.int x2)]) (st1 := [.int x2, .ref (k1 + 1), .ref (k0 + 1)]) (fun _ _ => rfl) ?_
      obtain ⟨s6, e7, h⟩ := gb h
      refine gR_cvV (wX3_measureNear_s hk0 hk1 e7) (Nat.le_of_ble_eq_true rfl) rfl rfl hk0 rfl rfl ?_
      refine gR_go 2 (pc1 := 2) (L1 := [some (.ref (k0 + 1)), some (.ref (k1 + 1)), some (.int (x2 + 1))]) (st1 := []) (fun _ _ => rfl) ?_
      exact ih h
    · refine gR_ic_ge_j rfl c1 rfl ?_
      exact he25 _ _ _ (Option.some.inj h).symm
noncomputable def wX3_measure (k0 : Nat) (k1 : Nat) (s : wS) : Option (wS) := (wX3_measure_h2 k0 k1 wFuel 0 s).bind fun s9 => (wpfZ s9 k0 12 1).bind fun s12 => some s12
theorem wX3_measure_s {k0 : Nat} {k1 : Nat} {s : wS} {rs : wS} (hk0 : wkd k0 = 3) (hk1 : wkd k1 = 0) (h : wX3_measure k0 k1 s = some rs) : gEv 5 38 [.ref (k0 + 1), .ref (k1 + 1)] (wmk s) (none, wmk rs, 0, 0) := by
  refine gEv_of (d := 4) (L := [some (.ref (k0 + 1)), some (.ref (k1 + 1)), none]) rfl ?_
  unfold wX3_measure at h
  refine gR_go 2 (pc1 := 2) (L1 := [some (.ref (k0 + 1)), some (.ref (k1 + 1)), some (.int 0)]) (st1 := []) (fun _ _ => rfl) ?_
  obtain ⟨z8, ez8, h⟩ := gb h
  refine wX3_measure_t2 hk0 hk1 ?_  ez8
  · intro s9 w10 w11 hz
    replace hz := hz.symm
    subst hz
    refine gR_go 2 (pc1 := 27) (L1 := [some (.ref (k0 + 1)), some (.ref (w10 + 1)), some (.int w11)]) (st1 := [.int 1, .ref (k0 + 1)]) (fun _ _ => rfl) ?_
    obtain ⟨s12, es12, h⟩ := gb h
    refine gR_pfZ (k := k0) rfl hk0 rfl rfl es12 ?_
    obtain rfl := gi1 h
    exact gR_rv rfl rfl
noncomputable def wX4_kindOf (x0 : Int32) (s : wS) : Option (Int32) := if x0 = 16 then (some 0) else if x0 = 17 then (some 1) else if x0 = 18 then (some 2) else (some (-1))
theorem wX4_kindOf_s {x0 : Int32} {s : wS} {rv : Int32} (h : wX4_kindOf x0 s = some rv) : gEv 1 51 [.int x0] (wmk s) (some (.int rv), wmk s, 0, 0) := by
  refine gEv_of (d := 0) (L := [some (.int x0)]) rfl ?_
  unfold wX4_kindOf at h
  refine gR_go 1 (pc1 := 1) (L1 := [some (.int x0)]) (st1 := [.int x0]) (fun _ _ => rfl) ?_
  rcases gif h with ⟨c1, h⟩ | ⟨c1, h⟩
  · refine gR_sw_k rfl c1 rfl rfl ?_
    refine gR_go 1 (pc1 := 29) (L1 := [some (.int x0)]) (st1 := [.int 0]) (fun _ _ => rfl) ?_
    obtain rfl := gi1 h
    exact gR_ri rfl rfl
  · rcases gif h with ⟨c2, h⟩ | ⟨c2, h⟩
    · refine gR_sw_k rfl c2 rfl rfl ?_
      refine gR_go 1 (pc1 := 31) (L1 := [some (.int x0)]) (st1 := [.int 1]) (fun _ _ => rfl) ?_
      obtain rfl := gi1 h
      exact gR_ri rfl rfl
    · rcases gif h with ⟨c3, h⟩ | ⟨c3, h⟩
      · refine gR_sw_k rfl c3 rfl rfl ?_
        refine gR_go 1 (pc1 := 33) (L1 := [some (.int x0)]) (st1 := [.int 2]) (fun _ _ => rfl) ?_
        obtain rfl := gi1 h
        exact gR_ri rfl rfl
      · refine gR_sw_d [16, 17, 18] rfl (gl1 c1 (gl1 c2 (gl1 c3 gl0))) (by decide) (by decide) rfl ?_
        refine gR_go 1 (pc1 := 35) (L1 := [some (.int x0)]) (st1 := [.int (-1)]) (fun _ _ => rfl) ?_
        obtain rfl := gi1 h
        exact gR_ri rfl rfl
noncomputable def wX9_number (s : wS) : Option (Int32) := (wX10_at 6 (s.1 3 4) s).bind fun t1 => some t1
theorem wX9_number_s {s : wS} {rv : Int32} (h : wX9_number s = some rv) : gEv 2 97 [.ref 4] (wmk s) (some (.int rv), wmk s, 0, 0) := by
  refine gEv_of (d := 1) (L := [some (.ref 4)]) rfl ?_
  unfold wX9_number at h
  refine gR_go 1 (pc1 := 1) (L1 := [some (.ref 4)]) (st1 := [.ref 4]) (fun _ _ => rfl) ?_
  refine gR_gfR (k := 3) (k' := 6) rfl rfl rfl rfl ?_
  refine gR_go 1 (pc1 := 5) (L1 := [some (.ref 4)]) (st1 := [.ref 4, .ref 7]) (fun _ _ => rfl) ?_
  refine gR_gfI (k := 3) rfl rfl rfl ?_
  obtain ⟨t1, e2, h⟩ := gb h
  refine gR_csI (wX10_at_s rfl e2) (Nat.le_of_ble_eq_true rfl) rfl rfl rfl rfl ?_
  obtain rfl := gi1 h
  exact gR_ri rfl rfl
noncomputable def wX4_readValue_j34 (s : wS) : Option (wS) := (wX9_fail 0 s).bind fun s7 => some s7
theorem wX4_readValue_u34 {s : wS} {w2 : Nat} {w3 : Int32} {w4 : Int32} {rs : wS} (h : wX4_readValue_j34 s = some rs) : gRun 2 55 34 [some (.ref 9), some (.ref 4), some (.ref (w2 + 1)), some (.int w3), some (.int w4)] [] (wmk s) (none, wmk rs, 0, 0) := by
  unfold wX4_readValue_j34 at h
  refine gR_go 2 (pc1 := 36) (L1 := [some (.ref 9), some (.ref 4), some (.ref (w2 + 1)), some (.int w3), some (.int w4)]) (st1 := [.int 0, .ref 4]) (fun _ _ => rfl) ?_
  obtain ⟨s7, e8, h⟩ := gb h
  refine gR_cvV (wX9_fail_s e8) (Nat.le_of_ble_eq_true rfl) rfl rfl rfl rfl rfl ?_
  refine gR_go 1 (pc1 := 118) (L1 := [some (.ref 9), some (.ref 4), some (.ref (w2 + 1)), some (.int w3), some (.int w4)]) (st1 := []) (fun _ _ => rfl) ?_
  obtain rfl := gi1 h
  exact gR_rv rfl rfl
noncomputable def wX4_readValue_j111 (k100 : Nat) (y1 : Int32) (s : wS) : Option (wS) := (wX3_put k100 y1 s).bind fun s15 => (wX9_skip s15).bind fun s18 => some s18
theorem wX4_readValue_u111 {k100 : Nat} {y1 : Int32} {s : wS} {w2 : Nat} {w3 : Int32} {w4 : Int32} {rs : wS} (hk100 : wkd k100 = 3) (h : wX4_readValue_j111 k100 y1 s = some rs) : gRun 2 55 111 [some (.ref 9), some (.ref 4), some (.ref (w2 + 1)), some (.int w3), some (.int w4)] [.int y1, .ref (k100 + 1)] (wmk s) (none, wmk rs, 0, 0) := by
  unfold wX4_readValue_j111 at h
  obtain ⟨s15, e16, h⟩ := gb h
  refine gR_cvV (wX3_put_s hk100 e16) (Nat.le_of_ble_eq_true rfl) rfl rfl hk100 rfl rfl ?_
  refine gR_go 1 (pc1 := 115) (L1 := [some (.ref 9), some (.ref 4), some (.ref (w2 + 1)), some (.int w3), some (.int w4)]) (st1 := [.ref 4]) (fun _ _ => rfl) ?_
  obtain ⟨s18, e19, h⟩ := gb h
  refine gR_cvV (wX9_skip_s e19) (Nat.le_of_ble_eq_true rfl) rfl rfl rfl rfl rfl ?_
  obtain rfl := gi1 h
  exact gR_rv rfl rfl
noncomputable def wX4_readValue_j67 (k2 : Nat) (x3 : Int32) (x4 : Int32) (s : wS) : Option (wS) := if (s.1 8 0) < 60 then ((wpfI s 8 0 ((s.1 8 0) + 1)).bind fun s12 => if x4 = 0 then (wX4_readValue_j111 k2 x3 s12) else ((wX9_number s12).bind fun t20 => wX4_readValue_j111 k2 (100 + t20) s12)) else ((wX9_fail 3 s).bind fun s23 => some s23)
theorem wX4_readValue_u67 {k2 : Nat} {x3 : Int32} {x4 : Int32} {s : wS} {rs : wS} (hk2 : wkd k2 = 3) (h : wX4_readValue_j67 k2 x3 x4 s = some rs) : gRun 2 55 67 [some (.ref 9), some (.ref 4), some (.ref (k2 + 1)), some (.int x3), some (.int x4)] [] (wmk s) (none, wmk rs, 0, 0) := by
  unfold wX4_readValue_j67 at h
  refine gR_go 1 (pc1 := 68) (L1 := [some (.ref 9), some (.ref 4), some (.ref (k2 + 1)), some (.int x3), some (.int x4)]) (st1 := [.ref 9]) (fun _ _ => rfl) ?_
  refine gR_gfI (k := 8) rfl rfl rfl ?_
  refine gR_go 1 (pc1 := 73) (L1 := [some (.ref 9), some (.ref 4), some (.ref (k2 + 1)), some (.int x3), some (.int x4)]) (st1 := [.int 60, .int (s.1 8 0)]) (fun _ _ => rfl) ?_
  rcases gif h with ⟨c11, h⟩ | ⟨c11, h⟩
  · refine gR_ic_lt_j rfl c11 rfl ?_
    refine gR_go 2 (pc1 := 86) (L1 := [some (.ref 9), some (.ref 4), some (.ref (k2 + 1)), some (.int x3), some (.int x4)]) (st1 := [.ref 9, .ref 9]) (fun _ _ => rfl) ?_
    refine gR_gfI (k := 8) rfl rfl rfl ?_
    refine gR_go 2 (pc1 := 91) (L1 := [some (.ref 9), some (.ref 4), some (.ref (k2 + 1)), some (.int x3), some (.int x4)]) (st1 := [.int ((s.1 8 0) + 1), .ref 9]) (fun _ _ => rfl) ?_
    obtain ⟨s12, es12, h⟩ := gb h
    refine gR_pfI (k := 8) rfl rfl rfl rfl es12 ?_
    refine gR_go 2 (pc1 := 97) (L1 := [some (.ref 9), some (.ref 4), some (.ref (k2 + 1)), some (.int x3), some (.int x4)]) (st1 := [.int x4, .ref (k2 + 1)]) (fun _ _ => rfl) ?_
    rcases gif h with ⟨c13, h⟩ | ⟨c13, h⟩
    · refine gR_iz_eq_j rfl c13 rfl ?_
      refine gR_go 1 (pc1 := 111) (L1 := [some (.ref 9), some (.ref 4), some (.ref (k2 + 1)), some (.int x3), some (.int x4)]) (st1 := [.int x3, .ref (k2 + 1)]) (fun _ _ => rfl) ?_
      exact wX4_readValue_u111 hk2 h
    · refine gR_iz_eq_f rfl c13 ?_
      refine gR_go 2 (pc1 := 103) (L1 := [some (.ref 9), some (.ref 4), some (.ref (k2 + 1)), some (.int x3), some (.int x4)]) (st1 := [.ref 4, .int 100, .ref (k2 + 1)]) (fun _ _ => rfl) ?_
      obtain ⟨t20, e21, h⟩ := gb h
      refine gR_cvI (wX9_number_s e21) (Nat.le_of_ble_eq_true rfl) rfl rfl rfl rfl rfl ?_
      refine gR_go 2 (pc1 := 111) (L1 := [some (.ref 9), some (.ref 4), some (.ref (k2 + 1)), some (.int x3), some (.int x4)]) (st1 := [.int (100 + t20), .ref (k2 + 1)]) (fun _ _ => rfl) ?_
      exact wX4_readValue_u111 hk2 h
  · refine gR_ic_lt_f rfl c11 ?_
    refine gR_go 2 (pc1 := 78) (L1 := [some (.ref 9), some (.ref 4), some (.ref (k2 + 1)), some (.int x3), some (.int x4)]) (st1 := [.int 3, .ref 4]) (fun _ _ => rfl) ?_
    obtain ⟨s23, e24, h⟩ := gb h
    refine gR_cvV (wX9_fail_s e24) (Nat.le_of_ble_eq_true rfl) rfl rfl rfl rfl rfl ?_
    refine gR_go 1 (pc1 := 118) (L1 := [some (.ref 9), some (.ref 4), some (.ref (k2 + 1)), some (.int x3), some (.int x4)]) (st1 := []) (fun _ _ => rfl) ?_
    obtain rfl := gi1 h
    exact gR_rv rfl rfl
noncomputable def wX4_readValue_j42 (k2 : Nat) (x3 : Int32) (x4 : Int32) (s : wS) : Option (wS) := if x4 = 0 then (wX4_readValue_j67 k2 x3 x4 s) else ((wX9_number s).bind fun t25 => (wX10_isOutside t25 100000 s).bind fun t27 => if t27 = 0 then (wX4_readValue_j67 k2 x3 x4 s) else ((wX9_fail 1 s).bind fun s31 => some s31))
theorem wX4_readValue_u42 {k2 : Nat} {x3 : Int32} {x4 : Int32} {s : wS} {rs : wS} (hk2 : wkd k2 = 3) (h : wX4_readValue_j42 k2 x3 x4 s = some rs) : gRun 2 55 42 [some (.ref 9), some (.ref 4), some (.ref (k2 + 1)), some (.int x3), some (.int x4)] [] (wmk s) (none, wmk rs, 0, 0) := by
  unfold wX4_readValue_j42 at h
  refine gR_go 1 (pc1 := 44) (L1 := [some (.ref 9), some (.ref 4), some (.ref (k2 + 1)), some (.int x3), some (.int x4)]) (st1 := [.int x4]) (fun _ _ => rfl) ?_
  rcases gif h with ⟨c10, h⟩ | ⟨c10, h⟩
  · refine gR_iz_eq_j rfl c10 rfl ?_
    exact wX4_readValue_u67 hk2 h
  · refine gR_iz_eq_f rfl c10 ?_
    refine gR_go 1 (pc1 := 48) (L1 := [some (.ref 9), some (.ref 4), some (.ref (k2 + 1)), some (.int x3), some (.int x4)]) (st1 := [.ref 4]) (fun _ _ => rfl) ?_
    obtain ⟨t25, e26, h⟩ := gb h
    refine gR_cvI (wX9_number_s e26) (Nat.le_of_ble_eq_true rfl) rfl rfl rfl rfl rfl ?_
    refine gR_go 1 (pc1 := 53) (L1 := [some (.ref 9), some (.ref 4), some (.ref (k2 + 1)), some (.int x3), some (.int x4)]) (st1 := [.int 100000, .int t25]) (fun _ _ => rfl) ?_
    obtain ⟨t27, e28, h⟩ := gb h
    refine gR_csI (wX10_isOutside_s e28) (Nat.le_of_ble_eq_true rfl) rfl rfl rfl rfl ?_
    rcases gif h with ⟨c29, h⟩ | ⟨c29, h⟩
    · refine gR_iz_eq_j rfl c29 rfl ?_
      exact wX4_readValue_u67 hk2 h
    · refine gR_iz_eq_f rfl c29 ?_
      refine gR_go 2 (pc1 := 61) (L1 := [some (.ref 9), some (.ref 4), some (.ref (k2 + 1)), some (.int x3), some (.int x4)]) (st1 := [.int 1, .ref 4]) (fun _ _ => rfl) ?_
      obtain ⟨s31, e32, h⟩ := gb h
      refine gR_cvV (wX9_fail_s e32) (Nat.le_of_ble_eq_true rfl) rfl rfl rfl rfl rfl ?_
      refine gR_go 1 (pc1 := 118) (L1 := [some (.ref 9), some (.ref 4), some (.ref (k2 + 1)), some (.int x3), some (.int x4)]) (st1 := []) (fun _ _ => rfl) ?_
      obtain rfl := gi1 h
      exact gR_rv rfl rfl
noncomputable def wX4_readValue_j15 (k2 : Nat) (x3 : Int32) (y0 : Int32) (s : wS) : Option (wS) := if y0 = 0 then (if x3 < 23 then (wX4_readValue_j34 s) else (if 30 < x3 then (wX4_readValue_j34 s) else (wX4_readValue_j42 k2 x3 y0 s))) else (wX4_readValue_j42 k2 x3 y0 s)
theorem wX4_readValue_u15 {k2 : Nat} {x3 : Int32} {y0 : Int32} {s : wS} {w4 : Option Value} {rs : wS} (hk2 : wkd k2 = 3) (h : wX4_readValue_j15 k2 x3 y0 s = some rs) : gRun 2 55 15 [some (.ref 9), some (.ref 4), some (.ref (k2 + 1)), some (.int x3), w4] [.int y0] (wmk s) (none, wmk rs, 0, 0) := by
  unfold wX4_readValue_j15 at h
  refine gR_go 2 (pc1 := 19) (L1 := [some (.ref 9), some (.ref 4), some (.ref (k2 + 1)), some (.int x3), some (.int y0)]) (st1 := [.int y0]) (fun _ _ => rfl) ?_
  rcases gif h with ⟨c4, h⟩ | ⟨c4, h⟩
  · refine gR_iz_ne_f rfl c4 ?_
    refine gR_go 2 (pc1 := 25) (L1 := [some (.ref 9), some (.ref 4), some (.ref (k2 + 1)), some (.int x3), some (.int y0)]) (st1 := [.int 23, .int x3]) (fun _ _ => rfl) ?_
    rcases gif h with ⟨c5, h⟩ | ⟨c5, h⟩
    · refine gR_ic_lt_j rfl c5 rfl ?_
      exact wX4_readValue_u34 h
    · refine gR_ic_lt_f rfl c5 ?_
      refine gR_go 2 (pc1 := 31) (L1 := [some (.ref 9), some (.ref 4), some (.ref (k2 + 1)), some (.int x3), some (.int y0)]) (st1 := [.int 30, .int x3]) (fun _ _ => rfl) ?_
      rcases gif h with ⟨c9, h⟩ | ⟨c9, h⟩
      · refine gR_ic_le_f rfl c9 ?_
        exact wX4_readValue_u34 h
      · refine gR_ic_le_j rfl c9 rfl ?_
        exact wX4_readValue_u42 hk2 h
  · refine gR_iz_ne_j rfl c4 rfl ?_
    exact wX4_readValue_u42 hk2 h
noncomputable def wX4_readValue (k2 : Nat) (s : wS) : Option (wS) := (wX9_sign s).bind fun t1 => if t1 = 2 then (wX4_readValue_j15 k2 t1 1 s) else (wX4_readValue_j15 k2 t1 0 s)
theorem wX4_readValue_s {k2 : Nat} {s : wS} {rs : wS} (hk2 : wkd k2 = 3) (h : wX4_readValue k2 s = some rs) : gEv 3 55 [.ref 9, .ref 4, .ref (k2 + 1)] (wmk s) (none, wmk rs, 0, 0) := by
  refine gEv_of (d := 2) (L := [some (.ref 9), some (.ref 4), some (.ref (k2 + 1)), none, none]) rfl ?_
  unfold wX4_readValue at h
  refine gR_go 1 (pc1 := 1) (L1 := [some (.ref 9), some (.ref 4), some (.ref (k2 + 1)), none, none]) (st1 := [.ref 4]) (fun _ _ => rfl) ?_
  obtain ⟨t1, e2, h⟩ := gb h
  refine gR_cvI (wX9_sign_s e2) (Nat.le_of_ble_eq_true rfl) rfl rfl rfl rfl rfl ?_
  refine gR_go 3 (pc1 := 7) (L1 := [some (.ref 9), some (.ref 4), some (.ref (k2 + 1)), some (.int t1), none]) (st1 := [.int 2, .int t1]) (fun _ _ => rfl) ?_
  rcases gif h with ⟨c3, h⟩ | ⟨c3, h⟩
  · refine gR_ic_ne_f rfl c3 ?_
    refine gR_go 2 (pc1 := 15) (L1 := [some (.ref 9), some (.ref 4), some (.ref (k2 + 1)), some (.int t1), none]) (st1 := [.int 1]) (fun _ _ => rfl) ?_
    exact wX4_readValue_u15 hk2 h
  · refine gR_ic_ne_j rfl c3 rfl ?_
    refine gR_go 1 (pc1 := 15) (L1 := [some (.ref 9), some (.ref 4), some (.ref (k2 + 1)), some (.int t1), none]) (st1 := [.int 0]) (fun _ _ => rfl) ?_
    exact wX4_readValue_u15 hk2 h
end
section
/-! The methods as functions of the state, each with the proof that the interpreter runs so. -/
noncomputable def wX4_readSum_j89 (qq : Int32 → Int32 → wS → Option ((Int32 × wS) ⊕ (Int32 × wS))) (k2 : Nat) (x3 : Int32) (x4 : Int32) (s : wS) : Option ((Int32 × wS) ⊕ (Int32 × wS)) := qq x3 (x4 + 1) s
theorem wX4_readSum_u89 {k2 : Nat} {x3 : Int32} {x4 : Int32} {s : wS} {w5 : Int32} {qq : Int32 → Int32 → wS → Option ((Int32 × wS) ⊕ (Int32 × wS))} {x : (Int32 × wS) ⊕ (Int32 × wS)} {r : ri_R} (ih : ∀ {x3 : Int32} {x4 : Int32} {s : wS} {w5 : Option Value} , qq x3 x4 s = some x → gRun 3 54 11 [some (.ref 9), some (.ref 4), some (.ref (k2 + 1)), some (.int x3), some (.int x4), w5] [] (wmk s) r) (he95 : ∀ (x3 : Int32) (s : wS) (w4 : Int32) (w5 : Option Value) , x = .inl (x3, s) → gRun 3 54 95 [some (.ref 9), some (.ref 4), some (.ref (k2 + 1)), some (.int x3), some (.int w4), w5] [] (wmk s) r) (he39 : ∀ (x3 : Int32) (s : wS) (w4 : Int32) (w5 : Int32) , x = .inr (x3, s) → gRun 3 54 39 [some (.ref 9), some (.ref 4), some (.ref (k2 + 1)), some (.int x3), some (.int w4), some (.int w5)] [] (wmk s) r) (hk2 : wkd k2 = 3) (h : wX4_readSum_j89 qq k2 x3 x4 s = some x) : gRun 3 54 89 [some (.ref 9), some (.ref 4), some (.ref (k2 + 1)), some (.int x3), some (.int x4), some (.int w5)] [] (wmk s) r := by
  unfold wX4_readSum_j89 at h
  refine gR_go 2 (pc1 := 11) (L1 := [some (.ref 9), some (.ref 4), some (.ref (k2 + 1)), some (.int x3), some (.int (x4 + 1)), some (.int w5)]) (st1 := []) (fun _ _ => rfl) ?_
  exact ih h
noncomputable def wX4_readSum_j60 (qq : Int32 → Int32 → wS → Option ((Int32 × wS) ⊕ (Int32 × wS))) (k2 : Nat) (x3 : Int32) (x4 : Int32) (x5 : Int32) (s : wS) : Option ((Int32 × wS) ⊕ (Int32 × wS)) := (wX4_readValue k2 s).bind fun s14 => (wX3_put k2 x5 s14).bind fun s17 => wX4_readSum_j89 qq k2 x3 x4 s17
theorem wX4_readSum_u60 {k2 : Nat} {x3 : Int32} {x4 : Int32} {x5 : Int32} {s : wS} {qq : Int32 → Int32 → wS → Option ((Int32 × wS) ⊕ (Int32 × wS))} {x : (Int32 × wS) ⊕ (Int32 × wS)} {r : ri_R} (ih : ∀ {x3 : Int32} {x4 : Int32} {s : wS} {w5 : Option Value} , qq x3 x4 s = some x → gRun 3 54 11 [some (.ref 9), some (.ref 4), some (.ref (k2 + 1)), some (.int x3), some (.int x4), w5] [] (wmk s) r) (he95 : ∀ (x3 : Int32) (s : wS) (w4 : Int32) (w5 : Option Value) , x = .inl (x3, s) → gRun 3 54 95 [some (.ref 9), some (.ref 4), some (.ref (k2 + 1)), some (.int x3), some (.int w4), w5] [] (wmk s) r) (he39 : ∀ (x3 : Int32) (s : wS) (w4 : Int32) (w5 : Int32) , x = .inr (x3, s) → gRun 3 54 39 [some (.ref 9), some (.ref 4), some (.ref (k2 + 1)), some (.int x3), some (.int w4), some (.int w5)] [] (wmk s) r) (hk2 : wkd k2 = 3) (h : wX4_readSum_j60 qq k2 x3 x4 x5 s = some x) : gRun 3 54 60 [some (.ref 9), some (.ref 4), some (.ref (k2 + 1)), some (.int x3), some (.int x4), some (.int x5)] [] (wmk s) r := by
  unfold wX4_readSum_j60 at h
  refine gR_go 3 (pc1 := 63) (L1 := [some (.ref 9), some (.ref 4), some (.ref (k2 + 1)), some (.int x3), some (.int x4), some (.int x5)]) (st1 := [.ref (k2 + 1), .ref 4, .ref 9]) (fun _ _ => rfl) ?_
  obtain ⟨s14, e15, h⟩ := gb h
  refine gR_cvV (wX4_readValue_s hk2 e15) (Nat.le_of_ble_eq_true rfl) rfl rfl rfl rfl rfl ?_
  refine gR_go 2 (pc1 := 69) (L1 := [some (.ref 9), some (.ref 4), some (.ref (k2 + 1)), some (.int x3), some (.int x4), some (.int x5)]) (st1 := [.int x5, .ref (k2 + 1)]) (fun _ _ => rfl) ?_
  obtain ⟨s17, e18, h⟩ := gb h
  refine gR_cvV (wX3_put_s hk2 e18) (Nat.le_of_ble_eq_true rfl) rfl rfl hk2 rfl rfl ?_
  refine gR_go 1 (pc1 := 89) (L1 := [some (.ref 9), some (.ref 4), some (.ref (k2 + 1)), some (.int x3), some (.int x4), some (.int x5)]) (st1 := []) (fun _ _ => rfl) ?_
  exact wX4_readSum_u89 ih he95 he39 hk2 h
noncomputable def wX4_readSum_h11 (k2 : Nat) : Nat → Int32 → Int32 → wS → Option ((Int32 × wS) ⊕ (Int32 × wS))
  | 0, _, _, _ => none
  | n + 1, x3, x4, s => if x4 < 400 then ((wX9_sign s).bind fun t5 => if t5 < 6 then (some (.inl (x3, s))) else (if 9 < t5 then (some (.inr (x3, s))) else ((wX9_skip s).bind fun s10 => if t5 = 8 then (wX4_readSum_j60 (wX4_readSum_h11 k2 n) k2 x3 x4 t5 s10) else (if t5 = 9 then (wX4_readSum_j60 (wX4_readSum_h11 k2 n) k2 x3 x4 t5 s10) else ((wX3_put k2 x3 s10).bind fun s21 => (wX4_readValue k2 s21).bind fun s24 => wX4_readSum_j89 (wX4_readSum_h11 k2 n) k2 t5 x4 s24))))) else (some (.inl (x3, s)))
theorem wX4_readSum_t11 {k2 : Nat} {x : (Int32 × wS) ⊕ (Int32 × wS)} {r : ri_R} (hk2 : wkd k2 = 3) (he95 : ∀ (x3 : Int32) (s : wS) (w4 : Int32) (w5 : Option Value) , x = .inl (x3, s) → gRun 3 54 95 [some (.ref 9), some (.ref 4), some (.ref (k2 + 1)), some (.int x3), some (.int w4), w5] [] (wmk s) r) (he39 : ∀ (x3 : Int32) (s : wS) (w4 : Int32) (w5 : Int32) , x = .inr (x3, s) → gRun 3 54 39 [some (.ref 9), some (.ref 4), some (.ref (k2 + 1)), some (.int x3), some (.int w4), some (.int w5)] [] (wmk s) r) : ∀ {n : Nat} {x3 : Int32} {x4 : Int32} {s : wS} {w5 : Option Value} , wX4_readSum_h11 k2 n x3 x4 s = some x → gRun 3 54 11 [some (.ref 9), some (.ref 4), some (.ref (k2 + 1)), some (.int x3), some (.int x4), w5] [] (wmk s) r := by
  intro n
  induction n with
  | zero => intro x3 x4 s w5 h; cases (show (none : Option ((Int32 × wS) ⊕ (Int32 × wS))) = some x from h)
  | succ n ih =>
    intro x3 x4 s w5 h
    rw [wX4_readSum_h11] at h
    refine gR_go 2 (pc1 := 16) (L1 := [some (.ref 9), some (.ref 4), some (.ref (k2 + 1)), some (.int x3), some (.int x4), w5]) (st1 := [.int 400, .int x4]) (fun _ _ => rfl) ?_
    rcases gif h with ⟨c4, h⟩ | ⟨c4, h⟩
    · refine gR_ic_ge_f rfl c4 ?_
      refine gR_go 1 (pc1 := 20) (L1 := [some (.ref 9), some (.ref 4), some (.ref (k2 + 1)), some (.int x3), some (.int x4), w5]) (st1 := [.ref 4]) (fun _ _ => rfl) ?_
      obtain ⟨t5, e6, h⟩ := gb h
      refine gR_cvI (wX9_sign_s e6) (Nat.le_of_ble_eq_true rfl) rfl rfl rfl rfl rfl ?_
      refine gR_go 3 (pc1 := 29) (L1 := [some (.ref 9), some (.ref 4), some (.ref (k2 + 1)), some (.int x3), some (.int x4), some (.int t5)]) (st1 := [.int 6, .int t5]) (fun _ _ => rfl) ?_
      rcases gif h with ⟨c7, h⟩ | ⟨c7, h⟩
      · refine gR_ic_lt_j rfl c7 rfl ?_
        exact he95 _ _ _ _ (Option.some.inj h).symm
      · refine gR_ic_lt_f rfl c7 ?_
        refine gR_go 2 (pc1 := 36) (L1 := [some (.ref 9), some (.ref 4), some (.ref (k2 + 1)), some (.int x3), some (.int x4), some (.int t5)]) (st1 := [.int 9, .int t5]) (fun _ _ => rfl) ?_
        rcases gif h with ⟨c8, h⟩ | ⟨c8, h⟩
        · refine gR_ic_le_f rfl c8 ?_
          exact he39 _ _ _ _ (Option.some.inj h).symm
        · refine gR_ic_le_j rfl c8 rfl ?_
          refine gR_go 1 (pc1 := 43) (L1 := [some (.ref 9), some (.ref 4), some (.ref (k2 + 1)), some (.int x3), some (.int x4), some (.int t5)]) (st1 := [.ref 4]) (fun _ _ => rfl) ?_
          obtain ⟨s10, e11, h⟩ := gb h
          refine gR_cvV (wX9_skip_s e11) (Nat.le_of_ble_eq_true rfl) rfl rfl rfl rfl rfl ?_
          refine gR_go 2 (pc1 := 50) (L1 := [some (.ref 9), some (.ref 4), some (.ref (k2 + 1)), some (.int x3), some (.int x4), some (.int t5)]) (st1 := [.int 8, .int t5]) (fun _ _ => rfl) ?_
          rcases gif h with ⟨c12, h⟩ | ⟨c12, h⟩
          · refine gR_ic_eq_j rfl c12 rfl ?_
            exact wX4_readSum_u60 ih he95 he39 hk2 h
          · refine gR_ic_eq_f rfl c12 ?_
            refine gR_go 2 (pc1 := 57) (L1 := [some (.ref 9), some (.ref 4), some (.ref (k2 + 1)), some (.int x3), some (.int x4), some (.int t5)]) (st1 := [.int 9, .int t5]) (fun _ _ => rfl) ?_
            rcases gif h with ⟨c19, h⟩ | ⟨c19, h⟩
            · refine gR_ic_ne_f rfl c19 ?_
              exact wX4_readSum_u60 ih he95 he39 hk2 h
            · refine gR_ic_ne_j rfl c19 rfl ?_
              refine gR_go 2 (pc1 := 77) (L1 := [some (.ref 9), some (.ref 4), some (.ref (k2 + 1)), some (.int x3), some (.int x4), some (.int t5)]) (st1 := [.int x3, .ref (k2 + 1)]) (fun _ _ => rfl) ?_
              obtain ⟨s21, e22, h⟩ := gb h
              refine gR_cvV (wX3_put_s hk2 e22) (Nat.le_of_ble_eq_true rfl) rfl rfl hk2 rfl rfl ?_
              refine gR_go 5 (pc1 := 86) (L1 := [some (.ref 9), some (.ref 4), some (.ref (k2 + 1)), some (.int t5), some (.int x4), some (.int t5)]) (st1 := [.ref (k2 + 1), .ref 4, .ref 9]) (fun _ _ => rfl) ?_
              obtain ⟨s24, e25, h⟩ := gb h
              refine gR_cvV (wX4_readValue_s hk2 e25) (Nat.le_of_ble_eq_true rfl) rfl rfl rfl rfl rfl ?_
              exact wX4_readSum_u89 ih he95 he39 hk2 h
    · refine gR_ic_ge_j rfl c4 rfl ?_
      exact he95 _ _ _ _ (Option.some.inj h).symm
noncomputable def wX4_readSum_j95 (k2 : Nat) (x3 : Int32) (s : wS) : Option (wS) := (wX3_put k2 x3 s).bind fun s32 => some s32
theorem wX4_readSum_u95 {k2 : Nat} {x3 : Int32} {s : wS} {w4 : Int32} {w5 : Option Value} {rs : wS} (hk2 : wkd k2 = 3) (h : wX4_readSum_j95 k2 x3 s = some rs) : gRun 3 54 95 [some (.ref 9), some (.ref 4), some (.ref (k2 + 1)), some (.int x3), some (.int w4), w5] [] (wmk s) (none, wmk rs, 0, 0) := by
  unfold wX4_readSum_j95 at h
  refine gR_go 2 (pc1 := 97) (L1 := [some (.ref 9), some (.ref 4), some (.ref (k2 + 1)), some (.int x3), some (.int w4), w5]) (st1 := [.int x3, .ref (k2 + 1)]) (fun _ _ => rfl) ?_
  obtain ⟨s32, e33, h⟩ := gb h
  refine gR_cvV (wX3_put_s hk2 e33) (Nat.le_of_ble_eq_true rfl) rfl rfl hk2 rfl rfl ?_
  obtain rfl := gi1 h
  exact gR_rv rfl rfl
noncomputable def wX4_readSum (k2 : Nat) (s : wS) : Option (wS) := (wX4_readValue k2 s).bind fun s2 => (wX4_readSum_h11 k2 wFuel 0 0 s2).bind fun z26 => (match z26 with | .inl (t27, s28) => wX4_readSum_j95 k2 t27 s28 | .inr (t34, s35) => wX4_readSum_j95 k2 t34 s35)
theorem wX4_readSum_s {k2 : Nat} {s : wS} {rs : wS} (hk2 : wkd k2 = 3) (h : wX4_readSum k2 s = some rs) : gEv 4 54 [.ref 9, .ref 4, .ref (k2 + 1)] (wmk s) (none, wmk rs, 0, 0) := by
  refine gEv_of (d := 3) (L := [some (.ref 9), some (.ref 4), some (.ref (k2 + 1)), none, none, none]) rfl ?_
  unfold wX4_readSum at h
  refine gR_go 5 (pc1 := 5) (L1 := [some (.ref 9), some (.ref 4), some (.ref (k2 + 1)), some (.int 0), none, none]) (st1 := [.ref (k2 + 1), .ref 4, .ref 9]) (fun _ _ => rfl) ?_
  obtain ⟨s2, e3, h⟩ := gb h
  refine gR_cvV (wX4_readValue_s hk2 e3) (Nat.le_of_ble_eq_true rfl) rfl rfl rfl rfl rfl ?_
  refine gR_go 2 (pc1 := 11) (L1 := [some (.ref 9), some (.ref 4), some (.ref (k2 + 1)), some (.int 0), some (.int 0), none]) (st1 := []) (fun _ _ => rfl) ?_
  obtain ⟨z26, ez26, h⟩ := gb h
  refine wX4_readSum_t11 hk2 ?_ ?_  ez26
  · intro t27 s28 w29 w30 hz
    replace hz := hz.symm
    subst hz
    dsimp only at h
    exact wX4_readSum_u95 hk2 h
  · intro t34 s35 w36 w37 hz
    replace hz := hz.symm
    subst hz
    dsimp only at h
    refine gR_go 1 (pc1 := 95) (L1 := [some (.ref 9), some (.ref 4), some (.ref (k2 + 1)), some (.int t34), some (.int w36), some (.int w37)]) (st1 := []) (fun _ _ => rfl) ?_
    exact wX4_readSum_u95 hk2 h
noncomputable def wX4_readTest_j76 (q : Nat → Int32 → wS → Option wS) (qq : Int32 → Int32 → wS → Option (Int32 × wS)) (k2 : Nat) (x3 : Int32) (x4 : Int32) (x5 : Int32) (s : wS) : Option (Int32 × wS) := qq x4 (x5 + 1) s
theorem wX4_readTest_u76 {q : Nat → Int32 → wS → Option wS} {dq : Nat} (hq : ∀ {k : Nat} {a : Int32} {s s1 : wS}, wkd k = 3 → q k a s = some s1 → gEv dq 53 [.ref 9, .ref 4, .ref (k + 1), .int a] (wmk s) (none, wmk s1, 0, 0)) (hd : 4 ≤ dq) {k2 : Nat} {x3 : Int32} {x4 : Int32} {x5 : Int32} {s : wS} {qq : Int32 → Int32 → wS → Option (Int32 × wS)} {x : Int32 × wS} {r : ri_R} (ih : ∀ {x4 : Int32} {x5 : Int32} {s : wS} , qq x4 x5 s = some x → gRun (dq + 0) 52 13 [some (.ref 9), some (.ref 4), some (.ref (k2 + 1)), some (.int x3), some (.int x4), some (.int x5)] [] (wmk s) r) (he82 : ∀ (x4 : Int32) (s : wS) (w3 : Int32) (w5 : Int32) , x = (x4, s) → gRun (dq + 0) 52 82 [some (.ref 9), some (.ref 4), some (.ref (k2 + 1)), some (.int w3), some (.int x4), some (.int w5)] [] (wmk s) r) (hk2 : wkd k2 = 3) (h : wX4_readTest_j76 q qq k2 x3 x4 x5 s = some x) : gRun (dq + 0) 52 76 [some (.ref 9), some (.ref 4), some (.ref (k2 + 1)), some (.int x3), some (.int x4), some (.int x5)] [] (wmk s) r := by
  unfold wX4_readTest_j76 at h
  refine gR_go 2 (pc1 := 13) (L1 := [some (.ref 9), some (.ref 4), some (.ref (k2 + 1)), some (.int x3), some (.int x4), some (.int (x5 + 1))]) (st1 := []) (fun _ _ => rfl) ?_
  exact ih h
noncomputable def wX4_readTest_j66 (q : Nat → Int32 → wS → Option wS) (qq : Int32 → Int32 → wS → Option (Int32 × wS)) (k2 : Nat) (x3 : Int32) (x5 : Int32) (s : wS) : Option (Int32 × wS) := (q k2 x3 s).bind fun s15 => wX4_readTest_j76 q qq k2 x3 1 x5 s15
theorem wX4_readTest_u66 {q : Nat → Int32 → wS → Option wS} {dq : Nat} (hq : ∀ {k : Nat} {a : Int32} {s s1 : wS}, wkd k = 3 → q k a s = some s1 → gEv dq 53 [.ref 9, .ref 4, .ref (k + 1), .int a] (wmk s) (none, wmk s1, 0, 0)) (hd : 4 ≤ dq) {k2 : Nat} {x3 : Int32} {x5 : Int32} {s : wS} {w4 : Int32} {qq : Int32 → Int32 → wS → Option (Int32 × wS)} {x : Int32 × wS} {r : ri_R} (ih : ∀ {x4 : Int32} {x5 : Int32} {s : wS} , qq x4 x5 s = some x → gRun (dq + 0) 52 13 [some (.ref 9), some (.ref 4), some (.ref (k2 + 1)), some (.int x3), some (.int x4), some (.int x5)] [] (wmk s) r) (he82 : ∀ (x4 : Int32) (s : wS) (w3 : Int32) (w5 : Int32) , x = (x4, s) → gRun (dq + 0) 52 82 [some (.ref 9), some (.ref 4), some (.ref (k2 + 1)), some (.int w3), some (.int x4), some (.int w5)] [] (wmk s) r) (hk2 : wkd k2 = 3) (h : wX4_readTest_j66 q qq k2 x3 x5 s = some x) : gRun (dq + 0) 52 66 [some (.ref 9), some (.ref 4), some (.ref (k2 + 1)), some (.int x3), some (.int w4), some (.int x5)] [] (wmk s) r := by
  unfold wX4_readTest_j66 at h
  refine gR_go 6 (pc1 := 73) (L1 := [some (.ref 9), some (.ref 4), some (.ref (k2 + 1)), some (.int x3), some (.int 1), some (.int x5)]) (st1 := [.int x3, .ref (k2 + 1), .ref 4, .ref 9]) (fun _ _ => rfl) ?_
  obtain ⟨s15, e16, h⟩ := gb h
  refine gR_cvV (hq hk2 e16) (by omega) rfl rfl rfl rfl rfl ?_
  exact wX4_readTest_u76 hq hd ih he82 hk2 h
noncomputable def wX4_readTest_h13 (q : Nat → Int32 → wS → Option wS) (k2 : Nat) (x3 : Int32) : Nat → Int32 → Int32 → wS → Option (Int32 × wS)
  | 0, _, _, _ => none
  | n + 1, x4, x5, s => if x5 < 400 then ((wX9_take 21 s).bind fun (t5, s6) => if t5 = 0 then ((wX9_take 20 s6).bind fun (t9, s10) => if t9 = 0 then (some (x4, s10)) else (if x4 = 0 then (wX4_readTest_j66 q (wX4_readTest_h13 q k2 x3 n) k2 x3 x5 s10) else ((wX3_put k2 20 s10).bind fun s18 => wX4_readTest_j66 q (wX4_readTest_h13 q k2 x3 n) k2 x3 x5 s18))) else ((q k2 x3 s6).bind fun s21 => (wX3_put k2 21 s21).bind fun s24 => wX4_readTest_j76 q (wX4_readTest_h13 q k2 x3 n) k2 x3 x4 x5 s24)) else (some (x4, s))
theorem wX4_readTest_t13 {q : Nat → Int32 → wS → Option wS} {dq : Nat} (hq : ∀ {k : Nat} {a : Int32} {s s1 : wS}, wkd k = 3 → q k a s = some s1 → gEv dq 53 [.ref 9, .ref 4, .ref (k + 1), .int a] (wmk s) (none, wmk s1, 0, 0)) (hd : 4 ≤ dq) {k2 : Nat} {x3 : Int32} {x : Int32 × wS} {r : ri_R} (hk2 : wkd k2 = 3) (he82 : ∀ (x4 : Int32) (s : wS) (w3 : Int32) (w5 : Int32) , x = (x4, s) → gRun (dq + 0) 52 82 [some (.ref 9), some (.ref 4), some (.ref (k2 + 1)), some (.int w3), some (.int x4), some (.int w5)] [] (wmk s) r) : ∀ {n : Nat} {x4 : Int32} {x5 : Int32} {s : wS} , wX4_readTest_h13 q k2 x3 n x4 x5 s = some x → gRun (dq + 0) 52 13 [some (.ref 9), some (.ref 4), some (.ref (k2 + 1)), some (.int x3), some (.int x4), some (.int x5)] [] (wmk s) r := by
  intro n
  induction n with
  | zero => intro x4 x5 s h; cases (show (none : Option (Int32 × wS)) = some x from h)
  | succ n ih =>
    intro x4 x5 s h
    rw [wX4_readTest_h13] at h
    refine gR_go 2 (pc1 := 18) (L1 := [some (.ref 9), some (.ref 4), some (.ref (k2 + 1)), some (.int x3), some (.int x4), some (.int x5)]) (st1 := [.int 400, .int x5]) (fun _ _ => rfl) ?_
    rcases gif h with ⟨c4, h⟩ | ⟨c4, h⟩
    · refine gR_ic_ge_f rfl c4 ?_
      refine gR_go 2 (pc1 := 24) (L1 := [some (.ref 9), some (.ref 4), some (.ref (k2 + 1)), some (.int x3), some (.int x4), some (.int x5)]) (st1 := [.int 21, .ref 4]) (fun _ _ => rfl) ?_
      obtain ⟨⟨t5, s6⟩, e7, h⟩ := gb h
      dsimp only at h
      refine gR_cvI (wX9_take_s e7) (by have := hd; omega) rfl rfl rfl rfl rfl ?_
      rcases gif h with ⟨c8, h⟩ | ⟨c8, h⟩
      · refine gR_iz_eq_j rfl c8 rfl ?_
        refine gR_go 2 (pc1 := 49) (L1 := [some (.ref 9), some (.ref 4), some (.ref (k2 + 1)), some (.int x3), some (.int x4), some (.int x5)]) (st1 := [.int 20, .ref 4]) (fun _ _ => rfl) ?_
        obtain ⟨⟨t9, s10⟩, e11, h⟩ := gb h
        dsimp only at h
        refine gR_cvI (wX9_take_s e11) (by have := hd; omega) rfl rfl rfl rfl rfl ?_
        rcases gif h with ⟨c12, h⟩ | ⟨c12, h⟩
        · refine gR_iz_eq_j rfl c12 rfl ?_
          exact he82 _ _ _ _ (Option.some.inj h).symm
        · refine gR_iz_eq_f rfl c12 ?_
          refine gR_go 1 (pc1 := 57) (L1 := [some (.ref 9), some (.ref 4), some (.ref (k2 + 1)), some (.int x3), some (.int x4), some (.int x5)]) (st1 := [.int x4]) (fun _ _ => rfl) ?_
          rcases gif h with ⟨c13, h⟩ | ⟨c13, h⟩
          · refine gR_iz_eq_j rfl c13 rfl ?_
            exact wX4_readTest_u66 hq hd ih he82 hk2 h
          · refine gR_iz_eq_f rfl c13 ?_
            refine gR_go 2 (pc1 := 63) (L1 := [some (.ref 9), some (.ref 4), some (.ref (k2 + 1)), some (.int x3), some (.int x4), some (.int x5)]) (st1 := [.int 20, .ref (k2 + 1)]) (fun _ _ => rfl) ?_
            obtain ⟨s18, e19, h⟩ := gb h
            refine gR_cvV (wX3_put_s hk2 e19) (by have := hd; omega) rfl rfl hk2 rfl rfl ?_
            exact wX4_readTest_u66 hq hd ih he82 hk2 h
      · refine gR_iz_eq_f rfl c8 ?_
        refine gR_go 4 (pc1 := 34) (L1 := [some (.ref 9), some (.ref 4), some (.ref (k2 + 1)), some (.int x3), some (.int x4), some (.int x5)]) (st1 := [.int x3, .ref (k2 + 1), .ref 4, .ref 9]) (fun _ _ => rfl) ?_
        obtain ⟨s21, e22, h⟩ := gb h
        refine gR_cvV (hq hk2 e22) (by omega) rfl rfl rfl rfl rfl ?_
        refine gR_go 2 (pc1 := 40) (L1 := [some (.ref 9), some (.ref 4), some (.ref (k2 + 1)), some (.int x3), some (.int x4), some (.int x5)]) (st1 := [.int 21, .ref (k2 + 1)]) (fun _ _ => rfl) ?_
        obtain ⟨s24, e25, h⟩ := gb h
        refine gR_cvV (wX3_put_s hk2 e25) (by have := hd; omega) rfl rfl hk2 rfl rfl ?_
        refine gR_go 1 (pc1 := 76) (L1 := [some (.ref 9), some (.ref 4), some (.ref (k2 + 1)), some (.int x3), some (.int x4), some (.int x5)]) (st1 := []) (fun _ _ => rfl) ?_
        exact wX4_readTest_u76 hq hd ih he82 hk2 h
    · refine gR_ic_ge_j rfl c4 rfl ?_
      exact he82 _ _ _ _ (Option.some.inj h).symm
noncomputable def wX4_readTest_j82 (q : Nat → Int32 → wS → Option wS) (k2 : Nat) (x4 : Int32) (s : wS) : Option (wS) := if x4 = 0 then (some s) else ((wX3_put k2 20 s).bind fun s33 => some s33)
theorem wX4_readTest_u82 {q : Nat → Int32 → wS → Option wS} {dq : Nat} (hq : ∀ {k : Nat} {a : Int32} {s s1 : wS}, wkd k = 3 → q k a s = some s1 → gEv dq 53 [.ref 9, .ref 4, .ref (k + 1), .int a] (wmk s) (none, wmk s1, 0, 0)) (hd : 4 ≤ dq) {k2 : Nat} {x4 : Int32} {s : wS} {w3 : Int32} {w5 : Int32} {rs : wS} (hk2 : wkd k2 = 3) (h : wX4_readTest_j82 q k2 x4 s = some rs) : gRun (dq + 0) 52 82 [some (.ref 9), some (.ref 4), some (.ref (k2 + 1)), some (.int w3), some (.int x4), some (.int w5)] [] (wmk s) (none, wmk rs, 0, 0) := by
  unfold wX4_readTest_j82 at h
  refine gR_go 1 (pc1 := 84) (L1 := [some (.ref 9), some (.ref 4), some (.ref (k2 + 1)), some (.int w3), some (.int x4), some (.int w5)]) (st1 := [.int x4]) (fun _ _ => rfl) ?_
  rcases gif h with ⟨c31, h⟩ | ⟨c31, h⟩
  · refine gR_iz_eq_j rfl c31 rfl ?_
    obtain rfl := gi1 h
    exact gR_rv rfl rfl
  · refine gR_iz_eq_f rfl c31 ?_
    refine gR_go 2 (pc1 := 90) (L1 := [some (.ref 9), some (.ref 4), some (.ref (k2 + 1)), some (.int w3), some (.int x4), some (.int w5)]) (st1 := [.int 20, .ref (k2 + 1)]) (fun _ _ => rfl) ?_
    obtain ⟨s33, e34, h⟩ := gb h
    refine gR_cvV (wX3_put_s hk2 e34) (by have := hd; omega) rfl rfl hk2 rfl rfl ?_
    obtain rfl := gi1 h
    exact gR_rv rfl rfl
noncomputable def wX4_readTest_b (q : Nat → Int32 → wS → Option wS) (k2 : Nat) (x3 : Int32) (s : wS) : Option (wS) := (q k2 x3 s).bind fun s2 => (wX4_readTest_h13 q k2 x3 wFuel 0 0 s2).bind fun (t27, s28) => wX4_readTest_j82 q k2 t27 s28
theorem wX4_readTest_s {q : Nat → Int32 → wS → Option wS} {dq : Nat} (hq : ∀ {k : Nat} {a : Int32} {s s1 : wS}, wkd k = 3 → q k a s = some s1 → gEv dq 53 [.ref 9, .ref 4, .ref (k + 1), .int a] (wmk s) (none, wmk s1, 0, 0)) (hd : 4 ≤ dq) {k2 : Nat} {x3 : Int32} {s : wS} {rs : wS} (hk2 : wkd k2 = 3) (h : wX4_readTest_b q k2 x3 s = some rs) : gEv ((dq + 0) + 1) 52 [.ref 9, .ref 4, .ref (k2 + 1), .int x3] (wmk s) (none, wmk rs, 0, 0) := by
  refine gEv_of (d := (dq + 0)) (L := [some (.ref 9), some (.ref 4), some (.ref (k2 + 1)), some (.int x3), none, none]) rfl ?_
  unfold wX4_readTest_b at h
  refine gR_go 6 (pc1 := 7) (L1 := [some (.ref 9), some (.ref 4), some (.ref (k2 + 1)), some (.int x3), some (.int 0), none]) (st1 := [.int x3, .ref (k2 + 1), .ref 4, .ref 9]) (fun _ _ => rfl) ?_
  obtain ⟨s2, e3, h⟩ := gb h
  refine gR_cvV (hq hk2 e3) (by omega) rfl rfl rfl rfl rfl ?_
  refine gR_go 2 (pc1 := 13) (L1 := [some (.ref 9), some (.ref 4), some (.ref (k2 + 1)), some (.int x3), some (.int 0), some (.int 0)]) (st1 := []) (fun _ _ => rfl) ?_
  obtain ⟨z26, ez26, h⟩ := gb h
  refine wX4_readTest_t13 hq hd hk2 ?_  ez26
  · intro t27 s28 w29 w30 hz
    replace hz := hz.symm
    subst hz
    dsimp only at h
    exact wX4_readTest_u82 hq hd hk2 h
noncomputable def wX4_readFact_j153 (q : Nat → Int32 → wS → Option wS) (k2 : Nat) (x6 : Int32) (s : wS) : Option (wS) := (wpfI s 8 0 ((s.1 8 0) + 1)).bind fun s22 => (wX9_skip s22).bind fun s24 => (wX4_readSum k2 s24).bind fun s27 => (wX3_put k2 x6 s27).bind fun s30 => some s30
theorem wX4_readFact_u153 {q : Nat → Int32 → wS → Option wS} {dq : Nat} (hq : ∀ {k : Nat} {a : Int32} {s s1 : wS}, wkd k = 3 → q k a s = some s1 → gEv dq 53 [.ref 9, .ref 4, .ref (k + 1), .int a] (wmk s) (none, wmk s1, 0, 0)) (hd : 4 ≤ dq) {k2 : Nat} {x6 : Int32} {s : wS} {w3 : Int32} {w4 : Int32} {w5 : Int32} {rs : wS} (hk2 : wkd k2 = 3) (h : wX4_readFact_j153 q k2 x6 s = some rs) : gRun (dq + 1) 53 153 [some (.ref 9), some (.ref 4), some (.ref (k2 + 1)), some (.int w3), some (.int w4), some (.int w5), some (.int x6)] [] (wmk s) (none, wmk rs, 0, 0) := by
  unfold wX4_readFact_j153 at h
  refine gR_go 2 (pc1 := 155) (L1 := [some (.ref 9), some (.ref 4), some (.ref (k2 + 1)), some (.int w3), some (.int w4), some (.int w5), some (.int x6)]) (st1 := [.ref 9, .ref 9]) (fun _ _ => rfl) ?_
  refine gR_gfI (k := 8) rfl rfl rfl ?_
  refine gR_go 2 (pc1 := 160) (L1 := [some (.ref 9), some (.ref 4), some (.ref (k2 + 1)), some (.int w3), some (.int w4), some (.int w5), some (.int x6)]) (st1 := [.int ((s.1 8 0) + 1), .ref 9]) (fun _ _ => rfl) ?_
  obtain ⟨s22, es22, h⟩ := gb h
  refine gR_pfI (k := 8) rfl rfl rfl rfl es22 ?_
  refine gR_go 1 (pc1 := 164) (L1 := [some (.ref 9), some (.ref 4), some (.ref (k2 + 1)), some (.int w3), some (.int w4), some (.int w5), some (.int x6)]) (st1 := [.ref 4]) (fun _ _ => rfl) ?_
  obtain ⟨s24, e25, h⟩ := gb h
  refine gR_cvV (wX9_skip_s e25) (by have := hd; omega) rfl rfl rfl rfl rfl ?_
  refine gR_go 3 (pc1 := 170) (L1 := [some (.ref 9), some (.ref 4), some (.ref (k2 + 1)), some (.int w3), some (.int w4), some (.int w5), some (.int x6)]) (st1 := [.ref (k2 + 1), .ref 4, .ref 9]) (fun _ _ => rfl) ?_
  obtain ⟨s27, e28, h⟩ := gb h
  refine gR_cvV (wX4_readSum_s hk2 e28) (by have := hd; omega) rfl rfl rfl rfl rfl ?_
  refine gR_go 2 (pc1 := 176) (L1 := [some (.ref 9), some (.ref 4), some (.ref (k2 + 1)), some (.int w3), some (.int w4), some (.int w5), some (.int x6)]) (st1 := [.int x6, .ref (k2 + 1)]) (fun _ _ => rfl) ?_
  obtain ⟨s30, e31, h⟩ := gb h
  refine gR_cvV (wX3_put_s hk2 e31) (by have := hd; omega) rfl rfl hk2 rfl rfl ?_
  obtain rfl := gi1 h
  exact gR_rv rfl rfl
noncomputable def wX4_readFact_j131 (q : Nat → Int32 → wS → Option wS) (k2 : Nat) (x6 : Int32) (s : wS) : Option (wS) := (wX9_fail 0 s).bind fun s20 => wX4_readFact_j153 q k2 x6 s20
theorem wX4_readFact_u131 {q : Nat → Int32 → wS → Option wS} {dq : Nat} (hq : ∀ {k : Nat} {a : Int32} {s s1 : wS}, wkd k = 3 → q k a s = some s1 → gEv dq 53 [.ref 9, .ref 4, .ref (k + 1), .int a] (wmk s) (none, wmk s1, 0, 0)) (hd : 4 ≤ dq) {k2 : Nat} {x6 : Int32} {s : wS} {w3 : Int32} {w4 : Int32} {w5 : Int32} {rs : wS} (hk2 : wkd k2 = 3) (h : wX4_readFact_j131 q k2 x6 s = some rs) : gRun (dq + 1) 53 131 [some (.ref 9), some (.ref 4), some (.ref (k2 + 1)), some (.int w3), some (.int w4), some (.int w5), some (.int x6)] [] (wmk s) (none, wmk rs, 0, 0) := by
  unfold wX4_readFact_j131 at h
  refine gR_go 2 (pc1 := 133) (L1 := [some (.ref 9), some (.ref 4), some (.ref (k2 + 1)), some (.int w3), some (.int w4), some (.int w5), some (.int x6)]) (st1 := [.int 0, .ref 4]) (fun _ _ => rfl) ?_
  obtain ⟨s20, e21, h⟩ := gb h
  refine gR_cvV (wX9_fail_s e21) (by have := hd; omega) rfl rfl rfl rfl rfl ?_
  refine gR_go 1 (pc1 := 153) (L1 := [some (.ref 9), some (.ref 4), some (.ref (k2 + 1)), some (.int w3), some (.int w4), some (.int w5), some (.int x6)]) (st1 := []) (fun _ _ => rfl) ?_
  exact wX4_readFact_u153 hq hd hk2 h
noncomputable def wX4_readFact_j45 (q : Nat → Int32 → wS → Option wS) (k2 : Nat) (x3 : Int32) (s : wS) : Option (wS) := (wX9_take 22 s).bind fun (t5, s6) => if t5 = 0 then ((wX9_take 4 s6).bind fun (t9, s10) => if t9 = 0 then ((wX4_readSum k2 s10).bind fun s14 => (wX9_sign s14).bind fun t16 => if t16 < 10 then (wX4_readFact_j131 q k2 t16 s14) else (if 14 < t16 then (wX4_readFact_j131 q k2 t16 s14) else (if (s14.1 8 0) < 60 then (wX4_readFact_j153 q k2 t16 s14) else ((wX9_fail 3 s14).bind fun s35 => wX4_readFact_j153 q k2 t16 s35)))) else ((wX4_readTest_b q k2 (x3 + 1) s10).bind fun s38 => (wX9_take 5 s38).bind fun (t40, s41) => if t40 = 0 then ((wX9_fail 0 s41).bind fun s45 => some s45) else (some s41))) else ((q k2 (x3 + 1) s6).bind fun s48 => (wX3_put k2 22 s48).bind fun s51 => some s51)
theorem wX4_readFact_u45 {q : Nat → Int32 → wS → Option wS} {dq : Nat} (hq : ∀ {k : Nat} {a : Int32} {s s1 : wS}, wkd k = 3 → q k a s = some s1 → gEv dq 53 [.ref 9, .ref 4, .ref (k + 1), .int a] (wmk s) (none, wmk s1, 0, 0)) (hd : 4 ≤ dq) {k2 : Nat} {x3 : Int32} {s : wS} {w4 : Int32} {w5 : Int32} {w6 : Option Value} {rs : wS} (hk2 : wkd k2 = 3) (h : wX4_readFact_j45 q k2 x3 s = some rs) : gRun (dq + 1) 53 45 [some (.ref 9), some (.ref 4), some (.ref (k2 + 1)), some (.int x3), some (.int w4), some (.int w5), w6] [] (wmk s) (none, wmk rs, 0, 0) := by
  unfold wX4_readFact_j45 at h
  refine gR_go 2 (pc1 := 48) (L1 := [some (.ref 9), some (.ref 4), some (.ref (k2 + 1)), some (.int x3), some (.int w4), some (.int w5), w6]) (st1 := [.int 22, .ref 4]) (fun _ _ => rfl) ?_
  obtain ⟨⟨t5, s6⟩, e7, h⟩ := gb h
  dsimp only at h
  refine gR_cvI (wX9_take_s e7) (by have := hd; omega) rfl rfl rfl rfl rfl ?_
  rcases gif h with ⟨c8, h⟩ | ⟨c8, h⟩
  · refine gR_iz_eq_j rfl c8 rfl ?_
    refine gR_go 2 (pc1 := 74) (L1 := [some (.ref 9), some (.ref 4), some (.ref (k2 + 1)), some (.int x3), some (.int w4), some (.int w5), w6]) (st1 := [.int 4, .ref 4]) (fun _ _ => rfl) ?_
    obtain ⟨⟨t9, s10⟩, e11, h⟩ := gb h
    dsimp only at h
    refine gR_cvI (wX9_take_s e11) (by have := hd; omega) rfl rfl rfl rfl rfl ?_
    rcases gif h with ⟨c12, h⟩ | ⟨c12, h⟩
    · refine gR_iz_eq_j rfl c12 rfl ?_
      refine gR_go 3 (pc1 := 108) (L1 := [some (.ref 9), some (.ref 4), some (.ref (k2 + 1)), some (.int x3), some (.int w4), some (.int w5), w6]) (st1 := [.ref (k2 + 1), .ref 4, .ref 9]) (fun _ _ => rfl) ?_
      obtain ⟨s14, e15, h⟩ := gb h
      refine gR_cvV (wX4_readSum_s hk2 e15) (by have := hd; omega) rfl rfl rfl rfl rfl ?_
      refine gR_go 1 (pc1 := 112) (L1 := [some (.ref 9), some (.ref 4), some (.ref (k2 + 1)), some (.int x3), some (.int w4), some (.int w5), w6]) (st1 := [.ref 4]) (fun _ _ => rfl) ?_
      obtain ⟨t16, e17, h⟩ := gb h
      refine gR_cvI (wX9_sign_s e17) (by have := hd; omega) rfl rfl rfl rfl rfl ?_
      refine gR_go 3 (pc1 := 121) (L1 := [some (.ref 9), some (.ref 4), some (.ref (k2 + 1)), some (.int x3), some (.int w4), some (.int w5), some (.int t16)]) (st1 := [.int 10, .int t16]) (fun _ _ => rfl) ?_
      rcases gif h with ⟨c18, h⟩ | ⟨c18, h⟩
      · refine gR_ic_lt_j rfl c18 rfl ?_
        exact wX4_readFact_u131 hq hd hk2 h
      · refine gR_ic_lt_f rfl c18 ?_
        refine gR_go 2 (pc1 := 128) (L1 := [some (.ref 9), some (.ref 4), some (.ref (k2 + 1)), some (.int x3), some (.int w4), some (.int w5), some (.int t16)]) (st1 := [.int 14, .int t16]) (fun _ _ => rfl) ?_
        rcases gif h with ⟨c32, h⟩ | ⟨c32, h⟩
        · refine gR_ic_le_f rfl c32 ?_
          exact wX4_readFact_u131 hq hd hk2 h
        · refine gR_ic_le_j rfl c32 rfl ?_
          refine gR_go 1 (pc1 := 140) (L1 := [some (.ref 9), some (.ref 4), some (.ref (k2 + 1)), some (.int x3), some (.int w4), some (.int w5), some (.int t16)]) (st1 := [.ref 9]) (fun _ _ => rfl) ?_
          refine gR_gfI (k := 8) rfl rfl rfl ?_
          refine gR_go 1 (pc1 := 145) (L1 := [some (.ref 9), some (.ref 4), some (.ref (k2 + 1)), some (.int x3), some (.int w4), some (.int w5), some (.int t16)]) (st1 := [.int 60, .int (s14.1 8 0)]) (fun _ _ => rfl) ?_
          rcases gif h with ⟨c33, h⟩ | ⟨c33, h⟩
          · refine gR_ic_lt_j rfl c33 rfl ?_
            exact wX4_readFact_u153 hq hd hk2 h
          · refine gR_ic_lt_f rfl c33 ?_
            refine gR_go 2 (pc1 := 150) (L1 := [some (.ref 9), some (.ref 4), some (.ref (k2 + 1)), some (.int x3), some (.int w4), some (.int w5), some (.int t16)]) (st1 := [.int 3, .ref 4]) (fun _ _ => rfl) ?_
            obtain ⟨s35, e36, h⟩ := gb h
            refine gR_cvV (wX9_fail_s e36) (by have := hd; omega) rfl rfl rfl rfl rfl ?_
            exact wX4_readFact_u153 hq hd hk2 h
    · refine gR_iz_eq_f rfl c12 ?_
      refine gR_go 6 (pc1 := 86) (L1 := [some (.ref 9), some (.ref 4), some (.ref (k2 + 1)), some (.int x3), some (.int w4), some (.int w5), w6]) (st1 := [.int (x3 + 1), .ref (k2 + 1), .ref 4, .ref 9]) (fun _ _ => rfl) ?_
      obtain ⟨s38, e39, h⟩ := gb h
      refine gR_cvV (wX4_readTest_s hq hd hk2 e39) (by omega) rfl rfl rfl rfl rfl ?_
      refine gR_go 2 (pc1 := 91) (L1 := [some (.ref 9), some (.ref 4), some (.ref (k2 + 1)), some (.int x3), some (.int w4), some (.int w5), w6]) (st1 := [.int 5, .ref 4]) (fun _ _ => rfl) ?_
      obtain ⟨⟨t40, s41⟩, e42, h⟩ := gb h
      dsimp only at h
      refine gR_cvI (wX9_take_s e42) (by have := hd; omega) rfl rfl rfl rfl rfl ?_
      rcases gif h with ⟨c43, h⟩ | ⟨c43, h⟩
      · refine gR_iz_ne_f rfl c43 ?_
        refine gR_go 2 (pc1 := 99) (L1 := [some (.ref 9), some (.ref 4), some (.ref (k2 + 1)), some (.int x3), some (.int w4), some (.int w5), w6]) (st1 := [.int 0, .ref 4]) (fun _ _ => rfl) ?_
        obtain ⟨s45, e46, h⟩ := gb h
        refine gR_cvV (wX9_fail_s e46) (by have := hd; omega) rfl rfl rfl rfl rfl ?_
        refine gR_go 1 (pc1 := 179) (L1 := [some (.ref 9), some (.ref 4), some (.ref (k2 + 1)), some (.int x3), some (.int w4), some (.int w5), w6]) (st1 := []) (fun _ _ => rfl) ?_
        obtain rfl := gi1 h
        exact gR_rv rfl rfl
      · refine gR_iz_ne_j rfl c43 rfl ?_
        obtain rfl := gi1 h
        exact gR_rv rfl rfl
  · refine gR_iz_eq_f rfl c8 ?_
    refine gR_go 6 (pc1 := 60) (L1 := [some (.ref 9), some (.ref 4), some (.ref (k2 + 1)), some (.int x3), some (.int w4), some (.int w5), w6]) (st1 := [.int (x3 + 1), .ref (k2 + 1), .ref 4, .ref 9]) (fun _ _ => rfl) ?_
    obtain ⟨s48, e49, h⟩ := gb h
    refine gR_cvV (hq hk2 e49) (by omega) rfl rfl rfl rfl rfl ?_
    refine gR_go 2 (pc1 := 66) (L1 := [some (.ref 9), some (.ref 4), some (.ref (k2 + 1)), some (.int x3), some (.int w4), some (.int w5), w6]) (st1 := [.int 22, .ref (k2 + 1)]) (fun _ _ => rfl) ?_
    obtain ⟨s51, e52, h⟩ := gb h
    refine gR_cvV (wX3_put_s hk2 e52) (by have := hd; omega) rfl rfl hk2 rfl rfl ?_
    refine gR_go 1 (pc1 := 179) (L1 := [some (.ref 9), some (.ref 4), some (.ref (k2 + 1)), some (.int x3), some (.int w4), some (.int w5), w6]) (st1 := []) (fun _ _ => rfl) ?_
    obtain rfl := gi1 h
    exact gR_rv rfl rfl
noncomputable def wX4_readFact_j24 (q : Nat → Int32 → wS → Option wS) (k2 : Nat) (x3 : Int32) (y0 : Int32) (s : wS) : Option (wS) := if y0 = 0 then (wX4_readFact_j45 q k2 x3 s) else (if x3 < 10 then (wX4_readFact_j45 q k2 x3 s) else ((wX9_fail 2 s).bind fun s55 => some s55))
theorem wX4_readFact_u24 {q : Nat → Int32 → wS → Option wS} {dq : Nat} (hq : ∀ {k : Nat} {a : Int32} {s s1 : wS}, wkd k = 3 → q k a s = some s1 → gEv dq 53 [.ref 9, .ref 4, .ref (k + 1), .int a] (wmk s) (none, wmk s1, 0, 0)) (hd : 4 ≤ dq) {k2 : Nat} {x3 : Int32} {y0 : Int32} {s : wS} {w4 : Int32} {w5 : Option Value} {w6 : Option Value} {rs : wS} (hk2 : wkd k2 = 3) (h : wX4_readFact_j24 q k2 x3 y0 s = some rs) : gRun (dq + 1) 53 24 [some (.ref 9), some (.ref 4), some (.ref (k2 + 1)), some (.int x3), some (.int w4), w5, w6] [.int y0] (wmk s) (none, wmk rs, 0, 0) := by
  unfold wX4_readFact_j24 at h
  refine gR_go 2 (pc1 := 28) (L1 := [some (.ref 9), some (.ref 4), some (.ref (k2 + 1)), some (.int x3), some (.int w4), some (.int y0), w6]) (st1 := [.int y0]) (fun _ _ => rfl) ?_
  rcases gif h with ⟨c4, h⟩ | ⟨c4, h⟩
  · refine gR_iz_eq_j rfl c4 rfl ?_
    exact wX4_readFact_u45 hq hd hk2 h
  · refine gR_iz_eq_f rfl c4 ?_
    refine gR_go 2 (pc1 := 34) (L1 := [some (.ref 9), some (.ref 4), some (.ref (k2 + 1)), some (.int x3), some (.int w4), some (.int y0), w6]) (st1 := [.int 10, .int x3]) (fun _ _ => rfl) ?_
    rcases gif h with ⟨c53, h⟩ | ⟨c53, h⟩
    · refine gR_ic_lt_j rfl c53 rfl ?_
      exact wX4_readFact_u45 hq hd hk2 h
    · refine gR_ic_lt_f rfl c53 ?_
      refine gR_go 2 (pc1 := 39) (L1 := [some (.ref 9), some (.ref 4), some (.ref (k2 + 1)), some (.int x3), some (.int w4), some (.int y0), w6]) (st1 := [.int 2, .ref 4]) (fun _ _ => rfl) ?_
      obtain ⟨s55, e56, h⟩ := gb h
      refine gR_cvV (wX9_fail_s e56) (by have := hd; omega) rfl rfl rfl rfl rfl ?_
      refine gR_go 1 (pc1 := 179) (L1 := [some (.ref 9), some (.ref 4), some (.ref (k2 + 1)), some (.int x3), some (.int w4), some (.int y0), w6]) (st1 := []) (fun _ _ => rfl) ?_
      obtain rfl := gi1 h
      exact gR_rv rfl rfl
noncomputable def wX4_readFact_j19 (q : Nat → Int32 → wS → Option wS) (k2 : Nat) (x3 : Int32) (s : wS) : Option (wS) := wX4_readFact_j24 q k2 x3 1 s
theorem wX4_readFact_u19 {q : Nat → Int32 → wS → Option wS} {dq : Nat} (hq : ∀ {k : Nat} {a : Int32} {s s1 : wS}, wkd k = 3 → q k a s = some s1 → gEv dq 53 [.ref 9, .ref 4, .ref (k + 1), .int a] (wmk s) (none, wmk s1, 0, 0)) (hd : 4 ≤ dq) {k2 : Nat} {x3 : Int32} {s : wS} {w4 : Int32} {w5 : Option Value} {w6 : Option Value} {rs : wS} (hk2 : wkd k2 = 3) (h : wX4_readFact_j19 q k2 x3 s = some rs) : gRun (dq + 1) 53 19 [some (.ref 9), some (.ref 4), some (.ref (k2 + 1)), some (.int x3), some (.int w4), w5, w6] [] (wmk s) (none, wmk rs, 0, 0) := by
  unfold wX4_readFact_j19 at h
  refine gR_go 2 (pc1 := 24) (L1 := [some (.ref 9), some (.ref 4), some (.ref (k2 + 1)), some (.int x3), some (.int w4), w5, w6]) (st1 := [.int 1]) (fun _ _ => rfl) ?_
  exact wX4_readFact_u24 hq hd hk2 h
noncomputable def wX4_readFact_b (q : Nat → Int32 → wS → Option wS) (k2 : Nat) (x3 : Int32) (s : wS) : Option (wS) := (wX9_sign s).bind fun t1 => if t1 = 22 then (wX4_readFact_j19 q k2 x3 s) else (if t1 = 4 then (wX4_readFact_j19 q k2 x3 s) else (wX4_readFact_j24 q k2 x3 0 s))
theorem wX4_readFact_s {q : Nat → Int32 → wS → Option wS} {dq : Nat} (hq : ∀ {k : Nat} {a : Int32} {s s1 : wS}, wkd k = 3 → q k a s = some s1 → gEv dq 53 [.ref 9, .ref 4, .ref (k + 1), .int a] (wmk s) (none, wmk s1, 0, 0)) (hd : 4 ≤ dq) {k2 : Nat} {x3 : Int32} {s : wS} {rs : wS} (hk2 : wkd k2 = 3) (h : wX4_readFact_b q k2 x3 s = some rs) : gEv ((dq + 1) + 1) 53 [.ref 9, .ref 4, .ref (k2 + 1), .int x3] (wmk s) (none, wmk rs, 0, 0) := by
  refine gEv_of (d := (dq + 1)) (L := [some (.ref 9), some (.ref 4), some (.ref (k2 + 1)), some (.int x3), none, none, none]) rfl ?_
  unfold wX4_readFact_b at h
  refine gR_go 1 (pc1 := 1) (L1 := [some (.ref 9), some (.ref 4), some (.ref (k2 + 1)), some (.int x3), none, none, none]) (st1 := [.ref 4]) (fun _ _ => rfl) ?_
  obtain ⟨t1, e2, h⟩ := gb h
  refine gR_cvI (wX9_sign_s e2) (by have := hd; omega) rfl rfl rfl rfl rfl ?_
  refine gR_go 3 (pc1 := 10) (L1 := [some (.ref 9), some (.ref 4), some (.ref (k2 + 1)), some (.int x3), some (.int t1), none, none]) (st1 := [.int 22, .int t1]) (fun _ _ => rfl) ?_
  rcases gif h with ⟨c3, h⟩ | ⟨c3, h⟩
  · refine gR_ic_eq_j rfl c3 rfl ?_
    exact wX4_readFact_u19 hq hd hk2 h
  · refine gR_ic_eq_f rfl c3 ?_
    refine gR_go 2 (pc1 := 16) (L1 := [some (.ref 9), some (.ref 4), some (.ref (k2 + 1)), some (.int x3), some (.int t1), none, none]) (st1 := [.int 4, .int t1]) (fun _ _ => rfl) ?_
    rcases gif h with ⟨c57, h⟩ | ⟨c57, h⟩
    · refine gR_ic_ne_f rfl c57 ?_
      exact wX4_readFact_u19 hq hd hk2 h
    · refine gR_ic_ne_j rfl c57 rfl ?_
      refine gR_go 1 (pc1 := 24) (L1 := [some (.ref 9), some (.ref 4), some (.ref (k2 + 1)), some (.int x3), some (.int t1), none, none]) (st1 := [.int 0]) (fun _ _ => rfl) ?_
      exact wX4_readFact_u24 hq hd hk2 h
noncomputable def wX4_readFact : Nat → Nat → Int32 → wS → Option (wS)
  | 0, _, _, _ => none
  | n + 1, k, a, s => wX4_readFact_b (wX4_readFact n) k a s
theorem wX4_readFact_n : ∀ n {k : Nat} {a : Int32} {s s1 : wS}, wkd k = 3 → wX4_readFact n k a s = some s1 → gEv (4 + 2 * n) 53 [.ref 9, .ref 4, .ref (k + 1), .int a] (wmk s) (none, wmk s1, 0, 0) := by
  intro n
  induction n with
  | zero => intro k a s s1 hk h; cases (show (none : Option wS) = some s1 from h)
  | succ n ih =>
    intro k a s s1 hk h
    exact wX4_readFact_s (dq := 4 + 2 * n) ih (by omega) hk h
noncomputable def wX4_readTest (k : Nat) (a : Int32) (s : wS) : Option (wS) := wX4_readTest_b (wX4_readFact 16) k a s
theorem wX4_readTest_z {k : Nat} {a : Int32} {s s1 : wS} (hk : wkd k = 3) (h : wX4_readTest k a s = some s1) : gEv 37 52 [.ref 9, .ref 4, .ref (k + 1), .int a] (wmk s) (none, wmk s1, 0, 0) := wX4_readTest_s (dq := 36) (wX4_readFact_n 16) (by omega) hk h
noncomputable def wX4_read_j101 (qq : Int32 → Int32 → wS → Option (wS)) (k2 : Nat) (x4 : Int32) (x5 : Int32) (x6 : Int32) (x7 : Int32) (s : wS) : Option (wS) := (wX3_addClause k2 x5 x6 x7 s).bind fun s26 => (wX9_take 3 s26).bind fun (t28, s29) => qq t28 (x4 + 1) s29
theorem wX4_read_u101 {k2 : Nat} {x4 : Int32} {x5 : Int32} {x6 : Int32} {x7 : Int32} {s : wS} {w3 : Int32} {qq : Int32 → Int32 → wS → Option (wS)} {x : wS} {r : ri_R} (ih : ∀ {x3 : Int32} {x4 : Int32} {s : wS} {w5 : Option Value} {w6 : Option Value} {w7 : Option Value} , qq x3 x4 s = some x → gRun 37 50 14 [some (.ref 9), some (.ref 4), some (.ref (k2 + 1)), some (.int x3), some (.int x4), w5, w6, w7] [] (wmk s) r) (he123 : ∀ (s : wS) (w2 : Nat) (w3 : Int32) (w4 : Int32) (w5 : Option Value) (w6 : Option Value) (w7 : Option Value) , x = s → gRun 37 50 123 [some (.ref 9), some (.ref 4), some (.ref (w2 + 1)), some (.int w3), some (.int w4), w5, w6, w7] [] (wmk s) r) (hk2 : wkd k2 = 3) (h : wX4_read_j101 qq k2 x4 x5 x6 x7 s = some x) : gRun 37 50 101 [some (.ref 9), some (.ref 4), some (.ref (k2 + 1)), some (.int w3), some (.int x4), some (.int x5), some (.int x6), some (.int x7)] [] (wmk s) r := by
  unfold wX4_read_j101 at h
  refine gR_go 4 (pc1 := 108) (L1 := [some (.ref 9), some (.ref 4), some (.ref (k2 + 1)), some (.int w3), some (.int x4), some (.int x5), some (.int x6), some (.int x7)]) (st1 := [.int x7, .int x6, .int x5, .ref (k2 + 1)]) (fun _ _ => rfl) ?_
  obtain ⟨s26, e27, h⟩ := gb h
  refine gR_cvV (wX3_addClause_s hk2 e27) (Nat.le_of_ble_eq_true rfl) rfl rfl hk2 rfl rfl ?_
  refine gR_go 2 (pc1 := 113) (L1 := [some (.ref 9), some (.ref 4), some (.ref (k2 + 1)), some (.int w3), some (.int x4), some (.int x5), some (.int x6), some (.int x7)]) (st1 := [.int 3, .ref 4]) (fun _ _ => rfl) ?_
  obtain ⟨⟨t28, s29⟩, e30, h⟩ := gb h
  dsimp only at h
  refine gR_cvI (wX9_take_s e30) (Nat.le_of_ble_eq_true rfl) rfl rfl rfl rfl rfl ?_
  refine gR_go 3 (pc1 := 14) (L1 := [some (.ref 9), some (.ref 4), some (.ref (k2 + 1)), some (.int t28), some (.int (x4 + 1)), some (.int x5), some (.int x6), some (.int x7)]) (st1 := []) (fun _ _ => rfl) ?_
  exact ih h
noncomputable def wX4_read_j63 (qq : Int32 → Int32 → wS → Option (wS)) (k2 : Nat) (x4 : Int32) (x5 : Int32) (s : wS) : Option (wS) := (wX9_skip s).bind fun s16 => (wX4_readSum k2 s16).bind fun s19 => (wX9_take 19 s19).bind fun (t21, s22) => if t21 = 0 then (wX4_read_j101 qq k2 x4 x5 (s16.1 k2 1) (s19.1 k2 1) s22) else ((wX4_readTest k2 0 s22).bind fun s32 => wX4_read_j101 qq k2 x4 x5 (s16.1 k2 1) (s19.1 k2 1) s32)
theorem wX4_read_u63 {k2 : Nat} {x4 : Int32} {x5 : Int32} {s : wS} {w3 : Int32} {w6 : Option Value} {w7 : Option Value} {qq : Int32 → Int32 → wS → Option (wS)} {x : wS} {r : ri_R} (ih : ∀ {x3 : Int32} {x4 : Int32} {s : wS} {w5 : Option Value} {w6 : Option Value} {w7 : Option Value} , qq x3 x4 s = some x → gRun 37 50 14 [some (.ref 9), some (.ref 4), some (.ref (k2 + 1)), some (.int x3), some (.int x4), w5, w6, w7] [] (wmk s) r) (he123 : ∀ (s : wS) (w2 : Nat) (w3 : Int32) (w4 : Int32) (w5 : Option Value) (w6 : Option Value) (w7 : Option Value) , x = s → gRun 37 50 123 [some (.ref 9), some (.ref 4), some (.ref (w2 + 1)), some (.int w3), some (.int w4), w5, w6, w7] [] (wmk s) r) (hk2 : wkd k2 = 3) (h : wX4_read_j63 qq k2 x4 x5 s = some x) : gRun 37 50 63 [some (.ref 9), some (.ref 4), some (.ref (k2 + 1)), some (.int w3), some (.int x4), some (.int x5), w6, w7] [] (wmk s) r := by
  unfold wX4_read_j63 at h
  refine gR_go 1 (pc1 := 64) (L1 := [some (.ref 9), some (.ref 4), some (.ref (k2 + 1)), some (.int w3), some (.int x4), some (.int x5), w6, w7]) (st1 := [.ref 4]) (fun _ _ => rfl) ?_
  obtain ⟨s16, e17, h⟩ := gb h
  refine gR_cvV (wX9_skip_s e17) (Nat.le_of_ble_eq_true rfl) rfl rfl rfl rfl rfl ?_
  refine gR_go 1 (pc1 := 68) (L1 := [some (.ref 9), some (.ref 4), some (.ref (k2 + 1)), some (.int w3), some (.int x4), some (.int x5), w6, w7]) (st1 := [.ref (k2 + 1)]) (fun _ _ => rfl) ?_
  refine gR_gfI (k := k2) rfl hk2 rfl ?_
  refine gR_go 4 (pc1 := 76) (L1 := [some (.ref 9), some (.ref 4), some (.ref (k2 + 1)), some (.int w3), some (.int x4), some (.int x5), some (.int (s16.1 k2 1)), w7]) (st1 := [.ref (k2 + 1), .ref 4, .ref 9]) (fun _ _ => rfl) ?_
  obtain ⟨s19, e20, h⟩ := gb h
  refine gR_cvV (wX4_readSum_s hk2 e20) (Nat.le_of_ble_eq_true rfl) rfl rfl rfl rfl rfl ?_
  refine gR_go 1 (pc1 := 80) (L1 := [some (.ref 9), some (.ref 4), some (.ref (k2 + 1)), some (.int w3), some (.int x4), some (.int x5), some (.int (s16.1 k2 1)), w7]) (st1 := [.ref (k2 + 1)]) (fun _ _ => rfl) ?_
  refine gR_gfI (k := k2) rfl hk2 rfl ?_
  refine gR_go 3 (pc1 := 88) (L1 := [some (.ref 9), some (.ref 4), some (.ref (k2 + 1)), some (.int w3), some (.int x4), some (.int x5), some (.int (s16.1 k2 1)), some (.int (s19.1 k2 1))]) (st1 := [.int 19, .ref 4]) (fun _ _ => rfl) ?_
  obtain ⟨⟨t21, s22⟩, e23, h⟩ := gb h
  dsimp only at h
  refine gR_cvI (wX9_take_s e23) (Nat.le_of_ble_eq_true rfl) rfl rfl rfl rfl rfl ?_
  rcases gif h with ⟨c24, h⟩ | ⟨c24, h⟩
  · refine gR_iz_eq_j rfl c24 rfl ?_
    exact wX4_read_u101 ih he123 hk2 h
  · refine gR_iz_eq_f rfl c24 ?_
    refine gR_go 4 (pc1 := 98) (L1 := [some (.ref 9), some (.ref 4), some (.ref (k2 + 1)), some (.int w3), some (.int x4), some (.int x5), some (.int (s16.1 k2 1)), some (.int (s19.1 k2 1))]) (st1 := [.int 0, .ref (k2 + 1), .ref 4, .ref 9]) (fun _ _ => rfl) ?_
    obtain ⟨s32, e33, h⟩ := gb h
    refine gR_cvV (wX4_readTest_z hk2 e33) (Nat.le_of_ble_eq_true rfl) rfl rfl rfl rfl rfl ?_
    exact wX4_read_u101 ih he123 hk2 h
noncomputable def wX4_read_h14 (k2 : Nat) : Nat → Int32 → Int32 → wS → Option (wS)
  | 0, _, _, _ => none
  | n + 1, x3, x4, s => if x4 < 400 then (if x3 = 0 then (some s) else ((wX9_sign s).bind fun t7 => (wX4_kindOf t7 s).bind fun t9 => if t9 = (-1) then ((wX9_fail 0 s).bind fun s13 => wX4_read_j63 (wX4_read_h14 k2 n) k2 x4 t9 s13) else (if (s.1 k2 6) < 12 then (wX4_read_j63 (wX4_read_h14 k2 n) k2 x4 t9 s) else ((wX9_fail 4 s).bind fun s36 => wX4_read_j63 (wX4_read_h14 k2 n) k2 x4 t9 s36)))) else (some s)
theorem wX4_read_t14 {k2 : Nat} {x : wS} {r : ri_R} (hk2 : wkd k2 = 3) (he123 : ∀ (s : wS) (w2 : Nat) (w3 : Int32) (w4 : Int32) (w5 : Option Value) (w6 : Option Value) (w7 : Option Value) , x = s → gRun 37 50 123 [some (.ref 9), some (.ref 4), some (.ref (w2 + 1)), some (.int w3), some (.int w4), w5, w6, w7] [] (wmk s) r) : ∀ {n : Nat} {x3 : Int32} {x4 : Int32} {s : wS} {w5 : Option Value} {w6 : Option Value} {w7 : Option Value} , wX4_read_h14 k2 n x3 x4 s = some x → gRun 37 50 14 [some (.ref 9), some (.ref 4), some (.ref (k2 + 1)), some (.int x3), some (.int x4), w5, w6, w7] [] (wmk s) r := by
  intro n
  induction n with
  | zero => intro x3 x4 s w5 w6 w7 h; cases (show (none : Option (wS)) = some x from h)
  | succ n ih =>
    intro x3 x4 s w5 w6 w7 h
    rw [wX4_read_h14] at h
    refine gR_go 2 (pc1 := 19) (L1 := [some (.ref 9), some (.ref 4), some (.ref (k2 + 1)), some (.int x3), some (.int x4), w5, w6, w7]) (st1 := [.int 400, .int x4]) (fun _ _ => rfl) ?_
    rcases gif h with ⟨c5, h⟩ | ⟨c5, h⟩
    · refine gR_ic_ge_f rfl c5 ?_
      refine gR_go 1 (pc1 := 23) (L1 := [some (.ref 9), some (.ref 4), some (.ref (k2 + 1)), some (.int x3), some (.int x4), w5, w6, w7]) (st1 := [.int x3]) (fun _ _ => rfl) ?_
      rcases gif h with ⟨c6, h⟩ | ⟨c6, h⟩
      · refine gR_iz_eq_j rfl c6 rfl ?_
        exact he123 _ _ _ _ _ _ _ (Option.some.inj h).symm
      · refine gR_iz_eq_f rfl c6 ?_
        refine gR_go 1 (pc1 := 27) (L1 := [some (.ref 9), some (.ref 4), some (.ref (k2 + 1)), some (.int x3), some (.int x4), w5, w6, w7]) (st1 := [.ref 4]) (fun _ _ => rfl) ?_
        obtain ⟨t7, e8, h⟩ := gb h
        refine gR_cvI (wX9_sign_s e8) (Nat.le_of_ble_eq_true rfl) rfl rfl rfl rfl rfl ?_
        obtain ⟨t9, e10, h⟩ := gb h
        refine gR_csI (wX4_kindOf_s e10) (Nat.le_of_ble_eq_true rfl) rfl rfl rfl rfl ?_
        refine gR_go 3 (pc1 := 38) (L1 := [some (.ref 9), some (.ref 4), some (.ref (k2 + 1)), some (.int x3), some (.int x4), some (.int t9), w6, w7]) (st1 := [.int (-1), .int t9]) (fun _ _ => rfl) ?_
        rcases gif h with ⟨c11, h⟩ | ⟨c11, h⟩
        · refine gR_ic_ne_f rfl c11 ?_
          refine gR_go 2 (pc1 := 43) (L1 := [some (.ref 9), some (.ref 4), some (.ref (k2 + 1)), some (.int x3), some (.int x4), some (.int t9), w6, w7]) (st1 := [.int 0, .ref 4]) (fun _ _ => rfl) ?_
          obtain ⟨s13, e14, h⟩ := gb h
          refine gR_cvV (wX9_fail_s e14) (Nat.le_of_ble_eq_true rfl) rfl rfl rfl rfl rfl ?_
          refine gR_go 1 (pc1 := 63) (L1 := [some (.ref 9), some (.ref 4), some (.ref (k2 + 1)), some (.int x3), some (.int x4), some (.int t9), w6, w7]) (st1 := []) (fun _ _ => rfl) ?_
          exact wX4_read_u63 ih he123 hk2 h
        · refine gR_ic_ne_j rfl c11 rfl ?_
          refine gR_go 1 (pc1 := 50) (L1 := [some (.ref 9), some (.ref 4), some (.ref (k2 + 1)), some (.int x3), some (.int x4), some (.int t9), w6, w7]) (st1 := [.ref (k2 + 1)]) (fun _ _ => rfl) ?_
          refine gR_gfI (k := k2) rfl hk2 rfl ?_
          refine gR_go 1 (pc1 := 55) (L1 := [some (.ref 9), some (.ref 4), some (.ref (k2 + 1)), some (.int x3), some (.int x4), some (.int t9), w6, w7]) (st1 := [.int 12, .int (s.1 k2 6)]) (fun _ _ => rfl) ?_
          rcases gif h with ⟨c34, h⟩ | ⟨c34, h⟩
          · refine gR_ic_lt_j rfl c34 rfl ?_
            exact wX4_read_u63 ih he123 hk2 h
          · refine gR_ic_lt_f rfl c34 ?_
            refine gR_go 2 (pc1 := 60) (L1 := [some (.ref 9), some (.ref 4), some (.ref (k2 + 1)), some (.int x3), some (.int x4), some (.int t9), w6, w7]) (st1 := [.int 4, .ref 4]) (fun _ _ => rfl) ?_
            obtain ⟨s36, e37, h⟩ := gb h
            refine gR_cvV (wX9_fail_s e37) (Nat.le_of_ble_eq_true rfl) rfl rfl rfl rfl rfl ?_
            exact wX4_read_u63 ih he123 hk2 h
    · refine gR_ic_ge_j rfl c5 rfl ?_
      exact he123 _ _ _ _ _ _ _ (Option.some.inj h).symm
noncomputable def wX4_read_j123 (s : wS) : Option (wS) := (wX9_sign s).bind fun t46 => if t46 = 0 then (some s) else ((wX9_fail 0 s).bind fun s50 => some s50)
theorem wX4_read_u123 {s : wS} {w2 : Nat} {w3 : Int32} {w4 : Int32} {w5 : Option Value} {w6 : Option Value} {w7 : Option Value} {rs : wS} (h : wX4_read_j123 s = some rs) : gRun 37 50 123 [some (.ref 9), some (.ref 4), some (.ref (w2 + 1)), some (.int w3), some (.int w4), w5, w6, w7] [] (wmk s) (none, wmk rs, 0, 0) := by
  unfold wX4_read_j123 at h
  refine gR_go 1 (pc1 := 124) (L1 := [some (.ref 9), some (.ref 4), some (.ref (w2 + 1)), some (.int w3), some (.int w4), w5, w6, w7]) (st1 := [.ref 4]) (fun _ _ => rfl) ?_
  obtain ⟨t46, e47, h⟩ := gb h
  refine gR_cvI (wX9_sign_s e47) (Nat.le_of_ble_eq_true rfl) rfl rfl rfl rfl rfl ?_
  rcases gif h with ⟨c48, h⟩ | ⟨c48, h⟩
  · refine gR_iz_eq_j rfl c48 rfl ?_
    obtain rfl := gi1 h
    exact gR_rv rfl rfl
  · refine gR_iz_eq_f rfl c48 ?_
    refine gR_go 2 (pc1 := 132) (L1 := [some (.ref 9), some (.ref 4), some (.ref (w2 + 1)), some (.int w3), some (.int w4), w5, w6, w7]) (st1 := [.int 0, .ref 4]) (fun _ _ => rfl) ?_
    obtain ⟨s50, e51, h⟩ := gb h
    refine gR_cvV (wX9_fail_s e51) (Nat.le_of_ble_eq_true rfl) rfl rfl rfl rfl rfl ?_
    obtain rfl := gi1 h
    exact gR_rv rfl rfl
noncomputable def wX4_read (k2 : Nat) (s : wS) : Option (wS) := (wpfI s 8 0 0).bind fun s1 => (wX3_clear k2 s1).bind fun s3 => (wX4_read_h14 k2 wFuel 1 0 s3).bind fun s39 => wX4_read_j123 s39
theorem wX4_read_s {k2 : Nat} {s : wS} {rs : wS} (hk2 : wkd k2 = 3) (h : wX4_read k2 s = some rs) : gEv 38 50 [.ref 9, .ref 4, .ref (k2 + 1)] (wmk s) (none, wmk rs, 0, 0) := by
  refine gEv_of (d := 37) (L := [some (.ref 9), some (.ref 4), some (.ref (k2 + 1)), none, none, none, none, none]) rfl ?_
  unfold wX4_read at h
  refine gR_go 2 (pc1 := 2) (L1 := [some (.ref 9), some (.ref 4), some (.ref (k2 + 1)), none, none, none, none, none]) (st1 := [.int 0, .ref 9]) (fun _ _ => rfl) ?_
  obtain ⟨s1, es1, h⟩ := gb h
  refine gR_pfI (k := 8) rfl rfl rfl rfl es1 ?_
  refine gR_go 1 (pc1 := 6) (L1 := [some (.ref 9), some (.ref 4), some (.ref (k2 + 1)), none, none, none, none, none]) (st1 := [.ref (k2 + 1)]) (fun _ _ => rfl) ?_
  obtain ⟨s3, e4, h⟩ := gb h
  refine gR_cvV (wX3_clear_s hk2 e4) (Nat.le_of_ble_eq_true rfl) rfl rfl hk2 rfl rfl ?_
  refine gR_go 4 (pc1 := 14) (L1 := [some (.ref 9), some (.ref 4), some (.ref (k2 + 1)), some (.int 1), some (.int 0), none, none, none]) (st1 := []) (fun _ _ => rfl) ?_
  obtain ⟨z38, ez38, h⟩ := gb h
  refine wX4_read_t14 hk2 ?_  ez38
  · intro s39 w40 w41 w42 w43 w44 w45 hz
    replace hz := hz.symm
    subst hz
    exact wX4_read_u123 h
noncomputable def wX5_add (x1 : Int32) (x2 : Int32) (x3 : Int32) (s : wS) : Option (wS) := (wX10_isOutside (s.1 28 3) 84 s).bind fun t1 => if t1 = 0 then ((wstI s 29 84 (s.1 28 3) x1).bind fun s4 => (wstI s4 30 84 (s4.1 28 3) x2).bind fun s5 => (wstI s5 31 84 (s5.1 28 3) x3).bind fun s6 => (wpfI s6 28 3 ((s6.1 28 3) + 1)).bind fun s7 => some s7) else (some s)
theorem wX5_add_s {x1 : Int32} {x2 : Int32} {x3 : Int32} {s : wS} {rs : wS} (h : wX5_add x1 x2 x3 s = some rs) : gEv 2 58 [.ref 29, .int x1, .int x2, .int x3] (wmk s) (none, wmk rs, 0, 0) := by
  refine gEv_of (d := 1) (L := [some (.ref 29), some (.int x1), some (.int x2), some (.int x3)]) rfl ?_
  unfold wX5_add at h
  refine gR_go 1 (pc1 := 1) (L1 := [some (.ref 29), some (.int x1), some (.int x2), some (.int x3)]) (st1 := [.ref 29]) (fun _ _ => rfl) ?_
  refine gR_gfI (k := 28) rfl rfl rfl ?_
  refine gR_go 1 (pc1 := 6) (L1 := [some (.ref 29), some (.int x1), some (.int x2), some (.int x3)]) (st1 := [.int 84, .int (s.1 28 3)]) (fun _ _ => rfl) ?_
  obtain ⟨t1, e2, h⟩ := gb h
  refine gR_csI (wX10_isOutside_s e2) (Nat.le_of_ble_eq_true rfl) rfl rfl rfl rfl ?_
  rcases gif h with ⟨c3, h⟩ | ⟨c3, h⟩
  · refine gR_iz_ne_f rfl c3 ?_
    refine gR_go 1 (pc1 := 13) (L1 := [some (.ref 29), some (.int x1), some (.int x2), some (.int x3)]) (st1 := [.ref 29]) (fun _ _ => rfl) ?_
    refine gR_gfR (k := 28) (k' := 29) rfl rfl rfl rfl ?_
    refine gR_go 1 (pc1 := 17) (L1 := [some (.ref 29), some (.int x1), some (.int x2), some (.int x3)]) (st1 := [.ref 29, .ref 30]) (fun _ _ => rfl) ?_
    refine gR_gfI (k := 28) rfl rfl rfl ?_
    refine gR_go 1 (pc1 := 21) (L1 := [some (.ref 29), some (.int x1), some (.int x2), some (.int x3)]) (st1 := [.int x1, .int (s.1 28 3), .ref 30]) (fun _ _ => rfl) ?_
    obtain ⟨s4, es4, h⟩ := gb h
    refine gR_ias (k := 29) rfl rfl rfl es4 ?_
    refine gR_go 1 (pc1 := 23) (L1 := [some (.ref 29), some (.int x1), some (.int x2), some (.int x3)]) (st1 := [.ref 29]) (fun _ _ => rfl) ?_
    refine gR_gfR (k := 28) (k' := 30) rfl rfl rfl rfl ?_
    refine gR_go 1 (pc1 := 27) (L1 := [some (.ref 29), some (.int x1), some (.int x2), some (.int x3)]) (st1 := [.ref 29, .ref 31]) (fun _ _ => rfl) ?_
    refine gR_gfI (k := 28) rfl rfl rfl ?_
    refine gR_go 1 (pc1 := 31) (L1 := [some (.ref 29), some (.int x1), some (.int x2), some (.int x3)]) (st1 := [.int x2, .int (s4.1 28 3), .ref 31]) (fun _ _ => rfl) ?_
    obtain ⟨s5, es5, h⟩ := gb h
    refine gR_ias (k := 30) rfl rfl rfl es5 ?_
    refine gR_go 1 (pc1 := 33) (L1 := [some (.ref 29), some (.int x1), some (.int x2), some (.int x3)]) (st1 := [.ref 29]) (fun _ _ => rfl) ?_
    refine gR_gfR (k := 28) (k' := 31) rfl rfl rfl rfl ?_
    refine gR_go 1 (pc1 := 37) (L1 := [some (.ref 29), some (.int x1), some (.int x2), some (.int x3)]) (st1 := [.ref 29, .ref 32]) (fun _ _ => rfl) ?_
    refine gR_gfI (k := 28) rfl rfl rfl ?_
    refine gR_go 1 (pc1 := 41) (L1 := [some (.ref 29), some (.int x1), some (.int x2), some (.int x3)]) (st1 := [.int x3, .int (s5.1 28 3), .ref 32]) (fun _ _ => rfl) ?_
    obtain ⟨s6, es6, h⟩ := gb h
    refine gR_ias (k := 31) rfl rfl rfl es6 ?_
    refine gR_go 2 (pc1 := 44) (L1 := [some (.ref 29), some (.int x1), some (.int x2), some (.int x3)]) (st1 := [.ref 29, .ref 29]) (fun _ _ => rfl) ?_
    refine gR_gfI (k := 28) rfl rfl rfl ?_
    refine gR_go 2 (pc1 := 49) (L1 := [some (.ref 29), some (.int x1), some (.int x2), some (.int x3)]) (st1 := [.int ((s6.1 28 3) + 1), .ref 29]) (fun _ _ => rfl) ?_
    obtain ⟨s7, es7, h⟩ := gb h
    refine gR_pfI (k := 28) rfl rfl rfl rfl es7 ?_
    obtain rfl := gi1 h
    exact gR_rv rfl rfl
  · refine gR_iz_ne_j rfl c3 rfl ?_
    obtain rfl := gi1 h
    exact gR_rv rfl rfl
noncomputable def wX5_fill_h28 (k1 : Nat) (x2 : Int32) (x3 : Int32) : Nat → Int32 → wS → Option (wS)
  | 0, _, _ => none
  | n + 1, x4, s => (wX0_manyOf k1 x2 s).bind fun t6 => if x4 < t6 then ((wX5_add x2 x3 x4 s).bind fun s10 => wX5_fill_h28 k1 x2 x3 n (x4 + 1) s10) else (some s)
theorem wX5_fill_t28 {k1 : Nat} {x2 : Int32} {x3 : Int32} {x : wS} {r : ri_R} (hk1 : wkd k1 = 0) (he52 : ∀ (s : wS) (w4 : Int32) , x = s → gRun 2 57 52 [some (.ref 29), some (.ref (k1 + 1)), some (.int x2), some (.int x3), some (.int w4)] [] (wmk s) r) : ∀ {n : Nat} {x4 : Int32} {s : wS} , wX5_fill_h28 k1 x2 x3 n x4 s = some x → gRun 2 57 28 [some (.ref 29), some (.ref (k1 + 1)), some (.int x2), some (.int x3), some (.int x4)] [] (wmk s) r := by
  intro n
  induction n with
  | zero => intro x4 s h; cases (show (none : Option (wS)) = some x from h)
  | succ n ih =>
    intro x4 s h
    rw [wX5_fill_h28] at h
    refine gR_go 3 (pc1 := 32) (L1 := [some (.ref 29), some (.ref (k1 + 1)), some (.int x2), some (.int x3), some (.int x4)]) (st1 := [.int x2, .ref (k1 + 1), .int x4]) (fun _ _ => rfl) ?_
    obtain ⟨t6, e7, h⟩ := gb h
    refine gR_cvI (wX0_manyOf_s hk1 e7) (Nat.le_of_ble_eq_true rfl) rfl rfl hk1 rfl rfl ?_
    rcases gif h with ⟨c8, h⟩ | ⟨c8, h⟩
    · refine gR_ic_ge_f rfl c8 ?_
      refine gR_go 4 (pc1 := 43) (L1 := [some (.ref 29), some (.ref (k1 + 1)), some (.int x2), some (.int x3), some (.int x4)]) (st1 := [.int x4, .int x3, .int x2, .ref 29]) (fun _ _ => rfl) ?_
      obtain ⟨s10, e11, h⟩ := gb h
      refine gR_cvV (wX5_add_s e11) (Nat.le_of_ble_eq_true rfl) rfl rfl rfl rfl rfl ?_
      refine gR_go 2 (pc1 := 28) (L1 := [some (.ref 29), some (.ref (k1 + 1)), some (.int x2), some (.int x3), some (.int (x4 + 1))]) (st1 := []) (fun _ _ => rfl) ?_
      exact ih h
    · refine gR_ic_ge_j rfl c8 rfl ?_
      exact he52 _ _ (Option.some.inj h).symm
noncomputable def wX5_fill_h14 (k1 : Nat) (x2 : Int32) : Nat → Int32 → wS → Option (wS)
  | 0, _, _ => none
  | n + 1, x3, s => (wX0_manyOf k1 x2 s).bind fun t3 => if x3 < t3 then ((wX5_fill_h28 k1 x2 x3 wFuel (x3 + 1) s).bind fun s13 => wX5_fill_h14 k1 x2 n (x3 + 1) s13) else (some s)
theorem wX5_fill_t14 {k1 : Nat} {x2 : Int32} {x : wS} {r : ri_R} (hk1 : wkd k1 = 0) (he58 : ∀ (s : wS) (w3 : Int32) (w4 : Option Value) , x = s → gRun 2 57 58 [some (.ref 29), some (.ref (k1 + 1)), some (.int x2), some (.int w3), w4] [] (wmk s) r) : ∀ {n : Nat} {x3 : Int32} {s : wS} {w4 : Option Value} , wX5_fill_h14 k1 x2 n x3 s = some x → gRun 2 57 14 [some (.ref 29), some (.ref (k1 + 1)), some (.int x2), some (.int x3), w4] [] (wmk s) r := by
  intro n
  induction n with
  | zero => intro x3 s w4 h; cases (show (none : Option (wS)) = some x from h)
  | succ n ih =>
    intro x3 s w4 h
    rw [wX5_fill_h14] at h
    refine gR_go 3 (pc1 := 17) (L1 := [some (.ref 29), some (.ref (k1 + 1)), some (.int x2), some (.int x3), w4]) (st1 := [.int x2, .ref (k1 + 1), .int x3]) (fun _ _ => rfl) ?_
    obtain ⟨t3, e4, h⟩ := gb h
    refine gR_cvI (wX0_manyOf_s hk1 e4) (Nat.le_of_ble_eq_true rfl) rfl rfl hk1 rfl rfl ?_
    rcases gif h with ⟨c5, h⟩ | ⟨c5, h⟩
    · refine gR_ic_ge_f rfl c5 ?_
      refine gR_go 4 (pc1 := 28) (L1 := [some (.ref 29), some (.ref (k1 + 1)), some (.int x2), some (.int x3), some (.int (x3 + 1))]) (st1 := []) (fun _ _ => rfl) ?_
      obtain ⟨z12, ez12, h⟩ := gb h
      refine wX5_fill_t28 hk1 ?_  ez12
      · intro s13 w14 hz
        replace hz := hz.symm
        subst hz
        refine gR_go 2 (pc1 := 14) (L1 := [some (.ref 29), some (.ref (k1 + 1)), some (.int x2), some (.int (x3 + 1)), some (.int w14)]) (st1 := []) (fun _ _ => rfl) ?_
        exact ih h
    · refine gR_ic_ge_j rfl c5 rfl ?_
      exact he58 _ _ _ (Option.some.inj h).symm
noncomputable def wX5_fill_h7 (k1 : Nat) : Nat → Int32 → wS → Option (wS)
  | 0, _, _ => none
  | n + 1, x2, s => if x2 < 3 then ((wX5_fill_h14 k1 x2 wFuel 0 s).bind fun s16 => wX5_fill_h7 k1 n (x2 + 1) s16) else (some s)
theorem wX5_fill_t7 {k1 : Nat} {x : wS} {r : ri_R} (hk1 : wkd k1 = 0) (he64 : ∀ (s : wS) (w1 : Nat) (w2 : Int32) (w3 : Option Value) (w4 : Option Value) , x = s → gRun 2 57 64 [some (.ref 29), some (.ref (w1 + 1)), some (.int w2), w3, w4] [] (wmk s) r) : ∀ {n : Nat} {x2 : Int32} {s : wS} {w3 : Option Value} {w4 : Option Value} , wX5_fill_h7 k1 n x2 s = some x → gRun 2 57 7 [some (.ref 29), some (.ref (k1 + 1)), some (.int x2), w3, w4] [] (wmk s) r := by
  intro n
  induction n with
  | zero => intro x2 s w3 w4 h; cases (show (none : Option (wS)) = some x from h)
  | succ n ih =>
    intro x2 s w3 w4 h
    rw [wX5_fill_h7] at h
    refine gR_go 2 (pc1 := 9) (L1 := [some (.ref 29), some (.ref (k1 + 1)), some (.int x2), w3, w4]) (st1 := [.int 3, .int x2]) (fun _ _ => rfl) ?_
    rcases gif h with ⟨c2, h⟩ | ⟨c2, h⟩
    · refine gR_ic_ge_f rfl c2 ?_
      refine gR_go 2 (pc1 := 14) (L1 := [some (.ref 29), some (.ref (k1 + 1)), some (.int x2), some (.int 0), w4]) (st1 := []) (fun _ _ => rfl) ?_
      obtain ⟨z15, ez15, h⟩ := gb h
      refine wX5_fill_t14 hk1 ?_  ez15
      · intro s16 w17 w18 hz
        replace hz := hz.symm
        subst hz
        refine gR_go 2 (pc1 := 7) (L1 := [some (.ref 29), some (.ref (k1 + 1)), some (.int (x2 + 1)), some (.int w17), w18]) (st1 := []) (fun _ _ => rfl) ?_
        exact ih h
    · refine gR_ic_ge_j rfl c2 rfl ?_
      exact he64 _ _ _ _ _ (Option.some.inj h).symm
noncomputable def wX5_fill (k1 : Nat) (s : wS) : Option (wS) := (wpfI s 28 3 0).bind fun s1 => (wX5_fill_h7 k1 wFuel 0 s1).bind fun s20 => some s20
theorem wX5_fill_s {k1 : Nat} {s : wS} {rs : wS} (hk1 : wkd k1 = 0) (h : wX5_fill k1 s = some rs) : gEv 3 57 [.ref 29, .ref (k1 + 1)] (wmk s) (none, wmk rs, 0, 0) := by
  refine gEv_of (d := 2) (L := [some (.ref 29), some (.ref (k1 + 1)), none, none, none]) rfl ?_
  unfold wX5_fill at h
  refine gR_go 2 (pc1 := 2) (L1 := [some (.ref 29), some (.ref (k1 + 1)), none, none, none]) (st1 := [.int 0, .ref 29]) (fun _ _ => rfl) ?_
  obtain ⟨s1, es1, h⟩ := gb h
  refine gR_pfI (k := 28) rfl rfl rfl rfl es1 ?_
  refine gR_go 2 (pc1 := 7) (L1 := [some (.ref 29), some (.ref (k1 + 1)), some (.int 0), none, none]) (st1 := []) (fun _ _ => rfl) ?_
  obtain ⟨z19, ez19, h⟩ := gb h
  refine wX5_fill_t7 hk1 ?_  ez19
  · intro s20 w21 w22 w23 w24 hz
    replace hz := hz.symm
    subst hz
    obtain rfl := gi1 h
    exact gR_rv rfl rfl
noncomputable def wX5_nearForFirst (k1 : Nat) (x2 : Int32) (s : wS) : Option (Int32) := (wX10_at 29 x2 s).bind fun t1 => (wX10_at 30 x2 s).bind fun t3 => (wX10_at 31 x2 s).bind fun t5 => (wX3_nearOf k1 t1 t3 t5 s).bind fun t7 => some t7
theorem wX5_nearForFirst_s {k1 : Nat} {x2 : Int32} {s : wS} {rv : Int32} (hk1 : wkd k1 = 3) (h : wX5_nearForFirst k1 x2 s = some rv) : gEv 4 59 [.ref 29, .ref (k1 + 1), .int x2] (wmk s) (some (.int rv), wmk s, 0, 0) := by
  refine gEv_of (d := 3) (L := [some (.ref 29), some (.ref (k1 + 1)), some (.int x2)]) rfl ?_
  unfold wX5_nearForFirst at h
  refine gR_go 2 (pc1 := 2) (L1 := [some (.ref 29), some (.ref (k1 + 1)), some (.int x2)]) (st1 := [.ref 29, .ref (k1 + 1)]) (fun _ _ => rfl) ?_
  refine gR_gfR (k := 28) (k' := 29) rfl rfl rfl rfl ?_
  refine gR_go 1 (pc1 := 6) (L1 := [some (.ref 29), some (.ref (k1 + 1)), some (.int x2)]) (st1 := [.int x2, .ref 30, .ref (k1 + 1)]) (fun _ _ => rfl) ?_
  obtain ⟨t1, e2, h⟩ := gb h
  refine gR_csI (wX10_at_s rfl e2) (Nat.le_of_ble_eq_true rfl) rfl rfl rfl rfl ?_
  refine gR_go 1 (pc1 := 10) (L1 := [some (.ref 29), some (.ref (k1 + 1)), some (.int x2)]) (st1 := [.ref 29, .int t1, .ref (k1 + 1)]) (fun _ _ => rfl) ?_
  refine gR_gfR (k := 28) (k' := 30) rfl rfl rfl rfl ?_
  refine gR_go 1 (pc1 := 14) (L1 := [some (.ref 29), some (.ref (k1 + 1)), some (.int x2)]) (st1 := [.int x2, .ref 31, .int t1, .ref (k1 + 1)]) (fun _ _ => rfl) ?_
  obtain ⟨t3, e4, h⟩ := gb h
  refine gR_csI (wX10_at_s rfl e4) (Nat.le_of_ble_eq_true rfl) rfl rfl rfl rfl ?_
  refine gR_go 1 (pc1 := 18) (L1 := [some (.ref 29), some (.ref (k1 + 1)), some (.int x2)]) (st1 := [.ref 29, .int t3, .int t1, .ref (k1 + 1)]) (fun _ _ => rfl) ?_
  refine gR_gfR (k := 28) (k' := 31) rfl rfl rfl rfl ?_
  refine gR_go 1 (pc1 := 22) (L1 := [some (.ref 29), some (.ref (k1 + 1)), some (.int x2)]) (st1 := [.int x2, .ref 32, .int t3, .int t1, .ref (k1 + 1)]) (fun _ _ => rfl) ?_
  obtain ⟨t5, e6, h⟩ := gb h
  refine gR_csI (wX10_at_s rfl e6) (Nat.le_of_ble_eq_true rfl) rfl rfl rfl rfl ?_
  obtain ⟨t7, e8, h⟩ := gb h
  refine gR_cvI (wX3_nearOf_s hk1 e8) (Nat.le_of_ble_eq_true rfl) rfl rfl hk1 rfl rfl ?_
  obtain rfl := gi1 h
  exact gR_ri rfl rfl
noncomputable def wX5_nearForSecond (k1 : Nat) (x2 : Int32) (s : wS) : Option (Int32) := (wX10_at 29 x2 s).bind fun t1 => (wX10_at 31 x2 s).bind fun t3 => (wX10_at 30 x2 s).bind fun t5 => (wX3_nearOf k1 t1 t3 t5 s).bind fun t7 => some t7
theorem wX5_nearForSecond_s {k1 : Nat} {x2 : Int32} {s : wS} {rv : Int32} (hk1 : wkd k1 = 3) (h : wX5_nearForSecond k1 x2 s = some rv) : gEv 4 60 [.ref 29, .ref (k1 + 1), .int x2] (wmk s) (some (.int rv), wmk s, 0, 0) := by
  refine gEv_of (d := 3) (L := [some (.ref 29), some (.ref (k1 + 1)), some (.int x2)]) rfl ?_
  unfold wX5_nearForSecond at h
  refine gR_go 2 (pc1 := 2) (L1 := [some (.ref 29), some (.ref (k1 + 1)), some (.int x2)]) (st1 := [.ref 29, .ref (k1 + 1)]) (fun _ _ => rfl) ?_
  refine gR_gfR (k := 28) (k' := 29) rfl rfl rfl rfl ?_
  refine gR_go 1 (pc1 := 6) (L1 := [some (.ref 29), some (.ref (k1 + 1)), some (.int x2)]) (st1 := [.int x2, .ref 30, .ref (k1 + 1)]) (fun _ _ => rfl) ?_
  obtain ⟨t1, e2, h⟩ := gb h
  refine gR_csI (wX10_at_s rfl e2) (Nat.le_of_ble_eq_true rfl) rfl rfl rfl rfl ?_
  refine gR_go 1 (pc1 := 10) (L1 := [some (.ref 29), some (.ref (k1 + 1)), some (.int x2)]) (st1 := [.ref 29, .int t1, .ref (k1 + 1)]) (fun _ _ => rfl) ?_
  refine gR_gfR (k := 28) (k' := 31) rfl rfl rfl rfl ?_
  refine gR_go 1 (pc1 := 14) (L1 := [some (.ref 29), some (.ref (k1 + 1)), some (.int x2)]) (st1 := [.int x2, .ref 32, .int t1, .ref (k1 + 1)]) (fun _ _ => rfl) ?_
  obtain ⟨t3, e4, h⟩ := gb h
  refine gR_csI (wX10_at_s rfl e4) (Nat.le_of_ble_eq_true rfl) rfl rfl rfl rfl ?_
  refine gR_go 1 (pc1 := 18) (L1 := [some (.ref 29), some (.ref (k1 + 1)), some (.int x2)]) (st1 := [.ref 29, .int t3, .int t1, .ref (k1 + 1)]) (fun _ _ => rfl) ?_
  refine gR_gfR (k := 28) (k' := 30) rfl rfl rfl rfl ?_
  refine gR_go 1 (pc1 := 22) (L1 := [some (.ref 29), some (.ref (k1 + 1)), some (.int x2)]) (st1 := [.int x2, .ref 31, .int t3, .int t1, .ref (k1 + 1)]) (fun _ _ => rfl) ?_
  obtain ⟨t5, e6, h⟩ := gb h
  refine gR_csI (wX10_at_s rfl e6) (Nat.le_of_ble_eq_true rfl) rfl rfl rfl rfl ?_
  obtain ⟨t7, e8, h⟩ := gb h
  refine gR_cvI (wX3_nearOf_s hk1 e8) (Nat.le_of_ble_eq_true rfl) rfl rfl hk1 rfl rfl ?_
  obtain rfl := gi1 h
  exact gR_ri rfl rfl
noncomputable def wX7_with (k0 : Nat) (x1 : Int32) (x2 : Int32) (s : wS) : Option (Int32) := (wX10_slot x1 x2 s).bind fun t1 => (wX10_at (k0 + 1) t1 s).bind fun t3 => some t3
theorem wX7_with_s {k0 : Nat} {x1 : Int32} {x2 : Int32} {s : wS} {rv : Int32} (hk0 : wkd k0 = 7) (h : wX7_with k0 x1 x2 s = some rv) : gEv 2 77 [.ref (k0 + 1), .int x1, .int x2] (wmk s) (some (.int rv), wmk s, 0, 0) := by
  refine gEv_of (d := 1) (L := [some (.ref (k0 + 1)), some (.int x1), some (.int x2)]) rfl ?_
  unfold wX7_with at h
  refine gR_go 1 (pc1 := 1) (L1 := [some (.ref (k0 + 1)), some (.int x1), some (.int x2)]) (st1 := [.ref (k0 + 1)]) (fun _ _ => rfl) ?_
  refine gR_gfR (k := k0) (k' := (k0 + 1)) rfl hk0 rfl (wly_7_0 hk0).1 ?_
  refine gR_go 2 (pc1 := 6) (L1 := [some (.ref (k0 + 1)), some (.int x1), some (.int x2)]) (st1 := [.int x2, .int x1, .ref ((k0 + 1) + 1)]) (fun _ _ => rfl) ?_
  obtain ⟨t1, e2, h⟩ := gb h
  refine gR_csI (wX10_slot_s e2) (Nat.le_of_ble_eq_true rfl) rfl rfl rfl rfl ?_
  obtain ⟨t3, e4, h⟩ := gb h
  refine gR_csI (wX10_at_s (wly_7_0 hk0).2.1 e4) (Nat.le_of_ble_eq_true rfl) rfl rfl rfl rfl ?_
  obtain rfl := gi1 h
  exact gR_ri rfl rfl
noncomputable def wX7_withAny_j32 (qq : Int32 → Int32 → Option (Int32)) (k0 : Nat) (x1 : Int32) (x2 : Int32) (x3 : Int32) (x4 : Int32) (s : wS) : Option (Int32) := qq x3 (x4 + 1)
theorem wX7_withAny_u32 {k0 : Nat} {x1 : Int32} {x2 : Int32} {x3 : Int32} {x4 : Int32} {s : wS} {qq : Int32 → Int32 → Option (Int32)} {x : Int32} {r : ri_R} (ih : ∀ {x3 : Int32} {x4 : Int32} , qq x3 x4 = some x → gRun 2 78 5 [some (.ref (k0 + 1)), some (.int x1), some (.int x2), some (.int x3), some (.int x4)] [] (wmk s) r) (he38 : ∀ (x3 : Int32) (w0 : Nat) (w1 : Int32) (w2 : Int32) (w4 : Int32) , x = x3 → gRun 2 78 38 [some (.ref (w0 + 1)), some (.int w1), some (.int w2), some (.int x3), some (.int w4)] [] (wmk s) r) (hk0 : wkd k0 = 7) (h : wX7_withAny_j32 qq k0 x1 x2 x3 x4 s = some x) : gRun 2 78 32 [some (.ref (k0 + 1)), some (.int x1), some (.int x2), some (.int x3), some (.int x4)] [] (wmk s) r := by
  unfold wX7_withAny_j32 at h
  refine gR_go 2 (pc1 := 5) (L1 := [some (.ref (k0 + 1)), some (.int x1), some (.int x2), some (.int x3), some (.int (x4 + 1))]) (st1 := []) (fun _ _ => rfl) ?_
  exact ih h
noncomputable def wX7_withAny_h5 (k0 : Nat) (x1 : Int32) (x2 : Int32) (s : wS) : Nat → Int32 → Int32 → Option (Int32)
  | 0, _, _ => none
  | n + 1, x3, x4 => if x4 < 8 then (if ((x2 >>> (x4 &&& 31)) &&& 1) = 1 then ((wX7_with k0 x1 x4 s).bind fun t3 => wX7_withAny_j32 (wX7_withAny_h5 k0 x1 x2 s n) k0 x1 x2 (x3 + t3) x4 s) else (wX7_withAny_j32 (wX7_withAny_h5 k0 x1 x2 s n) k0 x1 x2 x3 x4 s)) else (some x3)
theorem wX7_withAny_t5 {k0 : Nat} {x1 : Int32} {x2 : Int32} {s : wS} {x : Int32} {r : ri_R} (hk0 : wkd k0 = 7) (he38 : ∀ (x3 : Int32) (w0 : Nat) (w1 : Int32) (w2 : Int32) (w4 : Int32) , x = x3 → gRun 2 78 38 [some (.ref (w0 + 1)), some (.int w1), some (.int w2), some (.int x3), some (.int w4)] [] (wmk s) r) : ∀ {n : Nat} {x3 : Int32} {x4 : Int32} , wX7_withAny_h5 k0 x1 x2 s n x3 x4 = some x → gRun 2 78 5 [some (.ref (k0 + 1)), some (.int x1), some (.int x2), some (.int x3), some (.int x4)] [] (wmk s) r := by
  intro n
  induction n with
  | zero => intro x3 x4 h; cases (show (none : Option (Int32)) = some x from h)
  | succ n ih =>
    intro x3 x4 h
    rw [wX7_withAny_h5] at h
    refine gR_go 2 (pc1 := 9) (L1 := [some (.ref (k0 + 1)), some (.int x1), some (.int x2), some (.int x3), some (.int x4)]) (st1 := [.int 8, .int x4]) (fun _ _ => rfl) ?_
    rcases gif h with ⟨c1, h⟩ | ⟨c1, h⟩
    · refine gR_ic_ge_f rfl c1 ?_
      refine gR_go 6 (pc1 := 19) (L1 := [some (.ref (k0 + 1)), some (.int x1), some (.int x2), some (.int x3), some (.int x4)]) (st1 := [.int 1, .int ((x2 >>> (x4 &&& 31)) &&& 1)]) (fun _ _ => rfl) ?_
      rcases gif h with ⟨c2, h⟩ | ⟨c2, h⟩
      · refine gR_ic_ne_f rfl c2 ?_
        refine gR_go 4 (pc1 := 27) (L1 := [some (.ref (k0 + 1)), some (.int x1), some (.int x2), some (.int x3), some (.int x4)]) (st1 := [.int x4, .int x1, .ref (k0 + 1), .int x3]) (fun _ _ => rfl) ?_
        obtain ⟨t3, e4, h⟩ := gb h
        refine gR_cvI (wX7_with_s hk0 e4) (Nat.le_of_ble_eq_true rfl) rfl rfl hk0 rfl rfl ?_
        refine gR_go 2 (pc1 := 32) (L1 := [some (.ref (k0 + 1)), some (.int x1), some (.int x2), some (.int (x3 + t3)), some (.int x4)]) (st1 := []) (fun _ _ => rfl) ?_
        exact wX7_withAny_u32 ih he38 hk0 h
      · refine gR_ic_ne_j rfl c2 rfl ?_
        exact wX7_withAny_u32 ih he38 hk0 h
    · refine gR_ic_ge_j rfl c1 rfl ?_
      exact he38 _ _ _ _ _ (Option.some.inj h).symm
noncomputable def wX7_withAny (k0 : Nat) (x1 : Int32) (x2 : Int32) (s : wS) : Option (Int32) := (wX7_withAny_h5 k0 x1 x2 s wFuel 0 0).bind fun t6 => some t6
theorem wX7_withAny_s {k0 : Nat} {x1 : Int32} {x2 : Int32} {s : wS} {rv : Int32} (hk0 : wkd k0 = 7) (h : wX7_withAny k0 x1 x2 s = some rv) : gEv 3 78 [.ref (k0 + 1), .int x1, .int x2] (wmk s) (some (.int rv), wmk s, 0, 0) := by
  refine gEv_of (d := 2) (L := [some (.ref (k0 + 1)), some (.int x1), some (.int x2), none, none]) rfl ?_
  unfold wX7_withAny at h
  refine gR_go 4 (pc1 := 5) (L1 := [some (.ref (k0 + 1)), some (.int x1), some (.int x2), some (.int 0), some (.int 0)]) (st1 := []) (fun _ _ => rfl) ?_
  obtain ⟨z5, ez5, h⟩ := gb h
  refine wX7_withAny_t5 hk0 ?_  ez5
  · intro t6 w7 w8 w9 w10 hz
    replace hz := hz.symm
    subst hz
    refine gR_go 1 (pc1 := 39) (L1 := [some (.ref (w7 + 1)), some (.int w8), some (.int w9), some (.int t6), some (.int w10)]) (st1 := [.int t6]) (fun _ _ => rfl) ?_
    obtain rfl := gi1 h
    exact gR_ri rfl rfl
noncomputable def wX5_leftForFirst (k1 : Nat) (k2 : Nat) (x3 : Int32) (s : wS) : Option (Int32) := (wX10_at 29 x3 s).bind fun t1 => (wX5_nearForFirst k1 x3 s).bind fun t3 => (wX7_withAny k2 t1 t3 s).bind fun t5 => some t5
theorem wX5_leftForFirst_s {k1 : Nat} {k2 : Nat} {x3 : Int32} {s : wS} {rv : Int32} (hk1 : wkd k1 = 3) (hk2 : wkd k2 = 7) (h : wX5_leftForFirst k1 k2 x3 s = some rv) : gEv 5 61 [.ref 29, .ref (k1 + 1), .ref (k2 + 1), .int x3] (wmk s) (some (.int rv), wmk s, 0, 0) := by
  refine gEv_of (d := 4) (L := [some (.ref 29), some (.ref (k1 + 1)), some (.ref (k2 + 1)), some (.int x3)]) rfl ?_
  unfold wX5_leftForFirst at h
  refine gR_go 2 (pc1 := 2) (L1 := [some (.ref 29), some (.ref (k1 + 1)), some (.ref (k2 + 1)), some (.int x3)]) (st1 := [.ref 29, .ref (k2 + 1)]) (fun _ _ => rfl) ?_
  refine gR_gfR (k := 28) (k' := 29) rfl rfl rfl rfl ?_
  refine gR_go 1 (pc1 := 6) (L1 := [some (.ref 29), some (.ref (k1 + 1)), some (.ref (k2 + 1)), some (.int x3)]) (st1 := [.int x3, .ref 30, .ref (k2 + 1)]) (fun _ _ => rfl) ?_
  obtain ⟨t1, e2, h⟩ := gb h
  refine gR_csI (wX10_at_s rfl e2) (Nat.le_of_ble_eq_true rfl) rfl rfl rfl rfl ?_
  refine gR_go 3 (pc1 := 12) (L1 := [some (.ref 29), some (.ref (k1 + 1)), some (.ref (k2 + 1)), some (.int x3)]) (st1 := [.int x3, .ref (k1 + 1), .ref 29, .int t1, .ref (k2 + 1)]) (fun _ _ => rfl) ?_
  obtain ⟨t3, e4, h⟩ := gb h
  refine gR_cvI (wX5_nearForFirst_s hk1 e4) (Nat.le_of_ble_eq_true rfl) rfl rfl rfl rfl rfl ?_
  obtain ⟨t5, e6, h⟩ := gb h
  refine gR_cvI (wX7_withAny_s hk2 e6) (Nat.le_of_ble_eq_true rfl) rfl rfl hk2 rfl rfl ?_
  obtain rfl := gi1 h
  exact gR_ri rfl rfl
noncomputable def wX5_leftForSecond (k1 : Nat) (k2 : Nat) (x3 : Int32) (s : wS) : Option (Int32) := (wX10_at 29 x3 s).bind fun t1 => (wX5_nearForSecond k1 x3 s).bind fun t3 => (wX7_withAny k2 t1 t3 s).bind fun t5 => some t5
theorem wX5_leftForSecond_s {k1 : Nat} {k2 : Nat} {x3 : Int32} {s : wS} {rv : Int32} (hk1 : wkd k1 = 3) (hk2 : wkd k2 = 7) (h : wX5_leftForSecond k1 k2 x3 s = some rv) : gEv 5 62 [.ref 29, .ref (k1 + 1), .ref (k2 + 1), .int x3] (wmk s) (some (.int rv), wmk s, 0, 0) := by
  refine gEv_of (d := 4) (L := [some (.ref 29), some (.ref (k1 + 1)), some (.ref (k2 + 1)), some (.int x3)]) rfl ?_
  unfold wX5_leftForSecond at h
  refine gR_go 2 (pc1 := 2) (L1 := [some (.ref 29), some (.ref (k1 + 1)), some (.ref (k2 + 1)), some (.int x3)]) (st1 := [.ref 29, .ref (k2 + 1)]) (fun _ _ => rfl) ?_
  refine gR_gfR (k := 28) (k' := 29) rfl rfl rfl rfl ?_
  refine gR_go 1 (pc1 := 6) (L1 := [some (.ref 29), some (.ref (k1 + 1)), some (.ref (k2 + 1)), some (.int x3)]) (st1 := [.int x3, .ref 30, .ref (k2 + 1)]) (fun _ _ => rfl) ?_
  obtain ⟨t1, e2, h⟩ := gb h
  refine gR_csI (wX10_at_s rfl e2) (Nat.le_of_ble_eq_true rfl) rfl rfl rfl rfl ?_
  refine gR_go 3 (pc1 := 12) (L1 := [some (.ref 29), some (.ref (k1 + 1)), some (.ref (k2 + 1)), some (.int x3)]) (st1 := [.int x3, .ref (k1 + 1), .ref 29, .int t1, .ref (k2 + 1)]) (fun _ _ => rfl) ?_
  obtain ⟨t3, e4, h⟩ := gb h
  refine gR_cvI (wX5_nearForSecond_s hk1 e4) (Nat.le_of_ble_eq_true rfl) rfl rfl rfl rfl rfl ?_
  obtain ⟨t5, e6, h⟩ := gb h
  refine gR_cvI (wX7_withAny_s hk2 e6) (Nat.le_of_ble_eq_true rfl) rfl rfl hk2 rfl rfl ?_
  obtain rfl := gi1 h
  exact gR_ri rfl rfl
noncomputable def wX5_greaterLeft (k1 : Nat) (k2 : Nat) (x3 : Int32) (s : wS) : Option (Int32) := (wX5_leftForFirst k1 k2 x3 s).bind fun t1 => (wX5_leftForSecond k1 k2 x3 s).bind fun t3 => some (wmax t1 t3)
theorem wX5_greaterLeft_s {k1 : Nat} {k2 : Nat} {x3 : Int32} {s : wS} {rv : Int32} (hk1 : wkd k1 = 3) (hk2 : wkd k2 = 7) (h : wX5_greaterLeft k1 k2 x3 s = some rv) : gEv 6 63 [.ref 29, .ref (k1 + 1), .ref (k2 + 1), .int x3] (wmk s) (some (.int rv), wmk s, 0, 0) := by
  refine gEv_of (d := 5) (L := [some (.ref 29), some (.ref (k1 + 1)), some (.ref (k2 + 1)), some (.int x3)]) rfl ?_
  unfold wX5_greaterLeft at h
  refine gR_go 4 (pc1 := 4) (L1 := [some (.ref 29), some (.ref (k1 + 1)), some (.ref (k2 + 1)), some (.int x3)]) (st1 := [.int x3, .ref (k2 + 1), .ref (k1 + 1), .ref 29]) (fun _ _ => rfl) ?_
  obtain ⟨t1, e2, h⟩ := gb h
  refine gR_cvI (wX5_leftForFirst_s hk1 hk2 e2) (Nat.le_of_ble_eq_true rfl) rfl rfl rfl rfl rfl ?_
  refine gR_go 4 (pc1 := 11) (L1 := [some (.ref 29), some (.ref (k1 + 1)), some (.ref (k2 + 1)), some (.int x3)]) (st1 := [.int x3, .ref (k2 + 1), .ref (k1 + 1), .ref 29, .int t1]) (fun _ _ => rfl) ?_
  obtain ⟨t3, e4, h⟩ := gb h
  refine gR_cvI (wX5_leftForSecond_s hk1 hk2 e4) (Nat.le_of_ble_eq_true rfl) rfl rfl rfl rfl rfl ?_
  refine gR_max rfl rfl rfl ?_
  obtain rfl := gi1 h
  exact gR_ri rfl rfl
noncomputable def wX5_nearAsIn (k1 : Nat) (x2 : Int32) (k3 : Nat) (x4 : Int32) (s : wS) : Option (Int32) := (wX5_nearForFirst k1 x2 s).bind fun t1 => (wX10_at 29 x2 s).bind fun t3 => (wX0_thingIn k3 x4 t3 s).bind fun t5 => if ((t1 >>> (t5 &&& 31)) &&& 1) = 1 then (some t1) else ((wX5_nearForSecond k1 x2 s).bind fun t8 => some t8)
theorem wX5_nearAsIn_s {k1 : Nat} {x2 : Int32} {k3 : Nat} {x4 : Int32} {s : wS} {rv : Int32} (hk1 : wkd k1 = 3) (hk3 : wkd k3 = 0) (h : wX5_nearAsIn k1 x2 k3 x4 s = some rv) : gEv 5 64 [.ref 29, .ref (k1 + 1), .int x2, .ref (k3 + 1), .int x4] (wmk s) (some (.int rv), wmk s, 0, 0) := by
  refine gEv_of (d := 4) (L := [some (.ref 29), some (.ref (k1 + 1)), some (.int x2), some (.ref (k3 + 1)), some (.int x4), none, none]) rfl ?_
  unfold wX5_nearAsIn at h
  refine gR_go 3 (pc1 := 3) (L1 := [some (.ref 29), some (.ref (k1 + 1)), some (.int x2), some (.ref (k3 + 1)), some (.int x4), none, none]) (st1 := [.int x2, .ref (k1 + 1), .ref 29]) (fun _ _ => rfl) ?_
  obtain ⟨t1, e2, h⟩ := gb h
  refine gR_cvI (wX5_nearForFirst_s hk1 e2) (Nat.le_of_ble_eq_true rfl) rfl rfl rfl rfl rfl ?_
  refine gR_go 4 (pc1 := 12) (L1 := [some (.ref 29), some (.ref (k1 + 1)), some (.int x2), some (.ref (k3 + 1)), some (.int x4), some (.int t1), none]) (st1 := [.ref 29, .int x4, .ref (k3 + 1)]) (fun _ _ => rfl) ?_
  refine gR_gfR (k := 28) (k' := 29) rfl rfl rfl rfl ?_
  refine gR_go 1 (pc1 := 16) (L1 := [some (.ref 29), some (.ref (k1 + 1)), some (.int x2), some (.ref (k3 + 1)), some (.int x4), some (.int t1), none]) (st1 := [.int x2, .ref 30, .int x4, .ref (k3 + 1)]) (fun _ _ => rfl) ?_
  obtain ⟨t3, e4, h⟩ := gb h
  refine gR_csI (wX10_at_s rfl e4) (Nat.le_of_ble_eq_true rfl) rfl rfl rfl rfl ?_
  obtain ⟨t5, e6, h⟩ := gb h
  refine gR_cvI (wX0_thingIn_s hk3 e6) (Nat.le_of_ble_eq_true rfl) rfl rfl hk3 rfl rfl ?_
  refine gR_go 7 (pc1 := 32) (L1 := [some (.ref 29), some (.ref (k1 + 1)), some (.int x2), some (.ref (k3 + 1)), some (.int x4), some (.int t1), some (.int t5)]) (st1 := [.int 1, .int ((t1 >>> (t5 &&& 31)) &&& 1)]) (fun _ _ => rfl) ?_
  rcases gif h with ⟨c7, h⟩ | ⟨c7, h⟩
  · refine gR_ic_ne_f rfl c7 ?_
    refine gR_go 2 (pc1 := 46) (L1 := [some (.ref 29), some (.ref (k1 + 1)), some (.int x2), some (.ref (k3 + 1)), some (.int x4), some (.int t1), some (.int t5)]) (st1 := [.int t1]) (fun _ _ => rfl) ?_
    obtain rfl := gi1 h
    exact gR_ri rfl rfl
  · refine gR_ic_ne_j rfl c7 rfl ?_
    refine gR_go 3 (pc1 := 43) (L1 := [some (.ref 29), some (.ref (k1 + 1)), some (.int x2), some (.ref (k3 + 1)), some (.int x4), some (.int t1), some (.int t5)]) (st1 := [.int x2, .ref (k1 + 1), .ref 29]) (fun _ _ => rfl) ?_
    obtain ⟨t8, e9, h⟩ := gb h
    refine gR_cvI (wX5_nearForSecond_s hk1 e9) (Nat.le_of_ble_eq_true rfl) rfl rfl rfl rfl rfl ?_
    obtain rfl := gi1 h
    exact gR_ri rfl rfl
noncomputable def wX5_leftAsIn (k1 : Nat) (k2 : Nat) (x3 : Int32) (k4 : Nat) (x5 : Int32) (s : wS) : Option (Int32) := (wX10_at 29 x3 s).bind fun t1 => (wX5_nearAsIn k1 x3 k4 x5 s).bind fun t3 => (wX7_withAny k2 t1 t3 s).bind fun t5 => some t5
theorem wX5_leftAsIn_s {k1 : Nat} {k2 : Nat} {x3 : Int32} {k4 : Nat} {x5 : Int32} {s : wS} {rv : Int32} (hk1 : wkd k1 = 3) (hk2 : wkd k2 = 7) (hk4 : wkd k4 = 0) (h : wX5_leftAsIn k1 k2 x3 k4 x5 s = some rv) : gEv 6 65 [.ref 29, .ref (k1 + 1), .ref (k2 + 1), .int x3, .ref (k4 + 1), .int x5] (wmk s) (some (.int rv), wmk s, 0, 0) := by
  refine gEv_of (d := 5) (L := [some (.ref 29), some (.ref (k1 + 1)), some (.ref (k2 + 1)), some (.int x3), some (.ref (k4 + 1)), some (.int x5)]) rfl ?_
  unfold wX5_leftAsIn at h
  refine gR_go 2 (pc1 := 2) (L1 := [some (.ref 29), some (.ref (k1 + 1)), some (.ref (k2 + 1)), some (.int x3), some (.ref (k4 + 1)), some (.int x5)]) (st1 := [.ref 29, .ref (k2 + 1)]) (fun _ _ => rfl) ?_
  refine gR_gfR (k := 28) (k' := 29) rfl rfl rfl rfl ?_
  refine gR_go 1 (pc1 := 6) (L1 := [some (.ref 29), some (.ref (k1 + 1)), some (.ref (k2 + 1)), some (.int x3), some (.ref (k4 + 1)), some (.int x5)]) (st1 := [.int x3, .ref 30, .ref (k2 + 1)]) (fun _ _ => rfl) ?_
  obtain ⟨t1, e2, h⟩ := gb h
  refine gR_csI (wX10_at_s rfl e2) (Nat.le_of_ble_eq_true rfl) rfl rfl rfl rfl ?_
  refine gR_go 5 (pc1 := 16) (L1 := [some (.ref 29), some (.ref (k1 + 1)), some (.ref (k2 + 1)), some (.int x3), some (.ref (k4 + 1)), some (.int x5)]) (st1 := [.int x5, .ref (k4 + 1), .int x3, .ref (k1 + 1), .ref 29, .int t1, .ref (k2 + 1)]) (fun _ _ => rfl) ?_
  obtain ⟨t3, e4, h⟩ := gb h
  refine gR_cvI (wX5_nearAsIn_s hk1 hk4 e4) (Nat.le_of_ble_eq_true rfl) rfl rfl rfl rfl rfl ?_
  obtain ⟨t5, e6, h⟩ := gb h
  refine gR_cvI (wX7_withAny_s hk2 e6) (Nat.le_of_ble_eq_true rfl) rfl rfl hk2 rfl rfl ?_
  obtain rfl := gi1 h
  exact gR_ri rfl rfl
noncomputable def wX5_best_j86 (qq : Int32 → Int32 → Int32 → Option (Int32)) (k1 : Nat) (k2 : Nat) (x3 : Int32) (x4 : Int32) (x5 : Int32) (x6 : Int32) (s : wS) : Option (Int32) := qq x4 x5 (x6 + 1)
theorem wX5_best_u86 {k1 : Nat} {k2 : Nat} {x3 : Int32} {x4 : Int32} {x5 : Int32} {x6 : Int32} {s : wS} {w7 : Int32} {w8 : Int32} {w9 : Int32} {qq : Int32 → Int32 → Int32 → Option (Int32)} {x : Int32} {r : ri_R} (ih : ∀ {x4 : Int32} {x5 : Int32} {x6 : Int32} {w7 : Option Value} {w8 : Option Value} {w9 : Option Value} , qq x4 x5 x6 = some x → gRun 5 66 9 [some (.ref 29), some (.ref (k1 + 1)), some (.ref (k2 + 1)), some (.int x3), some (.int x4), some (.int x5), some (.int x6), w7, w8, w9] [] (wmk s) r) (he92 : ∀ (x4 : Int32) (w1 : Nat) (w2 : Nat) (w3 : Int32) (w5 : Int32) (w6 : Int32) (w7 : Option Value) (w8 : Option Value) (w9 : Option Value) , x = x4 → gRun 5 66 92 [some (.ref 29), some (.ref (w1 + 1)), some (.ref (w2 + 1)), some (.int w3), some (.int x4), some (.int w5), some (.int w6), w7, w8, w9] [] (wmk s) r) (hk1 : wkd k1 = 3) (hk2 : wkd k2 = 7) (h : wX5_best_j86 qq k1 k2 x3 x4 x5 x6 s = some x) : gRun 5 66 86 [some (.ref 29), some (.ref (k1 + 1)), some (.ref (k2 + 1)), some (.int x3), some (.int x4), some (.int x5), some (.int x6), some (.int w7), some (.int w8), some (.int w9)] [] (wmk s) r := by
  unfold wX5_best_j86 at h
  refine gR_go 2 (pc1 := 9) (L1 := [some (.ref 29), some (.ref (k1 + 1)), some (.ref (k2 + 1)), some (.int x3), some (.int x4), some (.int x5), some (.int (x6 + 1)), some (.int w7), some (.int w8), some (.int w9)]) (st1 := []) (fun _ _ => rfl) ?_
  exact ih h
noncomputable def wX5_best_j78 (qq : Int32 → Int32 → Int32 → Option (Int32)) (k1 : Nat) (k2 : Nat) (x3 : Int32) (x6 : Int32) (x9 : Int32) (s : wS) : Option (Int32) := wX5_best_j86 qq k1 k2 x3 x6 x9 x6 s
theorem wX5_best_u78 {k1 : Nat} {k2 : Nat} {x3 : Int32} {x6 : Int32} {x9 : Int32} {s : wS} {w4 : Int32} {w5 : Int32} {w7 : Int32} {w8 : Int32} {qq : Int32 → Int32 → Int32 → Option (Int32)} {x : Int32} {r : ri_R} (ih : ∀ {x4 : Int32} {x5 : Int32} {x6 : Int32} {w7 : Option Value} {w8 : Option Value} {w9 : Option Value} , qq x4 x5 x6 = some x → gRun 5 66 9 [some (.ref 29), some (.ref (k1 + 1)), some (.ref (k2 + 1)), some (.int x3), some (.int x4), some (.int x5), some (.int x6), w7, w8, w9] [] (wmk s) r) (he92 : ∀ (x4 : Int32) (w1 : Nat) (w2 : Nat) (w3 : Int32) (w5 : Int32) (w6 : Int32) (w7 : Option Value) (w8 : Option Value) (w9 : Option Value) , x = x4 → gRun 5 66 92 [some (.ref 29), some (.ref (w1 + 1)), some (.ref (w2 + 1)), some (.int w3), some (.int x4), some (.int w5), some (.int w6), w7, w8, w9] [] (wmk s) r) (hk1 : wkd k1 = 3) (hk2 : wkd k2 = 7) (h : wX5_best_j78 qq k1 k2 x3 x6 x9 s = some x) : gRun 5 66 78 [some (.ref 29), some (.ref (k1 + 1)), some (.ref (k2 + 1)), some (.int x3), some (.int w4), some (.int w5), some (.int x6), some (.int w7), some (.int w8), some (.int x9)] [] (wmk s) r := by
  unfold wX5_best_j78 at h
  refine gR_go 4 (pc1 := 86) (L1 := [some (.ref 29), some (.ref (k1 + 1)), some (.ref (k2 + 1)), some (.int x3), some (.int x6), some (.int x9), some (.int x6), some (.int w7), some (.int w8), some (.int x9)]) (st1 := []) (fun _ _ => rfl) ?_
  exact wX5_best_u86 ih he92 hk1 hk2 h
noncomputable def wX5_best_j63 (qq : Int32 → Int32 → Int32 → Option (Int32)) (k1 : Nat) (k2 : Nat) (x3 : Int32) (x4 : Int32) (x5 : Int32) (x6 : Int32) (y0 : Int32) (s : wS) : Option (Int32) := if x4 = (-1) then (wX5_best_j78 qq k1 k2 x3 x6 y0 s) else (if y0 < x5 then (wX5_best_j78 qq k1 k2 x3 x6 y0 s) else (wX5_best_j86 qq k1 k2 x3 x4 x5 x6 s))
theorem wX5_best_u63 {k1 : Nat} {k2 : Nat} {x3 : Int32} {x4 : Int32} {x5 : Int32} {x6 : Int32} {y0 : Int32} {s : wS} {w7 : Int32} {w8 : Int32} {w9 : Option Value} {qq : Int32 → Int32 → Int32 → Option (Int32)} {x : Int32} {r : ri_R} (ih : ∀ {x4 : Int32} {x5 : Int32} {x6 : Int32} {w7 : Option Value} {w8 : Option Value} {w9 : Option Value} , qq x4 x5 x6 = some x → gRun 5 66 9 [some (.ref 29), some (.ref (k1 + 1)), some (.ref (k2 + 1)), some (.int x3), some (.int x4), some (.int x5), some (.int x6), w7, w8, w9] [] (wmk s) r) (he92 : ∀ (x4 : Int32) (w1 : Nat) (w2 : Nat) (w3 : Int32) (w5 : Int32) (w6 : Int32) (w7 : Option Value) (w8 : Option Value) (w9 : Option Value) , x = x4 → gRun 5 66 92 [some (.ref 29), some (.ref (w1 + 1)), some (.ref (w2 + 1)), some (.int w3), some (.int x4), some (.int w5), some (.int w6), w7, w8, w9] [] (wmk s) r) (hk1 : wkd k1 = 3) (hk2 : wkd k2 = 7) (h : wX5_best_j63 qq k1 k2 x3 x4 x5 x6 y0 s = some x) : gRun 5 66 63 [some (.ref 29), some (.ref (k1 + 1)), some (.ref (k2 + 1)), some (.int x3), some (.int x4), some (.int x5), some (.int x6), some (.int w7), some (.int w8), w9] [.int y0] (wmk s) r := by
  unfold wX5_best_j63 at h
  refine gR_go 3 (pc1 := 68) (L1 := [some (.ref 29), some (.ref (k1 + 1)), some (.ref (k2 + 1)), some (.int x3), some (.int x4), some (.int x5), some (.int x6), some (.int w7), some (.int w8), some (.int y0)]) (st1 := [.int (-1), .int x4]) (fun _ _ => rfl) ?_
  rcases gif h with ⟨c7, h⟩ | ⟨c7, h⟩
  · refine gR_ic_eq_j rfl c7 rfl ?_
    exact wX5_best_u78 ih he92 hk1 hk2 h
  · refine gR_ic_eq_f rfl c7 ?_
    refine gR_go 2 (pc1 := 75) (L1 := [some (.ref 29), some (.ref (k1 + 1)), some (.ref (k2 + 1)), some (.int x3), some (.int x4), some (.int x5), some (.int x6), some (.int w7), some (.int w8), some (.int y0)]) (st1 := [.int x5, .int y0]) (fun _ _ => rfl) ?_
    rcases gif h with ⟨c8, h⟩ | ⟨c8, h⟩
    · refine gR_ic_ge_f rfl c8 ?_
      exact wX5_best_u78 ih he92 hk1 hk2 h
    · refine gR_ic_ge_j rfl c8 rfl ?_
      exact wX5_best_u86 ih he92 hk1 hk2 h
noncomputable def wX5_best_h9 (k1 : Nat) (k2 : Nat) (x3 : Int32) (s : wS) : Nat → Int32 → Int32 → Int32 → Option (Int32)
  | 0, _, _, _ => none
  | n + 1, x4, x5, x6 => if x6 < (s.1 28 3) then ((wX5_leftForFirst k1 k2 x6 s).bind fun t2 => (wX5_leftForSecond k1 k2 x6 s).bind fun t4 => if x3 = 0 then (wX5_best_j63 (wX5_best_h9 k1 k2 x3 s n) k1 k2 x3 x4 x5 x6 (wmax t2 t4) s) else (wX5_best_j63 (wX5_best_h9 k1 k2 x3 s n) k1 k2 x3 x4 x5 x6 ((t2 * t2) + (t4 * t4)) s)) else (some x4)
theorem wX5_best_t9 {k1 : Nat} {k2 : Nat} {x3 : Int32} {s : wS} {x : Int32} {r : ri_R} (hk1 : wkd k1 = 3) (hk2 : wkd k2 = 7) (he92 : ∀ (x4 : Int32) (w1 : Nat) (w2 : Nat) (w3 : Int32) (w5 : Int32) (w6 : Int32) (w7 : Option Value) (w8 : Option Value) (w9 : Option Value) , x = x4 → gRun 5 66 92 [some (.ref 29), some (.ref (w1 + 1)), some (.ref (w2 + 1)), some (.int w3), some (.int x4), some (.int w5), some (.int w6), w7, w8, w9] [] (wmk s) r) : ∀ {n : Nat} {x4 : Int32} {x5 : Int32} {x6 : Int32} {w7 : Option Value} {w8 : Option Value} {w9 : Option Value} , wX5_best_h9 k1 k2 x3 s n x4 x5 x6 = some x → gRun 5 66 9 [some (.ref 29), some (.ref (k1 + 1)), some (.ref (k2 + 1)), some (.int x3), some (.int x4), some (.int x5), some (.int x6), w7, w8, w9] [] (wmk s) r := by
  intro n
  induction n with
  | zero => intro x4 x5 x6 w7 w8 w9 h; cases (show (none : Option (Int32)) = some x from h)
  | succ n ih =>
    intro x4 x5 x6 w7 w8 w9 h
    rw [wX5_best_h9] at h
    refine gR_go 2 (pc1 := 12) (L1 := [some (.ref 29), some (.ref (k1 + 1)), some (.ref (k2 + 1)), some (.int x3), some (.int x4), some (.int x5), some (.int x6), w7, w8, w9]) (st1 := [.ref 29, .int x6]) (fun _ _ => rfl) ?_
    refine gR_gfI (k := 28) rfl rfl rfl ?_
    rcases gif h with ⟨c1, h⟩ | ⟨c1, h⟩
    · refine gR_ic_ge_f rfl c1 ?_
      refine gR_go 4 (pc1 := 23) (L1 := [some (.ref 29), some (.ref (k1 + 1)), some (.ref (k2 + 1)), some (.int x3), some (.int x4), some (.int x5), some (.int x6), w7, w8, w9]) (st1 := [.int x6, .ref (k2 + 1), .ref (k1 + 1), .ref 29]) (fun _ _ => rfl) ?_
      obtain ⟨t2, e3, h⟩ := gb h
      refine gR_cvI (wX5_leftForFirst_s hk1 hk2 e3) (Nat.le_of_ble_eq_true rfl) rfl rfl rfl rfl rfl ?_
      refine gR_go 5 (pc1 := 33) (L1 := [some (.ref 29), some (.ref (k1 + 1)), some (.ref (k2 + 1)), some (.int x3), some (.int x4), some (.int x5), some (.int x6), some (.int t2), w8, w9]) (st1 := [.int x6, .ref (k2 + 1), .ref (k1 + 1), .ref 29]) (fun _ _ => rfl) ?_
      obtain ⟨t4, e5, h⟩ := gb h
      refine gR_cvI (wX5_leftForSecond_s hk1 hk2 e5) (Nat.le_of_ble_eq_true rfl) rfl rfl rfl rfl rfl ?_
      refine gR_go 2 (pc1 := 39) (L1 := [some (.ref 29), some (.ref (k1 + 1)), some (.ref (k2 + 1)), some (.int x3), some (.int x4), some (.int x5), some (.int x6), some (.int t2), some (.int t4), w9]) (st1 := [.int x3]) (fun _ _ => rfl) ?_
      rcases gif h with ⟨c6, h⟩ | ⟨c6, h⟩
      · refine gR_iz_ne_f rfl c6 ?_
        refine gR_go 2 (pc1 := 46) (L1 := [some (.ref 29), some (.ref (k1 + 1)), some (.ref (k2 + 1)), some (.int x3), some (.int x4), some (.int x5), some (.int x6), some (.int t2), some (.int t4), w9]) (st1 := [.int t4, .int t2]) (fun _ _ => rfl) ?_
        refine gR_max rfl rfl rfl ?_
        refine gR_go 1 (pc1 := 63) (L1 := [some (.ref 29), some (.ref (k1 + 1)), some (.ref (k2 + 1)), some (.int x3), some (.int x4), some (.int x5), some (.int x6), some (.int t2), some (.int t4), w9]) (st1 := [.int (wmax t2 t4)]) (fun _ _ => rfl) ?_
        exact wX5_best_u63 ih he92 hk1 hk2 h
      · refine gR_iz_ne_j rfl c6 rfl ?_
        refine gR_go 7 (pc1 := 63) (L1 := [some (.ref 29), some (.ref (k1 + 1)), some (.ref (k2 + 1)), some (.int x3), some (.int x4), some (.int x5), some (.int x6), some (.int t2), some (.int t4), w9]) (st1 := [.int ((t2 * t2) + (t4 * t4))]) (fun _ _ => rfl) ?_
        exact wX5_best_u63 ih he92 hk1 hk2 h
    · refine gR_ic_ge_j rfl c1 rfl ?_
      exact he92 _ _ _ _ _ _ _ _ _ (Option.some.inj h).symm
noncomputable def wX5_best (k1 : Nat) (k2 : Nat) (x3 : Int32) (s : wS) : Option (Int32) := (wX5_best_h9 k1 k2 x3 s wFuel (-1) 0 0).bind fun t10 => some t10
theorem wX5_best_s {k1 : Nat} {k2 : Nat} {x3 : Int32} {s : wS} {rv : Int32} (hk1 : wkd k1 = 3) (hk2 : wkd k2 = 7) (h : wX5_best k1 k2 x3 s = some rv) : gEv 6 66 [.ref 29, .ref (k1 + 1), .ref (k2 + 1), .int x3] (wmk s) (some (.int rv), wmk s, 0, 0) := by
  refine gEv_of (d := 5) (L := [some (.ref 29), some (.ref (k1 + 1)), some (.ref (k2 + 1)), some (.int x3), none, none, none, none, none, none]) rfl ?_
  unfold wX5_best at h
  refine gR_go 6 (pc1 := 9) (L1 := [some (.ref 29), some (.ref (k1 + 1)), some (.ref (k2 + 1)), some (.int x3), some (.int (-1)), some (.int 0), some (.int 0), none, none, none]) (st1 := []) (fun _ _ => rfl) ?_
  obtain ⟨z9, ez9, h⟩ := gb h
  refine wX5_best_t9 hk1 hk2 ?_  ez9
  · intro t10 w11 w12 w13 w14 w15 w16 w17 w18 hz
    replace hz := hz.symm
    subst hz
    refine gR_go 1 (pc1 := 94) (L1 := [some (.ref 29), some (.ref (w11 + 1)), some (.ref (w12 + 1)), some (.int w13), some (.int t10), some (.int w14), some (.int w15), w16, w17, w18]) (st1 := [.int t10]) (fun _ _ => rfl) ?_
    obtain rfl := gi1 h
    exact gR_ri rfl rfl
noncomputable def wX5_told (x1 : Int32) (x2 : Int32) (x3 : Int32) (x4 : Int32) (s : wS) : Option (Int32) := if x2 = 0 then ((wX10_at 29 x1 s).bind fun t2 => some t2) else if x2 = 1 then ((wX10_at 30 x1 s).bind fun t5 => some t5) else if x2 = 2 then ((wX10_at 31 x1 s).bind fun t8 => some t8) else if x2 = 3 then (some x3) else (some x4)
theorem wX5_told_s {x1 : Int32} {x2 : Int32} {x3 : Int32} {x4 : Int32} {s : wS} {rv : Int32} (h : wX5_told x1 x2 x3 x4 s = some rv) : gEv 2 67 [.ref 29, .int x1, .int x2, .int x3, .int x4] (wmk s) (some (.int rv), wmk s, 0, 0) := by
  refine gEv_of (d := 1) (L := [some (.ref 29), some (.int x1), some (.int x2), some (.int x3), some (.int x4)]) rfl ?_
  unfold wX5_told at h
  refine gR_go 1 (pc1 := 1) (L1 := [some (.ref 29), some (.int x1), some (.int x2), some (.int x3), some (.int x4)]) (st1 := [.int x2]) (fun _ _ => rfl) ?_
  rcases gif h with ⟨c1, h⟩ | ⟨c1, h⟩
  · refine gR_sw_k rfl c1 rfl rfl ?_
    refine gR_go 1 (pc1 := 33) (L1 := [some (.ref 29), some (.int x1), some (.int x2), some (.int x3), some (.int x4)]) (st1 := [.ref 29]) (fun _ _ => rfl) ?_
    refine gR_gfR (k := 28) (k' := 29) rfl rfl rfl rfl ?_
    refine gR_go 1 (pc1 := 37) (L1 := [some (.ref 29), some (.int x1), some (.int x2), some (.int x3), some (.int x4)]) (st1 := [.int x1, .ref 30]) (fun _ _ => rfl) ?_
    obtain ⟨t2, e3, h⟩ := gb h
    refine gR_csI (wX10_at_s rfl e3) (Nat.le_of_ble_eq_true rfl) rfl rfl rfl rfl ?_
    obtain rfl := gi1 h
    exact gR_ri rfl rfl
  · rcases gif h with ⟨c4, h⟩ | ⟨c4, h⟩
    · refine gR_sw_k rfl c4 rfl rfl ?_
      refine gR_go 1 (pc1 := 42) (L1 := [some (.ref 29), some (.int x1), some (.int x2), some (.int x3), some (.int x4)]) (st1 := [.ref 29]) (fun _ _ => rfl) ?_
      refine gR_gfR (k := 28) (k' := 30) rfl rfl rfl rfl ?_
      refine gR_go 1 (pc1 := 46) (L1 := [some (.ref 29), some (.int x1), some (.int x2), some (.int x3), some (.int x4)]) (st1 := [.int x1, .ref 31]) (fun _ _ => rfl) ?_
      obtain ⟨t5, e6, h⟩ := gb h
      refine gR_csI (wX10_at_s rfl e6) (Nat.le_of_ble_eq_true rfl) rfl rfl rfl rfl ?_
      obtain rfl := gi1 h
      exact gR_ri rfl rfl
    · rcases gif h with ⟨c7, h⟩ | ⟨c7, h⟩
      · refine gR_sw_k rfl c7 rfl rfl ?_
        refine gR_go 1 (pc1 := 51) (L1 := [some (.ref 29), some (.int x1), some (.int x2), some (.int x3), some (.int x4)]) (st1 := [.ref 29]) (fun _ _ => rfl) ?_
        refine gR_gfR (k := 28) (k' := 31) rfl rfl rfl rfl ?_
        refine gR_go 1 (pc1 := 55) (L1 := [some (.ref 29), some (.int x1), some (.int x2), some (.int x3), some (.int x4)]) (st1 := [.int x1, .ref 32]) (fun _ _ => rfl) ?_
        obtain ⟨t8, e9, h⟩ := gb h
        refine gR_csI (wX10_at_s rfl e9) (Nat.le_of_ble_eq_true rfl) rfl rfl rfl rfl ?_
        obtain rfl := gi1 h
        exact gR_ri rfl rfl
      · rcases gif h with ⟨c10, h⟩ | ⟨c10, h⟩
        · refine gR_sw_k rfl c10 rfl rfl ?_
          refine gR_go 1 (pc1 := 60) (L1 := [some (.ref 29), some (.int x1), some (.int x2), some (.int x3), some (.int x4)]) (st1 := [.int x3]) (fun _ _ => rfl) ?_
          obtain rfl := gi1 h
          exact gR_ri rfl rfl
        · refine gR_sw_d [0, 1, 2, 3] rfl (gl1 c1 (gl1 c4 (gl1 c7 (gl1 c10 gl0)))) (by decide) (by decide) rfl ?_
          refine gR_go 1 (pc1 := 63) (L1 := [some (.ref 29), some (.int x1), some (.int x2), some (.int x3), some (.int x4)]) (st1 := [.int x4]) (fun _ _ => rfl) ?_
          obtain rfl := gi1 h
          exact gR_ri rfl rfl
noncomputable def wX10_empty_h2 (k0 : Nat) : Nat → Int32 → wS → Option (wS)
  | 0, _, _ => none
  | n + 1, x1, s => if x1 < (Int32.ofNat (wln k0)) then ((wstI s k0 (wln k0) x1 0).bind fun s2 => wX10_empty_h2 k0 n (x1 + 1) s2) else (some s)
theorem wX10_empty_t2 {k0 : Nat} {x : wS} {r : ri_R} (hk0 : wkd k0 = 20) (he18 : ∀ (s : wS) (w0 : Nat) (w1 : Int32) , x = s → gRun 0 158 18 [some (.ref (w0 + 1)), some (.int w1)] [] (wmk s) r) : ∀ {n : Nat} {x1 : Int32} {s : wS} , wX10_empty_h2 k0 n x1 s = some x → gRun 0 158 2 [some (.ref (k0 + 1)), some (.int x1)] [] (wmk s) r := by
  intro n
  induction n with
  | zero => intro x1 s h; cases (show (none : Option (wS)) = some x from h)
  | succ n ih =>
    intro x1 s h
    rw [wX10_empty_h2] at h
    refine gR_go 2 (pc1 := 4) (L1 := [some (.ref (k0 + 1)), some (.int x1)]) (st1 := [.ref (k0 + 1), .int x1]) (fun _ _ => rfl) ?_
    refine gR_aln (k := k0) rfl (by rw [hk0]; decide) rfl (w := (Int32.ofNat (wln k0))) rfl ?_
    rcases gif h with ⟨c1, h⟩ | ⟨c1, h⟩
    · refine gR_ic_ge_f rfl c1 ?_
      refine gR_go 3 (pc1 := 11) (L1 := [some (.ref (k0 + 1)), some (.int x1)]) (st1 := [.int 0, .int x1, .ref (k0 + 1)]) (fun _ _ => rfl) ?_
      obtain ⟨s2, es2, h⟩ := gb h
      refine gR_ias (k := k0) rfl hk0 rfl es2 ?_
      refine gR_go 2 (pc1 := 2) (L1 := [some (.ref (k0 + 1)), some (.int (x1 + 1))]) (st1 := []) (fun _ _ => rfl) ?_
      exact ih h
    · refine gR_ic_ge_j rfl c1 rfl ?_
      exact he18 _ _ _ (Option.some.inj h).symm
noncomputable def wX10_empty (k0 : Nat) (s : wS) : Option (wS) := (wX10_empty_h2 k0 wFuel 0 s).bind fun s4 => some s4
theorem wX10_empty_s {k0 : Nat} {s : wS} {rs : wS} (hk0 : wkd k0 = 20) (h : wX10_empty k0 s = some rs) : gEv 1 158 [.ref (k0 + 1)] (wmk s) (none, wmk rs, 0, 0) := by
  refine gEv_of (d := 0) (L := [some (.ref (k0 + 1)), none]) rfl ?_
  unfold wX10_empty at h
  refine gR_go 2 (pc1 := 2) (L1 := [some (.ref (k0 + 1)), some (.int 0)]) (st1 := []) (fun _ _ => rfl) ?_
  obtain ⟨z3, ez3, h⟩ := gb h
  refine wX10_empty_t2 hk0 ?_  ez3
  · intro s4 w5 w6 hz
    replace hz := hz.symm
    subst hz
    obtain rfl := gi1 h
    exact gR_rv rfl rfl
noncomputable def wX6_clear (x1 : Int32) (s : wS) : Option (wS) := (wX10_empty 41 s).bind fun s2 => (wX10_empty 42 s2).bind fun s5 => (wpfI s5 40 3 (wmin x1 84)).bind fun s7 => (wpfI s7 40 4 0).bind fun s8 => some s8
theorem wX6_clear_s {x1 : Int32} {s : wS} {rs : wS} (h : wX6_clear x1 s = some rs) : gEv 2 69 [.ref 41, .int x1] (wmk s) (none, wmk rs, 0, 0) := by
  refine gEv_of (d := 1) (L := [some (.ref 41), some (.int x1)]) rfl ?_
  unfold wX6_clear at h
  refine gR_go 1 (pc1 := 1) (L1 := [some (.ref 41), some (.int x1)]) (st1 := [.ref 41]) (fun _ _ => rfl) ?_
  refine gR_gfR (k := 40) (k' := 41) rfl rfl rfl rfl ?_
  obtain ⟨s2, e3, h⟩ := gb h
  refine gR_csV (wX10_empty_s rfl e3) (Nat.le_of_ble_eq_true rfl) rfl rfl rfl rfl ?_
  refine gR_go 1 (pc1 := 8) (L1 := [some (.ref 41), some (.int x1)]) (st1 := [.ref 41]) (fun _ _ => rfl) ?_
  refine gR_gfR (k := 40) (k' := 42) rfl rfl rfl rfl ?_
  obtain ⟨s5, e6, h⟩ := gb h
  refine gR_csV (wX10_empty_s rfl e6) (Nat.le_of_ble_eq_true rfl) rfl rfl rfl rfl ?_
  refine gR_go 3 (pc1 := 18) (L1 := [some (.ref 41), some (.int x1)]) (st1 := [.int 84, .int x1, .ref 41]) (fun _ _ => rfl) ?_
  refine gR_min rfl rfl rfl ?_
  obtain ⟨s7, es7, h⟩ := gb h
  refine gR_pfI (k := 40) rfl rfl rfl rfl es7 ?_
  refine gR_go 2 (pc1 := 26) (L1 := [some (.ref 41), some (.int x1)]) (st1 := [.int 0, .ref 41]) (fun _ _ => rfl) ?_
  obtain ⟨s8, es8, h⟩ := gb h
  refine gR_pfI (k := 40) rfl rfl rfl rfl es8 ?_
  obtain rfl := gi1 h
  exact gR_rv rfl rfl
noncomputable def wX6_add_h13 (x1 : Int32) (k2 : Nat) (k3 : Nat) : Nat → Int32 → wS → Option (wS)
  | 0, _, _ => none
  | n + 1, x5, s => if x5 < (s.1 40 3) then (if x5 < 84 then ((wX10_at 29 x5 s).bind fun t4 => (wX0_thingIn k3 x1 t4 s).bind fun t6 => (wldI s 41 84 x5).bind fun t8 => (wX5_nearForFirst k2 x5 s).bind fun t9 => (wstI s 41 84 x5 (t8 ||| (((t9 >>> (t6 &&& 31)) &&& 1) <<< ((s.1 40 4) &&& 31)))).bind fun s11 => (wldI s11 42 84 x5).bind fun t12 => (wX5_nearForSecond k2 x5 s11).bind fun t13 => (wstI s11 42 84 x5 (t12 ||| (((t13 >>> (t6 &&& 31)) &&& 1) <<< ((s11.1 40 4) &&& 31)))).bind fun s15 => wX6_add_h13 x1 k2 k3 n (x5 + 1) s15) else (some s)) else (some s)
theorem wX6_add_t13 {x1 : Int32} {k2 : Nat} {k3 : Nat} {x : wS} {r : ri_R} (hk2 : wkd k2 = 3) (hk3 : wkd k3 = 0) (he108 : ∀ (s : wS) (w1 : Int32) (w2 : Nat) (w3 : Nat) (w5 : Int32) (w6 : Option Value) , x = s → gRun 4 70 108 [some (.ref 41), some (.int w1), some (.ref (w2 + 1)), some (.ref (w3 + 1)), some (.ref 29), some (.int w5), w6] [] (wmk s) r) : ∀ {n : Nat} {x5 : Int32} {s : wS} {w6 : Option Value} , wX6_add_h13 x1 k2 k3 n x5 s = some x → gRun 4 70 13 [some (.ref 41), some (.int x1), some (.ref (k2 + 1)), some (.ref (k3 + 1)), some (.ref 29), some (.int x5), w6] [] (wmk s) r := by
  intro n
  induction n with
  | zero => intro x5 s w6 h; cases (show (none : Option (wS)) = some x from h)
  | succ n ih =>
    intro x5 s w6 h
    rw [wX6_add_h13] at h
    refine gR_go 2 (pc1 := 16) (L1 := [some (.ref 41), some (.int x1), some (.ref (k2 + 1)), some (.ref (k3 + 1)), some (.ref 29), some (.int x5), w6]) (st1 := [.ref 41, .int x5]) (fun _ _ => rfl) ?_
    refine gR_gfI (k := 40) rfl rfl rfl ?_
    rcases gif h with ⟨c2, h⟩ | ⟨c2, h⟩
    · refine gR_ic_ge_f rfl c2 ?_
      refine gR_go 2 (pc1 := 26) (L1 := [some (.ref 41), some (.int x1), some (.ref (k2 + 1)), some (.ref (k3 + 1)), some (.ref 29), some (.int x5), w6]) (st1 := [.int 84, .int x5]) (fun _ _ => rfl) ?_
      rcases gif h with ⟨c3, h⟩ | ⟨c3, h⟩
      · refine gR_ic_ge_f rfl c3 ?_
        refine gR_go 3 (pc1 := 33) (L1 := [some (.ref 41), some (.int x1), some (.ref (k2 + 1)), some (.ref (k3 + 1)), some (.ref 29), some (.int x5), w6]) (st1 := [.ref 29, .int x1, .ref (k3 + 1)]) (fun _ _ => rfl) ?_
        refine gR_gfR (k := 28) (k' := 29) rfl rfl rfl rfl ?_
        refine gR_go 1 (pc1 := 38) (L1 := [some (.ref 41), some (.int x1), some (.ref (k2 + 1)), some (.ref (k3 + 1)), some (.ref 29), some (.int x5), w6]) (st1 := [.int x5, .ref 30, .int x1, .ref (k3 + 1)]) (fun _ _ => rfl) ?_
        obtain ⟨t4, e5, h⟩ := gb h
        refine gR_csI (wX10_at_s rfl e5) (Nat.le_of_ble_eq_true rfl) rfl rfl rfl rfl ?_
        obtain ⟨t6, e7, h⟩ := gb h
        refine gR_cvI (wX0_thingIn_s hk3 e7) (Nat.le_of_ble_eq_true rfl) rfl rfl hk3 rfl rfl ?_
        refine gR_go 2 (pc1 := 47) (L1 := [some (.ref 41), some (.int x1), some (.ref (k2 + 1)), some (.ref (k3 + 1)), some (.ref 29), some (.int x5), some (.int t6)]) (st1 := [.ref 41]) (fun _ _ => rfl) ?_
        refine gR_gfR (k := 40) (k' := 41) rfl rfl rfl rfl ?_
        refine gR_go 2 (pc1 := 53) (L1 := [some (.ref 41), some (.int x1), some (.ref (k2 + 1)), some (.ref (k3 + 1)), some (.ref 29), some (.int x5), some (.int t6)]) (st1 := [.int x5, .ref 42, .int x5, .ref 42]) (fun _ _ => rfl) ?_
        obtain ⟨t8, et8, h⟩ := gb h
        refine gR_ial (k := 41) rfl rfl rfl et8 ?_
        refine gR_go 3 (pc1 := 59) (L1 := [some (.ref 41), some (.int x1), some (.ref (k2 + 1)), some (.ref (k3 + 1)), some (.ref 29), some (.int x5), some (.int t6)]) (st1 := [.int x5, .ref (k2 + 1), .ref 29, .int t8, .int x5, .ref 42]) (fun _ _ => rfl) ?_
        obtain ⟨t9, e10, h⟩ := gb h
        refine gR_cvI (wX5_nearForFirst_s hk2 e10) (Nat.le_of_ble_eq_true rfl) rfl rfl rfl rfl rfl ?_
        refine gR_go 5 (pc1 := 68) (L1 := [some (.ref 41), some (.int x1), some (.ref (k2 + 1)), some (.ref (k3 + 1)), some (.ref 29), some (.int x5), some (.int t6)]) (st1 := [.ref 41, .int ((t9 >>> (t6 &&& 31)) &&& 1), .int t8, .int x5, .ref 42]) (fun _ _ => rfl) ?_
        refine gR_gfI (k := 40) rfl rfl rfl ?_
        refine gR_go 2 (pc1 := 73) (L1 := [some (.ref 41), some (.int x1), some (.ref (k2 + 1)), some (.ref (k3 + 1)), some (.ref 29), some (.int x5), some (.int t6)]) (st1 := [.int (t8 ||| (((t9 >>> (t6 &&& 31)) &&& 1) <<< ((s.1 40 4) &&& 31))), .int x5, .ref 42]) (fun _ _ => rfl) ?_
        obtain ⟨s11, es11, h⟩ := gb h
        refine gR_ias (k := 41) rfl rfl rfl es11 ?_
        refine gR_go 1 (pc1 := 75) (L1 := [some (.ref 41), some (.int x1), some (.ref (k2 + 1)), some (.ref (k3 + 1)), some (.ref 29), some (.int x5), some (.int t6)]) (st1 := [.ref 41]) (fun _ _ => rfl) ?_
        refine gR_gfR (k := 40) (k' := 42) rfl rfl rfl rfl ?_
        refine gR_go 2 (pc1 := 81) (L1 := [some (.ref 41), some (.int x1), some (.ref (k2 + 1)), some (.ref (k3 + 1)), some (.ref 29), some (.int x5), some (.int t6)]) (st1 := [.int x5, .ref 43, .int x5, .ref 43]) (fun _ _ => rfl) ?_
        obtain ⟨t12, et12, h⟩ := gb h
        refine gR_ial (k := 42) rfl rfl rfl et12 ?_
        refine gR_go 3 (pc1 := 87) (L1 := [some (.ref 41), some (.int x1), some (.ref (k2 + 1)), some (.ref (k3 + 1)), some (.ref 29), some (.int x5), some (.int t6)]) (st1 := [.int x5, .ref (k2 + 1), .ref 29, .int t12, .int x5, .ref 43]) (fun _ _ => rfl) ?_
        obtain ⟨t13, e14, h⟩ := gb h
        refine gR_cvI (wX5_nearForSecond_s hk2 e14) (Nat.le_of_ble_eq_true rfl) rfl rfl rfl rfl rfl ?_
        refine gR_go 5 (pc1 := 96) (L1 := [some (.ref 41), some (.int x1), some (.ref (k2 + 1)), some (.ref (k3 + 1)), some (.ref 29), some (.int x5), some (.int t6)]) (st1 := [.ref 41, .int ((t13 >>> (t6 &&& 31)) &&& 1), .int t12, .int x5, .ref 43]) (fun _ _ => rfl) ?_
        refine gR_gfI (k := 40) rfl rfl rfl ?_
        refine gR_go 2 (pc1 := 101) (L1 := [some (.ref 41), some (.int x1), some (.ref (k2 + 1)), some (.ref (k3 + 1)), some (.ref 29), some (.int x5), some (.int t6)]) (st1 := [.int (t12 ||| (((t13 >>> (t6 &&& 31)) &&& 1) <<< ((s11.1 40 4) &&& 31))), .int x5, .ref 43]) (fun _ _ => rfl) ?_
        obtain ⟨s15, es15, h⟩ := gb h
        refine gR_ias (k := 42) rfl rfl rfl es15 ?_
        refine gR_go 2 (pc1 := 13) (L1 := [some (.ref 41), some (.int x1), some (.ref (k2 + 1)), some (.ref (k3 + 1)), some (.ref 29), some (.int (x5 + 1)), some (.int t6)]) (st1 := []) (fun _ _ => rfl) ?_
        exact ih h
      · refine gR_ic_ge_j rfl c3 rfl ?_
        exact he108 _ _ _ _ _ _ (Option.some.inj h).symm
    · refine gR_ic_ge_j rfl c2 rfl ?_
      exact he108 _ _ _ _ _ _ (Option.some.inj h).symm
noncomputable def wX6_add_j108 (s : wS) : Option (wS) := (wpfI s 40 4 ((s.1 40 4) + 1)).bind fun s23 => some s23
theorem wX6_add_u108 {s : wS} {w1 : Int32} {w2 : Nat} {w3 : Nat} {w5 : Int32} {w6 : Option Value} {rs : wS} (h : wX6_add_j108 s = some rs) : gRun 4 70 108 [some (.ref 41), some (.int w1), some (.ref (w2 + 1)), some (.ref (w3 + 1)), some (.ref 29), some (.int w5), w6] [] (wmk s) (none, wmk rs, 0, 0) := by
  unfold wX6_add_j108 at h
  refine gR_go 2 (pc1 := 110) (L1 := [some (.ref 41), some (.int w1), some (.ref (w2 + 1)), some (.ref (w3 + 1)), some (.ref 29), some (.int w5), w6]) (st1 := [.ref 41, .ref 41]) (fun _ _ => rfl) ?_
  refine gR_gfI (k := 40) rfl rfl rfl ?_
  refine gR_go 2 (pc1 := 115) (L1 := [some (.ref 41), some (.int w1), some (.ref (w2 + 1)), some (.ref (w3 + 1)), some (.ref 29), some (.int w5), w6]) (st1 := [.int ((s.1 40 4) + 1), .ref 41]) (fun _ _ => rfl) ?_
  obtain ⟨s23, es23, h⟩ := gb h
  refine gR_pfI (k := 40) rfl rfl rfl rfl es23 ?_
  obtain rfl := gi1 h
  exact gR_rv rfl rfl
noncomputable def wX6_add (x1 : Int32) (k2 : Nat) (k3 : Nat) (s : wS) : Option (wS) := if (s.1 40 4) < 8 then ((wX6_add_h13 x1 k2 k3 wFuel 0 s).bind fun s17 => wX6_add_j108 s17) else (some s)
theorem wX6_add_s {x1 : Int32} {k2 : Nat} {k3 : Nat} {s : wS} {rs : wS} (hk2 : wkd k2 = 3) (hk3 : wkd k3 = 0) (h : wX6_add x1 k2 k3 s = some rs) : gEv 5 70 [.ref 41, .int x1, .ref (k2 + 1), .ref (k3 + 1), .ref 29] (wmk s) (none, wmk rs, 0, 0) := by
  refine gEv_of (d := 4) (L := [some (.ref 41), some (.int x1), some (.ref (k2 + 1)), some (.ref (k3 + 1)), some (.ref 29), none, none]) rfl ?_
  unfold wX6_add at h
  refine gR_go 1 (pc1 := 1) (L1 := [some (.ref 41), some (.int x1), some (.ref (k2 + 1)), some (.ref (k3 + 1)), some (.ref 29), none, none]) (st1 := [.ref 41]) (fun _ _ => rfl) ?_
  refine gR_gfI (k := 40) rfl rfl rfl ?_
  refine gR_go 1 (pc1 := 6) (L1 := [some (.ref 41), some (.int x1), some (.ref (k2 + 1)), some (.ref (k3 + 1)), some (.ref 29), none, none]) (st1 := [.int 8, .int (s.1 40 4)]) (fun _ _ => rfl) ?_
  rcases gif h with ⟨c1, h⟩ | ⟨c1, h⟩
  · refine gR_ic_lt_j rfl c1 rfl ?_
    refine gR_go 2 (pc1 := 13) (L1 := [some (.ref 41), some (.int x1), some (.ref (k2 + 1)), some (.ref (k3 + 1)), some (.ref 29), some (.int 0), none]) (st1 := []) (fun _ _ => rfl) ?_
    obtain ⟨z16, ez16, h⟩ := gb h
    refine wX6_add_t13 hk2 hk3 ?_  ez16
    · intro s17 w18 w19 w20 w21 w22 hz
      replace hz := hz.symm
      subst hz
      exact wX6_add_u108 h
  · refine gR_ic_lt_f rfl c1 ?_
    obtain rfl := gi1 h
    exact gR_rv rfl rfl
noncomputable def wJ6_bitCount_0f7a4 (x0 : Int32) (s : wS) : Option (Int32) := some ((((((((x0 - ((ri_ushr x0 1) &&& 1431655765)) &&& 858993459) + ((ri_ushr (x0 - ((ri_ushr x0 1) &&& 1431655765)) 2) &&& 858993459)) + (ri_ushr (((x0 - ((ri_ushr x0 1) &&& 1431655765)) &&& 858993459) + ((ri_ushr (x0 - ((ri_ushr x0 1) &&& 1431655765)) 2) &&& 858993459)) 4)) &&& 252645135) + (ri_ushr (((((x0 - ((ri_ushr x0 1) &&& 1431655765)) &&& 858993459) + ((ri_ushr (x0 - ((ri_ushr x0 1) &&& 1431655765)) 2) &&& 858993459)) + (ri_ushr (((x0 - ((ri_ushr x0 1) &&& 1431655765)) &&& 858993459) + ((ri_ushr (x0 - ((ri_ushr x0 1) &&& 1431655765)) 2) &&& 858993459)) 4)) &&& 252645135) 8)) + (ri_ushr ((((((x0 - ((ri_ushr x0 1) &&& 1431655765)) &&& 858993459) + ((ri_ushr (x0 - ((ri_ushr x0 1) &&& 1431655765)) 2) &&& 858993459)) + (ri_ushr (((x0 - ((ri_ushr x0 1) &&& 1431655765)) &&& 858993459) + ((ri_ushr (x0 - ((ri_ushr x0 1) &&& 1431655765)) 2) &&& 858993459)) 4)) &&& 252645135) + (ri_ushr (((((x0 - ((ri_ushr x0 1) &&& 1431655765)) &&& 858993459) + ((ri_ushr (x0 - ((ri_ushr x0 1) &&& 1431655765)) 2) &&& 858993459)) + (ri_ushr (((x0 - ((ri_ushr x0 1) &&& 1431655765)) &&& 858993459) + ((ri_ushr (x0 - ((ri_ushr x0 1) &&& 1431655765)) 2) &&& 858993459)) 4)) &&& 252645135) 8)) 16)) &&& 63)
theorem wJ6_bitCount_0f7a4_s {x0 : Int32} {s : wS} {rv : Int32} (h : wJ6_bitCount_0f7a4 x0 s = some rv) : gEv 1 280 [.int x0] (wmk s) (some (.int rv), wmk s, 0, 0) := by
  refine gEv_of (d := 0) (L := [some (.int x0)]) rfl ?_
  unfold wJ6_bitCount_0f7a4 at h
  refine gR_go 41 (pc1 := 52) (L1 := [some (.int (((((((x0 - ((ri_ushr x0 1) &&& 1431655765)) &&& 858993459) + ((ri_ushr (x0 - ((ri_ushr x0 1) &&& 1431655765)) 2) &&& 858993459)) + (ri_ushr (((x0 - ((ri_ushr x0 1) &&& 1431655765)) &&& 858993459) + ((ri_ushr (x0 - ((ri_ushr x0 1) &&& 1431655765)) 2) &&& 858993459)) 4)) &&& 252645135) + (ri_ushr (((((x0 - ((ri_ushr x0 1) &&& 1431655765)) &&& 858993459) + ((ri_ushr (x0 - ((ri_ushr x0 1) &&& 1431655765)) 2) &&& 858993459)) + (ri_ushr (((x0 - ((ri_ushr x0 1) &&& 1431655765)) &&& 858993459) + ((ri_ushr (x0 - ((ri_ushr x0 1) &&& 1431655765)) 2) &&& 858993459)) 4)) &&& 252645135) 8)) + (ri_ushr ((((((x0 - ((ri_ushr x0 1) &&& 1431655765)) &&& 858993459) + ((ri_ushr (x0 - ((ri_ushr x0 1) &&& 1431655765)) 2) &&& 858993459)) + (ri_ushr (((x0 - ((ri_ushr x0 1) &&& 1431655765)) &&& 858993459) + ((ri_ushr (x0 - ((ri_ushr x0 1) &&& 1431655765)) 2) &&& 858993459)) 4)) &&& 252645135) + (ri_ushr (((((x0 - ((ri_ushr x0 1) &&& 1431655765)) &&& 858993459) + ((ri_ushr (x0 - ((ri_ushr x0 1) &&& 1431655765)) 2) &&& 858993459)) + (ri_ushr (((x0 - ((ri_ushr x0 1) &&& 1431655765)) &&& 858993459) + ((ri_ushr (x0 - ((ri_ushr x0 1) &&& 1431655765)) 2) &&& 858993459)) 4)) &&& 252645135) 8)) 16)))]) (st1 := [.int ((((((((x0 - ((ri_ushr x0 1) &&& 1431655765)) &&& 858993459) + ((ri_ushr (x0 - ((ri_ushr x0 1) &&& 1431655765)) 2) &&& 858993459)) + (ri_ushr (((x0 - ((ri_ushr x0 1) &&& 1431655765)) &&& 858993459) + ((ri_ushr (x0 - ((ri_ushr x0 1) &&& 1431655765)) 2) &&& 858993459)) 4)) &&& 252645135) + (ri_ushr (((((x0 - ((ri_ushr x0 1) &&& 1431655765)) &&& 858993459) + ((ri_ushr (x0 - ((ri_ushr x0 1) &&& 1431655765)) 2) &&& 858993459)) + (ri_ushr (((x0 - ((ri_ushr x0 1) &&& 1431655765)) &&& 858993459) + ((ri_ushr (x0 - ((ri_ushr x0 1) &&& 1431655765)) 2) &&& 858993459)) 4)) &&& 252645135) 8)) + (ri_ushr ((((((x0 - ((ri_ushr x0 1) &&& 1431655765)) &&& 858993459) + ((ri_ushr (x0 - ((ri_ushr x0 1) &&& 1431655765)) 2) &&& 858993459)) + (ri_ushr (((x0 - ((ri_ushr x0 1) &&& 1431655765)) &&& 858993459) + ((ri_ushr (x0 - ((ri_ushr x0 1) &&& 1431655765)) 2) &&& 858993459)) 4)) &&& 252645135) + (ri_ushr (((((x0 - ((ri_ushr x0 1) &&& 1431655765)) &&& 858993459) + ((ri_ushr (x0 - ((ri_ushr x0 1) &&& 1431655765)) 2) &&& 858993459)) + (ri_ushr (((x0 - ((ri_ushr x0 1) &&& 1431655765)) &&& 858993459) + ((ri_ushr (x0 - ((ri_ushr x0 1) &&& 1431655765)) 2) &&& 858993459)) 4)) &&& 252645135) 8)) 16)) &&& 63)]) (fun _ _ => rfl) ?_
  obtain rfl := gi1 h
  exact gR_ri rfl rfl
noncomputable def wX6_fewestFor_j88 (qq : Int32 → Int32 → Option (Int32)) (x1 : Int32) (x2 : Int32) (x3 : Int32) (s : wS) : Option (Int32) := qq x2 (x3 + 1)
theorem wX6_fewestFor_u88 {x1 : Int32} {x2 : Int32} {x3 : Int32} {s : wS} {w4 : Int32} {w5 : Int32} {qq : Int32 → Int32 → Option (Int32)} {x : Int32} {r : ri_R} (ih : ∀ {x2 : Int32} {x3 : Int32} {w4 : Option Value} {w5 : Option Value} , qq x2 x3 = some x → gRun 1 72 14 [some (.ref 41), some (.int x1), some (.int x2), some (.int x3), w4, w5] [] (wmk s) r) (he94 : ∀ (x2 : Int32) (w1 : Int32) (w3 : Int32) (w4 : Option Value) (w5 : Option Value) , x = x2 → gRun 1 72 94 [some (.ref 41), some (.int w1), some (.int x2), some (.int w3), w4, w5] [] (wmk s) r) (h : wX6_fewestFor_j88 qq x1 x2 x3 s = some x) : gRun 1 72 88 [some (.ref 41), some (.int x1), some (.int x2), some (.int x3), some (.int w4), some (.int w5)] [] (wmk s) r := by
  unfold wX6_fewestFor_j88 at h
  refine gR_go 2 (pc1 := 14) (L1 := [some (.ref 41), some (.int x1), some (.int x2), some (.int (x3 + 1)), some (.int w4), some (.int w5)]) (st1 := []) (fun _ _ => rfl) ?_
  exact ih h
noncomputable def wX6_fewestFor_h14 (x1 : Int32) (s : wS) : Nat → Int32 → Int32 → Option (Int32)
  | 0, _, _ => none
  | n + 1, x2, x3 => if x3 < (s.1 40 3) then (if x3 < 84 then ((wldI s 41 84 x3).bind fun t6 => (wldI s 42 84 x3).bind fun t7 => if (x1 &&& t6) = x1 then (wX6_fewestFor_j88 (wX6_fewestFor_h14 x1 s n) x1 x2 x3 s) else (if (x1 &&& t7) = x1 then (wX6_fewestFor_j88 (wX6_fewestFor_h14 x1 s n) x1 x2 x3 s) else ((wX10_at 43 (x1 &&& t6) s).bind fun t10 => (wX10_at 43 (x1 &&& t7) s).bind fun t12 => wX6_fewestFor_j88 (wX6_fewestFor_h14 x1 s n) x1 (wmin x2 (1 + (wmax t10 t12))) x3 s))) else (some x2)) else (some x2)
theorem wX6_fewestFor_t14 {x1 : Int32} {s : wS} {x : Int32} {r : ri_R} (he94 : ∀ (x2 : Int32) (w1 : Int32) (w3 : Int32) (w4 : Option Value) (w5 : Option Value) , x = x2 → gRun 1 72 94 [some (.ref 41), some (.int w1), some (.int x2), some (.int w3), w4, w5] [] (wmk s) r) : ∀ {n : Nat} {x2 : Int32} {x3 : Int32} {w4 : Option Value} {w5 : Option Value} , wX6_fewestFor_h14 x1 s n x2 x3 = some x → gRun 1 72 14 [some (.ref 41), some (.int x1), some (.int x2), some (.int x3), w4, w5] [] (wmk s) r := by
  intro n
  induction n with
  | zero => intro x2 x3 w4 w5 h; cases (show (none : Option (Int32)) = some x from h)
  | succ n ih =>
    intro x2 x3 w4 w5 h
    rw [wX6_fewestFor_h14] at h
    refine gR_go 2 (pc1 := 16) (L1 := [some (.ref 41), some (.int x1), some (.int x2), some (.int x3), w4, w5]) (st1 := [.ref 41, .int x3]) (fun _ _ => rfl) ?_
    refine gR_gfI (k := 40) rfl rfl rfl ?_
    rcases gif h with ⟨c4, h⟩ | ⟨c4, h⟩
    · refine gR_ic_ge_f rfl c4 ?_
      refine gR_go 2 (pc1 := 25) (L1 := [some (.ref 41), some (.int x1), some (.int x2), some (.int x3), w4, w5]) (st1 := [.int 84, .int x3]) (fun _ _ => rfl) ?_
      rcases gif h with ⟨c5, h⟩ | ⟨c5, h⟩
      · refine gR_ic_ge_f rfl c5 ?_
        refine gR_go 2 (pc1 := 30) (L1 := [some (.ref 41), some (.int x1), some (.int x2), some (.int x3), w4, w5]) (st1 := [.ref 41, .int x1]) (fun _ _ => rfl) ?_
        refine gR_gfR (k := 40) (k' := 41) rfl rfl rfl rfl ?_
        refine gR_go 1 (pc1 := 34) (L1 := [some (.ref 41), some (.int x1), some (.int x2), some (.int x3), w4, w5]) (st1 := [.int x3, .ref 42, .int x1]) (fun _ _ => rfl) ?_
        obtain ⟨t6, et6, h⟩ := gb h
        refine gR_ial (k := 41) rfl rfl rfl et6 ?_
        refine gR_go 4 (pc1 := 40) (L1 := [some (.ref 41), some (.int x1), some (.int x2), some (.int x3), some (.int (x1 &&& t6)), w5]) (st1 := [.ref 41, .int x1]) (fun _ _ => rfl) ?_
        refine gR_gfR (k := 40) (k' := 42) rfl rfl rfl rfl ?_
        refine gR_go 1 (pc1 := 44) (L1 := [some (.ref 41), some (.int x1), some (.int x2), some (.int x3), some (.int (x1 &&& t6)), w5]) (st1 := [.int x3, .ref 43, .int x1]) (fun _ _ => rfl) ?_
        obtain ⟨t7, et7, h⟩ := gb h
        refine gR_ial (k := 42) rfl rfl rfl et7 ?_
        refine gR_go 4 (pc1 := 51) (L1 := [some (.ref 41), some (.int x1), some (.int x2), some (.int x3), some (.int (x1 &&& t6)), some (.int (x1 &&& t7))]) (st1 := [.int x1, .int (x1 &&& t6)]) (fun _ _ => rfl) ?_
        rcases gif h with ⟨c8, h⟩ | ⟨c8, h⟩
        · refine gR_ic_eq_j rfl c8 rfl ?_
          exact wX6_fewestFor_u88 ih he94 h
        · refine gR_ic_eq_f rfl c8 ?_
          refine gR_go 2 (pc1 := 57) (L1 := [some (.ref 41), some (.int x1), some (.int x2), some (.int x3), some (.int (x1 &&& t6)), some (.int (x1 &&& t7))]) (st1 := [.int x1, .int (x1 &&& t7)]) (fun _ _ => rfl) ?_
          rcases gif h with ⟨c9, h⟩ | ⟨c9, h⟩
          · refine gR_ic_eq_j rfl c9 rfl ?_
            exact wX6_fewestFor_u88 ih he94 h
          · refine gR_ic_eq_f rfl c9 ?_
            refine gR_go 3 (pc1 := 63) (L1 := [some (.ref 41), some (.int x1), some (.int x2), some (.int x3), some (.int (x1 &&& t6)), some (.int (x1 &&& t7))]) (st1 := [.ref 41, .int 1, .int x2]) (fun _ _ => rfl) ?_
            refine gR_gfR (k := 40) (k' := 43) rfl rfl rfl rfl ?_
            refine gR_go 1 (pc1 := 68) (L1 := [some (.ref 41), some (.int x1), some (.int x2), some (.int x3), some (.int (x1 &&& t6)), some (.int (x1 &&& t7))]) (st1 := [.int (x1 &&& t6), .ref 44, .int 1, .int x2]) (fun _ _ => rfl) ?_
            obtain ⟨t10, e11, h⟩ := gb h
            refine gR_csI (wX10_at_s rfl e11) (Nat.le_of_ble_eq_true rfl) rfl rfl rfl rfl ?_
            refine gR_go 1 (pc1 := 72) (L1 := [some (.ref 41), some (.int x1), some (.int x2), some (.int x3), some (.int (x1 &&& t6)), some (.int (x1 &&& t7))]) (st1 := [.ref 41, .int t10, .int 1, .int x2]) (fun _ _ => rfl) ?_
            refine gR_gfR (k := 40) (k' := 43) rfl rfl rfl rfl ?_
            refine gR_go 1 (pc1 := 77) (L1 := [some (.ref 41), some (.int x1), some (.int x2), some (.int x3), some (.int (x1 &&& t6)), some (.int (x1 &&& t7))]) (st1 := [.int (x1 &&& t7), .ref 44, .int t10, .int 1, .int x2]) (fun _ _ => rfl) ?_
            obtain ⟨t12, e13, h⟩ := gb h
            refine gR_csI (wX10_at_s rfl e13) (Nat.le_of_ble_eq_true rfl) rfl rfl rfl rfl ?_
            refine gR_max rfl rfl rfl ?_
            refine gR_go 1 (pc1 := 84) (L1 := [some (.ref 41), some (.int x1), some (.int x2), some (.int x3), some (.int (x1 &&& t6)), some (.int (x1 &&& t7))]) (st1 := [.int (1 + (wmax t10 t12)), .int x2]) (fun _ _ => rfl) ?_
            refine gR_min rfl rfl rfl ?_
            refine gR_go 1 (pc1 := 88) (L1 := [some (.ref 41), some (.int x1), some (.int (wmin x2 (1 + (wmax t10 t12)))), some (.int x3), some (.int (x1 &&& t6)), some (.int (x1 &&& t7))]) (st1 := []) (fun _ _ => rfl) ?_
            exact wX6_fewestFor_u88 ih he94 h
      · refine gR_ic_ge_j rfl c5 rfl ?_
        exact he94 _ _ _ _ _ (Option.some.inj h).symm
    · refine gR_ic_ge_j rfl c4 rfl ?_
      exact he94 _ _ _ _ _ (Option.some.inj h).symm
noncomputable def wX6_fewestFor (x1 : Int32) (s : wS) : Option (Int32) := (wJ6_bitCount_0f7a4 x1 s).bind fun t1 => if 1 < t1 then ((wX6_fewestFor_h14 x1 s wFuel 4 0).bind fun t15 => some t15) else (some 0)
theorem wX6_fewestFor_s {x1 : Int32} {s : wS} {rv : Int32} (h : wX6_fewestFor x1 s = some rv) : gEv 2 72 [.ref 41, .int x1] (wmk s) (some (.int rv), wmk s, 0, 0) := by
  refine gEv_of (d := 1) (L := [some (.ref 41), some (.int x1), none, none, none, none]) rfl ?_
  unfold wX6_fewestFor at h
  refine gR_go 1 (pc1 := 1) (L1 := [some (.ref 41), some (.int x1), none, none, none, none]) (st1 := [.int x1]) (fun _ _ => rfl) ?_
  obtain ⟨t1, e2, h⟩ := gb h
  refine gR_csI (wJ6_bitCount_0f7a4_s e2) (Nat.le_of_ble_eq_true rfl) rfl rfl rfl rfl ?_
  refine gR_go 1 (pc1 := 5) (L1 := [some (.ref 41), some (.int x1), none, none, none, none]) (st1 := [.int 1, .int t1]) (fun _ _ => rfl) ?_
  rcases gif h with ⟨c3, h⟩ | ⟨c3, h⟩
  · refine gR_ic_gt_j rfl c3 rfl ?_
    refine gR_go 4 (pc1 := 14) (L1 := [some (.ref 41), some (.int x1), some (.int 4), some (.int 0), none, none]) (st1 := []) (fun _ _ => rfl) ?_
    obtain ⟨z14, ez14, h⟩ := gb h
    refine wX6_fewestFor_t14 ?_  ez14
    · intro t15 w16 w17 w18 w19 hz
      replace hz := hz.symm
      subst hz
      refine gR_go 1 (pc1 := 95) (L1 := [some (.ref 41), some (.int w16), some (.int t15), some (.int w17), w18, w19]) (st1 := [.int t15]) (fun _ _ => rfl) ?_
      obtain rfl := gi1 h
      exact gR_ri rfl rfl
  · refine gR_ic_gt_f rfl c3 ?_
    refine gR_go 1 (pc1 := 9) (L1 := [some (.ref 41), some (.int x1), none, none, none, none]) (st1 := [.int 0]) (fun _ _ => rfl) ?_
    obtain rfl := gi1 h
    exact gR_ri rfl rfl
noncomputable def wX6_pairsForAll_h11 (x1 : Int32) : Nat → Int32 → wS → Option (wS)
  | 0, _, _ => none
  | n + 1, x2, s => if x1 < x2 then (some s) else (if x2 < 256 then ((wX6_fewestFor x2 s).bind fun t3 => (wstI s 43 256 x2 t3).bind fun s5 => wX6_pairsForAll_h11 x1 n (x2 + 1) s5) else (some s))
theorem wX6_pairsForAll_t11 {x1 : Int32} {x : wS} {r : ri_R} (he42 : ∀ (s : wS) (w2 : Int32) , x = s → gRun 2 71 42 [some (.ref 41), some (.int x1), some (.int w2)] [] (wmk s) r) : ∀ {n : Nat} {x2 : Int32} {s : wS} , wX6_pairsForAll_h11 x1 n x2 s = some x → gRun 2 71 11 [some (.ref 41), some (.int x1), some (.int x2)] [] (wmk s) r := by
  intro n
  induction n with
  | zero => intro x2 s h; cases (show (none : Option (wS)) = some x from h)
  | succ n ih =>
    intro x2 s h
    rw [wX6_pairsForAll_h11] at h
    refine gR_go 2 (pc1 := 13) (L1 := [some (.ref 41), some (.int x1), some (.int x2)]) (st1 := [.int x1, .int x2]) (fun _ _ => rfl) ?_
    rcases gif h with ⟨c1, h⟩ | ⟨c1, h⟩
    · refine gR_ic_gt_j rfl c1 rfl ?_
      exact he42 _ _ (Option.some.inj h).symm
    · refine gR_ic_gt_f rfl c1 ?_
      refine gR_go 2 (pc1 := 18) (L1 := [some (.ref 41), some (.int x1), some (.int x2)]) (st1 := [.ref 41, .int x2]) (fun _ _ => rfl) ?_
      refine gR_gfR (k := 40) (k' := 43) rfl rfl rfl rfl ?_
      refine gR_aln (k := 43) rfl (by decide) rfl (w := 256) rfl ?_
      rcases gif h with ⟨c2, h⟩ | ⟨c2, h⟩
      · refine gR_ic_ge_f rfl c2 ?_
        refine gR_go 1 (pc1 := 26) (L1 := [some (.ref 41), some (.int x1), some (.int x2)]) (st1 := [.ref 41]) (fun _ _ => rfl) ?_
        refine gR_gfR (k := 40) (k' := 43) rfl rfl rfl rfl ?_
        refine gR_go 3 (pc1 := 32) (L1 := [some (.ref 41), some (.int x1), some (.int x2)]) (st1 := [.int x2, .ref 41, .int x2, .ref 44]) (fun _ _ => rfl) ?_
        obtain ⟨t3, e4, h⟩ := gb h
        refine gR_cvI (wX6_fewestFor_s e4) (Nat.le_of_ble_eq_true rfl) rfl rfl rfl rfl rfl ?_
        obtain ⟨s5, es5, h⟩ := gb h
        refine gR_ias (k := 43) rfl rfl rfl es5 ?_
        refine gR_go 2 (pc1 := 11) (L1 := [some (.ref 41), some (.int x1), some (.int (x2 + 1))]) (st1 := []) (fun _ _ => rfl) ?_
        exact ih h
      · refine gR_ic_ge_j rfl c2 rfl ?_
        exact he42 _ _ (Option.some.inj h).symm
noncomputable def wX6_pairsForAll_j42 (x1 : Int32) (s : wS) : Option (Int32 × wS) := (wX10_at 43 x1 s).bind fun t9 => some (t9, s)
theorem wX6_pairsForAll_u42 {x1 : Int32} {s : wS} {w2 : Int32} {rv : Int32} {rs : wS} (h : wX6_pairsForAll_j42 x1 s = some (rv, rs)) : gRun 2 71 42 [some (.ref 41), some (.int x1), some (.int w2)] [] (wmk s) (some (.int rv), wmk rs, 0, 0) := by
  unfold wX6_pairsForAll_j42 at h
  refine gR_go 1 (pc1 := 43) (L1 := [some (.ref 41), some (.int x1), some (.int w2)]) (st1 := [.ref 41]) (fun _ _ => rfl) ?_
  refine gR_gfR (k := 40) (k' := 43) rfl rfl rfl rfl ?_
  refine gR_go 1 (pc1 := 47) (L1 := [some (.ref 41), some (.int x1), some (.int w2)]) (st1 := [.int x1, .ref 44]) (fun _ _ => rfl) ?_
  obtain ⟨t9, e10, h⟩ := gb h
  refine gR_csI (wX10_at_s rfl e10) (Nat.le_of_ble_eq_true rfl) rfl rfl rfl rfl ?_
  obtain ⟨rfl, rfl⟩ := gi2 h
  exact gR_ri rfl rfl
noncomputable def wX6_pairsForAll (s : wS) : Option (Int32 × wS) := (wX6_pairsForAll_h11 ((1 <<< ((s.1 40 4) &&& 31)) - 1) wFuel 0 s).bind fun s7 => wX6_pairsForAll_j42 ((1 <<< ((s.1 40 4) &&& 31)) - 1) s7
theorem wX6_pairsForAll_s {s : wS} {rv : Int32} {rs : wS} (h : wX6_pairsForAll s = some (rv, rs)) : gEv 3 71 [.ref 41] (wmk s) (some (.int rv), wmk rs, 0, 0) := by
  refine gEv_of (d := 2) (L := [some (.ref 41), none, none]) rfl ?_
  unfold wX6_pairsForAll at h
  refine gR_go 2 (pc1 := 2) (L1 := [some (.ref 41), none, none]) (st1 := [.ref 41, .int 1]) (fun _ _ => rfl) ?_
  refine gR_gfI (k := 40) rfl rfl rfl ?_
  refine gR_go 6 (pc1 := 11) (L1 := [some (.ref 41), some (.int ((1 <<< ((s.1 40 4) &&& 31)) - 1)), some (.int 0)]) (st1 := []) (fun _ _ => rfl) ?_
  obtain ⟨z6, ez6, h⟩ := gb h
  refine wX6_pairsForAll_t11 ?_  ez6
  · intro s7 w8 hz
    replace hz := hz.symm
    subst hz
    exact wX6_pairsForAll_u42 h
noncomputable def wX7_clear (k0 : Nat) (s : wS) : Option (wS) := (wX10_empty (k0 + 1) s).bind fun s2 => (wpfI s2 k0 1 0).bind fun s4 => some s4
theorem wX7_clear_s {k0 : Nat} {s : wS} {rs : wS} (hk0 : wkd k0 = 7) (h : wX7_clear k0 s = some rs) : gEv 2 74 [.ref (k0 + 1)] (wmk s) (none, wmk rs, 0, 0) := by
  refine gEv_of (d := 1) (L := [some (.ref (k0 + 1))]) rfl ?_
  unfold wX7_clear at h
  refine gR_go 1 (pc1 := 1) (L1 := [some (.ref (k0 + 1))]) (st1 := [.ref (k0 + 1)]) (fun _ _ => rfl) ?_
  refine gR_gfR (k := k0) (k' := (k0 + 1)) rfl hk0 rfl (wly_7_0 hk0).1 ?_
  obtain ⟨s2, e3, h⟩ := gb h
  refine gR_csV (wX10_empty_s (wly_7_0 hk0).2.1 e3) (Nat.le_of_ble_eq_true rfl) rfl rfl rfl rfl ?_
  refine gR_go 2 (pc1 := 9) (L1 := [some (.ref (k0 + 1))]) (st1 := [.int 0, .ref (k0 + 1)]) (fun _ _ => rfl) ?_
  obtain ⟨s4, es4, h⟩ := gb h
  refine gR_pfI (k := k0) rfl hk0 rfl rfl es4 ?_
  obtain rfl := gi1 h
  exact gR_rv rfl rfl
noncomputable def wX7_addOne (k0 : Nat) (x1 : Int32) (s : wS) : Option (wS) := (wX10_at (k0 + 1) x1 s).bind fun t1 => (wX10_set (k0 + 1) x1 (t1 + 1) s).bind fun s4 => some s4
theorem wX7_addOne_s {k0 : Nat} {x1 : Int32} {s : wS} {rs : wS} (hk0 : wkd k0 = 7) (h : wX7_addOne k0 x1 s = some rs) : gEv 2 76 [.ref (k0 + 1), .int x1] (wmk s) (none, wmk rs, 0, 0) := by
  refine gEv_of (d := 1) (L := [some (.ref (k0 + 1)), some (.int x1)]) rfl ?_
  unfold wX7_addOne at h
  refine gR_go 1 (pc1 := 1) (L1 := [some (.ref (k0 + 1)), some (.int x1)]) (st1 := [.ref (k0 + 1)]) (fun _ _ => rfl) ?_
  refine gR_gfR (k := k0) (k' := (k0 + 1)) rfl hk0 rfl (wly_7_0 hk0).1 ?_
  refine gR_go 2 (pc1 := 6) (L1 := [some (.ref (k0 + 1)), some (.int x1)]) (st1 := [.ref (k0 + 1), .int x1, .ref ((k0 + 1) + 1)]) (fun _ _ => rfl) ?_
  refine gR_gfR (k := k0) (k' := (k0 + 1)) rfl hk0 rfl (wly_7_0 hk0).1 ?_
  refine gR_go 1 (pc1 := 10) (L1 := [some (.ref (k0 + 1)), some (.int x1)]) (st1 := [.int x1, .ref ((k0 + 1) + 1), .int x1, .ref ((k0 + 1) + 1)]) (fun _ _ => rfl) ?_
  obtain ⟨t1, e2, h⟩ := gb h
  refine gR_csI (wX10_at_s (wly_7_0 hk0).2.1 e2) (Nat.le_of_ble_eq_true rfl) rfl rfl rfl rfl ?_
  refine gR_go 2 (pc1 := 15) (L1 := [some (.ref (k0 + 1)), some (.int x1)]) (st1 := [.int (t1 + 1), .int x1, .ref ((k0 + 1) + 1)]) (fun _ _ => rfl) ?_
  obtain ⟨s4, e5, h⟩ := gb h
  refine gR_csV (wX10_set_s (wly_7_0 hk0).2.1 e5) (Nat.le_of_ble_eq_true rfl) rfl rfl rfl rfl ?_
  obtain rfl := gi1 h
  exact gR_rv rfl rfl
noncomputable def wX7_add (k0 : Nat) (x1 : Int32) (x2 : Int32) (x3 : Int32) (s : wS) : Option (wS) := (wX10_slot 0 x1 s).bind fun t1 => (wX7_addOne k0 t1 s).bind fun s4 => (wX10_slot 1 x2 s4).bind fun t6 => (wX7_addOne k0 t6 s4).bind fun s9 => (wX10_slot 2 x3 s9).bind fun t11 => (wX7_addOne k0 t11 s9).bind fun s14 => (wpfI s14 k0 1 ((s14.1 k0 1) + 1)).bind fun s16 => some s16
theorem wX7_add_s {k0 : Nat} {x1 : Int32} {x2 : Int32} {x3 : Int32} {s : wS} {rs : wS} (hk0 : wkd k0 = 7) (h : wX7_add k0 x1 x2 x3 s = some rs) : gEv 3 75 [.ref (k0 + 1), .int x1, .int x2, .int x3] (wmk s) (none, wmk rs, 0, 0) := by
  refine gEv_of (d := 2) (L := [some (.ref (k0 + 1)), some (.int x1), some (.int x2), some (.int x3)]) rfl ?_
  unfold wX7_add at h
  refine gR_go 3 (pc1 := 3) (L1 := [some (.ref (k0 + 1)), some (.int x1), some (.int x2), some (.int x3)]) (st1 := [.int x1, .int 0, .ref (k0 + 1)]) (fun _ _ => rfl) ?_
  obtain ⟨t1, e2, h⟩ := gb h
  refine gR_csI (wX10_slot_s e2) (Nat.le_of_ble_eq_true rfl) rfl rfl rfl rfl ?_
  obtain ⟨s4, e5, h⟩ := gb h
  refine gR_cvV (wX7_addOne_s hk0 e5) (Nat.le_of_ble_eq_true rfl) rfl rfl hk0 rfl rfl ?_
  refine gR_go 3 (pc1 := 12) (L1 := [some (.ref (k0 + 1)), some (.int x1), some (.int x2), some (.int x3)]) (st1 := [.int x2, .int 1, .ref (k0 + 1)]) (fun _ _ => rfl) ?_
  obtain ⟨t6, e7, h⟩ := gb h
  refine gR_csI (wX10_slot_s e7) (Nat.le_of_ble_eq_true rfl) rfl rfl rfl rfl ?_
  obtain ⟨s9, e10, h⟩ := gb h
  refine gR_cvV (wX7_addOne_s hk0 e10) (Nat.le_of_ble_eq_true rfl) rfl rfl hk0 rfl rfl ?_
  refine gR_go 3 (pc1 := 21) (L1 := [some (.ref (k0 + 1)), some (.int x1), some (.int x2), some (.int x3)]) (st1 := [.int x3, .int 2, .ref (k0 + 1)]) (fun _ _ => rfl) ?_
  obtain ⟨t11, e12, h⟩ := gb h
  refine gR_csI (wX10_slot_s e12) (Nat.le_of_ble_eq_true rfl) rfl rfl rfl rfl ?_
  obtain ⟨s14, e15, h⟩ := gb h
  refine gR_cvV (wX7_addOne_s hk0 e15) (Nat.le_of_ble_eq_true rfl) rfl rfl hk0 rfl rfl ?_
  refine gR_go 2 (pc1 := 29) (L1 := [some (.ref (k0 + 1)), some (.int x1), some (.int x2), some (.int x3)]) (st1 := [.ref (k0 + 1), .ref (k0 + 1)]) (fun _ _ => rfl) ?_
  refine gR_gfI (k := k0) rfl hk0 rfl ?_
  refine gR_go 2 (pc1 := 34) (L1 := [some (.ref (k0 + 1)), some (.int x1), some (.int x2), some (.int x3)]) (st1 := [.int ((s14.1 k0 1) + 1), .ref (k0 + 1)]) (fun _ _ => rfl) ?_
  obtain ⟨s16, es16, h⟩ := gb h
  refine gR_pfI (k := k0) rfl hk0 rfl rfl es16 ?_
  obtain rfl := gi1 h
  exact gR_rv rfl rfl
noncomputable def wX7_thingsOf_j25 (qq : Int32 → Int32 → Option (Int32)) (k0 : Nat) (x1 : Int32) (x2 : Int32) (x3 : Int32) (s : wS) : Option (Int32) := qq x2 (x3 + 1)
theorem wX7_thingsOf_u25 {k0 : Nat} {x1 : Int32} {x2 : Int32} {x3 : Int32} {s : wS} {qq : Int32 → Int32 → Option (Int32)} {x : Int32} {r : ri_R} (ih : ∀ {x2 : Int32} {x3 : Int32} , qq x2 x3 = some x → gRun 2 79 4 [some (.ref (k0 + 1)), some (.int x1), some (.int x2), some (.int x3)] [] (wmk s) r) (he31 : ∀ (x2 : Int32) (w0 : Nat) (w1 : Int32) (w3 : Int32) , x = x2 → gRun 2 79 31 [some (.ref (w0 + 1)), some (.int w1), some (.int x2), some (.int w3)] [] (wmk s) r) (hk0 : wkd k0 = 7) (h : wX7_thingsOf_j25 qq k0 x1 x2 x3 s = some x) : gRun 2 79 25 [some (.ref (k0 + 1)), some (.int x1), some (.int x2), some (.int x3)] [] (wmk s) r := by
  unfold wX7_thingsOf_j25 at h
  refine gR_go 2 (pc1 := 4) (L1 := [some (.ref (k0 + 1)), some (.int x1), some (.int x2), some (.int (x3 + 1))]) (st1 := []) (fun _ _ => rfl) ?_
  exact ih h
noncomputable def wX7_thingsOf_h4 (k0 : Nat) (x1 : Int32) (s : wS) : Nat → Int32 → Int32 → Option (Int32)
  | 0, _, _ => none
  | n + 1, x2, x3 => if x3 < 8 then ((wX7_with k0 x1 x3 s).bind fun t2 => if 0 < t2 then (wX7_thingsOf_j25 (wX7_thingsOf_h4 k0 x1 s n) k0 x1 (x2 ||| (1 <<< (x3 &&& 31))) x3 s) else (wX7_thingsOf_j25 (wX7_thingsOf_h4 k0 x1 s n) k0 x1 x2 x3 s)) else (some x2)
theorem wX7_thingsOf_t4 {k0 : Nat} {x1 : Int32} {s : wS} {x : Int32} {r : ri_R} (hk0 : wkd k0 = 7) (he31 : ∀ (x2 : Int32) (w0 : Nat) (w1 : Int32) (w3 : Int32) , x = x2 → gRun 2 79 31 [some (.ref (w0 + 1)), some (.int w1), some (.int x2), some (.int w3)] [] (wmk s) r) : ∀ {n : Nat} {x2 : Int32} {x3 : Int32} , wX7_thingsOf_h4 k0 x1 s n x2 x3 = some x → gRun 2 79 4 [some (.ref (k0 + 1)), some (.int x1), some (.int x2), some (.int x3)] [] (wmk s) r := by
  intro n
  induction n with
  | zero => intro x2 x3 h; cases (show (none : Option (Int32)) = some x from h)
  | succ n ih =>
    intro x2 x3 h
    rw [wX7_thingsOf_h4] at h
    refine gR_go 2 (pc1 := 7) (L1 := [some (.ref (k0 + 1)), some (.int x1), some (.int x2), some (.int x3)]) (st1 := [.int 8, .int x3]) (fun _ _ => rfl) ?_
    rcases gif h with ⟨c1, h⟩ | ⟨c1, h⟩
    · refine gR_ic_ge_f rfl c1 ?_
      refine gR_go 3 (pc1 := 13) (L1 := [some (.ref (k0 + 1)), some (.int x1), some (.int x2), some (.int x3)]) (st1 := [.int x3, .int x1, .ref (k0 + 1)]) (fun _ _ => rfl) ?_
      obtain ⟨t2, e3, h⟩ := gb h
      refine gR_cvI (wX7_with_s hk0 e3) (Nat.le_of_ble_eq_true rfl) rfl rfl hk0 rfl rfl ?_
      rcases gif h with ⟨c4, h⟩ | ⟨c4, h⟩
      · refine gR_iz_le_f rfl c4 ?_
        refine gR_go 6 (pc1 := 25) (L1 := [some (.ref (k0 + 1)), some (.int x1), some (.int (x2 ||| (1 <<< (x3 &&& 31)))), some (.int x3)]) (st1 := []) (fun _ _ => rfl) ?_
        exact wX7_thingsOf_u25 ih he31 hk0 h
      · refine gR_iz_le_j rfl c4 rfl ?_
        exact wX7_thingsOf_u25 ih he31 hk0 h
    · refine gR_ic_ge_j rfl c1 rfl ?_
      exact he31 _ _ _ _ (Option.some.inj h).symm
noncomputable def wX7_thingsOf (k0 : Nat) (x1 : Int32) (s : wS) : Option (Int32) := (wX7_thingsOf_h4 k0 x1 s wFuel 0 0).bind fun t6 => some t6
theorem wX7_thingsOf_s {k0 : Nat} {x1 : Int32} {s : wS} {rv : Int32} (hk0 : wkd k0 = 7) (h : wX7_thingsOf k0 x1 s = some rv) : gEv 3 79 [.ref (k0 + 1), .int x1] (wmk s) (some (.int rv), wmk s, 0, 0) := by
  refine gEv_of (d := 2) (L := [some (.ref (k0 + 1)), some (.int x1), none, none]) rfl ?_
  unfold wX7_thingsOf at h
  refine gR_go 4 (pc1 := 4) (L1 := [some (.ref (k0 + 1)), some (.int x1), some (.int 0), some (.int 0)]) (st1 := []) (fun _ _ => rfl) ?_
  obtain ⟨z5, ez5, h⟩ := gb h
  refine wX7_thingsOf_t4 hk0 ?_  ez5
  · intro t6 w7 w8 w9 hz
    replace hz := hz.symm
    subst hz
    refine gR_go 1 (pc1 := 32) (L1 := [some (.ref (w7 + 1)), some (.int w8), some (.int t6), some (.int w9)]) (st1 := [.int t6]) (fun _ _ => rfl) ?_
    obtain rfl := gi1 h
    exact gR_ri rfl rfl
noncomputable def wX7_fillWith_j132 (qq : Int32 → wS → Option (wS)) (k0 : Nat) (x1 : Int32) (x2 : Int32) (x3 : Int32) (x4 : Int32) (x5 : Int32) (k100 : Nat) (y1 : Int32) (y2 : Int32) (s : wS) : Option (wS) := (wstI s k100 (wln k100) y1 y2).bind fun s21 => qq (x5 + 1) s21
theorem wX7_fillWith_u132 {k0 : Nat} {x1 : Int32} {x2 : Int32} {x3 : Int32} {x4 : Int32} {x5 : Int32} {k100 : Nat} {y1 : Int32} {y2 : Int32} {s : wS} {w6 : Int32} {w7 : Int32} {qq : Int32 → wS → Option (wS)} {x : wS} {r : ri_R} (ih : ∀ {x5 : Int32} {s : wS} {w6 : Option Value} {w7 : Option Value} , qq x5 s = some x → gRun 1 80 53 [some (.ref (k0 + 1)), some (.int x1), some (.int x2), some (.int x3), some (.int x4), some (.int x5), w6, w7] [] (wmk s) r) (he139 : ∀ (s : wS) (w0 : Nat) (w1 : Int32) (w2 : Int32) (w3 : Int32) (w4 : Int32) (w5 : Int32) (w6 : Option Value) (w7 : Option Value) , x = s → gRun 1 80 139 [some (.ref (w0 + 1)), some (.int w1), some (.int w2), some (.int w3), some (.int w4), some (.int w5), w6, w7] [] (wmk s) r) (hk0 : wkd k0 = 7) (hk100 : wkd k100 = 20) (h : wX7_fillWith_j132 qq k0 x1 x2 x3 x4 x5 k100 y1 y2 s = some x) : gRun 1 80 132 [some (.ref (k0 + 1)), some (.int x1), some (.int x2), some (.int x3), some (.int x4), some (.int x5), some (.int w6), some (.int w7)] [.int y2, .int y1, .ref (k100 + 1)] (wmk s) r := by
  unfold wX7_fillWith_j132 at h
  obtain ⟨s21, es21, h⟩ := gb h
  refine gR_ias (k := k100) rfl hk100 rfl es21 ?_
  refine gR_go 2 (pc1 := 53) (L1 := [some (.ref (k0 + 1)), some (.int x1), some (.int x2), some (.int x3), some (.int x4), some (.int (x5 + 1)), some (.int w6), some (.int w7)]) (st1 := []) (fun _ _ => rfl) ?_
  exact ih h
noncomputable def wX7_fillWith_j115 (qq : Int32 → wS → Option (wS)) (k0 : Nat) (x1 : Int32) (x2 : Int32) (x3 : Int32) (x4 : Int32) (x5 : Int32) (x6 : Int32) (x7 : Int32) (s : wS) : Option (wS) := if x6 = 0 then (wX7_fillWith_j132 qq k0 x1 x2 x3 x4 x5 (k0 + 1) x5 0 s) else (wX7_fillWith_j132 qq k0 x1 x2 x3 x4 x5 (k0 + 1) x5 x7 s)
theorem wX7_fillWith_u115 {k0 : Nat} {x1 : Int32} {x2 : Int32} {x3 : Int32} {x4 : Int32} {x5 : Int32} {x6 : Int32} {x7 : Int32} {s : wS} {qq : Int32 → wS → Option (wS)} {x : wS} {r : ri_R} (ih : ∀ {x5 : Int32} {s : wS} {w6 : Option Value} {w7 : Option Value} , qq x5 s = some x → gRun 1 80 53 [some (.ref (k0 + 1)), some (.int x1), some (.int x2), some (.int x3), some (.int x4), some (.int x5), w6, w7] [] (wmk s) r) (he139 : ∀ (s : wS) (w0 : Nat) (w1 : Int32) (w2 : Int32) (w3 : Int32) (w4 : Int32) (w5 : Int32) (w6 : Option Value) (w7 : Option Value) , x = s → gRun 1 80 139 [some (.ref (w0 + 1)), some (.int w1), some (.int w2), some (.int w3), some (.int w4), some (.int w5), w6, w7] [] (wmk s) r) (hk0 : wkd k0 = 7) (h : wX7_fillWith_j115 qq k0 x1 x2 x3 x4 x5 x6 x7 s = some x) : gRun 1 80 115 [some (.ref (k0 + 1)), some (.int x1), some (.int x2), some (.int x3), some (.int x4), some (.int x5), some (.int x6), some (.int x7)] [] (wmk s) r := by
  unfold wX7_fillWith_j115 at h
  refine gR_go 1 (pc1 := 116) (L1 := [some (.ref (k0 + 1)), some (.int x1), some (.int x2), some (.int x3), some (.int x4), some (.int x5), some (.int x6), some (.int x7)]) (st1 := [.ref (k0 + 1)]) (fun _ _ => rfl) ?_
  refine gR_gfR (k := k0) (k' := (k0 + 1)) rfl hk0 rfl (wly_7_0 hk0).1 ?_
  refine gR_go 2 (pc1 := 123) (L1 := [some (.ref (k0 + 1)), some (.int x1), some (.int x2), some (.int x3), some (.int x4), some (.int x5), some (.int x6), some (.int x7)]) (st1 := [.int x6, .int x5, .ref ((k0 + 1) + 1)]) (fun _ _ => rfl) ?_
  rcases gif h with ⟨c20, h⟩ | ⟨c20, h⟩
  · refine gR_iz_eq_j rfl c20 rfl ?_
    refine gR_go 1 (pc1 := 132) (L1 := [some (.ref (k0 + 1)), some (.int x1), some (.int x2), some (.int x3), some (.int x4), some (.int x5), some (.int x6), some (.int x7)]) (st1 := [.int 0, .int x5, .ref ((k0 + 1) + 1)]) (fun _ _ => rfl) ?_
    exact wX7_fillWith_u132 ih he139 hk0 (wly_7_0 hk0).2.1 h
  · refine gR_iz_eq_f rfl c20 ?_
    refine gR_go 2 (pc1 := 132) (L1 := [some (.ref (k0 + 1)), some (.int x1), some (.int x2), some (.int x3), some (.int x4), some (.int x5), some (.int x6), some (.int x7)]) (st1 := [.int x7, .int x5, .ref ((k0 + 1) + 1)]) (fun _ _ => rfl) ?_
    exact wX7_fillWith_u132 ih he139 hk0 (wly_7_0 hk0).2.1 h
noncomputable def wX7_fillWith_j98 (qq : Int32 → wS → Option (wS)) (k0 : Nat) (x1 : Int32) (x2 : Int32) (x3 : Int32) (x4 : Int32) (x5 : Int32) (x6 : Int32) (y0 : Int32) (s : wS) : Option (wS) := (wX10_slot 2 0 s).bind fun t17 => if x5 < t17 then (wX7_fillWith_j115 qq k0 x1 x2 x3 x4 x5 x6 y0 s) else (wX7_fillWith_j115 qq k0 x1 x2 x3 x4 x5 x6 (x2 * x3) s)
theorem wX7_fillWith_u98 {k0 : Nat} {x1 : Int32} {x2 : Int32} {x3 : Int32} {x4 : Int32} {x5 : Int32} {x6 : Int32} {y0 : Int32} {s : wS} {w7 : Option Value} {qq : Int32 → wS → Option (wS)} {x : wS} {r : ri_R} (ih : ∀ {x5 : Int32} {s : wS} {w6 : Option Value} {w7 : Option Value} , qq x5 s = some x → gRun 1 80 53 [some (.ref (k0 + 1)), some (.int x1), some (.int x2), some (.int x3), some (.int x4), some (.int x5), w6, w7] [] (wmk s) r) (he139 : ∀ (s : wS) (w0 : Nat) (w1 : Int32) (w2 : Int32) (w3 : Int32) (w4 : Int32) (w5 : Int32) (w6 : Option Value) (w7 : Option Value) , x = s → gRun 1 80 139 [some (.ref (w0 + 1)), some (.int w1), some (.int w2), some (.int w3), some (.int w4), some (.int w5), w6, w7] [] (wmk s) r) (hk0 : wkd k0 = 7) (h : wX7_fillWith_j98 qq k0 x1 x2 x3 x4 x5 x6 y0 s = some x) : gRun 1 80 98 [some (.ref (k0 + 1)), some (.int x1), some (.int x2), some (.int x3), some (.int x4), some (.int x5), some (.int x6), w7] [.int y0] (wmk s) r := by
  unfold wX7_fillWith_j98 at h
  refine gR_go 4 (pc1 := 104) (L1 := [some (.ref (k0 + 1)), some (.int x1), some (.int x2), some (.int x3), some (.int x4), some (.int x5), some (.int x6), some (.int y0)]) (st1 := [.int 0, .int 2, .int x5]) (fun _ _ => rfl) ?_
  obtain ⟨t17, e18, h⟩ := gb h
  refine gR_csI (wX10_slot_s e18) (Nat.le_of_ble_eq_true rfl) rfl rfl rfl rfl ?_
  rcases gif h with ⟨c19, h⟩ | ⟨c19, h⟩
  · refine gR_ic_lt_j rfl c19 rfl ?_
    exact wX7_fillWith_u115 ih he139 hk0 h
  · refine gR_ic_lt_f rfl c19 ?_
    refine gR_go 4 (pc1 := 115) (L1 := [some (.ref (k0 + 1)), some (.int x1), some (.int x2), some (.int x3), some (.int x4), some (.int x5), some (.int x6), some (.int (x2 * x3))]) (st1 := []) (fun _ _ => rfl) ?_
    exact wX7_fillWith_u115 ih he139 hk0 h
noncomputable def wX7_fillWith_j75 (qq : Int32 → wS → Option (wS)) (k0 : Nat) (x1 : Int32) (x2 : Int32) (x3 : Int32) (x4 : Int32) (x5 : Int32) (y0 : Int32) (s : wS) : Option (wS) := (wX10_slot 1 0 s).bind fun t14 => if x5 < t14 then (wX7_fillWith_j98 qq k0 x1 x2 x3 x4 x5 y0 (x3 * x4) s) else (wX7_fillWith_j98 qq k0 x1 x2 x3 x4 x5 y0 (x2 * x4) s)
theorem wX7_fillWith_u75 {k0 : Nat} {x1 : Int32} {x2 : Int32} {x3 : Int32} {x4 : Int32} {x5 : Int32} {y0 : Int32} {s : wS} {w6 : Option Value} {w7 : Option Value} {qq : Int32 → wS → Option (wS)} {x : wS} {r : ri_R} (ih : ∀ {x5 : Int32} {s : wS} {w6 : Option Value} {w7 : Option Value} , qq x5 s = some x → gRun 1 80 53 [some (.ref (k0 + 1)), some (.int x1), some (.int x2), some (.int x3), some (.int x4), some (.int x5), w6, w7] [] (wmk s) r) (he139 : ∀ (s : wS) (w0 : Nat) (w1 : Int32) (w2 : Int32) (w3 : Int32) (w4 : Int32) (w5 : Int32) (w6 : Option Value) (w7 : Option Value) , x = s → gRun 1 80 139 [some (.ref (w0 + 1)), some (.int w1), some (.int w2), some (.int w3), some (.int w4), some (.int w5), w6, w7] [] (wmk s) r) (hk0 : wkd k0 = 7) (h : wX7_fillWith_j75 qq k0 x1 x2 x3 x4 x5 y0 s = some x) : gRun 1 80 75 [some (.ref (k0 + 1)), some (.int x1), some (.int x2), some (.int x3), some (.int x4), some (.int x5), w6, w7] [.int y0] (wmk s) r := by
  unfold wX7_fillWith_j75 at h
  refine gR_go 4 (pc1 := 81) (L1 := [some (.ref (k0 + 1)), some (.int x1), some (.int x2), some (.int x3), some (.int x4), some (.int x5), some (.int y0), w7]) (st1 := [.int 0, .int 1, .int x5]) (fun _ _ => rfl) ?_
  obtain ⟨t14, e15, h⟩ := gb h
  refine gR_csI (wX10_slot_s e15) (Nat.le_of_ble_eq_true rfl) rfl rfl rfl rfl ?_
  rcases gif h with ⟨c16, h⟩ | ⟨c16, h⟩
  · refine gR_ic_ge_f rfl c16 ?_
    refine gR_go 4 (pc1 := 98) (L1 := [some (.ref (k0 + 1)), some (.int x1), some (.int x2), some (.int x3), some (.int x4), some (.int x5), some (.int y0), w7]) (st1 := [.int (x3 * x4)]) (fun _ _ => rfl) ?_
    exact wX7_fillWith_u98 ih he139 hk0 h
  · refine gR_ic_ge_j rfl c16 rfl ?_
    refine gR_go 3 (pc1 := 98) (L1 := [some (.ref (k0 + 1)), some (.int x1), some (.int x2), some (.int x3), some (.int x4), some (.int x5), some (.int y0), w7]) (st1 := [.int (x2 * x4)]) (fun _ _ => rfl) ?_
    exact wX7_fillWith_u98 ih he139 hk0 h
noncomputable def wX7_fillWith_h53 (k0 : Nat) (x1 : Int32) (x2 : Int32) (x3 : Int32) (x4 : Int32) : Nat → Int32 → wS → Option (wS)
  | 0, _, _ => none
  | n + 1, x5, s => if x5 < 24 then (if ((x1 >>> (x5 &&& 31)) &&& 1) = 1 then (wX7_fillWith_j75 (wX7_fillWith_h53 k0 x1 x2 x3 x4 n) k0 x1 x2 x3 x4 x5 1 s) else (wX7_fillWith_j75 (wX7_fillWith_h53 k0 x1 x2 x3 x4 n) k0 x1 x2 x3 x4 x5 0 s)) else (some s)
theorem wX7_fillWith_t53 {k0 : Nat} {x1 : Int32} {x2 : Int32} {x3 : Int32} {x4 : Int32} {x : wS} {r : ri_R} (hk0 : wkd k0 = 7) (he139 : ∀ (s : wS) (w0 : Nat) (w1 : Int32) (w2 : Int32) (w3 : Int32) (w4 : Int32) (w5 : Int32) (w6 : Option Value) (w7 : Option Value) , x = s → gRun 1 80 139 [some (.ref (w0 + 1)), some (.int w1), some (.int w2), some (.int w3), some (.int w4), some (.int w5), w6, w7] [] (wmk s) r) : ∀ {n : Nat} {x5 : Int32} {s : wS} {w6 : Option Value} {w7 : Option Value} , wX7_fillWith_h53 k0 x1 x2 x3 x4 n x5 s = some x → gRun 1 80 53 [some (.ref (k0 + 1)), some (.int x1), some (.int x2), some (.int x3), some (.int x4), some (.int x5), w6, w7] [] (wmk s) r := by
  intro n
  induction n with
  | zero => intro x5 s w6 w7 h; cases (show (none : Option (wS)) = some x from h)
  | succ n ih =>
    intro x5 s w6 w7 h
    rw [wX7_fillWith_h53] at h
    refine gR_go 2 (pc1 := 57) (L1 := [some (.ref (k0 + 1)), some (.int x1), some (.int x2), some (.int x3), some (.int x4), some (.int x5), w6, w7]) (st1 := [.int 24, .int x5]) (fun _ _ => rfl) ?_
    rcases gif h with ⟨c12, h⟩ | ⟨c12, h⟩
    · refine gR_ic_ge_f rfl c12 ?_
      refine gR_go 6 (pc1 := 67) (L1 := [some (.ref (k0 + 1)), some (.int x1), some (.int x2), some (.int x3), some (.int x4), some (.int x5), w6, w7]) (st1 := [.int 1, .int ((x1 >>> (x5 &&& 31)) &&& 1)]) (fun _ _ => rfl) ?_
      rcases gif h with ⟨c13, h⟩ | ⟨c13, h⟩
      · refine gR_ic_ne_f rfl c13 ?_
        refine gR_go 2 (pc1 := 75) (L1 := [some (.ref (k0 + 1)), some (.int x1), some (.int x2), some (.int x3), some (.int x4), some (.int x5), w6, w7]) (st1 := [.int 1]) (fun _ _ => rfl) ?_
        exact wX7_fillWith_u75 ih he139 hk0 h
      · refine gR_ic_ne_j rfl c13 rfl ?_
        refine gR_go 1 (pc1 := 75) (L1 := [some (.ref (k0 + 1)), some (.int x1), some (.int x2), some (.int x3), some (.int x4), some (.int x5), w6, w7]) (st1 := [.int 0]) (fun _ _ => rfl) ?_
        exact wX7_fillWith_u75 ih he139 hk0 h
    · refine gR_ic_ge_j rfl c12 rfl ?_
      exact he139 _ _ _ _ _ _ _ _ _ (Option.some.inj h).symm
noncomputable def wX7_fillWith (k0 : Nat) (x1 : Int32) (s : wS) : Option (wS) := (wJ6_bitCount_0f7a4 (x1 &&& 255) s).bind fun t1 => (wX10_slot 1 0 s).bind fun t3 => (wJ6_bitCount_0f7a4 ((x1 >>> (t3 &&& 31)) &&& 255) s).bind fun t5 => (wX10_slot 2 0 s).bind fun t7 => (wJ6_bitCount_0f7a4 ((x1 >>> (t7 &&& 31)) &&& 255) s).bind fun t9 => (wpfI s k0 1 ((t1 * t5) * t9)).bind fun s11 => (wX7_fillWith_h53 k0 x1 t1 t5 t9 wFuel 0 s11).bind fun s23 => some s23
theorem wX7_fillWith_s {k0 : Nat} {x1 : Int32} {s : wS} {rs : wS} (hk0 : wkd k0 = 7) (h : wX7_fillWith k0 x1 s = some rs) : gEv 2 80 [.ref (k0 + 1), .int x1] (wmk s) (none, wmk rs, 0, 0) := by
  refine gEv_of (d := 1) (L := [some (.ref (k0 + 1)), some (.int x1), none, none, none, none, none, none]) rfl ?_
  unfold wX7_fillWith at h
  refine gR_go 3 (pc1 := 5) (L1 := [some (.ref (k0 + 1)), some (.int x1), none, none, none, none, none, none]) (st1 := [.int (x1 &&& 255)]) (fun _ _ => rfl) ?_
  obtain ⟨t1, e2, h⟩ := gb h
  refine gR_csI (wJ6_bitCount_0f7a4_s e2) (Nat.le_of_ble_eq_true rfl) rfl rfl rfl rfl ?_
  refine gR_go 4 (pc1 := 12) (L1 := [some (.ref (k0 + 1)), some (.int x1), some (.int t1), none, none, none, none, none]) (st1 := [.int 0, .int 1, .int x1]) (fun _ _ => rfl) ?_
  obtain ⟨t3, e4, h⟩ := gb h
  refine gR_csI (wX10_slot_s e4) (Nat.le_of_ble_eq_true rfl) rfl rfl rfl rfl ?_
  refine gR_go 3 (pc1 := 20) (L1 := [some (.ref (k0 + 1)), some (.int x1), some (.int t1), none, none, none, none, none]) (st1 := [.int ((x1 >>> (t3 &&& 31)) &&& 255)]) (fun _ _ => rfl) ?_
  obtain ⟨t5, e6, h⟩ := gb h
  refine gR_csI (wJ6_bitCount_0f7a4_s e6) (Nat.le_of_ble_eq_true rfl) rfl rfl rfl rfl ?_
  refine gR_go 4 (pc1 := 27) (L1 := [some (.ref (k0 + 1)), some (.int x1), some (.int t1), some (.int t5), none, none, none, none]) (st1 := [.int 0, .int 2, .int x1]) (fun _ _ => rfl) ?_
  obtain ⟨t7, e8, h⟩ := gb h
  refine gR_csI (wX10_slot_s e8) (Nat.le_of_ble_eq_true rfl) rfl rfl rfl rfl ?_
  refine gR_go 3 (pc1 := 35) (L1 := [some (.ref (k0 + 1)), some (.int x1), some (.int t1), some (.int t5), none, none, none, none]) (st1 := [.int ((x1 >>> (t7 &&& 31)) &&& 255)]) (fun _ _ => rfl) ?_
  obtain ⟨t9, e10, h⟩ := gb h
  refine gR_csI (wJ6_bitCount_0f7a4_s e10) (Nat.le_of_ble_eq_true rfl) rfl rfl rfl rfl ?_
  refine gR_go 7 (pc1 := 47) (L1 := [some (.ref (k0 + 1)), some (.int x1), some (.int t1), some (.int t5), some (.int t9), none, none, none]) (st1 := [.int ((t1 * t5) * t9), .ref (k0 + 1)]) (fun _ _ => rfl) ?_
  obtain ⟨s11, es11, h⟩ := gb h
  refine gR_pfI (k := k0) rfl hk0 rfl rfl es11 ?_
  refine gR_go 2 (pc1 := 53) (L1 := [some (.ref (k0 + 1)), some (.int x1), some (.int t1), some (.int t5), some (.int t9), some (.int 0), none, none]) (st1 := []) (fun _ _ => rfl) ?_
  obtain ⟨z22, ez22, h⟩ := gb h
  refine wX7_fillWith_t53 hk0 ?_  ez22
  · intro s23 w24 w25 w26 w27 w28 w29 w30 w31 hz
    replace hz := hz.symm
    subst hz
    obtain rfl := gi1 h
    exact gR_rv rfl rfl
noncomputable def wX7_keepOnly_j34 (qq : Int32 → Int32 → Option (Int32)) (k0 : Nat) (x1 : Int32) (x2 : Int32) (x3 : Int32) (x4 : Int32) (y0 : Int32) (s : wS) : Option (Int32) := (wX10_slot x4 0 s).bind fun t5 => qq (x3 ||| (y0 <<< (t5 &&& 31))) (x4 + 1)
theorem wX7_keepOnly_u34 {k0 : Nat} {x1 : Int32} {x2 : Int32} {x3 : Int32} {x4 : Int32} {y0 : Int32} {s : wS} {w5 : Option Value} {qq : Int32 → Int32 → Option (Int32)} {x : Int32} {r : ri_R} (ih : ∀ {x3 : Int32} {x4 : Int32} {w5 : Option Value} , qq x3 x4 = some x → gRun 3 81 5 [some (.ref (k0 + 1)), some (.int x1), some (.int x2), some (.int x3), some (.int x4), w5] [] (wmk s) r) (he54 : ∀ (x3 : Int32) (w1 : Int32) (w2 : Int32) (w4 : Int32) (w5 : Option Value) , x = x3 → gRun 3 81 54 [some (.ref (k0 + 1)), some (.int w1), some (.int w2), some (.int x3), some (.int w4), w5] [] (wmk s) r) (hk0 : wkd k0 = 7) (h : wX7_keepOnly_j34 qq k0 x1 x2 x3 x4 y0 s = some x) : gRun 3 81 34 [some (.ref (k0 + 1)), some (.int x1), some (.int x2), some (.int x3), some (.int x4), w5] [.int y0] (wmk s) r := by
  unfold wX7_keepOnly_j34 at h
  refine gR_go 5 (pc1 := 42) (L1 := [some (.ref (k0 + 1)), some (.int x1), some (.int x2), some (.int x3), some (.int x4), some (.int y0)]) (st1 := [.int 0, .int x4, .int y0, .int x3]) (fun _ _ => rfl) ?_
  obtain ⟨t5, e6, h⟩ := gb h
  refine gR_csI (wX10_slot_s e6) (Nat.le_of_ble_eq_true rfl) rfl rfl rfl rfl ?_
  refine gR_go 5 (pc1 := 5) (L1 := [some (.ref (k0 + 1)), some (.int x1), some (.int x2), some (.int (x3 ||| (y0 <<< (t5 &&& 31)))), some (.int (x4 + 1)), some (.int y0)]) (st1 := []) (fun _ _ => rfl) ?_
  exact ih h
noncomputable def wX7_keepOnly_h5 (k0 : Nat) (x1 : Int32) (x2 : Int32) (s : wS) : Nat → Int32 → Int32 → Option (Int32)
  | 0, _, _ => none
  | n + 1, x3, x4 => if x4 < 3 then (if x4 = x1 then ((wX7_thingsOf k0 x4 s).bind fun t3 => wX7_keepOnly_j34 (wX7_keepOnly_h5 k0 x1 x2 s n) k0 x1 x2 x3 x4 (t3 &&& x2) s) else ((wX7_thingsOf k0 x4 s).bind fun t7 => wX7_keepOnly_j34 (wX7_keepOnly_h5 k0 x1 x2 s n) k0 x1 x2 x3 x4 t7 s)) else (some x3)
theorem wX7_keepOnly_t5 {k0 : Nat} {x1 : Int32} {x2 : Int32} {s : wS} {x : Int32} {r : ri_R} (hk0 : wkd k0 = 7) (he54 : ∀ (x3 : Int32) (w1 : Int32) (w2 : Int32) (w4 : Int32) (w5 : Option Value) , x = x3 → gRun 3 81 54 [some (.ref (k0 + 1)), some (.int w1), some (.int w2), some (.int x3), some (.int w4), w5] [] (wmk s) r) : ∀ {n : Nat} {x3 : Int32} {x4 : Int32} {w5 : Option Value} , wX7_keepOnly_h5 k0 x1 x2 s n x3 x4 = some x → gRun 3 81 5 [some (.ref (k0 + 1)), some (.int x1), some (.int x2), some (.int x3), some (.int x4), w5] [] (wmk s) r := by
  intro n
  induction n with
  | zero => intro x3 x4 w5 h; cases (show (none : Option (Int32)) = some x from h)
  | succ n ih =>
    intro x3 x4 w5 h
    rw [wX7_keepOnly_h5] at h
    refine gR_go 2 (pc1 := 8) (L1 := [some (.ref (k0 + 1)), some (.int x1), some (.int x2), some (.int x3), some (.int x4), w5]) (st1 := [.int 3, .int x4]) (fun _ _ => rfl) ?_
    rcases gif h with ⟨c1, h⟩ | ⟨c1, h⟩
    · refine gR_ic_ge_f rfl c1 ?_
      refine gR_go 2 (pc1 := 14) (L1 := [some (.ref (k0 + 1)), some (.int x1), some (.int x2), some (.int x3), some (.int x4), w5]) (st1 := [.int x1, .int x4]) (fun _ _ => rfl) ?_
      rcases gif h with ⟨c2, h⟩ | ⟨c2, h⟩
      · refine gR_ic_ne_f rfl c2 ?_
        refine gR_go 2 (pc1 := 20) (L1 := [some (.ref (k0 + 1)), some (.int x1), some (.int x2), some (.int x3), some (.int x4), w5]) (st1 := [.int x4, .ref (k0 + 1)]) (fun _ _ => rfl) ?_
        obtain ⟨t3, e4, h⟩ := gb h
        refine gR_cvI (wX7_thingsOf_s hk0 e4) (Nat.le_of_ble_eq_true rfl) rfl rfl hk0 rfl rfl ?_
        refine gR_go 3 (pc1 := 34) (L1 := [some (.ref (k0 + 1)), some (.int x1), some (.int x2), some (.int x3), some (.int x4), w5]) (st1 := [.int (t3 &&& x2)]) (fun _ _ => rfl) ?_
        exact wX7_keepOnly_u34 ih he54 hk0 h
      · refine gR_ic_ne_j rfl c2 rfl ?_
        refine gR_go 2 (pc1 := 31) (L1 := [some (.ref (k0 + 1)), some (.int x1), some (.int x2), some (.int x3), some (.int x4), w5]) (st1 := [.int x4, .ref (k0 + 1)]) (fun _ _ => rfl) ?_
        obtain ⟨t7, e8, h⟩ := gb h
        refine gR_cvI (wX7_thingsOf_s hk0 e8) (Nat.le_of_ble_eq_true rfl) rfl rfl hk0 rfl rfl ?_
        exact wX7_keepOnly_u34 ih he54 hk0 h
    · refine gR_ic_ge_j rfl c1 rfl ?_
      exact he54 _ _ _ _ _ (Option.some.inj h).symm
noncomputable def wX7_keepOnly (k0 : Nat) (x1 : Int32) (x2 : Int32) (s : wS) : Option (wS) := (wX7_keepOnly_h5 k0 x1 x2 s wFuel 0 0).bind fun t10 => (wX7_fillWith k0 t10 s).bind fun s16 => some s16
theorem wX7_keepOnly_s {k0 : Nat} {x1 : Int32} {x2 : Int32} {s : wS} {rs : wS} (hk0 : wkd k0 = 7) (h : wX7_keepOnly k0 x1 x2 s = some rs) : gEv 4 81 [.ref (k0 + 1), .int x1, .int x2] (wmk s) (none, wmk rs, 0, 0) := by
  refine gEv_of (d := 3) (L := [some (.ref (k0 + 1)), some (.int x1), some (.int x2), none, none, none]) rfl ?_
  unfold wX7_keepOnly at h
  refine gR_go 4 (pc1 := 5) (L1 := [some (.ref (k0 + 1)), some (.int x1), some (.int x2), some (.int 0), some (.int 0), none]) (st1 := []) (fun _ _ => rfl) ?_
  obtain ⟨z9, ez9, h⟩ := gb h
  refine wX7_keepOnly_t5 hk0 ?_  ez9
  · intro t10 w11 w12 w13 w14 hz
    replace hz := hz.symm
    subst hz
    refine gR_go 2 (pc1 := 56) (L1 := [some (.ref (k0 + 1)), some (.int w11), some (.int w12), some (.int t10), some (.int w13), w14]) (st1 := [.int t10, .ref (k0 + 1)]) (fun _ _ => rfl) ?_
    obtain ⟨s16, e17, h⟩ := gb h
    refine gR_cvV (wX7_fillWith_s hk0 e17) (Nat.le_of_ble_eq_true rfl) rfl rfl hk0 rfl rfl ?_
    obtain rfl := gi1 h
    exact gR_rv rfl rfl
section
variable {d m pc len a b c : Nat} {L L1 : ri_L} {st : List Value} {M : ri_M} {r : ri_R}
theorem gR_incn {i : Nat} {n : Int} {x v : Int32} (hc : ri_tc m pc = some (.iinc i n, 3, a, b, c)) (hg : ri_get L i = some (.int x)) (hi : Nat.blt i L.length = true) (hv : Int32.ofInt n = v) (hL : ri_set L i (.int (x + v)) = L1) (g : gRun d m (pc + 3) L1 st M r) : gRun d m pc L st M r := gR_st hc (fun call => by
  show (if (3 : Nat) = 3 then ri_inc i n pc L st M 0 0 else none) = _
  rw [if_pos rfl]
  unfold ri_inc
  rw [hg]
  dsimp only
  have hi2 : i < L.length := Nat.le_of_ble_eq_true hi
  rw [if_pos hi2, hv, hL]) g
theorem ri_setq {j : Nat} {o : Option Nat} {v : Value} (hg : ri_get L j = some (wrv o)) : ri_set L (j + 1) v = L.set (j + 1) (some v) := by
  unfold ri_set
  dsimp only
  rw [hg]
  cases o <;> rfl
theorem gR_istq {j : Nat} {o : Option Nat} {x : Int32} (hc : ri_tc m pc = some (.istore (j + 1), len, a, b, c)) (hi : Nat.blt (j + 1) L.length = true) (hg : ri_get L j = some (wrv o)) (hL : L.set (j + 1) (some (.int x)) = L1) (g : gRun d m (pc + 2) L1 st M r) : gRun d m pc L (.int x :: st) M r := gR_st hc (fun call => by
  show (if j + 1 < L.length then some (Sum.inl (pc + 2, ri_set L (j + 1) (.int x), st, M, 0, 0)) else none) = _
  have hi2 : j + 1 < L.length := Nat.le_of_ble_eq_true hi
  rw [if_pos hi2, ri_setq hg, hL]) g
theorem gR_istn {j : Nat} {i : Fin 4} {o : Option Nat} {x : Int32} (hc : ri_tc m pc = some (.istore_n i, len, a, b, c)) (hj : i.val = j + 1) (hi : Nat.blt (j + 1) L.length = true) (hg : ri_get L j = some (wrv o)) (hL : L.set (j + 1) (some (.int x)) = L1) (g : gRun d m (pc + 1) L1 st M r) : gRun d m pc L (.int x :: st) M r := gR_st hc (fun call => by
  show (if i.val < L.length then some (Sum.inl (pc + 1, ri_set L i.val (.int x), st, M, 0, 0)) else none) = _
  have hi2 : j + 1 < L.length := Nat.le_of_ble_eq_true hi
  rw [hj, if_pos hi2, ri_setq hg, hL]) g
theorem gR_astq {i : Nat} {o : Option Nat} (hc : ri_tc m pc = some (.astore i, len, a, b, c)) (hi : Nat.blt i L.length = true) (hL : ri_set L i (wrv o) = L1) (g : gRun d m (pc + 2) L1 st M r) : gRun d m pc L (wrv o :: st) M r := gR_st hc (fun call => by
  show ri_ast 2 i pc L (wrv o :: st) M 0 0 = _
  subst hL
  cases o <;> exact if_pos (Nat.le_of_ble_eq_true hi)) g
theorem gR_astn {i : Fin 4} {o : Option Nat} (hc : ri_tc m pc = some (.astore_n i, len, a, b, c)) (hi : Nat.blt i.val L.length = true) (hL : ri_set L i.val (wrv o) = L1) (g : gRun d m (pc + 1) L1 st M r) : gRun d m pc L (wrv o :: st) M r := gR_st hc (fun call => by
  show ri_ast 1 i.val pc L (wrv o :: st) M 0 0 = _
  subst hL
  cases o <;> exact if_pos (Nat.le_of_ble_eq_true hi)) g
theorem gR_aldq {i : Nat} {o : Option Nat} (hc : ri_tc m pc = some (.aload i, len, a, b, c)) (hg : ri_get L i = some (wrv o)) (g : gRun d m (pc + 2) L (wrv o :: st) M r) : gRun d m pc L st M r := gR_st hc (fun call => by
  show ri_ald 2 i pc L st M 0 0 = _
  unfold ri_ald
  rw [hg]
  cases o <;> rfl) g
theorem gR_aldn {i : Fin 4} {o : Option Nat} (hc : ri_tc m pc = some (.aload_n i, len, a, b, c)) (hg : ri_get L i.val = some (wrv o)) (g : gRun d m (pc + 1) L (wrv o :: st) M r) : gRun d m pc L st M r := gR_st hc (fun call => by
  show ri_ald 1 i.val pc L st M 0 0 = _
  unfold ri_ald
  rw [hg]
  cases o <;> rfl) g
end
noncomputable def wX8_putNumber_j45 (qq : Int32 → wS → Option (wS)) (x1 : Int32) (x2 : Int32) (s : wS) : Option (wS) := qq (x2 + (-8)) s
theorem wX8_putNumber_u45 {x1 : Int32} {x2 : Int32} {s : wS} {qq : Int32 → wS → Option (wS)} {x : wS} {r : ri_R} (ih : ∀ {x2 : Int32} {s : wS} , qq x2 s = some x → gRun 1 83 3 [some (.ref 2), some (.int x1), some (.int x2)] [] (wmk s) r) (he51 : ∀ (s : wS) (w1 : Int32) (w2 : Int32) , x = s → gRun 1 83 51 [some (.ref 2), some (.int w1), some (.int w2)] [] (wmk s) r) (h : wX8_putNumber_j45 qq x1 x2 s = some x) : gRun 1 83 45 [some (.ref 2), some (.int x1), some (.int x2)] [] (wmk s) r := by
  unfold wX8_putNumber_j45 at h
  refine gR_incn (v := (-8)) (L1 := [some (.ref 2), some (.int x1), some (.int (x2 + (-8)))]) rfl rfl rfl (by decide) rfl ?_
  refine gR_go 1 (pc1 := 3) (L1 := [some (.ref 2), some (.int x1), some (.int (x2 + (-8)))]) (st1 := []) (fun _ _ => rfl) ?_
  exact ih h
noncomputable def wX8_putNumber_h3 (x1 : Int32) : Nat → Int32 → wS → Option (wS)
  | 0, _, _ => none
  | n + 1, x2, s => if x2 < 0 then (some s) else ((wX10_isOutside (s.1 1 1) 400 s).bind fun t2 => if t2 = 0 then ((wstB s 2 400 (s.1 1 1) (((x1 >>> (x2 &&& 31))).toInt8.toInt32)).bind fun s5 => (wpfI s5 1 1 ((s5.1 1 1) + 1)).bind fun s6 => wX8_putNumber_j45 (wX8_putNumber_h3 x1 n) x1 x2 s6) else (wX8_putNumber_j45 (wX8_putNumber_h3 x1 n) x1 x2 s))
theorem wX8_putNumber_t3 {x1 : Int32} {x : wS} {r : ri_R} (he51 : ∀ (s : wS) (w1 : Int32) (w2 : Int32) , x = s → gRun 1 83 51 [some (.ref 2), some (.int w1), some (.int w2)] [] (wmk s) r) : ∀ {n : Nat} {x2 : Int32} {s : wS} , wX8_putNumber_h3 x1 n x2 s = some x → gRun 1 83 3 [some (.ref 2), some (.int x1), some (.int x2)] [] (wmk s) r := by
  intro n
  induction n with
  | zero => intro x2 s h; cases (show (none : Option (wS)) = some x from h)
  | succ n ih =>
    intro x2 s h
    rw [wX8_putNumber_h3] at h
    refine gR_go 1 (pc1 := 4) (L1 := [some (.ref 2), some (.int x1), some (.int x2)]) (st1 := [.int x2]) (fun _ _ => rfl) ?_
    rcases gif h with ⟨c1, h⟩ | ⟨c1, h⟩
    · refine gR_iz_lt_j rfl c1 rfl ?_
      exact he51 _ _ _ (Option.some.inj h).symm
    · refine gR_iz_lt_f rfl c1 ?_
      refine gR_go 1 (pc1 := 8) (L1 := [some (.ref 2), some (.int x1), some (.int x2)]) (st1 := [.ref 2]) (fun _ _ => rfl) ?_
      refine gR_gfI (k := 1) rfl rfl rfl ?_
      refine gR_go 1 (pc1 := 12) (L1 := [some (.ref 2), some (.int x1), some (.int x2)]) (st1 := [.ref 2, .int (s.1 1 1)]) (fun _ _ => rfl) ?_
      refine gR_gfR (k := 1) (k' := 2) rfl rfl rfl rfl ?_
      refine gR_aln (k := 2) rfl (by decide) rfl (w := 400) rfl ?_
      obtain ⟨t2, e3, h⟩ := gb h
      refine gR_csI (wX10_isOutside_s e3) (Nat.le_of_ble_eq_true rfl) rfl rfl rfl rfl ?_
      rcases gif h with ⟨c4, h⟩ | ⟨c4, h⟩
      · refine gR_iz_ne_f rfl c4 ?_
        refine gR_go 1 (pc1 := 23) (L1 := [some (.ref 2), some (.int x1), some (.int x2)]) (st1 := [.ref 2]) (fun _ _ => rfl) ?_
        refine gR_gfR (k := 1) (k' := 2) rfl rfl rfl rfl ?_
        refine gR_go 1 (pc1 := 27) (L1 := [some (.ref 2), some (.int x1), some (.int x2)]) (st1 := [.ref 2, .ref 3]) (fun _ _ => rfl) ?_
        refine gR_gfI (k := 1) rfl rfl rfl ?_
        refine gR_go 4 (pc1 := 34) (L1 := [some (.ref 2), some (.int x1), some (.int x2)]) (st1 := [.int (((x1 >>> (x2 &&& 31))).toInt8.toInt32), .int (s.1 1 1), .ref 3]) (fun _ _ => rfl) ?_
        obtain ⟨s5, es5, h⟩ := gb h
        refine gR_bas (k := 2) rfl rfl rfl es5 ?_
        refine gR_go 2 (pc1 := 37) (L1 := [some (.ref 2), some (.int x1), some (.int x2)]) (st1 := [.ref 2, .ref 2]) (fun _ _ => rfl) ?_
        refine gR_gfI (k := 1) rfl rfl rfl ?_
        refine gR_go 2 (pc1 := 42) (L1 := [some (.ref 2), some (.int x1), some (.int x2)]) (st1 := [.int ((s5.1 1 1) + 1), .ref 2]) (fun _ _ => rfl) ?_
        obtain ⟨s6, es6, h⟩ := gb h
        refine gR_pfI (k := 1) rfl rfl rfl rfl es6 ?_
        exact wX8_putNumber_u45 ih he51 h
      · refine gR_iz_ne_j rfl c4 rfl ?_
        exact wX8_putNumber_u45 ih he51 h
noncomputable def wX8_putNumber (x1 : Int32) (s : wS) : Option (wS) := (wX8_putNumber_h3 x1 wFuel 24 s).bind fun s8 => some s8
theorem wX8_putNumber_s {x1 : Int32} {s : wS} {rs : wS} (h : wX8_putNumber x1 s = some rs) : gEv 2 83 [.ref 2, .int x1] (wmk s) (none, wmk rs, 0, 0) := by
  refine gEv_of (d := 1) (L := [some (.ref 2), some (.int x1), none]) rfl ?_
  unfold wX8_putNumber at h
  refine gR_go 2 (pc1 := 3) (L1 := [some (.ref 2), some (.int x1), some (.int 24)]) (st1 := []) (fun _ _ => rfl) ?_
  obtain ⟨z7, ez7, h⟩ := gb h
  refine wX8_putNumber_t3 ?_  ez7
  · intro s8 w9 w10 hz
    replace hz := hz.symm
    subst hz
    obtain rfl := gi1 h
    exact gR_rv rfl rfl
noncomputable def wX8_byteAt_j23 (s : wS) : Option (Int32) := some 0
theorem wX8_byteAt_u23 {s : wS} {w1 : Int32} {rv : Int32} (h : wX8_byteAt_j23 s = some rv) : gRun 1 84 23 [some (.ref 2), some (.int w1)] [] (wmk s) (some (.int rv), wmk s, 0, 0) := by
  unfold wX8_byteAt_j23 at h
  refine gR_go 2 (pc1 := 37) (L1 := [some (.ref 2), some (.int w1)]) (st1 := [.int 0]) (fun _ _ => rfl) ?_
  obtain rfl := gi1 h
  exact gR_ri rfl rfl
noncomputable def wX8_byteAt (x1 : Int32) (s : wS) : Option (Int32) := (wX10_isOutside x1 (s.1 1 1) s).bind fun t1 => if t1 = 0 then ((wX10_isOutside x1 400 s).bind fun t4 => if t4 = 0 then ((wldI s 2 400 x1).bind fun t7 => some (t7 &&& 255)) else (wX8_byteAt_j23 s)) else (wX8_byteAt_j23 s)
theorem wX8_byteAt_s {x1 : Int32} {s : wS} {rv : Int32} (h : wX8_byteAt x1 s = some rv) : gEv 2 84 [.ref 2, .int x1] (wmk s) (some (.int rv), wmk s, 0, 0) := by
  refine gEv_of (d := 1) (L := [some (.ref 2), some (.int x1)]) rfl ?_
  unfold wX8_byteAt at h
  refine gR_go 2 (pc1 := 2) (L1 := [some (.ref 2), some (.int x1)]) (st1 := [.ref 2, .int x1]) (fun _ _ => rfl) ?_
  refine gR_gfI (k := 1) rfl rfl rfl ?_
  obtain ⟨t1, e2, h⟩ := gb h
  refine gR_csI (wX10_isOutside_s e2) (Nat.le_of_ble_eq_true rfl) rfl rfl rfl rfl ?_
  rcases gif h with ⟨c3, h⟩ | ⟨c3, h⟩
  · refine gR_iz_ne_f rfl c3 ?_
    refine gR_go 2 (pc1 := 13) (L1 := [some (.ref 2), some (.int x1)]) (st1 := [.ref 2, .int x1]) (fun _ _ => rfl) ?_
    refine gR_gfR (k := 1) (k' := 2) rfl rfl rfl rfl ?_
    refine gR_aln (k := 2) rfl (by decide) rfl (w := 400) rfl ?_
    obtain ⟨t4, e5, h⟩ := gb h
    refine gR_csI (wX10_isOutside_s e5) (Nat.le_of_ble_eq_true rfl) rfl rfl rfl rfl ?_
    rcases gif h with ⟨c6, h⟩ | ⟨c6, h⟩
    · refine gR_iz_eq_j rfl c6 rfl ?_
      refine gR_go 1 (pc1 := 28) (L1 := [some (.ref 2), some (.int x1)]) (st1 := [.ref 2]) (fun _ _ => rfl) ?_
      refine gR_gfR (k := 1) (k' := 2) rfl rfl rfl rfl ?_
      refine gR_go 1 (pc1 := 32) (L1 := [some (.ref 2), some (.int x1)]) (st1 := [.int x1, .ref 3]) (fun _ _ => rfl) ?_
      obtain ⟨t7, et7, h⟩ := gb h
      refine gR_bal (k := 2) rfl rfl rfl et7 ?_
      refine gR_go 2 (pc1 := 37) (L1 := [some (.ref 2), some (.int x1)]) (st1 := [.int (t7 &&& 255)]) (fun _ _ => rfl) ?_
      obtain rfl := gi1 h
      exact gR_ri rfl rfl
    · refine gR_iz_eq_f rfl c6 ?_
      exact wX8_byteAt_u23 h
  · refine gR_iz_ne_j rfl c3 rfl ?_
    exact wX8_byteAt_u23 h
noncomputable def wX8_isBetween (x1 : Int32) (x2 : Int32) (x3 : Int32) (s : wS) : Option (Int32) := (wX8_byteAt x1 s).bind fun t1 => if t1 < x2 then (some 0) else (if x3 < t1 then (some 0) else (some 1))
theorem wX8_isBetween_s {x1 : Int32} {x2 : Int32} {x3 : Int32} {s : wS} {rv : Int32} (h : wX8_isBetween x1 x2 x3 s = some rv) : gEv 3 85 [.ref 2, .int x1, .int x2, .int x3] (wmk s) (some (.int rv), wmk s, 0, 0) := by
  refine gEv_of (d := 2) (L := [some (.ref 2), some (.int x1), some (.int x2), some (.int x3), none]) rfl ?_
  unfold wX8_isBetween at h
  refine gR_go 2 (pc1 := 2) (L1 := [some (.ref 2), some (.int x1), some (.int x2), some (.int x3), none]) (st1 := [.int x1, .ref 2]) (fun _ _ => rfl) ?_
  obtain ⟨t1, e2, h⟩ := gb h
  refine gR_cvI (wX8_byteAt_s e2) (Nat.le_of_ble_eq_true rfl) rfl rfl rfl rfl rfl ?_
  refine gR_go 3 (pc1 := 10) (L1 := [some (.ref 2), some (.int x1), some (.int x2), some (.int x3), some (.int t1)]) (st1 := [.int x2, .int t1]) (fun _ _ => rfl) ?_
  rcases gif h with ⟨c3, h⟩ | ⟨c3, h⟩
  · refine gR_ic_lt_j rfl c3 rfl ?_
    refine gR_go 1 (pc1 := 24) (L1 := [some (.ref 2), some (.int x1), some (.int x2), some (.int x3), some (.int t1)]) (st1 := [.int 0]) (fun _ _ => rfl) ?_
    obtain rfl := gi1 h
    exact gR_rzc rfl rfl rfl
  · refine gR_ic_lt_f rfl c3 ?_
    refine gR_go 2 (pc1 := 16) (L1 := [some (.ref 2), some (.int x1), some (.int x2), some (.int x3), some (.int t1)]) (st1 := [.int x3, .int t1]) (fun _ _ => rfl) ?_
    rcases gif h with ⟨c4, h⟩ | ⟨c4, h⟩
    · refine gR_ic_gt_j rfl c4 rfl ?_
      refine gR_go 1 (pc1 := 24) (L1 := [some (.ref 2), some (.int x1), some (.int x2), some (.int x3), some (.int t1)]) (st1 := [.int 0]) (fun _ _ => rfl) ?_
      obtain rfl := gi1 h
      exact gR_rzc rfl rfl rfl
    · refine gR_ic_gt_f rfl c4 ?_
      refine gR_go 2 (pc1 := 24) (L1 := [some (.ref 2), some (.int x1), some (.int x2), some (.int x3), some (.int t1)]) (st1 := [.int 1]) (fun _ _ => rfl) ?_
      obtain rfl := gi1 h
      exact gR_rzc rfl rfl rfl
noncomputable def wX9_put (x1 : Int32) (x2 : Int32) (x3 : Int32) (s : wS) : Option (wS) := (wX10_isOutside (s.1 3 3) 401 s).bind fun t1 => if t1 = 0 then ((wstI s 4 401 (s.1 3 3) x1).bind fun s4 => (wstI s4 5 401 (s4.1 3 3) x2).bind fun s5 => (wstI s5 6 401 (s5.1 3 3) x3).bind fun s6 => (wpfI s6 3 3 ((s6.1 3 3) + 1)).bind fun s7 => some s7) else (some s)
theorem wX9_put_s {x1 : Int32} {x2 : Int32} {x3 : Int32} {s : wS} {rs : wS} (h : wX9_put x1 x2 x3 s = some rs) : gEv 2 89 [.ref 4, .int x1, .int x2, .int x3] (wmk s) (none, wmk rs, 0, 0) := by
  refine gEv_of (d := 1) (L := [some (.ref 4), some (.int x1), some (.int x2), some (.int x3)]) rfl ?_
  unfold wX9_put at h
  refine gR_go 1 (pc1 := 1) (L1 := [some (.ref 4), some (.int x1), some (.int x2), some (.int x3)]) (st1 := [.ref 4]) (fun _ _ => rfl) ?_
  refine gR_gfI (k := 3) rfl rfl rfl ?_
  refine gR_go 1 (pc1 := 7) (L1 := [some (.ref 4), some (.int x1), some (.int x2), some (.int x3)]) (st1 := [.int 401, .int (s.1 3 3)]) (fun _ _ => rfl) ?_
  obtain ⟨t1, e2, h⟩ := gb h
  refine gR_csI (wX10_isOutside_s e2) (Nat.le_of_ble_eq_true rfl) rfl rfl rfl rfl ?_
  rcases gif h with ⟨c3, h⟩ | ⟨c3, h⟩
  · refine gR_iz_ne_f rfl c3 ?_
    refine gR_go 1 (pc1 := 14) (L1 := [some (.ref 4), some (.int x1), some (.int x2), some (.int x3)]) (st1 := [.ref 4]) (fun _ _ => rfl) ?_
    refine gR_gfR (k := 3) (k' := 4) rfl rfl rfl rfl ?_
    refine gR_go 1 (pc1 := 18) (L1 := [some (.ref 4), some (.int x1), some (.int x2), some (.int x3)]) (st1 := [.ref 4, .ref 5]) (fun _ _ => rfl) ?_
    refine gR_gfI (k := 3) rfl rfl rfl ?_
    refine gR_go 1 (pc1 := 22) (L1 := [some (.ref 4), some (.int x1), some (.int x2), some (.int x3)]) (st1 := [.int x1, .int (s.1 3 3), .ref 5]) (fun _ _ => rfl) ?_
    obtain ⟨s4, es4, h⟩ := gb h
    refine gR_ias (k := 4) rfl rfl rfl es4 ?_
    refine gR_go 1 (pc1 := 24) (L1 := [some (.ref 4), some (.int x1), some (.int x2), some (.int x3)]) (st1 := [.ref 4]) (fun _ _ => rfl) ?_
    refine gR_gfR (k := 3) (k' := 5) rfl rfl rfl rfl ?_
    refine gR_go 1 (pc1 := 28) (L1 := [some (.ref 4), some (.int x1), some (.int x2), some (.int x3)]) (st1 := [.ref 4, .ref 6]) (fun _ _ => rfl) ?_
    refine gR_gfI (k := 3) rfl rfl rfl ?_
    refine gR_go 1 (pc1 := 32) (L1 := [some (.ref 4), some (.int x1), some (.int x2), some (.int x3)]) (st1 := [.int x2, .int (s4.1 3 3), .ref 6]) (fun _ _ => rfl) ?_
    obtain ⟨s5, es5, h⟩ := gb h
    refine gR_ias (k := 5) rfl rfl rfl es5 ?_
    refine gR_go 1 (pc1 := 34) (L1 := [some (.ref 4), some (.int x1), some (.int x2), some (.int x3)]) (st1 := [.ref 4]) (fun _ _ => rfl) ?_
    refine gR_gfR (k := 3) (k' := 6) rfl rfl rfl rfl ?_
    refine gR_go 1 (pc1 := 38) (L1 := [some (.ref 4), some (.int x1), some (.int x2), some (.int x3)]) (st1 := [.ref 4, .ref 7]) (fun _ _ => rfl) ?_
    refine gR_gfI (k := 3) rfl rfl rfl ?_
    refine gR_go 1 (pc1 := 42) (L1 := [some (.ref 4), some (.int x1), some (.int x2), some (.int x3)]) (st1 := [.int x3, .int (s5.1 3 3), .ref 7]) (fun _ _ => rfl) ?_
    obtain ⟨s6, es6, h⟩ := gb h
    refine gR_ias (k := 6) rfl rfl rfl es6 ?_
    refine gR_go 2 (pc1 := 45) (L1 := [some (.ref 4), some (.int x1), some (.int x2), some (.int x3)]) (st1 := [.ref 4, .ref 4]) (fun _ _ => rfl) ?_
    refine gR_gfI (k := 3) rfl rfl rfl ?_
    refine gR_go 2 (pc1 := 50) (L1 := [some (.ref 4), some (.int x1), some (.int x2), some (.int x3)]) (st1 := [.int ((s6.1 3 3) + 1), .ref 4]) (fun _ _ => rfl) ?_
    obtain ⟨s7, es7, h⟩ := gb h
    refine gR_pfI (k := 3) rfl rfl rfl rfl es7 ?_
    obtain rfl := gi1 h
    exact gR_rv rfl rfl
  · refine gR_iz_ne_j rfl c3 rfl ?_
    obtain rfl := gi1 h
    exact gR_rv rfl rfl
noncomputable def wX9_endOf_h5 (x2 : Int32) (x3 : Int32) (s : wS) : Nat → Int32 → Option (Int32)
  | 0, _ => none
  | n + 1, x4 => if x4 < 400 then ((wX8_isBetween x4 x2 x3 s).bind fun t2 => if t2 = 0 then (some x4) else (wX9_endOf_h5 x2 x3 s n (x4 + 1))) else (some x4)
theorem wX9_endOf_t5 {x2 : Int32} {x3 : Int32} {s : wS} {x : Int32} {r : ri_R} (he30 : ∀ (x4 : Int32) (w1 : Int32) (w2 : Int32) (w3 : Int32) , x = x4 → gRun 3 91 30 [some (.ref 2), some (.int w1), some (.int w2), some (.int w3), some (.int x4)] [] (wmk s) r) : ∀ {n : Nat} {x4 : Int32} {w1 : Int32} , wX9_endOf_h5 x2 x3 s n x4 = some x → gRun 3 91 5 [some (.ref 2), some (.int w1), some (.int x2), some (.int x3), some (.int x4)] [] (wmk s) r := by
  intro n
  induction n with
  | zero => intro x4 w1 h; cases (show (none : Option (Int32)) = some x from h)
  | succ n ih =>
    intro x4 w1 h
    rw [wX9_endOf_h5] at h
    refine gR_go 2 (pc1 := 10) (L1 := [some (.ref 2), some (.int w1), some (.int x2), some (.int x3), some (.int x4)]) (st1 := [.int 400, .int x4]) (fun _ _ => rfl) ?_
    rcases gif h with ⟨c1, h⟩ | ⟨c1, h⟩
    · refine gR_ic_ge_f rfl c1 ?_
      refine gR_go 4 (pc1 := 18) (L1 := [some (.ref 2), some (.int w1), some (.int x2), some (.int x3), some (.int x4)]) (st1 := [.int x3, .int x2, .int x4, .ref 2]) (fun _ _ => rfl) ?_
      obtain ⟨t2, e3, h⟩ := gb h
      refine gR_cvI (wX8_isBetween_s e3) (Nat.le_of_ble_eq_true rfl) rfl rfl rfl rfl rfl ?_
      rcases gif h with ⟨c4, h⟩ | ⟨c4, h⟩
      · refine gR_iz_eq_j rfl c4 rfl ?_
        exact he30 _ _ _ _ (Option.some.inj h).symm
      · refine gR_iz_eq_f rfl c4 ?_
        refine gR_go 2 (pc1 := 5) (L1 := [some (.ref 2), some (.int w1), some (.int x2), some (.int x3), some (.int (x4 + 1))]) (st1 := []) (fun _ _ => rfl) ?_
        exact ih h
    · refine gR_ic_ge_j rfl c1 rfl ?_
      exact he30 _ _ _ _ (Option.some.inj h).symm
noncomputable def wX9_endOf (x1 : Int32) (x2 : Int32) (x3 : Int32) (s : wS) : Option (Int32) := (wX9_endOf_h5 x2 x3 s wFuel (x1 + 1)).bind fun t6 => some t6
theorem wX9_endOf_s {x1 : Int32} {x2 : Int32} {x3 : Int32} {s : wS} {rv : Int32} (h : wX9_endOf x1 x2 x3 s = some rv) : gEv 4 91 [.ref 2, .int x1, .int x2, .int x3] (wmk s) (some (.int rv), wmk s, 0, 0) := by
  refine gEv_of (d := 3) (L := [some (.ref 2), some (.int x1), some (.int x2), some (.int x3), none]) rfl ?_
  unfold wX9_endOf at h
  refine gR_go 4 (pc1 := 5) (L1 := [some (.ref 2), some (.int x1), some (.int x2), some (.int x3), some (.int (x1 + 1))]) (st1 := []) (fun _ _ => rfl) ?_
  obtain ⟨z5, ez5, h⟩ := gb h
  refine wX9_endOf_t5 ?_  ez5
  · intro t6 w7 w8 w9 hz
    replace hz := hz.symm
    subst hz
    refine gR_go 1 (pc1 := 32) (L1 := [some (.ref 2), some (.int w7), some (.int w8), some (.int w9), some (.int t6)]) (st1 := [.int t6]) (fun _ _ => rfl) ?_
    obtain rfl := gi1 h
    exact gR_ri rfl rfl
noncomputable def wX9_numberAt_h14 (x2 : Int32) (s : wS) : Nat → Int32 → Int32 → Option (Int32)
  | 0, _, _ => none
  | n + 1, x3, x4 => if x4 < x2 then ((wX8_byteAt x4 s).bind fun t3 => wX9_numberAt_h14 x2 s n (((x3 * 10) + t3) - 48) (x4 + 1)) else (some x3)
theorem wX9_numberAt_t14 {x2 : Int32} {s : wS} {x : Int32} {r : ri_R} (he41 : ∀ (x3 : Int32) (w1 : Int32) (w2 : Int32) (w4 : Int32) , x = x3 → gRun 2 92 41 [some (.ref 2), some (.int w1), some (.int w2), some (.int x3), some (.int w4)] [] (wmk s) r) : ∀ {n : Nat} {x3 : Int32} {x4 : Int32} {w1 : Int32} , wX9_numberAt_h14 x2 s n x3 x4 = some x → gRun 2 92 14 [some (.ref 2), some (.int w1), some (.int x2), some (.int x3), some (.int x4)] [] (wmk s) r := by
  intro n
  induction n with
  | zero => intro x3 x4 w1 h; cases (show (none : Option (Int32)) = some x from h)
  | succ n ih =>
    intro x3 x4 w1 h
    rw [wX9_numberAt_h14] at h
    refine gR_go 2 (pc1 := 17) (L1 := [some (.ref 2), some (.int w1), some (.int x2), some (.int x3), some (.int x4)]) (st1 := [.int x2, .int x4]) (fun _ _ => rfl) ?_
    rcases gif h with ⟨c2, h⟩ | ⟨c2, h⟩
    · refine gR_ic_ge_f rfl c2 ?_
      refine gR_go 5 (pc1 := 27) (L1 := [some (.ref 2), some (.int w1), some (.int x2), some (.int x3), some (.int x4)]) (st1 := [.int x4, .ref 2, .int (x3 * 10)]) (fun _ _ => rfl) ?_
      obtain ⟨t3, e4, h⟩ := gb h
      refine gR_cvI (wX8_byteAt_s e4) (Nat.le_of_ble_eq_true rfl) rfl rfl rfl rfl rfl ?_
      refine gR_go 6 (pc1 := 14) (L1 := [some (.ref 2), some (.int w1), some (.int x2), some (.int (((x3 * 10) + t3) - 48)), some (.int (x4 + 1))]) (st1 := []) (fun _ _ => rfl) ?_
      exact ih h
    · refine gR_ic_ge_j rfl c2 rfl ?_
      exact he41 _ _ _ _ (Option.some.inj h).symm
noncomputable def wX9_numberAt (x1 : Int32) (x2 : Int32) (s : wS) : Option (Int32) := if 5 < (x2 - x1) then (some (-1)) else ((wX9_numberAt_h14 x2 s wFuel 0 x1).bind fun t6 => some t6)
theorem wX9_numberAt_s {x1 : Int32} {x2 : Int32} {s : wS} {rv : Int32} (h : wX9_numberAt x1 x2 s = some rv) : gEv 3 92 [.ref 2, .int x1, .int x2] (wmk s) (some (.int rv), wmk s, 0, 0) := by
  refine gEv_of (d := 2) (L := [some (.ref 2), some (.int x1), some (.int x2), none, none]) rfl ?_
  unfold wX9_numberAt at h
  refine gR_go 4 (pc1 := 4) (L1 := [some (.ref 2), some (.int x1), some (.int x2), none, none]) (st1 := [.int 5, .int (x2 - x1)]) (fun _ _ => rfl) ?_
  rcases gif h with ⟨c1, h⟩ | ⟨c1, h⟩
  · refine gR_ic_le_f rfl c1 ?_
    refine gR_go 1 (pc1 := 8) (L1 := [some (.ref 2), some (.int x1), some (.int x2), none, none]) (st1 := [.int (-1)]) (fun _ _ => rfl) ?_
    obtain rfl := gi1 h
    exact gR_ri rfl rfl
  · refine gR_ic_le_j rfl c1 rfl ?_
    refine gR_go 4 (pc1 := 14) (L1 := [some (.ref 2), some (.int x1), some (.int x2), some (.int 0), some (.int x1)]) (st1 := []) (fun _ _ => rfl) ?_
    obtain ⟨z5, ez5, h⟩ := gb h
    refine wX9_numberAt_t14 ?_  ez5
    · intro t6 w7 w8 w9 hz
      replace hz := hz.symm
      subst hz
      refine gR_go 1 (pc1 := 42) (L1 := [some (.ref 2), some (.int w7), some (.int w8), some (.int t6), some (.int w9)]) (st1 := [.int t6]) (fun _ _ => rfl) ?_
      obtain rfl := gi1 h
      exact gR_ri rfl rfl
noncomputable def wX9_byteSign (x0 : Int32) (x1 : Int32) (s : wS) : Option (Int32) := if x0 = 42 then (some 8) else if x0 = 43 then (some 6) else if x0 = 45 then (some 7) else if x0 = 47 then (some 9) else if x0 = 59 then (some 3) else if x0 = 60 then (if x1 = 0 then (some 10) else (some 11)) else if x0 = 61 then (some 12) else if x0 = 62 then (if x1 = 0 then (some 14) else (some 13)) else if x0 = 91 then (some 4) else if x0 = 93 then (some 5) else (some 1)
theorem wX9_byteSign_s {x0 : Int32} {x1 : Int32} {s : wS} {rv : Int32} (h : wX9_byteSign x0 x1 s = some rv) : gEv 1 93 [.int x0, .int x1] (wmk s) (some (.int rv), wmk s, 0, 0) := by
  refine gEv_of (d := 0) (L := [some (.int x0), some (.int x1)]) rfl ?_
  unfold wX9_byteSign at h
  refine gR_go 1 (pc1 := 1) (L1 := [some (.int x0), some (.int x1)]) (st1 := [.int x0]) (fun _ _ => rfl) ?_
  rcases gif h with ⟨c1, h⟩ | ⟨c1, h⟩
  · refine gR_ls_k rfl c1 rfl rfl ?_
    refine gR_go 1 (pc1 := 106) (L1 := [some (.int x0), some (.int x1)]) (st1 := [.int 8]) (fun _ _ => rfl) ?_
    obtain rfl := gi1 h
    exact gR_ri rfl rfl
  · rcases gif h with ⟨c2, h⟩ | ⟨c2, h⟩
    · refine gR_ls_k rfl c2 rfl rfl ?_
      refine gR_go 1 (pc1 := 100) (L1 := [some (.int x0), some (.int x1)]) (st1 := [.int 6]) (fun _ _ => rfl) ?_
      obtain rfl := gi1 h
      exact gR_ri rfl rfl
    · rcases gif h with ⟨c3, h⟩ | ⟨c3, h⟩
      · refine gR_ls_k rfl c3 rfl rfl ?_
        refine gR_go 1 (pc1 := 103) (L1 := [some (.int x0), some (.int x1)]) (st1 := [.int 7]) (fun _ _ => rfl) ?_
        obtain rfl := gi1 h
        exact gR_ri rfl rfl
      · rcases gif h with ⟨c4, h⟩ | ⟨c4, h⟩
        · refine gR_ls_k rfl c4 rfl rfl ?_
          refine gR_go 1 (pc1 := 109) (L1 := [some (.int x0), some (.int x1)]) (st1 := [.int 9]) (fun _ _ => rfl) ?_
          obtain rfl := gi1 h
          exact gR_ri rfl rfl
        · rcases gif h with ⟨c5, h⟩ | ⟨c5, h⟩
          · refine gR_ls_k rfl c5 rfl rfl ?_
            refine gR_go 1 (pc1 := 93) (L1 := [some (.int x0), some (.int x1)]) (st1 := [.int 3]) (fun _ _ => rfl) ?_
            obtain rfl := gi1 h
            exact gR_ri rfl rfl
          · rcases gif h with ⟨c6, h⟩ | ⟨c6, h⟩
            · refine gR_ls_k rfl c6 rfl rfl ?_
              refine gR_go 1 (pc1 := 111) (L1 := [some (.int x0), some (.int x1)]) (st1 := [.int x1]) (fun _ _ => rfl) ?_
              rcases gif h with ⟨c7, h⟩ | ⟨c7, h⟩
              · refine gR_iz_eq_j rfl c7 rfl ?_
                refine gR_go 1 (pc1 := 121) (L1 := [some (.int x0), some (.int x1)]) (st1 := [.int 10]) (fun _ _ => rfl) ?_
                obtain rfl := gi1 h
                exact gR_ri rfl rfl
              · refine gR_iz_eq_f rfl c7 ?_
                refine gR_go 2 (pc1 := 121) (L1 := [some (.int x0), some (.int x1)]) (st1 := [.int 11]) (fun _ _ => rfl) ?_
                obtain rfl := gi1 h
                exact gR_ri rfl rfl
            · rcases gif h with ⟨c8, h⟩ | ⟨c8, h⟩
              · refine gR_ls_k rfl c8 rfl rfl ?_
                refine gR_go 1 (pc1 := 124) (L1 := [some (.int x0), some (.int x1)]) (st1 := [.int 12]) (fun _ _ => rfl) ?_
                obtain rfl := gi1 h
                exact gR_ri rfl rfl
              · rcases gif h with ⟨c9, h⟩ | ⟨c9, h⟩
                · refine gR_ls_k rfl c9 rfl rfl ?_
                  refine gR_go 1 (pc1 := 126) (L1 := [some (.int x0), some (.int x1)]) (st1 := [.int x1]) (fun _ _ => rfl) ?_
                  rcases gif h with ⟨c10, h⟩ | ⟨c10, h⟩
                  · refine gR_iz_eq_j rfl c10 rfl ?_
                    refine gR_go 1 (pc1 := 136) (L1 := [some (.int x0), some (.int x1)]) (st1 := [.int 14]) (fun _ _ => rfl) ?_
                    obtain rfl := gi1 h
                    exact gR_ri rfl rfl
                  · refine gR_iz_eq_f rfl c10 ?_
                    refine gR_go 2 (pc1 := 136) (L1 := [some (.int x0), some (.int x1)]) (st1 := [.int 13]) (fun _ _ => rfl) ?_
                    obtain rfl := gi1 h
                    exact gR_ri rfl rfl
                · rcases gif h with ⟨c11, h⟩ | ⟨c11, h⟩
                  · refine gR_ls_k rfl c11 rfl rfl ?_
                    refine gR_go 1 (pc1 := 95) (L1 := [some (.int x0), some (.int x1)]) (st1 := [.int 4]) (fun _ _ => rfl) ?_
                    obtain rfl := gi1 h
                    exact gR_ri rfl rfl
                  · rcases gif h with ⟨c12, h⟩ | ⟨c12, h⟩
                    · refine gR_ls_k rfl c12 rfl rfl ?_
                      refine gR_go 1 (pc1 := 97) (L1 := [some (.int x0), some (.int x1)]) (st1 := [.int 5]) (fun _ _ => rfl) ?_
                      obtain rfl := gi1 h
                      exact gR_ri rfl rfl
                    · refine gR_ls_d [42, 43, 45, 47, 59, 60, 61, 62, 91, 93] rfl (gl1 c1 (gl1 c2 (gl1 c3 (gl1 c4 (gl1 c5 (gl1 c6 (gl1 c8 (gl1 c9 (gl1 c11 (gl1 c12 gl0)))))))))) (by decide) (by decide) rfl ?_
                      refine gR_go 1 (pc1 := 138) (L1 := [some (.int x0), some (.int x1)]) (st1 := [.int 1]) (fun _ _ => rfl) ?_
                      obtain rfl := gi1 h
                      exact gR_ri rfl rfl
noncomputable def wX10_feed (x1 : Int32) (x2 : Int32) (x3 : Int32) (x4 : Int32) (x5 : Int32) (s : wS) : Option (Int32 × wS) := if 400 < ((s.1 1 1) + 20) then (some ((-1), s)) else ((wX8_putNumber x1 s).bind fun s3 => (wX8_putNumber x2 s3).bind fun s6 => (wX8_putNumber x3 s6).bind fun s9 => (wX8_putNumber x4 s9).bind fun s12 => (wX8_putNumber x5 s12).bind fun s15 => some ((s15.1 1 1), s15))
theorem wX10_feed_s {x1 : Int32} {x2 : Int32} {x3 : Int32} {x4 : Int32} {x5 : Int32} {s : wS} {rv : Int32} {rs : wS} (h : wX10_feed x1 x2 x3 x4 x5 s = some (rv, rs)) : gEv 3 103 [.ref 1, .int x1, .int x2, .int x3, .int x4, .int x5] (wmk s) (some (.int rv), wmk rs, 0, 0) := by
  refine gEv_of (d := 2) (L := [some (.ref 1), some (.int x1), some (.int x2), some (.int x3), some (.int x4), some (.int x5)]) rfl ?_
  unfold wX10_feed at h
  refine gR_go 1 (pc1 := 1) (L1 := [some (.ref 1), some (.int x1), some (.int x2), some (.int x3), some (.int x4), some (.int x5)]) (st1 := [.ref 1]) (fun _ _ => rfl) ?_
  refine gR_gfR (k := 0) (k' := 1) rfl rfl rfl rfl ?_
  refine gR_gfI (k := 1) rfl rfl rfl ?_
  refine gR_go 3 (pc1 := 13) (L1 := [some (.ref 1), some (.int x1), some (.int x2), some (.int x3), some (.int x4), some (.int x5)]) (st1 := [.int 400, .int ((s.1 1 1) + 20)]) (fun _ _ => rfl) ?_
  rcases gif h with ⟨c1, h⟩ | ⟨c1, h⟩
  · refine gR_ic_le_f rfl c1 ?_
    refine gR_go 1 (pc1 := 17) (L1 := [some (.ref 1), some (.int x1), some (.int x2), some (.int x3), some (.int x4), some (.int x5)]) (st1 := [.int (-1)]) (fun _ _ => rfl) ?_
    obtain ⟨rfl, rfl⟩ := gi2 h
    exact gR_ri rfl rfl
  · refine gR_ic_le_j rfl c1 rfl ?_
    refine gR_go 1 (pc1 := 19) (L1 := [some (.ref 1), some (.int x1), some (.int x2), some (.int x3), some (.int x4), some (.int x5)]) (st1 := [.ref 1]) (fun _ _ => rfl) ?_
    refine gR_gfR (k := 0) (k' := 1) rfl rfl rfl rfl ?_
    refine gR_go 1 (pc1 := 23) (L1 := [some (.ref 1), some (.int x1), some (.int x2), some (.int x3), some (.int x4), some (.int x5)]) (st1 := [.int x1, .ref 2]) (fun _ _ => rfl) ?_
    obtain ⟨s3, e4, h⟩ := gb h
    refine gR_cvV (wX8_putNumber_s e4) (Nat.le_of_ble_eq_true rfl) rfl rfl rfl rfl rfl ?_
    refine gR_go 1 (pc1 := 27) (L1 := [some (.ref 1), some (.int x1), some (.int x2), some (.int x3), some (.int x4), some (.int x5)]) (st1 := [.ref 1]) (fun _ _ => rfl) ?_
    refine gR_gfR (k := 0) (k' := 1) rfl rfl rfl rfl ?_
    refine gR_go 1 (pc1 := 31) (L1 := [some (.ref 1), some (.int x1), some (.int x2), some (.int x3), some (.int x4), some (.int x5)]) (st1 := [.int x2, .ref 2]) (fun _ _ => rfl) ?_
    obtain ⟨s6, e7, h⟩ := gb h
    refine gR_cvV (wX8_putNumber_s e7) (Nat.le_of_ble_eq_true rfl) rfl rfl rfl rfl rfl ?_
    refine gR_go 1 (pc1 := 35) (L1 := [some (.ref 1), some (.int x1), some (.int x2), some (.int x3), some (.int x4), some (.int x5)]) (st1 := [.ref 1]) (fun _ _ => rfl) ?_
    refine gR_gfR (k := 0) (k' := 1) rfl rfl rfl rfl ?_
    refine gR_go 1 (pc1 := 39) (L1 := [some (.ref 1), some (.int x1), some (.int x2), some (.int x3), some (.int x4), some (.int x5)]) (st1 := [.int x3, .ref 2]) (fun _ _ => rfl) ?_
    obtain ⟨s9, e10, h⟩ := gb h
    refine gR_cvV (wX8_putNumber_s e10) (Nat.le_of_ble_eq_true rfl) rfl rfl rfl rfl rfl ?_
    refine gR_go 1 (pc1 := 43) (L1 := [some (.ref 1), some (.int x1), some (.int x2), some (.int x3), some (.int x4), some (.int x5)]) (st1 := [.ref 1]) (fun _ _ => rfl) ?_
    refine gR_gfR (k := 0) (k' := 1) rfl rfl rfl rfl ?_
    refine gR_go 1 (pc1 := 48) (L1 := [some (.ref 1), some (.int x1), some (.int x2), some (.int x3), some (.int x4), some (.int x5)]) (st1 := [.int x4, .ref 2]) (fun _ _ => rfl) ?_
    obtain ⟨s12, e13, h⟩ := gb h
    refine gR_cvV (wX8_putNumber_s e13) (Nat.le_of_ble_eq_true rfl) rfl rfl rfl rfl rfl ?_
    refine gR_go 1 (pc1 := 52) (L1 := [some (.ref 1), some (.int x1), some (.int x2), some (.int x3), some (.int x4), some (.int x5)]) (st1 := [.ref 1]) (fun _ _ => rfl) ?_
    refine gR_gfR (k := 0) (k' := 1) rfl rfl rfl rfl ?_
    refine gR_go 1 (pc1 := 57) (L1 := [some (.ref 1), some (.int x1), some (.int x2), some (.int x3), some (.int x4), some (.int x5)]) (st1 := [.int x5, .ref 2]) (fun _ _ => rfl) ?_
    obtain ⟨s15, e16, h⟩ := gb h
    refine gR_cvV (wX8_putNumber_s e16) (Nat.le_of_ble_eq_true rfl) rfl rfl rfl rfl rfl ?_
    refine gR_go 1 (pc1 := 61) (L1 := [some (.ref 1), some (.int x1), some (.int x2), some (.int x3), some (.int x4), some (.int x5)]) (st1 := [.ref 1]) (fun _ _ => rfl) ?_
    refine gR_gfR (k := 0) (k' := 1) rfl rfl rfl rfl ?_
    refine gR_gfI (k := 1) rfl rfl rfl ?_
    obtain ⟨rfl, rfl⟩ := gi2 h
    exact gR_ri rfl rfl
noncomputable def wX10_end (x1 : Int32) (s : wS) : Option (Int32 × wS) := if x1 < 0 then (some ((-1), s)) else (if (s.1 1 1) < x1 then (some ((-1), s)) else ((wpfI s 1 1 x1).bind fun s3 => some (x1, s3)))
theorem wX10_end_s {x1 : Int32} {s : wS} {rv : Int32} {rs : wS} (h : wX10_end x1 s = some (rv, rs)) : gEv 1 104 [.ref 1, .int x1] (wmk s) (some (.int rv), wmk rs, 0, 0) := by
  refine gEv_of (d := 0) (L := [some (.ref 1), some (.int x1)]) rfl ?_
  unfold wX10_end at h
  refine gR_go 1 (pc1 := 1) (L1 := [some (.ref 1), some (.int x1)]) (st1 := [.int x1]) (fun _ _ => rfl) ?_
  rcases gif h with ⟨c1, h⟩ | ⟨c1, h⟩
  · refine gR_iz_lt_j rfl c1 rfl ?_
    refine gR_go 1 (pc1 := 16) (L1 := [some (.ref 1), some (.int x1)]) (st1 := [.int (-1)]) (fun _ _ => rfl) ?_
    obtain ⟨rfl, rfl⟩ := gi2 h
    exact gR_ri rfl rfl
  · refine gR_iz_lt_f rfl c1 ?_
    refine gR_go 2 (pc1 := 6) (L1 := [some (.ref 1), some (.int x1)]) (st1 := [.ref 1, .int x1]) (fun _ _ => rfl) ?_
    refine gR_gfR (k := 0) (k' := 1) rfl rfl rfl rfl ?_
    refine gR_gfI (k := 1) rfl rfl rfl ?_
    rcases gif h with ⟨c2, h⟩ | ⟨c2, h⟩
    · refine gR_ic_le_f rfl c2 ?_
      refine gR_go 1 (pc1 := 16) (L1 := [some (.ref 1), some (.int x1)]) (st1 := [.int (-1)]) (fun _ _ => rfl) ?_
      obtain ⟨rfl, rfl⟩ := gi2 h
      exact gR_ri rfl rfl
    · refine gR_ic_le_j rfl c2 rfl ?_
      refine gR_go 1 (pc1 := 18) (L1 := [some (.ref 1), some (.int x1)]) (st1 := [.ref 1]) (fun _ _ => rfl) ?_
      refine gR_gfR (k := 0) (k' := 1) rfl rfl rfl rfl ?_
      refine gR_go 1 (pc1 := 22) (L1 := [some (.ref 1), some (.int x1)]) (st1 := [.int x1, .ref 2]) (fun _ _ => rfl) ?_
      obtain ⟨s3, es3, h⟩ := gb h
      refine gR_pfI (k := 1) rfl rfl rfl rfl es3 ?_
      refine gR_go 1 (pc1 := 26) (L1 := [some (.ref 1), some (.int x1)]) (st1 := [.int x1]) (fun _ _ => rfl) ?_
      obtain ⟨rfl, rfl⟩ := gi2 h
      exact gR_ri rfl rfl
noncomputable def wX10_courtIsAnother_j44 (qq : Int32 → wS → Option (wS)) (x1 : Int32) (s : wS) : Option (wS) := qq (x1 + 1) s
theorem wX10_courtIsAnother_u44 {x1 : Int32} {s : wS} {qq : Int32 → wS → Option (wS)} {x : wS} {r : ri_R} (ih : ∀ {x1 : Int32} {s : wS} , qq x1 s = some x → gRun 3 149 16 [some (.ref 1), some (.int x1)] [] (wmk s) r) (he50 : ∀ (s : wS) (w1 : Int32) , x = s → gRun 3 149 50 [some (.ref 1), some (.int w1)] [] (wmk s) r) (h : wX10_courtIsAnother_j44 qq x1 s = some x) : gRun 3 149 44 [some (.ref 1), some (.int x1)] [] (wmk s) r := by
  unfold wX10_courtIsAnother_j44 at h
  refine gR_go 2 (pc1 := 16) (L1 := [some (.ref 1), some (.int (x1 + 1))]) (st1 := []) (fun _ _ => rfl) ?_
  exact ih h
noncomputable def wX10_courtIsAnother_h16 : Nat → Int32 → wS → Option (wS)
  | 0, _, _ => none
  | n + 1, x1, s => if x1 < 6 then ((wldR 13 6 x1).bind fun k5 => (wldR 13 6 x1).bind fun k6 => (wpfZ s k6 12 0).bind fun s7 => wX10_courtIsAnother_j44 (wX10_courtIsAnother_h16 n) x1 s7) else (some s)
theorem wX10_courtIsAnother_t16 {x : wS} {r : ri_R} (he50 : ∀ (s : wS) (w1 : Int32) , x = s → gRun 3 149 50 [some (.ref 1), some (.int w1)] [] (wmk s) r) : ∀ {n : Nat} {x1 : Int32} {s : wS} , wX10_courtIsAnother_h16 n x1 s = some x → gRun 3 149 16 [some (.ref 1), some (.int x1)] [] (wmk s) r := by
  intro n
  induction n with
  | zero => intro x1 s h; cases (show (none : Option (wS)) = some x from h)
  | succ n ih =>
    intro x1 s h
    rw [wX10_courtIsAnother_h16] at h
    refine gR_go 2 (pc1 := 18) (L1 := [some (.ref 1), some (.int x1)]) (st1 := [.ref 1, .int x1]) (fun _ _ => rfl) ?_
    refine gR_gfR (k := 0) (k' := 13) rfl rfl rfl rfl ?_
    refine gR_aln (k := 13) rfl (by decide) rfl (w := 6) rfl ?_
    rcases gif h with ⟨c4, h⟩ | ⟨c4, h⟩
    · refine gR_ic_ge_f rfl c4 ?_
      refine gR_go 1 (pc1 := 26) (L1 := [some (.ref 1), some (.int x1)]) (st1 := [.ref 1]) (fun _ _ => rfl) ?_
      refine gR_gfR (k := 0) (k' := 13) rfl rfl rfl rfl ?_
      refine gR_go 1 (pc1 := 30) (L1 := [some (.ref 1), some (.int x1)]) (st1 := [.int x1, .ref 14]) (fun _ _ => rfl) ?_
      obtain ⟨k5, ek5, h⟩ := gb h
      refine gR_aal (k := 13) rfl rfl rfl ek5 ?_
      refine gR_ifnull_r_f rfl ?_
      refine gR_go 1 (pc1 := 35) (L1 := [some (.ref 1), some (.int x1)]) (st1 := [.ref 1]) (fun _ _ => rfl) ?_
      refine gR_gfR (k := 0) (k' := 13) rfl rfl rfl rfl ?_
      refine gR_go 1 (pc1 := 39) (L1 := [some (.ref 1), some (.int x1)]) (st1 := [.int x1, .ref 14]) (fun _ _ => rfl) ?_
      obtain ⟨k6, ek6, h⟩ := gb h
      refine gR_aal (k := 13) rfl rfl rfl ek6 ?_
      refine gR_go 1 (pc1 := 41) (L1 := [some (.ref 1), some (.int x1)]) (st1 := [.int 0, .ref (k6 + 1)]) (fun _ _ => rfl) ?_
      obtain ⟨s7, es7, h⟩ := gb h
      refine gR_pfZ (k := k6) rfl (wldR_3 ek6) rfl rfl es7 ?_
      exact wX10_courtIsAnother_u44 ih he50 h
    · refine gR_ic_ge_j rfl c4 rfl ?_
      exact he50 _ _ (Option.some.inj h).symm
noncomputable def wX10_courtIsAnother (s : wS) : Option (wS) := (wX5_fill 15 s).bind fun s2 => (wX10_courtIsAnother_h16 wFuel 0 s2).bind fun s9 => some s9
theorem wX10_courtIsAnother_s {s : wS} {rs : wS} (h : wX10_courtIsAnother s = some rs) : gEv 4 149 [.ref 1] (wmk s) (none, wmk rs, 0, 0) := by
  refine gEv_of (d := 3) (L := [some (.ref 1), none]) rfl ?_
  unfold wX10_courtIsAnother at h
  refine gR_go 1 (pc1 := 1) (L1 := [some (.ref 1), none]) (st1 := [.ref 1]) (fun _ _ => rfl) ?_
  refine gR_gfR (k := 0) (k' := 28) rfl rfl rfl rfl ?_
  refine gR_go 1 (pc1 := 5) (L1 := [some (.ref 1), none]) (st1 := [.ref 1, .ref 29]) (fun _ _ => rfl) ?_
  refine gR_gfR (k := 0) (k' := 14) rfl rfl rfl rfl ?_
  refine gR_gfR (k := 14) (k' := 15) rfl rfl rfl rfl ?_
  obtain ⟨s2, e3, h⟩ := gb h
  refine gR_cvV (wX5_fill_s rfl e3) (Nat.le_of_ble_eq_true rfl) rfl rfl rfl rfl rfl ?_
  refine gR_go 2 (pc1 := 16) (L1 := [some (.ref 1), some (.int 0)]) (st1 := []) (fun _ _ => rfl) ?_
  obtain ⟨z8, ez8, h⟩ := gb h
  refine wX10_courtIsAnother_t16 ?_  ez8
  · intro s9 w10 hz
    replace hz := hz.symm
    subst hz
    obtain rfl := gi1 h
    exact gR_rv rfl rfl
noncomputable def wX10_thing (x1 : Int32) (x2 : Int32) (x3 : Int32) (s : wS) : Option (Int32) := (wX10_isOutside x1 3 s).bind fun t1 => if t1 = 0 then ((wX0_isTold 15 s).bind fun t4 => if t4 = 0 then (some (-1)) else (if x3 = 2 then ((wX0_manyOf 15 x1 s).bind fun t8 => some t8) else ((wX10_isOutside x3 2 s).bind fun t10 => if t10 = 0 then (if x1 = 0 then (some (-1)) else ((wX0_has 15 x1 x2 s).bind fun t14 => if t14 = 0 then (some (-1)) else (if x3 = 0 then ((wX0_firstOf 15 x1 x2 s).bind fun t18 => some t18) else ((wX0_secondOf 15 x1 x2 s).bind fun t20 => some t20)))) else (some (-1))))) else (some (-1))
theorem wX10_thing_s {x1 : Int32} {x2 : Int32} {x3 : Int32} {s : wS} {rv : Int32} (h : wX10_thing x1 x2 x3 s = some rv) : gEv 3 107 [.ref 1, .int x1, .int x2, .int x3] (wmk s) (some (.int rv), wmk s, 0, 0) := by
  refine gEv_of (d := 2) (L := [some (.ref 1), some (.int x1), some (.int x2), some (.int x3)]) rfl ?_
  unfold wX10_thing at h
  refine gR_go 2 (pc1 := 2) (L1 := [some (.ref 1), some (.int x1), some (.int x2), some (.int x3)]) (st1 := [.int 3, .int x1]) (fun _ _ => rfl) ?_
  obtain ⟨t1, e2, h⟩ := gb h
  refine gR_csI (wX10_isOutside_s e2) (Nat.le_of_ble_eq_true rfl) rfl rfl rfl rfl ?_
  rcases gif h with ⟨c3, h⟩ | ⟨c3, h⟩
  · refine gR_iz_ne_f rfl c3 ?_
    refine gR_go 1 (pc1 := 9) (L1 := [some (.ref 1), some (.int x1), some (.int x2), some (.int x3)]) (st1 := [.ref 1]) (fun _ _ => rfl) ?_
    refine gR_gfR (k := 0) (k' := 14) rfl rfl rfl rfl ?_
    refine gR_gfR (k := 14) (k' := 15) rfl rfl rfl rfl ?_
    obtain ⟨t4, e5, h⟩ := gb h
    refine gR_cvI (wX0_isTold_s rfl e5) (Nat.le_of_ble_eq_true rfl) rfl rfl rfl rfl rfl ?_
    rcases gif h with ⟨c6, h⟩ | ⟨c6, h⟩
    · refine gR_iz_ne_f rfl c6 ?_
      refine gR_go 1 (pc1 := 22) (L1 := [some (.ref 1), some (.int x1), some (.int x2), some (.int x3)]) (st1 := [.int (-1)]) (fun _ _ => rfl) ?_
      obtain rfl := gi1 h
      exact gR_ri rfl rfl
    · refine gR_iz_ne_j rfl c6 rfl ?_
      refine gR_go 2 (pc1 := 25) (L1 := [some (.ref 1), some (.int x1), some (.int x2), some (.int x3)]) (st1 := [.int 2, .int x3]) (fun _ _ => rfl) ?_
      rcases gif h with ⟨c7, h⟩ | ⟨c7, h⟩
      · refine gR_ic_ne_f rfl c7 ?_
        refine gR_go 1 (pc1 := 29) (L1 := [some (.ref 1), some (.int x1), some (.int x2), some (.int x3)]) (st1 := [.ref 1]) (fun _ _ => rfl) ?_
        refine gR_gfR (k := 0) (k' := 14) rfl rfl rfl rfl ?_
        refine gR_gfR (k := 14) (k' := 15) rfl rfl rfl rfl ?_
        refine gR_go 1 (pc1 := 36) (L1 := [some (.ref 1), some (.int x1), some (.int x2), some (.int x3)]) (st1 := [.int x1, .ref 16]) (fun _ _ => rfl) ?_
        obtain ⟨t8, e9, h⟩ := gb h
        refine gR_cvI (wX0_manyOf_s rfl e9) (Nat.le_of_ble_eq_true rfl) rfl rfl rfl rfl rfl ?_
        obtain rfl := gi1 h
        exact gR_ri rfl rfl
      · refine gR_ic_ne_j rfl c7 rfl ?_
        refine gR_go 2 (pc1 := 42) (L1 := [some (.ref 1), some (.int x1), some (.int x2), some (.int x3)]) (st1 := [.int 2, .int x3]) (fun _ _ => rfl) ?_
        obtain ⟨t10, e11, h⟩ := gb h
        refine gR_csI (wX10_isOutside_s e11) (Nat.le_of_ble_eq_true rfl) rfl rfl rfl rfl ?_
        rcases gif h with ⟨c12, h⟩ | ⟨c12, h⟩
        · refine gR_iz_ne_f rfl c12 ?_
          refine gR_go 1 (pc1 := 49) (L1 := [some (.ref 1), some (.int x1), some (.int x2), some (.int x3)]) (st1 := [.int x1]) (fun _ _ => rfl) ?_
          rcases gif h with ⟨c13, h⟩ | ⟨c13, h⟩
          · refine gR_iz_eq_j rfl c13 rfl ?_
            refine gR_go 1 (pc1 := 68) (L1 := [some (.ref 1), some (.int x1), some (.int x2), some (.int x3)]) (st1 := [.int (-1)]) (fun _ _ => rfl) ?_
            obtain rfl := gi1 h
            exact gR_ri rfl rfl
          · refine gR_iz_eq_f rfl c13 ?_
            refine gR_go 1 (pc1 := 53) (L1 := [some (.ref 1), some (.int x1), some (.int x2), some (.int x3)]) (st1 := [.ref 1]) (fun _ _ => rfl) ?_
            refine gR_gfR (k := 0) (k' := 14) rfl rfl rfl rfl ?_
            refine gR_gfR (k := 14) (k' := 15) rfl rfl rfl rfl ?_
            refine gR_go 2 (pc1 := 61) (L1 := [some (.ref 1), some (.int x1), some (.int x2), some (.int x3)]) (st1 := [.int x2, .int x1, .ref 16]) (fun _ _ => rfl) ?_
            obtain ⟨t14, e15, h⟩ := gb h
            refine gR_cvI (wX0_has_s rfl e15) (Nat.le_of_ble_eq_true rfl) rfl rfl rfl rfl rfl ?_
            rcases gif h with ⟨c16, h⟩ | ⟨c16, h⟩
            · refine gR_iz_ne_f rfl c16 ?_
              refine gR_go 1 (pc1 := 68) (L1 := [some (.ref 1), some (.int x1), some (.int x2), some (.int x3)]) (st1 := [.int (-1)]) (fun _ _ => rfl) ?_
              obtain rfl := gi1 h
              exact gR_ri rfl rfl
            · refine gR_iz_ne_j rfl c16 rfl ?_
              refine gR_go 1 (pc1 := 70) (L1 := [some (.ref 1), some (.int x1), some (.int x2), some (.int x3)]) (st1 := [.int x3]) (fun _ _ => rfl) ?_
              rcases gif h with ⟨c17, h⟩ | ⟨c17, h⟩
              · refine gR_iz_ne_f rfl c17 ?_
                refine gR_go 1 (pc1 := 74) (L1 := [some (.ref 1), some (.int x1), some (.int x2), some (.int x3)]) (st1 := [.ref 1]) (fun _ _ => rfl) ?_
                refine gR_gfR (k := 0) (k' := 14) rfl rfl rfl rfl ?_
                refine gR_gfR (k := 14) (k' := 15) rfl rfl rfl rfl ?_
                refine gR_go 2 (pc1 := 82) (L1 := [some (.ref 1), some (.int x1), some (.int x2), some (.int x3)]) (st1 := [.int x2, .int x1, .ref 16]) (fun _ _ => rfl) ?_
                obtain ⟨t18, e19, h⟩ := gb h
                refine gR_cvI (wX0_firstOf_s rfl e19) (Nat.le_of_ble_eq_true rfl) rfl rfl rfl rfl rfl ?_
                refine gR_go 1 (pc1 := 100) (L1 := [some (.ref 1), some (.int x1), some (.int x2), some (.int x3)]) (st1 := [.int t18]) (fun _ _ => rfl) ?_
                obtain rfl := gi1 h
                exact gR_ri rfl rfl
              · refine gR_iz_ne_j rfl c17 rfl ?_
                refine gR_go 1 (pc1 := 89) (L1 := [some (.ref 1), some (.int x1), some (.int x2), some (.int x3)]) (st1 := [.ref 1]) (fun _ _ => rfl) ?_
                refine gR_gfR (k := 0) (k' := 14) rfl rfl rfl rfl ?_
                refine gR_gfR (k := 14) (k' := 15) rfl rfl rfl rfl ?_
                refine gR_go 2 (pc1 := 97) (L1 := [some (.ref 1), some (.int x1), some (.int x2), some (.int x3)]) (st1 := [.int x2, .int x1, .ref 16]) (fun _ _ => rfl) ?_
                obtain ⟨t20, e21, h⟩ := gb h
                refine gR_cvI (wX0_secondOf_s rfl e21) (Nat.le_of_ble_eq_true rfl) rfl rfl rfl rfl rfl ?_
                obtain rfl := gi1 h
                exact gR_ri rfl rfl
        · refine gR_iz_ne_j rfl c12 rfl ?_
          refine gR_go 1 (pc1 := 68) (L1 := [some (.ref 1), some (.int x1), some (.int x2), some (.int x3)]) (st1 := [.int (-1)]) (fun _ _ => rfl) ?_
          obtain rfl := gi1 h
          exact gR_ri rfl rfl
  · refine gR_iz_ne_j rfl c3 rfl ?_
    refine gR_go 1 (pc1 := 22) (L1 := [some (.ref 1), some (.int x1), some (.int x2), some (.int x3)]) (st1 := [.int (-1)]) (fun _ _ => rfl) ?_
    obtain rfl := gi1 h
    exact gR_ri rfl rfl
noncomputable def wX10_lawInUse (x1 : Int32) (s : wS) : Option (Option Nat × wS) := (wX0_isTold 15 s).bind fun t1 => if t1 = 0 then (some (none, s)) else ((wX10_isOutside x1 (s.1 0 6) s).bind fun t4 => if t4 = 0 then ((wX10_isOutside x1 6 s).bind fun t7 => if t7 = 0 then ((wldR 13 6 x1).bind fun k10 => if (s.1 k10 12) = 0 then ((wX3_measure k10 15 s).bind fun s13 => some (some k10, s13)) else (some (some k10, s))) else (some (none, s))) else (some (none, s)))
theorem wX10_lawInUse_s {x1 : Int32} {s : wS} {rv : Option Nat} {rs : wS} (h : wX10_lawInUse x1 s = some (rv, rs)) : gEv 6 150 [.ref 1, .int x1] (wmk s) (some (wrv rv), wmk rs, 0, 0) := by
  refine gEv_of (d := 5) (L := [some (.ref 1), some (.int x1), none]) rfl ?_
  unfold wX10_lawInUse at h
  refine gR_go 1 (pc1 := 1) (L1 := [some (.ref 1), some (.int x1), none]) (st1 := [.ref 1]) (fun _ _ => rfl) ?_
  refine gR_gfR (k := 0) (k' := 14) rfl rfl rfl rfl ?_
  refine gR_gfR (k := 14) (k' := 15) rfl rfl rfl rfl ?_
  obtain ⟨t1, e2, h⟩ := gb h
  refine gR_cvI (wX0_isTold_s rfl e2) (Nat.le_of_ble_eq_true rfl) rfl rfl rfl rfl rfl ?_
  rcases gif h with ⟨c3, h⟩ | ⟨c3, h⟩
  · refine gR_iz_eq_j rfl c3 rfl ?_
    refine gR_go 1 (pc1 := 34) (L1 := [some (.ref 1), some (.int x1), none]) (st1 := [.null]) (fun _ _ => rfl) ?_
    obtain ⟨rfl, rfl⟩ := gi2 h
    exact gR_ra (o := none) rfl rfl
  · refine gR_iz_eq_f rfl c3 ?_
    refine gR_go 2 (pc1 := 15) (L1 := [some (.ref 1), some (.int x1), none]) (st1 := [.ref 1, .int x1]) (fun _ _ => rfl) ?_
    refine gR_gfI (k := 0) rfl rfl rfl ?_
    obtain ⟨t4, e5, h⟩ := gb h
    refine gR_csI (wX10_isOutside_s e5) (Nat.le_of_ble_eq_true rfl) rfl rfl rfl rfl ?_
    rcases gif h with ⟨c6, h⟩ | ⟨c6, h⟩
    · refine gR_iz_ne_f rfl c6 ?_
      refine gR_go 2 (pc1 := 27) (L1 := [some (.ref 1), some (.int x1), none]) (st1 := [.int 6, .int x1]) (fun _ _ => rfl) ?_
      obtain ⟨t7, e8, h⟩ := gb h
      refine gR_csI (wX10_isOutside_s e8) (Nat.le_of_ble_eq_true rfl) rfl rfl rfl rfl ?_
      rcases gif h with ⟨c9, h⟩ | ⟨c9, h⟩
      · refine gR_iz_eq_j rfl c9 rfl ?_
        refine gR_go 1 (pc1 := 36) (L1 := [some (.ref 1), some (.int x1), none]) (st1 := [.ref 1]) (fun _ _ => rfl) ?_
        refine gR_gfR (k := 0) (k' := 13) rfl rfl rfl rfl ?_
        refine gR_go 1 (pc1 := 40) (L1 := [some (.ref 1), some (.int x1), none]) (st1 := [.int x1, .ref 14]) (fun _ _ => rfl) ?_
        obtain ⟨k10, ek10, h⟩ := gb h
        refine gR_aal (k := 13) rfl rfl rfl ek10 ?_
        refine gR_go 2 (pc1 := 43) (L1 := [some (.ref 1), some (.int x1), some (.ref (k10 + 1))]) (st1 := [.ref (k10 + 1)]) (fun _ _ => rfl) ?_
        refine gR_ifnull_r_f rfl ?_
        refine gR_go 1 (pc1 := 47) (L1 := [some (.ref 1), some (.int x1), some (.ref (k10 + 1))]) (st1 := [.ref (k10 + 1)]) (fun _ _ => rfl) ?_
        refine gR_gfI (k := k10) rfl (wldR_3 ek10) rfl ?_
        rcases gif h with ⟨c11, h⟩ | ⟨c11, h⟩
        · refine gR_iz_ne_f rfl c11 ?_
          refine gR_go 2 (pc1 := 55) (L1 := [some (.ref 1), some (.int x1), some (.ref (k10 + 1))]) (st1 := [.ref 1, .ref (k10 + 1)]) (fun _ _ => rfl) ?_
          refine gR_gfR (k := 0) (k' := 14) rfl rfl rfl rfl ?_
          refine gR_gfR (k := 14) (k' := 15) rfl rfl rfl rfl ?_
          obtain ⟨s13, e14, h⟩ := gb h
          refine gR_cvV (wX3_measure_s (wldR_3 ek10) rfl e14) (Nat.le_of_ble_eq_true rfl) rfl rfl (wldR_3 ek10) rfl rfl ?_
          refine gR_go 1 (pc1 := 65) (L1 := [some (.ref 1), some (.int x1), some (.ref (k10 + 1))]) (st1 := [.ref (k10 + 1)]) (fun _ _ => rfl) ?_
          obtain ⟨rfl, rfl⟩ := gi2 h
          exact gR_ra (o := some k10) rfl rfl
        · refine gR_iz_ne_j rfl c11 rfl ?_
          refine gR_go 1 (pc1 := 65) (L1 := [some (.ref 1), some (.int x1), some (.ref (k10 + 1))]) (st1 := [.ref (k10 + 1)]) (fun _ _ => rfl) ?_
          obtain ⟨rfl, rfl⟩ := gi2 h
          exact gR_ra (o := some k10) rfl rfl
      · refine gR_iz_eq_f rfl c9 ?_
        refine gR_go 1 (pc1 := 34) (L1 := [some (.ref 1), some (.int x1), none]) (st1 := [.null]) (fun _ _ => rfl) ?_
        obtain ⟨rfl, rfl⟩ := gi2 h
        exact gR_ra (o := none) rfl rfl
    · refine gR_iz_ne_j rfl c6 rfl ?_
      refine gR_go 1 (pc1 := 34) (L1 := [some (.ref 1), some (.int x1), none]) (st1 := [.null]) (fun _ _ => rfl) ?_
      obtain ⟨rfl, rfl⟩ := gi2 h
      exact gR_ra (o := none) rfl rfl
theorem wX10_lawInUse_q {x1 : Int32} {s s2 : wS} {k : Nat} (h : wX10_lawInUse x1 s = some (some k, s2)) : wkd k = 3 := by
  unfold wX10_lawInUse at h
  obtain ⟨t1, e1, h⟩ := gb h
  rcases gif h with ⟨_, h⟩ | ⟨_, h⟩
  · cases (gi2 h).1
  · obtain ⟨t4, e4, h⟩ := gb h
    rcases gif h with ⟨_, h⟩ | ⟨_, h⟩
    · obtain ⟨t7, e7, h⟩ := gb h
      rcases gif h with ⟨_, h⟩ | ⟨_, h⟩
      · obtain ⟨k10, e10, h⟩ := gb h
        rcases gif h with ⟨_, h⟩ | ⟨_, h⟩
        · obtain ⟨s13, e13, h⟩ := gb h
          cases (gi2 h).1
          exact wldR_3 e10
        · cases (gi2 h).1
          exact wldR_3 e10
      · cases (gi2 h).1
    · cases (gi2 h).1
end
