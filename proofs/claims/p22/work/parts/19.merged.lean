section
/-! The methods as functions of the state, each with the proof that the interpreter runs so. -/
noncomputable def wX11_wordHere (s : wS) : Option (Int32 × wS) := (wX11_isWord 418548245860 s).bind fun (t1, s2) => if t1 = 0 then ((wX11_isWord 1936024942 s2).bind fun (t5, s6) => if t5 = 0 then ((wX11_isWord 418497262196 s6).bind fun (t9, s10) => if t9 = 0 then ((wX11_isWord 25720 s10).bind fun (t13, s14) => if t13 = 0 then ((wX11_isWord 25721 s14).bind fun (t17, s18) => if t17 = 0 then ((wX11_isWord 521391927923 s18).bind fun (t21, s22) => if t21 = 0 then ((wX11_isWord 110472554705523 s22).bind fun (t25, s26) => if t25 = 0 then ((wX11_isWord 7039342 s26).bind fun (t29, s30) => if t29 = 0 then (some ((-1), s30)) else (some (7, s30))) else (some (6, s26))) else (some (5, s22))) else (some (4, s18))) else (some (3, s14))) else (some (2, s10))) else (some (1, s6))) else (some (0, s2))
theorem wX11_wordHere_s {s : wS} {rv : Int32} {rs : wS} (h : wX11_wordHere s = some (rv, rs)) : gEv 3 182 [.ref 153] (wmk s) (some (.int rv), wmk rs, 0, 0) := by
  refine gEv_of (d := 2) (L := [some (.ref 153)]) rfl ?_
  unfold wX11_wordHere at h
  refine gR_go 2 (pc1 := 4) (L1 := [some (.ref 153)]) (st1 := [.long 418548245860, .ref 153]) (fun _ _ => rfl) ?_
  obtain ⟨⟨t1, s2⟩, e3, h⟩ := gb h
  dsimp only at h
  refine gR_cvI (wX11_isWord_s e3) (Nat.le_of_ble_eq_true rfl) rfl rfl rfl rfl rfl ?_
  rcases gif h with ⟨c4, h⟩ | ⟨c4, h⟩
  · refine gR_iz_eq_j rfl c4 rfl ?_
    refine gR_go 2 (pc1 := 16) (L1 := [some (.ref 153)]) (st1 := [.long 1936024942, .ref 153]) (fun _ _ => rfl) ?_
    obtain ⟨⟨t5, s6⟩, e7, h⟩ := gb h
    dsimp only at h
    refine gR_cvI (wX11_isWord_s e7) (Nat.le_of_ble_eq_true rfl) rfl rfl rfl rfl rfl ?_
    rcases gif h with ⟨c8, h⟩ | ⟨c8, h⟩
    · refine gR_iz_eq_j rfl c8 rfl ?_
      refine gR_go 2 (pc1 := 28) (L1 := [some (.ref 153)]) (st1 := [.long 418497262196, .ref 153]) (fun _ _ => rfl) ?_
      obtain ⟨⟨t9, s10⟩, e11, h⟩ := gb h
      dsimp only at h
      refine gR_cvI (wX11_isWord_s e11) (Nat.le_of_ble_eq_true rfl) rfl rfl rfl rfl rfl ?_
      rcases gif h with ⟨c12, h⟩ | ⟨c12, h⟩
      · refine gR_iz_eq_j rfl c12 rfl ?_
        refine gR_go 2 (pc1 := 40) (L1 := [some (.ref 153)]) (st1 := [.long 25720, .ref 153]) (fun _ _ => rfl) ?_
        obtain ⟨⟨t13, s14⟩, e15, h⟩ := gb h
        dsimp only at h
        refine gR_cvI (wX11_isWord_s e15) (Nat.le_of_ble_eq_true rfl) rfl rfl rfl rfl rfl ?_
        rcases gif h with ⟨c16, h⟩ | ⟨c16, h⟩
        · refine gR_iz_eq_j rfl c16 rfl ?_
          refine gR_go 2 (pc1 := 52) (L1 := [some (.ref 153)]) (st1 := [.long 25721, .ref 153]) (fun _ _ => rfl) ?_
          obtain ⟨⟨t17, s18⟩, e19, h⟩ := gb h
          dsimp only at h
          refine gR_cvI (wX11_isWord_s e19) (Nat.le_of_ble_eq_true rfl) rfl rfl rfl rfl rfl ?_
          rcases gif h with ⟨c20, h⟩ | ⟨c20, h⟩
          · refine gR_iz_eq_j rfl c20 rfl ?_
            refine gR_go 2 (pc1 := 64) (L1 := [some (.ref 153)]) (st1 := [.long 521391927923, .ref 153]) (fun _ _ => rfl) ?_
            obtain ⟨⟨t21, s22⟩, e23, h⟩ := gb h
            dsimp only at h
            refine gR_cvI (wX11_isWord_s e23) (Nat.le_of_ble_eq_true rfl) rfl rfl rfl rfl rfl ?_
            rcases gif h with ⟨c24, h⟩ | ⟨c24, h⟩
            · refine gR_iz_eq_j rfl c24 rfl ?_
              refine gR_go 2 (pc1 := 76) (L1 := [some (.ref 153)]) (st1 := [.long 110472554705523, .ref 153]) (fun _ _ => rfl) ?_
              obtain ⟨⟨t25, s26⟩, e27, h⟩ := gb h
              dsimp only at h
              refine gR_cvI (wX11_isWord_s e27) (Nat.le_of_ble_eq_true rfl) rfl rfl rfl rfl rfl ?_
              rcases gif h with ⟨c28, h⟩ | ⟨c28, h⟩
              · refine gR_iz_eq_j rfl c28 rfl ?_
                refine gR_go 2 (pc1 := 91) (L1 := [some (.ref 153)]) (st1 := [.long 7039342, .ref 153]) (fun _ _ => rfl) ?_
                obtain ⟨⟨t29, s30⟩, e31, h⟩ := gb h
                dsimp only at h
                refine gR_cvI (wX11_isWord_s e31) (Nat.le_of_ble_eq_true rfl) rfl rfl rfl rfl rfl ?_
                rcases gif h with ⟨c32, h⟩ | ⟨c32, h⟩
                · refine gR_iz_eq_j rfl c32 rfl ?_
                  refine gR_go 1 (pc1 := 103) (L1 := [some (.ref 153)]) (st1 := [.int (-1)]) (fun _ _ => rfl) ?_
                  obtain ⟨rfl, rfl⟩ := gi2 h
                  exact gR_ri rfl rfl
                · refine gR_iz_eq_f rfl c32 ?_
                  refine gR_go 2 (pc1 := 103) (L1 := [some (.ref 153)]) (st1 := [.int 7]) (fun _ _ => rfl) ?_
                  obtain ⟨rfl, rfl⟩ := gi2 h
                  exact gR_ri rfl rfl
              · refine gR_iz_eq_f rfl c28 ?_
                refine gR_go 2 (pc1 := 103) (L1 := [some (.ref 153)]) (st1 := [.int 6]) (fun _ _ => rfl) ?_
                obtain ⟨rfl, rfl⟩ := gi2 h
                exact gR_ri rfl rfl
            · refine gR_iz_eq_f rfl c24 ?_
              refine gR_go 1 (pc1 := 71) (L1 := [some (.ref 153)]) (st1 := [.int 5]) (fun _ _ => rfl) ?_
              obtain ⟨rfl, rfl⟩ := gi2 h
              exact gR_ri rfl rfl
          · refine gR_iz_eq_f rfl c20 ?_
            refine gR_go 1 (pc1 := 59) (L1 := [some (.ref 153)]) (st1 := [.int 4]) (fun _ _ => rfl) ?_
            obtain ⟨rfl, rfl⟩ := gi2 h
            exact gR_ri rfl rfl
        · refine gR_iz_eq_f rfl c16 ?_
          refine gR_go 1 (pc1 := 47) (L1 := [some (.ref 153)]) (st1 := [.int 3]) (fun _ _ => rfl) ?_
          obtain ⟨rfl, rfl⟩ := gi2 h
          exact gR_ri rfl rfl
      · refine gR_iz_eq_f rfl c12 ?_
        refine gR_go 1 (pc1 := 35) (L1 := [some (.ref 153)]) (st1 := [.int 2]) (fun _ _ => rfl) ?_
        obtain ⟨rfl, rfl⟩ := gi2 h
        exact gR_ri rfl rfl
    · refine gR_iz_eq_f rfl c8 ?_
      refine gR_go 1 (pc1 := 23) (L1 := [some (.ref 153)]) (st1 := [.int 1]) (fun _ _ => rfl) ?_
      obtain ⟨rfl, rfl⟩ := gi2 h
      exact gR_ri rfl rfl
  · refine gR_iz_eq_f rfl c4 ?_
    refine gR_go 1 (pc1 := 11) (L1 := [some (.ref 153)]) (st1 := [.int 0]) (fun _ _ => rfl) ?_
    obtain ⟨rfl, rfl⟩ := gi2 h
    exact gR_ri rfl rfl
noncomputable def wX11_puts (x1 : Int32) (x2 : Int32) (s : wS) : Option (wS) := (wldI s 155 7 (s.1 152 15)).bind fun t1 => (wstI s 154 2400 ((400 * (s.1 152 15)) + t1) (x1 + (16 * x2))).bind fun s2 => (wldI s2 155 7 (s2.1 152 15)).bind fun t3 => (wstI s2 155 7 (s2.1 152 15) (t3 + 1)).bind fun s4 => some s4
theorem wX11_puts_s {x1 : Int32} {x2 : Int32} {s : wS} {rs : wS} (h : wX11_puts x1 x2 s = some rs) : gEv 1 183 [.ref 153, .int x1, .int x2] (wmk s) (none, wmk rs, 0, 0) := by
  refine gEv_of (d := 0) (L := [some (.ref 153), some (.int x1), some (.int x2)]) rfl ?_
  unfold wX11_puts at h
  refine gR_go 1 (pc1 := 1) (L1 := [some (.ref 153), some (.int x1), some (.int x2)]) (st1 := [.ref 153]) (fun _ _ => rfl) ?_
  refine gR_gfR (k := 152) (k' := 154) rfl rfl rfl rfl ?_
  refine gR_go 2 (pc1 := 8) (L1 := [some (.ref 153), some (.int x1), some (.int x2)]) (st1 := [.ref 153, .int 400, .ref 155]) (fun _ _ => rfl) ?_
  refine gR_gfI (k := 152) rfl rfl rfl ?_
  refine gR_go 2 (pc1 := 13) (L1 := [some (.ref 153), some (.int x1), some (.int x2)]) (st1 := [.ref 153, .int (400 * (s.1 152 15)), .ref 155]) (fun _ _ => rfl) ?_
  refine gR_gfR (k := 152) (k' := 155) rfl rfl rfl rfl ?_
  refine gR_go 1 (pc1 := 17) (L1 := [some (.ref 153), some (.int x1), some (.int x2)]) (st1 := [.ref 153, .ref 156, .int (400 * (s.1 152 15)), .ref 155]) (fun _ _ => rfl) ?_
  refine gR_gfI (k := 152) rfl rfl rfl ?_
  obtain ⟨t1, et1, h⟩ := gb h
  refine gR_ial (k := 155) rfl rfl rfl et1 ?_
  refine gR_go 6 (pc1 := 28) (L1 := [some (.ref 153), some (.int x1), some (.int x2)]) (st1 := [.int (x1 + (16 * x2)), .int ((400 * (s.1 152 15)) + t1), .ref 155]) (fun _ _ => rfl) ?_
  obtain ⟨s2, es2, h⟩ := gb h
  refine gR_ias (k := 154) rfl rfl rfl es2 ?_
  refine gR_go 1 (pc1 := 30) (L1 := [some (.ref 153), some (.int x1), some (.int x2)]) (st1 := [.ref 153]) (fun _ _ => rfl) ?_
  refine gR_gfR (k := 152) (k' := 155) rfl rfl rfl rfl ?_
  refine gR_go 1 (pc1 := 34) (L1 := [some (.ref 153), some (.int x1), some (.int x2)]) (st1 := [.ref 153, .ref 156]) (fun _ _ => rfl) ?_
  refine gR_gfI (k := 152) rfl rfl rfl ?_
  refine gR_go 1 (pc1 := 38) (L1 := [some (.ref 153), some (.int x1), some (.int x2)]) (st1 := [.int (s2.1 152 15), .ref 156, .int (s2.1 152 15), .ref 156]) (fun _ _ => rfl) ?_
  obtain ⟨t3, et3, h⟩ := gb h
  refine gR_ial (k := 155) rfl rfl rfl et3 ?_
  refine gR_go 2 (pc1 := 41) (L1 := [some (.ref 153), some (.int x1), some (.int x2)]) (st1 := [.int (t3 + 1), .int (s2.1 152 15), .ref 156]) (fun _ _ => rfl) ?_
  obtain ⟨s4, es4, h⟩ := gb h
  refine gR_ias (k := 155) rfl rfl rfl es4 ?_
  obtain rfl := gi1 h
  exact gR_rv rfl rfl
noncomputable def wX11_makes (x1 : Int32) (s : wS) : Option (Int32 × wS) := if (s.1 152 16) = 60 then ((wX11_fails 3 x1 s).bind fun (t2, s3) => (wrtZ t2).bind fun t5 => some (t5, s3)) else ((wpfI s 152 16 ((s.1 152 16) + 1)).bind fun s6 => some (1, s6))
theorem wX11_makes_s {x1 : Int32} {s : wS} {rv : Int32} {rs : wS} (h : wX11_makes x1 s = some (rv, rs)) : gEv 2 184 [.ref 153, .int x1] (wmk s) (some (.int rv), wmk rs, 0, 0) := by
  refine gEv_of (d := 1) (L := [some (.ref 153), some (.int x1)]) rfl ?_
  unfold wX11_makes at h
  refine gR_go 1 (pc1 := 1) (L1 := [some (.ref 153), some (.int x1)]) (st1 := [.ref 153]) (fun _ _ => rfl) ?_
  refine gR_gfI (k := 152) rfl rfl rfl ?_
  refine gR_go 1 (pc1 := 6) (L1 := [some (.ref 153), some (.int x1)]) (st1 := [.int 60, .int (s.1 152 16)]) (fun _ _ => rfl) ?_
  rcases gif h with ⟨c1, h⟩ | ⟨c1, h⟩
  · refine gR_ic_ne_f rfl c1 ?_
    refine gR_go 3 (pc1 := 12) (L1 := [some (.ref 153), some (.int x1)]) (st1 := [.int x1, .int 3, .ref 153]) (fun _ _ => rfl) ?_
    obtain ⟨⟨t2, s3⟩, e4, h⟩ := gb h
    dsimp only at h
    refine gR_cvI (wX11_fails_s e4) (Nat.le_of_ble_eq_true rfl) rfl rfl rfl rfl rfl ?_
    obtain ⟨t5, et5, h⟩ := gb h
    obtain ⟨rfl, rfl⟩ := gi2 h
    exact gR_rz rfl rfl et5
  · refine gR_ic_ne_j rfl c1 rfl ?_
    refine gR_go 2 (pc1 := 18) (L1 := [some (.ref 153), some (.int x1)]) (st1 := [.ref 153, .ref 153]) (fun _ _ => rfl) ?_
    refine gR_gfI (k := 152) rfl rfl rfl ?_
    refine gR_go 2 (pc1 := 23) (L1 := [some (.ref 153), some (.int x1)]) (st1 := [.int ((s.1 152 16) + 1), .ref 153]) (fun _ _ => rfl) ?_
    obtain ⟨s6, es6, h⟩ := gb h
    refine gR_pfI (k := 152) rfl rfl rfl rfl es6 ?_
    refine gR_go 1 (pc1 := 27) (L1 := [some (.ref 153), some (.int x1)]) (st1 := [.int 1]) (fun _ _ => rfl) ?_
    obtain ⟨rfl, rfl⟩ := gi2 h
    exact gR_rzc rfl rfl rfl
noncomputable def wX11_opens (x1 : Int32) (s : wS) : Option (Int32 × wS) := if (s.1 152 17) = 10 then ((wX11_fails 2 (s.1 152 12) s).bind fun (t2, s3) => (wrtZ t2).bind fun t5 => some (t5, s3)) else ((wpfI s 152 17 ((s.1 152 17) + 1)).bind fun s6 => (wstI s6 160 400 (s6.1 152 20) x1).bind fun s7 => (wpfI s7 152 20 ((s7.1 152 20) + 1)).bind fun s8 => some (1, s8))
theorem wX11_opens_s {x1 : Int32} {s : wS} {rv : Int32} {rs : wS} (h : wX11_opens x1 s = some (rv, rs)) : gEv 2 185 [.ref 153, .int x1] (wmk s) (some (.int rv), wmk rs, 0, 0) := by
  refine gEv_of (d := 1) (L := [some (.ref 153), some (.int x1)]) rfl ?_
  unfold wX11_opens at h
  refine gR_go 1 (pc1 := 1) (L1 := [some (.ref 153), some (.int x1)]) (st1 := [.ref 153]) (fun _ _ => rfl) ?_
  refine gR_gfI (k := 152) rfl rfl rfl ?_
  refine gR_go 1 (pc1 := 6) (L1 := [some (.ref 153), some (.int x1)]) (st1 := [.int 10, .int (s.1 152 17)]) (fun _ _ => rfl) ?_
  rcases gif h with ⟨c1, h⟩ | ⟨c1, h⟩
  · refine gR_ic_ne_f rfl c1 ?_
    refine gR_go 3 (pc1 := 12) (L1 := [some (.ref 153), some (.int x1)]) (st1 := [.ref 153, .int 2, .ref 153]) (fun _ _ => rfl) ?_
    refine gR_gfI (k := 152) rfl rfl rfl ?_
    obtain ⟨⟨t2, s3⟩, e4, h⟩ := gb h
    dsimp only at h
    refine gR_cvI (wX11_fails_s e4) (Nat.le_of_ble_eq_true rfl) rfl rfl rfl rfl rfl ?_
    obtain ⟨t5, et5, h⟩ := gb h
    obtain ⟨rfl, rfl⟩ := gi2 h
    exact gR_rz rfl rfl et5
  · refine gR_ic_ne_j rfl c1 rfl ?_
    refine gR_go 2 (pc1 := 21) (L1 := [some (.ref 153), some (.int x1)]) (st1 := [.ref 153, .ref 153]) (fun _ _ => rfl) ?_
    refine gR_gfI (k := 152) rfl rfl rfl ?_
    refine gR_go 2 (pc1 := 26) (L1 := [some (.ref 153), some (.int x1)]) (st1 := [.int ((s.1 152 17) + 1), .ref 153]) (fun _ _ => rfl) ?_
    obtain ⟨s6, es6, h⟩ := gb h
    refine gR_pfI (k := 152) rfl rfl rfl rfl es6 ?_
    refine gR_go 1 (pc1 := 30) (L1 := [some (.ref 153), some (.int x1)]) (st1 := [.ref 153]) (fun _ _ => rfl) ?_
    refine gR_gfR (k := 152) (k' := 160) rfl rfl rfl rfl ?_
    refine gR_go 1 (pc1 := 34) (L1 := [some (.ref 153), some (.int x1)]) (st1 := [.ref 153, .ref 161]) (fun _ _ => rfl) ?_
    refine gR_gfI (k := 152) rfl rfl rfl ?_
    refine gR_go 1 (pc1 := 38) (L1 := [some (.ref 153), some (.int x1)]) (st1 := [.int x1, .int (s6.1 152 20), .ref 161]) (fun _ _ => rfl) ?_
    obtain ⟨s7, es7, h⟩ := gb h
    refine gR_ias (k := 160) rfl rfl rfl es7 ?_
    refine gR_go 2 (pc1 := 41) (L1 := [some (.ref 153), some (.int x1)]) (st1 := [.ref 153, .ref 153]) (fun _ _ => rfl) ?_
    refine gR_gfI (k := 152) rfl rfl rfl ?_
    refine gR_go 2 (pc1 := 46) (L1 := [some (.ref 153), some (.int x1)]) (st1 := [.int ((s7.1 152 20) + 1), .ref 153]) (fun _ _ => rfl) ?_
    obtain ⟨s8, es8, h⟩ := gb h
    refine gR_pfI (k := 152) rfl rfl rfl rfl es8 ?_
    refine gR_go 1 (pc1 := 50) (L1 := [some (.ref 153), some (.int x1)]) (st1 := [.int 1]) (fun _ _ => rfl) ?_
    obtain ⟨rfl, rfl⟩ := gi2 h
    exact gR_rzc rfl rfl rfl
noncomputable def wX11_strength (x0 : Int32) (s : wS) : Option (Int32) := if x0 = 13 then (some 1) else (if x0 = 12 then (some 2) else (if x0 = 11 then (some 3) else (some 0)))
theorem wX11_strength_s {x0 : Int32} {s : wS} {rv : Int32} (h : wX11_strength x0 s = some rv) : gEv 1 186 [.int x0] (wmk s) (some (.int rv), wmk s, 0, 0) := by
  refine gEv_of (d := 0) (L := [some (.int x0)]) rfl ?_
  unfold wX11_strength at h
  refine gR_go 2 (pc1 := 3) (L1 := [some (.int x0)]) (st1 := [.int 13, .int x0]) (fun _ _ => rfl) ?_
  rcases gif h with ⟨c1, h⟩ | ⟨c1, h⟩
  · refine gR_ic_ne_f rfl c1 ?_
    refine gR_go 2 (pc1 := 31) (L1 := [some (.int x0)]) (st1 := [.int 1]) (fun _ _ => rfl) ?_
    obtain rfl := gi1 h
    exact gR_ri rfl rfl
  · refine gR_ic_ne_j rfl c1 rfl ?_
    refine gR_go 2 (pc1 := 13) (L1 := [some (.int x0)]) (st1 := [.int 12, .int x0]) (fun _ _ => rfl) ?_
    rcases gif h with ⟨c2, h⟩ | ⟨c2, h⟩
    · refine gR_ic_ne_f rfl c2 ?_
      refine gR_go 2 (pc1 := 31) (L1 := [some (.int x0)]) (st1 := [.int 2]) (fun _ _ => rfl) ?_
      obtain rfl := gi1 h
      exact gR_ri rfl rfl
    · refine gR_ic_ne_j rfl c2 rfl ?_
      refine gR_go 2 (pc1 := 23) (L1 := [some (.int x0)]) (st1 := [.int 11, .int x0]) (fun _ _ => rfl) ?_
      rcases gif h with ⟨c3, h⟩ | ⟨c3, h⟩
      · refine gR_ic_ne_f rfl c3 ?_
        refine gR_go 2 (pc1 := 31) (L1 := [some (.int x0)]) (st1 := [.int 3]) (fun _ _ => rfl) ?_
        obtain rfl := gi1 h
        exact gR_ri rfl rfl
      · refine gR_ic_ne_j rfl c3 rfl ?_
        refine gR_go 1 (pc1 := 31) (L1 := [some (.int x0)]) (st1 := [.int 0]) (fun _ _ => rfl) ?_
        obtain rfl := gi1 h
        exact gR_ri rfl rfl
noncomputable def wX11_settles_h0 (x1 : Int32) : Nat → wS → Option (wS)
  | 0, _ => none
  | n + 1, s => if 0 < (s.1 152 20) then ((wldI s 160 400 ((s.1 152 20) - 1)).bind fun t2 => (wX11_strength t2 s).bind fun t3 => if t3 < x1 then (some s) else ((wpfI s 152 20 ((s.1 152 20) - 1)).bind fun s6 => (wldI s6 160 400 (s6.1 152 20)).bind fun t7 => (wX11_puts t7 0 s6).bind fun s9 => (wldI s9 160 400 (s9.1 152 20)).bind fun t11 => if t11 = 11 then ((wpfI s9 152 17 ((s9.1 152 17) - 1)).bind fun s13 => wX11_settles_h0 x1 n s13) else (wX11_settles_h0 x1 n s9))) else (some s)
theorem wX11_settles_t0 {x1 : Int32} {x : wS} {r : ri_R} (he76 : ∀ (s : wS) (w1 : Int32) , x = s → gRun 1 187 76 [some (.ref 153), some (.int w1)] [] (wmk s) r) : ∀ {n : Nat} {s : wS} , wX11_settles_h0 x1 n s = some x → gRun 1 187 0 [some (.ref 153), some (.int x1)] [] (wmk s) r := by
  intro n
  induction n with
  | zero => intro s h; cases (show (none : Option (wS)) = some x from h)
  | succ n ih =>
    intro s h
    rw [wX11_settles_h0] at h
    refine gR_go 1 (pc1 := 1) (L1 := [some (.ref 153), some (.int x1)]) (st1 := [.ref 153]) (fun _ _ => rfl) ?_
    refine gR_gfI (k := 152) rfl rfl rfl ?_
    rcases gif h with ⟨c1, h⟩ | ⟨c1, h⟩
    · refine gR_iz_le_f rfl c1 ?_
      refine gR_go 1 (pc1 := 8) (L1 := [some (.ref 153), some (.int x1)]) (st1 := [.ref 153]) (fun _ _ => rfl) ?_
      refine gR_gfR (k := 152) (k' := 160) rfl rfl rfl rfl ?_
      refine gR_go 1 (pc1 := 12) (L1 := [some (.ref 153), some (.int x1)]) (st1 := [.ref 153, .ref 161]) (fun _ _ => rfl) ?_
      refine gR_gfI (k := 152) rfl rfl rfl ?_
      refine gR_go 2 (pc1 := 17) (L1 := [some (.ref 153), some (.int x1)]) (st1 := [.int ((s.1 152 20) - 1), .ref 161]) (fun _ _ => rfl) ?_
      obtain ⟨t2, et2, h⟩ := gb h
      refine gR_ial (k := 160) rfl rfl rfl et2 ?_
      obtain ⟨t3, e4, h⟩ := gb h
      refine gR_csI (wX11_strength_s e4) (Nat.le_of_ble_eq_true rfl) rfl rfl rfl rfl ?_
      refine gR_go 1 (pc1 := 22) (L1 := [some (.ref 153), some (.int x1)]) (st1 := [.int x1, .int t3]) (fun _ _ => rfl) ?_
      rcases gif h with ⟨c5, h⟩ | ⟨c5, h⟩
      · refine gR_ic_lt_j rfl c5 rfl ?_
        exact he76 _ _ (Option.some.inj h).symm
      · refine gR_ic_lt_f rfl c5 ?_
        refine gR_go 2 (pc1 := 27) (L1 := [some (.ref 153), some (.int x1)]) (st1 := [.ref 153, .ref 153]) (fun _ _ => rfl) ?_
        refine gR_gfI (k := 152) rfl rfl rfl ?_
        refine gR_go 2 (pc1 := 32) (L1 := [some (.ref 153), some (.int x1)]) (st1 := [.int ((s.1 152 20) - 1), .ref 153]) (fun _ _ => rfl) ?_
        obtain ⟨s6, es6, h⟩ := gb h
        refine gR_pfI (k := 152) rfl rfl rfl rfl es6 ?_
        refine gR_go 2 (pc1 := 37) (L1 := [some (.ref 153), some (.int x1)]) (st1 := [.ref 153, .ref 153]) (fun _ _ => rfl) ?_
        refine gR_gfR (k := 152) (k' := 160) rfl rfl rfl rfl ?_
        refine gR_go 1 (pc1 := 41) (L1 := [some (.ref 153), some (.int x1)]) (st1 := [.ref 153, .ref 161, .ref 153]) (fun _ _ => rfl) ?_
        refine gR_gfI (k := 152) rfl rfl rfl ?_
        obtain ⟨t7, et7, h⟩ := gb h
        refine gR_ial (k := 160) rfl rfl rfl et7 ?_
        refine gR_go 1 (pc1 := 46) (L1 := [some (.ref 153), some (.int x1)]) (st1 := [.int 0, .int t7, .ref 153]) (fun _ _ => rfl) ?_
        obtain ⟨s9, e10, h⟩ := gb h
        refine gR_cvV (wX11_puts_s e10) (Nat.le_of_ble_eq_true rfl) rfl rfl rfl rfl rfl ?_
        refine gR_go 1 (pc1 := 50) (L1 := [some (.ref 153), some (.int x1)]) (st1 := [.ref 153]) (fun _ _ => rfl) ?_
        refine gR_gfR (k := 152) (k' := 160) rfl rfl rfl rfl ?_
        refine gR_go 1 (pc1 := 54) (L1 := [some (.ref 153), some (.int x1)]) (st1 := [.ref 153, .ref 161]) (fun _ _ => rfl) ?_
        refine gR_gfI (k := 152) rfl rfl rfl ?_
        obtain ⟨t11, et11, h⟩ := gb h
        refine gR_ial (k := 160) rfl rfl rfl et11 ?_
        refine gR_go 1 (pc1 := 60) (L1 := [some (.ref 153), some (.int x1)]) (st1 := [.int 11, .int t11]) (fun _ _ => rfl) ?_
        rcases gif h with ⟨c12, h⟩ | ⟨c12, h⟩
        · refine gR_ic_ne_f rfl c12 ?_
          refine gR_go 2 (pc1 := 65) (L1 := [some (.ref 153), some (.int x1)]) (st1 := [.ref 153, .ref 153]) (fun _ _ => rfl) ?_
          refine gR_gfI (k := 152) rfl rfl rfl ?_
          refine gR_go 2 (pc1 := 70) (L1 := [some (.ref 153), some (.int x1)]) (st1 := [.int ((s9.1 152 17) - 1), .ref 153]) (fun _ _ => rfl) ?_
          obtain ⟨s13, es13, h⟩ := gb h
          refine gR_pfI (k := 152) rfl rfl rfl rfl es13 ?_
          refine gR_go 1 (pc1 := 0) (L1 := [some (.ref 153), some (.int x1)]) (st1 := []) (fun _ _ => rfl) ?_
          exact ih h
        · refine gR_ic_ne_j rfl c12 rfl ?_
          exact ih h
    · refine gR_iz_le_j rfl c1 rfl ?_
      exact he76 _ _ (Option.some.inj h).symm
noncomputable def wX11_settles (x1 : Int32) (s : wS) : Option (wS) := (wX11_settles_h0 x1 wFuel s).bind fun s15 => some s15
theorem wX11_settles_s {x1 : Int32} {s : wS} {rs : wS} (h : wX11_settles x1 s = some rs) : gEv 2 187 [.ref 153, .int x1] (wmk s) (none, wmk rs, 0, 0) := by
  refine gEv_of (d := 1) (L := [some (.ref 153), some (.int x1)]) rfl ?_
  unfold wX11_settles at h
  obtain ⟨z14, ez14, h⟩ := gb h
  refine wX11_settles_t0 ?_  ez14
  · intro s15 w16 hz
    replace hz := hz.symm
    subst hz
    obtain rfl := gi1 h
    exact gR_rv rfl rfl
noncomputable def wX11_value (s : wS) : Option (Int32 × wS) := (wX11_see s).bind fun (t1, s2) => (wX11_isDigit (s2.1 152 12) s2).bind fun t4 => if t4 = 0 then ((wX11_wordHere s2).bind fun (t7, s8) => if t7 < 0 then ((wX11_fails 0 (s2.1 152 12) s8).bind fun (t11, s12) => (wrtZ t11).bind fun t14 => some (t14, s12)) else ((wX11_makes (s2.1 152 12) s8).bind fun (t15, s16) => if t15 = 0 then (some (0, s16)) else ((wX11_passWord s16).bind fun s20 => (wX11_puts 1 t7 s20).bind fun s23 => some (1, s23)))) else ((wX11_numberHere 0 99999 s2).bind fun (t25, s26) => if t25 = 0 then (some (0, s26)) else ((wX11_makes (s2.1 152 12) s26).bind fun (t29, s30) => if t29 = 0 then (some (0, s30)) else ((wX11_puts 0 (s30.1 152 14) s30).bind fun s34 => some (1, s34))))
theorem wX11_value_s {s : wS} {rv : Int32} {rs : wS} (h : wX11_value s = some (rv, rs)) : gEv 4 188 [.ref 153] (wmk s) (some (.int rv), wmk rs, 0, 0) := by
  refine gEv_of (d := 3) (L := [some (.ref 153), none, none]) rfl ?_
  unfold wX11_value at h
  refine gR_go 1 (pc1 := 1) (L1 := [some (.ref 153), none, none]) (st1 := [.ref 153]) (fun _ _ => rfl) ?_
  obtain ⟨⟨t1, s2⟩, e3, h⟩ := gb h
  dsimp only at h
  refine gR_cvI (wX11_see_s e3) (Nat.le_of_ble_eq_true rfl) rfl rfl rfl rfl rfl ?_
  refine gR_go 2 (pc1 := 6) (L1 := [some (.ref 153), none, none]) (st1 := [.ref 153]) (fun _ _ => rfl) ?_
  refine gR_gfI (k := 152) rfl rfl rfl ?_
  refine gR_go 3 (pc1 := 12) (L1 := [some (.ref 153), some (.int (s2.1 152 12)), none]) (st1 := [.ref 153, .ref 153]) (fun _ _ => rfl) ?_
  refine gR_gfI (k := 152) rfl rfl rfl ?_
  obtain ⟨t4, e5, h⟩ := gb h
  refine gR_cvI (wX11_isDigit_s e5) (Nat.le_of_ble_eq_true rfl) rfl rfl rfl rfl rfl ?_
  rcases gif h with ⟨c6, h⟩ | ⟨c6, h⟩
  · refine gR_iz_eq_j rfl c6 rfl ?_
    refine gR_go 1 (pc1 := 53) (L1 := [some (.ref 153), some (.int (s2.1 152 12)), none]) (st1 := [.ref 153]) (fun _ _ => rfl) ?_
    obtain ⟨⟨t7, s8⟩, e9, h⟩ := gb h
    dsimp only at h
    refine gR_cvI (wX11_wordHere_s e9) (Nat.le_of_ble_eq_true rfl) rfl rfl rfl rfl rfl ?_
    refine gR_go 2 (pc1 := 58) (L1 := [some (.ref 153), some (.int (s2.1 152 12)), some (.int t7)]) (st1 := [.int t7]) (fun _ _ => rfl) ?_
    rcases gif h with ⟨c10, h⟩ | ⟨c10, h⟩
    · refine gR_iz_ge_f rfl c10 ?_
      refine gR_go 3 (pc1 := 64) (L1 := [some (.ref 153), some (.int (s2.1 152 12)), some (.int t7)]) (st1 := [.int (s2.1 152 12), .int 0, .ref 153]) (fun _ _ => rfl) ?_
      obtain ⟨⟨t11, s12⟩, e13, h⟩ := gb h
      dsimp only at h
      refine gR_cvI (wX11_fails_s e13) (Nat.le_of_ble_eq_true rfl) rfl rfl rfl rfl rfl ?_
      obtain ⟨t14, et14, h⟩ := gb h
      obtain ⟨rfl, rfl⟩ := gi2 h
      exact gR_rz rfl rfl et14
    · refine gR_iz_ge_j rfl c10 rfl ?_
      refine gR_go 2 (pc1 := 70) (L1 := [some (.ref 153), some (.int (s2.1 152 12)), some (.int t7)]) (st1 := [.int (s2.1 152 12), .ref 153]) (fun _ _ => rfl) ?_
      obtain ⟨⟨t15, s16⟩, e17, h⟩ := gb h
      dsimp only at h
      refine gR_cvI (wX11_makes_s e17) (Nat.le_of_ble_eq_true rfl) rfl rfl rfl rfl rfl ?_
      rcases gif h with ⟨c18, h⟩ | ⟨c18, h⟩
      · refine gR_iz_ne_f rfl c18 ?_
        refine gR_go 1 (pc1 := 77) (L1 := [some (.ref 153), some (.int (s2.1 152 12)), some (.int t7)]) (st1 := [.int 0]) (fun _ _ => rfl) ?_
        obtain ⟨rfl, rfl⟩ := gi2 h
        exact gR_rzc rfl rfl rfl
      · refine gR_iz_ne_j rfl c18 rfl ?_
        refine gR_go 1 (pc1 := 79) (L1 := [some (.ref 153), some (.int (s2.1 152 12)), some (.int t7)]) (st1 := [.ref 153]) (fun _ _ => rfl) ?_
        obtain ⟨s20, e21, h⟩ := gb h
        refine gR_cvV (wX11_passWord_s e21) (Nat.le_of_ble_eq_true rfl) rfl rfl rfl rfl rfl ?_
        refine gR_go 3 (pc1 := 85) (L1 := [some (.ref 153), some (.int (s2.1 152 12)), some (.int t7)]) (st1 := [.int t7, .int 1, .ref 153]) (fun _ _ => rfl) ?_
        obtain ⟨s23, e24, h⟩ := gb h
        refine gR_cvV (wX11_puts_s e24) (Nat.le_of_ble_eq_true rfl) rfl rfl rfl rfl rfl ?_
        refine gR_go 1 (pc1 := 89) (L1 := [some (.ref 153), some (.int (s2.1 152 12)), some (.int t7)]) (st1 := [.int 1]) (fun _ _ => rfl) ?_
        obtain ⟨rfl, rfl⟩ := gi2 h
        exact gR_rzc rfl rfl rfl
  · refine gR_iz_eq_f rfl c6 ?_
    refine gR_go 3 (pc1 := 25) (L1 := [some (.ref 153), some (.int (s2.1 152 12)), none]) (st1 := [.int 99999, .int 0, .ref 153]) (fun _ _ => rfl) ?_
    obtain ⟨⟨t25, s26⟩, e27, h⟩ := gb h
    dsimp only at h
    refine gR_cvI (wX11_numberHere_s e27) (Nat.le_of_ble_eq_true rfl) rfl rfl rfl rfl rfl ?_
    rcases gif h with ⟨c28, h⟩ | ⟨c28, h⟩
    · refine gR_iz_eq_j rfl c28 rfl ?_
      refine gR_go 1 (pc1 := 40) (L1 := [some (.ref 153), some (.int (s2.1 152 12)), none]) (st1 := [.int 0]) (fun _ _ => rfl) ?_
      obtain ⟨rfl, rfl⟩ := gi2 h
      exact gR_rzc rfl rfl rfl
    · refine gR_iz_eq_f rfl c28 ?_
      refine gR_go 2 (pc1 := 33) (L1 := [some (.ref 153), some (.int (s2.1 152 12)), none]) (st1 := [.int (s2.1 152 12), .ref 153]) (fun _ _ => rfl) ?_
      obtain ⟨⟨t29, s30⟩, e31, h⟩ := gb h
      dsimp only at h
      refine gR_cvI (wX11_makes_s e31) (Nat.le_of_ble_eq_true rfl) rfl rfl rfl rfl rfl ?_
      rcases gif h with ⟨c32, h⟩ | ⟨c32, h⟩
      · refine gR_iz_ne_f rfl c32 ?_
        refine gR_go 1 (pc1 := 40) (L1 := [some (.ref 153), some (.int (s2.1 152 12)), none]) (st1 := [.int 0]) (fun _ _ => rfl) ?_
        obtain ⟨rfl, rfl⟩ := gi2 h
        exact gR_rzc rfl rfl rfl
      · refine gR_iz_ne_j rfl c32 rfl ?_
        refine gR_go 3 (pc1 := 44) (L1 := [some (.ref 153), some (.int (s2.1 152 12)), none]) (st1 := [.ref 153, .int 0, .ref 153]) (fun _ _ => rfl) ?_
        refine gR_gfI (k := 152) rfl rfl rfl ?_
        obtain ⟨s34, e35, h⟩ := gb h
        refine gR_cvV (wX11_puts_s e35) (Nat.le_of_ble_eq_true rfl) rfl rfl rfl rfl rfl ?_
        refine gR_go 1 (pc1 := 51) (L1 := [some (.ref 153), some (.int (s2.1 152 12)), none]) (st1 := [.int 1]) (fun _ _ => rfl) ?_
        obtain ⟨rfl, rfl⟩ := gi2 h
        exact gR_rzc rfl rfl rfl
noncomputable def wX11_term_j46 (qq : wS → Option ((wS) ⊕ (wS))) (y0 : Int32) (s : wS) : Option ((wS) ⊕ (wS)) := (wpfI s 152 12 ((s.1 152 12) + 1)).bind fun s11 => (wX11_value s11).bind fun (t12, s13) => if t12 = 0 then (some (.inr s13)) else ((wX11_puts y0 0 s13).bind fun s17 => qq s17)
theorem wX11_term_u46 {y0 : Int32} {s : wS} {w1 : Option Value} {qq : wS → Option ((wS) ⊕ (wS))} {x : (wS) ⊕ (wS)} {r : ri_R} (ih : ∀ {s : wS} {w1 : Option Value} , qq s = some x → gRun 4 189 9 [some (.ref 153), w1] [] (wmk s) r) (he75 : ∀ (s : wS) (w1 : Option Value) , x = .inl s → gRun 4 189 75 [some (.ref 153), w1] [] (wmk s) r) (he64 : ∀ (s : wS) (w1 : Int32) , x = .inr s → gRun 4 189 64 [some (.ref 153), some (.int w1)] [] (wmk s) r) (h : wX11_term_j46 qq y0 s = some x) : gRun 4 189 46 [some (.ref 153), w1] [.int y0] (wmk s) r := by
  unfold wX11_term_j46 at h
  refine gR_go 3 (pc1 := 49) (L1 := [some (.ref 153), some (.int y0)]) (st1 := [.ref 153, .ref 153]) (fun _ _ => rfl) ?_
  refine gR_gfI (k := 152) rfl rfl rfl ?_
  refine gR_go 2 (pc1 := 54) (L1 := [some (.ref 153), some (.int y0)]) (st1 := [.int ((s.1 152 12) + 1), .ref 153]) (fun _ _ => rfl) ?_
  obtain ⟨s11, es11, h⟩ := gb h
  refine gR_pfI (k := 152) rfl rfl rfl rfl es11 ?_
  refine gR_go 1 (pc1 := 58) (L1 := [some (.ref 153), some (.int y0)]) (st1 := [.ref 153]) (fun _ _ => rfl) ?_
  obtain ⟨⟨t12, s13⟩, e14, h⟩ := gb h
  dsimp only at h
  refine gR_cvI (wX11_value_s e14) (Nat.le_of_ble_eq_true rfl) rfl rfl rfl rfl rfl ?_
  rcases gif h with ⟨c15, h⟩ | ⟨c15, h⟩
  · refine gR_iz_ne_f rfl c15 ?_
    exact he64 _ _ (Option.some.inj h).symm
  · refine gR_iz_ne_j rfl c15 rfl ?_
    refine gR_go 3 (pc1 := 69) (L1 := [some (.ref 153), some (.int y0)]) (st1 := [.int 0, .int y0, .ref 153]) (fun _ _ => rfl) ?_
    obtain ⟨s17, e18, h⟩ := gb h
    refine gR_cvV (wX11_puts_s e18) (Nat.le_of_ble_eq_true rfl) rfl rfl rfl rfl rfl ?_
    refine gR_go 1 (pc1 := 9) (L1 := [some (.ref 153), some (.int y0)]) (st1 := []) (fun _ _ => rfl) ?_
    exact ih h
noncomputable def wX11_term_j27 (qq : wS → Option ((wS) ⊕ (wS))) (s : wS) : Option ((wS) ⊕ (wS)) := (wldI s 153 400 (s.1 152 12)).bind fun t9 => if t9 = 42 then (wX11_term_j46 qq 4 s) else (wX11_term_j46 qq 5 s)
theorem wX11_term_u27 {s : wS} {w1 : Option Value} {qq : wS → Option ((wS) ⊕ (wS))} {x : (wS) ⊕ (wS)} {r : ri_R} (ih : ∀ {s : wS} {w1 : Option Value} , qq s = some x → gRun 4 189 9 [some (.ref 153), w1] [] (wmk s) r) (he75 : ∀ (s : wS) (w1 : Option Value) , x = .inl s → gRun 4 189 75 [some (.ref 153), w1] [] (wmk s) r) (he64 : ∀ (s : wS) (w1 : Int32) , x = .inr s → gRun 4 189 64 [some (.ref 153), some (.int w1)] [] (wmk s) r) (h : wX11_term_j27 qq s = some x) : gRun 4 189 27 [some (.ref 153), w1] [] (wmk s) r := by
  unfold wX11_term_j27 at h
  refine gR_go 1 (pc1 := 28) (L1 := [some (.ref 153), w1]) (st1 := [.ref 153]) (fun _ _ => rfl) ?_
  refine gR_gfR (k := 152) (k' := 153) rfl rfl rfl rfl ?_
  refine gR_go 1 (pc1 := 32) (L1 := [some (.ref 153), w1]) (st1 := [.ref 153, .ref 154]) (fun _ _ => rfl) ?_
  refine gR_gfI (k := 152) rfl rfl rfl ?_
  obtain ⟨t9, et9, h⟩ := gb h
  refine gR_bal (k := 153) rfl rfl rfl et9 ?_
  refine gR_go 1 (pc1 := 38) (L1 := [some (.ref 153), w1]) (st1 := [.int 42, .int t9]) (fun _ _ => rfl) ?_
  rcases gif h with ⟨c10, h⟩ | ⟨c10, h⟩
  · refine gR_ic_ne_f rfl c10 ?_
    refine gR_go 2 (pc1 := 46) (L1 := [some (.ref 153), w1]) (st1 := [.int 4]) (fun _ _ => rfl) ?_
    exact wX11_term_u46 ih he75 he64 h
  · refine gR_ic_ne_j rfl c10 rfl ?_
    refine gR_go 1 (pc1 := 46) (L1 := [some (.ref 153), w1]) (st1 := [.int 5]) (fun _ _ => rfl) ?_
    exact wX11_term_u46 ih he75 he64 h
noncomputable def wX11_term_h9 : Nat → wS → Option ((wS) ⊕ (wS))
  | 0, _ => none
  | n + 1, s => (wX11_see s).bind fun (t5, s6) => if t5 = 42 then (wX11_term_j27 (wX11_term_h9 n) s6) else ((wX11_see s6).bind fun (t19, s20) => if t19 = 47 then (wX11_term_j27 (wX11_term_h9 n) s20) else (some (.inl s20)))
theorem wX11_term_t9 {x : (wS) ⊕ (wS)} {r : ri_R} (he75 : ∀ (s : wS) (w1 : Option Value) , x = .inl s → gRun 4 189 75 [some (.ref 153), w1] [] (wmk s) r) (he64 : ∀ (s : wS) (w1 : Int32) , x = .inr s → gRun 4 189 64 [some (.ref 153), some (.int w1)] [] (wmk s) r) : ∀ {n : Nat} {s : wS} {w1 : Option Value} , wX11_term_h9 n s = some x → gRun 4 189 9 [some (.ref 153), w1] [] (wmk s) r := by
  intro n
  induction n with
  | zero => intro s w1 h; cases (show (none : Option ((wS) ⊕ (wS))) = some x from h)
  | succ n ih =>
    intro s w1 h
    rw [wX11_term_h9] at h
    refine gR_go 1 (pc1 := 10) (L1 := [some (.ref 153), w1]) (st1 := [.ref 153]) (fun _ _ => rfl) ?_
    obtain ⟨⟨t5, s6⟩, e7, h⟩ := gb h
    dsimp only at h
    refine gR_cvI (wX11_see_s e7) (Nat.le_of_ble_eq_true rfl) rfl rfl rfl rfl rfl ?_
    refine gR_go 1 (pc1 := 15) (L1 := [some (.ref 153), w1]) (st1 := [.int 42, .int t5]) (fun _ _ => rfl) ?_
    rcases gif h with ⟨c8, h⟩ | ⟨c8, h⟩
    · refine gR_ic_eq_j rfl c8 rfl ?_
      exact wX11_term_u27 ih he75 he64 h
    · refine gR_ic_eq_f rfl c8 ?_
      refine gR_go 1 (pc1 := 19) (L1 := [some (.ref 153), w1]) (st1 := [.ref 153]) (fun _ _ => rfl) ?_
      obtain ⟨⟨t19, s20⟩, e21, h⟩ := gb h
      dsimp only at h
      refine gR_cvI (wX11_see_s e21) (Nat.le_of_ble_eq_true rfl) rfl rfl rfl rfl rfl ?_
      refine gR_go 1 (pc1 := 24) (L1 := [some (.ref 153), w1]) (st1 := [.int 47, .int t19]) (fun _ _ => rfl) ?_
      rcases gif h with ⟨c22, h⟩ | ⟨c22, h⟩
      · refine gR_ic_ne_f rfl c22 ?_
        exact wX11_term_u27 ih he75 he64 h
      · refine gR_ic_ne_j rfl c22 rfl ?_
        exact he75 _ _ (Option.some.inj h).symm
noncomputable def wX11_term (s : wS) : Option (Int32 × wS) := (wX11_value s).bind fun (t1, s2) => if t1 = 0 then (some (0, s2)) else ((wX11_term_h9 wFuel s2).bind fun z23 => (match z23 with | .inl s24 => some (1, s24) | .inr s26 => some (0, s26)))
theorem wX11_term_s {s : wS} {rv : Int32} {rs : wS} (h : wX11_term s = some (rv, rs)) : gEv 5 189 [.ref 153] (wmk s) (some (.int rv), wmk rs, 0, 0) := by
  refine gEv_of (d := 4) (L := [some (.ref 153), none]) rfl ?_
  unfold wX11_term at h
  refine gR_go 1 (pc1 := 1) (L1 := [some (.ref 153), none]) (st1 := [.ref 153]) (fun _ _ => rfl) ?_
  obtain ⟨⟨t1, s2⟩, e3, h⟩ := gb h
  dsimp only at h
  refine gR_cvI (wX11_value_s e3) (Nat.le_of_ble_eq_true rfl) rfl rfl rfl rfl rfl ?_
  rcases gif h with ⟨c4, h⟩ | ⟨c4, h⟩
  · refine gR_iz_ne_f rfl c4 ?_
    refine gR_go 1 (pc1 := 8) (L1 := [some (.ref 153), none]) (st1 := [.int 0]) (fun _ _ => rfl) ?_
    obtain ⟨rfl, rfl⟩ := gi2 h
    exact gR_rzc rfl rfl rfl
  · refine gR_iz_ne_j rfl c4 rfl ?_
    obtain ⟨z23, ez23, h⟩ := gb h
    refine wX11_term_t9 ?_ ?_  ez23
    · intro s24 w25 hz
      replace hz := hz.symm
      subst hz
      dsimp only at h
      refine gR_go 1 (pc1 := 76) (L1 := [some (.ref 153), w25]) (st1 := [.int 1]) (fun _ _ => rfl) ?_
      obtain ⟨rfl, rfl⟩ := gi2 h
      exact gR_rzc rfl rfl rfl
    · intro s26 w27 hz
      replace hz := hz.symm
      subst hz
      dsimp only at h
      refine gR_go 1 (pc1 := 65) (L1 := [some (.ref 153), some (.int w27)]) (st1 := [.int 0]) (fun _ _ => rfl) ?_
      obtain ⟨rfl, rfl⟩ := gi2 h
      exact gR_rzc rfl rfl rfl
noncomputable def wX11_sum_j46 (qq : wS → Option ((wS) ⊕ (wS))) (y0 : Int32) (s : wS) : Option ((wS) ⊕ (wS)) := (wpfI s 152 12 ((s.1 152 12) + 1)).bind fun s11 => (wX11_term s11).bind fun (t12, s13) => if t12 = 0 then (some (.inr s13)) else ((wX11_puts y0 0 s13).bind fun s17 => qq s17)
theorem wX11_sum_u46 {y0 : Int32} {s : wS} {w1 : Option Value} {qq : wS → Option ((wS) ⊕ (wS))} {x : (wS) ⊕ (wS)} {r : ri_R} (ih : ∀ {s : wS} {w1 : Option Value} , qq s = some x → gRun 5 190 9 [some (.ref 153), w1] [] (wmk s) r) (he75 : ∀ (s : wS) (w1 : Option Value) , x = .inl s → gRun 5 190 75 [some (.ref 153), w1] [] (wmk s) r) (he64 : ∀ (s : wS) (w1 : Int32) , x = .inr s → gRun 5 190 64 [some (.ref 153), some (.int w1)] [] (wmk s) r) (h : wX11_sum_j46 qq y0 s = some x) : gRun 5 190 46 [some (.ref 153), w1] [.int y0] (wmk s) r := by
  unfold wX11_sum_j46 at h
  refine gR_go 3 (pc1 := 49) (L1 := [some (.ref 153), some (.int y0)]) (st1 := [.ref 153, .ref 153]) (fun _ _ => rfl) ?_
  refine gR_gfI (k := 152) rfl rfl rfl ?_
  refine gR_go 2 (pc1 := 54) (L1 := [some (.ref 153), some (.int y0)]) (st1 := [.int ((s.1 152 12) + 1), .ref 153]) (fun _ _ => rfl) ?_
  obtain ⟨s11, es11, h⟩ := gb h
  refine gR_pfI (k := 152) rfl rfl rfl rfl es11 ?_
  refine gR_go 1 (pc1 := 58) (L1 := [some (.ref 153), some (.int y0)]) (st1 := [.ref 153]) (fun _ _ => rfl) ?_
  obtain ⟨⟨t12, s13⟩, e14, h⟩ := gb h
  dsimp only at h
  refine gR_cvI (wX11_term_s e14) (Nat.le_of_ble_eq_true rfl) rfl rfl rfl rfl rfl ?_
  rcases gif h with ⟨c15, h⟩ | ⟨c15, h⟩
  · refine gR_iz_ne_f rfl c15 ?_
    exact he64 _ _ (Option.some.inj h).symm
  · refine gR_iz_ne_j rfl c15 rfl ?_
    refine gR_go 3 (pc1 := 69) (L1 := [some (.ref 153), some (.int y0)]) (st1 := [.int 0, .int y0, .ref 153]) (fun _ _ => rfl) ?_
    obtain ⟨s17, e18, h⟩ := gb h
    refine gR_cvV (wX11_puts_s e18) (Nat.le_of_ble_eq_true rfl) rfl rfl rfl rfl rfl ?_
    refine gR_go 1 (pc1 := 9) (L1 := [some (.ref 153), some (.int y0)]) (st1 := []) (fun _ _ => rfl) ?_
    exact ih h
noncomputable def wX11_sum_j27 (qq : wS → Option ((wS) ⊕ (wS))) (s : wS) : Option ((wS) ⊕ (wS)) := (wldI s 153 400 (s.1 152 12)).bind fun t9 => if t9 = 43 then (wX11_sum_j46 qq 2 s) else (wX11_sum_j46 qq 3 s)
theorem wX11_sum_u27 {s : wS} {w1 : Option Value} {qq : wS → Option ((wS) ⊕ (wS))} {x : (wS) ⊕ (wS)} {r : ri_R} (ih : ∀ {s : wS} {w1 : Option Value} , qq s = some x → gRun 5 190 9 [some (.ref 153), w1] [] (wmk s) r) (he75 : ∀ (s : wS) (w1 : Option Value) , x = .inl s → gRun 5 190 75 [some (.ref 153), w1] [] (wmk s) r) (he64 : ∀ (s : wS) (w1 : Int32) , x = .inr s → gRun 5 190 64 [some (.ref 153), some (.int w1)] [] (wmk s) r) (h : wX11_sum_j27 qq s = some x) : gRun 5 190 27 [some (.ref 153), w1] [] (wmk s) r := by
  unfold wX11_sum_j27 at h
  refine gR_go 1 (pc1 := 28) (L1 := [some (.ref 153), w1]) (st1 := [.ref 153]) (fun _ _ => rfl) ?_
  refine gR_gfR (k := 152) (k' := 153) rfl rfl rfl rfl ?_
  refine gR_go 1 (pc1 := 32) (L1 := [some (.ref 153), w1]) (st1 := [.ref 153, .ref 154]) (fun _ _ => rfl) ?_
  refine gR_gfI (k := 152) rfl rfl rfl ?_
  obtain ⟨t9, et9, h⟩ := gb h
  refine gR_bal (k := 153) rfl rfl rfl et9 ?_
  refine gR_go 1 (pc1 := 38) (L1 := [some (.ref 153), w1]) (st1 := [.int 43, .int t9]) (fun _ _ => rfl) ?_
  rcases gif h with ⟨c10, h⟩ | ⟨c10, h⟩
  · refine gR_ic_ne_f rfl c10 ?_
    refine gR_go 2 (pc1 := 46) (L1 := [some (.ref 153), w1]) (st1 := [.int 2]) (fun _ _ => rfl) ?_
    exact wX11_sum_u46 ih he75 he64 h
  · refine gR_ic_ne_j rfl c10 rfl ?_
    refine gR_go 1 (pc1 := 46) (L1 := [some (.ref 153), w1]) (st1 := [.int 3]) (fun _ _ => rfl) ?_
    exact wX11_sum_u46 ih he75 he64 h
noncomputable def wX11_sum_h9 : Nat → wS → Option ((wS) ⊕ (wS))
  | 0, _ => none
  | n + 1, s => (wX11_see s).bind fun (t5, s6) => if t5 = 43 then (wX11_sum_j27 (wX11_sum_h9 n) s6) else ((wX11_see s6).bind fun (t19, s20) => if t19 = 45 then (wX11_sum_j27 (wX11_sum_h9 n) s20) else (some (.inl s20)))
theorem wX11_sum_t9 {x : (wS) ⊕ (wS)} {r : ri_R} (he75 : ∀ (s : wS) (w1 : Option Value) , x = .inl s → gRun 5 190 75 [some (.ref 153), w1] [] (wmk s) r) (he64 : ∀ (s : wS) (w1 : Int32) , x = .inr s → gRun 5 190 64 [some (.ref 153), some (.int w1)] [] (wmk s) r) : ∀ {n : Nat} {s : wS} {w1 : Option Value} , wX11_sum_h9 n s = some x → gRun 5 190 9 [some (.ref 153), w1] [] (wmk s) r := by
  intro n
  induction n with
  | zero => intro s w1 h; cases (show (none : Option ((wS) ⊕ (wS))) = some x from h)
  | succ n ih =>
    intro s w1 h
    rw [wX11_sum_h9] at h
    refine gR_go 1 (pc1 := 10) (L1 := [some (.ref 153), w1]) (st1 := [.ref 153]) (fun _ _ => rfl) ?_
    obtain ⟨⟨t5, s6⟩, e7, h⟩ := gb h
    dsimp only at h
    refine gR_cvI (wX11_see_s e7) (Nat.le_of_ble_eq_true rfl) rfl rfl rfl rfl rfl ?_
    refine gR_go 1 (pc1 := 15) (L1 := [some (.ref 153), w1]) (st1 := [.int 43, .int t5]) (fun _ _ => rfl) ?_
    rcases gif h with ⟨c8, h⟩ | ⟨c8, h⟩
    · refine gR_ic_eq_j rfl c8 rfl ?_
      exact wX11_sum_u27 ih he75 he64 h
    · refine gR_ic_eq_f rfl c8 ?_
      refine gR_go 1 (pc1 := 19) (L1 := [some (.ref 153), w1]) (st1 := [.ref 153]) (fun _ _ => rfl) ?_
      obtain ⟨⟨t19, s20⟩, e21, h⟩ := gb h
      dsimp only at h
      refine gR_cvI (wX11_see_s e21) (Nat.le_of_ble_eq_true rfl) rfl rfl rfl rfl rfl ?_
      refine gR_go 1 (pc1 := 24) (L1 := [some (.ref 153), w1]) (st1 := [.int 45, .int t19]) (fun _ _ => rfl) ?_
      rcases gif h with ⟨c22, h⟩ | ⟨c22, h⟩
      · refine gR_ic_ne_f rfl c22 ?_
        exact wX11_sum_u27 ih he75 he64 h
      · refine gR_ic_ne_j rfl c22 rfl ?_
        exact he75 _ _ (Option.some.inj h).symm
noncomputable def wX11_sum (s : wS) : Option (Int32 × wS) := (wX11_term s).bind fun (t1, s2) => if t1 = 0 then (some (0, s2)) else ((wX11_sum_h9 wFuel s2).bind fun z23 => (match z23 with | .inl s24 => some (1, s24) | .inr s26 => some (0, s26)))
theorem wX11_sum_s {s : wS} {rv : Int32} {rs : wS} (h : wX11_sum s = some (rv, rs)) : gEv 6 190 [.ref 153] (wmk s) (some (.int rv), wmk rs, 0, 0) := by
  refine gEv_of (d := 5) (L := [some (.ref 153), none]) rfl ?_
  unfold wX11_sum at h
  refine gR_go 1 (pc1 := 1) (L1 := [some (.ref 153), none]) (st1 := [.ref 153]) (fun _ _ => rfl) ?_
  obtain ⟨⟨t1, s2⟩, e3, h⟩ := gb h
  dsimp only at h
  refine gR_cvI (wX11_term_s e3) (Nat.le_of_ble_eq_true rfl) rfl rfl rfl rfl rfl ?_
  rcases gif h with ⟨c4, h⟩ | ⟨c4, h⟩
  · refine gR_iz_ne_f rfl c4 ?_
    refine gR_go 1 (pc1 := 8) (L1 := [some (.ref 153), none]) (st1 := [.int 0]) (fun _ _ => rfl) ?_
    obtain ⟨rfl, rfl⟩ := gi2 h
    exact gR_rzc rfl rfl rfl
  · refine gR_iz_ne_j rfl c4 rfl ?_
    obtain ⟨z23, ez23, h⟩ := gb h
    refine wX11_sum_t9 ?_ ?_  ez23
    · intro s24 w25 hz
      replace hz := hz.symm
      subst hz
      dsimp only at h
      refine gR_go 1 (pc1 := 76) (L1 := [some (.ref 153), w25]) (st1 := [.int 1]) (fun _ _ => rfl) ?_
      obtain ⟨rfl, rfl⟩ := gi2 h
      exact gR_rzc rfl rfl rfl
    · intro s26 w27 hz
      replace hz := hz.symm
      subst hz
      dsimp only at h
      refine gR_go 1 (pc1 := 65) (L1 := [some (.ref 153), some (.int w27)]) (st1 := [.int 0]) (fun _ _ => rfl) ?_
      obtain ⟨rfl, rfl⟩ := gi2 h
      exact gR_rzc rfl rfl rfl
noncomputable def wX11_compare_j152 (y0 : Int32) (s : wS) : Option (Int32 × wS) := (wX11_sum s).bind fun (t18, s19) => if t18 = 0 then (some (0, s19)) else ((wX11_puts (6 + y0) 0 s19).bind fun s23 => some (1, s23))
theorem wX11_compare_u152 {y0 : Int32} {s : wS} {w1 : Int32} {w2 : Int32} {w3 : Int32} {w4 : Option Value} {rv : Int32} {rs : wS} (h : wX11_compare_j152 y0 s = some (rv, rs)) : gRun 6 191 152 [some (.ref 153), some (.int w1), some (.int w2), some (.int w3), w4] [.int y0] (wmk s) (some (.int rv), wmk rs, 0, 0) := by
  unfold wX11_compare_j152 at h
  refine gR_go 2 (pc1 := 155) (L1 := [some (.ref 153), some (.int w1), some (.int w2), some (.int w3), some (.int y0)]) (st1 := [.ref 153]) (fun _ _ => rfl) ?_
  obtain ⟨⟨t18, s19⟩, e20, h⟩ := gb h
  dsimp only at h
  refine gR_cvI (wX11_sum_s e20) (Nat.le_of_ble_eq_true rfl) rfl rfl rfl rfl rfl ?_
  rcases gif h with ⟨c21, h⟩ | ⟨c21, h⟩
  · refine gR_iz_ne_f rfl c21 ?_
    refine gR_go 1 (pc1 := 162) (L1 := [some (.ref 153), some (.int w1), some (.int w2), some (.int w3), some (.int y0)]) (st1 := [.int 0]) (fun _ _ => rfl) ?_
    obtain ⟨rfl, rfl⟩ := gi2 h
    exact gR_rzc rfl rfl rfl
  · refine gR_iz_ne_j rfl c21 rfl ?_
    refine gR_go 5 (pc1 := 170) (L1 := [some (.ref 153), some (.int w1), some (.int w2), some (.int w3), some (.int y0)]) (st1 := [.int 0, .int (6 + y0), .ref 153]) (fun _ _ => rfl) ?_
    obtain ⟨s23, e24, h⟩ := gb h
    refine gR_cvV (wX11_puts_s e24) (Nat.le_of_ble_eq_true rfl) rfl rfl rfl rfl rfl ?_
    refine gR_go 1 (pc1 := 174) (L1 := [some (.ref 153), some (.int w1), some (.int w2), some (.int w3), some (.int y0)]) (st1 := [.int 1]) (fun _ _ => rfl) ?_
    obtain ⟨rfl, rfl⟩ := gi2 h
    exact gR_rzc rfl rfl rfl
noncomputable def wX11_compare_j105 (x1 : Int32) (x2 : Int32) (x3 : Int32) (s : wS) : Option (Int32 × wS) := (wX11_makes x2 s).bind fun (t12, s13) => if t12 = 0 then (some (0, s13)) else (if x1 = 60 then (if x3 = 0 then (wX11_compare_j152 0 s13) else (wX11_compare_j152 1 s13)) else (if x1 = 61 then (wX11_compare_j152 2 s13) else (if x3 = 0 then (wX11_compare_j152 4 s13) else (wX11_compare_j152 3 s13))))
theorem wX11_compare_u105 {x1 : Int32} {x2 : Int32} {x3 : Int32} {s : wS} {w4 : Option Value} {rv : Int32} {rs : wS} (h : wX11_compare_j105 x1 x2 x3 s = some (rv, rs)) : gRun 6 191 105 [some (.ref 153), some (.int x1), some (.int x2), some (.int x3), w4] [] (wmk s) (some (.int rv), wmk rs, 0, 0) := by
  unfold wX11_compare_j105 at h
  refine gR_go 2 (pc1 := 107) (L1 := [some (.ref 153), some (.int x1), some (.int x2), some (.int x3), w4]) (st1 := [.int x2, .ref 153]) (fun _ _ => rfl) ?_
  obtain ⟨⟨t12, s13⟩, e14, h⟩ := gb h
  dsimp only at h
  refine gR_cvI (wX11_makes_s e14) (Nat.le_of_ble_eq_true rfl) rfl rfl rfl rfl rfl ?_
  rcases gif h with ⟨c15, h⟩ | ⟨c15, h⟩
  · refine gR_iz_ne_f rfl c15 ?_
    refine gR_go 1 (pc1 := 114) (L1 := [some (.ref 153), some (.int x1), some (.int x2), some (.int x3), w4]) (st1 := [.int 0]) (fun _ _ => rfl) ?_
    obtain ⟨rfl, rfl⟩ := gi2 h
    exact gR_rzc rfl rfl rfl
  · refine gR_iz_ne_j rfl c15 rfl ?_
    refine gR_go 2 (pc1 := 118) (L1 := [some (.ref 153), some (.int x1), some (.int x2), some (.int x3), w4]) (st1 := [.int 60, .int x1]) (fun _ _ => rfl) ?_
    rcases gif h with ⟨c16, h⟩ | ⟨c16, h⟩
    · refine gR_ic_ne_f rfl c16 ?_
      refine gR_go 1 (pc1 := 122) (L1 := [some (.ref 153), some (.int x1), some (.int x2), some (.int x3), w4]) (st1 := [.int x3]) (fun _ _ => rfl) ?_
      rcases gif h with ⟨c17, h⟩ | ⟨c17, h⟩
      · refine gR_iz_eq_j rfl c17 rfl ?_
        refine gR_go 2 (pc1 := 152) (L1 := [some (.ref 153), some (.int x1), some (.int x2), some (.int x3), w4]) (st1 := [.int 0]) (fun _ _ => rfl) ?_
        exact wX11_compare_u152 h
      · refine gR_iz_eq_f rfl c17 ?_
        refine gR_go 2 (pc1 := 152) (L1 := [some (.ref 153), some (.int x1), some (.int x2), some (.int x3), w4]) (st1 := [.int 1]) (fun _ _ => rfl) ?_
        exact wX11_compare_u152 h
    · refine gR_ic_ne_j rfl c16 rfl ?_
      refine gR_go 2 (pc1 := 136) (L1 := [some (.ref 153), some (.int x1), some (.int x2), some (.int x3), w4]) (st1 := [.int 61, .int x1]) (fun _ _ => rfl) ?_
      rcases gif h with ⟨c25, h⟩ | ⟨c25, h⟩
      · refine gR_ic_ne_f rfl c25 ?_
        refine gR_go 2 (pc1 := 152) (L1 := [some (.ref 153), some (.int x1), some (.int x2), some (.int x3), w4]) (st1 := [.int 2]) (fun _ _ => rfl) ?_
        exact wX11_compare_u152 h
      · refine gR_ic_ne_j rfl c25 rfl ?_
        refine gR_go 1 (pc1 := 144) (L1 := [some (.ref 153), some (.int x1), some (.int x2), some (.int x3), w4]) (st1 := [.int x3]) (fun _ _ => rfl) ?_
        rcases gif h with ⟨c26, h⟩ | ⟨c26, h⟩
        · refine gR_iz_eq_j rfl c26 rfl ?_
          refine gR_go 1 (pc1 := 152) (L1 := [some (.ref 153), some (.int x1), some (.int x2), some (.int x3), w4]) (st1 := [.int 4]) (fun _ _ => rfl) ?_
          exact wX11_compare_u152 h
        · refine gR_iz_eq_f rfl c26 ?_
          refine gR_go 2 (pc1 := 152) (L1 := [some (.ref 153), some (.int x1), some (.int x2), some (.int x3), w4]) (st1 := [.int 3]) (fun _ _ => rfl) ?_
          exact wX11_compare_u152 h
noncomputable def wX11_compare_j90 (x1 : Int32) (x2 : Int32) (y0 : Int32) (s : wS) : Option (Int32 × wS) := if y0 = 0 then (wX11_compare_j105 x1 x2 y0 s) else ((wpfI s 152 12 ((s.1 152 12) + 1)).bind fun s27 => wX11_compare_j105 x1 x2 y0 s27)
theorem wX11_compare_u90 {x1 : Int32} {x2 : Int32} {y0 : Int32} {s : wS} {w3 : Option Value} {w4 : Option Value} {rv : Int32} {rs : wS} (h : wX11_compare_j90 x1 x2 y0 s = some (rv, rs)) : gRun 6 191 90 [some (.ref 153), some (.int x1), some (.int x2), w3, w4] [.int y0] (wmk s) (some (.int rv), wmk rs, 0, 0) := by
  unfold wX11_compare_j90 at h
  refine gR_go 2 (pc1 := 92) (L1 := [some (.ref 153), some (.int x1), some (.int x2), some (.int y0), w4]) (st1 := [.int y0]) (fun _ _ => rfl) ?_
  rcases gif h with ⟨c11, h⟩ | ⟨c11, h⟩
  · refine gR_iz_eq_j rfl c11 rfl ?_
    exact wX11_compare_u105 h
  · refine gR_iz_eq_f rfl c11 ?_
    refine gR_go 2 (pc1 := 97) (L1 := [some (.ref 153), some (.int x1), some (.int x2), some (.int y0), w4]) (st1 := [.ref 153, .ref 153]) (fun _ _ => rfl) ?_
    refine gR_gfI (k := 152) rfl rfl rfl ?_
    refine gR_go 2 (pc1 := 102) (L1 := [some (.ref 153), some (.int x1), some (.int x2), some (.int y0), w4]) (st1 := [.int ((s.1 152 12) + 1), .ref 153]) (fun _ _ => rfl) ?_
    obtain ⟨s27, es27, h⟩ := gb h
    refine gR_pfI (k := 152) rfl rfl rfl rfl es27 ?_
    exact wX11_compare_u105 h
noncomputable def wX11_compare_j89 (x1 : Int32) (x2 : Int32) (s : wS) : Option (Int32 × wS) := wX11_compare_j90 x1 x2 0 s
theorem wX11_compare_u89 {x1 : Int32} {x2 : Int32} {s : wS} {w3 : Option Value} {w4 : Option Value} {rv : Int32} {rs : wS} (h : wX11_compare_j89 x1 x2 s = some (rv, rs)) : gRun 6 191 89 [some (.ref 153), some (.int x1), some (.int x2), w3, w4] [] (wmk s) (some (.int rv), wmk rs, 0, 0) := by
  unfold wX11_compare_j89 at h
  refine gR_go 1 (pc1 := 90) (L1 := [some (.ref 153), some (.int x1), some (.int x2), w3, w4]) (st1 := [.int 0]) (fun _ _ => rfl) ?_
  exact wX11_compare_u90 h
noncomputable def wX11_compare_j44 (x1 : Int32) (x2 : Int32) (s : wS) : Option (Int32 × wS) := (wpfI s 152 12 ((s.1 152 12) + 1)).bind fun s9 => if x1 = 61 then (wX11_compare_j89 x1 x2 s9) else (if (s9.1 152 12) < (s9.1 152 1) then ((wldI s9 153 400 (s9.1 152 12)).bind fun t29 => if t29 = 61 then (wX11_compare_j90 x1 x2 1 s9) else (wX11_compare_j89 x1 x2 s9)) else (wX11_compare_j89 x1 x2 s9))
theorem wX11_compare_u44 {x1 : Int32} {x2 : Int32} {s : wS} {w3 : Option Value} {w4 : Option Value} {rv : Int32} {rs : wS} (h : wX11_compare_j44 x1 x2 s = some (rv, rs)) : gRun 6 191 44 [some (.ref 153), some (.int x1), some (.int x2), w3, w4] [] (wmk s) (some (.int rv), wmk rs, 0, 0) := by
  unfold wX11_compare_j44 at h
  refine gR_go 2 (pc1 := 46) (L1 := [some (.ref 153), some (.int x1), some (.int x2), w3, w4]) (st1 := [.ref 153, .ref 153]) (fun _ _ => rfl) ?_
  refine gR_gfI (k := 152) rfl rfl rfl ?_
  refine gR_go 2 (pc1 := 51) (L1 := [some (.ref 153), some (.int x1), some (.int x2), w3, w4]) (st1 := [.int ((s.1 152 12) + 1), .ref 153]) (fun _ _ => rfl) ?_
  obtain ⟨s9, es9, h⟩ := gb h
  refine gR_pfI (k := 152) rfl rfl rfl rfl es9 ?_
  refine gR_go 2 (pc1 := 57) (L1 := [some (.ref 153), some (.int x1), some (.int x2), w3, w4]) (st1 := [.int 61, .int x1]) (fun _ _ => rfl) ?_
  rcases gif h with ⟨c10, h⟩ | ⟨c10, h⟩
  · refine gR_ic_eq_j rfl c10 rfl ?_
    exact wX11_compare_u89 h
  · refine gR_ic_eq_f rfl c10 ?_
    refine gR_go 1 (pc1 := 61) (L1 := [some (.ref 153), some (.int x1), some (.int x2), w3, w4]) (st1 := [.ref 153]) (fun _ _ => rfl) ?_
    refine gR_gfI (k := 152) rfl rfl rfl ?_
    refine gR_go 1 (pc1 := 65) (L1 := [some (.ref 153), some (.int x1), some (.int x2), w3, w4]) (st1 := [.ref 153, .int (s9.1 152 12)]) (fun _ _ => rfl) ?_
    refine gR_gfI (k := 152) rfl rfl rfl ?_
    rcases gif h with ⟨c28, h⟩ | ⟨c28, h⟩
    · refine gR_ic_ge_f rfl c28 ?_
      refine gR_go 1 (pc1 := 72) (L1 := [some (.ref 153), some (.int x1), some (.int x2), w3, w4]) (st1 := [.ref 153]) (fun _ _ => rfl) ?_
      refine gR_gfR (k := 152) (k' := 153) rfl rfl rfl rfl ?_
      refine gR_go 1 (pc1 := 76) (L1 := [some (.ref 153), some (.int x1), some (.int x2), w3, w4]) (st1 := [.ref 153, .ref 154]) (fun _ _ => rfl) ?_
      refine gR_gfI (k := 152) rfl rfl rfl ?_
      obtain ⟨t29, et29, h⟩ := gb h
      refine gR_bal (k := 153) rfl rfl rfl et29 ?_
      refine gR_go 1 (pc1 := 82) (L1 := [some (.ref 153), some (.int x1), some (.int x2), w3, w4]) (st1 := [.int 61, .int t29]) (fun _ _ => rfl) ?_
      rcases gif h with ⟨c30, h⟩ | ⟨c30, h⟩
      · refine gR_ic_ne_f rfl c30 ?_
        refine gR_go 2 (pc1 := 90) (L1 := [some (.ref 153), some (.int x1), some (.int x2), w3, w4]) (st1 := [.int 1]) (fun _ _ => rfl) ?_
        exact wX11_compare_u90 h
      · refine gR_ic_ne_j rfl c30 rfl ?_
        exact wX11_compare_u89 h
    · refine gR_ic_ge_j rfl c28 rfl ?_
      exact wX11_compare_u89 h
noncomputable def wX11_compare (s : wS) : Option (Int32 × wS) := (wX11_sum s).bind fun (t1, s2) => if t1 = 0 then (some (0, s2)) else ((wX11_see s2).bind fun (t5, s6) => if t5 = 60 then (wX11_compare_j44 t5 (s6.1 152 12) s6) else (if t5 = 61 then (wX11_compare_j44 t5 (s6.1 152 12) s6) else (if t5 = 62 then (wX11_compare_j44 t5 (s6.1 152 12) s6) else ((wX11_fails 0 (s6.1 152 12) s6).bind fun (t33, s34) => (wrtZ t33).bind fun t36 => some (t36, s34)))))
theorem wX11_compare_s {s : wS} {rv : Int32} {rs : wS} (h : wX11_compare s = some (rv, rs)) : gEv 7 191 [.ref 153] (wmk s) (some (.int rv), wmk rs, 0, 0) := by
  refine gEv_of (d := 6) (L := [some (.ref 153), none, none, none, none]) rfl ?_
  unfold wX11_compare at h
  refine gR_go 1 (pc1 := 1) (L1 := [some (.ref 153), none, none, none, none]) (st1 := [.ref 153]) (fun _ _ => rfl) ?_
  obtain ⟨⟨t1, s2⟩, e3, h⟩ := gb h
  dsimp only at h
  refine gR_cvI (wX11_sum_s e3) (Nat.le_of_ble_eq_true rfl) rfl rfl rfl rfl rfl ?_
  rcases gif h with ⟨c4, h⟩ | ⟨c4, h⟩
  · refine gR_iz_ne_f rfl c4 ?_
    refine gR_go 1 (pc1 := 8) (L1 := [some (.ref 153), none, none, none, none]) (st1 := [.int 0]) (fun _ _ => rfl) ?_
    obtain ⟨rfl, rfl⟩ := gi2 h
    exact gR_rzc rfl rfl rfl
  · refine gR_iz_ne_j rfl c4 rfl ?_
    refine gR_go 1 (pc1 := 10) (L1 := [some (.ref 153), none, none, none, none]) (st1 := [.ref 153]) (fun _ _ => rfl) ?_
    obtain ⟨⟨t5, s6⟩, e7, h⟩ := gb h
    dsimp only at h
    refine gR_cvI (wX11_see_s e7) (Nat.le_of_ble_eq_true rfl) rfl rfl rfl rfl rfl ?_
    refine gR_go 2 (pc1 := 15) (L1 := [some (.ref 153), some (.int t5), none, none, none]) (st1 := [.ref 153]) (fun _ _ => rfl) ?_
    refine gR_gfI (k := 152) rfl rfl rfl ?_
    refine gR_go 3 (pc1 := 22) (L1 := [some (.ref 153), some (.int t5), some (.int (s6.1 152 12)), none, none]) (st1 := [.int 60, .int t5]) (fun _ _ => rfl) ?_
    rcases gif h with ⟨c8, h⟩ | ⟨c8, h⟩
    · refine gR_ic_eq_j rfl c8 rfl ?_
      exact wX11_compare_u44 h
    · refine gR_ic_eq_f rfl c8 ?_
      refine gR_go 2 (pc1 := 28) (L1 := [some (.ref 153), some (.int t5), some (.int (s6.1 152 12)), none, none]) (st1 := [.int 61, .int t5]) (fun _ _ => rfl) ?_
      rcases gif h with ⟨c31, h⟩ | ⟨c31, h⟩
      · refine gR_ic_eq_j rfl c31 rfl ?_
        exact wX11_compare_u44 h
      · refine gR_ic_eq_f rfl c31 ?_
        refine gR_go 2 (pc1 := 34) (L1 := [some (.ref 153), some (.int t5), some (.int (s6.1 152 12)), none, none]) (st1 := [.int 62, .int t5]) (fun _ _ => rfl) ?_
        rcases gif h with ⟨c32, h⟩ | ⟨c32, h⟩
        · refine gR_ic_eq_j rfl c32 rfl ?_
          exact wX11_compare_u44 h
        · refine gR_ic_eq_f rfl c32 ?_
          refine gR_go 3 (pc1 := 40) (L1 := [some (.ref 153), some (.int t5), some (.int (s6.1 152 12)), none, none]) (st1 := [.int (s6.1 152 12), .int 0, .ref 153]) (fun _ _ => rfl) ?_
          obtain ⟨⟨t33, s34⟩, e35, h⟩ := gb h
          dsimp only at h
          refine gR_cvI (wX11_fails_s e35) (Nat.le_of_ble_eq_true rfl) rfl rfl rfl rfl rfl ?_
          obtain ⟨t36, et36, h⟩ := gb h
          obtain ⟨rfl, rfl⟩ := gi2 h
          exact gR_rz rfl rfl et36
noncomputable def wX11_fact_j72 (qq : Int32 → wS → Option ((wS) ⊕ ((wS) ⊕ (wS)))) (x1 : Int32) (s : wS) : Option ((wS) ⊕ ((wS) ⊕ (wS))) := qq x1 s
theorem wX11_fact_u72 {x1 : Int32} {s : wS} {w2 : Int32} {qq : Int32 → wS → Option ((wS) ⊕ ((wS) ⊕ (wS)))} {x : (wS) ⊕ ((wS) ⊕ (wS))} {r : ri_R} (ih : ∀ {x1 : Int32} {s : wS} {w2 : Option Value} , qq x1 s = some x → gRun 7 192 2 [some (.ref 153), some (.int x1), w2] [] (wmk s) r) (he75 : ∀ (s : wS) (w1 : Int32) (w2 : Option Value) , x = .inl s → gRun 7 192 75 [some (.ref 153), some (.int w1), w2] [] (wmk s) r) (he32 : ∀ (s : wS) (w1 : Int32) (w2 : Int32) , x = .inr (.inl s) → gRun 7 192 32 [some (.ref 153), some (.int w1), some (.int w2)] [] (wmk s) r) (he58 : ∀ (s : wS) (w1 : Int32) (w2 : Int32) , x = .inr (.inr s) → gRun 7 192 58 [some (.ref 153), some (.int w1), some (.int w2)] [] (wmk s) r) (h : wX11_fact_j72 qq x1 s = some x) : gRun 7 192 72 [some (.ref 153), some (.int x1), some (.int w2)] [] (wmk s) r := by
  unfold wX11_fact_j72 at h
  refine gR_go 1 (pc1 := 2) (L1 := [some (.ref 153), some (.int x1), some (.int w2)]) (st1 := []) (fun _ _ => rfl) ?_
  exact ih h
noncomputable def wX11_fact_h2 : Nat → Int32 → wS → Option ((wS) ⊕ ((wS) ⊕ (wS)))
  | 0, _, _ => none
  | n + 1, x1, s => if x1 = 0 then (some (.inl s)) else ((wX11_see s).bind fun (t2, s3) => (wX11_isWord 7237492 s3).bind fun (t5, s6) => if t5 = 0 then (if t2 = 91 then ((wX11_opens 91 s6).bind fun (t10, s11) => if t10 = 0 then (some (.inr (.inr s11))) else ((wpfI s11 152 12 ((s11.1 152 12) + 1)).bind fun s14 => wX11_fact_j72 (wX11_fact_h2 n) 1 s14)) else (wX11_fact_j72 (wX11_fact_h2 n) 0 s6)) else ((wX11_opens 11 s6).bind fun (t15, s16) => if t15 = 0 then (some (.inr (.inl s16))) else ((wX11_passWord s16).bind fun s20 => wX11_fact_j72 (wX11_fact_h2 n) 1 s20)))
theorem wX11_fact_t2 {x : (wS) ⊕ ((wS) ⊕ (wS))} {r : ri_R} (he75 : ∀ (s : wS) (w1 : Int32) (w2 : Option Value) , x = .inl s → gRun 7 192 75 [some (.ref 153), some (.int w1), w2] [] (wmk s) r) (he32 : ∀ (s : wS) (w1 : Int32) (w2 : Int32) , x = .inr (.inl s) → gRun 7 192 32 [some (.ref 153), some (.int w1), some (.int w2)] [] (wmk s) r) (he58 : ∀ (s : wS) (w1 : Int32) (w2 : Int32) , x = .inr (.inr s) → gRun 7 192 58 [some (.ref 153), some (.int w1), some (.int w2)] [] (wmk s) r) : ∀ {n : Nat} {x1 : Int32} {s : wS} {w2 : Option Value} , wX11_fact_h2 n x1 s = some x → gRun 7 192 2 [some (.ref 153), some (.int x1), w2] [] (wmk s) r := by
  intro n
  induction n with
  | zero => intro x1 s w2 h; cases (show (none : Option ((wS) ⊕ ((wS) ⊕ (wS)))) = some x from h)
  | succ n ih =>
    intro x1 s w2 h
    rw [wX11_fact_h2] at h
    refine gR_go 1 (pc1 := 3) (L1 := [some (.ref 153), some (.int x1), w2]) (st1 := [.int x1]) (fun _ _ => rfl) ?_
    rcases gif h with ⟨c1, h⟩ | ⟨c1, h⟩
    · refine gR_iz_eq_j rfl c1 rfl ?_
      exact he75 _ _ _ (Option.some.inj h).symm
    · refine gR_iz_eq_f rfl c1 ?_
      refine gR_go 3 (pc1 := 9) (L1 := [some (.ref 153), some (.int 0), w2]) (st1 := [.ref 153]) (fun _ _ => rfl) ?_
      obtain ⟨⟨t2, s3⟩, e4, h⟩ := gb h
      dsimp only at h
      refine gR_cvI (wX11_see_s e4) (Nat.le_of_ble_eq_true rfl) rfl rfl rfl rfl rfl ?_
      refine gR_go 3 (pc1 := 17) (L1 := [some (.ref 153), some (.int 0), some (.int t2)]) (st1 := [.long 7237492, .ref 153]) (fun _ _ => rfl) ?_
      obtain ⟨⟨t5, s6⟩, e7, h⟩ := gb h
      dsimp only at h
      refine gR_cvI (wX11_isWord_s e7) (Nat.le_of_ble_eq_true rfl) rfl rfl rfl rfl rfl ?_
      rcases gif h with ⟨c8, h⟩ | ⟨c8, h⟩
      · refine gR_iz_eq_j rfl c8 rfl ?_
        refine gR_go 2 (pc1 := 46) (L1 := [some (.ref 153), some (.int 0), some (.int t2)]) (st1 := [.int 91, .int t2]) (fun _ _ => rfl) ?_
        rcases gif h with ⟨c9, h⟩ | ⟨c9, h⟩
        · refine gR_ic_ne_f rfl c9 ?_
          refine gR_go 2 (pc1 := 52) (L1 := [some (.ref 153), some (.int 0), some (.int t2)]) (st1 := [.int 91, .ref 153]) (fun _ _ => rfl) ?_
          obtain ⟨⟨t10, s11⟩, e12, h⟩ := gb h
          dsimp only at h
          refine gR_cvI (wX11_opens_s e12) (Nat.le_of_ble_eq_true rfl) rfl rfl rfl rfl rfl ?_
          rcases gif h with ⟨c13, h⟩ | ⟨c13, h⟩
          · refine gR_iz_ne_f rfl c13 ?_
            exact he58 _ _ _ (Option.some.inj h).symm
          · refine gR_iz_ne_j rfl c13 rfl ?_
            refine gR_go 2 (pc1 := 62) (L1 := [some (.ref 153), some (.int 0), some (.int t2)]) (st1 := [.ref 153, .ref 153]) (fun _ _ => rfl) ?_
            refine gR_gfI (k := 152) rfl rfl rfl ?_
            refine gR_go 2 (pc1 := 67) (L1 := [some (.ref 153), some (.int 0), some (.int t2)]) (st1 := [.int ((s11.1 152 12) + 1), .ref 153]) (fun _ _ => rfl) ?_
            obtain ⟨s14, es14, h⟩ := gb h
            refine gR_pfI (k := 152) rfl rfl rfl rfl es14 ?_
            refine gR_go 2 (pc1 := 72) (L1 := [some (.ref 153), some (.int 1), some (.int t2)]) (st1 := []) (fun _ _ => rfl) ?_
            exact wX11_fact_u72 ih he75 he32 he58 h
        · refine gR_ic_ne_j rfl c9 rfl ?_
          exact wX11_fact_u72 ih he75 he32 he58 h
      · refine gR_iz_eq_f rfl c8 ?_
        refine gR_go 2 (pc1 := 26) (L1 := [some (.ref 153), some (.int 0), some (.int t2)]) (st1 := [.int 11, .ref 153]) (fun _ _ => rfl) ?_
        obtain ⟨⟨t15, s16⟩, e17, h⟩ := gb h
        dsimp only at h
        refine gR_cvI (wX11_opens_s e17) (Nat.le_of_ble_eq_true rfl) rfl rfl rfl rfl rfl ?_
        rcases gif h with ⟨c18, h⟩ | ⟨c18, h⟩
        · refine gR_iz_ne_f rfl c18 ?_
          exact he32 _ _ _ (Option.some.inj h).symm
        · refine gR_iz_ne_j rfl c18 rfl ?_
          refine gR_go 1 (pc1 := 35) (L1 := [some (.ref 153), some (.int 0), some (.int t2)]) (st1 := [.ref 153]) (fun _ _ => rfl) ?_
          obtain ⟨s20, e21, h⟩ := gb h
          refine gR_cvV (wX11_passWord_s e21) (Nat.le_of_ble_eq_true rfl) rfl rfl rfl rfl rfl ?_
          refine gR_go 3 (pc1 := 72) (L1 := [some (.ref 153), some (.int 1), some (.int t2)]) (st1 := []) (fun _ _ => rfl) ?_
          exact wX11_fact_u72 ih he75 he32 he58 h
noncomputable def wX11_fact (s : wS) : Option (Int32 × wS) := (wX11_fact_h2 wFuel 1 s).bind fun z22 => (match z22 with | .inl s23 => (wX11_compare s23).bind fun (t26, s27) => (wrtZ t26).bind fun t29 => some (t29, s27) | .inr (.inl s30) => some (0, s30) | .inr (.inr s33) => some (0, s33))
theorem wX11_fact_s {s : wS} {rv : Int32} {rs : wS} (h : wX11_fact s = some (rv, rs)) : gEv 8 192 [.ref 153] (wmk s) (some (.int rv), wmk rs, 0, 0) := by
  refine gEv_of (d := 7) (L := [some (.ref 153), none, none]) rfl ?_
  unfold wX11_fact at h
  refine gR_go 2 (pc1 := 2) (L1 := [some (.ref 153), some (.int 1), none]) (st1 := []) (fun _ _ => rfl) ?_
  obtain ⟨z22, ez22, h⟩ := gb h
  refine wX11_fact_t2 ?_ ?_ ?_  ez22
  · intro s23 w24 w25 hz
    replace hz := hz.symm
    subst hz
    dsimp only at h
    refine gR_go 1 (pc1 := 76) (L1 := [some (.ref 153), some (.int w24), w25]) (st1 := [.ref 153]) (fun _ _ => rfl) ?_
    obtain ⟨⟨t26, s27⟩, e28, h⟩ := gb h
    dsimp only at h
    refine gR_cvI (wX11_compare_s e28) (Nat.le_of_ble_eq_true rfl) rfl rfl rfl rfl rfl ?_
    obtain ⟨t29, et29, h⟩ := gb h
    obtain ⟨rfl, rfl⟩ := gi2 h
    exact gR_rz rfl rfl et29
  · intro s30 w31 w32 hz
    replace hz := hz.symm
    subst hz
    dsimp only at h
    refine gR_go 1 (pc1 := 33) (L1 := [some (.ref 153), some (.int w31), some (.int w32)]) (st1 := [.int 0]) (fun _ _ => rfl) ?_
    obtain ⟨rfl, rfl⟩ := gi2 h
    exact gR_rzc rfl rfl rfl
  · intro s33 w34 w35 hz
    replace hz := hz.symm
    subst hz
    dsimp only at h
    refine gR_go 1 (pc1 := 59) (L1 := [some (.ref 153), some (.int w34), some (.int w35)]) (st1 := [.int 0]) (fun _ _ => rfl) ?_
    obtain ⟨rfl, rfl⟩ := gi2 h
    exact gR_rzc rfl rfl rfl
noncomputable def wX11_isInside_h2 (s : wS) : Nat → Int32 → Option ((Unit) ⊕ (Unit))
  | 0, _ => none
  | n + 1, x1 => if x1 < (s.1 152 20) then ((wldI s 160 400 x1).bind fun t2 => if t2 = 91 then (some (.inr ())) else (wX11_isInside_h2 s n (x1 + 1))) else (some (.inl ()))
theorem wX11_isInside_t2 {s : wS} {x : (Unit) ⊕ (Unit)} {r : ri_R} (he29 : ∀ (w1 : Int32) , x = .inl () → gRun 0 193 29 [some (.ref 153), some (.int w1)] [] (wmk s) r) (he21 : ∀ (w1 : Int32) , x = .inr () → gRun 0 193 21 [some (.ref 153), some (.int w1)] [] (wmk s) r) : ∀ {n : Nat} {x1 : Int32} , wX11_isInside_h2 s n x1 = some x → gRun 0 193 2 [some (.ref 153), some (.int x1)] [] (wmk s) r := by
  intro n
  induction n with
  | zero => intro x1 h; cases (show (none : Option ((Unit) ⊕ (Unit))) = some x from h)
  | succ n ih =>
    intro x1 h
    rw [wX11_isInside_h2] at h
    refine gR_go 2 (pc1 := 4) (L1 := [some (.ref 153), some (.int x1)]) (st1 := [.ref 153, .int x1]) (fun _ _ => rfl) ?_
    refine gR_gfI (k := 152) rfl rfl rfl ?_
    rcases gif h with ⟨c1, h⟩ | ⟨c1, h⟩
    · refine gR_ic_ge_f rfl c1 ?_
      refine gR_go 1 (pc1 := 11) (L1 := [some (.ref 153), some (.int x1)]) (st1 := [.ref 153]) (fun _ _ => rfl) ?_
      refine gR_gfR (k := 152) (k' := 160) rfl rfl rfl rfl ?_
      refine gR_go 1 (pc1 := 15) (L1 := [some (.ref 153), some (.int x1)]) (st1 := [.int x1, .ref 161]) (fun _ _ => rfl) ?_
      obtain ⟨t2, et2, h⟩ := gb h
      refine gR_ial (k := 160) rfl rfl rfl et2 ?_
      refine gR_go 1 (pc1 := 18) (L1 := [some (.ref 153), some (.int x1)]) (st1 := [.int 91, .int t2]) (fun _ _ => rfl) ?_
      rcases gif h with ⟨c3, h⟩ | ⟨c3, h⟩
      · refine gR_ic_ne_f rfl c3 ?_
        exact he21 _ (Option.some.inj h).symm
      · refine gR_ic_ne_j rfl c3 rfl ?_
        refine gR_go 2 (pc1 := 2) (L1 := [some (.ref 153), some (.int (x1 + 1))]) (st1 := []) (fun _ _ => rfl) ?_
        exact ih h
    · refine gR_ic_ge_j rfl c1 rfl ?_
      exact he29 _ (Option.some.inj h).symm
noncomputable def wX11_isInside (s : wS) : Option (Int32) := (wX11_isInside_h2 s wFuel 0).bind fun z4 => (match z4 with | .inl () => some 0 | .inr () => some 1)
theorem wX11_isInside_s {s : wS} {rv : Int32} (h : wX11_isInside s = some rv) : gEv 1 193 [.ref 153] (wmk s) (some (.int rv), wmk s, 0, 0) := by
  refine gEv_of (d := 0) (L := [some (.ref 153), none]) rfl ?_
  unfold wX11_isInside at h
  refine gR_go 2 (pc1 := 2) (L1 := [some (.ref 153), some (.int 0)]) (st1 := []) (fun _ _ => rfl) ?_
  obtain ⟨z4, ez4, h⟩ := gb h
  refine wX11_isInside_t2 ?_ ?_  ez4
  · intro w5 hz
    replace hz := hz.symm
    subst hz
    dsimp only at h
    refine gR_go 1 (pc1 := 30) (L1 := [some (.ref 153), some (.int w5)]) (st1 := [.int 0]) (fun _ _ => rfl) ?_
    obtain rfl := gi1 h
    exact gR_rzc rfl rfl rfl
  · intro w6 hz
    replace hz := hz.symm
    subst hz
    dsimp only at h
    refine gR_go 1 (pc1 := 22) (L1 := [some (.ref 153), some (.int w6)]) (st1 := [.int 1]) (fun _ _ => rfl) ?_
    obtain rfl := gi1 h
    exact gR_rzc rfl rfl rfl
noncomputable def wX11_closes_h5 : Nat → wS → Option (wS)
  | 0, _ => none
  | n + 1, s => (wX11_see s).bind fun (t4, s5) => if t4 = 93 then ((wX11_isInside s5).bind fun t8 => if t8 = 0 then (some s5) else ((wX11_settles 1 s5).bind fun s12 => (wpfI s12 152 20 ((s12.1 152 20) - 1)).bind fun s14 => (wpfI s14 152 17 ((s14.1 152 17) - 1)).bind fun s15 => (wpfI s15 152 12 ((s15.1 152 12) + 1)).bind fun s16 => (wX11_settles 3 s16).bind fun s18 => wX11_closes_h5 n s18)) else (some s5)
theorem wX11_closes_t5 {x : wS} {r : ri_R} (he64 : ∀ (s : wS) , x = s → gRun 2 194 64 [some (.ref 153)] [] (wmk s) r) : ∀ {n : Nat} {s : wS} , wX11_closes_h5 n s = some x → gRun 2 194 5 [some (.ref 153)] [] (wmk s) r := by
  intro n
  induction n with
  | zero => intro s h; cases (show (none : Option (wS)) = some x from h)
  | succ n ih =>
    intro s h
    rw [wX11_closes_h5] at h
    refine gR_go 1 (pc1 := 6) (L1 := [some (.ref 153)]) (st1 := [.ref 153]) (fun _ _ => rfl) ?_
    obtain ⟨⟨t4, s5⟩, e6, h⟩ := gb h
    dsimp only at h
    refine gR_cvI (wX11_see_s e6) (Nat.le_of_ble_eq_true rfl) rfl rfl rfl rfl rfl ?_
    refine gR_go 1 (pc1 := 11) (L1 := [some (.ref 153)]) (st1 := [.int 93, .int t4]) (fun _ _ => rfl) ?_
    rcases gif h with ⟨c7, h⟩ | ⟨c7, h⟩
    · refine gR_ic_ne_f rfl c7 ?_
      refine gR_go 1 (pc1 := 15) (L1 := [some (.ref 153)]) (st1 := [.ref 153]) (fun _ _ => rfl) ?_
      obtain ⟨t8, e9, h⟩ := gb h
      refine gR_cvI (wX11_isInside_s e9) (Nat.le_of_ble_eq_true rfl) rfl rfl rfl rfl rfl ?_
      rcases gif h with ⟨c10, h⟩ | ⟨c10, h⟩
      · refine gR_iz_eq_j rfl c10 rfl ?_
        exact he64 _ (Option.some.inj h).symm
      · refine gR_iz_eq_f rfl c10 ?_
        refine gR_go 2 (pc1 := 23) (L1 := [some (.ref 153)]) (st1 := [.int 1, .ref 153]) (fun _ _ => rfl) ?_
        obtain ⟨s12, e13, h⟩ := gb h
        refine gR_cvV (wX11_settles_s e13) (Nat.le_of_ble_eq_true rfl) rfl rfl rfl rfl rfl ?_
        refine gR_go 2 (pc1 := 28) (L1 := [some (.ref 153)]) (st1 := [.ref 153, .ref 153]) (fun _ _ => rfl) ?_
        refine gR_gfI (k := 152) rfl rfl rfl ?_
        refine gR_go 2 (pc1 := 33) (L1 := [some (.ref 153)]) (st1 := [.int ((s12.1 152 20) - 1), .ref 153]) (fun _ _ => rfl) ?_
        obtain ⟨s14, es14, h⟩ := gb h
        refine gR_pfI (k := 152) rfl rfl rfl rfl es14 ?_
        refine gR_go 2 (pc1 := 38) (L1 := [some (.ref 153)]) (st1 := [.ref 153, .ref 153]) (fun _ _ => rfl) ?_
        refine gR_gfI (k := 152) rfl rfl rfl ?_
        refine gR_go 2 (pc1 := 43) (L1 := [some (.ref 153)]) (st1 := [.int ((s14.1 152 17) - 1), .ref 153]) (fun _ _ => rfl) ?_
        obtain ⟨s15, es15, h⟩ := gb h
        refine gR_pfI (k := 152) rfl rfl rfl rfl es15 ?_
        refine gR_go 2 (pc1 := 48) (L1 := [some (.ref 153)]) (st1 := [.ref 153, .ref 153]) (fun _ _ => rfl) ?_
        refine gR_gfI (k := 152) rfl rfl rfl ?_
        refine gR_go 2 (pc1 := 53) (L1 := [some (.ref 153)]) (st1 := [.int ((s15.1 152 12) + 1), .ref 153]) (fun _ _ => rfl) ?_
        obtain ⟨s16, es16, h⟩ := gb h
        refine gR_pfI (k := 152) rfl rfl rfl rfl es16 ?_
        refine gR_go 2 (pc1 := 58) (L1 := [some (.ref 153)]) (st1 := [.int 3, .ref 153]) (fun _ _ => rfl) ?_
        obtain ⟨s18, e19, h⟩ := gb h
        refine gR_cvV (wX11_settles_s e19) (Nat.le_of_ble_eq_true rfl) rfl rfl rfl rfl rfl ?_
        refine gR_go 1 (pc1 := 5) (L1 := [some (.ref 153)]) (st1 := []) (fun _ _ => rfl) ?_
        exact ih h
    · refine gR_ic_ne_j rfl c7 rfl ?_
      exact he64 _ (Option.some.inj h).symm
noncomputable def wX11_closes (s : wS) : Option (wS) := (wX11_settles 3 s).bind fun s2 => (wX11_closes_h5 wFuel s2).bind fun s21 => some s21
theorem wX11_closes_s {s : wS} {rs : wS} (h : wX11_closes s = some rs) : gEv 3 194 [.ref 153] (wmk s) (none, wmk rs, 0, 0) := by
  refine gEv_of (d := 2) (L := [some (.ref 153)]) rfl ?_
  unfold wX11_closes at h
  refine gR_go 2 (pc1 := 2) (L1 := [some (.ref 153)]) (st1 := [.int 3, .ref 153]) (fun _ _ => rfl) ?_
  obtain ⟨s2, e3, h⟩ := gb h
  refine gR_cvV (wX11_settles_s e3) (Nat.le_of_ble_eq_true rfl) rfl rfl rfl rfl rfl ?_
  obtain ⟨z20, ez20, h⟩ := gb h
  refine wX11_closes_t5 ?_  ez20
  · intro s21 hz
    replace hz := hz.symm
    subst hz
    obtain rfl := gi1 h
    exact gR_rv rfl rfl
noncomputable def wX11_tested_j76 (qq : Int32 → wS → Option ((wS) ⊕ (wS))) (x1 : Int32) (y0 : Int32) (s : wS) : Option ((wS) ⊕ (wS)) := (wX11_passWord s).bind fun s25 => (wX11_strength y0 s25).bind fun t27 => (wX11_settles t27 s25).bind fun s30 => (wstI s30 160 400 (s30.1 152 20) y0).bind fun s32 => (wpfI s32 152 20 ((s32.1 152 20) + 1)).bind fun s33 => qq x1 s33
theorem wX11_tested_u76 {x1 : Int32} {y0 : Int32} {s : wS} {w2 : Option Value} {qq : Int32 → wS → Option ((wS) ⊕ (wS))} {x : (wS) ⊕ (wS)} {r : ri_R} (ih : ∀ {x1 : Int32} {s : wS} {w2 : Option Value} , qq x1 s = some x → gRun 8 195 12 [some (.ref 153), some (.int x1), w2] [] (wmk s) r) (he112 : ∀ (s : wS) (w1 : Int32) (w2 : Option Value) , x = .inl s → gRun 8 195 112 [some (.ref 153), some (.int w1), w2] [] (wmk s) r) (he23 : ∀ (s : wS) (w1 : Int32) (w2 : Option Value) , x = .inr s → gRun 8 195 23 [some (.ref 153), some (.int w1), w2] [] (wmk s) r) (h : wX11_tested_j76 qq x1 y0 s = some x) : gRun 8 195 76 [some (.ref 153), some (.int x1), w2] [.int y0] (wmk s) r := by
  unfold wX11_tested_j76 at h
  refine gR_go 2 (pc1 := 78) (L1 := [some (.ref 153), some (.int x1), some (.int y0)]) (st1 := [.ref 153]) (fun _ _ => rfl) ?_
  obtain ⟨s25, e26, h⟩ := gb h
  refine gR_cvV (wX11_passWord_s e26) (Nat.le_of_ble_eq_true rfl) rfl rfl rfl rfl rfl ?_
  refine gR_go 2 (pc1 := 83) (L1 := [some (.ref 153), some (.int x1), some (.int y0)]) (st1 := [.int y0, .ref 153]) (fun _ _ => rfl) ?_
  obtain ⟨t27, e28, h⟩ := gb h
  refine gR_csI (wX11_strength_s e28) (Nat.le_of_ble_eq_true rfl) rfl rfl rfl rfl ?_
  obtain ⟨s30, e31, h⟩ := gb h
  refine gR_cvV (wX11_settles_s e31) (Nat.le_of_ble_eq_true rfl) rfl rfl rfl rfl rfl ?_
  refine gR_go 1 (pc1 := 90) (L1 := [some (.ref 153), some (.int x1), some (.int y0)]) (st1 := [.ref 153]) (fun _ _ => rfl) ?_
  refine gR_gfR (k := 152) (k' := 160) rfl rfl rfl rfl ?_
  refine gR_go 1 (pc1 := 94) (L1 := [some (.ref 153), some (.int x1), some (.int y0)]) (st1 := [.ref 153, .ref 161]) (fun _ _ => rfl) ?_
  refine gR_gfI (k := 152) rfl rfl rfl ?_
  refine gR_go 1 (pc1 := 98) (L1 := [some (.ref 153), some (.int x1), some (.int y0)]) (st1 := [.int y0, .int (s30.1 152 20), .ref 161]) (fun _ _ => rfl) ?_
  obtain ⟨s32, es32, h⟩ := gb h
  refine gR_ias (k := 160) rfl rfl rfl es32 ?_
  refine gR_go 2 (pc1 := 101) (L1 := [some (.ref 153), some (.int x1), some (.int y0)]) (st1 := [.ref 153, .ref 153]) (fun _ _ => rfl) ?_
  refine gR_gfI (k := 152) rfl rfl rfl ?_
  refine gR_go 2 (pc1 := 106) (L1 := [some (.ref 153), some (.int x1), some (.int y0)]) (st1 := [.int ((s32.1 152 20) + 1), .ref 153]) (fun _ _ => rfl) ?_
  obtain ⟨s33, es33, h⟩ := gb h
  refine gR_pfI (k := 152) rfl rfl rfl rfl es33 ?_
  refine gR_go 1 (pc1 := 12) (L1 := [some (.ref 153), some (.int x1), some (.int y0)]) (st1 := []) (fun _ _ => rfl) ?_
  exact ih h
noncomputable def wX11_tested_j54 (qq : Int32 → wS → Option ((wS) ⊕ (wS))) (y0 : Int32) (s : wS) : Option ((wS) ⊕ (wS)) := if y0 = 0 then (qq y0 s) else ((wX11_isWord 6385252 s).bind fun (t20, s21) => if t20 = 0 then (wX11_tested_j76 qq y0 13 s21) else (wX11_tested_j76 qq y0 12 s21))
theorem wX11_tested_u54 {y0 : Int32} {s : wS} {w1 : Int32} {w2 : Option Value} {qq : Int32 → wS → Option ((wS) ⊕ (wS))} {x : (wS) ⊕ (wS)} {r : ri_R} (ih : ∀ {x1 : Int32} {s : wS} {w2 : Option Value} , qq x1 s = some x → gRun 8 195 12 [some (.ref 153), some (.int x1), w2] [] (wmk s) r) (he112 : ∀ (s : wS) (w1 : Int32) (w2 : Option Value) , x = .inl s → gRun 8 195 112 [some (.ref 153), some (.int w1), w2] [] (wmk s) r) (he23 : ∀ (s : wS) (w1 : Int32) (w2 : Option Value) , x = .inr s → gRun 8 195 23 [some (.ref 153), some (.int w1), w2] [] (wmk s) r) (h : wX11_tested_j54 qq y0 s = some x) : gRun 8 195 54 [some (.ref 153), some (.int w1), w2] [.int y0] (wmk s) r := by
  unfold wX11_tested_j54 at h
  refine gR_go 2 (pc1 := 56) (L1 := [some (.ref 153), some (.int y0), w2]) (st1 := [.int y0]) (fun _ _ => rfl) ?_
  rcases gif h with ⟨c19, h⟩ | ⟨c19, h⟩
  · refine gR_iz_eq_j rfl c19 rfl ?_
    exact ih h
  · refine gR_iz_eq_f rfl c19 ?_
    refine gR_go 2 (pc1 := 63) (L1 := [some (.ref 153), some (.int y0), w2]) (st1 := [.long 6385252, .ref 153]) (fun _ _ => rfl) ?_
    obtain ⟨⟨t20, s21⟩, e22, h⟩ := gb h
    dsimp only at h
    refine gR_cvI (wX11_isWord_s e22) (Nat.le_of_ble_eq_true rfl) rfl rfl rfl rfl rfl ?_
    rcases gif h with ⟨c23, h⟩ | ⟨c23, h⟩
    · refine gR_iz_eq_j rfl c23 rfl ?_
      refine gR_go 1 (pc1 := 76) (L1 := [some (.ref 153), some (.int y0), w2]) (st1 := [.int 13]) (fun _ _ => rfl) ?_
      exact wX11_tested_u76 ih he112 he23 h
    · refine gR_iz_eq_f rfl c23 ?_
      refine gR_go 2 (pc1 := 76) (L1 := [some (.ref 153), some (.int y0), w2]) (st1 := [.int 12]) (fun _ _ => rfl) ?_
      exact wX11_tested_u76 ih he112 he23 h
noncomputable def wX11_tested_j49 (qq : Int32 → wS → Option ((wS) ⊕ (wS))) (s : wS) : Option ((wS) ⊕ (wS)) := wX11_tested_j54 qq 1 s
theorem wX11_tested_u49 {s : wS} {w1 : Int32} {w2 : Option Value} {qq : Int32 → wS → Option ((wS) ⊕ (wS))} {x : (wS) ⊕ (wS)} {r : ri_R} (ih : ∀ {x1 : Int32} {s : wS} {w2 : Option Value} , qq x1 s = some x → gRun 8 195 12 [some (.ref 153), some (.int x1), w2] [] (wmk s) r) (he112 : ∀ (s : wS) (w1 : Int32) (w2 : Option Value) , x = .inl s → gRun 8 195 112 [some (.ref 153), some (.int w1), w2] [] (wmk s) r) (he23 : ∀ (s : wS) (w1 : Int32) (w2 : Option Value) , x = .inr s → gRun 8 195 23 [some (.ref 153), some (.int w1), w2] [] (wmk s) r) (h : wX11_tested_j49 qq s = some x) : gRun 8 195 49 [some (.ref 153), some (.int w1), w2] [] (wmk s) r := by
  unfold wX11_tested_j49 at h
  refine gR_go 2 (pc1 := 54) (L1 := [some (.ref 153), some (.int w1), w2]) (st1 := [.int 1]) (fun _ _ => rfl) ?_
  exact wX11_tested_u54 ih he112 he23 h
noncomputable def wX11_tested_h12 : Nat → Int32 → wS → Option ((wS) ⊕ (wS))
  | 0, _, _ => none
  | n + 1, x1, s => if x1 = 0 then (some (.inl s)) else ((wX11_fact s).bind fun (t4, s5) => if t4 = 0 then (some (.inr s5)) else ((wX11_closes s5).bind fun s9 => (wX11_isWord 6385252 s9).bind fun (t11, s12) => if t11 = 0 then ((wX11_isWord 28530 s12).bind fun (t15, s16) => if t15 = 0 then (wX11_tested_j54 (wX11_tested_h12 n) 0 s16) else (wX11_tested_j49 (wX11_tested_h12 n) s16)) else (wX11_tested_j49 (wX11_tested_h12 n) s12)))
theorem wX11_tested_t12 {x : (wS) ⊕ (wS)} {r : ri_R} (he112 : ∀ (s : wS) (w1 : Int32) (w2 : Option Value) , x = .inl s → gRun 8 195 112 [some (.ref 153), some (.int w1), w2] [] (wmk s) r) (he23 : ∀ (s : wS) (w1 : Int32) (w2 : Option Value) , x = .inr s → gRun 8 195 23 [some (.ref 153), some (.int w1), w2] [] (wmk s) r) : ∀ {n : Nat} {x1 : Int32} {s : wS} {w2 : Option Value} , wX11_tested_h12 n x1 s = some x → gRun 8 195 12 [some (.ref 153), some (.int x1), w2] [] (wmk s) r := by
  intro n
  induction n with
  | zero => intro x1 s w2 h; cases (show (none : Option ((wS) ⊕ (wS))) = some x from h)
  | succ n ih =>
    intro x1 s w2 h
    rw [wX11_tested_h12] at h
    refine gR_go 1 (pc1 := 13) (L1 := [some (.ref 153), some (.int x1), w2]) (st1 := [.int x1]) (fun _ _ => rfl) ?_
    rcases gif h with ⟨c3, h⟩ | ⟨c3, h⟩
    · refine gR_iz_eq_j rfl c3 rfl ?_
      exact he112 _ _ _ (Option.some.inj h).symm
    · refine gR_iz_eq_f rfl c3 ?_
      refine gR_go 1 (pc1 := 17) (L1 := [some (.ref 153), some (.int x1), w2]) (st1 := [.ref 153]) (fun _ _ => rfl) ?_
      obtain ⟨⟨t4, s5⟩, e6, h⟩ := gb h
      dsimp only at h
      refine gR_cvI (wX11_fact_s e6) (Nat.le_of_ble_eq_true rfl) rfl rfl rfl rfl rfl ?_
      rcases gif h with ⟨c7, h⟩ | ⟨c7, h⟩
      · refine gR_iz_ne_f rfl c7 ?_
        exact he23 _ _ _ (Option.some.inj h).symm
      · refine gR_iz_ne_j rfl c7 rfl ?_
        refine gR_go 1 (pc1 := 26) (L1 := [some (.ref 153), some (.int x1), w2]) (st1 := [.ref 153]) (fun _ _ => rfl) ?_
        obtain ⟨s9, e10, h⟩ := gb h
        refine gR_cvV (wX11_closes_s e10) (Nat.le_of_ble_eq_true rfl) rfl rfl rfl rfl rfl ?_
        refine gR_go 2 (pc1 := 33) (L1 := [some (.ref 153), some (.int x1), w2]) (st1 := [.long 6385252, .ref 153]) (fun _ _ => rfl) ?_
        obtain ⟨⟨t11, s12⟩, e13, h⟩ := gb h
        dsimp only at h
        refine gR_cvI (wX11_isWord_s e13) (Nat.le_of_ble_eq_true rfl) rfl rfl rfl rfl rfl ?_
        rcases gif h with ⟨c14, h⟩ | ⟨c14, h⟩
        · refine gR_iz_ne_f rfl c14 ?_
          refine gR_go 2 (pc1 := 43) (L1 := [some (.ref 153), some (.int x1), w2]) (st1 := [.long 28530, .ref 153]) (fun _ _ => rfl) ?_
          obtain ⟨⟨t15, s16⟩, e17, h⟩ := gb h
          dsimp only at h
          refine gR_cvI (wX11_isWord_s e17) (Nat.le_of_ble_eq_true rfl) rfl rfl rfl rfl rfl ?_
          rcases gif h with ⟨c18, h⟩ | ⟨c18, h⟩
          · refine gR_iz_eq_j rfl c18 rfl ?_
            refine gR_go 1 (pc1 := 54) (L1 := [some (.ref 153), some (.int x1), w2]) (st1 := [.int 0]) (fun _ _ => rfl) ?_
            exact wX11_tested_u54 ih he112 he23 h
          · refine gR_iz_eq_f rfl c18 ?_
            exact wX11_tested_u49 ih he112 he23 h
        · refine gR_iz_ne_j rfl c14 rfl ?_
          exact wX11_tested_u49 ih he112 he23 h
noncomputable def wX11_tested (s : wS) : Option (Int32 × wS) := (wpfI s 152 20 0).bind fun s1 => (wpfI s1 152 17 0).bind fun s2 => (wX11_tested_h12 wFuel 1 s2).bind fun z34 => (match z34 with | .inl s35 => (wX11_isInside s35).bind fun t38 => if t38 = 0 then ((wX11_settles 1 s35).bind fun s42 => some (1, s42)) else ((wX11_see s35).bind fun (t44, s45) => (wX11_fails 0 (s45.1 152 12) s45).bind fun (t47, s48) => (wrtZ t47).bind fun t50 => some (t50, s48)) | .inr s51 => some (0, s51))
theorem wX11_tested_s {s : wS} {rv : Int32} {rs : wS} (h : wX11_tested s = some (rv, rs)) : gEv 9 195 [.ref 153] (wmk s) (some (.int rv), wmk rs, 0, 0) := by
  refine gEv_of (d := 8) (L := [some (.ref 153), none, none]) rfl ?_
  unfold wX11_tested at h
  refine gR_go 2 (pc1 := 2) (L1 := [some (.ref 153), none, none]) (st1 := [.int 0, .ref 153]) (fun _ _ => rfl) ?_
  obtain ⟨s1, es1, h⟩ := gb h
  refine gR_pfI (k := 152) rfl rfl rfl rfl es1 ?_
  refine gR_go 2 (pc1 := 7) (L1 := [some (.ref 153), none, none]) (st1 := [.int 0, .ref 153]) (fun _ _ => rfl) ?_
  obtain ⟨s2, es2, h⟩ := gb h
  refine gR_pfI (k := 152) rfl rfl rfl rfl es2 ?_
  refine gR_go 2 (pc1 := 12) (L1 := [some (.ref 153), some (.int 1), none]) (st1 := []) (fun _ _ => rfl) ?_
  obtain ⟨z34, ez34, h⟩ := gb h
  refine wX11_tested_t12 ?_ ?_  ez34
  · intro s35 w36 w37 hz
    replace hz := hz.symm
    subst hz
    dsimp only at h
    refine gR_go 1 (pc1 := 113) (L1 := [some (.ref 153), some (.int w36), w37]) (st1 := [.ref 153]) (fun _ _ => rfl) ?_
    obtain ⟨t38, e39, h⟩ := gb h
    refine gR_cvI (wX11_isInside_s e39) (Nat.le_of_ble_eq_true rfl) rfl rfl rfl rfl rfl ?_
    rcases gif h with ⟨c40, h⟩ | ⟨c40, h⟩
    · refine gR_iz_eq_j rfl c40 rfl ?_
      refine gR_go 2 (pc1 := 136) (L1 := [some (.ref 153), some (.int w36), w37]) (st1 := [.int 1, .ref 153]) (fun _ _ => rfl) ?_
      obtain ⟨s42, e43, h⟩ := gb h
      refine gR_cvV (wX11_settles_s e43) (Nat.le_of_ble_eq_true rfl) rfl rfl rfl rfl rfl ?_
      refine gR_go 1 (pc1 := 140) (L1 := [some (.ref 153), some (.int w36), w37]) (st1 := [.int 1]) (fun _ _ => rfl) ?_
      obtain ⟨rfl, rfl⟩ := gi2 h
      exact gR_rzc rfl rfl rfl
    · refine gR_iz_eq_f rfl c40 ?_
      refine gR_go 1 (pc1 := 120) (L1 := [some (.ref 153), some (.int w36), w37]) (st1 := [.ref 153]) (fun _ _ => rfl) ?_
      obtain ⟨⟨t44, s45⟩, e46, h⟩ := gb h
      dsimp only at h
      refine gR_cvI (wX11_see_s e46) (Nat.le_of_ble_eq_true rfl) rfl rfl rfl rfl rfl ?_
      refine gR_go 4 (pc1 := 127) (L1 := [some (.ref 153), some (.int w36), w37]) (st1 := [.ref 153, .int 0, .ref 153]) (fun _ _ => rfl) ?_
      refine gR_gfI (k := 152) rfl rfl rfl ?_
      obtain ⟨⟨t47, s48⟩, e49, h⟩ := gb h
      dsimp only at h
      refine gR_cvI (wX11_fails_s e49) (Nat.le_of_ble_eq_true rfl) rfl rfl rfl rfl rfl ?_
      obtain ⟨t50, et50, h⟩ := gb h
      obtain ⟨rfl, rfl⟩ := gi2 h
      exact gR_rz rfl rfl et50
  · intro s51 w52 w53 hz
    replace hz := hz.symm
    subst hz
    dsimp only at h
    refine gR_go 1 (pc1 := 24) (L1 := [some (.ref 153), some (.int w52), w53]) (st1 := [.int 0]) (fun _ _ => rfl) ?_
    obtain ⟨rfl, rfl⟩ := gi2 h
    exact gR_rzc rfl rfl rfl
noncomputable def wX11_clauseOf_j119 (x2 : Int32) (s : wS) : Option (Int32 × wS) := (wldI s 155 7 (s.1 152 15)).bind fun t19 => (wstI s 156 360 (x2 + 4) t19).bind fun s20 => (wldI s20 157 6 (s20.1 152 15)).bind fun t21 => (wstI s20 157 6 (s20.1 152 15) (t21 + 1)).bind fun s22 => some (1, s22)
theorem wX11_clauseOf_u119 {x2 : Int32} {s : wS} {w1 : Int32} {rv : Int32} {rs : wS} (h : wX11_clauseOf_j119 x2 s = some (rv, rs)) : gRun 9 196 119 [some (.ref 153), some (.int w1), some (.int x2)] [] (wmk s) (some (.int rv), wmk rs, 0, 0) := by
  unfold wX11_clauseOf_j119 at h
  refine gR_go 1 (pc1 := 120) (L1 := [some (.ref 153), some (.int w1), some (.int x2)]) (st1 := [.ref 153]) (fun _ _ => rfl) ?_
  refine gR_gfR (k := 152) (k' := 156) rfl rfl rfl rfl ?_
  refine gR_go 4 (pc1 := 127) (L1 := [some (.ref 153), some (.int w1), some (.int x2)]) (st1 := [.ref 153, .int (x2 + 4), .ref 157]) (fun _ _ => rfl) ?_
  refine gR_gfR (k := 152) (k' := 155) rfl rfl rfl rfl ?_
  refine gR_go 1 (pc1 := 131) (L1 := [some (.ref 153), some (.int w1), some (.int x2)]) (st1 := [.ref 153, .ref 156, .int (x2 + 4), .ref 157]) (fun _ _ => rfl) ?_
  refine gR_gfI (k := 152) rfl rfl rfl ?_
  obtain ⟨t19, et19, h⟩ := gb h
  refine gR_ial (k := 155) rfl rfl rfl et19 ?_
  obtain ⟨s20, es20, h⟩ := gb h
  refine gR_ias (k := 156) rfl rfl rfl es20 ?_
  refine gR_go 1 (pc1 := 137) (L1 := [some (.ref 153), some (.int w1), some (.int x2)]) (st1 := [.ref 153]) (fun _ _ => rfl) ?_
  refine gR_gfR (k := 152) (k' := 157) rfl rfl rfl rfl ?_
  refine gR_go 1 (pc1 := 141) (L1 := [some (.ref 153), some (.int w1), some (.int x2)]) (st1 := [.ref 153, .ref 158]) (fun _ _ => rfl) ?_
  refine gR_gfI (k := 152) rfl rfl rfl ?_
  refine gR_go 1 (pc1 := 145) (L1 := [some (.ref 153), some (.int w1), some (.int x2)]) (st1 := [.int (s20.1 152 15), .ref 158, .int (s20.1 152 15), .ref 158]) (fun _ _ => rfl) ?_
  obtain ⟨t21, et21, h⟩ := gb h
  refine gR_ial (k := 157) rfl rfl rfl et21 ?_
  refine gR_go 2 (pc1 := 148) (L1 := [some (.ref 153), some (.int w1), some (.int x2)]) (st1 := [.int (t21 + 1), .int (s20.1 152 15), .ref 158]) (fun _ _ => rfl) ?_
  obtain ⟨s22, es22, h⟩ := gb h
  refine gR_ias (k := 157) rfl rfl rfl es22 ?_
  refine gR_go 1 (pc1 := 150) (L1 := [some (.ref 153), some (.int w1), some (.int x2)]) (st1 := [.int 1]) (fun _ _ => rfl) ?_
  obtain ⟨rfl, rfl⟩ := gi2 h
  exact gR_rzc rfl rfl rfl
noncomputable def wX11_clauseOf (x1 : Int32) (s : wS) : Option (Int32 × wS) := (wX11_passWord s).bind fun s2 => (wldI s2 157 6 (s2.1 152 15)).bind fun t4 => (wstI s2 156 360 ((60 * (s2.1 152 15)) + (5 * t4)) x1).bind fun s5 => (wldI s5 155 7 (s5.1 152 15)).bind fun t6 => (wstI s5 156 360 (((60 * (s2.1 152 15)) + (5 * t4)) + 1) t6).bind fun s7 => (wX11_sum s7).bind fun (t8, s9) => if t8 = 0 then (some (0, s9)) else ((wldI s9 155 7 (s9.1 152 15)).bind fun t12 => (wstI s9 156 360 (((60 * (s2.1 152 15)) + (5 * t4)) + 2) t12).bind fun s13 => (wstI s13 156 360 (((60 * (s2.1 152 15)) + (5 * t4)) + 3) (-1)).bind fun s14 => (wX11_takesWord 26982 s14).bind fun (t15, s16) => if t15 = 0 then (wX11_clauseOf_j119 ((60 * (s2.1 152 15)) + (5 * t4)) s16) else ((wldI s16 155 7 (s16.1 152 15)).bind fun t23 => (wstI s16 156 360 (((60 * (s2.1 152 15)) + (5 * t4)) + 3) t23).bind fun s24 => (wX11_tested s24).bind fun (t25, s26) => if t25 = 0 then (some (0, s26)) else (wX11_clauseOf_j119 ((60 * (s2.1 152 15)) + (5 * t4)) s26)))
theorem wX11_clauseOf_s {x1 : Int32} {s : wS} {rv : Int32} {rs : wS} (h : wX11_clauseOf x1 s = some (rv, rs)) : gEv 10 196 [.ref 153, .int x1] (wmk s) (some (.int rv), wmk rs, 0, 0) := by
  refine gEv_of (d := 9) (L := [some (.ref 153), some (.int x1), none]) rfl ?_
  unfold wX11_clauseOf at h
  refine gR_go 1 (pc1 := 1) (L1 := [some (.ref 153), some (.int x1), none]) (st1 := [.ref 153]) (fun _ _ => rfl) ?_
  obtain ⟨s2, e3, h⟩ := gb h
  refine gR_cvV (wX11_passWord_s e3) (Nat.le_of_ble_eq_true rfl) rfl rfl rfl rfl rfl ?_
  refine gR_go 2 (pc1 := 7) (L1 := [some (.ref 153), some (.int x1), none]) (st1 := [.ref 153, .int 60]) (fun _ _ => rfl) ?_
  refine gR_gfI (k := 152) rfl rfl rfl ?_
  refine gR_go 3 (pc1 := 13) (L1 := [some (.ref 153), some (.int x1), none]) (st1 := [.ref 153, .int 5, .int (60 * (s2.1 152 15))]) (fun _ _ => rfl) ?_
  refine gR_gfR (k := 152) (k' := 157) rfl rfl rfl rfl ?_
  refine gR_go 1 (pc1 := 17) (L1 := [some (.ref 153), some (.int x1), none]) (st1 := [.ref 153, .ref 158, .int 5, .int (60 * (s2.1 152 15))]) (fun _ _ => rfl) ?_
  refine gR_gfI (k := 152) rfl rfl rfl ?_
  obtain ⟨t4, et4, h⟩ := gb h
  refine gR_ial (k := 157) rfl rfl rfl et4 ?_
  refine gR_go 4 (pc1 := 25) (L1 := [some (.ref 153), some (.int x1), some (.int ((60 * (s2.1 152 15)) + (5 * t4)))]) (st1 := [.ref 153]) (fun _ _ => rfl) ?_
  refine gR_gfR (k := 152) (k' := 156) rfl rfl rfl rfl ?_
  refine gR_go 2 (pc1 := 30) (L1 := [some (.ref 153), some (.int x1), some (.int ((60 * (s2.1 152 15)) + (5 * t4)))]) (st1 := [.int x1, .int ((60 * (s2.1 152 15)) + (5 * t4)), .ref 157]) (fun _ _ => rfl) ?_
  obtain ⟨s5, es5, h⟩ := gb h
  refine gR_ias (k := 156) rfl rfl rfl es5 ?_
  refine gR_go 1 (pc1 := 32) (L1 := [some (.ref 153), some (.int x1), some (.int ((60 * (s2.1 152 15)) + (5 * t4)))]) (st1 := [.ref 153]) (fun _ _ => rfl) ?_
  refine gR_gfR (k := 152) (k' := 156) rfl rfl rfl rfl ?_
  refine gR_go 4 (pc1 := 39) (L1 := [some (.ref 153), some (.int x1), some (.int ((60 * (s2.1 152 15)) + (5 * t4)))]) (st1 := [.ref 153, .int (((60 * (s2.1 152 15)) + (5 * t4)) + 1), .ref 157]) (fun _ _ => rfl) ?_
  refine gR_gfR (k := 152) (k' := 155) rfl rfl rfl rfl ?_
  refine gR_go 1 (pc1 := 43) (L1 := [some (.ref 153), some (.int x1), some (.int ((60 * (s2.1 152 15)) + (5 * t4)))]) (st1 := [.ref 153, .ref 156, .int (((60 * (s2.1 152 15)) + (5 * t4)) + 1), .ref 157]) (fun _ _ => rfl) ?_
  refine gR_gfI (k := 152) rfl rfl rfl ?_
  obtain ⟨t6, et6, h⟩ := gb h
  refine gR_ial (k := 155) rfl rfl rfl et6 ?_
  obtain ⟨s7, es7, h⟩ := gb h
  refine gR_ias (k := 156) rfl rfl rfl es7 ?_
  refine gR_go 1 (pc1 := 49) (L1 := [some (.ref 153), some (.int x1), some (.int ((60 * (s2.1 152 15)) + (5 * t4)))]) (st1 := [.ref 153]) (fun _ _ => rfl) ?_
  obtain ⟨⟨t8, s9⟩, e10, h⟩ := gb h
  dsimp only at h
  refine gR_cvI (wX11_sum_s e10) (Nat.le_of_ble_eq_true rfl) rfl rfl rfl rfl rfl ?_
  rcases gif h with ⟨c11, h⟩ | ⟨c11, h⟩
  · refine gR_iz_ne_f rfl c11 ?_
    refine gR_go 1 (pc1 := 56) (L1 := [some (.ref 153), some (.int x1), some (.int ((60 * (s2.1 152 15)) + (5 * t4)))]) (st1 := [.int 0]) (fun _ _ => rfl) ?_
    obtain ⟨rfl, rfl⟩ := gi2 h
    exact gR_rzc rfl rfl rfl
  · refine gR_iz_ne_j rfl c11 rfl ?_
    refine gR_go 1 (pc1 := 58) (L1 := [some (.ref 153), some (.int x1), some (.int ((60 * (s2.1 152 15)) + (5 * t4)))]) (st1 := [.ref 153]) (fun _ _ => rfl) ?_
    refine gR_gfR (k := 152) (k' := 156) rfl rfl rfl rfl ?_
    refine gR_go 4 (pc1 := 65) (L1 := [some (.ref 153), some (.int x1), some (.int ((60 * (s2.1 152 15)) + (5 * t4)))]) (st1 := [.ref 153, .int (((60 * (s2.1 152 15)) + (5 * t4)) + 2), .ref 157]) (fun _ _ => rfl) ?_
    refine gR_gfR (k := 152) (k' := 155) rfl rfl rfl rfl ?_
    refine gR_go 1 (pc1 := 69) (L1 := [some (.ref 153), some (.int x1), some (.int ((60 * (s2.1 152 15)) + (5 * t4)))]) (st1 := [.ref 153, .ref 156, .int (((60 * (s2.1 152 15)) + (5 * t4)) + 2), .ref 157]) (fun _ _ => rfl) ?_
    refine gR_gfI (k := 152) rfl rfl rfl ?_
    obtain ⟨t12, et12, h⟩ := gb h
    refine gR_ial (k := 155) rfl rfl rfl et12 ?_
    obtain ⟨s13, es13, h⟩ := gb h
    refine gR_ias (k := 156) rfl rfl rfl es13 ?_
    refine gR_go 1 (pc1 := 75) (L1 := [some (.ref 153), some (.int x1), some (.int ((60 * (s2.1 152 15)) + (5 * t4)))]) (st1 := [.ref 153]) (fun _ _ => rfl) ?_
    refine gR_gfR (k := 152) (k' := 156) rfl rfl rfl rfl ?_
    refine gR_go 4 (pc1 := 82) (L1 := [some (.ref 153), some (.int x1), some (.int ((60 * (s2.1 152 15)) + (5 * t4)))]) (st1 := [.int (-1), .int (((60 * (s2.1 152 15)) + (5 * t4)) + 3), .ref 157]) (fun _ _ => rfl) ?_
    obtain ⟨s14, es14, h⟩ := gb h
    refine gR_ias (k := 156) rfl rfl rfl es14 ?_
    refine gR_go 2 (pc1 := 87) (L1 := [some (.ref 153), some (.int x1), some (.int ((60 * (s2.1 152 15)) + (5 * t4)))]) (st1 := [.long 26982, .ref 153]) (fun _ _ => rfl) ?_
    obtain ⟨⟨t15, s16⟩, e17, h⟩ := gb h
    dsimp only at h
    refine gR_cvI (wX11_takesWord_s e17) (Nat.le_of_ble_eq_true rfl) rfl rfl rfl rfl rfl ?_
    rcases gif h with ⟨c18, h⟩ | ⟨c18, h⟩
    · refine gR_iz_eq_j rfl c18 rfl ?_
      exact wX11_clauseOf_u119 h
    · refine gR_iz_eq_f rfl c18 ?_
      refine gR_go 1 (pc1 := 94) (L1 := [some (.ref 153), some (.int x1), some (.int ((60 * (s2.1 152 15)) + (5 * t4)))]) (st1 := [.ref 153]) (fun _ _ => rfl) ?_
      refine gR_gfR (k := 152) (k' := 156) rfl rfl rfl rfl ?_
      refine gR_go 4 (pc1 := 101) (L1 := [some (.ref 153), some (.int x1), some (.int ((60 * (s2.1 152 15)) + (5 * t4)))]) (st1 := [.ref 153, .int (((60 * (s2.1 152 15)) + (5 * t4)) + 3), .ref 157]) (fun _ _ => rfl) ?_
      refine gR_gfR (k := 152) (k' := 155) rfl rfl rfl rfl ?_
      refine gR_go 1 (pc1 := 105) (L1 := [some (.ref 153), some (.int x1), some (.int ((60 * (s2.1 152 15)) + (5 * t4)))]) (st1 := [.ref 153, .ref 156, .int (((60 * (s2.1 152 15)) + (5 * t4)) + 3), .ref 157]) (fun _ _ => rfl) ?_
      refine gR_gfI (k := 152) rfl rfl rfl ?_
      obtain ⟨t23, et23, h⟩ := gb h
      refine gR_ial (k := 155) rfl rfl rfl et23 ?_
      obtain ⟨s24, es24, h⟩ := gb h
      refine gR_ias (k := 156) rfl rfl rfl es24 ?_
      refine gR_go 1 (pc1 := 111) (L1 := [some (.ref 153), some (.int x1), some (.int ((60 * (s2.1 152 15)) + (5 * t4)))]) (st1 := [.ref 153]) (fun _ _ => rfl) ?_
      obtain ⟨⟨t25, s26⟩, e27, h⟩ := gb h
      dsimp only at h
      refine gR_cvI (wX11_tested_s e27) (Nat.le_of_ble_eq_true rfl) rfl rfl rfl rfl rfl ?_
      rcases gif h with ⟨c28, h⟩ | ⟨c28, h⟩
      · refine gR_iz_ne_f rfl c28 ?_
        refine gR_go 1 (pc1 := 118) (L1 := [some (.ref 153), some (.int x1), some (.int ((60 * (s2.1 152 15)) + (5 * t4)))]) (st1 := [.int 0]) (fun _ _ => rfl) ?_
        obtain ⟨rfl, rfl⟩ := gi2 h
        exact gR_rzc rfl rfl rfl
      · refine gR_iz_ne_j rfl c28 rfl ?_
        exact wX11_clauseOf_u119 h
noncomputable def wX11_isRoadHere_h2 : Nat → Int32 → wS → Option ((wS) ⊕ (wS))
  | 0, _, _ => none
  | n + 1, x1, s => if x1 < 2 then ((wX11_numberHere 0 99 s).bind fun (t2, s3) => if t2 = 0 then (some (.inr s3)) else ((wstI s3 158 16 ((2 * (s3.1 152 8)) + x1) (s3.1 152 14)).bind fun s6 => wX11_isRoadHere_h2 n (x1 + 1) s6)) else (some (.inl s))
theorem wX11_isRoadHere_t2 {x : (wS) ⊕ (wS)} {r : ri_R} (he42 : ∀ (s : wS) (w1 : Int32) , x = .inl s → gRun 2 197 42 [some (.ref 153), some (.int w1)] [] (wmk s) r) (he17 : ∀ (s : wS) (w1 : Int32) , x = .inr s → gRun 2 197 17 [some (.ref 153), some (.int w1)] [] (wmk s) r) : ∀ {n : Nat} {x1 : Int32} {s : wS} , wX11_isRoadHere_h2 n x1 s = some x → gRun 2 197 2 [some (.ref 153), some (.int x1)] [] (wmk s) r := by
  intro n
  induction n with
  | zero => intro x1 s h; cases (show (none : Option ((wS) ⊕ (wS))) = some x from h)
  | succ n ih =>
    intro x1 s h
    rw [wX11_isRoadHere_h2] at h
    refine gR_go 2 (pc1 := 4) (L1 := [some (.ref 153), some (.int x1)]) (st1 := [.int 2, .int x1]) (fun _ _ => rfl) ?_
    rcases gif h with ⟨c1, h⟩ | ⟨c1, h⟩
    · refine gR_ic_ge_f rfl c1 ?_
      refine gR_go 3 (pc1 := 11) (L1 := [some (.ref 153), some (.int x1)]) (st1 := [.int 99, .int 0, .ref 153]) (fun _ _ => rfl) ?_
      obtain ⟨⟨t2, s3⟩, e4, h⟩ := gb h
      dsimp only at h
      refine gR_cvI (wX11_numberHere_s e4) (Nat.le_of_ble_eq_true rfl) rfl rfl rfl rfl rfl ?_
      rcases gif h with ⟨c5, h⟩ | ⟨c5, h⟩
      · refine gR_iz_ne_f rfl c5 ?_
        exact he17 _ _ (Option.some.inj h).symm
      · refine gR_iz_ne_j rfl c5 rfl ?_
        refine gR_go 1 (pc1 := 20) (L1 := [some (.ref 153), some (.int x1)]) (st1 := [.ref 153]) (fun _ _ => rfl) ?_
        refine gR_gfR (k := 152) (k' := 158) rfl rfl rfl rfl ?_
        refine gR_go 2 (pc1 := 25) (L1 := [some (.ref 153), some (.int x1)]) (st1 := [.ref 153, .int 2, .ref 159]) (fun _ _ => rfl) ?_
        refine gR_gfI (k := 152) rfl rfl rfl ?_
        refine gR_go 4 (pc1 := 32) (L1 := [some (.ref 153), some (.int x1)]) (st1 := [.ref 153, .int ((2 * (s3.1 152 8)) + x1), .ref 159]) (fun _ _ => rfl) ?_
        refine gR_gfI (k := 152) rfl rfl rfl ?_
        obtain ⟨s6, es6, h⟩ := gb h
        refine gR_ias (k := 158) rfl rfl rfl es6 ?_
        refine gR_go 2 (pc1 := 2) (L1 := [some (.ref 153), some (.int (x1 + 1))]) (st1 := []) (fun _ _ => rfl) ?_
        exact ih h
    · refine gR_ic_ge_j rfl c1 rfl ?_
      exact he42 _ _ (Option.some.inj h).symm
noncomputable def wX11_isRoadHere (s : wS) : Option (Int32 × wS) := (wX11_isRoadHere_h2 wFuel 0 s).bind fun z7 => (match z7 with | .inl s8 => (wpfI s8 152 8 ((s8.1 152 8) + 1)).bind fun s10 => some (1, s10) | .inr s11 => some (0, s11))
theorem wX11_isRoadHere_s {s : wS} {rv : Int32} {rs : wS} (h : wX11_isRoadHere s = some (rv, rs)) : gEv 3 197 [.ref 153] (wmk s) (some (.int rv), wmk rs, 0, 0) := by
  refine gEv_of (d := 2) (L := [some (.ref 153), none]) rfl ?_
  unfold wX11_isRoadHere at h
  refine gR_go 2 (pc1 := 2) (L1 := [some (.ref 153), some (.int 0)]) (st1 := []) (fun _ _ => rfl) ?_
  obtain ⟨z7, ez7, h⟩ := gb h
  refine wX11_isRoadHere_t2 ?_ ?_  ez7
  · intro s8 w9 hz
    replace hz := hz.symm
    subst hz
    dsimp only at h
    refine gR_go 2 (pc1 := 44) (L1 := [some (.ref 153), some (.int w9)]) (st1 := [.ref 153, .ref 153]) (fun _ _ => rfl) ?_
    refine gR_gfI (k := 152) rfl rfl rfl ?_
    refine gR_go 2 (pc1 := 49) (L1 := [some (.ref 153), some (.int w9)]) (st1 := [.int ((s8.1 152 8) + 1), .ref 153]) (fun _ _ => rfl) ?_
    obtain ⟨s10, es10, h⟩ := gb h
    refine gR_pfI (k := 152) rfl rfl rfl rfl es10 ?_
    refine gR_go 1 (pc1 := 53) (L1 := [some (.ref 153), some (.int w9)]) (st1 := [.int 1]) (fun _ _ => rfl) ?_
    obtain ⟨rfl, rfl⟩ := gi2 h
    exact gR_rzc rfl rfl rfl
  · intro s11 w12 hz
    replace hz := hz.symm
    subst hz
    dsimp only at h
    refine gR_go 1 (pc1 := 18) (L1 := [some (.ref 153), some (.int w12)]) (st1 := [.int 0]) (fun _ _ => rfl) ?_
    obtain ⟨rfl, rfl⟩ := gi2 h
    exact gR_rzc rfl rfl rfl
noncomputable def wX11_isManHere_j20 (qq : Int32 → wS → Option ((wS) ⊕ (wS))) (x1 : Int32) (y1 : Int32) (y2 : Int32) (s : wS) : Option ((wS) ⊕ (wS)) := (wX11_numberHere y1 y2 s).bind fun (t3, s4) => if t3 = 0 then (some (.inr s4)) else ((wstI s4 159 16 ((2 * (s4.1 152 9)) + x1) (s4.1 152 14)).bind fun s7 => qq (x1 + 1) s7)
theorem wX11_isManHere_u20 {x1 : Int32} {y1 : Int32} {y2 : Int32} {s : wS} {qq : Int32 → wS → Option ((wS) ⊕ (wS))} {x : (wS) ⊕ (wS)} {r : ri_R} (ih : ∀ {x1 : Int32} {s : wS} , qq x1 s = some x → gRun 2 198 2 [some (.ref 153), some (.int x1)] [] (wmk s) r) (he51 : ∀ (s : wS) (w1 : Int32) , x = .inl s → gRun 2 198 51 [some (.ref 153), some (.int w1)] [] (wmk s) r) (he26 : ∀ (s : wS) (w1 : Int32) , x = .inr s → gRun 2 198 26 [some (.ref 153), some (.int w1)] [] (wmk s) r) (h : wX11_isManHere_j20 qq x1 y1 y2 s = some x) : gRun 2 198 20 [some (.ref 153), some (.int x1)] [.int y2, .int y1, .ref 153] (wmk s) r := by
  unfold wX11_isManHere_j20 at h
  obtain ⟨⟨t3, s4⟩, e5, h⟩ := gb h
  dsimp only at h
  refine gR_cvI (wX11_numberHere_s e5) (Nat.le_of_ble_eq_true rfl) rfl rfl rfl rfl rfl ?_
  rcases gif h with ⟨c6, h⟩ | ⟨c6, h⟩
  · refine gR_iz_ne_f rfl c6 ?_
    exact he26 _ _ (Option.some.inj h).symm
  · refine gR_iz_ne_j rfl c6 rfl ?_
    refine gR_go 1 (pc1 := 29) (L1 := [some (.ref 153), some (.int x1)]) (st1 := [.ref 153]) (fun _ _ => rfl) ?_
    refine gR_gfR (k := 152) (k' := 159) rfl rfl rfl rfl ?_
    refine gR_go 2 (pc1 := 34) (L1 := [some (.ref 153), some (.int x1)]) (st1 := [.ref 153, .int 2, .ref 160]) (fun _ _ => rfl) ?_
    refine gR_gfI (k := 152) rfl rfl rfl ?_
    refine gR_go 4 (pc1 := 41) (L1 := [some (.ref 153), some (.int x1)]) (st1 := [.ref 153, .int ((2 * (s4.1 152 9)) + x1), .ref 160]) (fun _ _ => rfl) ?_
    refine gR_gfI (k := 152) rfl rfl rfl ?_
    obtain ⟨s7, es7, h⟩ := gb h
    refine gR_ias (k := 159) rfl rfl rfl es7 ?_
    refine gR_go 2 (pc1 := 2) (L1 := [some (.ref 153), some (.int (x1 + 1))]) (st1 := []) (fun _ _ => rfl) ?_
    exact ih h
noncomputable def wX11_isManHere_h2 : Nat → Int32 → wS → Option ((wS) ⊕ (wS))
  | 0, _, _ => none
  | n + 1, x1, s => if x1 < 2 then (if x1 = 0 then (wX11_isManHere_j20 (wX11_isManHere_h2 n) x1 0 99 s) else (wX11_isManHere_j20 (wX11_isManHere_h2 n) x1 0 9 s)) else (some (.inl s))
theorem wX11_isManHere_t2 {x : (wS) ⊕ (wS)} {r : ri_R} (he51 : ∀ (s : wS) (w1 : Int32) , x = .inl s → gRun 2 198 51 [some (.ref 153), some (.int w1)] [] (wmk s) r) (he26 : ∀ (s : wS) (w1 : Int32) , x = .inr s → gRun 2 198 26 [some (.ref 153), some (.int w1)] [] (wmk s) r) : ∀ {n : Nat} {x1 : Int32} {s : wS} , wX11_isManHere_h2 n x1 s = some x → gRun 2 198 2 [some (.ref 153), some (.int x1)] [] (wmk s) r := by
  intro n
  induction n with
  | zero => intro x1 s h; cases (show (none : Option ((wS) ⊕ (wS))) = some x from h)
  | succ n ih =>
    intro x1 s h
    rw [wX11_isManHere_h2] at h
    refine gR_go 2 (pc1 := 4) (L1 := [some (.ref 153), some (.int x1)]) (st1 := [.int 2, .int x1]) (fun _ _ => rfl) ?_
    rcases gif h with ⟨c1, h⟩ | ⟨c1, h⟩
    · refine gR_ic_ge_f rfl c1 ?_
      refine gR_go 3 (pc1 := 10) (L1 := [some (.ref 153), some (.int x1)]) (st1 := [.int x1, .int 0, .ref 153]) (fun _ _ => rfl) ?_
      rcases gif h with ⟨c2, h⟩ | ⟨c2, h⟩
      · refine gR_iz_ne_f rfl c2 ?_
        refine gR_go 2 (pc1 := 20) (L1 := [some (.ref 153), some (.int x1)]) (st1 := [.int 99, .int 0, .ref 153]) (fun _ _ => rfl) ?_
        exact wX11_isManHere_u20 ih he51 he26 h
      · refine gR_iz_ne_j rfl c2 rfl ?_
        refine gR_go 1 (pc1 := 20) (L1 := [some (.ref 153), some (.int x1)]) (st1 := [.int 9, .int 0, .ref 153]) (fun _ _ => rfl) ?_
        exact wX11_isManHere_u20 ih he51 he26 h
    · refine gR_ic_ge_j rfl c1 rfl ?_
      exact he51 _ _ (Option.some.inj h).symm
noncomputable def wX11_isManHere (s : wS) : Option (Int32 × wS) := (wX11_isManHere_h2 wFuel 0 s).bind fun z8 => (match z8 with | .inl s9 => (wpfI s9 152 9 ((s9.1 152 9) + 1)).bind fun s11 => some (1, s11) | .inr s12 => some (0, s12))
theorem wX11_isManHere_s {s : wS} {rv : Int32} {rs : wS} (h : wX11_isManHere s = some (rv, rs)) : gEv 3 198 [.ref 153] (wmk s) (some (.int rv), wmk rs, 0, 0) := by
  refine gEv_of (d := 2) (L := [some (.ref 153), none]) rfl ?_
  unfold wX11_isManHere at h
  refine gR_go 2 (pc1 := 2) (L1 := [some (.ref 153), some (.int 0)]) (st1 := []) (fun _ _ => rfl) ?_
  obtain ⟨z8, ez8, h⟩ := gb h
  refine wX11_isManHere_t2 ?_ ?_  ez8
  · intro s9 w10 hz
    replace hz := hz.symm
    subst hz
    dsimp only at h
    refine gR_go 2 (pc1 := 53) (L1 := [some (.ref 153), some (.int w10)]) (st1 := [.ref 153, .ref 153]) (fun _ _ => rfl) ?_
    refine gR_gfI (k := 152) rfl rfl rfl ?_
    refine gR_go 2 (pc1 := 58) (L1 := [some (.ref 153), some (.int w10)]) (st1 := [.int ((s9.1 152 9) + 1), .ref 153]) (fun _ _ => rfl) ?_
    obtain ⟨s11, es11, h⟩ := gb h
    refine gR_pfI (k := 152) rfl rfl rfl rfl es11 ?_
    refine gR_go 1 (pc1 := 62) (L1 := [some (.ref 153), some (.int w10)]) (st1 := [.int 1]) (fun _ _ => rfl) ?_
    obtain ⟨rfl, rfl⟩ := gi2 h
    exact gR_rzc rfl rfl rfl
  · intro s12 w13 hz
    replace hz := hz.symm
    subst hz
    dsimp only at h
    refine gR_go 1 (pc1 := 27) (L1 := [some (.ref 153), some (.int w13)]) (st1 := [.int 0]) (fun _ _ => rfl) ?_
    obtain ⟨rfl, rfl⟩ := gi2 h
    exact gR_rzc rfl rfl rfl
noncomputable def wX11_courtLineHere_j73 (x1 : Int32) (x2 : Int32) (y0 : Int32) (s : wS) : Option (Int32 × wS) := if y0 = 8 then ((wX11_fails 4 x1 s).bind fun (t10, s11) => (wrtZ t10).bind fun t13 => some (t13, s11)) else ((wX11_passWord s).bind fun s15 => if x2 = 0 then ((wX11_isManHere s15).bind fun (t18, s19) => (wrtZ t18).bind fun t21 => some (t21, s19)) else ((wX11_isRoadHere s15).bind fun (t22, s23) => (wrtZ t22).bind fun t25 => some (t25, s23)))
theorem wX11_courtLineHere_u73 {x1 : Int32} {x2 : Int32} {y0 : Int32} {s : wS} {rv : Int32} {rs : wS} (h : wX11_courtLineHere_j73 x1 x2 y0 s = some (rv, rs)) : gRun 3 199 73 [some (.ref 153), some (.int x1), some (.int x2)] [.int y0] (wmk s) (some (.int rv), wmk rs, 0, 0) := by
  unfold wX11_courtLineHere_j73 at h
  refine gR_go 1 (pc1 := 75) (L1 := [some (.ref 153), some (.int x1), some (.int x2)]) (st1 := [.int 8, .int y0]) (fun _ _ => rfl) ?_
  rcases gif h with ⟨c9, h⟩ | ⟨c9, h⟩
  · refine gR_ic_ne_f rfl c9 ?_
    refine gR_go 3 (pc1 := 81) (L1 := [some (.ref 153), some (.int x1), some (.int x2)]) (st1 := [.int x1, .int 4, .ref 153]) (fun _ _ => rfl) ?_
    obtain ⟨⟨t10, s11⟩, e12, h⟩ := gb h
    dsimp only at h
    refine gR_cvI (wX11_fails_s e12) (Nat.le_of_ble_eq_true rfl) rfl rfl rfl rfl rfl ?_
    obtain ⟨t13, et13, h⟩ := gb h
    obtain ⟨rfl, rfl⟩ := gi2 h
    exact gR_rz rfl rfl et13
  · refine gR_ic_ne_j rfl c9 rfl ?_
    refine gR_go 1 (pc1 := 86) (L1 := [some (.ref 153), some (.int x1), some (.int x2)]) (st1 := [.ref 153]) (fun _ _ => rfl) ?_
    obtain ⟨s15, e16, h⟩ := gb h
    refine gR_cvV (wX11_passWord_s e16) (Nat.le_of_ble_eq_true rfl) rfl rfl rfl rfl rfl ?_
    refine gR_go 1 (pc1 := 90) (L1 := [some (.ref 153), some (.int x1), some (.int x2)]) (st1 := [.int x2]) (fun _ _ => rfl) ?_
    rcases gif h with ⟨c17, h⟩ | ⟨c17, h⟩
    · refine gR_iz_eq_j rfl c17 rfl ?_
      refine gR_go 1 (pc1 := 101) (L1 := [some (.ref 153), some (.int x1), some (.int x2)]) (st1 := [.ref 153]) (fun _ _ => rfl) ?_
      obtain ⟨⟨t18, s19⟩, e20, h⟩ := gb h
      dsimp only at h
      refine gR_cvI (wX11_isManHere_s e20) (Nat.le_of_ble_eq_true rfl) rfl rfl rfl rfl rfl ?_
      obtain ⟨t21, et21, h⟩ := gb h
      obtain ⟨rfl, rfl⟩ := gi2 h
      exact gR_rz rfl rfl et21
    · refine gR_iz_eq_f rfl c17 ?_
      refine gR_go 1 (pc1 := 94) (L1 := [some (.ref 153), some (.int x1), some (.int x2)]) (st1 := [.ref 153]) (fun _ _ => rfl) ?_
      obtain ⟨⟨t22, s23⟩, e24, h⟩ := gb h
      dsimp only at h
      refine gR_cvI (wX11_isRoadHere_s e24) (Nat.le_of_ble_eq_true rfl) rfl rfl rfl rfl rfl ?_
      refine gR_go 1 (pc1 := 104) (L1 := [some (.ref 153), some (.int x1), some (.int x2)]) (st1 := [.int t22]) (fun _ _ => rfl) ?_
      obtain ⟨t25, et25, h⟩ := gb h
      obtain ⟨rfl, rfl⟩ := gi2 h
      exact gR_rz rfl rfl et25
noncomputable def wX11_courtLineHere (x1 : Int32) (s : wS) : Option (Int32 × wS) := (wX11_isWord 448546566771 s).bind fun (t1, s2) => if t1 = 0 then ((wX11_isWord 1919902052 s2).bind fun (t5, s6) => if t5 = 0 then (wX11_courtLineHere_j73 x1 t5 (s6.1 152 9) s6) else (wX11_courtLineHere_j73 x1 t5 (s6.1 152 8) s6)) else (if 0 < (s2.1 152 7) then ((wX11_fails 4 x1 s2).bind fun (t27, s28) => (wrtZ t27).bind fun t30 => some (t30, s28)) else ((wX11_passWord s2).bind fun s32 => (wX11_numberHere 1 8 s32).bind fun (t34, s35) => if t34 = 0 then (some (0, s35)) else ((wpfI s35 152 7 (s35.1 152 14)).bind fun s38 => some (1, s38))))
theorem wX11_courtLineHere_s {x1 : Int32} {s : wS} {rv : Int32} {rs : wS} (h : wX11_courtLineHere x1 s = some (rv, rs)) : gEv 4 199 [.ref 153, .int x1] (wmk s) (some (.int rv), wmk rs, 0, 0) := by
  refine gEv_of (d := 3) (L := [some (.ref 153), some (.int x1), none]) rfl ?_
  unfold wX11_courtLineHere at h
  refine gR_go 2 (pc1 := 4) (L1 := [some (.ref 153), some (.int x1), none]) (st1 := [.long 448546566771, .ref 153]) (fun _ _ => rfl) ?_
  obtain ⟨⟨t1, s2⟩, e3, h⟩ := gb h
  dsimp only at h
  refine gR_cvI (wX11_isWord_s e3) (Nat.le_of_ble_eq_true rfl) rfl rfl rfl rfl rfl ?_
  rcases gif h with ⟨c4, h⟩ | ⟨c4, h⟩
  · refine gR_iz_eq_j rfl c4 rfl ?_
    refine gR_go 2 (pc1 := 54) (L1 := [some (.ref 153), some (.int x1), none]) (st1 := [.long 1919902052, .ref 153]) (fun _ _ => rfl) ?_
    obtain ⟨⟨t5, s6⟩, e7, h⟩ := gb h
    dsimp only at h
    refine gR_cvI (wX11_isWord_s e7) (Nat.le_of_ble_eq_true rfl) rfl rfl rfl rfl rfl ?_
    refine gR_go 2 (pc1 := 59) (L1 := [some (.ref 153), some (.int x1), some (.int t5)]) (st1 := [.int t5]) (fun _ _ => rfl) ?_
    rcases gif h with ⟨c8, h⟩ | ⟨c8, h⟩
    · refine gR_iz_eq_j rfl c8 rfl ?_
      refine gR_go 1 (pc1 := 70) (L1 := [some (.ref 153), some (.int x1), some (.int t5)]) (st1 := [.ref 153]) (fun _ _ => rfl) ?_
      refine gR_gfI (k := 152) rfl rfl rfl ?_
      exact wX11_courtLineHere_u73 h
    · refine gR_iz_eq_f rfl c8 ?_
      refine gR_go 1 (pc1 := 63) (L1 := [some (.ref 153), some (.int x1), some (.int t5)]) (st1 := [.ref 153]) (fun _ _ => rfl) ?_
      refine gR_gfI (k := 152) rfl rfl rfl ?_
      refine gR_go 1 (pc1 := 73) (L1 := [some (.ref 153), some (.int x1), some (.int t5)]) (st1 := [.int (s6.1 152 8)]) (fun _ _ => rfl) ?_
      exact wX11_courtLineHere_u73 h
  · refine gR_iz_eq_f rfl c4 ?_
    refine gR_go 1 (pc1 := 11) (L1 := [some (.ref 153), some (.int x1), none]) (st1 := [.ref 153]) (fun _ _ => rfl) ?_
    refine gR_gfI (k := 152) rfl rfl rfl ?_
    rcases gif h with ⟨c26, h⟩ | ⟨c26, h⟩
    · refine gR_iz_le_f rfl c26 ?_
      refine gR_go 3 (pc1 := 20) (L1 := [some (.ref 153), some (.int x1), none]) (st1 := [.int x1, .int 4, .ref 153]) (fun _ _ => rfl) ?_
      obtain ⟨⟨t27, s28⟩, e29, h⟩ := gb h
      dsimp only at h
      refine gR_cvI (wX11_fails_s e29) (Nat.le_of_ble_eq_true rfl) rfl rfl rfl rfl rfl ?_
      obtain ⟨t30, et30, h⟩ := gb h
      obtain ⟨rfl, rfl⟩ := gi2 h
      exact gR_rz rfl rfl et30
    · refine gR_iz_le_j rfl c26 rfl ?_
      refine gR_go 1 (pc1 := 25) (L1 := [some (.ref 153), some (.int x1), none]) (st1 := [.ref 153]) (fun _ _ => rfl) ?_
      obtain ⟨s32, e33, h⟩ := gb h
      refine gR_cvV (wX11_passWord_s e33) (Nat.le_of_ble_eq_true rfl) rfl rfl rfl rfl rfl ?_
      refine gR_go 3 (pc1 := 32) (L1 := [some (.ref 153), some (.int x1), none]) (st1 := [.int 8, .int 1, .ref 153]) (fun _ _ => rfl) ?_
      obtain ⟨⟨t34, s35⟩, e36, h⟩ := gb h
      dsimp only at h
      refine gR_cvI (wX11_numberHere_s e36) (Nat.le_of_ble_eq_true rfl) rfl rfl rfl rfl rfl ?_
      rcases gif h with ⟨c37, h⟩ | ⟨c37, h⟩
      · refine gR_iz_ne_f rfl c37 ?_
        refine gR_go 1 (pc1 := 39) (L1 := [some (.ref 153), some (.int x1), none]) (st1 := [.int 0]) (fun _ _ => rfl) ?_
        obtain ⟨rfl, rfl⟩ := gi2 h
        exact gR_rzc rfl rfl rfl
      · refine gR_iz_ne_j rfl c37 rfl ?_
        refine gR_go 2 (pc1 := 42) (L1 := [some (.ref 153), some (.int x1), none]) (st1 := [.ref 153, .ref 153]) (fun _ _ => rfl) ?_
        refine gR_gfI (k := 152) rfl rfl rfl ?_
        obtain ⟨s38, es38, h⟩ := gb h
        refine gR_pfI (k := 152) rfl rfl rfl rfl es38 ?_
        refine gR_go 1 (pc1 := 49) (L1 := [some (.ref 153), some (.int x1), none]) (st1 := [.int 1]) (fun _ _ => rfl) ?_
        obtain ⟨rfl, rfl⟩ := gi2 h
        exact gR_rzc rfl rfl rfl
noncomputable def wX11_clauseHere_j157 (y1 : Int32) (s : wS) : Option (Int32 × wS) := (wX11_clauseOf y1 s).bind fun (t39, s40) => (wrtZ t39).bind fun t42 => some (t42, s40)
theorem wX11_clauseHere_u157 {y1 : Int32} {s : wS} {w1 : Int32} {w2 : Int32} {w3 : Int32} {rv : Int32} {rs : wS} (h : wX11_clauseHere_j157 y1 s = some (rv, rs)) : gRun 10 200 157 [some (.ref 153), some (.int w1), some (.int w2), some (.int w3)] [.int y1, .ref 153] (wmk s) (some (.int rv), wmk rs, 0, 0) := by
  unfold wX11_clauseHere_j157 at h
  obtain ⟨⟨t39, s40⟩, e41, h⟩ := gb h
  dsimp only at h
  refine gR_cvI (wX11_clauseOf_s e41) (Nat.le_of_ble_eq_true rfl) rfl rfl rfl rfl rfl ?_
  obtain ⟨t42, et42, h⟩ := gb h
  obtain ⟨rfl, rfl⟩ := gi2 h
  exact gR_rz rfl rfl et42
noncomputable def wX11_clauseHere_j97 (x1 : Int32) (x2 : Int32) (y0 : Int32) (y1 : Int32) (s : wS) : Option (Int32 × wS) := if y0 = y1 then ((wX11_fails 4 x1 s).bind fun (t25, s26) => (wrtZ t25).bind fun t28 => some (t28, s26)) else ((wpfI s 152 18 ((s.1 152 18) + 1)).bind fun s29 => if x2 = 0 then ((wX11_isWord 1752135026 s29).bind fun (t31, s32) => if t31 = 0 then ((wX11_isWord 1919902052 s32).bind fun (t35, s36) => if t35 = 0 then (wX11_clauseHere_j157 2 s36) else (wX11_clauseHere_j157 1 s36)) else (wX11_clauseHere_j157 0 s32)) else ((wX11_courtLineHere x1 s29).bind fun (t43, s44) => (wrtZ t43).bind fun t46 => some (t46, s44)))
theorem wX11_clauseHere_u97 {x1 : Int32} {x2 : Int32} {y0 : Int32} {y1 : Int32} {s : wS} {w3 : Int32} {rv : Int32} {rs : wS} (h : wX11_clauseHere_j97 x1 x2 y0 y1 s = some (rv, rs)) : gRun 10 200 97 [some (.ref 153), some (.int x1), some (.int x2), some (.int w3)] [.int y1, .int y0] (wmk s) (some (.int rv), wmk rs, 0, 0) := by
  unfold wX11_clauseHere_j97 at h
  rcases gif h with ⟨c24, h⟩ | ⟨c24, h⟩
  · refine gR_ic_ne_f rfl c24 ?_
    refine gR_go 3 (pc1 := 103) (L1 := [some (.ref 153), some (.int x1), some (.int x2), some (.int w3)]) (st1 := [.int x1, .int 4, .ref 153]) (fun _ _ => rfl) ?_
    obtain ⟨⟨t25, s26⟩, e27, h⟩ := gb h
    dsimp only at h
    refine gR_cvI (wX11_fails_s e27) (Nat.le_of_ble_eq_true rfl) rfl rfl rfl rfl rfl ?_
    obtain ⟨t28, et28, h⟩ := gb h
    obtain ⟨rfl, rfl⟩ := gi2 h
    exact gR_rz rfl rfl et28
  · refine gR_ic_ne_j rfl c24 rfl ?_
    refine gR_go 2 (pc1 := 109) (L1 := [some (.ref 153), some (.int x1), some (.int x2), some (.int w3)]) (st1 := [.ref 153, .ref 153]) (fun _ _ => rfl) ?_
    refine gR_gfI (k := 152) rfl rfl rfl ?_
    refine gR_go 2 (pc1 := 114) (L1 := [some (.ref 153), some (.int x1), some (.int x2), some (.int w3)]) (st1 := [.int ((s.1 152 18) + 1), .ref 153]) (fun _ _ => rfl) ?_
    obtain ⟨s29, es29, h⟩ := gb h
    refine gR_pfI (k := 152) rfl rfl rfl rfl es29 ?_
    refine gR_go 1 (pc1 := 118) (L1 := [some (.ref 153), some (.int x1), some (.int x2), some (.int w3)]) (st1 := [.int x2]) (fun _ _ => rfl) ?_
    rcases gif h with ⟨c30, h⟩ | ⟨c30, h⟩
    · refine gR_iz_eq_j rfl c30 rfl ?_
      refine gR_go 3 (pc1 := 132) (L1 := [some (.ref 153), some (.int x1), some (.int x2), some (.int w3)]) (st1 := [.long 1752135026, .ref 153, .ref 153]) (fun _ _ => rfl) ?_
      obtain ⟨⟨t31, s32⟩, e33, h⟩ := gb h
      dsimp only at h
      refine gR_cvI (wX11_isWord_s e33) (Nat.le_of_ble_eq_true rfl) rfl rfl rfl rfl rfl ?_
      rcases gif h with ⟨c34, h⟩ | ⟨c34, h⟩
      · refine gR_iz_eq_j rfl c34 rfl ?_
        refine gR_go 2 (pc1 := 146) (L1 := [some (.ref 153), some (.int x1), some (.int x2), some (.int w3)]) (st1 := [.long 1919902052, .ref 153, .ref 153]) (fun _ _ => rfl) ?_
        obtain ⟨⟨t35, s36⟩, e37, h⟩ := gb h
        dsimp only at h
        refine gR_cvI (wX11_isWord_s e37) (Nat.le_of_ble_eq_true rfl) rfl rfl rfl rfl rfl ?_
        rcases gif h with ⟨c38, h⟩ | ⟨c38, h⟩
        · refine gR_iz_eq_j rfl c38 rfl ?_
          refine gR_go 1 (pc1 := 157) (L1 := [some (.ref 153), some (.int x1), some (.int x2), some (.int w3)]) (st1 := [.int 2, .ref 153]) (fun _ _ => rfl) ?_
          exact wX11_clauseHere_u157 h
        · refine gR_iz_eq_f rfl c38 ?_
          refine gR_go 2 (pc1 := 157) (L1 := [some (.ref 153), some (.int x1), some (.int x2), some (.int w3)]) (st1 := [.int 1, .ref 153]) (fun _ _ => rfl) ?_
          exact wX11_clauseHere_u157 h
      · refine gR_iz_eq_f rfl c34 ?_
        refine gR_go 2 (pc1 := 157) (L1 := [some (.ref 153), some (.int x1), some (.int x2), some (.int w3)]) (st1 := [.int 0, .ref 153]) (fun _ _ => rfl) ?_
        exact wX11_clauseHere_u157 h
    · refine gR_iz_eq_f rfl c30 ?_
      refine gR_go 2 (pc1 := 123) (L1 := [some (.ref 153), some (.int x1), some (.int x2), some (.int w3)]) (st1 := [.int x1, .ref 153]) (fun _ _ => rfl) ?_
      obtain ⟨⟨t43, s44⟩, e45, h⟩ := gb h
      dsimp only at h
      refine gR_cvI (wX11_courtLineHere_s e45) (Nat.le_of_ble_eq_true rfl) rfl rfl rfl rfl rfl ?_
      obtain ⟨t46, et46, h⟩ := gb h
      obtain ⟨rfl, rfl⟩ := gi2 h
      exact gR_rz rfl rfl et46
noncomputable def wX11_clauseHere_j70 (x1 : Int32) (x2 : Int32) (y0 : Int32) (s : wS) : Option (Int32 × wS) := if y0 = 0 then ((wX11_fails 0 x1 s).bind fun (t19, s20) => (wrtZ t19).bind fun t22 => some (t22, s20)) else (if x2 = 0 then (wX11_clauseHere_j97 x1 x2 (s.1 152 18) 12 s) else (wX11_clauseHere_j97 x1 x2 (s.1 152 18) 24 s))
theorem wX11_clauseHere_u70 {x1 : Int32} {x2 : Int32} {y0 : Int32} {s : wS} {w3 : Option Value} {rv : Int32} {rs : wS} (h : wX11_clauseHere_j70 x1 x2 y0 s = some (rv, rs)) : gRun 10 200 70 [some (.ref 153), some (.int x1), some (.int x2), w3] [.int y0] (wmk s) (some (.int rv), wmk rs, 0, 0) := by
  unfold wX11_clauseHere_j70 at h
  refine gR_go 2 (pc1 := 72) (L1 := [some (.ref 153), some (.int x1), some (.int x2), some (.int y0)]) (st1 := [.int y0]) (fun _ _ => rfl) ?_
  rcases gif h with ⟨c18, h⟩ | ⟨c18, h⟩
  · refine gR_iz_ne_f rfl c18 ?_
    refine gR_go 3 (pc1 := 78) (L1 := [some (.ref 153), some (.int x1), some (.int x2), some (.int y0)]) (st1 := [.int x1, .int 0, .ref 153]) (fun _ _ => rfl) ?_
    obtain ⟨⟨t19, s20⟩, e21, h⟩ := gb h
    dsimp only at h
    refine gR_cvI (wX11_fails_s e21) (Nat.le_of_ble_eq_true rfl) rfl rfl rfl rfl rfl ?_
    obtain ⟨t22, et22, h⟩ := gb h
    obtain ⟨rfl, rfl⟩ := gi2 h
    exact gR_rz rfl rfl et22
  · refine gR_iz_ne_j rfl c18 rfl ?_
    refine gR_go 1 (pc1 := 83) (L1 := [some (.ref 153), some (.int x1), some (.int x2), some (.int y0)]) (st1 := [.ref 153]) (fun _ _ => rfl) ?_
    refine gR_gfI (k := 152) rfl rfl rfl ?_
    refine gR_go 1 (pc1 := 87) (L1 := [some (.ref 153), some (.int x1), some (.int x2), some (.int y0)]) (st1 := [.int x2, .int (s.1 152 18)]) (fun _ _ => rfl) ?_
    rcases gif h with ⟨c23, h⟩ | ⟨c23, h⟩
    · refine gR_iz_eq_j rfl c23 rfl ?_
      refine gR_go 1 (pc1 := 97) (L1 := [some (.ref 153), some (.int x1), some (.int x2), some (.int y0)]) (st1 := [.int 12, .int (s.1 152 18)]) (fun _ _ => rfl) ?_
      exact wX11_clauseHere_u97 h
    · refine gR_iz_eq_f rfl c23 ?_
      refine gR_go 2 (pc1 := 97) (L1 := [some (.ref 153), some (.int x1), some (.int x2), some (.int y0)]) (st1 := [.int 24, .int (s.1 152 18)]) (fun _ _ => rfl) ?_
      exact wX11_clauseHere_u97 h
noncomputable def wX11_clauseHere_j65 (x1 : Int32) (x2 : Int32) (s : wS) : Option (Int32 × wS) := wX11_clauseHere_j70 x1 x2 1 s
theorem wX11_clauseHere_u65 {x1 : Int32} {x2 : Int32} {s : wS} {w3 : Option Value} {rv : Int32} {rs : wS} (h : wX11_clauseHere_j65 x1 x2 s = some (rv, rs)) : gRun 10 200 65 [some (.ref 153), some (.int x1), some (.int x2), w3] [] (wmk s) (some (.int rv), wmk rs, 0, 0) := by
  unfold wX11_clauseHere_j65 at h
  refine gR_go 2 (pc1 := 70) (L1 := [some (.ref 153), some (.int x1), some (.int x2), w3]) (st1 := [.int 1]) (fun _ _ => rfl) ?_
  exact wX11_clauseHere_u70 h
noncomputable def wX11_clauseHere_j59 (x1 : Int32) (x2 : Int32) (y1 : Int64) (s : wS) : Option (Int32 × wS) := (wX11_isWord y1 s).bind fun (t14, s15) => if t14 = 0 then (wX11_clauseHere_j70 x1 x2 0 s15) else (wX11_clauseHere_j65 x1 x2 s15)
theorem wX11_clauseHere_u59 {x1 : Int32} {x2 : Int32} {y1 : Int64} {s : wS} {w3 : Option Value} {rv : Int32} {rs : wS} (h : wX11_clauseHere_j59 x1 x2 y1 s = some (rv, rs)) : gRun 10 200 59 [some (.ref 153), some (.int x1), some (.int x2), w3] [.long y1, .ref 153] (wmk s) (some (.int rv), wmk rs, 0, 0) := by
  unfold wX11_clauseHere_j59 at h
  obtain ⟨⟨t14, s15⟩, e16, h⟩ := gb h
  dsimp only at h
  refine gR_cvI (wX11_isWord_s e16) (Nat.le_of_ble_eq_true rfl) rfl rfl rfl rfl rfl ?_
  rcases gif h with ⟨c17, h⟩ | ⟨c17, h⟩
  · refine gR_iz_eq_j rfl c17 rfl ?_
    refine gR_go 1 (pc1 := 70) (L1 := [some (.ref 153), some (.int x1), some (.int x2), w3]) (st1 := [.int 0]) (fun _ _ => rfl) ?_
    exact wX11_clauseHere_u70 h
  · refine gR_iz_eq_f rfl c17 ?_
    exact wX11_clauseHere_u65 h
noncomputable def wX11_clauseHere_j24 (x1 : Int32) (y0 : Int32) (s : wS) : Option (Int32 × wS) := (wX11_isWord 1919902052 s).bind fun (t5, s6) => if t5 = 0 then ((wX11_isWord 7168366 s6).bind fun (t9, s10) => if t9 = 0 then (if y0 = 0 then (wX11_clauseHere_j59 x1 y0 1752135026 s10) else (wX11_clauseHere_j59 x1 y0 448546566771 s10)) else (wX11_clauseHere_j65 x1 y0 s10)) else (wX11_clauseHere_j65 x1 y0 s6)
theorem wX11_clauseHere_u24 {x1 : Int32} {y0 : Int32} {s : wS} {w2 : Option Value} {w3 : Option Value} {rv : Int32} {rs : wS} (h : wX11_clauseHere_j24 x1 y0 s = some (rv, rs)) : gRun 10 200 24 [some (.ref 153), some (.int x1), w2, w3] [.int y0] (wmk s) (some (.int rv), wmk rs, 0, 0) := by
  unfold wX11_clauseHere_j24 at h
  refine gR_go 3 (pc1 := 29) (L1 := [some (.ref 153), some (.int x1), some (.int y0), w3]) (st1 := [.long 1919902052, .ref 153]) (fun _ _ => rfl) ?_
  obtain ⟨⟨t5, s6⟩, e7, h⟩ := gb h
  dsimp only at h
  refine gR_cvI (wX11_isWord_s e7) (Nat.le_of_ble_eq_true rfl) rfl rfl rfl rfl rfl ?_
  rcases gif h with ⟨c8, h⟩ | ⟨c8, h⟩
  · refine gR_iz_ne_f rfl c8 ?_
    refine gR_go 2 (pc1 := 39) (L1 := [some (.ref 153), some (.int x1), some (.int y0), w3]) (st1 := [.long 7168366, .ref 153]) (fun _ _ => rfl) ?_
    obtain ⟨⟨t9, s10⟩, e11, h⟩ := gb h
    dsimp only at h
    refine gR_cvI (wX11_isWord_s e11) (Nat.le_of_ble_eq_true rfl) rfl rfl rfl rfl rfl ?_
    rcases gif h with ⟨c12, h⟩ | ⟨c12, h⟩
    · refine gR_iz_ne_f rfl c12 ?_
      refine gR_go 2 (pc1 := 47) (L1 := [some (.ref 153), some (.int x1), some (.int y0), w3]) (st1 := [.int y0, .ref 153]) (fun _ _ => rfl) ?_
      rcases gif h with ⟨c13, h⟩ | ⟨c13, h⟩
      · refine gR_iz_eq_j rfl c13 rfl ?_
        refine gR_go 1 (pc1 := 59) (L1 := [some (.ref 153), some (.int x1), some (.int y0), w3]) (st1 := [.long 1752135026, .ref 153]) (fun _ _ => rfl) ?_
        exact wX11_clauseHere_u59 h
      · refine gR_iz_eq_f rfl c13 ?_
        refine gR_go 2 (pc1 := 59) (L1 := [some (.ref 153), some (.int x1), some (.int y0), w3]) (st1 := [.long 448546566771, .ref 153]) (fun _ _ => rfl) ?_
        exact wX11_clauseHere_u59 h
    · refine gR_iz_ne_j rfl c12 rfl ?_
      exact wX11_clauseHere_u65 h
  · refine gR_iz_ne_j rfl c8 rfl ?_
    exact wX11_clauseHere_u65 h
noncomputable def wX11_clauseHere (s : wS) : Option (Int32 × wS) := (wX11_see s).bind fun (t1, s2) => if (s2.1 152 15) = 6 then (wX11_clauseHere_j24 (s2.1 152 12) 1 s2) else (wX11_clauseHere_j24 (s2.1 152 12) 0 s2)
theorem wX11_clauseHere_s {s : wS} {rv : Int32} {rs : wS} (h : wX11_clauseHere s = some (rv, rs)) : gEv 11 200 [.ref 153] (wmk s) (some (.int rv), wmk rs, 0, 0) := by
  refine gEv_of (d := 10) (L := [some (.ref 153), none, none, none]) rfl ?_
  unfold wX11_clauseHere at h
  refine gR_go 1 (pc1 := 1) (L1 := [some (.ref 153), none, none, none]) (st1 := [.ref 153]) (fun _ _ => rfl) ?_
  obtain ⟨⟨t1, s2⟩, e3, h⟩ := gb h
  dsimp only at h
  refine gR_cvI (wX11_see_s e3) (Nat.le_of_ble_eq_true rfl) rfl rfl rfl rfl rfl ?_
  refine gR_go 2 (pc1 := 6) (L1 := [some (.ref 153), none, none, none]) (st1 := [.ref 153]) (fun _ _ => rfl) ?_
  refine gR_gfI (k := 152) rfl rfl rfl ?_
  refine gR_go 2 (pc1 := 11) (L1 := [some (.ref 153), some (.int (s2.1 152 12)), none, none]) (st1 := [.ref 153]) (fun _ _ => rfl) ?_
  refine gR_gfI (k := 152) rfl rfl rfl ?_
  refine gR_go 1 (pc1 := 16) (L1 := [some (.ref 153), some (.int (s2.1 152 12)), none, none]) (st1 := [.int 6, .int (s2.1 152 15)]) (fun _ _ => rfl) ?_
  rcases gif h with ⟨c4, h⟩ | ⟨c4, h⟩
  · refine gR_ic_ne_f rfl c4 ?_
    refine gR_go 2 (pc1 := 24) (L1 := [some (.ref 153), some (.int (s2.1 152 12)), none, none]) (st1 := [.int 1]) (fun _ _ => rfl) ?_
    exact wX11_clauseHere_u24 h
  · refine gR_ic_ne_j rfl c4 rfl ?_
    refine gR_go 1 (pc1 := 24) (L1 := [some (.ref 153), some (.int (s2.1 152 12)), none, none]) (st1 := [.int 0]) (fun _ _ => rfl) ?_
    exact wX11_clauseHere_u24 h
noncomputable def wX11_readsAll_h35 : Nat → Int32 → wS → Option (Int32 × wS)
  | 0, _, _ => none
  | n + 1, x1, s => if x1 = 0 then (some (x1, s)) else ((wX11_see s).bind fun (t10, s11) => if t10 = 59 then ((wpfI s11 152 12 ((s11.1 152 12) + 1)).bind fun s14 => (wX11_clauseHere s14).bind fun (t15, s16) => wX11_readsAll_h35 n t15 s16) else (some (x1, s11)))
theorem wX11_readsAll_t35 {x : Int32 × wS} {r : ri_R} (he66 : ∀ (x1 : Int32) (s : wS) , x = (x1, s) → gRun 11 201 66 [some (.ref 153), some (.int x1)] [] (wmk s) r) : ∀ {n : Nat} {x1 : Int32} {s : wS} , wX11_readsAll_h35 n x1 s = some x → gRun 11 201 35 [some (.ref 153), some (.int x1)] [] (wmk s) r := by
  intro n
  induction n with
  | zero => intro x1 s h; cases (show (none : Option (Int32 × wS)) = some x from h)
  | succ n ih =>
    intro x1 s h
    rw [wX11_readsAll_h35] at h
    refine gR_go 1 (pc1 := 36) (L1 := [some (.ref 153), some (.int x1)]) (st1 := [.int x1]) (fun _ _ => rfl) ?_
    rcases gif h with ⟨c9, h⟩ | ⟨c9, h⟩
    · refine gR_iz_eq_j rfl c9 rfl ?_
      exact he66 _ _ (Option.some.inj h).symm
    · refine gR_iz_eq_f rfl c9 ?_
      refine gR_go 1 (pc1 := 40) (L1 := [some (.ref 153), some (.int x1)]) (st1 := [.ref 153]) (fun _ _ => rfl) ?_
      obtain ⟨⟨t10, s11⟩, e12, h⟩ := gb h
      dsimp only at h
      refine gR_cvI (wX11_see_s e12) (Nat.le_of_ble_eq_true rfl) rfl rfl rfl rfl rfl ?_
      refine gR_go 1 (pc1 := 45) (L1 := [some (.ref 153), some (.int x1)]) (st1 := [.int 59, .int t10]) (fun _ _ => rfl) ?_
      rcases gif h with ⟨c13, h⟩ | ⟨c13, h⟩
      · refine gR_ic_ne_f rfl c13 ?_
        refine gR_go 2 (pc1 := 50) (L1 := [some (.ref 153), some (.int x1)]) (st1 := [.ref 153, .ref 153]) (fun _ _ => rfl) ?_
        refine gR_gfI (k := 152) rfl rfl rfl ?_
        refine gR_go 2 (pc1 := 55) (L1 := [some (.ref 153), some (.int x1)]) (st1 := [.int ((s11.1 152 12) + 1), .ref 153]) (fun _ _ => rfl) ?_
        obtain ⟨s14, es14, h⟩ := gb h
        refine gR_pfI (k := 152) rfl rfl rfl rfl es14 ?_
        refine gR_go 1 (pc1 := 59) (L1 := [some (.ref 153), some (.int x1)]) (st1 := [.ref 153]) (fun _ _ => rfl) ?_
        obtain ⟨⟨t15, s16⟩, e17, h⟩ := gb h
        dsimp only at h
        refine gR_cvI (wX11_clauseHere_s e17) (Nat.le_of_ble_eq_true rfl) rfl rfl rfl rfl rfl ?_
        refine gR_go 2 (pc1 := 35) (L1 := [some (.ref 153), some (.int t15)]) (st1 := []) (fun _ _ => rfl) ?_
        exact ih h
      · refine gR_ic_ne_j rfl c13 rfl ?_
        exact he66 _ _ (Option.some.inj h).symm
noncomputable def wX11_readsAll_j125 (s : wS) : Option (Int32 × wS) := (wpfI s 152 1 0).bind fun s23 => if (s23.1 152 13) = 0 then (some (1, s23)) else (some (0, s23))
theorem wX11_readsAll_u125 {s : wS} {w1 : Int32} {rv : Int32} {rs : wS} (h : wX11_readsAll_j125 s = some (rv, rs)) : gRun 11 201 125 [some (.ref 153), some (.int w1)] [] (wmk s) (some (.int rv), wmk rs, 0, 0) := by
  unfold wX11_readsAll_j125 at h
  refine gR_go 2 (pc1 := 127) (L1 := [some (.ref 153), some (.int w1)]) (st1 := [.int 0, .ref 153]) (fun _ _ => rfl) ?_
  obtain ⟨s23, es23, h⟩ := gb h
  refine gR_pfI (k := 152) rfl rfl rfl rfl es23 ?_
  refine gR_go 1 (pc1 := 131) (L1 := [some (.ref 153), some (.int w1)]) (st1 := [.ref 153]) (fun _ _ => rfl) ?_
  refine gR_gfI (k := 152) rfl rfl rfl ?_
  rcases gif h with ⟨c24, h⟩ | ⟨c24, h⟩
  · refine gR_iz_ne_f rfl c24 ?_
    refine gR_go 2 (pc1 := 142) (L1 := [some (.ref 153), some (.int w1)]) (st1 := [.int 1]) (fun _ _ => rfl) ?_
    obtain ⟨rfl, rfl⟩ := gi2 h
    exact gR_rzc rfl rfl rfl
  · refine gR_iz_ne_j rfl c24 rfl ?_
    refine gR_go 1 (pc1 := 142) (L1 := [some (.ref 153), some (.int w1)]) (st1 := [.int 0]) (fun _ _ => rfl) ?_
    obtain ⟨rfl, rfl⟩ := gi2 h
    exact gR_rzc rfl rfl rfl
noncomputable def wX11_readsAll_j115 (s : wS) : Option (Int32 × wS) := (wX11_fails 0 (s.1 152 12) s).bind fun (t27, s28) => wX11_readsAll_j125 s28
theorem wX11_readsAll_u115 {s : wS} {w1 : Int32} {rv : Int32} {rs : wS} (h : wX11_readsAll_j115 s = some (rv, rs)) : gRun 11 201 115 [some (.ref 153), some (.int w1)] [] (wmk s) (some (.int rv), wmk rs, 0, 0) := by
  unfold wX11_readsAll_j115 at h
  refine gR_go 3 (pc1 := 118) (L1 := [some (.ref 153), some (.int w1)]) (st1 := [.ref 153, .int 0, .ref 153]) (fun _ _ => rfl) ?_
  refine gR_gfI (k := 152) rfl rfl rfl ?_
  obtain ⟨⟨t27, s28⟩, e29, h⟩ := gb h
  dsimp only at h
  refine gR_cvI (wX11_fails_s e29) (Nat.le_of_ble_eq_true rfl) rfl rfl rfl rfl rfl ?_
  refine gR_go 1 (pc1 := 125) (L1 := [some (.ref 153), some (.int w1)]) (st1 := []) (fun _ _ => rfl) ?_
  exact wX11_readsAll_u125 h
noncomputable def wX11_readsAll_j88 (x1 : Int32) (s : wS) : Option (Int32 × wS) := if x1 = 0 then (wX11_readsAll_j125 s) else (if (s.1 152 15) = 6 then (if (s.1 152 8) = 0 then (wX11_readsAll_j115 s) else (if (s.1 152 9) = 0 then (wX11_readsAll_j115 s) else (wX11_readsAll_j125 s))) else (wX11_readsAll_j125 s))
theorem wX11_readsAll_u88 {x1 : Int32} {s : wS} {rv : Int32} {rs : wS} (h : wX11_readsAll_j88 x1 s = some (rv, rs)) : gRun 11 201 88 [some (.ref 153), some (.int x1)] [] (wmk s) (some (.int rv), wmk rs, 0, 0) := by
  unfold wX11_readsAll_j88 at h
  refine gR_go 1 (pc1 := 89) (L1 := [some (.ref 153), some (.int x1)]) (st1 := [.int x1]) (fun _ _ => rfl) ?_
  rcases gif h with ⟨c22, h⟩ | ⟨c22, h⟩
  · refine gR_iz_eq_j rfl c22 rfl ?_
    exact wX11_readsAll_u125 h
  · refine gR_iz_eq_f rfl c22 ?_
    refine gR_go 1 (pc1 := 93) (L1 := [some (.ref 153), some (.int x1)]) (st1 := [.ref 153]) (fun _ _ => rfl) ?_
    refine gR_gfI (k := 152) rfl rfl rfl ?_
    refine gR_go 1 (pc1 := 98) (L1 := [some (.ref 153), some (.int x1)]) (st1 := [.int 6, .int (s.1 152 15)]) (fun _ _ => rfl) ?_
    rcases gif h with ⟨c25, h⟩ | ⟨c25, h⟩
    · refine gR_ic_ne_f rfl c25 ?_
      refine gR_go 1 (pc1 := 102) (L1 := [some (.ref 153), some (.int x1)]) (st1 := [.ref 153]) (fun _ _ => rfl) ?_
      refine gR_gfI (k := 152) rfl rfl rfl ?_
      rcases gif h with ⟨c26, h⟩ | ⟨c26, h⟩
      · refine gR_iz_eq_j rfl c26 rfl ?_
        exact wX11_readsAll_u115 h
      · refine gR_iz_eq_f rfl c26 ?_
        refine gR_go 1 (pc1 := 109) (L1 := [some (.ref 153), some (.int x1)]) (st1 := [.ref 153]) (fun _ _ => rfl) ?_
        refine gR_gfI (k := 152) rfl rfl rfl ?_
        rcases gif h with ⟨c30, h⟩ | ⟨c30, h⟩
        · refine gR_iz_ne_f rfl c30 ?_
          exact wX11_readsAll_u115 h
        · refine gR_iz_ne_j rfl c30 rfl ?_
          exact wX11_readsAll_u125 h
    · refine gR_ic_ne_j rfl c25 rfl ?_
      exact wX11_readsAll_u125 h
noncomputable def wX11_readsAll_j66 (x1 : Int32) (s : wS) : Option (Int32 × wS) := if x1 = 0 then (wX11_readsAll_j88 x1 s) else ((wX11_see s).bind fun (t31, s32) => if t31 = (-1) then (wX11_readsAll_j88 x1 s32) else ((wX11_fails 0 (s32.1 152 12) s32).bind fun (t35, s36) => wX11_readsAll_j88 t35 s36))
theorem wX11_readsAll_u66 {x1 : Int32} {s : wS} {rv : Int32} {rs : wS} (h : wX11_readsAll_j66 x1 s = some (rv, rs)) : gRun 11 201 66 [some (.ref 153), some (.int x1)] [] (wmk s) (some (.int rv), wmk rs, 0, 0) := by
  unfold wX11_readsAll_j66 at h
  refine gR_go 1 (pc1 := 67) (L1 := [some (.ref 153), some (.int x1)]) (st1 := [.int x1]) (fun _ _ => rfl) ?_
  rcases gif h with ⟨c21, h⟩ | ⟨c21, h⟩
  · refine gR_iz_eq_j rfl c21 rfl ?_
    exact wX11_readsAll_u88 h
  · refine gR_iz_eq_f rfl c21 ?_
    refine gR_go 1 (pc1 := 71) (L1 := [some (.ref 153), some (.int x1)]) (st1 := [.ref 153]) (fun _ _ => rfl) ?_
    obtain ⟨⟨t31, s32⟩, e33, h⟩ := gb h
    dsimp only at h
    refine gR_cvI (wX11_see_s e33) (Nat.le_of_ble_eq_true rfl) rfl rfl rfl rfl rfl ?_
    refine gR_go 1 (pc1 := 75) (L1 := [some (.ref 153), some (.int x1)]) (st1 := [.int (-1), .int t31]) (fun _ _ => rfl) ?_
    rcases gif h with ⟨c34, h⟩ | ⟨c34, h⟩
    · refine gR_ic_eq_j rfl c34 rfl ?_
      exact wX11_readsAll_u88 h
    · refine gR_ic_eq_f rfl c34 ?_
      refine gR_go 3 (pc1 := 81) (L1 := [some (.ref 153), some (.int x1)]) (st1 := [.ref 153, .int 0, .ref 153]) (fun _ _ => rfl) ?_
      refine gR_gfI (k := 152) rfl rfl rfl ?_
      obtain ⟨⟨t35, s36⟩, e37, h⟩ := gb h
      dsimp only at h
      refine gR_cvI (wX11_fails_s e37) (Nat.le_of_ble_eq_true rfl) rfl rfl rfl rfl rfl ?_
      refine gR_go 1 (pc1 := 88) (L1 := [some (.ref 153), some (.int t35)]) (st1 := []) (fun _ _ => rfl) ?_
      exact wX11_readsAll_u88 h
noncomputable def wX11_readsAll (s : wS) : Option (Int32 × wS) := (wstI s 155 7 (s.1 152 15) 0).bind fun s1 => (wpfI s1 152 18 0).bind fun s2 => (wpfI s2 152 12 0).bind fun s3 => (wpfI s3 152 13 0).bind fun s4 => (wpfI s4 152 16 0).bind fun s5 => (wX11_clauseHere s5).bind fun (t6, s7) => (wX11_readsAll_h35 wFuel t6 s7).bind fun (t19, s20) => wX11_readsAll_j66 t19 s20
theorem wX11_readsAll_s {s : wS} {rv : Int32} {rs : wS} (h : wX11_readsAll s = some (rv, rs)) : gEv 12 201 [.ref 153] (wmk s) (some (.int rv), wmk rs, 0, 0) := by
  refine gEv_of (d := 11) (L := [some (.ref 153), none]) rfl ?_
  unfold wX11_readsAll at h
  refine gR_go 1 (pc1 := 1) (L1 := [some (.ref 153), none]) (st1 := [.ref 153]) (fun _ _ => rfl) ?_
  refine gR_gfR (k := 152) (k' := 155) rfl rfl rfl rfl ?_
  refine gR_go 1 (pc1 := 5) (L1 := [some (.ref 153), none]) (st1 := [.ref 153, .ref 156]) (fun _ _ => rfl) ?_
  refine gR_gfI (k := 152) rfl rfl rfl ?_
  refine gR_go 1 (pc1 := 9) (L1 := [some (.ref 153), none]) (st1 := [.int 0, .int (s.1 152 15), .ref 156]) (fun _ _ => rfl) ?_
  obtain ⟨s1, es1, h⟩ := gb h
  refine gR_ias (k := 155) rfl rfl rfl es1 ?_
  refine gR_go 2 (pc1 := 12) (L1 := [some (.ref 153), none]) (st1 := [.int 0, .ref 153]) (fun _ _ => rfl) ?_
  obtain ⟨s2, es2, h⟩ := gb h
  refine gR_pfI (k := 152) rfl rfl rfl rfl es2 ?_
  refine gR_go 2 (pc1 := 17) (L1 := [some (.ref 153), none]) (st1 := [.int 0, .ref 153]) (fun _ _ => rfl) ?_
  obtain ⟨s3, es3, h⟩ := gb h
  refine gR_pfI (k := 152) rfl rfl rfl rfl es3 ?_
  refine gR_go 2 (pc1 := 22) (L1 := [some (.ref 153), none]) (st1 := [.int 0, .ref 153]) (fun _ _ => rfl) ?_
  obtain ⟨s4, es4, h⟩ := gb h
  refine gR_pfI (k := 152) rfl rfl rfl rfl es4 ?_
  refine gR_go 2 (pc1 := 27) (L1 := [some (.ref 153), none]) (st1 := [.int 0, .ref 153]) (fun _ _ => rfl) ?_
  obtain ⟨s5, es5, h⟩ := gb h
  refine gR_pfI (k := 152) rfl rfl rfl rfl es5 ?_
  refine gR_go 1 (pc1 := 31) (L1 := [some (.ref 153), none]) (st1 := [.ref 153]) (fun _ _ => rfl) ?_
  obtain ⟨⟨t6, s7⟩, e8, h⟩ := gb h
  dsimp only at h
  refine gR_cvI (wX11_clauseHere_s e8) (Nat.le_of_ble_eq_true rfl) rfl rfl rfl rfl rfl ?_
  refine gR_go 1 (pc1 := 35) (L1 := [some (.ref 153), some (.int t6)]) (st1 := []) (fun _ _ => rfl) ?_
  obtain ⟨z18, ez18, h⟩ := gb h
  refine wX11_readsAll_t35 ?_  ez18
  · intro t19 s20 hz
    replace hz := hz.symm
    subst hz
    dsimp only at h
    exact wX11_readsAll_u66 h
theorem gR_sub {d m pc len a b c : Nat} {L : ri_L} {st : List Value} {M : ri_M} {r : ri_R} {x y : Int32} (hc : ri_tc m pc = some (.isub, len, a, b, c)) (g : gRun d m (pc + 1) L (.int (x - y) :: st) M r) : gRun d m pc L (.int y :: .int x :: st) M r := gR_st hc (fun call => rfl) g
noncomputable def wX11_law (s : wS) : Option (Int32 × wS) := if (s.1 152 2) = 6 then (some ((-1), s)) else ((wpfI s 152 15 (s.1 152 2)).bind fun s2 => (wstI s2 157 6 (s2.1 152 15) 0).bind fun s3 => (wX11_readsAll s3).bind fun (t4, s5) => if t4 = 0 then (some ((((Int8.ofInt (-2)).toInt32) - (s5.1 152 13)), s5)) else ((wpfI s5 152 2 ((s5.1 152 2) + 1)).bind fun s8 => some (((s8.1 152 2) - 1), s8)))
theorem wX11_law_s {s : wS} {rv : Int32} {rs : wS} (h : wX11_law s = some (rv, rs)) : gEv 13 202 [.ref 153] (wmk s) (some (.int rv), wmk rs, 0, 0) := by
  refine gEv_of (d := 12) (L := [some (.ref 153)]) rfl ?_
  unfold wX11_law at h
  refine gR_go 1 (pc1 := 1) (L1 := [some (.ref 153)]) (st1 := [.ref 153]) (fun _ _ => rfl) ?_
  refine gR_gfI (k := 152) rfl rfl rfl ?_
  refine gR_go 1 (pc1 := 6) (L1 := [some (.ref 153)]) (st1 := [.int 6, .int (s.1 152 2)]) (fun _ _ => rfl) ?_
  rcases gif h with ⟨c1, h⟩ | ⟨c1, h⟩
  · refine gR_ic_ne_f rfl c1 ?_
    refine gR_go 1 (pc1 := 10) (L1 := [some (.ref 153)]) (st1 := [.int (-1)]) (fun _ _ => rfl) ?_
    obtain ⟨rfl, rfl⟩ := gi2 h
    exact gR_ri rfl rfl
  · refine gR_ic_ne_j rfl c1 rfl ?_
    refine gR_go 2 (pc1 := 13) (L1 := [some (.ref 153)]) (st1 := [.ref 153, .ref 153]) (fun _ _ => rfl) ?_
    refine gR_gfI (k := 152) rfl rfl rfl ?_
    obtain ⟨s2, es2, h⟩ := gb h
    refine gR_pfI (k := 152) rfl rfl rfl rfl es2 ?_
    refine gR_go 1 (pc1 := 20) (L1 := [some (.ref 153)]) (st1 := [.ref 153]) (fun _ _ => rfl) ?_
    refine gR_gfR (k := 152) (k' := 157) rfl rfl rfl rfl ?_
    refine gR_go 1 (pc1 := 24) (L1 := [some (.ref 153)]) (st1 := [.ref 153, .ref 158]) (fun _ _ => rfl) ?_
    refine gR_gfI (k := 152) rfl rfl rfl ?_
    refine gR_go 1 (pc1 := 28) (L1 := [some (.ref 153)]) (st1 := [.int 0, .int (s2.1 152 15), .ref 158]) (fun _ _ => rfl) ?_
    obtain ⟨s3, es3, h⟩ := gb h
    refine gR_ias (k := 157) rfl rfl rfl es3 ?_
    refine gR_go 1 (pc1 := 30) (L1 := [some (.ref 153)]) (st1 := [.ref 153]) (fun _ _ => rfl) ?_
    obtain ⟨⟨t4, s5⟩, e6, h⟩ := gb h
    dsimp only at h
    refine gR_cvI (wX11_readsAll_s e6) (Nat.le_of_ble_eq_true rfl) rfl rfl rfl rfl rfl ?_
    rcases gif h with ⟨c7, h⟩ | ⟨c7, h⟩
    · refine gR_iz_ne_f rfl c7 ?_
      refine gR_go 2 (pc1 := 39) (L1 := [some (.ref 153)]) (st1 := [.ref 153, .int ((Int8.ofInt (-2)).toInt32)]) (fun _ _ => rfl) ?_
      refine gR_gfI (k := 152) rfl rfl rfl ?_
      refine gR_sub rfl ?_
      obtain ⟨rfl, rfl⟩ := gi2 h
      exact gR_ri rfl rfl
    · refine gR_iz_ne_j rfl c7 rfl ?_
      refine gR_go 2 (pc1 := 46) (L1 := [some (.ref 153)]) (st1 := [.ref 153, .ref 153]) (fun _ _ => rfl) ?_
      refine gR_gfI (k := 152) rfl rfl rfl ?_
      refine gR_go 2 (pc1 := 51) (L1 := [some (.ref 153)]) (st1 := [.int ((s5.1 152 2) + 1), .ref 153]) (fun _ _ => rfl) ?_
      obtain ⟨s8, es8, h⟩ := gb h
      refine gR_pfI (k := 152) rfl rfl rfl rfl es8 ?_
      refine gR_go 1 (pc1 := 55) (L1 := [some (.ref 153)]) (st1 := [.ref 153]) (fun _ _ => rfl) ?_
      refine gR_gfI (k := 152) rfl rfl rfl ?_
      refine gR_go 2 (pc1 := 60) (L1 := [some (.ref 153)]) (st1 := [.int ((s8.1 152 2) - 1)]) (fun _ _ => rfl) ?_
      obtain ⟨rfl, rfl⟩ := gi2 h
      exact gR_ri rfl rfl
noncomputable def wX11_worlds (s : wS) : Option (Int32) := some (((s.1 163 0) * (s.1 163 1)) * (s.1 163 2))
theorem wX11_worlds_s {s : wS} {rv : Int32} (h : wX11_worlds s = some rv) : gEv 1 210 [.ref 153] (wmk s) (some (.int rv), wmk s, 0, 0) := by
  refine gEv_of (d := 0) (L := [some (.ref 153)]) rfl ?_
  unfold wX11_worlds at h
  refine gR_go 1 (pc1 := 1) (L1 := [some (.ref 153)]) (st1 := [.ref 153]) (fun _ _ => rfl) ?_
  refine gR_gfR (k := 152) (k' := 163) rfl rfl rfl rfl ?_
  refine gR_go 1 (pc1 := 5) (L1 := [some (.ref 153)]) (st1 := [.int 0, .ref 164]) (fun _ _ => rfl) ?_
  refine gR_ialc (k := 163) (j := 0) rfl rfl rfl (by decide) rfl ?_
  refine gR_go 1 (pc1 := 7) (L1 := [some (.ref 153)]) (st1 := [.ref 153, .int (s.1 163 0)]) (fun _ _ => rfl) ?_
  refine gR_gfR (k := 152) (k' := 163) rfl rfl rfl rfl ?_
  refine gR_go 1 (pc1 := 11) (L1 := [some (.ref 153)]) (st1 := [.int 1, .ref 164, .int (s.1 163 0)]) (fun _ _ => rfl) ?_
  refine gR_ialc (k := 163) (j := 1) rfl rfl rfl (by decide) rfl ?_
  refine gR_go 2 (pc1 := 14) (L1 := [some (.ref 153)]) (st1 := [.ref 153, .int ((s.1 163 0) * (s.1 163 1))]) (fun _ _ => rfl) ?_
  refine gR_gfR (k := 152) (k' := 163) rfl rfl rfl rfl ?_
  refine gR_go 1 (pc1 := 18) (L1 := [some (.ref 153)]) (st1 := [.int 2, .ref 164, .int ((s.1 163 0) * (s.1 163 1))]) (fun _ _ => rfl) ?_
  refine gR_ialc (k := 163) (j := 2) rfl rfl rfl (by decide) rfl ?_
  refine gR_go 1 (pc1 := 20) (L1 := [some (.ref 153)]) (st1 := [.int (((s.1 163 0) * (s.1 163 1)) * (s.1 163 2))]) (fun _ _ => rfl) ?_
  obtain rfl := gi1 h
  exact gR_ri rfl rfl
noncomputable def wX11_court_h100 : Nat → Int32 → wS → Option (wS)
  | 0, _, _ => none
  | n + 1, x1, s => if x1 < (2 * (s.1 152 8)) then ((wldI s 158 16 x1).bind fun t17 => (wstI s 163 262 (10 + x1) t17).bind fun s18 => wX11_court_h100 n (x1 + 1) s18) else (some s)
theorem wX11_court_t100 {x : wS} {r : ri_R} (he131 : ∀ (s : wS) (w1 : Int32) , x = s → gRun 12 203 131 [some (.ref 153), some (.int w1)] [] (wmk s) r) : ∀ {n : Nat} {x1 : Int32} {s : wS} , wX11_court_h100 n x1 s = some x → gRun 12 203 100 [some (.ref 153), some (.int x1)] [] (wmk s) r := by
  intro n
  induction n with
  | zero => intro x1 s h; cases (show (none : Option (wS)) = some x from h)
  | succ n ih =>
    intro x1 s h
    rw [wX11_court_h100] at h
    refine gR_go 3 (pc1 := 103) (L1 := [some (.ref 153), some (.int x1)]) (st1 := [.ref 153, .int 2, .int x1]) (fun _ _ => rfl) ?_
    refine gR_gfI (k := 152) rfl rfl rfl ?_
    refine gR_go 1 (pc1 := 107) (L1 := [some (.ref 153), some (.int x1)]) (st1 := [.int (2 * (s.1 152 8)), .int x1]) (fun _ _ => rfl) ?_
    rcases gif h with ⟨c16, h⟩ | ⟨c16, h⟩
    · refine gR_ic_ge_f rfl c16 ?_
      refine gR_go 1 (pc1 := 111) (L1 := [some (.ref 153), some (.int x1)]) (st1 := [.ref 153]) (fun _ _ => rfl) ?_
      refine gR_gfR (k := 152) (k' := 163) rfl rfl rfl rfl ?_
      refine gR_go 4 (pc1 := 119) (L1 := [some (.ref 153), some (.int x1)]) (st1 := [.ref 153, .int (10 + x1), .ref 164]) (fun _ _ => rfl) ?_
      refine gR_gfR (k := 152) (k' := 158) rfl rfl rfl rfl ?_
      refine gR_go 1 (pc1 := 123) (L1 := [some (.ref 153), some (.int x1)]) (st1 := [.int x1, .ref 159, .int (10 + x1), .ref 164]) (fun _ _ => rfl) ?_
      obtain ⟨t17, et17, h⟩ := gb h
      refine gR_ial (k := 158) rfl rfl rfl et17 ?_
      obtain ⟨s18, es18, h⟩ := gb h
      refine gR_ias (k := 163) rfl rfl rfl es18 ?_
      refine gR_go 2 (pc1 := 100) (L1 := [some (.ref 153), some (.int (x1 + 1))]) (st1 := []) (fun _ _ => rfl) ?_
      exact ih h
    · refine gR_ic_ge_j rfl c16 rfl ?_
      exact he131 _ _ (Option.some.inj h).symm
noncomputable def wX11_court_h133 : Nat → Int32 → wS → Option (wS)
  | 0, _, _ => none
  | n + 1, x1, s => if x1 < (2 * (s.1 152 9)) then ((wldI s 159 16 x1).bind fun t23 => (wstI s 163 262 (26 + x1) t23).bind fun s24 => wX11_court_h133 n (x1 + 1) s24) else (some s)
theorem wX11_court_t133 {x : wS} {r : ri_R} (he164 : ∀ (s : wS) (w1 : Int32) , x = s → gRun 12 203 164 [some (.ref 153), some (.int w1)] [] (wmk s) r) : ∀ {n : Nat} {x1 : Int32} {s : wS} , wX11_court_h133 n x1 s = some x → gRun 12 203 133 [some (.ref 153), some (.int x1)] [] (wmk s) r := by
  intro n
  induction n with
  | zero => intro x1 s h; cases (show (none : Option (wS)) = some x from h)
  | succ n ih =>
    intro x1 s h
    rw [wX11_court_h133] at h
    refine gR_go 3 (pc1 := 136) (L1 := [some (.ref 153), some (.int x1)]) (st1 := [.ref 153, .int 2, .int x1]) (fun _ _ => rfl) ?_
    refine gR_gfI (k := 152) rfl rfl rfl ?_
    refine gR_go 1 (pc1 := 140) (L1 := [some (.ref 153), some (.int x1)]) (st1 := [.int (2 * (s.1 152 9)), .int x1]) (fun _ _ => rfl) ?_
    rcases gif h with ⟨c22, h⟩ | ⟨c22, h⟩
    · refine gR_ic_ge_f rfl c22 ?_
      refine gR_go 1 (pc1 := 144) (L1 := [some (.ref 153), some (.int x1)]) (st1 := [.ref 153]) (fun _ _ => rfl) ?_
      refine gR_gfR (k := 152) (k' := 163) rfl rfl rfl rfl ?_
      refine gR_go 4 (pc1 := 152) (L1 := [some (.ref 153), some (.int x1)]) (st1 := [.ref 153, .int (26 + x1), .ref 164]) (fun _ _ => rfl) ?_
      refine gR_gfR (k := 152) (k' := 159) rfl rfl rfl rfl ?_
      refine gR_go 1 (pc1 := 156) (L1 := [some (.ref 153), some (.int x1)]) (st1 := [.int x1, .ref 160, .int (26 + x1), .ref 164]) (fun _ _ => rfl) ?_
      obtain ⟨t23, et23, h⟩ := gb h
      refine gR_ial (k := 159) rfl rfl rfl et23 ?_
      obtain ⟨s24, es24, h⟩ := gb h
      refine gR_ias (k := 163) rfl rfl rfl es24 ?_
      refine gR_go 2 (pc1 := 133) (L1 := [some (.ref 153), some (.int (x1 + 1))]) (st1 := []) (fun _ _ => rfl) ?_
      exact ih h
    · refine gR_ic_ge_j rfl c22 rfl ?_
      exact he164 _ _ (Option.some.inj h).symm
noncomputable def wX11_court_j56 (y1 : Int32) (y2 : Int32) (s : wS) : Option (Int32 × wS) := (wstI s 163 262 y1 y2).bind fun s10 => (wstI s10 163 262 1 (s10.1 152 8)).bind fun s11 => (wstI s11 163 262 2 (s11.1 152 9)).bind fun s12 => (wstI s12 163 262 3 0).bind fun s13 => (wstI s13 163 262 4 (-1)).bind fun s14 => (wstI s14 163 262 5 0).bind fun s15 => (wX11_court_h100 wFuel 0 s15).bind fun s20 => (wX11_court_h133 wFuel 0 s20).bind fun s26 => (wX11_worlds s26).bind fun t28 => some (t28, s26)
theorem wX11_court_u56 {y1 : Int32} {y2 : Int32} {s : wS} {w1 : Option Value} {rv : Int32} {rs : wS} (h : wX11_court_j56 y1 y2 s = some (rv, rs)) : gRun 12 203 56 [some (.ref 153), w1] [.int y2, .int y1, .ref 164] (wmk s) (some (.int rv), wmk rs, 0, 0) := by
  unfold wX11_court_j56 at h
  obtain ⟨s10, es10, h⟩ := gb h
  refine gR_ias (k := 163) rfl rfl rfl es10 ?_
  refine gR_go 1 (pc1 := 58) (L1 := [some (.ref 153), w1]) (st1 := [.ref 153]) (fun _ _ => rfl) ?_
  refine gR_gfR (k := 152) (k' := 163) rfl rfl rfl rfl ?_
  refine gR_go 2 (pc1 := 63) (L1 := [some (.ref 153), w1]) (st1 := [.ref 153, .int 1, .ref 164]) (fun _ _ => rfl) ?_
  refine gR_gfI (k := 152) rfl rfl rfl ?_
  obtain ⟨s11, es11, h⟩ := gb h
  refine gR_ias (k := 163) rfl rfl rfl es11 ?_
  refine gR_go 1 (pc1 := 68) (L1 := [some (.ref 153), w1]) (st1 := [.ref 153]) (fun _ _ => rfl) ?_
  refine gR_gfR (k := 152) (k' := 163) rfl rfl rfl rfl ?_
  refine gR_go 2 (pc1 := 73) (L1 := [some (.ref 153), w1]) (st1 := [.ref 153, .int 2, .ref 164]) (fun _ _ => rfl) ?_
  refine gR_gfI (k := 152) rfl rfl rfl ?_
  obtain ⟨s12, es12, h⟩ := gb h
  refine gR_ias (k := 163) rfl rfl rfl es12 ?_
  refine gR_go 1 (pc1 := 78) (L1 := [some (.ref 153), w1]) (st1 := [.ref 153]) (fun _ _ => rfl) ?_
  refine gR_gfR (k := 152) (k' := 163) rfl rfl rfl rfl ?_
  refine gR_go 2 (pc1 := 83) (L1 := [some (.ref 153), w1]) (st1 := [.int 0, .int 3, .ref 164]) (fun _ _ => rfl) ?_
  obtain ⟨s13, es13, h⟩ := gb h
  refine gR_ias (k := 163) rfl rfl rfl es13 ?_
  refine gR_go 1 (pc1 := 85) (L1 := [some (.ref 153), w1]) (st1 := [.ref 153]) (fun _ _ => rfl) ?_
  refine gR_gfR (k := 152) (k' := 163) rfl rfl rfl rfl ?_
  refine gR_go 2 (pc1 := 90) (L1 := [some (.ref 153), w1]) (st1 := [.int (-1), .int 4, .ref 164]) (fun _ _ => rfl) ?_
  obtain ⟨s14, es14, h⟩ := gb h
  refine gR_ias (k := 163) rfl rfl rfl es14 ?_
  refine gR_go 1 (pc1 := 92) (L1 := [some (.ref 153), w1]) (st1 := [.ref 153]) (fun _ _ => rfl) ?_
  refine gR_gfR (k := 152) (k' := 163) rfl rfl rfl rfl ?_
  refine gR_go 2 (pc1 := 97) (L1 := [some (.ref 153), w1]) (st1 := [.int 0, .int 5, .ref 164]) (fun _ _ => rfl) ?_
  obtain ⟨s15, es15, h⟩ := gb h
  refine gR_ias (k := 163) rfl rfl rfl es15 ?_
  refine gR_go 2 (pc1 := 100) (L1 := [some (.ref 153), some (.int 0)]) (st1 := []) (fun _ _ => rfl) ?_
  obtain ⟨z19, ez19, h⟩ := gb h
  refine wX11_court_t100 ?_  ez19
  · intro s20 w21 hz
    replace hz := hz.symm
    subst hz
    refine gR_go 2 (pc1 := 133) (L1 := [some (.ref 153), some (.int 0)]) (st1 := []) (fun _ _ => rfl) ?_
    obtain ⟨z25, ez25, h⟩ := gb h
    refine wX11_court_t133 ?_  ez25
    · intro s26 w27 hz
      replace hz := hz.symm
      subst hz
      refine gR_go 1 (pc1 := 165) (L1 := [some (.ref 153), some (.int w27)]) (st1 := [.ref 153]) (fun _ _ => rfl) ?_
      obtain ⟨t28, e29, h⟩ := gb h
      refine gR_cvI (wX11_worlds_s e29) (Nat.le_of_ble_eq_true rfl) rfl rfl rfl rfl rfl ?_
      obtain ⟨rfl, rfl⟩ := gi2 h
      exact gR_ri rfl rfl
noncomputable def wX11_court (s : wS) : Option (Int32 × wS) := (wpfI s 152 15 6).bind fun s1 => (wpfI s1 152 7 0).bind fun s2 => (wpfI s2 152 8 0).bind fun s3 => (wpfI s3 152 9 0).bind fun s4 => (wX11_readsAll s4).bind fun (t5, s6) => if t5 = 0 then (some ((((Int8.ofInt (-2)).toInt32) - (s6.1 152 13)), s6)) else (if (s6.1 152 7) = 0 then (wX11_court_j56 0 1 s6) else (wX11_court_j56 0 (s6.1 152 7) s6))
theorem wX11_court_s {s : wS} {rv : Int32} {rs : wS} (h : wX11_court s = some (rv, rs)) : gEv 13 203 [.ref 153] (wmk s) (some (.int rv), wmk rs, 0, 0) := by
  refine gEv_of (d := 12) (L := [some (.ref 153), none]) rfl ?_
  unfold wX11_court at h
  refine gR_go 2 (pc1 := 3) (L1 := [some (.ref 153), none]) (st1 := [.int 6, .ref 153]) (fun _ _ => rfl) ?_
  obtain ⟨s1, es1, h⟩ := gb h
  refine gR_pfI (k := 152) rfl rfl rfl rfl es1 ?_
  refine gR_go 2 (pc1 := 8) (L1 := [some (.ref 153), none]) (st1 := [.int 0, .ref 153]) (fun _ _ => rfl) ?_
  obtain ⟨s2, es2, h⟩ := gb h
  refine gR_pfI (k := 152) rfl rfl rfl rfl es2 ?_
  refine gR_go 2 (pc1 := 13) (L1 := [some (.ref 153), none]) (st1 := [.int 0, .ref 153]) (fun _ _ => rfl) ?_
  obtain ⟨s3, es3, h⟩ := gb h
  refine gR_pfI (k := 152) rfl rfl rfl rfl es3 ?_
  refine gR_go 2 (pc1 := 18) (L1 := [some (.ref 153), none]) (st1 := [.int 0, .ref 153]) (fun _ _ => rfl) ?_
  obtain ⟨s4, es4, h⟩ := gb h
  refine gR_pfI (k := 152) rfl rfl rfl rfl es4 ?_
  refine gR_go 1 (pc1 := 22) (L1 := [some (.ref 153), none]) (st1 := [.ref 153]) (fun _ _ => rfl) ?_
  obtain ⟨⟨t5, s6⟩, e7, h⟩ := gb h
  dsimp only at h
  refine gR_cvI (wX11_readsAll_s e7) (Nat.le_of_ble_eq_true rfl) rfl rfl rfl rfl rfl ?_
  rcases gif h with ⟨c8, h⟩ | ⟨c8, h⟩
  · refine gR_iz_ne_f rfl c8 ?_
    refine gR_go 2 (pc1 := 31) (L1 := [some (.ref 153), none]) (st1 := [.ref 153, .int ((Int8.ofInt (-2)).toInt32)]) (fun _ _ => rfl) ?_
    refine gR_gfI (k := 152) rfl rfl rfl ?_
    refine gR_sub rfl ?_
    obtain ⟨rfl, rfl⟩ := gi2 h
    exact gR_ri rfl rfl
  · refine gR_iz_ne_j rfl c8 rfl ?_
    refine gR_go 1 (pc1 := 37) (L1 := [some (.ref 153), none]) (st1 := [.ref 153]) (fun _ _ => rfl) ?_
    refine gR_gfR (k := 152) (k' := 163) rfl rfl rfl rfl ?_
    refine gR_go 2 (pc1 := 42) (L1 := [some (.ref 153), none]) (st1 := [.ref 153, .int 0, .ref 164]) (fun _ _ => rfl) ?_
    refine gR_gfI (k := 152) rfl rfl rfl ?_
    rcases gif h with ⟨c9, h⟩ | ⟨c9, h⟩
    · refine gR_iz_ne_f rfl c9 ?_
      refine gR_go 2 (pc1 := 56) (L1 := [some (.ref 153), none]) (st1 := [.int 1, .int 0, .ref 164]) (fun _ _ => rfl) ?_
      exact wX11_court_u56 h
    · refine gR_iz_ne_j rfl c9 rfl ?_
      refine gR_go 1 (pc1 := 53) (L1 := [some (.ref 153), none]) (st1 := [.ref 153, .int 0, .ref 164]) (fun _ _ => rfl) ?_
      refine gR_gfI (k := 152) rfl rfl rfl ?_
      exact wX11_court_u56 h
noncomputable def wX11_isLaw (x1 : Int32) (s : wS) : Option (Int32) := if x1 < 0 then (some 0) else (if x1 < (s.1 152 2) then (some 1) else (some 0))
theorem wX11_isLaw_s {x1 : Int32} {s : wS} {rv : Int32} (h : wX11_isLaw x1 s = some rv) : gEv 1 204 [.ref 153, .int x1] (wmk s) (some (.int rv), wmk s, 0, 0) := by
  refine gEv_of (d := 0) (L := [some (.ref 153), some (.int x1)]) rfl ?_
  unfold wX11_isLaw at h
  refine gR_go 1 (pc1 := 1) (L1 := [some (.ref 153), some (.int x1)]) (st1 := [.int x1]) (fun _ _ => rfl) ?_
  rcases gif h with ⟨c1, h⟩ | ⟨c1, h⟩
  · refine gR_iz_lt_j rfl c1 rfl ?_
    refine gR_go 1 (pc1 := 17) (L1 := [some (.ref 153), some (.int x1)]) (st1 := [.int 0]) (fun _ _ => rfl) ?_
    obtain rfl := gi1 h
    exact gR_rzc rfl rfl rfl
  · refine gR_iz_lt_f rfl c1 ?_
    refine gR_go 2 (pc1 := 6) (L1 := [some (.ref 153), some (.int x1)]) (st1 := [.ref 153, .int x1]) (fun _ _ => rfl) ?_
    refine gR_gfI (k := 152) rfl rfl rfl ?_
    rcases gif h with ⟨c2, h⟩ | ⟨c2, h⟩
    · refine gR_ic_ge_f rfl c2 ?_
      refine gR_go 2 (pc1 := 17) (L1 := [some (.ref 153), some (.int x1)]) (st1 := [.int 1]) (fun _ _ => rfl) ?_
      obtain rfl := gi1 h
      exact gR_rzc rfl rfl rfl
    · refine gR_ic_ge_j rfl c2 rfl ?_
      refine gR_go 1 (pc1 := 17) (L1 := [some (.ref 153), some (.int x1)]) (st1 := [.int 0]) (fun _ _ => rfl) ?_
      obtain rfl := gi1 h
      exact gR_rzc rfl rfl rfl
noncomputable def wX11_push (x1 : Int64) (s : wS) : Option (wS) := (wstL s 161 64 (s.1 152 22) x1).bind fun s1 => (wpfI s1 152 22 ((s1.1 152 22) + 1)).bind fun s2 => some s2
theorem wX11_push_s {x1 : Int64} {s : wS} {rs : wS} (h : wX11_push x1 s = some rs) : gEv 1 205 [.ref 153, .long x1] (wmk s) (none, wmk rs, 0, 0) := by
  refine gEv_of (d := 0) (L := [some (.ref 153), some (.long x1), none]) rfl ?_
  unfold wX11_push at h
  refine gR_go 1 (pc1 := 1) (L1 := [some (.ref 153), some (.long x1), none]) (st1 := [.ref 153]) (fun _ _ => rfl) ?_
  refine gR_gfR (k := 152) (k' := 161) rfl rfl rfl rfl ?_
  refine gR_go 1 (pc1 := 5) (L1 := [some (.ref 153), some (.long x1), none]) (st1 := [.ref 153, .ref 162]) (fun _ _ => rfl) ?_
  refine gR_gfI (k := 152) rfl rfl rfl ?_
  refine gR_go 1 (pc1 := 9) (L1 := [some (.ref 153), some (.long x1), none]) (st1 := [.long x1, .int (s.1 152 22), .ref 162]) (fun _ _ => rfl) ?_
  obtain ⟨s1, es1, h⟩ := gb h
  refine gR_las (k := 161) rfl rfl rfl es1 ?_
  refine gR_go 2 (pc1 := 12) (L1 := [some (.ref 153), some (.long x1), none]) (st1 := [.ref 153, .ref 153]) (fun _ _ => rfl) ?_
  refine gR_gfI (k := 152) rfl rfl rfl ?_
  refine gR_go 2 (pc1 := 17) (L1 := [some (.ref 153), some (.long x1), none]) (st1 := [.int ((s1.1 152 22) + 1), .ref 153]) (fun _ _ => rfl) ?_
  obtain ⟨s2, es2, h⟩ := gb h
  refine gR_pfI (k := 152) rfl rfl rfl rfl es2 ?_
  obtain rfl := gi1 h
  exact gR_rv rfl rfl
noncomputable def wX11_pop (s : wS) : Option (Int64 × wS) := (wpfI s 152 22 ((s.1 152 22) - 1)).bind fun s1 => (wldL s1 161 64 (s1.1 152 22)).bind fun t2 => some (t2, s1)
theorem wX11_pop_s {s : wS} {rv : Int64} {rs : wS} (h : wX11_pop s = some (rv, rs)) : gEv 1 206 [.ref 153] (wmk s) (some (.long rv), wmk rs, 0, 0) := by
  refine gEv_of (d := 0) (L := [some (.ref 153)]) rfl ?_
  unfold wX11_pop at h
  refine gR_go 2 (pc1 := 2) (L1 := [some (.ref 153)]) (st1 := [.ref 153, .ref 153]) (fun _ _ => rfl) ?_
  refine gR_gfI (k := 152) rfl rfl rfl ?_
  refine gR_go 2 (pc1 := 7) (L1 := [some (.ref 153)]) (st1 := [.int ((s.1 152 22) - 1), .ref 153]) (fun _ _ => rfl) ?_
  obtain ⟨s1, es1, h⟩ := gb h
  refine gR_pfI (k := 152) rfl rfl rfl rfl es1 ?_
  refine gR_go 1 (pc1 := 11) (L1 := [some (.ref 153)]) (st1 := [.ref 153]) (fun _ _ => rfl) ?_
  refine gR_gfR (k := 152) (k' := 161) rfl rfl rfl rfl ?_
  refine gR_go 1 (pc1 := 15) (L1 := [some (.ref 153)]) (st1 := [.ref 153, .ref 162]) (fun _ _ => rfl) ?_
  refine gR_gfI (k := 152) rfl rfl rfl ?_
  obtain ⟨t2, et2, h⟩ := gb h
  refine gR_lal (k := 161) rfl rfl rfl et2 ?_
  obtain ⟨rfl, rfl⟩ := gi2 h
  exact gR_rl rfl rfl
noncomputable def wX11_one_j150 (x1 : Int64) (x3 : Int64) (s : wS) : Option (Int64) := some (x1 ||| x3)
theorem wX11_one_u150 {x1 : Int64} {x3 : Int64} {s : wS} {w0 : Int32} {rv : Int64} (h : wX11_one_j150 x1 x3 s = some rv) : gRun 0 207 150 [some (.int w0), some (.long x1), none, some (.long x3), none] [] (wmk s) (some (.long rv), wmk s, 0, 0) := by
  unfold wX11_one_j150 at h
  refine gR_go 3 (pc1 := 153) (L1 := [some (.int w0), some (.long x1), none, some (.long x3), none]) (st1 := [.long (x1 ||| x3)]) (fun _ _ => rfl) ?_
  obtain rfl := gi1 h
  exact gR_rl rfl rfl
noncomputable def wX11_one (x0 : Int32) (x1 : Int64) (x3 : Int64) (s : wS) : Option (Int64) := if x0 = 2 then (some (x1 + x3)) else if x0 = 3 then (some (x1 - x3)) else if x0 = 4 then (some (x1 * x3)) else if x0 = 5 then (if x3 = 0 then (some 0) else ((wdvL x1 x3).bind fun t6 => some t6)) else if x0 = 6 then (if x1 < x3 then (some 1) else (some 0)) else if x0 = 7 then (if x3 < x1 then (some 0) else (some 1)) else if x0 = 8 then (if x1 = x3 then (some 1) else (some 0)) else if x0 = 9 then (if x1 < x3 then (some 0) else (some 1)) else if x0 = 10 then (if x3 < x1 then (some 1) else (some 0)) else if x0 = 12 then (some (x1 &&& x3)) else (wX11_one_j150 x1 x3 s)
theorem wX11_one_s {x0 : Int32} {x1 : Int64} {x3 : Int64} {s : wS} {rv : Int64} (h : wX11_one x0 x1 x3 s = some rv) : gEv 1 207 [.int x0, .long x1, .long x3] (wmk s) (some (.long rv), wmk s, 0, 0) := by
  refine gEv_of (d := 0) (L := [some (.int x0), some (.long x1), none, some (.long x3), none]) rfl ?_
  unfold wX11_one at h
  refine gR_go 1 (pc1 := 1) (L1 := [some (.int x0), some (.long x1), none, some (.long x3), none]) (st1 := [.int x0]) (fun _ _ => rfl) ?_
  rcases gif h with ⟨c1, h⟩ | ⟨c1, h⟩
  · refine gR_sw_k rfl c1 rfl rfl ?_
    refine gR_go 3 (pc1 := 63) (L1 := [some (.int x0), some (.long x1), none, some (.long x3), none]) (st1 := [.long (x1 + x3)]) (fun _ _ => rfl) ?_
    obtain rfl := gi1 h
    exact gR_rl rfl rfl
  · rcases gif h with ⟨c2, h⟩ | ⟨c2, h⟩
    · refine gR_sw_k rfl c2 rfl rfl ?_
      refine gR_go 3 (pc1 := 67) (L1 := [some (.int x0), some (.long x1), none, some (.long x3), none]) (st1 := [.long (x1 - x3)]) (fun _ _ => rfl) ?_
      obtain rfl := gi1 h
      exact gR_rl rfl rfl
    · rcases gif h with ⟨c3, h⟩ | ⟨c3, h⟩
      · refine gR_sw_k rfl c3 rfl rfl ?_
        refine gR_go 3 (pc1 := 71) (L1 := [some (.int x0), some (.long x1), none, some (.long x3), none]) (st1 := [.long (x1 * x3)]) (fun _ _ => rfl) ?_
        obtain rfl := gi1 h
        exact gR_rl rfl rfl
      · rcases gif h with ⟨c4, h⟩ | ⟨c4, h⟩
        · refine gR_sw_k rfl c4 rfl rfl ?_
          refine gR_go 3 (pc1 := 75) (L1 := [some (.int x0), some (.long x1), none, some (.long x3), none]) (st1 := [.int (lg_cmp x3 0)]) (fun _ _ => rfl) ?_
          rcases gif h with ⟨c5, h⟩ | ⟨c5, h⟩
          · refine gR_lc_ne_f rfl c5 ?_
            refine gR_go 2 (pc1 := 85) (L1 := [some (.int x0), some (.long x1), none, some (.long x3), none]) (st1 := [.long 0]) (fun _ _ => rfl) ?_
            obtain rfl := gi1 h
            exact gR_rl rfl rfl
          · refine gR_lc_ne_j rfl c5 rfl ?_
            refine gR_go 2 (pc1 := 84) (L1 := [some (.int x0), some (.long x1), none, some (.long x3), none]) (st1 := [.long x3, .long x1]) (fun _ _ => rfl) ?_
            obtain ⟨t6, et6, h⟩ := gb h
            refine gR_dvL rfl et6 ?_
            obtain rfl := gi1 h
            exact gR_rl rfl rfl
        · rcases gif h with ⟨c7, h⟩ | ⟨c7, h⟩
          · refine gR_sw_k rfl c7 rfl rfl ?_
            refine gR_go 3 (pc1 := 89) (L1 := [some (.int x0), some (.long x1), none, some (.long x3), none]) (st1 := [.int (lg_cmp x1 x3)]) (fun _ _ => rfl) ?_
            rcases gif h with ⟨c8, h⟩ | ⟨c8, h⟩
            · refine gR_lc_ge_f rfl c8 ?_
              refine gR_go 2 (pc1 := 97) (L1 := [some (.int x0), some (.long x1), none, some (.long x3), none]) (st1 := [.long 1]) (fun _ _ => rfl) ?_
              obtain rfl := gi1 h
              exact gR_rl rfl rfl
            · refine gR_lc_ge_j rfl c8 rfl ?_
              refine gR_go 1 (pc1 := 97) (L1 := [some (.int x0), some (.long x1), none, some (.long x3), none]) (st1 := [.long 0]) (fun _ _ => rfl) ?_
              obtain rfl := gi1 h
              exact gR_rl rfl rfl
          · rcases gif h with ⟨c9, h⟩ | ⟨c9, h⟩
            · refine gR_sw_k rfl c9 rfl rfl ?_
              refine gR_go 3 (pc1 := 101) (L1 := [some (.int x0), some (.long x1), none, some (.long x3), none]) (st1 := [.int (lg_cmp x1 x3)]) (fun _ _ => rfl) ?_
              rcases gif h with ⟨c10, h⟩ | ⟨c10, h⟩
              · refine gR_lc_gt_j rfl c10 rfl ?_
                refine gR_go 1 (pc1 := 109) (L1 := [some (.int x0), some (.long x1), none, some (.long x3), none]) (st1 := [.long 0]) (fun _ _ => rfl) ?_
                obtain rfl := gi1 h
                exact gR_rl rfl rfl
              · refine gR_lc_gt_f rfl c10 ?_
                refine gR_go 2 (pc1 := 109) (L1 := [some (.int x0), some (.long x1), none, some (.long x3), none]) (st1 := [.long 1]) (fun _ _ => rfl) ?_
                obtain rfl := gi1 h
                exact gR_rl rfl rfl
            · rcases gif h with ⟨c11, h⟩ | ⟨c11, h⟩
              · refine gR_sw_k rfl c11 rfl rfl ?_
                refine gR_go 3 (pc1 := 113) (L1 := [some (.int x0), some (.long x1), none, some (.long x3), none]) (st1 := [.int (lg_cmp x1 x3)]) (fun _ _ => rfl) ?_
                rcases gif h with ⟨c12, h⟩ | ⟨c12, h⟩
                · refine gR_lc_ne_f rfl c12 ?_
                  refine gR_go 2 (pc1 := 121) (L1 := [some (.int x0), some (.long x1), none, some (.long x3), none]) (st1 := [.long 1]) (fun _ _ => rfl) ?_
                  obtain rfl := gi1 h
                  exact gR_rl rfl rfl
                · refine gR_lc_ne_j rfl c12 rfl ?_
                  refine gR_go 1 (pc1 := 121) (L1 := [some (.int x0), some (.long x1), none, some (.long x3), none]) (st1 := [.long 0]) (fun _ _ => rfl) ?_
                  obtain rfl := gi1 h
                  exact gR_rl rfl rfl
              · rcases gif h with ⟨c13, h⟩ | ⟨c13, h⟩
                · refine gR_sw_k rfl c13 rfl rfl ?_
                  refine gR_go 3 (pc1 := 125) (L1 := [some (.int x0), some (.long x1), none, some (.long x3), none]) (st1 := [.int (lg_cmp x1 x3)]) (fun _ _ => rfl) ?_
                  rcases gif h with ⟨c14, h⟩ | ⟨c14, h⟩
                  · refine gR_lc_lt_j rfl c14 rfl ?_
                    refine gR_go 1 (pc1 := 133) (L1 := [some (.int x0), some (.long x1), none, some (.long x3), none]) (st1 := [.long 0]) (fun _ _ => rfl) ?_
                    obtain rfl := gi1 h
                    exact gR_rl rfl rfl
                  · refine gR_lc_lt_f rfl c14 ?_
                    refine gR_go 2 (pc1 := 133) (L1 := [some (.int x0), some (.long x1), none, some (.long x3), none]) (st1 := [.long 1]) (fun _ _ => rfl) ?_
                    obtain rfl := gi1 h
                    exact gR_rl rfl rfl
                · rcases gif h with ⟨c15, h⟩ | ⟨c15, h⟩
                  · refine gR_sw_k rfl c15 rfl rfl ?_
                    refine gR_go 3 (pc1 := 137) (L1 := [some (.int x0), some (.long x1), none, some (.long x3), none]) (st1 := [.int (lg_cmp x1 x3)]) (fun _ _ => rfl) ?_
                    rcases gif h with ⟨c16, h⟩ | ⟨c16, h⟩
                    · refine gR_lc_le_f rfl c16 ?_
                      refine gR_go 2 (pc1 := 145) (L1 := [some (.int x0), some (.long x1), none, some (.long x3), none]) (st1 := [.long 1]) (fun _ _ => rfl) ?_
                      obtain rfl := gi1 h
                      exact gR_rl rfl rfl
                    · refine gR_lc_le_j rfl c16 rfl ?_
                      refine gR_go 1 (pc1 := 145) (L1 := [some (.int x0), some (.long x1), none, some (.long x3), none]) (st1 := [.long 0]) (fun _ _ => rfl) ?_
                      obtain rfl := gi1 h
                      exact gR_rl rfl rfl
                  · rcases gif h with ⟨c17, h⟩ | ⟨c17, h⟩
                    · refine gR_sw_k rfl c17 rfl rfl ?_
                      refine gR_go 3 (pc1 := 149) (L1 := [some (.int x0), some (.long x1), none, some (.long x3), none]) (st1 := [.long (x1 &&& x3)]) (fun _ _ => rfl) ?_
                      obtain rfl := gi1 h
                      exact gR_rl rfl rfl
                    · refine gR_sw_d [2, 3, 4, 5, 6, 7, 8, 9, 10, 12] rfl (gl1 c1 (gl1 c2 (gl1 c3 (gl1 c4 (gl1 c7 (gl1 c9 (gl1 c11 (gl1 c13 (gl1 c15 (gl1 c17 gl0)))))))))) (by decide) (by decide) rfl ?_
                      exact wX11_one_u150 h
noncomputable def wX11_reckons_j129 (qq : Int32 → wS → Option (wS)) (x1 : Int32) (x3 : Int32) (x4 : Int32) (s : wS) : Option (wS) := qq (x4 + 1) s
theorem wX11_reckons_u129 {x1 : Int32} {x3 : Int32} {x4 : Int32} {s : wS} {w2 : Int32} {w5 : Int32} {w6 : Int32} {w7 : Option Value} {w8 : Option Value} {w9 : Option Value} {w10 : Option Value} {qq : Int32 → wS → Option (wS)} {x : wS} {r : ri_R} (ih : ∀ {x4 : Int32} {s : wS} {w2 : Int32} {w5 : Option Value} {w6 : Option Value} {w7 : Option Value} {w8 : Option Value} {w9 : Option Value} {w10 : Option Value} , qq x4 s = some x → gRun 1 208 8 [some (.ref 153), some (.int x1), some (.int w2), some (.int x3), some (.int x4), w5, w6, w7, w8, w9, w10] [] (wmk s) r) (he135 : ∀ (s : wS) (w1 : Int32) (w2 : Int32) (w3 : Int32) (w4 : Int32) (w5 : Option Value) (w6 : Option Value) (w7 : Option Value) (w8 : Option Value) (w9 : Option Value) (w10 : Option Value) , x = s → gRun 1 208 135 [some (.ref 153), some (.int w1), some (.int w2), some (.int w3), some (.int w4), w5, w6, w7, w8, w9, w10] [] (wmk s) r) (h : wX11_reckons_j129 qq x1 x3 x4 s = some x) : gRun 1 208 129 [some (.ref 153), some (.int x1), some (.int w2), some (.int x3), some (.int x4), some (.int w5), some (.int w6), w7, w8, w9, w10] [] (wmk s) r := by
  unfold wX11_reckons_j129 at h
  refine gR_go 2 (pc1 := 8) (L1 := [some (.ref 153), some (.int x1), some (.int w2), some (.int x3), some (.int (x4 + 1)), some (.int w5), some (.int w6), w7, w8, w9, w10]) (st1 := []) (fun _ _ => rfl) ?_
  exact ih h
noncomputable def wX11_reckons_h8 (x1 : Int32) (x3 : Int32) : Nat → Int32 → wS → Option (wS)
  | 0, _, _ => none
  | n + 1, x4, s => if x4 < x3 then ((wldI s 154 2400 ((400 * x1) + x4)).bind fun t3 => (wldI s 154 2400 ((400 * x1) + x4)).bind fun t4 => if (t3 &&& 15) = 0 then ((wX11_push (((t4 >>> (4 &&& 31)) : Int32).toInt64) s).bind fun s7 => wX11_reckons_j129 (wX11_reckons_h8 x1 x3 n) x1 x3 x4 s7) else (if (t3 &&& 15) = 1 then ((wldL s 162 8 (t4 >>> (4 &&& 31))).bind fun t10 => (wX11_push t10 s).bind fun s12 => wX11_reckons_j129 (wX11_reckons_h8 x1 x3 n) x1 x3 x4 s12) else (if (t3 &&& 15) = 11 then ((wX11_pop s).bind fun (t15, s16) => (wX11_push (1 - t15) s16).bind fun s19 => wX11_reckons_j129 (wX11_reckons_h8 x1 x3 n) x1 x3 x4 s19) else ((wX11_pop s).bind fun (t21, s22) => (wX11_pop s22).bind fun (t24, s25) => (wX11_one (t3 &&& 15) t24 t21 s25).bind fun t27 => (wX11_push t27 s25).bind fun s30 => wX11_reckons_j129 (wX11_reckons_h8 x1 x3 n) x1 x3 x4 s30)))) else (some s)
theorem wX11_reckons_t8 {x1 : Int32} {x3 : Int32} {x : wS} {r : ri_R} (he135 : ∀ (s : wS) (w1 : Int32) (w2 : Int32) (w3 : Int32) (w4 : Int32) (w5 : Option Value) (w6 : Option Value) (w7 : Option Value) (w8 : Option Value) (w9 : Option Value) (w10 : Option Value) , x = s → gRun 1 208 135 [some (.ref 153), some (.int w1), some (.int w2), some (.int w3), some (.int w4), w5, w6, w7, w8, w9, w10] [] (wmk s) r) : ∀ {n : Nat} {x4 : Int32} {s : wS} {w2 : Int32} {w5 : Option Value} {w6 : Option Value} {w7 : Option Value} {w8 : Option Value} {w9 : Option Value} {w10 : Option Value} , wX11_reckons_h8 x1 x3 n x4 s = some x → gRun 1 208 8 [some (.ref 153), some (.int x1), some (.int w2), some (.int x3), some (.int x4), w5, w6, w7, w8, w9, w10] [] (wmk s) r := by
  intro n
  induction n with
  | zero => intro x4 s w2 w5 w6 w7 w8 w9 w10 h; cases (show (none : Option (wS)) = some x from h)
  | succ n ih =>
    intro x4 s w2 w5 w6 w7 w8 w9 w10 h
    rw [wX11_reckons_h8] at h
    refine gR_go 2 (pc1 := 11) (L1 := [some (.ref 153), some (.int x1), some (.int w2), some (.int x3), some (.int x4), w5, w6, w7, w8, w9, w10]) (st1 := [.int x3, .int x4]) (fun _ _ => rfl) ?_
    rcases gif h with ⟨c2, h⟩ | ⟨c2, h⟩
    · refine gR_ic_ge_f rfl c2 ?_
      refine gR_go 1 (pc1 := 15) (L1 := [some (.ref 153), some (.int x1), some (.int w2), some (.int x3), some (.int x4), w5, w6, w7, w8, w9, w10]) (st1 := [.ref 153]) (fun _ _ => rfl) ?_
      refine gR_gfR (k := 152) (k' := 154) rfl rfl rfl rfl ?_
      refine gR_go 5 (pc1 := 26) (L1 := [some (.ref 153), some (.int x1), some (.int w2), some (.int x3), some (.int x4), w5, w6, w7, w8, w9, w10]) (st1 := [.int ((400 * x1) + x4), .ref 155]) (fun _ _ => rfl) ?_
      obtain ⟨t3, et3, h⟩ := gb h
      refine gR_ial (k := 154) rfl rfl rfl et3 ?_
      refine gR_go 4 (pc1 := 33) (L1 := [some (.ref 153), some (.int x1), some (.int w2), some (.int x3), some (.int x4), some (.int (t3 &&& 15)), w6, w7, w8, w9, w10]) (st1 := [.ref 153]) (fun _ _ => rfl) ?_
      refine gR_gfR (k := 152) (k' := 154) rfl rfl rfl rfl ?_
      refine gR_go 5 (pc1 := 44) (L1 := [some (.ref 153), some (.int x1), some (.int w2), some (.int x3), some (.int x4), some (.int (t3 &&& 15)), w6, w7, w8, w9, w10]) (st1 := [.int ((400 * x1) + x4), .ref 155]) (fun _ _ => rfl) ?_
      obtain ⟨t4, et4, h⟩ := gb h
      refine gR_ial (k := 154) rfl rfl rfl et4 ?_
      refine gR_go 4 (pc1 := 51) (L1 := [some (.ref 153), some (.int x1), some (.int w2), some (.int x3), some (.int x4), some (.int (t3 &&& 15)), some (.int (t4 >>> (4 &&& 31))), w7, w8, w9, w10]) (st1 := [.int (t3 &&& 15)]) (fun _ _ => rfl) ?_
      rcases gif h with ⟨c5, h⟩ | ⟨c5, h⟩
      · refine gR_iz_ne_f rfl c5 ?_
        refine gR_go 3 (pc1 := 58) (L1 := [some (.ref 153), some (.int x1), some (.int w2), some (.int x3), some (.int x4), some (.int (t3 &&& 15)), some (.int (t4 >>> (4 &&& 31))), w7, w8, w9, w10]) (st1 := [.long (((t4 >>> (4 &&& 31)) : Int32).toInt64), .ref 153]) (fun _ _ => rfl) ?_
        obtain ⟨s7, e8, h⟩ := gb h
        refine gR_cvV (wX11_push_s e8) (Nat.le_of_ble_eq_true rfl) rfl rfl rfl rfl rfl ?_
        refine gR_go 1 (pc1 := 129) (L1 := [some (.ref 153), some (.int x1), some (.int w2), some (.int x3), some (.int x4), some (.int (t3 &&& 15)), some (.int (t4 >>> (4 &&& 31))), w7, w8, w9, w10]) (st1 := []) (fun _ _ => rfl) ?_
        exact wX11_reckons_u129 ih he135 h
      · refine gR_iz_ne_j rfl c5 rfl ?_
        refine gR_go 2 (pc1 := 67) (L1 := [some (.ref 153), some (.int x1), some (.int w2), some (.int x3), some (.int x4), some (.int (t3 &&& 15)), some (.int (t4 >>> (4 &&& 31))), w7, w8, w9, w10]) (st1 := [.int 1, .int (t3 &&& 15)]) (fun _ _ => rfl) ?_
        rcases gif h with ⟨c9, h⟩ | ⟨c9, h⟩
        · refine gR_ic_ne_f rfl c9 ?_
          refine gR_go 2 (pc1 := 72) (L1 := [some (.ref 153), some (.int x1), some (.int w2), some (.int x3), some (.int x4), some (.int (t3 &&& 15)), some (.int (t4 >>> (4 &&& 31))), w7, w8, w9, w10]) (st1 := [.ref 153, .ref 153]) (fun _ _ => rfl) ?_
          refine gR_gfR (k := 152) (k' := 162) rfl rfl rfl rfl ?_
          refine gR_go 1 (pc1 := 77) (L1 := [some (.ref 153), some (.int x1), some (.int w2), some (.int x3), some (.int x4), some (.int (t3 &&& 15)), some (.int (t4 >>> (4 &&& 31))), w7, w8, w9, w10]) (st1 := [.int (t4 >>> (4 &&& 31)), .ref 163, .ref 153]) (fun _ _ => rfl) ?_
          obtain ⟨t10, et10, h⟩ := gb h
          refine gR_lal (k := 162) rfl rfl rfl et10 ?_
          obtain ⟨s12, e13, h⟩ := gb h
          refine gR_cvV (wX11_push_s e13) (Nat.le_of_ble_eq_true rfl) rfl rfl rfl rfl rfl ?_
          refine gR_go 1 (pc1 := 129) (L1 := [some (.ref 153), some (.int x1), some (.int w2), some (.int x3), some (.int x4), some (.int (t3 &&& 15)), some (.int (t4 >>> (4 &&& 31))), w7, w8, w9, w10]) (st1 := []) (fun _ _ => rfl) ?_
          exact wX11_reckons_u129 ih he135 h
        · refine gR_ic_ne_j rfl c9 rfl ?_
          refine gR_go 2 (pc1 := 88) (L1 := [some (.ref 153), some (.int x1), some (.int w2), some (.int x3), some (.int x4), some (.int (t3 &&& 15)), some (.int (t4 >>> (4 &&& 31))), w7, w8, w9, w10]) (st1 := [.int 11, .int (t3 &&& 15)]) (fun _ _ => rfl) ?_
          rcases gif h with ⟨c14, h⟩ | ⟨c14, h⟩
          · refine gR_ic_ne_f rfl c14 ?_
            refine gR_go 3 (pc1 := 94) (L1 := [some (.ref 153), some (.int x1), some (.int w2), some (.int x3), some (.int x4), some (.int (t3 &&& 15)), some (.int (t4 >>> (4 &&& 31))), w7, w8, w9, w10]) (st1 := [.ref 153, .long 1, .ref 153]) (fun _ _ => rfl) ?_
            obtain ⟨⟨t15, s16⟩, e17, h⟩ := gb h
            dsimp only at h
            refine gR_cvL (wX11_pop_s e17) (Nat.le_of_ble_eq_true rfl) rfl rfl rfl rfl rfl ?_
            refine gR_go 1 (pc1 := 98) (L1 := [some (.ref 153), some (.int x1), some (.int w2), some (.int x3), some (.int x4), some (.int (t3 &&& 15)), some (.int (t4 >>> (4 &&& 31))), w7, w8, w9, w10]) (st1 := [.long (1 - t15), .ref 153]) (fun _ _ => rfl) ?_
            obtain ⟨s19, e20, h⟩ := gb h
            refine gR_cvV (wX11_push_s e20) (Nat.le_of_ble_eq_true rfl) rfl rfl rfl rfl rfl ?_
            refine gR_go 1 (pc1 := 129) (L1 := [some (.ref 153), some (.int x1), some (.int w2), some (.int x3), some (.int x4), some (.int (t3 &&& 15)), some (.int (t4 >>> (4 &&& 31))), w7, w8, w9, w10]) (st1 := []) (fun _ _ => rfl) ?_
            exact wX11_reckons_u129 ih he135 h
          · refine gR_ic_ne_j rfl c14 rfl ?_
            refine gR_go 1 (pc1 := 105) (L1 := [some (.ref 153), some (.int x1), some (.int w2), some (.int x3), some (.int x4), some (.int (t3 &&& 15)), some (.int (t4 >>> (4 &&& 31))), w7, w8, w9, w10]) (st1 := [.ref 153]) (fun _ _ => rfl) ?_
            obtain ⟨⟨t21, s22⟩, e23, h⟩ := gb h
            dsimp only at h
            refine gR_cvL (wX11_pop_s e23) (Nat.le_of_ble_eq_true rfl) rfl rfl rfl rfl rfl ?_
            refine gR_go 2 (pc1 := 111) (L1 := [some (.ref 153), some (.int x1), some (.int w2), some (.int x3), some (.int x4), some (.int (t3 &&& 15)), some (.int (t4 >>> (4 &&& 31))), some (.long t21), none, w9, w10]) (st1 := [.ref 153]) (fun _ _ => rfl) ?_
            obtain ⟨⟨t24, s25⟩, e26, h⟩ := gb h
            dsimp only at h
            refine gR_cvL (wX11_pop_s e26) (Nat.le_of_ble_eq_true rfl) rfl rfl rfl rfl rfl ?_
            refine gR_go 5 (pc1 := 123) (L1 := [some (.ref 153), some (.int x1), some (.int w2), some (.int x3), some (.int x4), some (.int (t3 &&& 15)), some (.int (t4 >>> (4 &&& 31))), some (.long t21), none, some (.long t24), none]) (st1 := [.long t21, .long t24, .int (t3 &&& 15), .ref 153]) (fun _ _ => rfl) ?_
            obtain ⟨t27, e28, h⟩ := gb h
            refine gR_csL (wX11_one_s e28) (Nat.le_of_ble_eq_true rfl) rfl rfl rfl rfl ?_
            obtain ⟨s30, e31, h⟩ := gb h
            refine gR_cvV (wX11_push_s e31) (Nat.le_of_ble_eq_true rfl) rfl rfl rfl rfl rfl ?_
            exact wX11_reckons_u129 ih he135 h
    · refine gR_ic_ge_j rfl c2 rfl ?_
      exact he135 _ _ _ _ _ _ _ _ _ _ _ (Option.some.inj h).symm
noncomputable def wX11_reckons (x1 : Int32) (x2 : Int32) (x3 : Int32) (s : wS) : Option (Int64 × wS) := (wpfI s 152 22 0).bind fun s1 => (wX11_reckons_h8 x1 x3 wFuel x2 s1).bind fun s33 => (wX11_pop s33).bind fun (t44, s45) => some (t44, s45)
theorem wX11_reckons_s {x1 : Int32} {x2 : Int32} {x3 : Int32} {s : wS} {rv : Int64} {rs : wS} (h : wX11_reckons x1 x2 x3 s = some (rv, rs)) : gEv 2 208 [.ref 153, .int x1, .int x2, .int x3] (wmk s) (some (.long rv), wmk rs, 0, 0) := by
  refine gEv_of (d := 1) (L := [some (.ref 153), some (.int x1), some (.int x2), some (.int x3), none, none, none, none, none, none, none]) rfl ?_
  unfold wX11_reckons at h
  refine gR_go 2 (pc1 := 2) (L1 := [some (.ref 153), some (.int x1), some (.int x2), some (.int x3), none, none, none, none, none, none, none]) (st1 := [.int 0, .ref 153]) (fun _ _ => rfl) ?_
  obtain ⟨s1, es1, h⟩ := gb h
  refine gR_pfI (k := 152) rfl rfl rfl rfl es1 ?_
  refine gR_go 2 (pc1 := 8) (L1 := [some (.ref 153), some (.int x1), some (.int x2), some (.int x3), some (.int x2), none, none, none, none, none, none]) (st1 := []) (fun _ _ => rfl) ?_
  obtain ⟨z32, ez32, h⟩ := gb h
  refine wX11_reckons_t8 ?_  ez32
  · intro s33 w34 w35 w36 w37 w38 w39 w40 w41 w42 w43 hz
    replace hz := hz.symm
    subst hz
    refine gR_go 1 (pc1 := 136) (L1 := [some (.ref 153), some (.int w34), some (.int w35), some (.int w36), some (.int w37), w38, w39, w40, w41, w42, w43]) (st1 := [.ref 153]) (fun _ _ => rfl) ?_
    obtain ⟨⟨t44, s45⟩, e46, h⟩ := gb h
    dsimp only at h
    refine gR_cvL (wX11_pop_s e46) (Nat.le_of_ble_eq_true rfl) rfl rfl rfl rfl rfl ?_
    obtain ⟨rfl, rfl⟩ := gi2 h
    exact gR_rl rfl rfl
noncomputable def wX11_isCourt (s : wS) : Option (Int32) := if 0 < (s.1 163 0) then (some 1) else (some 0)
theorem wX11_isCourt_s {s : wS} {rv : Int32} (h : wX11_isCourt s = some rv) : gEv 1 209 [.ref 153] (wmk s) (some (.int rv), wmk s, 0, 0) := by
  refine gEv_of (d := 0) (L := [some (.ref 153)]) rfl ?_
  unfold wX11_isCourt at h
  refine gR_go 1 (pc1 := 1) (L1 := [some (.ref 153)]) (st1 := [.ref 153]) (fun _ _ => rfl) ?_
  refine gR_gfR (k := 152) (k' := 163) rfl rfl rfl rfl ?_
  refine gR_go 1 (pc1 := 5) (L1 := [some (.ref 153)]) (st1 := [.int 0, .ref 164]) (fun _ _ => rfl) ?_
  refine gR_ialc (k := 163) (j := 0) rfl rfl rfl (by decide) rfl ?_
  rcases gif h with ⟨c2, h⟩ | ⟨c2, h⟩
  · refine gR_iz_le_f rfl c2 ?_
    refine gR_go 2 (pc1 := 14) (L1 := [some (.ref 153)]) (st1 := [.int 1]) (fun _ _ => rfl) ?_
    obtain rfl := gi1 h
    exact gR_rzc rfl rfl rfl
  · refine gR_iz_le_j rfl c2 rfl ?_
    refine gR_go 1 (pc1 := 14) (L1 := [some (.ref 153)]) (st1 := [.int 0]) (fun _ _ => rfl) ?_
    obtain rfl := gi1 h
    exact gR_rzc rfl rfl rfl
noncomputable def wX11_isKind (x1 : Int32) (s : wS) : Option (Int32) := (wX11_isCourt s).bind fun t1 => if t1 = 0 then (some 0) else ((wX11_in ((x1 : Int32).toInt64) 0 2 s).bind fun t4 => if t4 = 0 then (some 0) else (some 1))
theorem wX11_isKind_s {x1 : Int32} {s : wS} {rv : Int32} (h : wX11_isKind x1 s = some rv) : gEv 2 211 [.ref 153, .int x1] (wmk s) (some (.int rv), wmk s, 0, 0) := by
  refine gEv_of (d := 1) (L := [some (.ref 153), some (.int x1)]) rfl ?_
  unfold wX11_isKind at h
  refine gR_go 1 (pc1 := 1) (L1 := [some (.ref 153), some (.int x1)]) (st1 := [.ref 153]) (fun _ _ => rfl) ?_
  obtain ⟨t1, e2, h⟩ := gb h
  refine gR_cvI (wX11_isCourt_s e2) (Nat.le_of_ble_eq_true rfl) rfl rfl rfl rfl rfl ?_
  rcases gif h with ⟨c3, h⟩ | ⟨c3, h⟩
  · refine gR_iz_eq_j rfl c3 rfl ?_
    refine gR_go 1 (pc1 := 24) (L1 := [some (.ref 153), some (.int x1)]) (st1 := [.int 0]) (fun _ _ => rfl) ?_
    obtain rfl := gi1 h
    exact gR_rzc rfl rfl rfl
  · refine gR_iz_eq_f rfl c3 ?_
    refine gR_go 4 (pc1 := 13) (L1 := [some (.ref 153), some (.int x1)]) (st1 := [.long 2, .long 0, .long ((x1 : Int32).toInt64)]) (fun _ _ => rfl) ?_
    obtain ⟨t4, e5, h⟩ := gb h
    refine gR_csI (wX11_in_s e5) (Nat.le_of_ble_eq_true rfl) rfl rfl rfl rfl ?_
    rcases gif h with ⟨c6, h⟩ | ⟨c6, h⟩
    · refine gR_iz_eq_j rfl c6 rfl ?_
      refine gR_go 1 (pc1 := 24) (L1 := [some (.ref 153), some (.int x1)]) (st1 := [.int 0]) (fun _ _ => rfl) ?_
      obtain rfl := gi1 h
      exact gR_rzc rfl rfl rfl
    · refine gR_iz_eq_f rfl c6 ?_
      refine gR_go 2 (pc1 := 24) (L1 := [some (.ref 153), some (.int x1)]) (st1 := [.int 1]) (fun _ _ => rfl) ?_
      obtain rfl := gi1 h
      exact gR_rzc rfl rfl rfl
noncomputable def wX11_isThing (x1 : Int32) (x2 : Int32) (s : wS) : Option (Int32) := (wX11_isKind x1 s).bind fun t1 => if t1 = 0 then (some 0) else (if x2 < 0 then (some 0) else ((wldI s 163 262 x1).bind fun t5 => if x2 < t5 then (some 1) else (some 0)))
theorem wX11_isThing_s {x1 : Int32} {x2 : Int32} {s : wS} {rv : Int32} (h : wX11_isThing x1 x2 s = some rv) : gEv 3 212 [.ref 153, .int x1, .int x2] (wmk s) (some (.int rv), wmk s, 0, 0) := by
  refine gEv_of (d := 2) (L := [some (.ref 153), some (.int x1), some (.int x2)]) rfl ?_
  unfold wX11_isThing at h
  refine gR_go 2 (pc1 := 2) (L1 := [some (.ref 153), some (.int x1), some (.int x2)]) (st1 := [.int x1, .ref 153]) (fun _ _ => rfl) ?_
  obtain ⟨t1, e2, h⟩ := gb h
  refine gR_cvI (wX11_isKind_s e2) (Nat.le_of_ble_eq_true rfl) rfl rfl rfl rfl rfl ?_
  rcases gif h with ⟨c3, h⟩ | ⟨c3, h⟩
  · refine gR_iz_eq_j rfl c3 rfl ?_
    refine gR_go 1 (pc1 := 27) (L1 := [some (.ref 153), some (.int x1), some (.int x2)]) (st1 := [.int 0]) (fun _ _ => rfl) ?_
    obtain rfl := gi1 h
    exact gR_rzc rfl rfl rfl
  · refine gR_iz_eq_f rfl c3 ?_
    refine gR_go 1 (pc1 := 9) (L1 := [some (.ref 153), some (.int x1), some (.int x2)]) (st1 := [.int x2]) (fun _ _ => rfl) ?_
    rcases gif h with ⟨c4, h⟩ | ⟨c4, h⟩
    · refine gR_iz_lt_j rfl c4 rfl ?_
      refine gR_go 1 (pc1 := 27) (L1 := [some (.ref 153), some (.int x1), some (.int x2)]) (st1 := [.int 0]) (fun _ _ => rfl) ?_
      obtain rfl := gi1 h
      exact gR_rzc rfl rfl rfl
    · refine gR_iz_lt_f rfl c4 ?_
      refine gR_go 2 (pc1 := 14) (L1 := [some (.ref 153), some (.int x1), some (.int x2)]) (st1 := [.ref 153, .int x2]) (fun _ _ => rfl) ?_
      refine gR_gfR (k := 152) (k' := 163) rfl rfl rfl rfl ?_
      refine gR_go 1 (pc1 := 18) (L1 := [some (.ref 153), some (.int x1), some (.int x2)]) (st1 := [.int x1, .ref 164, .int x2]) (fun _ _ => rfl) ?_
      obtain ⟨t5, et5, h⟩ := gb h
      refine gR_ial (k := 163) rfl rfl rfl et5 ?_
      rcases gif h with ⟨c6, h⟩ | ⟨c6, h⟩
      · refine gR_ic_ge_f rfl c6 ?_
        refine gR_go 2 (pc1 := 27) (L1 := [some (.ref 153), some (.int x1), some (.int x2)]) (st1 := [.int 1]) (fun _ _ => rfl) ?_
        obtain rfl := gi1 h
        exact gR_rzc rfl rfl rfl
      · refine gR_ic_ge_j rfl c6 rfl ?_
        refine gR_go 1 (pc1 := 27) (L1 := [some (.ref 153), some (.int x1), some (.int x2)]) (st1 := [.int 0]) (fun _ _ => rfl) ?_
        obtain rfl := gi1 h
        exact gR_rzc rfl rfl rfl
noncomputable def wX11_isWorld (x1 : Int32) (s : wS) : Option (Int32) := if x1 < 0 then (some 0) else ((wX11_worlds s).bind fun t2 => if x1 < t2 then (some 1) else (some 0))
theorem wX11_isWorld_s {x1 : Int32} {s : wS} {rv : Int32} (h : wX11_isWorld x1 s = some rv) : gEv 2 213 [.ref 153, .int x1] (wmk s) (some (.int rv), wmk s, 0, 0) := by
  refine gEv_of (d := 1) (L := [some (.ref 153), some (.int x1)]) rfl ?_
  unfold wX11_isWorld at h
  refine gR_go 1 (pc1 := 1) (L1 := [some (.ref 153), some (.int x1)]) (st1 := [.int x1]) (fun _ _ => rfl) ?_
  rcases gif h with ⟨c1, h⟩ | ⟨c1, h⟩
  · refine gR_iz_lt_j rfl c1 rfl ?_
    refine gR_go 1 (pc1 := 17) (L1 := [some (.ref 153), some (.int x1)]) (st1 := [.int 0]) (fun _ _ => rfl) ?_
    obtain rfl := gi1 h
    exact gR_rzc rfl rfl rfl
  · refine gR_iz_lt_f rfl c1 ?_
    refine gR_go 2 (pc1 := 6) (L1 := [some (.ref 153), some (.int x1)]) (st1 := [.ref 153, .int x1]) (fun _ _ => rfl) ?_
    obtain ⟨t2, e3, h⟩ := gb h
    refine gR_cvI (wX11_worlds_s e3) (Nat.le_of_ble_eq_true rfl) rfl rfl rfl rfl rfl ?_
    rcases gif h with ⟨c4, h⟩ | ⟨c4, h⟩
    · refine gR_ic_ge_f rfl c4 ?_
      refine gR_go 2 (pc1 := 17) (L1 := [some (.ref 153), some (.int x1)]) (st1 := [.int 1]) (fun _ _ => rfl) ?_
      obtain rfl := gi1 h
      exact gR_rzc rfl rfl rfl
    · refine gR_ic_ge_j rfl c4 rfl ?_
      refine gR_go 1 (pc1 := 17) (L1 := [some (.ref 153), some (.int x1)]) (st1 := [.int 0]) (fun _ _ => rfl) ?_
      obtain rfl := gi1 h
      exact gR_rzc rfl rfl rfl
noncomputable def wX11_isWitness (x0 : Int32) (s : wS) : Option (Int32) := if x0 < 0 then (some 0) else (if x0 < 6 then (some 1) else (some 0))
theorem wX11_isWitness_s {x0 : Int32} {s : wS} {rv : Int32} (h : wX11_isWitness x0 s = some rv) : gEv 1 214 [.int x0] (wmk s) (some (.int rv), wmk s, 0, 0) := by
  refine gEv_of (d := 0) (L := [some (.int x0)]) rfl ?_
  unfold wX11_isWitness at h
  refine gR_go 1 (pc1 := 1) (L1 := [some (.int x0)]) (st1 := [.int x0]) (fun _ _ => rfl) ?_
  rcases gif h with ⟨c1, h⟩ | ⟨c1, h⟩
  · refine gR_iz_lt_j rfl c1 rfl ?_
    refine gR_go 1 (pc1 := 15) (L1 := [some (.int x0)]) (st1 := [.int 0]) (fun _ _ => rfl) ?_
    obtain rfl := gi1 h
    exact gR_rzc rfl rfl rfl
  · refine gR_iz_lt_f rfl c1 ?_
    refine gR_go 2 (pc1 := 7) (L1 := [some (.int x0)]) (st1 := [.int 6, .int x0]) (fun _ _ => rfl) ?_
    rcases gif h with ⟨c2, h⟩ | ⟨c2, h⟩
    · refine gR_ic_ge_f rfl c2 ?_
      refine gR_go 2 (pc1 := 15) (L1 := [some (.int x0)]) (st1 := [.int 1]) (fun _ _ => rfl) ?_
      obtain rfl := gi1 h
      exact gR_rzc rfl rfl rfl
    · refine gR_ic_ge_j rfl c2 rfl ?_
      refine gR_go 1 (pc1 := 15) (L1 := [some (.int x0)]) (st1 := [.int 0]) (fun _ _ => rfl) ?_
      obtain rfl := gi1 h
      exact gR_rzc rfl rfl rfl
noncomputable def wX11_isAnswer (x1 : Int32) (s : wS) : Option (Int32) := if x1 < 0 then (some 0) else (if x1 < (s.1 163 3) then (some 1) else (some 0))
theorem wX11_isAnswer_s {x1 : Int32} {s : wS} {rv : Int32} (h : wX11_isAnswer x1 s = some rv) : gEv 1 215 [.ref 153, .int x1] (wmk s) (some (.int rv), wmk s, 0, 0) := by
  refine gEv_of (d := 0) (L := [some (.ref 153), some (.int x1)]) rfl ?_
  unfold wX11_isAnswer at h
  refine gR_go 1 (pc1 := 1) (L1 := [some (.ref 153), some (.int x1)]) (st1 := [.int x1]) (fun _ _ => rfl) ?_
  rcases gif h with ⟨c1, h⟩ | ⟨c1, h⟩
  · refine gR_iz_lt_j rfl c1 rfl ?_
    refine gR_go 1 (pc1 := 19) (L1 := [some (.ref 153), some (.int x1)]) (st1 := [.int 0]) (fun _ _ => rfl) ?_
    obtain rfl := gi1 h
    exact gR_rzc rfl rfl rfl
  · refine gR_iz_lt_f rfl c1 ?_
    refine gR_go 2 (pc1 := 6) (L1 := [some (.ref 153), some (.int x1)]) (st1 := [.ref 153, .int x1]) (fun _ _ => rfl) ?_
    refine gR_gfR (k := 152) (k' := 163) rfl rfl rfl rfl ?_
    refine gR_go 1 (pc1 := 10) (L1 := [some (.ref 153), some (.int x1)]) (st1 := [.int 3, .ref 164, .int x1]) (fun _ _ => rfl) ?_
    refine gR_ialc (k := 163) (j := 3) rfl rfl rfl (by decide) rfl ?_
    rcases gif h with ⟨c3, h⟩ | ⟨c3, h⟩
    · refine gR_ic_ge_f rfl c3 ?_
      refine gR_go 2 (pc1 := 19) (L1 := [some (.ref 153), some (.int x1)]) (st1 := [.int 1]) (fun _ _ => rfl) ?_
      obtain rfl := gi1 h
      exact gR_rzc rfl rfl rfl
    · refine gR_ic_ge_j rfl c3 rfl ?_
      refine gR_go 1 (pc1 := 19) (L1 := [some (.ref 153), some (.int x1)]) (st1 := [.int 0]) (fun _ _ => rfl) ?_
      obtain rfl := gi1 h
      exact gR_rzc rfl rfl rfl
noncomputable def wX11_answerOf (x1 : Int32) (x2 : Int32) (s : wS) : Option (Int32) := (wldI s 163 262 ((42 + (5 * x1)) + x2)).bind fun t1 => some t1
theorem wX11_answerOf_s {x1 : Int32} {x2 : Int32} {s : wS} {rv : Int32} (h : wX11_answerOf x1 x2 s = some rv) : gEv 1 216 [.ref 153, .int x1, .int x2] (wmk s) (some (.int rv), wmk s, 0, 0) := by
  refine gEv_of (d := 0) (L := [some (.ref 153), some (.int x1), some (.int x2)]) rfl ?_
  unfold wX11_answerOf at h
  refine gR_go 1 (pc1 := 1) (L1 := [some (.ref 153), some (.int x1), some (.int x2)]) (st1 := [.ref 153]) (fun _ _ => rfl) ?_
  refine gR_gfR (k := 152) (k' := 163) rfl rfl rfl rfl ?_
  refine gR_go 7 (pc1 := 12) (L1 := [some (.ref 153), some (.int x1), some (.int x2)]) (st1 := [.int ((42 + (5 * x1)) + x2), .ref 164]) (fun _ _ => rfl) ?_
  obtain ⟨t1, et1, h⟩ := gb h
  refine gR_ial (k := 163) rfl rfl rfl et1 ?_
  obtain rfl := gi1 h
  exact gR_ri rfl rfl
noncomputable def wX11_thingOf (x1 : Int32) (x2 : Int32) (s : wS) : Option (Int32) := if x2 = 2 then ((wrmI x1 (s.1 163 2)).bind fun t3 => some t3) else (if x2 = 1 then ((wdvI x1 (s.1 163 2)).bind fun t6 => (wrmI t6 (s.1 163 1)).bind fun t8 => some t8) else ((wdvI x1 (s.1 163 2)).bind fun t10 => (wdvI t10 (s.1 163 1)).bind fun t12 => some t12))
theorem wX11_thingOf_s {x1 : Int32} {x2 : Int32} {s : wS} {rv : Int32} (h : wX11_thingOf x1 x2 s = some rv) : gEv 1 217 [.ref 153, .int x1, .int x2] (wmk s) (some (.int rv), wmk s, 0, 0) := by
  refine gEv_of (d := 0) (L := [some (.ref 153), some (.int x1), some (.int x2)]) rfl ?_
  unfold wX11_thingOf at h
  refine gR_go 2 (pc1 := 2) (L1 := [some (.ref 153), some (.int x1), some (.int x2)]) (st1 := [.int 2, .int x2]) (fun _ _ => rfl) ?_
  rcases gif h with ⟨c1, h⟩ | ⟨c1, h⟩
  · refine gR_ic_ne_f rfl c1 ?_
    refine gR_go 2 (pc1 := 7) (L1 := [some (.ref 153), some (.int x1), some (.int x2)]) (st1 := [.ref 153, .int x1]) (fun _ _ => rfl) ?_
    refine gR_gfR (k := 152) (k' := 163) rfl rfl rfl rfl ?_
    refine gR_go 1 (pc1 := 11) (L1 := [some (.ref 153), some (.int x1), some (.int x2)]) (st1 := [.int 2, .ref 164, .int x1]) (fun _ _ => rfl) ?_
    refine gR_ialc (k := 163) (j := 2) rfl rfl rfl (by decide) rfl ?_
    obtain ⟨t3, et3, h⟩ := gb h
    refine gR_rmI rfl et3 ?_
    refine gR_go 1 (pc1 := 54) (L1 := [some (.ref 153), some (.int x1), some (.int x2)]) (st1 := [.int t3]) (fun _ _ => rfl) ?_
    obtain rfl := gi1 h
    exact gR_ri rfl rfl
  · refine gR_ic_ne_j rfl c1 rfl ?_
    refine gR_go 2 (pc1 := 18) (L1 := [some (.ref 153), some (.int x1), some (.int x2)]) (st1 := [.int 1, .int x2]) (fun _ _ => rfl) ?_
    rcases gif h with ⟨c4, h⟩ | ⟨c4, h⟩
    · refine gR_ic_ne_f rfl c4 ?_
      refine gR_go 2 (pc1 := 23) (L1 := [some (.ref 153), some (.int x1), some (.int x2)]) (st1 := [.ref 153, .int x1]) (fun _ _ => rfl) ?_
      refine gR_gfR (k := 152) (k' := 163) rfl rfl rfl rfl ?_
      refine gR_go 1 (pc1 := 27) (L1 := [some (.ref 153), some (.int x1), some (.int x2)]) (st1 := [.int 2, .ref 164, .int x1]) (fun _ _ => rfl) ?_
      refine gR_ialc (k := 163) (j := 2) rfl rfl rfl (by decide) rfl ?_
      obtain ⟨t6, et6, h⟩ := gb h
      refine gR_dvI rfl et6 ?_
      refine gR_go 1 (pc1 := 30) (L1 := [some (.ref 153), some (.int x1), some (.int x2)]) (st1 := [.ref 153, .int t6]) (fun _ _ => rfl) ?_
      refine gR_gfR (k := 152) (k' := 163) rfl rfl rfl rfl ?_
      refine gR_go 1 (pc1 := 34) (L1 := [some (.ref 153), some (.int x1), some (.int x2)]) (st1 := [.int 1, .ref 164, .int t6]) (fun _ _ => rfl) ?_
      refine gR_ialc (k := 163) (j := 1) rfl rfl rfl (by decide) rfl ?_
      obtain ⟨t8, et8, h⟩ := gb h
      refine gR_rmI rfl et8 ?_
      refine gR_go 1 (pc1 := 54) (L1 := [some (.ref 153), some (.int x1), some (.int x2)]) (st1 := [.int t8]) (fun _ _ => rfl) ?_
      obtain rfl := gi1 h
      exact gR_ri rfl rfl
    · refine gR_ic_ne_j rfl c4 rfl ?_
      refine gR_go 2 (pc1 := 41) (L1 := [some (.ref 153), some (.int x1), some (.int x2)]) (st1 := [.ref 153, .int x1]) (fun _ _ => rfl) ?_
      refine gR_gfR (k := 152) (k' := 163) rfl rfl rfl rfl ?_
      refine gR_go 1 (pc1 := 45) (L1 := [some (.ref 153), some (.int x1), some (.int x2)]) (st1 := [.int 2, .ref 164, .int x1]) (fun _ _ => rfl) ?_
      refine gR_ialc (k := 163) (j := 2) rfl rfl rfl (by decide) rfl ?_
      obtain ⟨t10, et10, h⟩ := gb h
      refine gR_dvI rfl et10 ?_
      refine gR_go 1 (pc1 := 48) (L1 := [some (.ref 153), some (.int x1), some (.int x2)]) (st1 := [.ref 153, .int t10]) (fun _ _ => rfl) ?_
      refine gR_gfR (k := 152) (k' := 163) rfl rfl rfl rfl ?_
      refine gR_go 1 (pc1 := 52) (L1 := [some (.ref 153), some (.int x1), some (.int x2)]) (st1 := [.int 1, .ref 164, .int t10]) (fun _ _ => rfl) ?_
      refine gR_ialc (k := 163) (j := 1) rfl rfl rfl (by decide) rfl ?_
      obtain ⟨t12, et12, h⟩ := gb h
      refine gR_dvI rfl et12 ?_
      obtain rfl := gi1 h
      exact gR_ri rfl rfl
noncomputable def wX11_thing_j65 (x2 : Int32) (x3 : Int32) (y1 : Int32) (s : wS) : Option (Int32) := (wldI s 163 262 ((y1 + (2 * x2)) + x3)).bind fun t14 => some t14
theorem wX11_thing_u65 {x2 : Int32} {x3 : Int32} {y1 : Int32} {s : wS} {w1 : Int32} {rv : Int32} (h : wX11_thing_j65 x2 x3 y1 s = some rv) : gRun 3 218 65 [some (.ref 153), some (.int w1), some (.int x2), some (.int x3)] [.int y1, .ref 164] (wmk s) (some (.int rv), wmk s, 0, 0) := by
  unfold wX11_thing_j65 at h
  refine gR_go 6 (pc1 := 71) (L1 := [some (.ref 153), some (.int w1), some (.int x2), some (.int x3)]) (st1 := [.int ((y1 + (2 * x2)) + x3), .ref 164]) (fun _ _ => rfl) ?_
  obtain ⟨t14, et14, h⟩ := gb h
  refine gR_ial (k := 163) rfl rfl rfl et14 ?_
  obtain rfl := gi1 h
  exact gR_ri rfl rfl
noncomputable def wX11_thing (x1 : Int32) (x2 : Int32) (x3 : Int32) (s : wS) : Option (Int32) := (wX11_isKind x1 s).bind fun t1 => if t1 = 0 then (some (-1)) else ((wX11_in ((x3 : Int32).toInt64) 0 2 s).bind fun t4 => if t4 = 0 then (some (-1)) else (if x3 = 2 then ((wldI s 163 262 x1).bind fun t8 => some t8) else (if x1 = 0 then (some (-1)) else ((wX11_isThing x1 x2 s).bind fun t10 => if t10 = 0 then (some (-1)) else (if x1 = 1 then (wX11_thing_j65 x2 x3 10 s) else (wX11_thing_j65 x2 x3 26 s))))))
theorem wX11_thing_s {x1 : Int32} {x2 : Int32} {x3 : Int32} {s : wS} {rv : Int32} (h : wX11_thing x1 x2 x3 s = some rv) : gEv 4 218 [.ref 153, .int x1, .int x2, .int x3] (wmk s) (some (.int rv), wmk s, 0, 0) := by
  refine gEv_of (d := 3) (L := [some (.ref 153), some (.int x1), some (.int x2), some (.int x3)]) rfl ?_
  unfold wX11_thing at h
  refine gR_go 2 (pc1 := 2) (L1 := [some (.ref 153), some (.int x1), some (.int x2), some (.int x3)]) (st1 := [.int x1, .ref 153]) (fun _ _ => rfl) ?_
  obtain ⟨t1, e2, h⟩ := gb h
  refine gR_cvI (wX11_isKind_s e2) (Nat.le_of_ble_eq_true rfl) rfl rfl rfl rfl rfl ?_
  rcases gif h with ⟨c3, h⟩ | ⟨c3, h⟩
  · refine gR_iz_eq_j rfl c3 rfl ?_
    refine gR_go 1 (pc1 := 21) (L1 := [some (.ref 153), some (.int x1), some (.int x2), some (.int x3)]) (st1 := [.int (-1)]) (fun _ _ => rfl) ?_
    obtain rfl := gi1 h
    exact gR_ri rfl rfl
  · refine gR_iz_eq_f rfl c3 ?_
    refine gR_go 4 (pc1 := 14) (L1 := [some (.ref 153), some (.int x1), some (.int x2), some (.int x3)]) (st1 := [.long 2, .long 0, .long ((x3 : Int32).toInt64)]) (fun _ _ => rfl) ?_
    obtain ⟨t4, e5, h⟩ := gb h
    refine gR_csI (wX11_in_s e5) (Nat.le_of_ble_eq_true rfl) rfl rfl rfl rfl ?_
    rcases gif h with ⟨c6, h⟩ | ⟨c6, h⟩
    · refine gR_iz_ne_f rfl c6 ?_
      refine gR_go 1 (pc1 := 21) (L1 := [some (.ref 153), some (.int x1), some (.int x2), some (.int x3)]) (st1 := [.int (-1)]) (fun _ _ => rfl) ?_
      obtain rfl := gi1 h
      exact gR_ri rfl rfl
    · refine gR_iz_ne_j rfl c6 rfl ?_
      refine gR_go 2 (pc1 := 24) (L1 := [some (.ref 153), some (.int x1), some (.int x2), some (.int x3)]) (st1 := [.int 2, .int x3]) (fun _ _ => rfl) ?_
      rcases gif h with ⟨c7, h⟩ | ⟨c7, h⟩
      · refine gR_ic_ne_f rfl c7 ?_
        refine gR_go 1 (pc1 := 28) (L1 := [some (.ref 153), some (.int x1), some (.int x2), some (.int x3)]) (st1 := [.ref 153]) (fun _ _ => rfl) ?_
        refine gR_gfR (k := 152) (k' := 163) rfl rfl rfl rfl ?_
        refine gR_go 1 (pc1 := 32) (L1 := [some (.ref 153), some (.int x1), some (.int x2), some (.int x3)]) (st1 := [.int x1, .ref 164]) (fun _ _ => rfl) ?_
        obtain ⟨t8, et8, h⟩ := gb h
        refine gR_ial (k := 163) rfl rfl rfl et8 ?_
        obtain rfl := gi1 h
        exact gR_ri rfl rfl
      · refine gR_ic_ne_j rfl c7 rfl ?_
        refine gR_go 1 (pc1 := 35) (L1 := [some (.ref 153), some (.int x1), some (.int x2), some (.int x3)]) (st1 := [.int x1]) (fun _ _ => rfl) ?_
        rcases gif h with ⟨c9, h⟩ | ⟨c9, h⟩
        · refine gR_iz_eq_j rfl c9 rfl ?_
          refine gR_go 1 (pc1 := 48) (L1 := [some (.ref 153), some (.int x1), some (.int x2), some (.int x3)]) (st1 := [.int (-1)]) (fun _ _ => rfl) ?_
          obtain rfl := gi1 h
          exact gR_ri rfl rfl
        · refine gR_iz_eq_f rfl c9 ?_
          refine gR_go 3 (pc1 := 41) (L1 := [some (.ref 153), some (.int x1), some (.int x2), some (.int x3)]) (st1 := [.int x2, .int x1, .ref 153]) (fun _ _ => rfl) ?_
          obtain ⟨t10, e11, h⟩ := gb h
          refine gR_cvI (wX11_isThing_s e11) (Nat.le_of_ble_eq_true rfl) rfl rfl rfl rfl rfl ?_
          rcases gif h with ⟨c12, h⟩ | ⟨c12, h⟩
          · refine gR_iz_ne_f rfl c12 ?_
            refine gR_go 1 (pc1 := 48) (L1 := [some (.ref 153), some (.int x1), some (.int x2), some (.int x3)]) (st1 := [.int (-1)]) (fun _ _ => rfl) ?_
            obtain rfl := gi1 h
            exact gR_ri rfl rfl
          · refine gR_iz_ne_j rfl c12 rfl ?_
            refine gR_go 1 (pc1 := 50) (L1 := [some (.ref 153), some (.int x1), some (.int x2), some (.int x3)]) (st1 := [.ref 153]) (fun _ _ => rfl) ?_
            refine gR_gfR (k := 152) (k' := 163) rfl rfl rfl rfl ?_
            refine gR_go 2 (pc1 := 55) (L1 := [some (.ref 153), some (.int x1), some (.int x2), some (.int x3)]) (st1 := [.int 1, .int x1, .ref 164]) (fun _ _ => rfl) ?_
            rcases gif h with ⟨c13, h⟩ | ⟨c13, h⟩
            · refine gR_ic_ne_f rfl c13 ?_
              refine gR_go 2 (pc1 := 65) (L1 := [some (.ref 153), some (.int x1), some (.int x2), some (.int x3)]) (st1 := [.int 10, .ref 164]) (fun _ _ => rfl) ?_
              exact wX11_thing_u65 h
            · refine gR_ic_ne_j rfl c13 rfl ?_
              refine gR_go 1 (pc1 := 65) (L1 := [some (.ref 153), some (.int x1), some (.int x2), some (.int x3)]) (st1 := [.int 26, .ref 164]) (fun _ _ => rfl) ?_
              exact wX11_thing_u65 h
noncomputable def wX11_apart (x0 : Int32) (x1 : Int32) (s : wS) : Option (Int32) := if x0 < x1 then (some (x1 - x0)) else (some (x0 - x1))
theorem wX11_apart_s {x0 : Int32} {x1 : Int32} {s : wS} {rv : Int32} (h : wX11_apart x0 x1 s = some rv) : gEv 1 219 [.int x0, .int x1] (wmk s) (some (.int rv), wmk s, 0, 0) := by
  refine gEv_of (d := 0) (L := [some (.int x0), some (.int x1)]) rfl ?_
  unfold wX11_apart at h
  refine gR_go 2 (pc1 := 2) (L1 := [some (.int x0), some (.int x1)]) (st1 := [.int x1, .int x0]) (fun _ _ => rfl) ?_
  rcases gif h with ⟨c1, h⟩ | ⟨c1, h⟩
  · refine gR_ic_ge_f rfl c1 ?_
    refine gR_go 4 (pc1 := 14) (L1 := [some (.int x0), some (.int x1)]) (st1 := [.int (x1 - x0)]) (fun _ _ => rfl) ?_
    obtain rfl := gi1 h
    exact gR_ri rfl rfl
  · refine gR_ic_ge_j rfl c1 rfl ?_
    refine gR_go 3 (pc1 := 14) (L1 := [some (.int x0), some (.int x1)]) (st1 := [.int (x0 - x1)]) (fun _ _ => rfl) ?_
    obtain rfl := gi1 h
    exact gR_ri rfl rfl
noncomputable def wX11_words_h3 (x1 : Int32) (x2 : Int32) (x3 : Int32) : Nat → Int32 → wS → Option (wS)
  | 0, _, _ => none
  | n + 1, x4, s => if x4 < 8 then ((wstL s 162 8 x4 0).bind fun s2 => wX11_words_h3 x1 x2 x3 n (x4 + 1) s2) else (some s)
theorem wX11_words_t3 {x1 : Int32} {x2 : Int32} {x3 : Int32} {x : wS} {r : ri_R} (he24 : ∀ (s : wS) (w4 : Int32) , x = s → gRun 1 220 24 [some (.ref 153), some (.int x1), some (.int x2), some (.int x3), some (.int w4)] [] (wmk s) r) : ∀ {n : Nat} {x4 : Int32} {s : wS} , wX11_words_h3 x1 x2 x3 n x4 s = some x → gRun 1 220 3 [some (.ref 153), some (.int x1), some (.int x2), some (.int x3), some (.int x4)] [] (wmk s) r := by
  intro n
  induction n with
  | zero => intro x4 s h; cases (show (none : Option (wS)) = some x from h)
  | succ n ih =>
    intro x4 s h
    rw [wX11_words_h3] at h
    refine gR_go 2 (pc1 := 7) (L1 := [some (.ref 153), some (.int x1), some (.int x2), some (.int x3), some (.int x4)]) (st1 := [.int 8, .int x4]) (fun _ _ => rfl) ?_
    rcases gif h with ⟨c1, h⟩ | ⟨c1, h⟩
    · refine gR_ic_ge_f rfl c1 ?_
      refine gR_go 1 (pc1 := 11) (L1 := [some (.ref 153), some (.int x1), some (.int x2), some (.int x3), some (.int x4)]) (st1 := [.ref 153]) (fun _ _ => rfl) ?_
      refine gR_gfR (k := 152) (k' := 162) rfl rfl rfl rfl ?_
      refine gR_go 2 (pc1 := 17) (L1 := [some (.ref 153), some (.int x1), some (.int x2), some (.int x3), some (.int x4)]) (st1 := [.long 0, .int x4, .ref 163]) (fun _ _ => rfl) ?_
      obtain ⟨s2, es2, h⟩ := gb h
      refine gR_las (k := 162) rfl rfl rfl es2 ?_
      refine gR_go 2 (pc1 := 3) (L1 := [some (.ref 153), some (.int x1), some (.int x2), some (.int x3), some (.int (x4 + 1))]) (st1 := []) (fun _ _ => rfl) ?_
      exact ih h
    · refine gR_ic_ge_j rfl c1 rfl ?_
      exact he24 _ _ (Option.some.inj h).symm
noncomputable def wX11_words_j221 (y1 : Int32) (y2 : Int64) (s : wS) : Option (wS) := (wstL s 162 8 y1 y2).bind fun s33 => some s33
theorem wX11_words_u221 {y1 : Int32} {y2 : Int64} {s : wS} {w1 : Int32} {w2 : Int32} {w3 : Int32} {w4 : Int32} {rs : wS} (h : wX11_words_j221 y1 y2 s = some rs) : gRun 1 220 221 [some (.ref 153), some (.int w1), some (.int w2), some (.int w3), some (.int w4)] [.long y2, .int y1, .ref 163] (wmk s) (none, wmk rs, 0, 0) := by
  unfold wX11_words_j221 at h
  obtain ⟨s33, es33, h⟩ := gb h
  refine gR_las (k := 162) rfl rfl rfl es33 ?_
  obtain rfl := gi1 h
  exact gR_rv rfl rfl
noncomputable def wX11_words_j125 (x1 : Int32) (x2 : Int32) (x3 : Int32) (s : wS) : Option (wS) := if x1 = 2 then ((wldI s 163 262 (26 + (2 * x2))).bind fun t23 => (wstL s 162 8 5 ((t23 : Int32).toInt64)).bind fun s24 => (wldI s24 163 262 (26 + (2 * x2))).bind fun t25 => (wldI s24 163 262 (26 + (2 * x3))).bind fun t26 => (wX11_apart t25 t26 s24).bind fun t27 => (wstL s24 162 8 6 ((t27 : Int32).toInt64)).bind fun s29 => (wldI s29 163 262 ((26 + (2 * x2)) + 1)).bind fun t30 => (wldI s29 163 262 ((26 + (2 * x3)) + 1)).bind fun t31 => if t30 = t31 then (wX11_words_j221 7 1 s29) else (wX11_words_j221 7 0 s29)) else (some s)
theorem wX11_words_u125 {x1 : Int32} {x2 : Int32} {x3 : Int32} {s : wS} {w4 : Int32} {rs : wS} (h : wX11_words_j125 x1 x2 x3 s = some rs) : gRun 1 220 125 [some (.ref 153), some (.int x1), some (.int x2), some (.int x3), some (.int w4)] [] (wmk s) (none, wmk rs, 0, 0) := by
  unfold wX11_words_j125 at h
  refine gR_go 2 (pc1 := 127) (L1 := [some (.ref 153), some (.int x1), some (.int x2), some (.int x3), some (.int w4)]) (st1 := [.int 2, .int x1]) (fun _ _ => rfl) ?_
  rcases gif h with ⟨c22, h⟩ | ⟨c22, h⟩
  · refine gR_ic_ne_f rfl c22 ?_
    refine gR_go 1 (pc1 := 131) (L1 := [some (.ref 153), some (.int x1), some (.int x2), some (.int x3), some (.int w4)]) (st1 := [.ref 153]) (fun _ _ => rfl) ?_
    refine gR_gfR (k := 152) (k' := 162) rfl rfl rfl rfl ?_
    refine gR_go 2 (pc1 := 136) (L1 := [some (.ref 153), some (.int x1), some (.int x2), some (.int x3), some (.int w4)]) (st1 := [.ref 153, .int 5, .ref 163]) (fun _ _ => rfl) ?_
    refine gR_gfR (k := 152) (k' := 163) rfl rfl rfl rfl ?_
    refine gR_go 5 (pc1 := 145) (L1 := [some (.ref 153), some (.int x1), some (.int x2), some (.int x3), some (.int w4)]) (st1 := [.int (26 + (2 * x2)), .ref 164, .int 5, .ref 163]) (fun _ _ => rfl) ?_
    obtain ⟨t23, et23, h⟩ := gb h
    refine gR_ial (k := 163) rfl rfl rfl et23 ?_
    refine gR_go 1 (pc1 := 147) (L1 := [some (.ref 153), some (.int x1), some (.int x2), some (.int x3), some (.int w4)]) (st1 := [.long ((t23 : Int32).toInt64), .int 5, .ref 163]) (fun _ _ => rfl) ?_
    obtain ⟨s24, es24, h⟩ := gb h
    refine gR_las (k := 162) rfl rfl rfl es24 ?_
    refine gR_go 1 (pc1 := 149) (L1 := [some (.ref 153), some (.int x1), some (.int x2), some (.int x3), some (.int w4)]) (st1 := [.ref 153]) (fun _ _ => rfl) ?_
    refine gR_gfR (k := 152) (k' := 162) rfl rfl rfl rfl ?_
    refine gR_go 2 (pc1 := 155) (L1 := [some (.ref 153), some (.int x1), some (.int x2), some (.int x3), some (.int w4)]) (st1 := [.ref 153, .int 6, .ref 163]) (fun _ _ => rfl) ?_
    refine gR_gfR (k := 152) (k' := 163) rfl rfl rfl rfl ?_
    refine gR_go 5 (pc1 := 164) (L1 := [some (.ref 153), some (.int x1), some (.int x2), some (.int x3), some (.int w4)]) (st1 := [.int (26 + (2 * x2)), .ref 164, .int 6, .ref 163]) (fun _ _ => rfl) ?_
    obtain ⟨t25, et25, h⟩ := gb h
    refine gR_ial (k := 163) rfl rfl rfl et25 ?_
    refine gR_go 1 (pc1 := 166) (L1 := [some (.ref 153), some (.int x1), some (.int x2), some (.int x3), some (.int w4)]) (st1 := [.ref 153, .int t25, .int 6, .ref 163]) (fun _ _ => rfl) ?_
    refine gR_gfR (k := 152) (k' := 163) rfl rfl rfl rfl ?_
    refine gR_go 5 (pc1 := 175) (L1 := [some (.ref 153), some (.int x1), some (.int x2), some (.int x3), some (.int w4)]) (st1 := [.int (26 + (2 * x3)), .ref 164, .int t25, .int 6, .ref 163]) (fun _ _ => rfl) ?_
    obtain ⟨t26, et26, h⟩ := gb h
    refine gR_ial (k := 163) rfl rfl rfl et26 ?_
    obtain ⟨t27, e28, h⟩ := gb h
    refine gR_csI (wX11_apart_s e28) (Nat.le_of_ble_eq_true rfl) rfl rfl rfl rfl ?_
    refine gR_go 1 (pc1 := 180) (L1 := [some (.ref 153), some (.int x1), some (.int x2), some (.int x3), some (.int w4)]) (st1 := [.long ((t27 : Int32).toInt64), .int 6, .ref 163]) (fun _ _ => rfl) ?_
    obtain ⟨s29, es29, h⟩ := gb h
    refine gR_las (k := 162) rfl rfl rfl es29 ?_
    refine gR_go 1 (pc1 := 182) (L1 := [some (.ref 153), some (.int x1), some (.int x2), some (.int x3), some (.int w4)]) (st1 := [.ref 153]) (fun _ _ => rfl) ?_
    refine gR_gfR (k := 152) (k' := 162) rfl rfl rfl rfl ?_
    refine gR_go 2 (pc1 := 188) (L1 := [some (.ref 153), some (.int x1), some (.int x2), some (.int x3), some (.int w4)]) (st1 := [.ref 153, .int 7, .ref 163]) (fun _ _ => rfl) ?_
    refine gR_gfR (k := 152) (k' := 163) rfl rfl rfl rfl ?_
    refine gR_go 7 (pc1 := 199) (L1 := [some (.ref 153), some (.int x1), some (.int x2), some (.int x3), some (.int w4)]) (st1 := [.int ((26 + (2 * x2)) + 1), .ref 164, .int 7, .ref 163]) (fun _ _ => rfl) ?_
    obtain ⟨t30, et30, h⟩ := gb h
    refine gR_ial (k := 163) rfl rfl rfl et30 ?_
    refine gR_go 1 (pc1 := 201) (L1 := [some (.ref 153), some (.int x1), some (.int x2), some (.int x3), some (.int w4)]) (st1 := [.ref 153, .int t30, .int 7, .ref 163]) (fun _ _ => rfl) ?_
    refine gR_gfR (k := 152) (k' := 163) rfl rfl rfl rfl ?_
    refine gR_go 7 (pc1 := 212) (L1 := [some (.ref 153), some (.int x1), some (.int x2), some (.int x3), some (.int w4)]) (st1 := [.int ((26 + (2 * x3)) + 1), .ref 164, .int t30, .int 7, .ref 163]) (fun _ _ => rfl) ?_
    obtain ⟨t31, et31, h⟩ := gb h
    refine gR_ial (k := 163) rfl rfl rfl et31 ?_
    rcases gif h with ⟨c32, h⟩ | ⟨c32, h⟩
    · refine gR_ic_ne_f rfl c32 ?_
      refine gR_go 2 (pc1 := 221) (L1 := [some (.ref 153), some (.int x1), some (.int x2), some (.int x3), some (.int w4)]) (st1 := [.long 1, .int 7, .ref 163]) (fun _ _ => rfl) ?_
      exact wX11_words_u221 h
    · refine gR_ic_ne_j rfl c32 rfl ?_
      refine gR_go 1 (pc1 := 221) (L1 := [some (.ref 153), some (.int x1), some (.int x2), some (.int x3), some (.int w4)]) (st1 := [.long 0, .int 7, .ref 163]) (fun _ _ => rfl) ?_
      exact wX11_words_u221 h
  · refine gR_ic_ne_j rfl c22 rfl ?_
    obtain rfl := gi1 h
    exact gR_rv rfl rfl
noncomputable def wX11_words (x1 : Int32) (x2 : Int32) (x3 : Int32) (s : wS) : Option (wS) := (wX11_words_h3 x1 x2 x3 wFuel 0 s).bind fun s4 => (wstL s4 162 8 0 ((x2 : Int32).toInt64)).bind fun s6 => (wstL s6 162 8 1 ((x3 : Int32).toInt64)).bind fun s7 => (wX11_apart x2 x3 s7).bind fun t8 => (wstL s7 162 8 2 ((t8 : Int32).toInt64)).bind fun s10 => if x1 = 1 then ((wldI s10 163 262 (10 + (2 * x2))).bind fun t12 => (wldI s10 163 262 (10 + (2 * x3))).bind fun t13 => (wX11_apart t12 t13 s10).bind fun t14 => (wstL s10 162 8 3 ((t14 : Int32).toInt64)).bind fun s16 => (wldI s16 163 262 ((10 + (2 * x2)) + 1)).bind fun t17 => (wldI s16 163 262 ((10 + (2 * x3)) + 1)).bind fun t18 => (wX11_apart t17 t18 s16).bind fun t19 => (wstL s16 162 8 4 ((t19 : Int32).toInt64)).bind fun s21 => wX11_words_j125 x1 x2 x3 s21) else (wX11_words_j125 x1 x2 x3 s10)
theorem wX11_words_s {x1 : Int32} {x2 : Int32} {x3 : Int32} {s : wS} {rs : wS} (h : wX11_words x1 x2 x3 s = some rs) : gEv 2 220 [.ref 153, .int x1, .int x2, .int x3] (wmk s) (none, wmk rs, 0, 0) := by
  refine gEv_of (d := 1) (L := [some (.ref 153), some (.int x1), some (.int x2), some (.int x3), none]) rfl ?_
  unfold wX11_words at h
  refine gR_go 2 (pc1 := 3) (L1 := [some (.ref 153), some (.int x1), some (.int x2), some (.int x3), some (.int 0)]) (st1 := []) (fun _ _ => rfl) ?_
  obtain ⟨z3, ez3, h⟩ := gb h
  refine wX11_words_t3 ?_  ez3
  · intro s4 w5 hz
    replace hz := hz.symm
    subst hz
    refine gR_go 1 (pc1 := 25) (L1 := [some (.ref 153), some (.int x1), some (.int x2), some (.int x3), some (.int w5)]) (st1 := [.ref 153]) (fun _ _ => rfl) ?_
    refine gR_gfR (k := 152) (k' := 162) rfl rfl rfl rfl ?_
    refine gR_go 3 (pc1 := 31) (L1 := [some (.ref 153), some (.int x1), some (.int x2), some (.int x3), some (.int w5)]) (st1 := [.long ((x2 : Int32).toInt64), .int 0, .ref 163]) (fun _ _ => rfl) ?_
    obtain ⟨s6, es6, h⟩ := gb h
    refine gR_las (k := 162) rfl rfl rfl es6 ?_
    refine gR_go 1 (pc1 := 33) (L1 := [some (.ref 153), some (.int x1), some (.int x2), some (.int x3), some (.int w5)]) (st1 := [.ref 153]) (fun _ _ => rfl) ?_
    refine gR_gfR (k := 152) (k' := 162) rfl rfl rfl rfl ?_
    refine gR_go 3 (pc1 := 39) (L1 := [some (.ref 153), some (.int x1), some (.int x2), some (.int x3), some (.int w5)]) (st1 := [.long ((x3 : Int32).toInt64), .int 1, .ref 163]) (fun _ _ => rfl) ?_
    obtain ⟨s7, es7, h⟩ := gb h
    refine gR_las (k := 162) rfl rfl rfl es7 ?_
    refine gR_go 1 (pc1 := 41) (L1 := [some (.ref 153), some (.int x1), some (.int x2), some (.int x3), some (.int w5)]) (st1 := [.ref 153]) (fun _ _ => rfl) ?_
    refine gR_gfR (k := 152) (k' := 162) rfl rfl rfl rfl ?_
    refine gR_go 3 (pc1 := 47) (L1 := [some (.ref 153), some (.int x1), some (.int x2), some (.int x3), some (.int w5)]) (st1 := [.int x3, .int x2, .int 2, .ref 163]) (fun _ _ => rfl) ?_
    obtain ⟨t8, e9, h⟩ := gb h
    refine gR_csI (wX11_apart_s e9) (Nat.le_of_ble_eq_true rfl) rfl rfl rfl rfl ?_
    refine gR_go 1 (pc1 := 51) (L1 := [some (.ref 153), some (.int x1), some (.int x2), some (.int x3), some (.int w5)]) (st1 := [.long ((t8 : Int32).toInt64), .int 2, .ref 163]) (fun _ _ => rfl) ?_
    obtain ⟨s10, es10, h⟩ := gb h
    refine gR_las (k := 162) rfl rfl rfl es10 ?_
    refine gR_go 2 (pc1 := 54) (L1 := [some (.ref 153), some (.int x1), some (.int x2), some (.int x3), some (.int w5)]) (st1 := [.int 1, .int x1]) (fun _ _ => rfl) ?_
    rcases gif h with ⟨c11, h⟩ | ⟨c11, h⟩
    · refine gR_ic_ne_f rfl c11 ?_
      refine gR_go 1 (pc1 := 58) (L1 := [some (.ref 153), some (.int x1), some (.int x2), some (.int x3), some (.int w5)]) (st1 := [.ref 153]) (fun _ _ => rfl) ?_
      refine gR_gfR (k := 152) (k' := 162) rfl rfl rfl rfl ?_
      refine gR_go 2 (pc1 := 63) (L1 := [some (.ref 153), some (.int x1), some (.int x2), some (.int x3), some (.int w5)]) (st1 := [.ref 153, .int 3, .ref 163]) (fun _ _ => rfl) ?_
      refine gR_gfR (k := 152) (k' := 163) rfl rfl rfl rfl ?_
      refine gR_go 5 (pc1 := 72) (L1 := [some (.ref 153), some (.int x1), some (.int x2), some (.int x3), some (.int w5)]) (st1 := [.int (10 + (2 * x2)), .ref 164, .int 3, .ref 163]) (fun _ _ => rfl) ?_
      obtain ⟨t12, et12, h⟩ := gb h
      refine gR_ial (k := 163) rfl rfl rfl et12 ?_
      refine gR_go 1 (pc1 := 74) (L1 := [some (.ref 153), some (.int x1), some (.int x2), some (.int x3), some (.int w5)]) (st1 := [.ref 153, .int t12, .int 3, .ref 163]) (fun _ _ => rfl) ?_
      refine gR_gfR (k := 152) (k' := 163) rfl rfl rfl rfl ?_
      refine gR_go 5 (pc1 := 83) (L1 := [some (.ref 153), some (.int x1), some (.int x2), some (.int x3), some (.int w5)]) (st1 := [.int (10 + (2 * x3)), .ref 164, .int t12, .int 3, .ref 163]) (fun _ _ => rfl) ?_
      obtain ⟨t13, et13, h⟩ := gb h
      refine gR_ial (k := 163) rfl rfl rfl et13 ?_
      obtain ⟨t14, e15, h⟩ := gb h
      refine gR_csI (wX11_apart_s e15) (Nat.le_of_ble_eq_true rfl) rfl rfl rfl rfl ?_
      refine gR_go 1 (pc1 := 88) (L1 := [some (.ref 153), some (.int x1), some (.int x2), some (.int x3), some (.int w5)]) (st1 := [.long ((t14 : Int32).toInt64), .int 3, .ref 163]) (fun _ _ => rfl) ?_
      obtain ⟨s16, es16, h⟩ := gb h
      refine gR_las (k := 162) rfl rfl rfl es16 ?_
      refine gR_go 1 (pc1 := 90) (L1 := [some (.ref 153), some (.int x1), some (.int x2), some (.int x3), some (.int w5)]) (st1 := [.ref 153]) (fun _ _ => rfl) ?_
      refine gR_gfR (k := 152) (k' := 162) rfl rfl rfl rfl ?_
      refine gR_go 2 (pc1 := 95) (L1 := [some (.ref 153), some (.int x1), some (.int x2), some (.int x3), some (.int w5)]) (st1 := [.ref 153, .int 4, .ref 163]) (fun _ _ => rfl) ?_
      refine gR_gfR (k := 152) (k' := 163) rfl rfl rfl rfl ?_
      refine gR_go 7 (pc1 := 106) (L1 := [some (.ref 153), some (.int x1), some (.int x2), some (.int x3), some (.int w5)]) (st1 := [.int ((10 + (2 * x2)) + 1), .ref 164, .int 4, .ref 163]) (fun _ _ => rfl) ?_
      obtain ⟨t17, et17, h⟩ := gb h
      refine gR_ial (k := 163) rfl rfl rfl et17 ?_
      refine gR_go 1 (pc1 := 108) (L1 := [some (.ref 153), some (.int x1), some (.int x2), some (.int x3), some (.int w5)]) (st1 := [.ref 153, .int t17, .int 4, .ref 163]) (fun _ _ => rfl) ?_
      refine gR_gfR (k := 152) (k' := 163) rfl rfl rfl rfl ?_
      refine gR_go 7 (pc1 := 119) (L1 := [some (.ref 153), some (.int x1), some (.int x2), some (.int x3), some (.int w5)]) (st1 := [.int ((10 + (2 * x3)) + 1), .ref 164, .int t17, .int 4, .ref 163]) (fun _ _ => rfl) ?_
      obtain ⟨t18, et18, h⟩ := gb h
      refine gR_ial (k := 163) rfl rfl rfl et18 ?_
      obtain ⟨t19, e20, h⟩ := gb h
      refine gR_csI (wX11_apart_s e20) (Nat.le_of_ble_eq_true rfl) rfl rfl rfl rfl ?_
      refine gR_go 1 (pc1 := 124) (L1 := [some (.ref 153), some (.int x1), some (.int x2), some (.int x3), some (.int w5)]) (st1 := [.long ((t19 : Int32).toInt64), .int 4, .ref 163]) (fun _ _ => rfl) ?_
      obtain ⟨s21, es21, h⟩ := gb h
      refine gR_las (k := 162) rfl rfl rfl es21 ?_
      exact wX11_words_u125 h
    · refine gR_ic_ne_j rfl c11 rfl ?_
      exact wX11_words_u125 h
end
section
/-! The methods as functions of the state, each with the proof that the interpreter runs so. -/
noncomputable def wX11_farBy_j111 (qq : Int32 → wS → Option ((wS) ⊕ (Int32 × wS))) (x1 : Int32) (x2 : Int32) (x5 : Int32) (s : wS) : Option ((wS) ⊕ (Int32 × wS)) := qq (x5 + 1) s
theorem wX11_farBy_u111 {x1 : Int32} {x2 : Int32} {x5 : Int32} {s : wS} {w3 : Int32} {w4 : Int32} {w6 : Int32} {qq : Int32 → wS → Option ((wS) ⊕ (Int32 × wS))} {x : (wS) ⊕ (Int32 × wS)} {r : ri_R} (ih : ∀ {x5 : Int32} {s : wS} {w3 : Int32} {w4 : Int32} {w6 : Option Value} , qq x5 s = some x → gRun 2 221 11 [some (.ref 153), some (.int x1), some (.int x2), some (.int w3), some (.int w4), some (.int x5), w6] [] (wmk s) r) (he117 : ∀ (s : wS) (w1 : Int32) (w2 : Int32) (w3 : Int32) (w4 : Int32) (w5 : Int32) (w6 : Option Value) , x = .inl s → gRun 2 221 117 [some (.ref 153), some (.int w1), some (.int w2), some (.int w3), some (.int w4), some (.int w5), w6] [] (wmk s) r) (he87 : ∀ (x6 : Int32) (s : wS) (w2 : Int32) (w3 : Int32) (w4 : Int32) (w5 : Int32) , x = .inr (x6, s) → gRun 2 221 87 [some (.ref 153), some (.int x1), some (.int w2), some (.int w3), some (.int w4), some (.int w5), some (.int x6)] [] (wmk s) r) (h : wX11_farBy_j111 qq x1 x2 x5 s = some x) : gRun 2 221 111 [some (.ref 153), some (.int x1), some (.int x2), some (.int w3), some (.int w4), some (.int x5), some (.int w6)] [] (wmk s) r := by
  unfold wX11_farBy_j111 at h
  refine gR_go 2 (pc1 := 11) (L1 := [some (.ref 153), some (.int x1), some (.int x2), some (.int w3), some (.int w4), some (.int (x5 + 1)), some (.int w6)]) (st1 := []) (fun _ _ => rfl) ?_
  exact ih h
noncomputable def wX11_farBy_h11 (x1 : Int32) (x2 : Int32) : Nat → Int32 → wS → Option ((wS) ⊕ (Int32 × wS))
  | 0, _, _ => none
  | n + 1, x5, s => (wldI s 157 6 x1).bind fun t4 => if x5 < t4 then ((wldI s 156 360 ((60 * x1) + (5 * x5))).bind fun t6 => if t6 = x2 then ((wldI s 156 360 (((60 * x1) + (5 * x5)) + 3)).bind fun t8 => if t8 < 0 then (some (.inr (((60 * x1) + (5 * x5)), s))) else ((wldI s 156 360 (((60 * x1) + (5 * x5)) + 3)).bind fun t10 => (wldI s 156 360 (((60 * x1) + (5 * x5)) + 4)).bind fun t11 => (wX11_reckons x1 t10 t11 s).bind fun (t12, s13) => if t12 = 0 then (wX11_farBy_j111 (wX11_farBy_h11 x1 x2 n) x1 x2 x5 s13) else (some (.inr (((60 * x1) + (5 * x5)), s13))))) else (wX11_farBy_j111 (wX11_farBy_h11 x1 x2 n) x1 x2 x5 s)) else (some (.inl s))
theorem wX11_farBy_t11 {x1 : Int32} {x2 : Int32} {x : (wS) ⊕ (Int32 × wS)} {r : ri_R} (he117 : ∀ (s : wS) (w1 : Int32) (w2 : Int32) (w3 : Int32) (w4 : Int32) (w5 : Int32) (w6 : Option Value) , x = .inl s → gRun 2 221 117 [some (.ref 153), some (.int w1), some (.int w2), some (.int w3), some (.int w4), some (.int w5), w6] [] (wmk s) r) (he87 : ∀ (x6 : Int32) (s : wS) (w2 : Int32) (w3 : Int32) (w4 : Int32) (w5 : Int32) , x = .inr (x6, s) → gRun 2 221 87 [some (.ref 153), some (.int x1), some (.int w2), some (.int w3), some (.int w4), some (.int w5), some (.int x6)] [] (wmk s) r) : ∀ {n : Nat} {x5 : Int32} {s : wS} {w3 : Int32} {w4 : Int32} {w6 : Option Value} , wX11_farBy_h11 x1 x2 n x5 s = some x → gRun 2 221 11 [some (.ref 153), some (.int x1), some (.int x2), some (.int w3), some (.int w4), some (.int x5), w6] [] (wmk s) r := by
  intro n
  induction n with
  | zero => intro x5 s w3 w4 w6 h; cases (show (none : Option ((wS) ⊕ (Int32 × wS))) = some x from h)
  | succ n ih =>
    intro x5 s w3 w4 w6 h
    rw [wX11_farBy_h11] at h
    refine gR_go 2 (pc1 := 14) (L1 := [some (.ref 153), some (.int x1), some (.int x2), some (.int w3), some (.int w4), some (.int x5), w6]) (st1 := [.ref 153, .int x5]) (fun _ _ => rfl) ?_
    refine gR_gfR (k := 152) (k' := 157) rfl rfl rfl rfl ?_
    refine gR_go 1 (pc1 := 18) (L1 := [some (.ref 153), some (.int x1), some (.int x2), some (.int w3), some (.int w4), some (.int x5), w6]) (st1 := [.int x1, .ref 158, .int x5]) (fun _ _ => rfl) ?_
    obtain ⟨t4, et4, h⟩ := gb h
    refine gR_ial (k := 157) rfl rfl rfl et4 ?_
    rcases gif h with ⟨c5, h⟩ | ⟨c5, h⟩
    · refine gR_ic_ge_f rfl c5 ?_
      refine gR_go 9 (pc1 := 34) (L1 := [some (.ref 153), some (.int x1), some (.int x2), some (.int w3), some (.int w4), some (.int x5), some (.int ((60 * x1) + (5 * x5)))]) (st1 := [.ref 153]) (fun _ _ => rfl) ?_
      refine gR_gfR (k := 152) (k' := 156) rfl rfl rfl rfl ?_
      refine gR_go 1 (pc1 := 39) (L1 := [some (.ref 153), some (.int x1), some (.int x2), some (.int w3), some (.int w4), some (.int x5), some (.int ((60 * x1) + (5 * x5)))]) (st1 := [.int ((60 * x1) + (5 * x5)), .ref 157]) (fun _ _ => rfl) ?_
      obtain ⟨t6, et6, h⟩ := gb h
      refine gR_ial (k := 156) rfl rfl rfl et6 ?_
      refine gR_go 1 (pc1 := 41) (L1 := [some (.ref 153), some (.int x1), some (.int x2), some (.int w3), some (.int w4), some (.int x5), some (.int ((60 * x1) + (5 * x5)))]) (st1 := [.int x2, .int t6]) (fun _ _ => rfl) ?_
      rcases gif h with ⟨c7, h⟩ | ⟨c7, h⟩
      · refine gR_ic_ne_f rfl c7 ?_
        refine gR_go 1 (pc1 := 45) (L1 := [some (.ref 153), some (.int x1), some (.int x2), some (.int w3), some (.int w4), some (.int x5), some (.int ((60 * x1) + (5 * x5)))]) (st1 := [.ref 153]) (fun _ _ => rfl) ?_
        refine gR_gfR (k := 152) (k' := 156) rfl rfl rfl rfl ?_
        refine gR_go 3 (pc1 := 52) (L1 := [some (.ref 153), some (.int x1), some (.int x2), some (.int w3), some (.int w4), some (.int x5), some (.int ((60 * x1) + (5 * x5)))]) (st1 := [.int (((60 * x1) + (5 * x5)) + 3), .ref 157]) (fun _ _ => rfl) ?_
        obtain ⟨t8, et8, h⟩ := gb h
        refine gR_ial (k := 156) rfl rfl rfl et8 ?_
        rcases gif h with ⟨c9, h⟩ | ⟨c9, h⟩
        · refine gR_iz_lt_j rfl c9 rfl ?_
          exact he87 _ _ _ _ _ _ (Option.some.inj h).symm
        · refine gR_iz_lt_f rfl c9 ?_
          refine gR_go 3 (pc1 := 59) (L1 := [some (.ref 153), some (.int x1), some (.int x2), some (.int w3), some (.int w4), some (.int x5), some (.int ((60 * x1) + (5 * x5)))]) (st1 := [.ref 153, .int x1, .ref 153]) (fun _ _ => rfl) ?_
          refine gR_gfR (k := 152) (k' := 156) rfl rfl rfl rfl ?_
          refine gR_go 3 (pc1 := 66) (L1 := [some (.ref 153), some (.int x1), some (.int x2), some (.int w3), some (.int w4), some (.int x5), some (.int ((60 * x1) + (5 * x5)))]) (st1 := [.int (((60 * x1) + (5 * x5)) + 3), .ref 157, .int x1, .ref 153]) (fun _ _ => rfl) ?_
          obtain ⟨t10, et10, h⟩ := gb h
          refine gR_ial (k := 156) rfl rfl rfl et10 ?_
          refine gR_go 1 (pc1 := 68) (L1 := [some (.ref 153), some (.int x1), some (.int x2), some (.int w3), some (.int w4), some (.int x5), some (.int ((60 * x1) + (5 * x5)))]) (st1 := [.ref 153, .int t10, .int x1, .ref 153]) (fun _ _ => rfl) ?_
          refine gR_gfR (k := 152) (k' := 156) rfl rfl rfl rfl ?_
          refine gR_go 3 (pc1 := 75) (L1 := [some (.ref 153), some (.int x1), some (.int x2), some (.int w3), some (.int w4), some (.int x5), some (.int ((60 * x1) + (5 * x5)))]) (st1 := [.int (((60 * x1) + (5 * x5)) + 4), .ref 157, .int t10, .int x1, .ref 153]) (fun _ _ => rfl) ?_
          obtain ⟨t11, et11, h⟩ := gb h
          refine gR_ial (k := 156) rfl rfl rfl et11 ?_
          obtain ⟨⟨t12, s13⟩, e14, h⟩ := gb h
          dsimp only at h
          refine gR_cvL (wX11_reckons_s e14) (Nat.le_of_ble_eq_true rfl) rfl rfl rfl rfl rfl ?_
          refine gR_go 2 (pc1 := 81) (L1 := [some (.ref 153), some (.int x1), some (.int x2), some (.int w3), some (.int w4), some (.int x5), some (.int ((60 * x1) + (5 * x5)))]) (st1 := [.int (lg_cmp t12 0)]) (fun _ _ => rfl) ?_
          rcases gif h with ⟨c15, h⟩ | ⟨c15, h⟩
          · refine gR_lc_ne_f rfl c15 ?_
            refine gR_go 1 (pc1 := 111) (L1 := [some (.ref 153), some (.int x1), some (.int x2), some (.int w3), some (.int w4), some (.int x5), some (.int ((60 * x1) + (5 * x5)))]) (st1 := []) (fun _ _ => rfl) ?_
            exact wX11_farBy_u111 ih he117 he87 h
          · refine gR_lc_ne_j rfl c15 rfl ?_
            exact he87 _ _ _ _ _ _ (Option.some.inj h).symm
      · refine gR_ic_ne_j rfl c7 rfl ?_
        exact wX11_farBy_u111 ih he117 he87 h
    · refine gR_ic_ge_j rfl c5 rfl ?_
      exact he117 _ _ _ _ _ _ _ (Option.some.inj h).symm
noncomputable def wX11_farBy_j87 (x1 : Int32) (x6 : Int32) (s : wS) : Option (Int64 × wS) := (wldI s 156 360 (x6 + 1)).bind fun t31 => (wldI s 156 360 (x6 + 2)).bind fun t32 => (wX11_reckons x1 t31 t32 s).bind fun (t33, s34) => some (t33, s34)
theorem wX11_farBy_u87 {x1 : Int32} {x6 : Int32} {s : wS} {w2 : Int32} {w3 : Int32} {w4 : Int32} {w5 : Int32} {rv : Int64} {rs : wS} (h : wX11_farBy_j87 x1 x6 s = some (rv, rs)) : gRun 2 221 87 [some (.ref 153), some (.int x1), some (.int w2), some (.int w3), some (.int w4), some (.int w5), some (.int x6)] [] (wmk s) (some (.long rv), wmk rs, 0, 0) := by
  unfold wX11_farBy_j87 at h
  refine gR_go 3 (pc1 := 90) (L1 := [some (.ref 153), some (.int x1), some (.int w2), some (.int w3), some (.int w4), some (.int w5), some (.int x6)]) (st1 := [.ref 153, .int x1, .ref 153]) (fun _ _ => rfl) ?_
  refine gR_gfR (k := 152) (k' := 156) rfl rfl rfl rfl ?_
  refine gR_go 3 (pc1 := 97) (L1 := [some (.ref 153), some (.int x1), some (.int w2), some (.int w3), some (.int w4), some (.int w5), some (.int x6)]) (st1 := [.int (x6 + 1), .ref 157, .int x1, .ref 153]) (fun _ _ => rfl) ?_
  obtain ⟨t31, et31, h⟩ := gb h
  refine gR_ial (k := 156) rfl rfl rfl et31 ?_
  refine gR_go 1 (pc1 := 99) (L1 := [some (.ref 153), some (.int x1), some (.int w2), some (.int w3), some (.int w4), some (.int w5), some (.int x6)]) (st1 := [.ref 153, .int t31, .int x1, .ref 153]) (fun _ _ => rfl) ?_
  refine gR_gfR (k := 152) (k' := 156) rfl rfl rfl rfl ?_
  refine gR_go 3 (pc1 := 106) (L1 := [some (.ref 153), some (.int x1), some (.int w2), some (.int w3), some (.int w4), some (.int w5), some (.int x6)]) (st1 := [.int (x6 + 2), .ref 157, .int t31, .int x1, .ref 153]) (fun _ _ => rfl) ?_
  obtain ⟨t32, et32, h⟩ := gb h
  refine gR_ial (k := 156) rfl rfl rfl et32 ?_
  obtain ⟨⟨t33, s34⟩, e35, h⟩ := gb h
  dsimp only at h
  refine gR_cvL (wX11_reckons_s e35) (Nat.le_of_ble_eq_true rfl) rfl rfl rfl rfl rfl ?_
  obtain ⟨rfl, rfl⟩ := gi2 h
  exact gR_rl rfl rfl
noncomputable def wX11_farBy (x1 : Int32) (x2 : Int32) (x3 : Int32) (x4 : Int32) (s : wS) : Option (Int64 × wS) := (wX11_words x2 x3 x4 s).bind fun s2 => (wX11_farBy_h11 x1 x2 wFuel 0 s2).bind fun z16 => (match z16 with | .inl s17 => some ((s17.2 162 2), s17) | .inr (t25, s26) => wX11_farBy_j87 x1 t25 s26)
theorem wX11_farBy_s {x1 : Int32} {x2 : Int32} {x3 : Int32} {x4 : Int32} {s : wS} {rv : Int64} {rs : wS} (h : wX11_farBy x1 x2 x3 x4 s = some (rv, rs)) : gEv 3 221 [.ref 153, .int x1, .int x2, .int x3, .int x4] (wmk s) (some (.long rv), wmk rs, 0, 0) := by
  refine gEv_of (d := 2) (L := [some (.ref 153), some (.int x1), some (.int x2), some (.int x3), some (.int x4), none, none]) rfl ?_
  unfold wX11_farBy at h
  refine gR_go 4 (pc1 := 5) (L1 := [some (.ref 153), some (.int x1), some (.int x2), some (.int x3), some (.int x4), none, none]) (st1 := [.int x4, .int x3, .int x2, .ref 153]) (fun _ _ => rfl) ?_
  obtain ⟨s2, e3, h⟩ := gb h
  refine gR_cvV (wX11_words_s e3) (Nat.le_of_ble_eq_true rfl) rfl rfl rfl rfl rfl ?_
  refine gR_go 2 (pc1 := 11) (L1 := [some (.ref 153), some (.int x1), some (.int x2), some (.int x3), some (.int x4), some (.int 0), none]) (st1 := []) (fun _ _ => rfl) ?_
  obtain ⟨z16, ez16, h⟩ := gb h
  refine wX11_farBy_t11 ?_ ?_  ez16
  · intro s17 w18 w19 w20 w21 w22 w23 hz
    replace hz := hz.symm
    subst hz
    dsimp only at h
    refine gR_go 1 (pc1 := 118) (L1 := [some (.ref 153), some (.int w18), some (.int w19), some (.int w20), some (.int w21), some (.int w22), w23]) (st1 := [.ref 153]) (fun _ _ => rfl) ?_
    refine gR_gfR (k := 152) (k' := 162) rfl rfl rfl rfl ?_
    refine gR_go 1 (pc1 := 122) (L1 := [some (.ref 153), some (.int w18), some (.int w19), some (.int w20), some (.int w21), some (.int w22), w23]) (st1 := [.int 2, .ref 163]) (fun _ _ => rfl) ?_
    refine gR_lalc (k := 162) (j := 2) rfl rfl rfl (by decide) rfl ?_
    obtain ⟨rfl, rfl⟩ := gi2 h
    exact gR_rl rfl rfl
  · intro t25 s26 w27 w28 w29 w30 hz
    replace hz := hz.symm
    subst hz
    dsimp only at h
    exact wX11_farBy_u87 h
noncomputable def wX11_far (x1 : Int32) (x2 : Int32) (x3 : Int32) (x4 : Int32) (s : wS) : Option (Int64 × wS) := (wX11_isLaw x1 s).bind fun t1 => if t1 = 0 then (some ((-1000000000000), s)) else ((wX11_isThing x2 x3 s).bind fun t4 => if t4 = 0 then (some ((-1000000000000), s)) else ((wX11_isThing x2 x4 s).bind fun t7 => if t7 = 0 then (some ((-1000000000000), s)) else ((wX11_farBy x1 x2 x3 x4 s).bind fun (t10, s11) => some (t10, s11))))
theorem wX11_far_s {x1 : Int32} {x2 : Int32} {x3 : Int32} {x4 : Int32} {s : wS} {rv : Int64} {rs : wS} (h : wX11_far x1 x2 x3 x4 s = some (rv, rs)) : gEv 4 222 [.ref 153, .int x1, .int x2, .int x3, .int x4] (wmk s) (some (.long rv), wmk rs, 0, 0) := by
  refine gEv_of (d := 3) (L := [some (.ref 153), some (.int x1), some (.int x2), some (.int x3), some (.int x4)]) rfl ?_
  unfold wX11_far at h
  refine gR_go 2 (pc1 := 2) (L1 := [some (.ref 153), some (.int x1), some (.int x2), some (.int x3), some (.int x4)]) (st1 := [.int x1, .ref 153]) (fun _ _ => rfl) ?_
  obtain ⟨t1, e2, h⟩ := gb h
  refine gR_cvI (wX11_isLaw_s e2) (Nat.le_of_ble_eq_true rfl) rfl rfl rfl rfl rfl ?_
  rcases gif h with ⟨c3, h⟩ | ⟨c3, h⟩
  · refine gR_iz_eq_j rfl c3 rfl ?_
    refine gR_go 1 (pc1 := 42) (L1 := [some (.ref 153), some (.int x1), some (.int x2), some (.int x3), some (.int x4)]) (st1 := [.long (-1000000000000)]) (fun _ _ => rfl) ?_
    obtain ⟨rfl, rfl⟩ := gi2 h
    exact gR_rl rfl rfl
  · refine gR_iz_eq_f rfl c3 ?_
    refine gR_go 3 (pc1 := 11) (L1 := [some (.ref 153), some (.int x1), some (.int x2), some (.int x3), some (.int x4)]) (st1 := [.int x3, .int x2, .ref 153]) (fun _ _ => rfl) ?_
    obtain ⟨t4, e5, h⟩ := gb h
    refine gR_cvI (wX11_isThing_s e5) (Nat.le_of_ble_eq_true rfl) rfl rfl rfl rfl rfl ?_
    rcases gif h with ⟨c6, h⟩ | ⟨c6, h⟩
    · refine gR_iz_eq_j rfl c6 rfl ?_
      refine gR_go 1 (pc1 := 42) (L1 := [some (.ref 153), some (.int x1), some (.int x2), some (.int x3), some (.int x4)]) (st1 := [.long (-1000000000000)]) (fun _ _ => rfl) ?_
      obtain ⟨rfl, rfl⟩ := gi2 h
      exact gR_rl rfl rfl
    · refine gR_iz_eq_f rfl c6 ?_
      refine gR_go 3 (pc1 := 21) (L1 := [some (.ref 153), some (.int x1), some (.int x2), some (.int x3), some (.int x4)]) (st1 := [.int x4, .int x2, .ref 153]) (fun _ _ => rfl) ?_
      obtain ⟨t7, e8, h⟩ := gb h
      refine gR_cvI (wX11_isThing_s e8) (Nat.le_of_ble_eq_true rfl) rfl rfl rfl rfl rfl ?_
      rcases gif h with ⟨c9, h⟩ | ⟨c9, h⟩
      · refine gR_iz_eq_j rfl c9 rfl ?_
        refine gR_go 1 (pc1 := 42) (L1 := [some (.ref 153), some (.int x1), some (.int x2), some (.int x3), some (.int x4)]) (st1 := [.long (-1000000000000)]) (fun _ _ => rfl) ?_
        obtain ⟨rfl, rfl⟩ := gi2 h
        exact gR_rl rfl rfl
      · refine gR_iz_eq_f rfl c9 ?_
        refine gR_go 5 (pc1 := 33) (L1 := [some (.ref 153), some (.int x1), some (.int x2), some (.int x3), some (.int x4)]) (st1 := [.int x4, .int x3, .int x2, .int x1, .ref 153]) (fun _ _ => rfl) ?_
        obtain ⟨⟨t10, s11⟩, e12, h⟩ := gb h
        dsimp only at h
        refine gR_cvL (wX11_farBy_s e12) (Nat.le_of_ble_eq_true rfl) rfl rfl rfl rfl rfl ?_
        refine gR_go 1 (pc1 := 42) (L1 := [some (.ref 153), some (.int x1), some (.int x2), some (.int x3), some (.int x4)]) (st1 := [.long t10]) (fun _ _ => rfl) ?_
        obtain ⟨rfl, rfl⟩ := gi2 h
        exact gR_rl rfl rfl
noncomputable def wX11_answersBy_j30 (qq : Int32 → Int32 → Option (Int32)) (x1 : Int32) (x3 : Int32) (y0 : Int32) (y1 : Int32) (s : wS) : Option (Int32) := qq (y0 + y1) (x3 + 1)
theorem wX11_answersBy_u30 {x1 : Int32} {x3 : Int32} {y0 : Int32} {y1 : Int32} {s : wS} {w2 : Int32} {qq : Int32 → Int32 → Option (Int32)} {x : Int32} {r : ri_R} (ih : ∀ {x2 : Int32} {x3 : Int32} , qq x2 x3 = some x → gRun 1 223 4 [some (.ref 153), some (.int x1), some (.int x2), some (.int x3)] [] (wmk s) r) (he38 : ∀ (x2 : Int32) (w1 : Int32) (w3 : Int32) , x = x2 → gRun 1 223 38 [some (.ref 153), some (.int w1), some (.int x2), some (.int w3)] [] (wmk s) r) (h : wX11_answersBy_j30 qq x1 x3 y0 y1 s = some x) : gRun 1 223 30 [some (.ref 153), some (.int x1), some (.int w2), some (.int x3)] [.int y1, .int y0] (wmk s) r := by
  unfold wX11_answersBy_j30 at h
  refine gR_go 4 (pc1 := 4) (L1 := [some (.ref 153), some (.int x1), some (.int (y0 + y1)), some (.int (x3 + 1))]) (st1 := []) (fun _ _ => rfl) ?_
  exact ih h
noncomputable def wX11_answersBy_h4 (x1 : Int32) (s : wS) : Nat → Int32 → Int32 → Option (Int32)
  | 0, _, _ => none
  | n + 1, x2, x3 => if x3 < (s.1 163 3) then ((wX11_answerOf x3 0 s).bind fun t3 => if t3 = x1 then (wX11_answersBy_j30 (wX11_answersBy_h4 x1 s n) x1 x3 x2 1 s) else (wX11_answersBy_j30 (wX11_answersBy_h4 x1 s n) x1 x3 x2 0 s)) else (some x2)
theorem wX11_answersBy_t4 {x1 : Int32} {s : wS} {x : Int32} {r : ri_R} (he38 : ∀ (x2 : Int32) (w1 : Int32) (w3 : Int32) , x = x2 → gRun 1 223 38 [some (.ref 153), some (.int w1), some (.int x2), some (.int w3)] [] (wmk s) r) : ∀ {n : Nat} {x2 : Int32} {x3 : Int32} , wX11_answersBy_h4 x1 s n x2 x3 = some x → gRun 1 223 4 [some (.ref 153), some (.int x1), some (.int x2), some (.int x3)] [] (wmk s) r := by
  intro n
  induction n with
  | zero => intro x2 x3 h; cases (show (none : Option (Int32)) = some x from h)
  | succ n ih =>
    intro x2 x3 h
    rw [wX11_answersBy_h4] at h
    refine gR_go 2 (pc1 := 6) (L1 := [some (.ref 153), some (.int x1), some (.int x2), some (.int x3)]) (st1 := [.ref 153, .int x3]) (fun _ _ => rfl) ?_
    refine gR_gfR (k := 152) (k' := 163) rfl rfl rfl rfl ?_
    refine gR_go 1 (pc1 := 10) (L1 := [some (.ref 153), some (.int x1), some (.int x2), some (.int x3)]) (st1 := [.int 3, .ref 164, .int x3]) (fun _ _ => rfl) ?_
    refine gR_ialc (k := 163) (j := 3) rfl rfl rfl (by decide) rfl ?_
    rcases gif h with ⟨c2, h⟩ | ⟨c2, h⟩
    · refine gR_ic_ge_f rfl c2 ?_
      refine gR_go 4 (pc1 := 18) (L1 := [some (.ref 153), some (.int x1), some (.int x2), some (.int x3)]) (st1 := [.int 0, .int x3, .ref 153, .int x2]) (fun _ _ => rfl) ?_
      obtain ⟨t3, e4, h⟩ := gb h
      refine gR_cvI (wX11_answerOf_s e4) (Nat.le_of_ble_eq_true rfl) rfl rfl rfl rfl rfl ?_
      refine gR_go 1 (pc1 := 22) (L1 := [some (.ref 153), some (.int x1), some (.int x2), some (.int x3)]) (st1 := [.int x1, .int t3, .int x2]) (fun _ _ => rfl) ?_
      rcases gif h with ⟨c5, h⟩ | ⟨c5, h⟩
      · refine gR_ic_ne_f rfl c5 ?_
        refine gR_go 2 (pc1 := 30) (L1 := [some (.ref 153), some (.int x1), some (.int x2), some (.int x3)]) (st1 := [.int 1, .int x2]) (fun _ _ => rfl) ?_
        exact wX11_answersBy_u30 ih he38 h
      · refine gR_ic_ne_j rfl c5 rfl ?_
        refine gR_go 1 (pc1 := 30) (L1 := [some (.ref 153), some (.int x1), some (.int x2), some (.int x3)]) (st1 := [.int 0, .int x2]) (fun _ _ => rfl) ?_
        exact wX11_answersBy_u30 ih he38 h
    · refine gR_ic_ge_j rfl c2 rfl ?_
      exact he38 _ _ _ (Option.some.inj h).symm
noncomputable def wX11_answersBy (x1 : Int32) (s : wS) : Option (Int32) := (wX11_answersBy_h4 x1 s wFuel 0 0).bind fun t7 => some t7
theorem wX11_answersBy_s {x1 : Int32} {s : wS} {rv : Int32} (h : wX11_answersBy x1 s = some rv) : gEv 2 223 [.ref 153, .int x1] (wmk s) (some (.int rv), wmk s, 0, 0) := by
  refine gEv_of (d := 1) (L := [some (.ref 153), some (.int x1), none, none]) rfl ?_
  unfold wX11_answersBy at h
  refine gR_go 4 (pc1 := 4) (L1 := [some (.ref 153), some (.int x1), some (.int 0), some (.int 0)]) (st1 := []) (fun _ _ => rfl) ?_
  obtain ⟨z6, ez6, h⟩ := gb h
  refine wX11_answersBy_t4 ?_  ez6
  · intro t7 w8 w9 hz
    replace hz := hz.symm
    subst hz
    refine gR_go 1 (pc1 := 39) (L1 := [some (.ref 153), some (.int w8), some (.int t7), some (.int w9)]) (st1 := [.int t7]) (fun _ _ => rfl) ?_
    obtain rfl := gi1 h
    exact gR_ri rfl rfl
noncomputable def wX11_answer (x1 : Int32) (x2 : Int32) (x3 : Int32) (x4 : Int32) (s : wS) : Option (Int32 × wS) := if (s.1 163 3) = 40 then (some ((-1), s)) else ((wX11_isWitness x1 s).bind fun t3 => if t3 = 0 then (some ((-1), s)) else ((wX11_isThing x2 x3 s).bind fun t6 => if t6 = 0 then (some ((-1), s)) else ((wX11_isThing x2 x4 s).bind fun t9 => if t9 = 0 then (some ((-1), s)) else (if x3 = x4 then (some ((-1), s)) else ((wX11_answersBy x1 s).bind fun t13 => if t13 = 9 then (some ((-1), s)) else ((wstI s 163 262 (42 + (5 * (s.1 163 3))) x1).bind fun s17 => (wstI s17 163 262 ((42 + (5 * (s.1 163 3))) + 1) x2).bind fun s18 => (wstI s18 163 262 ((42 + (5 * (s.1 163 3))) + 2) x3).bind fun s19 => (wstI s19 163 262 ((42 + (5 * (s.1 163 3))) + 3) x4).bind fun s20 => (wstI s20 163 262 ((42 + (5 * (s.1 163 3))) + 4) 0).bind fun s21 => (wstI s21 163 262 3 ((s21.1 163 3) + 1)).bind fun s23 => some (((s23.1 163 3) - 1), s23)))))))
theorem wX11_answer_s {x1 : Int32} {x2 : Int32} {x3 : Int32} {x4 : Int32} {s : wS} {rv : Int32} {rs : wS} (h : wX11_answer x1 x2 x3 x4 s = some (rv, rs)) : gEv 4 224 [.ref 153, .int x1, .int x2, .int x3, .int x4] (wmk s) (some (.int rv), wmk rs, 0, 0) := by
  refine gEv_of (d := 3) (L := [some (.ref 153), some (.int x1), some (.int x2), some (.int x3), some (.int x4), none]) rfl ?_
  unfold wX11_answer at h
  refine gR_go 1 (pc1 := 1) (L1 := [some (.ref 153), some (.int x1), some (.int x2), some (.int x3), some (.int x4), none]) (st1 := [.ref 153]) (fun _ _ => rfl) ?_
  refine gR_gfR (k := 152) (k' := 163) rfl rfl rfl rfl ?_
  refine gR_go 1 (pc1 := 5) (L1 := [some (.ref 153), some (.int x1), some (.int x2), some (.int x3), some (.int x4), none]) (st1 := [.int 3, .ref 164]) (fun _ _ => rfl) ?_
  refine gR_ialc (k := 163) (j := 3) rfl rfl rfl (by decide) rfl ?_
  refine gR_go 1 (pc1 := 8) (L1 := [some (.ref 153), some (.int x1), some (.int x2), some (.int x3), some (.int x4), none]) (st1 := [.int 40, .int (s.1 163 3)]) (fun _ _ => rfl) ?_
  rcases gif h with ⟨c2, h⟩ | ⟨c2, h⟩
  · refine gR_ic_eq_j rfl c2 rfl ?_
    refine gR_go 1 (pc1 := 54) (L1 := [some (.ref 153), some (.int x1), some (.int x2), some (.int x3), some (.int x4), none]) (st1 := [.int (-1)]) (fun _ _ => rfl) ?_
    obtain ⟨rfl, rfl⟩ := gi2 h
    exact gR_ri rfl rfl
  · refine gR_ic_eq_f rfl c2 ?_
    refine gR_go 1 (pc1 := 12) (L1 := [some (.ref 153), some (.int x1), some (.int x2), some (.int x3), some (.int x4), none]) (st1 := [.int x1]) (fun _ _ => rfl) ?_
    obtain ⟨t3, e4, h⟩ := gb h
    refine gR_csI (wX11_isWitness_s e4) (Nat.le_of_ble_eq_true rfl) rfl rfl rfl rfl ?_
    rcases gif h with ⟨c5, h⟩ | ⟨c5, h⟩
    · refine gR_iz_eq_j rfl c5 rfl ?_
      refine gR_go 1 (pc1 := 54) (L1 := [some (.ref 153), some (.int x1), some (.int x2), some (.int x3), some (.int x4), none]) (st1 := [.int (-1)]) (fun _ _ => rfl) ?_
      obtain ⟨rfl, rfl⟩ := gi2 h
      exact gR_ri rfl rfl
    · refine gR_iz_eq_f rfl c5 ?_
      refine gR_go 3 (pc1 := 21) (L1 := [some (.ref 153), some (.int x1), some (.int x2), some (.int x3), some (.int x4), none]) (st1 := [.int x3, .int x2, .ref 153]) (fun _ _ => rfl) ?_
      obtain ⟨t6, e7, h⟩ := gb h
      refine gR_cvI (wX11_isThing_s e7) (Nat.le_of_ble_eq_true rfl) rfl rfl rfl rfl rfl ?_
      rcases gif h with ⟨c8, h⟩ | ⟨c8, h⟩
      · refine gR_iz_eq_j rfl c8 rfl ?_
        refine gR_go 1 (pc1 := 54) (L1 := [some (.ref 153), some (.int x1), some (.int x2), some (.int x3), some (.int x4), none]) (st1 := [.int (-1)]) (fun _ _ => rfl) ?_
        obtain ⟨rfl, rfl⟩ := gi2 h
        exact gR_ri rfl rfl
      · refine gR_iz_eq_f rfl c8 ?_
        refine gR_go 3 (pc1 := 31) (L1 := [some (.ref 153), some (.int x1), some (.int x2), some (.int x3), some (.int x4), none]) (st1 := [.int x4, .int x2, .ref 153]) (fun _ _ => rfl) ?_
        obtain ⟨t9, e10, h⟩ := gb h
        refine gR_cvI (wX11_isThing_s e10) (Nat.le_of_ble_eq_true rfl) rfl rfl rfl rfl rfl ?_
        rcases gif h with ⟨c11, h⟩ | ⟨c11, h⟩
        · refine gR_iz_eq_j rfl c11 rfl ?_
          refine gR_go 1 (pc1 := 54) (L1 := [some (.ref 153), some (.int x1), some (.int x2), some (.int x3), some (.int x4), none]) (st1 := [.int (-1)]) (fun _ _ => rfl) ?_
          obtain ⟨rfl, rfl⟩ := gi2 h
          exact gR_ri rfl rfl
        · refine gR_iz_eq_f rfl c11 ?_
          refine gR_go 2 (pc1 := 40) (L1 := [some (.ref 153), some (.int x1), some (.int x2), some (.int x3), some (.int x4), none]) (st1 := [.int x4, .int x3]) (fun _ _ => rfl) ?_
          rcases gif h with ⟨c12, h⟩ | ⟨c12, h⟩
          · refine gR_ic_eq_j rfl c12 rfl ?_
            refine gR_go 1 (pc1 := 54) (L1 := [some (.ref 153), some (.int x1), some (.int x2), some (.int x3), some (.int x4), none]) (st1 := [.int (-1)]) (fun _ _ => rfl) ?_
            obtain ⟨rfl, rfl⟩ := gi2 h
            exact gR_ri rfl rfl
          · refine gR_ic_eq_f rfl c12 ?_
            refine gR_go 2 (pc1 := 45) (L1 := [some (.ref 153), some (.int x1), some (.int x2), some (.int x3), some (.int x4), none]) (st1 := [.int x1, .ref 153]) (fun _ _ => rfl) ?_
            obtain ⟨t13, e14, h⟩ := gb h
            refine gR_cvI (wX11_answersBy_s e14) (Nat.le_of_ble_eq_true rfl) rfl rfl rfl rfl rfl ?_
            refine gR_go 1 (pc1 := 50) (L1 := [some (.ref 153), some (.int x1), some (.int x2), some (.int x3), some (.int x4), none]) (st1 := [.int 9, .int t13]) (fun _ _ => rfl) ?_
            rcases gif h with ⟨c15, h⟩ | ⟨c15, h⟩
            · refine gR_ic_ne_f rfl c15 ?_
              refine gR_go 1 (pc1 := 54) (L1 := [some (.ref 153), some (.int x1), some (.int x2), some (.int x3), some (.int x4), none]) (st1 := [.int (-1)]) (fun _ _ => rfl) ?_
              obtain ⟨rfl, rfl⟩ := gi2 h
              exact gR_ri rfl rfl
            · refine gR_ic_ne_j rfl c15 rfl ?_
              refine gR_go 3 (pc1 := 59) (L1 := [some (.ref 153), some (.int x1), some (.int x2), some (.int x3), some (.int x4), none]) (st1 := [.ref 153, .int 5, .int 42]) (fun _ _ => rfl) ?_
              refine gR_gfR (k := 152) (k' := 163) rfl rfl rfl rfl ?_
              refine gR_go 1 (pc1 := 63) (L1 := [some (.ref 153), some (.int x1), some (.int x2), some (.int x3), some (.int x4), none]) (st1 := [.int 3, .ref 164, .int 5, .int 42]) (fun _ _ => rfl) ?_
              refine gR_ialc (k := 163) (j := 3) rfl rfl rfl (by decide) rfl ?_
              refine gR_go 4 (pc1 := 69) (L1 := [some (.ref 153), some (.int x1), some (.int x2), some (.int x3), some (.int x4), some (.int (42 + (5 * (s.1 163 3))))]) (st1 := [.ref 153]) (fun _ _ => rfl) ?_
              refine gR_gfR (k := 152) (k' := 163) rfl rfl rfl rfl ?_
              refine gR_go 2 (pc1 := 75) (L1 := [some (.ref 153), some (.int x1), some (.int x2), some (.int x3), some (.int x4), some (.int (42 + (5 * (s.1 163 3))))]) (st1 := [.int x1, .int (42 + (5 * (s.1 163 3))), .ref 164]) (fun _ _ => rfl) ?_
              obtain ⟨s17, es17, h⟩ := gb h
              refine gR_ias (k := 163) rfl rfl rfl es17 ?_
              refine gR_go 1 (pc1 := 77) (L1 := [some (.ref 153), some (.int x1), some (.int x2), some (.int x3), some (.int x4), some (.int (42 + (5 * (s.1 163 3))))]) (st1 := [.ref 153]) (fun _ _ => rfl) ?_
              refine gR_gfR (k := 152) (k' := 163) rfl rfl rfl rfl ?_
              refine gR_go 4 (pc1 := 85) (L1 := [some (.ref 153), some (.int x1), some (.int x2), some (.int x3), some (.int x4), some (.int (42 + (5 * (s.1 163 3))))]) (st1 := [.int x2, .int ((42 + (5 * (s.1 163 3))) + 1), .ref 164]) (fun _ _ => rfl) ?_
              obtain ⟨s18, es18, h⟩ := gb h
              refine gR_ias (k := 163) rfl rfl rfl es18 ?_
              refine gR_go 1 (pc1 := 87) (L1 := [some (.ref 153), some (.int x1), some (.int x2), some (.int x3), some (.int x4), some (.int (42 + (5 * (s.1 163 3))))]) (st1 := [.ref 153]) (fun _ _ => rfl) ?_
              refine gR_gfR (k := 152) (k' := 163) rfl rfl rfl rfl ?_
              refine gR_go 4 (pc1 := 95) (L1 := [some (.ref 153), some (.int x1), some (.int x2), some (.int x3), some (.int x4), some (.int (42 + (5 * (s.1 163 3))))]) (st1 := [.int x3, .int ((42 + (5 * (s.1 163 3))) + 2), .ref 164]) (fun _ _ => rfl) ?_
              obtain ⟨s19, es19, h⟩ := gb h
              refine gR_ias (k := 163) rfl rfl rfl es19 ?_
              refine gR_go 1 (pc1 := 97) (L1 := [some (.ref 153), some (.int x1), some (.int x2), some (.int x3), some (.int x4), some (.int (42 + (5 * (s.1 163 3))))]) (st1 := [.ref 153]) (fun _ _ => rfl) ?_
              refine gR_gfR (k := 152) (k' := 163) rfl rfl rfl rfl ?_
              refine gR_go 4 (pc1 := 106) (L1 := [some (.ref 153), some (.int x1), some (.int x2), some (.int x3), some (.int x4), some (.int (42 + (5 * (s.1 163 3))))]) (st1 := [.int x4, .int ((42 + (5 * (s.1 163 3))) + 3), .ref 164]) (fun _ _ => rfl) ?_
              obtain ⟨s20, es20, h⟩ := gb h
              refine gR_ias (k := 163) rfl rfl rfl es20 ?_
              refine gR_go 1 (pc1 := 108) (L1 := [some (.ref 153), some (.int x1), some (.int x2), some (.int x3), some (.int x4), some (.int (42 + (5 * (s.1 163 3))))]) (st1 := [.ref 153]) (fun _ _ => rfl) ?_
              refine gR_gfR (k := 152) (k' := 163) rfl rfl rfl rfl ?_
              refine gR_go 4 (pc1 := 116) (L1 := [some (.ref 153), some (.int x1), some (.int x2), some (.int x3), some (.int x4), some (.int (42 + (5 * (s.1 163 3))))]) (st1 := [.int 0, .int ((42 + (5 * (s.1 163 3))) + 4), .ref 164]) (fun _ _ => rfl) ?_
              obtain ⟨s21, es21, h⟩ := gb h
              refine gR_ias (k := 163) rfl rfl rfl es21 ?_
              refine gR_go 1 (pc1 := 118) (L1 := [some (.ref 153), some (.int x1), some (.int x2), some (.int x3), some (.int x4), some (.int (42 + (5 * (s.1 163 3))))]) (st1 := [.ref 153]) (fun _ _ => rfl) ?_
              refine gR_gfR (k := 152) (k' := 163) rfl rfl rfl rfl ?_
              refine gR_go 2 (pc1 := 123) (L1 := [some (.ref 153), some (.int x1), some (.int x2), some (.int x3), some (.int x4), some (.int (42 + (5 * (s.1 163 3))))]) (st1 := [.int 3, .ref 164, .int 3, .ref 164]) (fun _ _ => rfl) ?_
              refine gR_ialc (k := 163) (j := 3) rfl rfl rfl (by decide) rfl ?_
              refine gR_go 2 (pc1 := 126) (L1 := [some (.ref 153), some (.int x1), some (.int x2), some (.int x3), some (.int x4), some (.int (42 + (5 * (s.1 163 3))))]) (st1 := [.int ((s21.1 163 3) + 1), .int 3, .ref 164]) (fun _ _ => rfl) ?_
              obtain ⟨s23, es23, h⟩ := gb h
              refine gR_ias (k := 163) rfl rfl rfl es23 ?_
              refine gR_go 1 (pc1 := 128) (L1 := [some (.ref 153), some (.int x1), some (.int x2), some (.int x3), some (.int x4), some (.int (42 + (5 * (s.1 163 3))))]) (st1 := [.ref 153]) (fun _ _ => rfl) ?_
              refine gR_gfR (k := 152) (k' := 163) rfl rfl rfl rfl ?_
              refine gR_go 1 (pc1 := 132) (L1 := [some (.ref 153), some (.int x1), some (.int x2), some (.int x3), some (.int x4), some (.int (42 + (5 * (s.1 163 3))))]) (st1 := [.int 3, .ref 164]) (fun _ _ => rfl) ?_
              refine gR_ialc (k := 163) (j := 3) rfl rfl rfl (by decide) rfl ?_
              refine gR_go 2 (pc1 := 135) (L1 := [some (.ref 153), some (.int x1), some (.int x2), some (.int x3), some (.int x4), some (.int (42 + (5 * (s.1 163 3))))]) (st1 := [.int ((s23.1 163 3) - 1)]) (fun _ _ => rfl) ?_
              obtain ⟨rfl, rfl⟩ := gi2 h
              exact gR_ri rfl rfl
noncomputable def wX11_answers (x1 : Int32) (x2 : Int32) (s : wS) : Option (Int32) := (wX11_isAnswer x1 s).bind fun t1 => if t1 = 0 then (some (-1)) else ((wX11_in ((x2 : Int32).toInt64) 0 4 s).bind fun t4 => if t4 = 0 then (some (-1)) else ((wX11_answerOf x1 x2 s).bind fun t7 => some t7))
theorem wX11_answers_s {x1 : Int32} {x2 : Int32} {s : wS} {rv : Int32} (h : wX11_answers x1 x2 s = some rv) : gEv 2 225 [.ref 153, .int x1, .int x2] (wmk s) (some (.int rv), wmk s, 0, 0) := by
  refine gEv_of (d := 1) (L := [some (.ref 153), some (.int x1), some (.int x2)]) rfl ?_
  unfold wX11_answers at h
  refine gR_go 2 (pc1 := 2) (L1 := [some (.ref 153), some (.int x1), some (.int x2)]) (st1 := [.int x1, .ref 153]) (fun _ _ => rfl) ?_
  obtain ⟨t1, e2, h⟩ := gb h
  refine gR_cvI (wX11_isAnswer_s e2) (Nat.le_of_ble_eq_true rfl) rfl rfl rfl rfl rfl ?_
  rcases gif h with ⟨c3, h⟩ | ⟨c3, h⟩
  · refine gR_iz_eq_j rfl c3 rfl ?_
    refine gR_go 1 (pc1 := 30) (L1 := [some (.ref 153), some (.int x1), some (.int x2)]) (st1 := [.int (-1)]) (fun _ _ => rfl) ?_
    obtain rfl := gi1 h
    exact gR_ri rfl rfl
  · refine gR_iz_eq_f rfl c3 ?_
    refine gR_go 4 (pc1 := 14) (L1 := [some (.ref 153), some (.int x1), some (.int x2)]) (st1 := [.long 4, .long 0, .long ((x2 : Int32).toInt64)]) (fun _ _ => rfl) ?_
    obtain ⟨t4, e5, h⟩ := gb h
    refine gR_csI (wX11_in_s e5) (Nat.le_of_ble_eq_true rfl) rfl rfl rfl rfl ?_
    rcases gif h with ⟨c6, h⟩ | ⟨c6, h⟩
    · refine gR_iz_eq_j rfl c6 rfl ?_
      refine gR_go 1 (pc1 := 30) (L1 := [some (.ref 153), some (.int x1), some (.int x2)]) (st1 := [.int (-1)]) (fun _ _ => rfl) ?_
      obtain rfl := gi1 h
      exact gR_ri rfl rfl
    · refine gR_iz_eq_f rfl c6 ?_
      refine gR_go 3 (pc1 := 23) (L1 := [some (.ref 153), some (.int x1), some (.int x2)]) (st1 := [.int x2, .int x1, .ref 153]) (fun _ _ => rfl) ?_
      obtain ⟨t7, e8, h⟩ := gb h
      refine gR_cvI (wX11_answerOf_s e8) (Nat.le_of_ble_eq_true rfl) rfl rfl rfl rfl rfl ?_
      refine gR_go 1 (pc1 := 30) (L1 := [some (.ref 153), some (.int x1), some (.int x2)]) (st1 := [.int t7]) (fun _ _ => rfl) ?_
      obtain rfl := gi1 h
      exact gR_ri rfl rfl
noncomputable def wX11_strike_j50 (y1 : Int32) (y2 : Int32) (s : wS) : Option (Int32 × wS) := (wstI s 163 262 y1 y2).bind fun s9 => some (1, s9)
theorem wX11_strike_u50 {y1 : Int32} {y2 : Int32} {s : wS} {w1 : Int32} {w2 : Int32} {rv : Int32} {rs : wS} (h : wX11_strike_j50 y1 y2 s = some (rv, rs)) : gRun 1 226 50 [some (.ref 153), some (.int w1), some (.int w2)] [.int y2, .int y1, .ref 164] (wmk s) (some (.int rv), wmk rs, 0, 0) := by
  unfold wX11_strike_j50 at h
  obtain ⟨s9, es9, h⟩ := gb h
  refine gR_ias (k := 163) rfl rfl rfl es9 ?_
  refine gR_go 1 (pc1 := 52) (L1 := [some (.ref 153), some (.int w1), some (.int w2)]) (st1 := [.int 1]) (fun _ _ => rfl) ?_
  obtain ⟨rfl, rfl⟩ := gi2 h
  exact gR_rzc rfl rfl rfl
noncomputable def wX11_strike_j23 (x1 : Int32) (x2 : Int32) (y0 : Int32) (s : wS) : Option (Int32 × wS) := if y0 = x2 then (some (0, s)) else (if x2 = 0 then (wX11_strike_j50 ((42 + (5 * x1)) + 4) 0 s) else (wX11_strike_j50 ((42 + (5 * x1)) + 4) 1 s))
theorem wX11_strike_u23 {x1 : Int32} {x2 : Int32} {y0 : Int32} {s : wS} {rv : Int32} {rs : wS} (h : wX11_strike_j23 x1 x2 y0 s = some (rv, rs)) : gRun 1 226 23 [some (.ref 153), some (.int x1), some (.int x2)] [.int y0] (wmk s) (some (.int rv), wmk rs, 0, 0) := by
  unfold wX11_strike_j23 at h
  refine gR_go 1 (pc1 := 24) (L1 := [some (.ref 153), some (.int x1), some (.int x2)]) (st1 := [.int x2, .int y0]) (fun _ _ => rfl) ?_
  rcases gif h with ⟨c7, h⟩ | ⟨c7, h⟩
  · refine gR_ic_ne_f rfl c7 ?_
    refine gR_go 1 (pc1 := 28) (L1 := [some (.ref 153), some (.int x1), some (.int x2)]) (st1 := [.int 0]) (fun _ _ => rfl) ?_
    obtain ⟨rfl, rfl⟩ := gi2 h
    exact gR_rzc rfl rfl rfl
  · refine gR_ic_ne_j rfl c7 rfl ?_
    refine gR_go 1 (pc1 := 30) (L1 := [some (.ref 153), some (.int x1), some (.int x2)]) (st1 := [.ref 153]) (fun _ _ => rfl) ?_
    refine gR_gfR (k := 152) (k' := 163) rfl rfl rfl rfl ?_
    refine gR_go 8 (pc1 := 42) (L1 := [some (.ref 153), some (.int x1), some (.int x2)]) (st1 := [.int x2, .int ((42 + (5 * x1)) + 4), .ref 164]) (fun _ _ => rfl) ?_
    rcases gif h with ⟨c8, h⟩ | ⟨c8, h⟩
    · refine gR_iz_eq_j rfl c8 rfl ?_
      refine gR_go 1 (pc1 := 50) (L1 := [some (.ref 153), some (.int x1), some (.int x2)]) (st1 := [.int 0, .int ((42 + (5 * x1)) + 4), .ref 164]) (fun _ _ => rfl) ?_
      exact wX11_strike_u50 h
    · refine gR_iz_eq_f rfl c8 ?_
      refine gR_go 2 (pc1 := 50) (L1 := [some (.ref 153), some (.int x1), some (.int x2)]) (st1 := [.int 1, .int ((42 + (5 * x1)) + 4), .ref 164]) (fun _ _ => rfl) ?_
      exact wX11_strike_u50 h
noncomputable def wX11_strike (x1 : Int32) (x2 : Int32) (s : wS) : Option (Int32 × wS) := (wX11_isAnswer x1 s).bind fun t1 => if t1 = 0 then (some (0, s)) else ((wX11_answerOf x1 4 s).bind fun t4 => if t4 = 1 then (wX11_strike_j23 x1 x2 1 s) else (wX11_strike_j23 x1 x2 0 s))
theorem wX11_strike_s {x1 : Int32} {x2 : Int32} {s : wS} {rv : Int32} {rs : wS} (h : wX11_strike x1 x2 s = some (rv, rs)) : gEv 2 226 [.ref 153, .int x1, .int x2] (wmk s) (some (.int rv), wmk rs, 0, 0) := by
  refine gEv_of (d := 1) (L := [some (.ref 153), some (.int x1), some (.int x2)]) rfl ?_
  unfold wX11_strike at h
  refine gR_go 2 (pc1 := 2) (L1 := [some (.ref 153), some (.int x1), some (.int x2)]) (st1 := [.int x1, .ref 153]) (fun _ _ => rfl) ?_
  obtain ⟨t1, e2, h⟩ := gb h
  refine gR_cvI (wX11_isAnswer_s e2) (Nat.le_of_ble_eq_true rfl) rfl rfl rfl rfl rfl ?_
  rcases gif h with ⟨c3, h⟩ | ⟨c3, h⟩
  · refine gR_iz_eq_j rfl c3 rfl ?_
    refine gR_go 1 (pc1 := 28) (L1 := [some (.ref 153), some (.int x1), some (.int x2)]) (st1 := [.int 0]) (fun _ _ => rfl) ?_
    obtain ⟨rfl, rfl⟩ := gi2 h
    exact gR_rzc rfl rfl rfl
  · refine gR_iz_eq_f rfl c3 ?_
    refine gR_go 3 (pc1 := 11) (L1 := [some (.ref 153), some (.int x1), some (.int x2)]) (st1 := [.int 4, .int x1, .ref 153]) (fun _ _ => rfl) ?_
    obtain ⟨t4, e5, h⟩ := gb h
    refine gR_cvI (wX11_answerOf_s e5) (Nat.le_of_ble_eq_true rfl) rfl rfl rfl rfl rfl ?_
    refine gR_go 1 (pc1 := 15) (L1 := [some (.ref 153), some (.int x1), some (.int x2)]) (st1 := [.int 1, .int t4]) (fun _ _ => rfl) ?_
    rcases gif h with ⟨c6, h⟩ | ⟨c6, h⟩
    · refine gR_ic_ne_f rfl c6 ?_
      refine gR_go 2 (pc1 := 23) (L1 := [some (.ref 153), some (.int x1), some (.int x2)]) (st1 := [.int 1]) (fun _ _ => rfl) ?_
      exact wX11_strike_u23 h
    · refine gR_ic_ne_j rfl c6 rfl ?_
      refine gR_go 1 (pc1 := 23) (L1 := [some (.ref 153), some (.int x1), some (.int x2)]) (st1 := [.int 0]) (fun _ _ => rfl) ?_
      exact wX11_strike_u23 h
noncomputable def wX11_only (x1 : Int32) (s : wS) : Option (Int32 × wS) := (wX11_in ((x1 : Int32).toInt64) (-1) 40 s).bind fun t1 => if t1 = 0 then (some (((Int8.ofInt (-2)).toInt32), s)) else ((wstI s 163 262 4 x1).bind fun s5 => some ((s.1 163 4), s5))
theorem wX11_only_s {x1 : Int32} {s : wS} {rv : Int32} {rs : wS} (h : wX11_only x1 s = some (rv, rs)) : gEv 2 227 [.ref 153, .int x1] (wmk s) (some (.int rv), wmk rs, 0, 0) := by
  refine gEv_of (d := 1) (L := [some (.ref 153), some (.int x1), none]) rfl ?_
  unfold wX11_only at h
  refine gR_go 4 (pc1 := 8) (L1 := [some (.ref 153), some (.int x1), none]) (st1 := [.long 40, .long (-1), .long ((x1 : Int32).toInt64)]) (fun _ _ => rfl) ?_
  obtain ⟨t1, e2, h⟩ := gb h
  refine gR_csI (wX11_in_s e2) (Nat.le_of_ble_eq_true rfl) rfl rfl rfl rfl ?_
  rcases gif h with ⟨c3, h⟩ | ⟨c3, h⟩
  · refine gR_iz_ne_f rfl c3 ?_
    refine gR_go 1 (pc1 := 16) (L1 := [some (.ref 153), some (.int x1), none]) (st1 := [.int ((Int8.ofInt (-2)).toInt32)]) (fun _ _ => rfl) ?_
    obtain ⟨rfl, rfl⟩ := gi2 h
    exact gR_ri rfl rfl
  · refine gR_iz_ne_j rfl c3 rfl ?_
    refine gR_go 1 (pc1 := 18) (L1 := [some (.ref 153), some (.int x1), none]) (st1 := [.ref 153]) (fun _ _ => rfl) ?_
    refine gR_gfR (k := 152) (k' := 163) rfl rfl rfl rfl ?_
    refine gR_go 1 (pc1 := 22) (L1 := [some (.ref 153), some (.int x1), none]) (st1 := [.int 4, .ref 164]) (fun _ _ => rfl) ?_
    refine gR_ialc (k := 163) (j := 4) rfl rfl rfl (by decide) rfl ?_
    refine gR_go 2 (pc1 := 25) (L1 := [some (.ref 153), some (.int x1), some (.int (s.1 163 4))]) (st1 := [.ref 153]) (fun _ _ => rfl) ?_
    refine gR_gfR (k := 152) (k' := 163) rfl rfl rfl rfl ?_
    refine gR_go 2 (pc1 := 30) (L1 := [some (.ref 153), some (.int x1), some (.int (s.1 163 4))]) (st1 := [.int x1, .int 4, .ref 164]) (fun _ _ => rfl) ?_
    obtain ⟨s5, es5, h⟩ := gb h
    refine gR_ias (k := 163) rfl rfl rfl es5 ?_
    refine gR_go 1 (pc1 := 32) (L1 := [some (.ref 153), some (.int x1), some (.int (s.1 163 4))]) (st1 := [.int (s.1 163 4)]) (fun _ _ => rfl) ?_
    obtain ⟨rfl, rfl⟩ := gi2 h
    exact gR_ri rfl rfl
noncomputable def wX11_isLookedAt_j29 (s : wS) : Option (Int32) := some 1
theorem wX11_isLookedAt_u29 {s : wS} {w1 : Int32} {rv : Int32} (h : wX11_isLookedAt_j29 s = some rv) : gRun 1 228 29 [some (.ref 153), some (.int w1)] [] (wmk s) (some (.int rv), wmk s, 0, 0) := by
  unfold wX11_isLookedAt_j29 at h
  refine gR_go 2 (pc1 := 34) (L1 := [some (.ref 153), some (.int w1)]) (st1 := [.int 1]) (fun _ _ => rfl) ?_
  obtain rfl := gi1 h
  exact gR_rzc rfl rfl rfl
noncomputable def wX11_isLookedAt (x1 : Int32) (s : wS) : Option (Int32) := (wX11_answerOf x1 4 s).bind fun t1 => if t1 = 0 then (if (s.1 163 4) = (-1) then (wX11_isLookedAt_j29 s) else (if x1 < (s.1 163 4) then (wX11_isLookedAt_j29 s) else (some 0))) else (some 0)
theorem wX11_isLookedAt_s {x1 : Int32} {s : wS} {rv : Int32} (h : wX11_isLookedAt x1 s = some rv) : gEv 2 228 [.ref 153, .int x1] (wmk s) (some (.int rv), wmk s, 0, 0) := by
  refine gEv_of (d := 1) (L := [some (.ref 153), some (.int x1)]) rfl ?_
  unfold wX11_isLookedAt at h
  refine gR_go 3 (pc1 := 3) (L1 := [some (.ref 153), some (.int x1)]) (st1 := [.int 4, .int x1, .ref 153]) (fun _ _ => rfl) ?_
  obtain ⟨t1, e2, h⟩ := gb h
  refine gR_cvI (wX11_answerOf_s e2) (Nat.le_of_ble_eq_true rfl) rfl rfl rfl rfl rfl ?_
  rcases gif h with ⟨c3, h⟩ | ⟨c3, h⟩
  · refine gR_iz_ne_f rfl c3 ?_
    refine gR_go 1 (pc1 := 10) (L1 := [some (.ref 153), some (.int x1)]) (st1 := [.ref 153]) (fun _ _ => rfl) ?_
    refine gR_gfR (k := 152) (k' := 163) rfl rfl rfl rfl ?_
    refine gR_go 1 (pc1 := 14) (L1 := [some (.ref 153), some (.int x1)]) (st1 := [.int 4, .ref 164]) (fun _ _ => rfl) ?_
    refine gR_ialc (k := 163) (j := 4) rfl rfl rfl (by decide) rfl ?_
    refine gR_go 1 (pc1 := 16) (L1 := [some (.ref 153), some (.int x1)]) (st1 := [.int (-1), .int (s.1 163 4)]) (fun _ _ => rfl) ?_
    rcases gif h with ⟨c5, h⟩ | ⟨c5, h⟩
    · refine gR_ic_eq_j rfl c5 rfl ?_
      exact wX11_isLookedAt_u29 h
    · refine gR_ic_eq_f rfl c5 ?_
      refine gR_go 2 (pc1 := 21) (L1 := [some (.ref 153), some (.int x1)]) (st1 := [.ref 153, .int x1]) (fun _ _ => rfl) ?_
      refine gR_gfR (k := 152) (k' := 163) rfl rfl rfl rfl ?_
      refine gR_go 1 (pc1 := 25) (L1 := [some (.ref 153), some (.int x1)]) (st1 := [.int 4, .ref 164, .int x1]) (fun _ _ => rfl) ?_
      refine gR_ialc (k := 163) (j := 4) rfl rfl rfl (by decide) rfl ?_
      rcases gif h with ⟨c7, h⟩ | ⟨c7, h⟩
      · refine gR_ic_ge_f rfl c7 ?_
        exact wX11_isLookedAt_u29 h
      · refine gR_ic_ge_j rfl c7 rfl ?_
        refine gR_go 1 (pc1 := 34) (L1 := [some (.ref 153), some (.int x1)]) (st1 := [.int 0]) (fun _ _ => rfl) ?_
        obtain rfl := gi1 h
        exact gR_rzc rfl rfl rfl
  · refine gR_iz_ne_j rfl c3 rfl ?_
    refine gR_go 1 (pc1 := 34) (L1 := [some (.ref 153), some (.int x1)]) (st1 := [.int 0]) (fun _ _ => rfl) ?_
    obtain rfl := gi1 h
    exact gR_rzc rfl rfl rfl
noncomputable def wX11_reaches_h22 (x1 : Int32) (x2 : Int32) (x3 : Int32) : Nat → Int32 → wS → Option (wS)
  | 0, _, _ => none
  | n + 1, x4, s => (wldI s 163 262 x2).bind fun t4 => if x4 < t4 then ((wX11_farBy x1 x2 x3 x4 s).bind fun (t6, s7) => (wstL s7 164 192 (((64 * x2) + (8 * x3)) + x4) t6).bind fun s9 => wX11_reaches_h22 x1 x2 x3 n (x4 + 1) s9) else (some s)
theorem wX11_reaches_t22 {x1 : Int32} {x2 : Int32} {x3 : Int32} {x : wS} {r : ri_R} (he65 : ∀ (s : wS) (w4 : Int32) , x = s → gRun 3 229 65 [some (.ref 153), some (.int x1), some (.int x2), some (.int x3), some (.int w4)] [] (wmk s) r) : ∀ {n : Nat} {x4 : Int32} {s : wS} , wX11_reaches_h22 x1 x2 x3 n x4 s = some x → gRun 3 229 22 [some (.ref 153), some (.int x1), some (.int x2), some (.int x3), some (.int x4)] [] (wmk s) r := by
  intro n
  induction n with
  | zero => intro x4 s h; cases (show (none : Option (wS)) = some x from h)
  | succ n ih =>
    intro x4 s h
    rw [wX11_reaches_h22] at h
    refine gR_go 2 (pc1 := 25) (L1 := [some (.ref 153), some (.int x1), some (.int x2), some (.int x3), some (.int x4)]) (st1 := [.ref 153, .int x4]) (fun _ _ => rfl) ?_
    refine gR_gfR (k := 152) (k' := 163) rfl rfl rfl rfl ?_
    refine gR_go 1 (pc1 := 29) (L1 := [some (.ref 153), some (.int x1), some (.int x2), some (.int x3), some (.int x4)]) (st1 := [.int x2, .ref 164, .int x4]) (fun _ _ => rfl) ?_
    obtain ⟨t4, et4, h⟩ := gb h
    refine gR_ial (k := 163) rfl rfl rfl et4 ?_
    rcases gif h with ⟨c5, h⟩ | ⟨c5, h⟩
    · refine gR_ic_ge_f rfl c5 ?_
      refine gR_go 1 (pc1 := 34) (L1 := [some (.ref 153), some (.int x1), some (.int x2), some (.int x3), some (.int x4)]) (st1 := [.ref 153]) (fun _ _ => rfl) ?_
      refine gR_gfR (k := 152) (k' := 164) rfl rfl rfl rfl ?_
      refine gR_go 14 (pc1 := 55) (L1 := [some (.ref 153), some (.int x1), some (.int x2), some (.int x3), some (.int x4)]) (st1 := [.int x4, .int x3, .int x2, .int x1, .ref 153, .int (((64 * x2) + (8 * x3)) + x4), .ref 165]) (fun _ _ => rfl) ?_
      obtain ⟨⟨t6, s7⟩, e8, h⟩ := gb h
      dsimp only at h
      refine gR_cvL (wX11_farBy_s e8) (Nat.le_of_ble_eq_true rfl) rfl rfl rfl rfl rfl ?_
      obtain ⟨s9, es9, h⟩ := gb h
      refine gR_las (k := 164) rfl rfl rfl es9 ?_
      refine gR_go 2 (pc1 := 22) (L1 := [some (.ref 153), some (.int x1), some (.int x2), some (.int x3), some (.int (x4 + 1))]) (st1 := []) (fun _ _ => rfl) ?_
      exact ih h
    · refine gR_ic_ge_j rfl c5 rfl ?_
      exact he65 _ _ (Option.some.inj h).symm
noncomputable def wX11_reaches_h9 (x1 : Int32) (x2 : Int32) : Nat → Int32 → wS → Option (wS)
  | 0, _, _ => none
  | n + 1, x3, s => (wldI s 163 262 x2).bind fun t2 => if x3 < t2 then ((wX11_reaches_h22 x1 x2 x3 wFuel 0 s).bind fun s11 => wX11_reaches_h9 x1 x2 n (x3 + 1) s11) else (some s)
theorem wX11_reaches_t9 {x1 : Int32} {x2 : Int32} {x : wS} {r : ri_R} (he71 : ∀ (s : wS) (w3 : Int32) (w4 : Option Value) , x = s → gRun 3 229 71 [some (.ref 153), some (.int x1), some (.int x2), some (.int w3), w4] [] (wmk s) r) : ∀ {n : Nat} {x3 : Int32} {s : wS} {w4 : Option Value} , wX11_reaches_h9 x1 x2 n x3 s = some x → gRun 3 229 9 [some (.ref 153), some (.int x1), some (.int x2), some (.int x3), w4] [] (wmk s) r := by
  intro n
  induction n with
  | zero => intro x3 s w4 h; cases (show (none : Option (wS)) = some x from h)
  | succ n ih =>
    intro x3 s w4 h
    rw [wX11_reaches_h9] at h
    refine gR_go 2 (pc1 := 11) (L1 := [some (.ref 153), some (.int x1), some (.int x2), some (.int x3), w4]) (st1 := [.ref 153, .int x3]) (fun _ _ => rfl) ?_
    refine gR_gfR (k := 152) (k' := 163) rfl rfl rfl rfl ?_
    refine gR_go 1 (pc1 := 15) (L1 := [some (.ref 153), some (.int x1), some (.int x2), some (.int x3), w4]) (st1 := [.int x2, .ref 164, .int x3]) (fun _ _ => rfl) ?_
    obtain ⟨t2, et2, h⟩ := gb h
    refine gR_ial (k := 163) rfl rfl rfl et2 ?_
    rcases gif h with ⟨c3, h⟩ | ⟨c3, h⟩
    · refine gR_ic_ge_f rfl c3 ?_
      refine gR_go 2 (pc1 := 22) (L1 := [some (.ref 153), some (.int x1), some (.int x2), some (.int x3), some (.int 0)]) (st1 := []) (fun _ _ => rfl) ?_
      obtain ⟨z10, ez10, h⟩ := gb h
      refine wX11_reaches_t22 ?_  ez10
      · intro s11 w12 hz
        replace hz := hz.symm
        subst hz
        refine gR_go 2 (pc1 := 9) (L1 := [some (.ref 153), some (.int x1), some (.int x2), some (.int (x3 + 1)), some (.int w12)]) (st1 := []) (fun _ _ => rfl) ?_
        exact ih h
    · refine gR_ic_ge_j rfl c3 rfl ?_
      exact he71 _ _ _ (Option.some.inj h).symm
noncomputable def wX11_reaches_h2 (x1 : Int32) : Nat → Int32 → wS → Option (wS)
  | 0, _, _ => none
  | n + 1, x2, s => if x2 < 3 then ((wX11_reaches_h9 x1 x2 wFuel 0 s).bind fun s14 => wX11_reaches_h2 x1 n (x2 + 1) s14) else (some s)
theorem wX11_reaches_t2 {x1 : Int32} {x : wS} {r : ri_R} (he77 : ∀ (s : wS) (w1 : Int32) (w2 : Int32) (w3 : Option Value) (w4 : Option Value) , x = s → gRun 3 229 77 [some (.ref 153), some (.int w1), some (.int w2), w3, w4] [] (wmk s) r) : ∀ {n : Nat} {x2 : Int32} {s : wS} {w3 : Option Value} {w4 : Option Value} , wX11_reaches_h2 x1 n x2 s = some x → gRun 3 229 2 [some (.ref 153), some (.int x1), some (.int x2), w3, w4] [] (wmk s) r := by
  intro n
  induction n with
  | zero => intro x2 s w3 w4 h; cases (show (none : Option (wS)) = some x from h)
  | succ n ih =>
    intro x2 s w3 w4 h
    rw [wX11_reaches_h2] at h
    refine gR_go 2 (pc1 := 4) (L1 := [some (.ref 153), some (.int x1), some (.int x2), w3, w4]) (st1 := [.int 3, .int x2]) (fun _ _ => rfl) ?_
    rcases gif h with ⟨c1, h⟩ | ⟨c1, h⟩
    · refine gR_ic_ge_f rfl c1 ?_
      refine gR_go 2 (pc1 := 9) (L1 := [some (.ref 153), some (.int x1), some (.int x2), some (.int 0), w4]) (st1 := []) (fun _ _ => rfl) ?_
      obtain ⟨z13, ez13, h⟩ := gb h
      refine wX11_reaches_t9 ?_  ez13
      · intro s14 w15 w16 hz
        replace hz := hz.symm
        subst hz
        refine gR_go 2 (pc1 := 2) (L1 := [some (.ref 153), some (.int x1), some (.int (x2 + 1)), some (.int w15), w16]) (st1 := []) (fun _ _ => rfl) ?_
        exact ih h
    · refine gR_ic_ge_j rfl c1 rfl ?_
      exact he77 _ _ _ _ _ (Option.some.inj h).symm
noncomputable def wX11_reaches (x1 : Int32) (s : wS) : Option (wS) := (wX11_reaches_h2 x1 wFuel 0 s).bind fun s18 => some s18
theorem wX11_reaches_s {x1 : Int32} {s : wS} {rs : wS} (h : wX11_reaches x1 s = some rs) : gEv 4 229 [.ref 153, .int x1] (wmk s) (none, wmk rs, 0, 0) := by
  refine gEv_of (d := 3) (L := [some (.ref 153), some (.int x1), none, none, none]) rfl ?_
  unfold wX11_reaches at h
  refine gR_go 2 (pc1 := 2) (L1 := [some (.ref 153), some (.int x1), some (.int 0), none, none]) (st1 := []) (fun _ _ => rfl) ?_
  obtain ⟨z17, ez17, h⟩ := gb h
  refine wX11_reaches_t2 ?_  ez17
  · intro s18 w19 w20 w21 w22 hz
    replace hz := hz.symm
    subst hz
    obtain rfl := gi1 h
    exact gR_rv rfl rfl
noncomputable def wX11_isNearer (x1 : Int32) (x2 : Int32) (x3 : Int32) (x4 : Int32) (s : wS) : Option (Int32) := (wX11_thingOf x4 x1 s).bind fun t1 => (wldL s 164 192 (((64 * x1) + (8 * x2)) + t1)).bind fun t3 => (wldL s 164 192 (((64 * x1) + (8 * x3)) + t1)).bind fun t4 => if t4 < t3 then (some 0) else (some 1)
theorem wX11_isNearer_s {x1 : Int32} {x2 : Int32} {x3 : Int32} {x4 : Int32} {s : wS} {rv : Int32} (h : wX11_isNearer x1 x2 x3 x4 s = some rv) : gEv 2 230 [.ref 153, .int x1, .int x2, .int x3, .int x4] (wmk s) (some (.int rv), wmk s, 0, 0) := by
  refine gEv_of (d := 1) (L := [some (.ref 153), some (.int x1), some (.int x2), some (.int x3), some (.int x4), none]) rfl ?_
  unfold wX11_isNearer at h
  refine gR_go 3 (pc1 := 4) (L1 := [some (.ref 153), some (.int x1), some (.int x2), some (.int x3), some (.int x4), none]) (st1 := [.int x1, .int x4, .ref 153]) (fun _ _ => rfl) ?_
  obtain ⟨t1, e2, h⟩ := gb h
  refine gR_cvI (wX11_thingOf_s e2) (Nat.le_of_ble_eq_true rfl) rfl rfl rfl rfl rfl ?_
  refine gR_go 2 (pc1 := 10) (L1 := [some (.ref 153), some (.int x1), some (.int x2), some (.int x3), some (.int x4), some (.int t1)]) (st1 := [.ref 153]) (fun _ _ => rfl) ?_
  refine gR_gfR (k := 152) (k' := 164) rfl rfl rfl rfl ?_
  refine gR_go 9 (pc1 := 25) (L1 := [some (.ref 153), some (.int x1), some (.int x2), some (.int x3), some (.int x4), some (.int t1)]) (st1 := [.int (((64 * x1) + (8 * x2)) + t1), .ref 165]) (fun _ _ => rfl) ?_
  obtain ⟨t3, et3, h⟩ := gb h
  refine gR_lal (k := 164) rfl rfl rfl et3 ?_
  refine gR_go 1 (pc1 := 27) (L1 := [some (.ref 153), some (.int x1), some (.int x2), some (.int x3), some (.int x4), some (.int t1)]) (st1 := [.ref 153, .long t3]) (fun _ _ => rfl) ?_
  refine gR_gfR (k := 152) (k' := 164) rfl rfl rfl rfl ?_
  refine gR_go 9 (pc1 := 42) (L1 := [some (.ref 153), some (.int x1), some (.int x2), some (.int x3), some (.int x4), some (.int t1)]) (st1 := [.int (((64 * x1) + (8 * x3)) + t1), .ref 165, .long t3]) (fun _ _ => rfl) ?_
  obtain ⟨t4, et4, h⟩ := gb h
  refine gR_lal (k := 164) rfl rfl rfl et4 ?_
  refine gR_go 1 (pc1 := 44) (L1 := [some (.ref 153), some (.int x1), some (.int x2), some (.int x3), some (.int x4), some (.int t1)]) (st1 := [.int (lg_cmp t3 t4)]) (fun _ _ => rfl) ?_
  rcases gif h with ⟨c5, h⟩ | ⟨c5, h⟩
  · refine gR_lc_gt_j rfl c5 rfl ?_
    refine gR_go 1 (pc1 := 52) (L1 := [some (.ref 153), some (.int x1), some (.int x2), some (.int x3), some (.int x4), some (.int t1)]) (st1 := [.int 0]) (fun _ _ => rfl) ?_
    obtain rfl := gi1 h
    exact gR_rzc rfl rfl rfl
  · refine gR_lc_gt_f rfl c5 ?_
    refine gR_go 2 (pc1 := 52) (L1 := [some (.ref 153), some (.int x1), some (.int x2), some (.int x3), some (.int x4), some (.int t1)]) (st1 := [.int 1]) (fun _ _ => rfl) ?_
    obtain rfl := gi1 h
    exact gR_rzc rfl rfl rfl
noncomputable def wX11_isTrue (x1 : Int32) (x2 : Int32) (s : wS) : Option (Int32) := (wX11_answerOf x1 1 s).bind fun t1 => (wX11_answerOf x1 2 s).bind fun t3 => (wX11_answerOf x1 3 s).bind fun t5 => (wX11_isNearer t1 t3 t5 x2 s).bind fun t7 => wrtZ t7
theorem wX11_isTrue_s {x1 : Int32} {x2 : Int32} {s : wS} {rv : Int32} (h : wX11_isTrue x1 x2 s = some rv) : gEv 3 231 [.ref 153, .int x1, .int x2] (wmk s) (some (.int rv), wmk s, 0, 0) := by
  refine gEv_of (d := 2) (L := [some (.ref 153), some (.int x1), some (.int x2)]) rfl ?_
  unfold wX11_isTrue at h
  refine gR_go 4 (pc1 := 4) (L1 := [some (.ref 153), some (.int x1), some (.int x2)]) (st1 := [.int 1, .int x1, .ref 153, .ref 153]) (fun _ _ => rfl) ?_
  obtain ⟨t1, e2, h⟩ := gb h
  refine gR_cvI (wX11_answerOf_s e2) (Nat.le_of_ble_eq_true rfl) rfl rfl rfl rfl rfl ?_
  refine gR_go 3 (pc1 := 10) (L1 := [some (.ref 153), some (.int x1), some (.int x2)]) (st1 := [.int 2, .int x1, .ref 153, .int t1, .ref 153]) (fun _ _ => rfl) ?_
  obtain ⟨t3, e4, h⟩ := gb h
  refine gR_cvI (wX11_answerOf_s e4) (Nat.le_of_ble_eq_true rfl) rfl rfl rfl rfl rfl ?_
  refine gR_go 3 (pc1 := 16) (L1 := [some (.ref 153), some (.int x1), some (.int x2)]) (st1 := [.int 3, .int x1, .ref 153, .int t3, .int t1, .ref 153]) (fun _ _ => rfl) ?_
  obtain ⟨t5, e6, h⟩ := gb h
  refine gR_cvI (wX11_answerOf_s e6) (Nat.le_of_ble_eq_true rfl) rfl rfl rfl rfl rfl ?_
  refine gR_go 1 (pc1 := 20) (L1 := [some (.ref 153), some (.int x1), some (.int x2)]) (st1 := [.int x2, .int t5, .int t3, .int t1, .ref 153]) (fun _ _ => rfl) ?_
  obtain ⟨t7, e8, h⟩ := gb h
  refine gR_cvI (wX11_isNearer_s e8) (Nat.le_of_ble_eq_true rfl) rfl rfl rfl rfl rfl ?_
  exact gR_rz rfl rfl h
noncomputable def wX11_wrongIn_j47 (qq : Int32 → Int32 → Option (Int32)) (x1 : Int32) (x2 : Int32) (x4 : Int32) (y0 : Int32) (y1 : Int32) (s : wS) : Option (Int32) := qq (y0 + y1) (x4 + 1)
theorem wX11_wrongIn_u47 {x1 : Int32} {x2 : Int32} {x4 : Int32} {y0 : Int32} {y1 : Int32} {s : wS} {w3 : Int32} {qq : Int32 → Int32 → Option (Int32)} {x : Int32} {r : ri_R} (ih : ∀ {x3 : Int32} {x4 : Int32} , qq x3 x4 = some x → gRun 3 232 5 [some (.ref 153), some (.int x1), some (.int x2), some (.int x3), some (.int x4)] [] (wmk s) r) (he55 : ∀ (x3 : Int32) (w1 : Int32) (w2 : Int32) (w4 : Int32) , x = x3 → gRun 3 232 55 [some (.ref 153), some (.int w1), some (.int w2), some (.int x3), some (.int w4)] [] (wmk s) r) (h : wX11_wrongIn_j47 qq x1 x2 x4 y0 y1 s = some x) : gRun 3 232 47 [some (.ref 153), some (.int x1), some (.int x2), some (.int w3), some (.int x4)] [.int y1, .int y0] (wmk s) r := by
  unfold wX11_wrongIn_j47 at h
  refine gR_go 4 (pc1 := 5) (L1 := [some (.ref 153), some (.int x1), some (.int x2), some (.int (y0 + y1)), some (.int (x4 + 1))]) (st1 := []) (fun _ _ => rfl) ?_
  exact ih h
noncomputable def wX11_wrongIn_j46 (qq : Int32 → Int32 → Option (Int32)) (x1 : Int32) (x2 : Int32) (x4 : Int32) (y0 : Int32) (s : wS) : Option (Int32) := wX11_wrongIn_j47 qq x1 x2 x4 y0 0 s
theorem wX11_wrongIn_u46 {x1 : Int32} {x2 : Int32} {x4 : Int32} {y0 : Int32} {s : wS} {w3 : Int32} {qq : Int32 → Int32 → Option (Int32)} {x : Int32} {r : ri_R} (ih : ∀ {x3 : Int32} {x4 : Int32} , qq x3 x4 = some x → gRun 3 232 5 [some (.ref 153), some (.int x1), some (.int x2), some (.int x3), some (.int x4)] [] (wmk s) r) (he55 : ∀ (x3 : Int32) (w1 : Int32) (w2 : Int32) (w4 : Int32) , x = x3 → gRun 3 232 55 [some (.ref 153), some (.int w1), some (.int w2), some (.int x3), some (.int w4)] [] (wmk s) r) (h : wX11_wrongIn_j46 qq x1 x2 x4 y0 s = some x) : gRun 3 232 46 [some (.ref 153), some (.int x1), some (.int x2), some (.int w3), some (.int x4)] [.int y0] (wmk s) r := by
  unfold wX11_wrongIn_j46 at h
  refine gR_go 1 (pc1 := 47) (L1 := [some (.ref 153), some (.int x1), some (.int x2), some (.int w3), some (.int x4)]) (st1 := [.int 0, .int y0]) (fun _ _ => rfl) ?_
  exact wX11_wrongIn_u47 ih he55 h
noncomputable def wX11_wrongIn_h5 (x1 : Int32) (x2 : Int32) (s : wS) : Nat → Int32 → Int32 → Option (Int32)
  | 0, _, _ => none
  | n + 1, x3, x4 => if x4 < (s.1 163 3) then (if x4 = x2 then (wX11_wrongIn_j46 (wX11_wrongIn_h5 x1 x2 s n) x1 x2 x4 x3 s) else ((wX11_isLookedAt x4 s).bind fun t4 => if t4 = 0 then (wX11_wrongIn_j46 (wX11_wrongIn_h5 x1 x2 s n) x1 x2 x4 x3 s) else ((wX11_isTrue x4 x1 s).bind fun t7 => if t7 = 0 then (wX11_wrongIn_j47 (wX11_wrongIn_h5 x1 x2 s n) x1 x2 x4 x3 1 s) else (wX11_wrongIn_j46 (wX11_wrongIn_h5 x1 x2 s n) x1 x2 x4 x3 s)))) else (some x3)
theorem wX11_wrongIn_t5 {x1 : Int32} {x2 : Int32} {s : wS} {x : Int32} {r : ri_R} (he55 : ∀ (x3 : Int32) (w1 : Int32) (w2 : Int32) (w4 : Int32) , x = x3 → gRun 3 232 55 [some (.ref 153), some (.int w1), some (.int w2), some (.int x3), some (.int w4)] [] (wmk s) r) : ∀ {n : Nat} {x3 : Int32} {x4 : Int32} , wX11_wrongIn_h5 x1 x2 s n x3 x4 = some x → gRun 3 232 5 [some (.ref 153), some (.int x1), some (.int x2), some (.int x3), some (.int x4)] [] (wmk s) r := by
  intro n
  induction n with
  | zero => intro x3 x4 h; cases (show (none : Option (Int32)) = some x from h)
  | succ n ih =>
    intro x3 x4 h
    rw [wX11_wrongIn_h5] at h
    refine gR_go 2 (pc1 := 8) (L1 := [some (.ref 153), some (.int x1), some (.int x2), some (.int x3), some (.int x4)]) (st1 := [.ref 153, .int x4]) (fun _ _ => rfl) ?_
    refine gR_gfR (k := 152) (k' := 163) rfl rfl rfl rfl ?_
    refine gR_go 1 (pc1 := 12) (L1 := [some (.ref 153), some (.int x1), some (.int x2), some (.int x3), some (.int x4)]) (st1 := [.int 3, .ref 164, .int x4]) (fun _ _ => rfl) ?_
    refine gR_ialc (k := 163) (j := 3) rfl rfl rfl (by decide) rfl ?_
    rcases gif h with ⟨c2, h⟩ | ⟨c2, h⟩
    · refine gR_ic_ge_f rfl c2 ?_
      refine gR_go 3 (pc1 := 20) (L1 := [some (.ref 153), some (.int x1), some (.int x2), some (.int x3), some (.int x4)]) (st1 := [.int x2, .int x4, .int x3]) (fun _ _ => rfl) ?_
      rcases gif h with ⟨c3, h⟩ | ⟨c3, h⟩
      · refine gR_ic_eq_j rfl c3 rfl ?_
        exact wX11_wrongIn_u46 ih he55 h
      · refine gR_ic_eq_f rfl c3 ?_
        refine gR_go 2 (pc1 := 26) (L1 := [some (.ref 153), some (.int x1), some (.int x2), some (.int x3), some (.int x4)]) (st1 := [.int x4, .ref 153, .int x3]) (fun _ _ => rfl) ?_
        obtain ⟨t4, e5, h⟩ := gb h
        refine gR_cvI (wX11_isLookedAt_s e5) (Nat.le_of_ble_eq_true rfl) rfl rfl rfl rfl rfl ?_
        rcases gif h with ⟨c6, h⟩ | ⟨c6, h⟩
        · refine gR_iz_eq_j rfl c6 rfl ?_
          exact wX11_wrongIn_u46 ih he55 h
        · refine gR_iz_eq_f rfl c6 ?_
          refine gR_go 3 (pc1 := 36) (L1 := [some (.ref 153), some (.int x1), some (.int x2), some (.int x3), some (.int x4)]) (st1 := [.int x1, .int x4, .ref 153, .int x3]) (fun _ _ => rfl) ?_
          obtain ⟨t7, e8, h⟩ := gb h
          refine gR_cvI (wX11_isTrue_s e8) (Nat.le_of_ble_eq_true rfl) rfl rfl rfl rfl rfl ?_
          rcases gif h with ⟨c9, h⟩ | ⟨c9, h⟩
          · refine gR_iz_ne_f rfl c9 ?_
            refine gR_go 2 (pc1 := 47) (L1 := [some (.ref 153), some (.int x1), some (.int x2), some (.int x3), some (.int x4)]) (st1 := [.int 1, .int x3]) (fun _ _ => rfl) ?_
            exact wX11_wrongIn_u47 ih he55 h
          · refine gR_iz_ne_j rfl c9 rfl ?_
            exact wX11_wrongIn_u46 ih he55 h
    · refine gR_ic_ge_j rfl c2 rfl ?_
      exact he55 _ _ _ _ (Option.some.inj h).symm
noncomputable def wX11_wrongIn (x1 : Int32) (x2 : Int32) (s : wS) : Option (Int32) := (wX11_wrongIn_h5 x1 x2 s wFuel 0 0).bind fun t11 => some t11
theorem wX11_wrongIn_s {x1 : Int32} {x2 : Int32} {s : wS} {rv : Int32} (h : wX11_wrongIn x1 x2 s = some rv) : gEv 4 232 [.ref 153, .int x1, .int x2] (wmk s) (some (.int rv), wmk s, 0, 0) := by
  refine gEv_of (d := 3) (L := [some (.ref 153), some (.int x1), some (.int x2), none, none]) rfl ?_
  unfold wX11_wrongIn at h
  refine gR_go 4 (pc1 := 5) (L1 := [some (.ref 153), some (.int x1), some (.int x2), some (.int 0), some (.int 0)]) (st1 := []) (fun _ _ => rfl) ?_
  obtain ⟨z10, ez10, h⟩ := gb h
  refine wX11_wrongIn_t5 ?_  ez10
  · intro t11 w12 w13 w14 hz
    replace hz := hz.symm
    subst hz
    refine gR_go 1 (pc1 := 56) (L1 := [some (.ref 153), some (.int w12), some (.int w13), some (.int t11), some (.int w14)]) (st1 := [.int t11]) (fun _ _ => rfl) ?_
    obtain rfl := gi1 h
    exact gR_ri rfl rfl
noncomputable def wX11_canAsk (x1 : Int32) (s : wS) : Option (Int32) := (wX11_isCourt s).bind fun t1 => if t1 = 0 then (some 0) else ((wX11_isLaw x1 s).bind fun t4 => if t4 = 0 then (some 0) else (some 1))
theorem wX11_canAsk_s {x1 : Int32} {s : wS} {rv : Int32} (h : wX11_canAsk x1 s = some rv) : gEv 2 233 [.ref 153, .int x1] (wmk s) (some (.int rv), wmk s, 0, 0) := by
  refine gEv_of (d := 1) (L := [some (.ref 153), some (.int x1)]) rfl ?_
  unfold wX11_canAsk at h
  refine gR_go 1 (pc1 := 1) (L1 := [some (.ref 153), some (.int x1)]) (st1 := [.ref 153]) (fun _ _ => rfl) ?_
  obtain ⟨t1, e2, h⟩ := gb h
  refine gR_cvI (wX11_isCourt_s e2) (Nat.le_of_ble_eq_true rfl) rfl rfl rfl rfl rfl ?_
  rcases gif h with ⟨c3, h⟩ | ⟨c3, h⟩
  · refine gR_iz_eq_j rfl c3 rfl ?_
    refine gR_go 1 (pc1 := 20) (L1 := [some (.ref 153), some (.int x1)]) (st1 := [.int 0]) (fun _ _ => rfl) ?_
    obtain rfl := gi1 h
    exact gR_rzc rfl rfl rfl
  · refine gR_iz_eq_f rfl c3 ?_
    refine gR_go 2 (pc1 := 9) (L1 := [some (.ref 153), some (.int x1)]) (st1 := [.int x1, .ref 153]) (fun _ _ => rfl) ?_
    obtain ⟨t4, e5, h⟩ := gb h
    refine gR_cvI (wX11_isLaw_s e5) (Nat.le_of_ble_eq_true rfl) rfl rfl rfl rfl rfl ?_
    rcases gif h with ⟨c6, h⟩ | ⟨c6, h⟩
    · refine gR_iz_eq_j rfl c6 rfl ?_
      refine gR_go 1 (pc1 := 20) (L1 := [some (.ref 153), some (.int x1)]) (st1 := [.int 0]) (fun _ _ => rfl) ?_
      obtain rfl := gi1 h
      exact gR_rzc rfl rfl rfl
    · refine gR_iz_eq_f rfl c6 ?_
      refine gR_go 2 (pc1 := 20) (L1 := [some (.ref 153), some (.int x1)]) (st1 := [.int 1]) (fun _ _ => rfl) ?_
      obtain rfl := gi1 h
      exact gR_rzc rfl rfl rfl
noncomputable def wX11_isMany (x0 : Int32) (s : wS) : Option (Int32) := (wX11_in ((x0 : Int32).toInt64) 0 40 s).bind fun t1 => wrtZ t1
theorem wX11_isMany_s {x0 : Int32} {s : wS} {rv : Int32} (h : wX11_isMany x0 s = some rv) : gEv 2 234 [.int x0] (wmk s) (some (.int rv), wmk s, 0, 0) := by
  refine gEv_of (d := 1) (L := [some (.int x0)]) rfl ?_
  unfold wX11_isMany at h
  refine gR_go 4 (pc1 := 6) (L1 := [some (.int x0)]) (st1 := [.long 40, .long 0, .long ((x0 : Int32).toInt64)]) (fun _ _ => rfl) ?_
  obtain ⟨t1, e2, h⟩ := gb h
  refine gR_csI (wX11_in_s e2) (Nat.le_of_ble_eq_true rfl) rfl rfl rfl rfl ?_
  exact gR_rz rfl rfl h
noncomputable def wX11_keeps_j60 (qq : Int32 → Int32 → wS → Option (Int32 × wS)) (x2 : Int32) (x3 : Int32) (x5 : Int32) (y0 : Int32) (y1 : Int32) (s : wS) : Option (Int32 × wS) := qq (y0 + y1) (x5 + 1) s
theorem wX11_keeps_u60 {x2 : Int32} {x3 : Int32} {x5 : Int32} {y0 : Int32} {y1 : Int32} {s : wS} {w1 : Int32} {w4 : Int32} {qq : Int32 → Int32 → wS → Option (Int32 × wS)} {x : Int32 × wS} {r : ri_R} (ih : ∀ {x4 : Int32} {x5 : Int32} {s : wS} {w1 : Int32} , qq x4 x5 s = some x → gRun 4 235 11 [some (.ref 153), some (.int w1), some (.int x2), some (.int x3), some (.int x4), some (.int x5)] [] (wmk s) r) (he69 : ∀ (x4 : Int32) (s : wS) (w1 : Int32) (w2 : Int32) (w3 : Int32) (w5 : Int32) , x = (x4, s) → gRun 4 235 69 [some (.ref 153), some (.int w1), some (.int w2), some (.int w3), some (.int x4), some (.int w5)] [] (wmk s) r) (h : wX11_keeps_j60 qq x2 x3 x5 y0 y1 s = some x) : gRun 4 235 60 [some (.ref 153), some (.int w1), some (.int x2), some (.int x3), some (.int w4), some (.int x5)] [.int y1, .int y0] (wmk s) r := by
  unfold wX11_keeps_j60 at h
  refine gR_go 4 (pc1 := 11) (L1 := [some (.ref 153), some (.int w1), some (.int x2), some (.int x3), some (.int (y0 + y1)), some (.int (x5 + 1))]) (st1 := []) (fun _ _ => rfl) ?_
  exact ih h
noncomputable def wX11_keeps_j42 (qq : Int32 → Int32 → wS → Option (Int32 × wS)) (x2 : Int32) (x3 : Int32) (x4 : Int32) (x5 : Int32) (y1 : Int32) (y2 : Int32) (s : wS) : Option (Int32 × wS) := (wstZ s 165 512 y1 y2).bind fun s10 => (wldI s10 165 512 x5).bind fun t11 => if t11 = 0 then (wX11_keeps_j60 qq x2 x3 x5 x4 0 s10) else (wX11_keeps_j60 qq x2 x3 x5 x4 1 s10)
theorem wX11_keeps_u42 {x2 : Int32} {x3 : Int32} {x4 : Int32} {x5 : Int32} {y1 : Int32} {y2 : Int32} {s : wS} {w1 : Int32} {qq : Int32 → Int32 → wS → Option (Int32 × wS)} {x : Int32 × wS} {r : ri_R} (ih : ∀ {x4 : Int32} {x5 : Int32} {s : wS} {w1 : Int32} , qq x4 x5 s = some x → gRun 4 235 11 [some (.ref 153), some (.int w1), some (.int x2), some (.int x3), some (.int x4), some (.int x5)] [] (wmk s) r) (he69 : ∀ (x4 : Int32) (s : wS) (w1 : Int32) (w2 : Int32) (w3 : Int32) (w5 : Int32) , x = (x4, s) → gRun 4 235 69 [some (.ref 153), some (.int w1), some (.int w2), some (.int w3), some (.int x4), some (.int w5)] [] (wmk s) r) (h : wX11_keeps_j42 qq x2 x3 x4 x5 y1 y2 s = some x) : gRun 4 235 42 [some (.ref 153), some (.int w1), some (.int x2), some (.int x3), some (.int x4), some (.int x5)] [.int y2, .int y1, .ref 166] (wmk s) r := by
  unfold wX11_keeps_j42 at h
  obtain ⟨s10, es10, h⟩ := gb h
  refine gR_zas (k := 165) rfl rfl rfl es10 ?_
  refine gR_go 2 (pc1 := 46) (L1 := [some (.ref 153), some (.int w1), some (.int x2), some (.int x3), some (.int x4), some (.int x5)]) (st1 := [.ref 153, .int x4]) (fun _ _ => rfl) ?_
  refine gR_gfR (k := 152) (k' := 165) rfl rfl rfl rfl ?_
  refine gR_go 1 (pc1 := 51) (L1 := [some (.ref 153), some (.int w1), some (.int x2), some (.int x3), some (.int x4), some (.int x5)]) (st1 := [.int x5, .ref 166, .int x4]) (fun _ _ => rfl) ?_
  obtain ⟨t11, et11, h⟩ := gb h
  refine gR_zal (k := 165) rfl rfl rfl et11 ?_
  rcases gif h with ⟨c12, h⟩ | ⟨c12, h⟩
  · refine gR_iz_eq_j rfl c12 rfl ?_
    refine gR_go 1 (pc1 := 60) (L1 := [some (.ref 153), some (.int w1), some (.int x2), some (.int x3), some (.int x4), some (.int x5)]) (st1 := [.int 0, .int x4]) (fun _ _ => rfl) ?_
    exact wX11_keeps_u60 ih he69 h
  · refine gR_iz_eq_f rfl c12 ?_
    refine gR_go 2 (pc1 := 60) (L1 := [some (.ref 153), some (.int w1), some (.int x2), some (.int x3), some (.int x4), some (.int x5)]) (st1 := [.int 1, .int x4]) (fun _ _ => rfl) ?_
    exact wX11_keeps_u60 ih he69 h
noncomputable def wX11_keeps_h11 (x2 : Int32) (x3 : Int32) : Nat → Int32 → Int32 → wS → Option (Int32 × wS)
  | 0, _, _, _ => none
  | n + 1, x4, x5, s => (wX11_worlds s).bind fun t4 => if x5 < t4 then ((wX11_wrongIn x5 x3 s).bind fun t7 => if x2 < t7 then (wX11_keeps_j42 (wX11_keeps_h11 x2 x3 n) x2 x3 x4 x5 x5 0 s) else (wX11_keeps_j42 (wX11_keeps_h11 x2 x3 n) x2 x3 x4 x5 x5 1 s)) else (some (x4, s))
theorem wX11_keeps_t11 {x2 : Int32} {x3 : Int32} {x : Int32 × wS} {r : ri_R} (he69 : ∀ (x4 : Int32) (s : wS) (w1 : Int32) (w2 : Int32) (w3 : Int32) (w5 : Int32) , x = (x4, s) → gRun 4 235 69 [some (.ref 153), some (.int w1), some (.int w2), some (.int w3), some (.int x4), some (.int w5)] [] (wmk s) r) : ∀ {n : Nat} {x4 : Int32} {x5 : Int32} {s : wS} {w1 : Int32} , wX11_keeps_h11 x2 x3 n x4 x5 s = some x → gRun 4 235 11 [some (.ref 153), some (.int w1), some (.int x2), some (.int x3), some (.int x4), some (.int x5)] [] (wmk s) r := by
  intro n
  induction n with
  | zero => intro x4 x5 s w1 h; cases (show (none : Option (Int32 × wS)) = some x from h)
  | succ n ih =>
    intro x4 x5 s w1 h
    rw [wX11_keeps_h11] at h
    refine gR_go 2 (pc1 := 14) (L1 := [some (.ref 153), some (.int w1), some (.int x2), some (.int x3), some (.int x4), some (.int x5)]) (st1 := [.ref 153, .int x5]) (fun _ _ => rfl) ?_
    obtain ⟨t4, e5, h⟩ := gb h
    refine gR_cvI (wX11_worlds_s e5) (Nat.le_of_ble_eq_true rfl) rfl rfl rfl rfl rfl ?_
    rcases gif h with ⟨c6, h⟩ | ⟨c6, h⟩
    · refine gR_ic_ge_f rfl c6 ?_
      refine gR_go 1 (pc1 := 21) (L1 := [some (.ref 153), some (.int w1), some (.int x2), some (.int x3), some (.int x4), some (.int x5)]) (st1 := [.ref 153]) (fun _ _ => rfl) ?_
      refine gR_gfR (k := 152) (k' := 165) rfl rfl rfl rfl ?_
      refine gR_go 4 (pc1 := 30) (L1 := [some (.ref 153), some (.int w1), some (.int x2), some (.int x3), some (.int x4), some (.int x5)]) (st1 := [.int x3, .int x5, .ref 153, .int x5, .ref 166]) (fun _ _ => rfl) ?_
      obtain ⟨t7, e8, h⟩ := gb h
      refine gR_cvI (wX11_wrongIn_s e8) (Nat.le_of_ble_eq_true rfl) rfl rfl rfl rfl rfl ?_
      refine gR_go 1 (pc1 := 34) (L1 := [some (.ref 153), some (.int w1), some (.int x2), some (.int x3), some (.int x4), some (.int x5)]) (st1 := [.int x2, .int t7, .int x5, .ref 166]) (fun _ _ => rfl) ?_
      rcases gif h with ⟨c9, h⟩ | ⟨c9, h⟩
      · refine gR_ic_gt_j rfl c9 rfl ?_
        refine gR_go 1 (pc1 := 42) (L1 := [some (.ref 153), some (.int w1), some (.int x2), some (.int x3), some (.int x4), some (.int x5)]) (st1 := [.int 0, .int x5, .ref 166]) (fun _ _ => rfl) ?_
        exact wX11_keeps_u42 ih he69 h
      · refine gR_ic_gt_f rfl c9 ?_
        refine gR_go 2 (pc1 := 42) (L1 := [some (.ref 153), some (.int w1), some (.int x2), some (.int x3), some (.int x4), some (.int x5)]) (st1 := [.int 1, .int x5, .ref 166]) (fun _ _ => rfl) ?_
        exact wX11_keeps_u42 ih he69 h
    · refine gR_ic_ge_j rfl c6 rfl ?_
      exact he69 _ _ _ _ _ _ (Option.some.inj h).symm
noncomputable def wX11_keeps (x1 : Int32) (x2 : Int32) (x3 : Int32) (s : wS) : Option (Int32 × wS) := (wX11_reaches x1 s).bind fun s2 => (wX11_keeps_h11 x2 x3 wFuel 0 0 s2).bind fun (t14, s15) => some (t14, s15)
theorem wX11_keeps_s {x1 : Int32} {x2 : Int32} {x3 : Int32} {s : wS} {rv : Int32} {rs : wS} (h : wX11_keeps x1 x2 x3 s = some (rv, rs)) : gEv 5 235 [.ref 153, .int x1, .int x2, .int x3] (wmk s) (some (.int rv), wmk rs, 0, 0) := by
  refine gEv_of (d := 4) (L := [some (.ref 153), some (.int x1), some (.int x2), some (.int x3), none, none]) rfl ?_
  unfold wX11_keeps at h
  refine gR_go 2 (pc1 := 2) (L1 := [some (.ref 153), some (.int x1), some (.int x2), some (.int x3), none, none]) (st1 := [.int x1, .ref 153]) (fun _ _ => rfl) ?_
  obtain ⟨s2, e3, h⟩ := gb h
  refine gR_cvV (wX11_reaches_s e3) (Nat.le_of_ble_eq_true rfl) rfl rfl rfl rfl rfl ?_
  refine gR_go 4 (pc1 := 11) (L1 := [some (.ref 153), some (.int x1), some (.int x2), some (.int x3), some (.int 0), some (.int 0)]) (st1 := []) (fun _ _ => rfl) ?_
  obtain ⟨z13, ez13, h⟩ := gb h
  refine wX11_keeps_t11 ?_  ez13
  · intro t14 s15 w16 w17 w18 w19 hz
    replace hz := hz.symm
    subst hz
    dsimp only at h
    refine gR_go 1 (pc1 := 71) (L1 := [some (.ref 153), some (.int w16), some (.int w17), some (.int w18), some (.int t14), some (.int w19)]) (st1 := [.int t14]) (fun _ _ => rfl) ?_
    obtain ⟨rfl, rfl⟩ := gi2 h
    exact gR_ri rfl rfl
noncomputable def wX11_holds (x1 : Int32) (x2 : Int32) (x3 : Int32) (s : wS) : Option (Int32 × wS) := (wX11_canAsk x1 s).bind fun t1 => if t1 = 0 then (some ((-1), s)) else ((wX11_isAnswer x2 s).bind fun t4 => if t4 = 0 then (some ((-1), s)) else ((wX11_isWorld x3 s).bind fun t7 => if t7 = 0 then (some ((-1), s)) else ((wX11_reaches x1 s).bind fun s11 => (wX11_isTrue x2 x3 s11).bind fun t13 => if t13 = 0 then (some (0, s11)) else (some (1, s11)))))
theorem wX11_holds_s {x1 : Int32} {x2 : Int32} {x3 : Int32} {s : wS} {rv : Int32} {rs : wS} (h : wX11_holds x1 x2 x3 s = some (rv, rs)) : gEv 5 236 [.ref 153, .int x1, .int x2, .int x3] (wmk s) (some (.int rv), wmk rs, 0, 0) := by
  refine gEv_of (d := 4) (L := [some (.ref 153), some (.int x1), some (.int x2), some (.int x3)]) rfl ?_
  unfold wX11_holds at h
  refine gR_go 2 (pc1 := 2) (L1 := [some (.ref 153), some (.int x1), some (.int x2), some (.int x3)]) (st1 := [.int x1, .ref 153]) (fun _ _ => rfl) ?_
  obtain ⟨t1, e2, h⟩ := gb h
  refine gR_cvI (wX11_canAsk_s e2) (Nat.le_of_ble_eq_true rfl) rfl rfl rfl rfl rfl ?_
  rcases gif h with ⟨c3, h⟩ | ⟨c3, h⟩
  · refine gR_iz_eq_j rfl c3 rfl ?_
    refine gR_go 1 (pc1 := 25) (L1 := [some (.ref 153), some (.int x1), some (.int x2), some (.int x3)]) (st1 := [.int (-1)]) (fun _ _ => rfl) ?_
    obtain ⟨rfl, rfl⟩ := gi2 h
    exact gR_ri rfl rfl
  · refine gR_iz_eq_f rfl c3 ?_
    refine gR_go 2 (pc1 := 10) (L1 := [some (.ref 153), some (.int x1), some (.int x2), some (.int x3)]) (st1 := [.int x2, .ref 153]) (fun _ _ => rfl) ?_
    obtain ⟨t4, e5, h⟩ := gb h
    refine gR_cvI (wX11_isAnswer_s e5) (Nat.le_of_ble_eq_true rfl) rfl rfl rfl rfl rfl ?_
    rcases gif h with ⟨c6, h⟩ | ⟨c6, h⟩
    · refine gR_iz_eq_j rfl c6 rfl ?_
      refine gR_go 1 (pc1 := 25) (L1 := [some (.ref 153), some (.int x1), some (.int x2), some (.int x3)]) (st1 := [.int (-1)]) (fun _ _ => rfl) ?_
      obtain ⟨rfl, rfl⟩ := gi2 h
      exact gR_ri rfl rfl
    · refine gR_iz_eq_f rfl c6 ?_
      refine gR_go 2 (pc1 := 18) (L1 := [some (.ref 153), some (.int x1), some (.int x2), some (.int x3)]) (st1 := [.int x3, .ref 153]) (fun _ _ => rfl) ?_
      obtain ⟨t7, e8, h⟩ := gb h
      refine gR_cvI (wX11_isWorld_s e8) (Nat.le_of_ble_eq_true rfl) rfl rfl rfl rfl rfl ?_
      rcases gif h with ⟨c9, h⟩ | ⟨c9, h⟩
      · refine gR_iz_ne_f rfl c9 ?_
        refine gR_go 1 (pc1 := 25) (L1 := [some (.ref 153), some (.int x1), some (.int x2), some (.int x3)]) (st1 := [.int (-1)]) (fun _ _ => rfl) ?_
        obtain ⟨rfl, rfl⟩ := gi2 h
        exact gR_ri rfl rfl
      · refine gR_iz_ne_j rfl c9 rfl ?_
        refine gR_go 2 (pc1 := 28) (L1 := [some (.ref 153), some (.int x1), some (.int x2), some (.int x3)]) (st1 := [.int x1, .ref 153]) (fun _ _ => rfl) ?_
        obtain ⟨s11, e12, h⟩ := gb h
        refine gR_cvV (wX11_reaches_s e12) (Nat.le_of_ble_eq_true rfl) rfl rfl rfl rfl rfl ?_
        refine gR_go 3 (pc1 := 34) (L1 := [some (.ref 153), some (.int x1), some (.int x2), some (.int x3)]) (st1 := [.int x3, .int x2, .ref 153]) (fun _ _ => rfl) ?_
        obtain ⟨t13, e14, h⟩ := gb h
        refine gR_cvI (wX11_isTrue_s e14) (Nat.le_of_ble_eq_true rfl) rfl rfl rfl rfl rfl ?_
        rcases gif h with ⟨c15, h⟩ | ⟨c15, h⟩
        · refine gR_iz_eq_j rfl c15 rfl ?_
          refine gR_go 1 (pc1 := 45) (L1 := [some (.ref 153), some (.int x1), some (.int x2), some (.int x3)]) (st1 := [.int 0]) (fun _ _ => rfl) ?_
          obtain ⟨rfl, rfl⟩ := gi2 h
          exact gR_ri rfl rfl
        · refine gR_iz_eq_f rfl c15 ?_
          refine gR_go 2 (pc1 := 45) (L1 := [some (.ref 153), some (.int x1), some (.int x2), some (.int x3)]) (st1 := [.int 1]) (fun _ _ => rfl) ?_
          obtain ⟨rfl, rfl⟩ := gi2 h
          exact gR_ri rfl rfl
noncomputable def wX11_wrong (x1 : Int32) (x2 : Int32) (s : wS) : Option (Int32 × wS) := (wX11_canAsk x1 s).bind fun t1 => if t1 = 0 then (some ((-1), s)) else ((wX11_isWorld x2 s).bind fun t4 => if t4 = 0 then (some ((-1), s)) else ((wX11_reaches x1 s).bind fun s8 => (wX11_wrongIn x2 (-1) s8).bind fun t10 => some (t10, s8)))
theorem wX11_wrong_s {x1 : Int32} {x2 : Int32} {s : wS} {rv : Int32} {rs : wS} (h : wX11_wrong x1 x2 s = some (rv, rs)) : gEv 5 237 [.ref 153, .int x1, .int x2] (wmk s) (some (.int rv), wmk rs, 0, 0) := by
  refine gEv_of (d := 4) (L := [some (.ref 153), some (.int x1), some (.int x2)]) rfl ?_
  unfold wX11_wrong at h
  refine gR_go 2 (pc1 := 2) (L1 := [some (.ref 153), some (.int x1), some (.int x2)]) (st1 := [.int x1, .ref 153]) (fun _ _ => rfl) ?_
  obtain ⟨t1, e2, h⟩ := gb h
  refine gR_cvI (wX11_canAsk_s e2) (Nat.le_of_ble_eq_true rfl) rfl rfl rfl rfl rfl ?_
  rcases gif h with ⟨c3, h⟩ | ⟨c3, h⟩
  · refine gR_iz_eq_j rfl c3 rfl ?_
    refine gR_go 1 (pc1 := 17) (L1 := [some (.ref 153), some (.int x1), some (.int x2)]) (st1 := [.int (-1)]) (fun _ _ => rfl) ?_
    obtain ⟨rfl, rfl⟩ := gi2 h
    exact gR_ri rfl rfl
  · refine gR_iz_eq_f rfl c3 ?_
    refine gR_go 2 (pc1 := 10) (L1 := [some (.ref 153), some (.int x1), some (.int x2)]) (st1 := [.int x2, .ref 153]) (fun _ _ => rfl) ?_
    obtain ⟨t4, e5, h⟩ := gb h
    refine gR_cvI (wX11_isWorld_s e5) (Nat.le_of_ble_eq_true rfl) rfl rfl rfl rfl rfl ?_
    rcases gif h with ⟨c6, h⟩ | ⟨c6, h⟩
    · refine gR_iz_ne_f rfl c6 ?_
      refine gR_go 1 (pc1 := 17) (L1 := [some (.ref 153), some (.int x1), some (.int x2)]) (st1 := [.int (-1)]) (fun _ _ => rfl) ?_
      obtain ⟨rfl, rfl⟩ := gi2 h
      exact gR_ri rfl rfl
    · refine gR_iz_ne_j rfl c6 rfl ?_
      refine gR_go 2 (pc1 := 20) (L1 := [some (.ref 153), some (.int x1), some (.int x2)]) (st1 := [.int x1, .ref 153]) (fun _ _ => rfl) ?_
      obtain ⟨s8, e9, h⟩ := gb h
      refine gR_cvV (wX11_reaches_s e9) (Nat.le_of_ble_eq_true rfl) rfl rfl rfl rfl rfl ?_
      refine gR_go 3 (pc1 := 26) (L1 := [some (.ref 153), some (.int x1), some (.int x2)]) (st1 := [.int (-1), .int x2, .ref 153]) (fun _ _ => rfl) ?_
      obtain ⟨t10, e11, h⟩ := gb h
      refine gR_cvI (wX11_wrongIn_s e11) (Nat.le_of_ble_eq_true rfl) rfl rfl rfl rfl rfl ?_
      obtain ⟨rfl, rfl⟩ := gi2 h
      exact gR_ri rfl rfl
noncomputable def wX11_kept (x1 : Int32) (x2 : Int32) (s : wS) : Option (Int32 × wS) := (wX11_canAsk x1 s).bind fun t1 => if t1 = 0 then (some ((-1), s)) else ((wX11_isMany x2 s).bind fun t4 => if t4 = 0 then (some ((-1), s)) else ((wX11_keeps x1 x2 (-1) s).bind fun (t7, s8) => some (t7, s8)))
theorem wX11_kept_s {x1 : Int32} {x2 : Int32} {s : wS} {rv : Int32} {rs : wS} (h : wX11_kept x1 x2 s = some (rv, rs)) : gEv 6 238 [.ref 153, .int x1, .int x2] (wmk s) (some (.int rv), wmk rs, 0, 0) := by
  refine gEv_of (d := 5) (L := [some (.ref 153), some (.int x1), some (.int x2)]) rfl ?_
  unfold wX11_kept at h
  refine gR_go 2 (pc1 := 2) (L1 := [some (.ref 153), some (.int x1), some (.int x2)]) (st1 := [.int x1, .ref 153]) (fun _ _ => rfl) ?_
  obtain ⟨t1, e2, h⟩ := gb h
  refine gR_cvI (wX11_canAsk_s e2) (Nat.le_of_ble_eq_true rfl) rfl rfl rfl rfl rfl ?_
  rcases gif h with ⟨c3, h⟩ | ⟨c3, h⟩
  · refine gR_iz_eq_j rfl c3 rfl ?_
    refine gR_go 1 (pc1 := 26) (L1 := [some (.ref 153), some (.int x1), some (.int x2)]) (st1 := [.int (-1)]) (fun _ _ => rfl) ?_
    obtain ⟨rfl, rfl⟩ := gi2 h
    exact gR_ri rfl rfl
  · refine gR_iz_eq_f rfl c3 ?_
    refine gR_go 1 (pc1 := 9) (L1 := [some (.ref 153), some (.int x1), some (.int x2)]) (st1 := [.int x2]) (fun _ _ => rfl) ?_
    obtain ⟨t4, e5, h⟩ := gb h
    refine gR_csI (wX11_isMany_s e5) (Nat.le_of_ble_eq_true rfl) rfl rfl rfl rfl ?_
    rcases gif h with ⟨c6, h⟩ | ⟨c6, h⟩
    · refine gR_iz_eq_j rfl c6 rfl ?_
      refine gR_go 1 (pc1 := 26) (L1 := [some (.ref 153), some (.int x1), some (.int x2)]) (st1 := [.int (-1)]) (fun _ _ => rfl) ?_
      obtain ⟨rfl, rfl⟩ := gi2 h
      exact gR_ri rfl rfl
    · refine gR_iz_eq_f rfl c6 ?_
      refine gR_go 4 (pc1 := 19) (L1 := [some (.ref 153), some (.int x1), some (.int x2)]) (st1 := [.int (-1), .int x2, .int x1, .ref 153]) (fun _ _ => rfl) ?_
      obtain ⟨⟨t7, s8⟩, e9, h⟩ := gb h
      dsimp only at h
      refine gR_cvI (wX11_keeps_s e9) (Nat.le_of_ble_eq_true rfl) rfl rfl rfl rfl rfl ?_
      refine gR_go 1 (pc1 := 26) (L1 := [some (.ref 153), some (.int x1), some (.int x2)]) (st1 := [.int t7]) (fun _ _ => rfl) ?_
      obtain ⟨rfl, rfl⟩ := gi2 h
      exact gR_ri rfl rfl
noncomputable def wX11_world_j69 (qq : Int32 → Int32 → Option ((Unit) ⊕ (Int32))) (x3 : Int32) (x4 : Int32) (x5 : Int32) (s : wS) : Option ((Unit) ⊕ (Int32)) := qq x4 (x5 + 1)
theorem wX11_world_u69 {x3 : Int32} {x4 : Int32} {x5 : Int32} {s : wS} {w1 : Int32} {w2 : Int32} {qq : Int32 → Int32 → Option ((Unit) ⊕ (Int32))} {x : (Unit) ⊕ (Int32)} {r : ri_R} (ih : ∀ {x4 : Int32} {x5 : Int32} {w1 : Int32} {w2 : Int32} , qq x4 x5 = some x → gRun 5 239 35 [some (.ref 153), some (.int w1), some (.int w2), some (.int x3), some (.int x4), some (.int x5)] [] (wmk s) r) (he75 : ∀ (w1 : Int32) (w2 : Int32) (w3 : Int32) (w4 : Int32) (w5 : Int32) , x = .inl () → gRun 5 239 75 [some (.ref 153), some (.int w1), some (.int w2), some (.int w3), some (.int w4), some (.int w5)] [] (wmk s) r) (he63 : ∀ (x5 : Int32) (w1 : Int32) (w2 : Int32) (w3 : Int32) (w4 : Int32) , x = .inr x5 → gRun 5 239 63 [some (.ref 153), some (.int w1), some (.int w2), some (.int w3), some (.int w4), some (.int x5)] [] (wmk s) r) (h : wX11_world_j69 qq x3 x4 x5 s = some x) : gRun 5 239 69 [some (.ref 153), some (.int w1), some (.int w2), some (.int x3), some (.int x4), some (.int x5)] [] (wmk s) r := by
  unfold wX11_world_j69 at h
  refine gR_go 2 (pc1 := 35) (L1 := [some (.ref 153), some (.int w1), some (.int w2), some (.int x3), some (.int x4), some (.int (x5 + 1))]) (st1 := []) (fun _ _ => rfl) ?_
  exact ih h
noncomputable def wX11_world_h35 (x3 : Int32) (s : wS) : Nat → Int32 → Int32 → Option ((Unit) ⊕ (Int32))
  | 0, _, _ => none
  | n + 1, x4, x5 => (wX11_worlds s).bind fun t11 => if x5 < t11 then ((wldI s 165 512 x5).bind fun t14 => if t14 = 0 then (wX11_world_j69 (wX11_world_h35 x3 s n) x3 x4 x5 s) else (if x4 = x3 then (some (.inr x5)) else (wX11_world_j69 (wX11_world_h35 x3 s n) x3 (x4 + 1) x5 s))) else (some (.inl ()))
theorem wX11_world_t35 {x3 : Int32} {s : wS} {x : (Unit) ⊕ (Int32)} {r : ri_R} (he75 : ∀ (w1 : Int32) (w2 : Int32) (w3 : Int32) (w4 : Int32) (w5 : Int32) , x = .inl () → gRun 5 239 75 [some (.ref 153), some (.int w1), some (.int w2), some (.int w3), some (.int w4), some (.int w5)] [] (wmk s) r) (he63 : ∀ (x5 : Int32) (w1 : Int32) (w2 : Int32) (w3 : Int32) (w4 : Int32) , x = .inr x5 → gRun 5 239 63 [some (.ref 153), some (.int w1), some (.int w2), some (.int w3), some (.int w4), some (.int x5)] [] (wmk s) r) : ∀ {n : Nat} {x4 : Int32} {x5 : Int32} {w1 : Int32} {w2 : Int32} , wX11_world_h35 x3 s n x4 x5 = some x → gRun 5 239 35 [some (.ref 153), some (.int w1), some (.int w2), some (.int x3), some (.int x4), some (.int x5)] [] (wmk s) r := by
  intro n
  induction n with
  | zero => intro x4 x5 w1 w2 h; cases (show (none : Option ((Unit) ⊕ (Int32))) = some x from h)
  | succ n ih =>
    intro x4 x5 w1 w2 h
    rw [wX11_world_h35] at h
    refine gR_go 2 (pc1 := 38) (L1 := [some (.ref 153), some (.int w1), some (.int w2), some (.int x3), some (.int x4), some (.int x5)]) (st1 := [.ref 153, .int x5]) (fun _ _ => rfl) ?_
    obtain ⟨t11, e12, h⟩ := gb h
    refine gR_cvI (wX11_worlds_s e12) (Nat.le_of_ble_eq_true rfl) rfl rfl rfl rfl rfl ?_
    rcases gif h with ⟨c13, h⟩ | ⟨c13, h⟩
    · refine gR_ic_ge_f rfl c13 ?_
      refine gR_go 1 (pc1 := 45) (L1 := [some (.ref 153), some (.int w1), some (.int w2), some (.int x3), some (.int x4), some (.int x5)]) (st1 := [.ref 153]) (fun _ _ => rfl) ?_
      refine gR_gfR (k := 152) (k' := 165) rfl rfl rfl rfl ?_
      refine gR_go 1 (pc1 := 50) (L1 := [some (.ref 153), some (.int w1), some (.int w2), some (.int x3), some (.int x4), some (.int x5)]) (st1 := [.int x5, .ref 166]) (fun _ _ => rfl) ?_
      obtain ⟨t14, et14, h⟩ := gb h
      refine gR_zal (k := 165) rfl rfl rfl et14 ?_
      rcases gif h with ⟨c15, h⟩ | ⟨c15, h⟩
      · refine gR_iz_ne_f rfl c15 ?_
        refine gR_go 1 (pc1 := 69) (L1 := [some (.ref 153), some (.int w1), some (.int w2), some (.int x3), some (.int x4), some (.int x5)]) (st1 := []) (fun _ _ => rfl) ?_
        exact wX11_world_u69 ih he75 he63 h
      · refine gR_iz_ne_j rfl c15 rfl ?_
        refine gR_go 2 (pc1 := 60) (L1 := [some (.ref 153), some (.int w1), some (.int w2), some (.int x3), some (.int x4), some (.int x5)]) (st1 := [.int x3, .int x4]) (fun _ _ => rfl) ?_
        rcases gif h with ⟨c16, h⟩ | ⟨c16, h⟩
        · refine gR_ic_ne_f rfl c16 ?_
          exact he63 _ _ _ _ _ (Option.some.inj h).symm
        · refine gR_ic_ne_j rfl c16 rfl ?_
          refine gR_go 1 (pc1 := 69) (L1 := [some (.ref 153), some (.int w1), some (.int w2), some (.int x3), some (.int (x4 + 1)), some (.int x5)]) (st1 := []) (fun _ _ => rfl) ?_
          exact wX11_world_u69 ih he75 he63 h
    · refine gR_ic_ge_j rfl c13 rfl ?_
      exact he75 _ _ _ _ _ (Option.some.inj h).symm
noncomputable def wX11_world (x1 : Int32) (x2 : Int32) (x3 : Int32) (s : wS) : Option (Int32 × wS) := (wX11_canAsk x1 s).bind fun t1 => if t1 = 0 then (some ((-1), s)) else ((wX11_isMany x2 s).bind fun t4 => if t4 = 0 then (some ((-1), s)) else (if x3 < 0 then (some ((-1), s)) else ((wX11_keeps x1 x2 (-1) s).bind fun (t8, s9) => (wX11_world_h35 x3 s9 wFuel 0 0).bind fun z17 => (match z17 with | .inl () => some (((Int8.ofInt (-2)).toInt32), s9) | .inr t23 => some (t23, s9)))))
theorem wX11_world_s {x1 : Int32} {x2 : Int32} {x3 : Int32} {s : wS} {rv : Int32} {rs : wS} (h : wX11_world x1 x2 x3 s = some (rv, rs)) : gEv 6 239 [.ref 153, .int x1, .int x2, .int x3] (wmk s) (some (.int rv), wmk rs, 0, 0) := by
  refine gEv_of (d := 5) (L := [some (.ref 153), some (.int x1), some (.int x2), some (.int x3), none, none]) rfl ?_
  unfold wX11_world at h
  refine gR_go 2 (pc1 := 2) (L1 := [some (.ref 153), some (.int x1), some (.int x2), some (.int x3), none, none]) (st1 := [.int x1, .ref 153]) (fun _ _ => rfl) ?_
  obtain ⟨t1, e2, h⟩ := gb h
  refine gR_cvI (wX11_canAsk_s e2) (Nat.le_of_ble_eq_true rfl) rfl rfl rfl rfl rfl ?_
  rcases gif h with ⟨c3, h⟩ | ⟨c3, h⟩
  · refine gR_iz_eq_j rfl c3 rfl ?_
    refine gR_go 1 (pc1 := 20) (L1 := [some (.ref 153), some (.int x1), some (.int x2), some (.int x3), none, none]) (st1 := [.int (-1)]) (fun _ _ => rfl) ?_
    obtain ⟨rfl, rfl⟩ := gi2 h
    exact gR_ri rfl rfl
  · refine gR_iz_eq_f rfl c3 ?_
    refine gR_go 1 (pc1 := 9) (L1 := [some (.ref 153), some (.int x1), some (.int x2), some (.int x3), none, none]) (st1 := [.int x2]) (fun _ _ => rfl) ?_
    obtain ⟨t4, e5, h⟩ := gb h
    refine gR_csI (wX11_isMany_s e5) (Nat.le_of_ble_eq_true rfl) rfl rfl rfl rfl ?_
    rcases gif h with ⟨c6, h⟩ | ⟨c6, h⟩
    · refine gR_iz_eq_j rfl c6 rfl ?_
      refine gR_go 1 (pc1 := 20) (L1 := [some (.ref 153), some (.int x1), some (.int x2), some (.int x3), none, none]) (st1 := [.int (-1)]) (fun _ _ => rfl) ?_
      obtain ⟨rfl, rfl⟩ := gi2 h
      exact gR_ri rfl rfl
    · refine gR_iz_eq_f rfl c6 ?_
      refine gR_go 1 (pc1 := 16) (L1 := [some (.ref 153), some (.int x1), some (.int x2), some (.int x3), none, none]) (st1 := [.int x3]) (fun _ _ => rfl) ?_
      rcases gif h with ⟨c7, h⟩ | ⟨c7, h⟩
      · refine gR_iz_ge_f rfl c7 ?_
        refine gR_go 1 (pc1 := 20) (L1 := [some (.ref 153), some (.int x1), some (.int x2), some (.int x3), none, none]) (st1 := [.int (-1)]) (fun _ _ => rfl) ?_
        obtain ⟨rfl, rfl⟩ := gi2 h
        exact gR_ri rfl rfl
      · refine gR_iz_ge_j rfl c7 rfl ?_
        refine gR_go 4 (pc1 := 25) (L1 := [some (.ref 153), some (.int x1), some (.int x2), some (.int x3), none, none]) (st1 := [.int (-1), .int x2, .int x1, .ref 153]) (fun _ _ => rfl) ?_
        obtain ⟨⟨t8, s9⟩, e10, h⟩ := gb h
        dsimp only at h
        refine gR_cvI (wX11_keeps_s e10) (Nat.le_of_ble_eq_true rfl) rfl rfl rfl rfl rfl ?_
        refine gR_go 5 (pc1 := 35) (L1 := [some (.ref 153), some (.int x1), some (.int x2), some (.int x3), some (.int 0), some (.int 0)]) (st1 := []) (fun _ _ => rfl) ?_
        obtain ⟨z17, ez17, h⟩ := gb h
        refine wX11_world_t35 ?_ ?_  ez17
        · intro w18 w19 w20 w21 w22 hz
          replace hz := hz.symm
          subst hz
          dsimp only at h
          refine gR_go 1 (pc1 := 77) (L1 := [some (.ref 153), some (.int w18), some (.int w19), some (.int w20), some (.int w21), some (.int w22)]) (st1 := [.int ((Int8.ofInt (-2)).toInt32)]) (fun _ _ => rfl) ?_
          obtain ⟨rfl, rfl⟩ := gi2 h
          exact gR_ri rfl rfl
        · intro t23 w24 w25 w26 w27 hz
          replace hz := hz.symm
          subst hz
          dsimp only at h
          refine gR_go 1 (pc1 := 65) (L1 := [some (.ref 153), some (.int w24), some (.int w25), some (.int w26), some (.int w27), some (.int t23)]) (st1 := [.int t23]) (fun _ _ => rfl) ?_
          obtain ⟨rfl, rfl⟩ := gi2 h
          exact gR_ri rfl rfl
noncomputable def wX11_keptWith_j41 (qq : Int32 → Int32 → Option (Int32)) (x1 : Int32) (x2 : Int32) (x4 : Int32) (y0 : Int32) (y1 : Int32) (s : wS) : Option (Int32) := qq (y0 + y1) (x4 + 1)
theorem wX11_keptWith_u41 {x1 : Int32} {x2 : Int32} {x4 : Int32} {y0 : Int32} {y1 : Int32} {s : wS} {w3 : Int32} {qq : Int32 → Int32 → Option (Int32)} {x : Int32} {r : ri_R} (ih : ∀ {x3 : Int32} {x4 : Int32} , qq x3 x4 = some x → gRun 1 240 5 [some (.ref 153), some (.int x1), some (.int x2), some (.int x3), some (.int x4)] [] (wmk s) r) (he49 : ∀ (x3 : Int32) (w1 : Int32) (w2 : Int32) (w4 : Int32) , x = x3 → gRun 1 240 49 [some (.ref 153), some (.int w1), some (.int w2), some (.int x3), some (.int w4)] [] (wmk s) r) (h : wX11_keptWith_j41 qq x1 x2 x4 y0 y1 s = some x) : gRun 1 240 41 [some (.ref 153), some (.int x1), some (.int x2), some (.int w3), some (.int x4)] [.int y1, .int y0] (wmk s) r := by
  unfold wX11_keptWith_j41 at h
  refine gR_go 4 (pc1 := 5) (L1 := [some (.ref 153), some (.int x1), some (.int x2), some (.int (y0 + y1)), some (.int (x4 + 1))]) (st1 := []) (fun _ _ => rfl) ?_
  exact ih h
noncomputable def wX11_keptWith_j40 (qq : Int32 → Int32 → Option (Int32)) (x1 : Int32) (x2 : Int32) (x4 : Int32) (y0 : Int32) (s : wS) : Option (Int32) := wX11_keptWith_j41 qq x1 x2 x4 y0 0 s
theorem wX11_keptWith_u40 {x1 : Int32} {x2 : Int32} {x4 : Int32} {y0 : Int32} {s : wS} {w3 : Int32} {qq : Int32 → Int32 → Option (Int32)} {x : Int32} {r : ri_R} (ih : ∀ {x3 : Int32} {x4 : Int32} , qq x3 x4 = some x → gRun 1 240 5 [some (.ref 153), some (.int x1), some (.int x2), some (.int x3), some (.int x4)] [] (wmk s) r) (he49 : ∀ (x3 : Int32) (w1 : Int32) (w2 : Int32) (w4 : Int32) , x = x3 → gRun 1 240 49 [some (.ref 153), some (.int w1), some (.int w2), some (.int x3), some (.int w4)] [] (wmk s) r) (h : wX11_keptWith_j40 qq x1 x2 x4 y0 s = some x) : gRun 1 240 40 [some (.ref 153), some (.int x1), some (.int x2), some (.int w3), some (.int x4)] [.int y0] (wmk s) r := by
  unfold wX11_keptWith_j40 at h
  refine gR_go 1 (pc1 := 41) (L1 := [some (.ref 153), some (.int x1), some (.int x2), some (.int w3), some (.int x4)]) (st1 := [.int 0, .int y0]) (fun _ _ => rfl) ?_
  exact wX11_keptWith_u41 ih he49 h
noncomputable def wX11_keptWith_h5 (x1 : Int32) (x2 : Int32) (s : wS) : Nat → Int32 → Int32 → Option (Int32)
  | 0, _, _ => none
  | n + 1, x3, x4 => (wX11_worlds s).bind fun t1 => if x4 < t1 then ((wldI s 165 512 x4).bind fun t4 => if t4 = 0 then (wX11_keptWith_j40 (wX11_keptWith_h5 x1 x2 s n) x1 x2 x4 x3 s) else ((wX11_thingOf x4 x1 s).bind fun t6 => if t6 = x2 then (wX11_keptWith_j41 (wX11_keptWith_h5 x1 x2 s n) x1 x2 x4 x3 1 s) else (wX11_keptWith_j40 (wX11_keptWith_h5 x1 x2 s n) x1 x2 x4 x3 s))) else (some x3)
theorem wX11_keptWith_t5 {x1 : Int32} {x2 : Int32} {s : wS} {x : Int32} {r : ri_R} (he49 : ∀ (x3 : Int32) (w1 : Int32) (w2 : Int32) (w4 : Int32) , x = x3 → gRun 1 240 49 [some (.ref 153), some (.int w1), some (.int w2), some (.int x3), some (.int w4)] [] (wmk s) r) : ∀ {n : Nat} {x3 : Int32} {x4 : Int32} , wX11_keptWith_h5 x1 x2 s n x3 x4 = some x → gRun 1 240 5 [some (.ref 153), some (.int x1), some (.int x2), some (.int x3), some (.int x4)] [] (wmk s) r := by
  intro n
  induction n with
  | zero => intro x3 x4 h; cases (show (none : Option (Int32)) = some x from h)
  | succ n ih =>
    intro x3 x4 h
    rw [wX11_keptWith_h5] at h
    refine gR_go 2 (pc1 := 8) (L1 := [some (.ref 153), some (.int x1), some (.int x2), some (.int x3), some (.int x4)]) (st1 := [.ref 153, .int x4]) (fun _ _ => rfl) ?_
    obtain ⟨t1, e2, h⟩ := gb h
    refine gR_cvI (wX11_worlds_s e2) (Nat.le_of_ble_eq_true rfl) rfl rfl rfl rfl rfl ?_
    rcases gif h with ⟨c3, h⟩ | ⟨c3, h⟩
    · refine gR_ic_ge_f rfl c3 ?_
      refine gR_go 2 (pc1 := 16) (L1 := [some (.ref 153), some (.int x1), some (.int x2), some (.int x3), some (.int x4)]) (st1 := [.ref 153, .int x3]) (fun _ _ => rfl) ?_
      refine gR_gfR (k := 152) (k' := 165) rfl rfl rfl rfl ?_
      refine gR_go 1 (pc1 := 21) (L1 := [some (.ref 153), some (.int x1), some (.int x2), some (.int x3), some (.int x4)]) (st1 := [.int x4, .ref 166, .int x3]) (fun _ _ => rfl) ?_
      obtain ⟨t4, et4, h⟩ := gb h
      refine gR_zal (k := 165) rfl rfl rfl et4 ?_
      rcases gif h with ⟨c5, h⟩ | ⟨c5, h⟩
      · refine gR_iz_eq_j rfl c5 rfl ?_
        exact wX11_keptWith_u40 ih he49 h
      · refine gR_iz_eq_f rfl c5 ?_
        refine gR_go 3 (pc1 := 29) (L1 := [some (.ref 153), some (.int x1), some (.int x2), some (.int x3), some (.int x4)]) (st1 := [.int x1, .int x4, .ref 153, .int x3]) (fun _ _ => rfl) ?_
        obtain ⟨t6, e7, h⟩ := gb h
        refine gR_cvI (wX11_thingOf_s e7) (Nat.le_of_ble_eq_true rfl) rfl rfl rfl rfl rfl ?_
        refine gR_go 1 (pc1 := 33) (L1 := [some (.ref 153), some (.int x1), some (.int x2), some (.int x3), some (.int x4)]) (st1 := [.int x2, .int t6, .int x3]) (fun _ _ => rfl) ?_
        rcases gif h with ⟨c8, h⟩ | ⟨c8, h⟩
        · refine gR_ic_ne_f rfl c8 ?_
          refine gR_go 2 (pc1 := 41) (L1 := [some (.ref 153), some (.int x1), some (.int x2), some (.int x3), some (.int x4)]) (st1 := [.int 1, .int x3]) (fun _ _ => rfl) ?_
          exact wX11_keptWith_u41 ih he49 h
        · refine gR_ic_ne_j rfl c8 rfl ?_
          exact wX11_keptWith_u40 ih he49 h
    · refine gR_ic_ge_j rfl c3 rfl ?_
      exact he49 _ _ _ _ (Option.some.inj h).symm
noncomputable def wX11_keptWith (x1 : Int32) (x2 : Int32) (s : wS) : Option (Int32) := (wX11_keptWith_h5 x1 x2 s wFuel 0 0).bind fun t10 => some t10
theorem wX11_keptWith_s {x1 : Int32} {x2 : Int32} {s : wS} {rv : Int32} (h : wX11_keptWith x1 x2 s = some rv) : gEv 2 240 [.ref 153, .int x1, .int x2] (wmk s) (some (.int rv), wmk s, 0, 0) := by
  refine gEv_of (d := 1) (L := [some (.ref 153), some (.int x1), some (.int x2), none, none]) rfl ?_
  unfold wX11_keptWith at h
  refine gR_go 4 (pc1 := 5) (L1 := [some (.ref 153), some (.int x1), some (.int x2), some (.int 0), some (.int 0)]) (st1 := []) (fun _ _ => rfl) ?_
  obtain ⟨z9, ez9, h⟩ := gb h
  refine wX11_keptWith_t5 ?_  ez9
  · intro t10 w11 w12 w13 hz
    replace hz := hz.symm
    subst hz
    refine gR_go 1 (pc1 := 50) (L1 := [some (.ref 153), some (.int w11), some (.int w12), some (.int t10), some (.int w13)]) (st1 := [.int t10]) (fun _ _ => rfl) ?_
    obtain rfl := gi1 h
    exact gR_ri rfl rfl
noncomputable def wX11_may (x1 : Int32) (x2 : Int32) (x3 : Int32) (x4 : Int32) (s : wS) : Option (Int32 × wS) := (wX11_canAsk x1 s).bind fun t1 => if t1 = 0 then (some ((-1), s)) else ((wX11_isMany x2 s).bind fun t4 => if t4 = 0 then (some ((-1), s)) else ((wX11_isThing x3 x4 s).bind fun t7 => if t7 = 0 then (some ((-1), s)) else ((wX11_keeps x1 x2 (-1) s).bind fun (t10, s11) => (wX11_keptWith x3 x4 s11).bind fun t13 => some (t13, s11))))
theorem wX11_may_s {x1 : Int32} {x2 : Int32} {x3 : Int32} {x4 : Int32} {s : wS} {rv : Int32} {rs : wS} (h : wX11_may x1 x2 x3 x4 s = some (rv, rs)) : gEv 6 241 [.ref 153, .int x1, .int x2, .int x3, .int x4] (wmk s) (some (.int rv), wmk rs, 0, 0) := by
  refine gEv_of (d := 5) (L := [some (.ref 153), some (.int x1), some (.int x2), some (.int x3), some (.int x4)]) rfl ?_
  unfold wX11_may at h
  refine gR_go 2 (pc1 := 2) (L1 := [some (.ref 153), some (.int x1), some (.int x2), some (.int x3), some (.int x4)]) (st1 := [.int x1, .ref 153]) (fun _ _ => rfl) ?_
  obtain ⟨t1, e2, h⟩ := gb h
  refine gR_cvI (wX11_canAsk_s e2) (Nat.le_of_ble_eq_true rfl) rfl rfl rfl rfl rfl ?_
  rcases gif h with ⟨c3, h⟩ | ⟨c3, h⟩
  · refine gR_iz_eq_j rfl c3 rfl ?_
    refine gR_go 1 (pc1 := 26) (L1 := [some (.ref 153), some (.int x1), some (.int x2), some (.int x3), some (.int x4)]) (st1 := [.int (-1)]) (fun _ _ => rfl) ?_
    obtain ⟨rfl, rfl⟩ := gi2 h
    exact gR_ri rfl rfl
  · refine gR_iz_eq_f rfl c3 ?_
    refine gR_go 1 (pc1 := 9) (L1 := [some (.ref 153), some (.int x1), some (.int x2), some (.int x3), some (.int x4)]) (st1 := [.int x2]) (fun _ _ => rfl) ?_
    obtain ⟨t4, e5, h⟩ := gb h
    refine gR_csI (wX11_isMany_s e5) (Nat.le_of_ble_eq_true rfl) rfl rfl rfl rfl ?_
    rcases gif h with ⟨c6, h⟩ | ⟨c6, h⟩
    · refine gR_iz_eq_j rfl c6 rfl ?_
      refine gR_go 1 (pc1 := 26) (L1 := [some (.ref 153), some (.int x1), some (.int x2), some (.int x3), some (.int x4)]) (st1 := [.int (-1)]) (fun _ _ => rfl) ?_
      obtain ⟨rfl, rfl⟩ := gi2 h
      exact gR_ri rfl rfl
    · refine gR_iz_eq_f rfl c6 ?_
      refine gR_go 3 (pc1 := 19) (L1 := [some (.ref 153), some (.int x1), some (.int x2), some (.int x3), some (.int x4)]) (st1 := [.int x4, .int x3, .ref 153]) (fun _ _ => rfl) ?_
      obtain ⟨t7, e8, h⟩ := gb h
      refine gR_cvI (wX11_isThing_s e8) (Nat.le_of_ble_eq_true rfl) rfl rfl rfl rfl rfl ?_
      rcases gif h with ⟨c9, h⟩ | ⟨c9, h⟩
      · refine gR_iz_ne_f rfl c9 ?_
        refine gR_go 1 (pc1 := 26) (L1 := [some (.ref 153), some (.int x1), some (.int x2), some (.int x3), some (.int x4)]) (st1 := [.int (-1)]) (fun _ _ => rfl) ?_
        obtain ⟨rfl, rfl⟩ := gi2 h
        exact gR_ri rfl rfl
      · refine gR_iz_ne_j rfl c9 rfl ?_
        refine gR_go 4 (pc1 := 31) (L1 := [some (.ref 153), some (.int x1), some (.int x2), some (.int x3), some (.int x4)]) (st1 := [.int (-1), .int x2, .int x1, .ref 153]) (fun _ _ => rfl) ?_
        obtain ⟨⟨t10, s11⟩, e12, h⟩ := gb h
        dsimp only at h
        refine gR_cvI (wX11_keeps_s e12) (Nat.le_of_ble_eq_true rfl) rfl rfl rfl rfl rfl ?_
        refine gR_go 4 (pc1 := 39) (L1 := [some (.ref 153), some (.int x1), some (.int x2), some (.int x3), some (.int x4)]) (st1 := [.int x4, .int x3, .ref 153]) (fun _ _ => rfl) ?_
        obtain ⟨t13, e14, h⟩ := gb h
        refine gR_cvI (wX11_keptWith_s e14) (Nat.le_of_ble_eq_true rfl) rfl rfl rfl rfl rfl ?_
        obtain ⟨rfl, rfl⟩ := gi2 h
        exact gR_ri rfl rfl
noncomputable def wX11_cleared_j60 (qq : Int32 → Int32 → Option (Int32)) (x4 : Int32) (y0 : Int32) (y1 : Int32) (s : wS) : Option (Int32) := qq (y0 ||| y1) (x4 + 1)
theorem wX11_cleared_u60 {x4 : Int32} {y0 : Int32} {y1 : Int32} {s : wS} {w1 : Int32} {w2 : Int32} {w3 : Int32} {qq : Int32 → Int32 → Option (Int32)} {x : Int32} {r : ri_R} (ih : ∀ {x3 : Int32} {x4 : Int32} {w1 : Int32} {w2 : Int32} , qq x3 x4 = some x → gRun 5 242 30 [some (.ref 153), some (.int w1), some (.int w2), some (.int x3), some (.int x4)] [] (wmk s) r) (he68 : ∀ (x3 : Int32) (w1 : Int32) (w2 : Int32) (w4 : Int32) , x = x3 → gRun 5 242 68 [some (.ref 153), some (.int w1), some (.int w2), some (.int x3), some (.int w4)] [] (wmk s) r) (h : wX11_cleared_j60 qq x4 y0 y1 s = some x) : gRun 5 242 60 [some (.ref 153), some (.int w1), some (.int w2), some (.int w3), some (.int x4)] [.int y1, .int y0] (wmk s) r := by
  unfold wX11_cleared_j60 at h
  refine gR_go 4 (pc1 := 30) (L1 := [some (.ref 153), some (.int w1), some (.int w2), some (.int (y0 ||| y1)), some (.int (x4 + 1))]) (st1 := []) (fun _ _ => rfl) ?_
  exact ih h
noncomputable def wX11_cleared_h30 (s : wS) : Nat → Int32 → Int32 → Option (Int32)
  | 0, _, _ => none
  | n + 1, x3, x4 => if x4 < (s.1 163 2) then ((wX11_keptWith 2 x4 s).bind fun t12 => if t12 = 0 then (wX11_cleared_j60 (wX11_cleared_h30 s n) x4 x3 (1 <<< (x4 &&& 31)) s) else (wX11_cleared_j60 (wX11_cleared_h30 s n) x4 x3 0 s)) else (some x3)
theorem wX11_cleared_t30 {s : wS} {x : Int32} {r : ri_R} (he68 : ∀ (x3 : Int32) (w1 : Int32) (w2 : Int32) (w4 : Int32) , x = x3 → gRun 5 242 68 [some (.ref 153), some (.int w1), some (.int w2), some (.int x3), some (.int w4)] [] (wmk s) r) : ∀ {n : Nat} {x3 : Int32} {x4 : Int32} {w1 : Int32} {w2 : Int32} , wX11_cleared_h30 s n x3 x4 = some x → gRun 5 242 30 [some (.ref 153), some (.int w1), some (.int w2), some (.int x3), some (.int x4)] [] (wmk s) r := by
  intro n
  induction n with
  | zero => intro x3 x4 w1 w2 h; cases (show (none : Option (Int32)) = some x from h)
  | succ n ih =>
    intro x3 x4 w1 w2 h
    rw [wX11_cleared_h30] at h
    refine gR_go 2 (pc1 := 33) (L1 := [some (.ref 153), some (.int w1), some (.int w2), some (.int x3), some (.int x4)]) (st1 := [.ref 153, .int x4]) (fun _ _ => rfl) ?_
    refine gR_gfR (k := 152) (k' := 163) rfl rfl rfl rfl ?_
    refine gR_go 1 (pc1 := 37) (L1 := [some (.ref 153), some (.int w1), some (.int w2), some (.int x3), some (.int x4)]) (st1 := [.int 2, .ref 164, .int x4]) (fun _ _ => rfl) ?_
    refine gR_ialc (k := 163) (j := 2) rfl rfl rfl (by decide) rfl ?_
    rcases gif h with ⟨c11, h⟩ | ⟨c11, h⟩
    · refine gR_ic_ge_f rfl c11 ?_
      refine gR_go 4 (pc1 := 46) (L1 := [some (.ref 153), some (.int w1), some (.int w2), some (.int x3), some (.int x4)]) (st1 := [.int x4, .int 2, .ref 153, .int x3]) (fun _ _ => rfl) ?_
      obtain ⟨t12, e13, h⟩ := gb h
      refine gR_cvI (wX11_keptWith_s e13) (Nat.le_of_ble_eq_true rfl) rfl rfl rfl rfl rfl ?_
      rcases gif h with ⟨c14, h⟩ | ⟨c14, h⟩
      · refine gR_iz_ne_f rfl c14 ?_
        refine gR_go 4 (pc1 := 60) (L1 := [some (.ref 153), some (.int w1), some (.int w2), some (.int x3), some (.int x4)]) (st1 := [.int (1 <<< (x4 &&& 31)), .int x3]) (fun _ _ => rfl) ?_
        exact wX11_cleared_u60 ih he68 h
      · refine gR_iz_ne_j rfl c14 rfl ?_
        refine gR_go 1 (pc1 := 60) (L1 := [some (.ref 153), some (.int w1), some (.int w2), some (.int x3), some (.int x4)]) (st1 := [.int 0, .int x3]) (fun _ _ => rfl) ?_
        exact wX11_cleared_u60 ih he68 h
    · refine gR_ic_ge_j rfl c11 rfl ?_
      exact he68 _ _ _ _ (Option.some.inj h).symm
noncomputable def wX11_cleared (x1 : Int32) (x2 : Int32) (s : wS) : Option (Int32 × wS) := (wX11_canAsk x1 s).bind fun t1 => if t1 = 0 then (some ((-1), s)) else ((wX11_isMany x2 s).bind fun t4 => if t4 = 0 then (some ((-1), s)) else ((wX11_keeps x1 x2 (-1) s).bind fun (t7, s8) => (wX11_cleared_h30 s8 wFuel 0 0).bind fun t16 => some (t16, s8)))
theorem wX11_cleared_s {x1 : Int32} {x2 : Int32} {s : wS} {rv : Int32} {rs : wS} (h : wX11_cleared x1 x2 s = some (rv, rs)) : gEv 6 242 [.ref 153, .int x1, .int x2] (wmk s) (some (.int rv), wmk rs, 0, 0) := by
  refine gEv_of (d := 5) (L := [some (.ref 153), some (.int x1), some (.int x2), none, none]) rfl ?_
  unfold wX11_cleared at h
  refine gR_go 2 (pc1 := 2) (L1 := [some (.ref 153), some (.int x1), some (.int x2), none, none]) (st1 := [.int x1, .ref 153]) (fun _ _ => rfl) ?_
  obtain ⟨t1, e2, h⟩ := gb h
  refine gR_cvI (wX11_canAsk_s e2) (Nat.le_of_ble_eq_true rfl) rfl rfl rfl rfl rfl ?_
  rcases gif h with ⟨c3, h⟩ | ⟨c3, h⟩
  · refine gR_iz_eq_j rfl c3 rfl ?_
    refine gR_go 1 (pc1 := 16) (L1 := [some (.ref 153), some (.int x1), some (.int x2), none, none]) (st1 := [.int (-1)]) (fun _ _ => rfl) ?_
    obtain ⟨rfl, rfl⟩ := gi2 h
    exact gR_ri rfl rfl
  · refine gR_iz_eq_f rfl c3 ?_
    refine gR_go 1 (pc1 := 9) (L1 := [some (.ref 153), some (.int x1), some (.int x2), none, none]) (st1 := [.int x2]) (fun _ _ => rfl) ?_
    obtain ⟨t4, e5, h⟩ := gb h
    refine gR_csI (wX11_isMany_s e5) (Nat.le_of_ble_eq_true rfl) rfl rfl rfl rfl ?_
    rcases gif h with ⟨c6, h⟩ | ⟨c6, h⟩
    · refine gR_iz_ne_f rfl c6 ?_
      refine gR_go 1 (pc1 := 16) (L1 := [some (.ref 153), some (.int x1), some (.int x2), none, none]) (st1 := [.int (-1)]) (fun _ _ => rfl) ?_
      obtain ⟨rfl, rfl⟩ := gi2 h
      exact gR_ri rfl rfl
    · refine gR_iz_ne_j rfl c6 rfl ?_
      refine gR_go 4 (pc1 := 21) (L1 := [some (.ref 153), some (.int x1), some (.int x2), none, none]) (st1 := [.int (-1), .int x2, .int x1, .ref 153]) (fun _ _ => rfl) ?_
      obtain ⟨⟨t7, s8⟩, e9, h⟩ := gb h
      dsimp only at h
      refine gR_cvI (wX11_keeps_s e9) (Nat.le_of_ble_eq_true rfl) rfl rfl rfl rfl rfl ?_
      refine gR_go 5 (pc1 := 30) (L1 := [some (.ref 153), some (.int x1), some (.int x2), some (.int 0), some (.int 0)]) (st1 := []) (fun _ _ => rfl) ?_
      obtain ⟨z15, ez15, h⟩ := gb h
      refine wX11_cleared_t30 ?_  ez15
      · intro t16 w17 w18 w19 hz
        replace hz := hz.symm
        subst hz
        refine gR_go 1 (pc1 := 69) (L1 := [some (.ref 153), some (.int w17), some (.int w18), some (.int t16), some (.int w19)]) (st1 := [.int t16]) (fun _ _ => rfl) ?_
        obtain ⟨rfl, rfl⟩ := gi2 h
        exact gR_ri rfl rfl
noncomputable def wX11_finds_j85 (qq : Int32 → wS → Option (wS)) (x2 : Int32) (y1 : Int32) (y2 : Int32) (s : wS) : Option (wS) := (wpfI s 152 29 (y1 + y2)).bind fun s17 => qq (x2 + 1) s17
theorem wX11_finds_u85 {x2 : Int32} {y1 : Int32} {y2 : Int32} {s : wS} {w1 : Int32} {w3 : Int32} {qq : Int32 → wS → Option (wS)} {x : wS} {r : ri_R} (ih : ∀ {x2 : Int32} {s : wS} {w1 : Int32} {w3 : Option Value} , qq x2 s = some x → gRun 4 243 22 [some (.ref 153), some (.int w1), some (.int x2), w3] [] (wmk s) r) (he95 : ∀ (s : wS) (w1 : Int32) (w2 : Int32) (w3 : Option Value) , x = s → gRun 4 243 95 [some (.ref 153), some (.int w1), some (.int w2), w3] [] (wmk s) r) (h : wX11_finds_j85 qq x2 y1 y2 s = some x) : gRun 4 243 85 [some (.ref 153), some (.int w1), some (.int x2), some (.int w3)] [.int y2, .int y1, .ref 153] (wmk s) r := by
  unfold wX11_finds_j85 at h
  refine gR_go 1 (pc1 := 86) (L1 := [some (.ref 153), some (.int w1), some (.int x2), some (.int w3)]) (st1 := [.int (y1 + y2), .ref 153]) (fun _ _ => rfl) ?_
  obtain ⟨s17, es17, h⟩ := gb h
  refine gR_pfI (k := 152) rfl rfl rfl rfl es17 ?_
  refine gR_go 2 (pc1 := 22) (L1 := [some (.ref 153), some (.int w1), some (.int (x2 + 1)), some (.int w3)]) (st1 := []) (fun _ _ => rfl) ?_
  exact ih h
noncomputable def wX11_finds_j67 (qq : Int32 → wS → Option (wS)) (x2 : Int32) (x3 : Int32) (s : wS) : Option (wS) := if x3 = (s.1 152 28) then (wX11_finds_j85 qq x2 (s.1 152 29) 1 s) else (wX11_finds_j85 qq x2 (s.1 152 29) 0 s)
theorem wX11_finds_u67 {x2 : Int32} {x3 : Int32} {s : wS} {w1 : Int32} {qq : Int32 → wS → Option (wS)} {x : wS} {r : ri_R} (ih : ∀ {x2 : Int32} {s : wS} {w1 : Int32} {w3 : Option Value} , qq x2 s = some x → gRun 4 243 22 [some (.ref 153), some (.int w1), some (.int x2), w3] [] (wmk s) r) (he95 : ∀ (s : wS) (w1 : Int32) (w2 : Int32) (w3 : Option Value) , x = s → gRun 4 243 95 [some (.ref 153), some (.int w1), some (.int w2), w3] [] (wmk s) r) (h : wX11_finds_j67 qq x2 x3 s = some x) : gRun 4 243 67 [some (.ref 153), some (.int w1), some (.int x2), some (.int x3)] [] (wmk s) r := by
  unfold wX11_finds_j67 at h
  refine gR_go 2 (pc1 := 69) (L1 := [some (.ref 153), some (.int w1), some (.int x2), some (.int x3)]) (st1 := [.ref 153, .ref 153]) (fun _ _ => rfl) ?_
  refine gR_gfI (k := 152) rfl rfl rfl ?_
  refine gR_go 2 (pc1 := 74) (L1 := [some (.ref 153), some (.int w1), some (.int x2), some (.int x3)]) (st1 := [.ref 153, .int x3, .int (s.1 152 29), .ref 153]) (fun _ _ => rfl) ?_
  refine gR_gfI (k := 152) rfl rfl rfl ?_
  rcases gif h with ⟨c16, h⟩ | ⟨c16, h⟩
  · refine gR_ic_ne_f rfl c16 ?_
    refine gR_go 2 (pc1 := 85) (L1 := [some (.ref 153), some (.int w1), some (.int x2), some (.int x3)]) (st1 := [.int 1, .int (s.1 152 29), .ref 153]) (fun _ _ => rfl) ?_
    exact wX11_finds_u85 ih he95 h
  · refine gR_ic_ne_j rfl c16 rfl ?_
    refine gR_go 1 (pc1 := 85) (L1 := [some (.ref 153), some (.int w1), some (.int x2), some (.int x3)]) (st1 := [.int 0, .int (s.1 152 29), .ref 153]) (fun _ _ => rfl) ?_
    exact wX11_finds_u85 ih he95 h
noncomputable def wX11_finds_j52 (qq : Int32 → wS → Option (wS)) (x2 : Int32) (x3 : Int32) (s : wS) : Option (wS) := (wpfI s 152 27 x2).bind fun s13 => (wpfI s13 152 28 x3).bind fun s14 => (wpfI s14 152 29 0).bind fun s15 => wX11_finds_j67 qq x2 x3 s15
theorem wX11_finds_u52 {x2 : Int32} {x3 : Int32} {s : wS} {w1 : Int32} {qq : Int32 → wS → Option (wS)} {x : wS} {r : ri_R} (ih : ∀ {x2 : Int32} {s : wS} {w1 : Int32} {w3 : Option Value} , qq x2 s = some x → gRun 4 243 22 [some (.ref 153), some (.int w1), some (.int x2), w3] [] (wmk s) r) (he95 : ∀ (s : wS) (w1 : Int32) (w2 : Int32) (w3 : Option Value) , x = s → gRun 4 243 95 [some (.ref 153), some (.int w1), some (.int w2), w3] [] (wmk s) r) (h : wX11_finds_j52 qq x2 x3 s = some x) : gRun 4 243 52 [some (.ref 153), some (.int w1), some (.int x2), some (.int x3)] [] (wmk s) r := by
  unfold wX11_finds_j52 at h
  refine gR_go 2 (pc1 := 54) (L1 := [some (.ref 153), some (.int w1), some (.int x2), some (.int x3)]) (st1 := [.int x2, .ref 153]) (fun _ _ => rfl) ?_
  obtain ⟨s13, es13, h⟩ := gb h
  refine gR_pfI (k := 152) rfl rfl rfl rfl es13 ?_
  refine gR_go 2 (pc1 := 59) (L1 := [some (.ref 153), some (.int w1), some (.int x2), some (.int x3)]) (st1 := [.int x3, .ref 153]) (fun _ _ => rfl) ?_
  obtain ⟨s14, es14, h⟩ := gb h
  refine gR_pfI (k := 152) rfl rfl rfl rfl es14 ?_
  refine gR_go 2 (pc1 := 64) (L1 := [some (.ref 153), some (.int w1), some (.int x2), some (.int x3)]) (st1 := [.int 0, .ref 153]) (fun _ _ => rfl) ?_
  obtain ⟨s15, es15, h⟩ := gb h
  refine gR_pfI (k := 152) rfl rfl rfl rfl es15 ?_
  exact wX11_finds_u67 ih he95 h
noncomputable def wX11_finds_h22 : Nat → Int32 → wS → Option (wS)
  | 0, _, _ => none
  | n + 1, x2, s => (wX11_worlds s).bind fun t7 => if x2 < t7 then ((wX11_wrongIn x2 (-1) s).bind fun t10 => if (s.1 152 27) < 0 then (wX11_finds_j52 (wX11_finds_h22 n) x2 t10 s) else (if t10 < (s.1 152 28) then (wX11_finds_j52 (wX11_finds_h22 n) x2 t10 s) else (wX11_finds_j67 (wX11_finds_h22 n) x2 t10 s))) else (some s)
theorem wX11_finds_t22 {x : wS} {r : ri_R} (he95 : ∀ (s : wS) (w1 : Int32) (w2 : Int32) (w3 : Option Value) , x = s → gRun 4 243 95 [some (.ref 153), some (.int w1), some (.int w2), w3] [] (wmk s) r) : ∀ {n : Nat} {x2 : Int32} {s : wS} {w1 : Int32} {w3 : Option Value} , wX11_finds_h22 n x2 s = some x → gRun 4 243 22 [some (.ref 153), some (.int w1), some (.int x2), w3] [] (wmk s) r := by
  intro n
  induction n with
  | zero => intro x2 s w1 w3 h; cases (show (none : Option (wS)) = some x from h)
  | succ n ih =>
    intro x2 s w1 w3 h
    rw [wX11_finds_h22] at h
    refine gR_go 2 (pc1 := 24) (L1 := [some (.ref 153), some (.int w1), some (.int x2), w3]) (st1 := [.ref 153, .int x2]) (fun _ _ => rfl) ?_
    obtain ⟨t7, e8, h⟩ := gb h
    refine gR_cvI (wX11_worlds_s e8) (Nat.le_of_ble_eq_true rfl) rfl rfl rfl rfl rfl ?_
    rcases gif h with ⟨c9, h⟩ | ⟨c9, h⟩
    · refine gR_ic_ge_f rfl c9 ?_
      refine gR_go 3 (pc1 := 33) (L1 := [some (.ref 153), some (.int w1), some (.int x2), w3]) (st1 := [.int (-1), .int x2, .ref 153]) (fun _ _ => rfl) ?_
      obtain ⟨t10, e11, h⟩ := gb h
      refine gR_cvI (wX11_wrongIn_s e11) (Nat.le_of_ble_eq_true rfl) rfl rfl rfl rfl rfl ?_
      refine gR_go 2 (pc1 := 38) (L1 := [some (.ref 153), some (.int w1), some (.int x2), some (.int t10)]) (st1 := [.ref 153]) (fun _ _ => rfl) ?_
      refine gR_gfI (k := 152) rfl rfl rfl ?_
      rcases gif h with ⟨c12, h⟩ | ⟨c12, h⟩
      · refine gR_iz_lt_j rfl c12 rfl ?_
        exact wX11_finds_u52 ih he95 h
      · refine gR_iz_lt_f rfl c12 ?_
        refine gR_go 2 (pc1 := 46) (L1 := [some (.ref 153), some (.int w1), some (.int x2), some (.int t10)]) (st1 := [.ref 153, .int t10]) (fun _ _ => rfl) ?_
        refine gR_gfI (k := 152) rfl rfl rfl ?_
        rcases gif h with ⟨c18, h⟩ | ⟨c18, h⟩
        · refine gR_ic_ge_f rfl c18 ?_
          exact wX11_finds_u52 ih he95 h
        · refine gR_ic_ge_j rfl c18 rfl ?_
          exact wX11_finds_u67 ih he95 h
    · refine gR_ic_ge_j rfl c9 rfl ?_
      exact he95 _ _ _ _ (Option.some.inj h).symm
noncomputable def wX11_finds (x1 : Int32) (s : wS) : Option (wS) := (wX11_reaches x1 s).bind fun s2 => (wpfI s2 152 27 (-1)).bind fun s4 => (wpfI s4 152 28 0).bind fun s5 => (wpfI s5 152 29 0).bind fun s6 => (wX11_finds_h22 wFuel 0 s6).bind fun s20 => some s20
theorem wX11_finds_s {x1 : Int32} {s : wS} {rs : wS} (h : wX11_finds x1 s = some rs) : gEv 5 243 [.ref 153, .int x1] (wmk s) (none, wmk rs, 0, 0) := by
  refine gEv_of (d := 4) (L := [some (.ref 153), some (.int x1), none, none]) rfl ?_
  unfold wX11_finds at h
  refine gR_go 2 (pc1 := 2) (L1 := [some (.ref 153), some (.int x1), none, none]) (st1 := [.int x1, .ref 153]) (fun _ _ => rfl) ?_
  obtain ⟨s2, e3, h⟩ := gb h
  refine gR_cvV (wX11_reaches_s e3) (Nat.le_of_ble_eq_true rfl) rfl rfl rfl rfl rfl ?_
  refine gR_go 2 (pc1 := 7) (L1 := [some (.ref 153), some (.int x1), none, none]) (st1 := [.int (-1), .ref 153]) (fun _ _ => rfl) ?_
  obtain ⟨s4, es4, h⟩ := gb h
  refine gR_pfI (k := 152) rfl rfl rfl rfl es4 ?_
  refine gR_go 2 (pc1 := 12) (L1 := [some (.ref 153), some (.int x1), none, none]) (st1 := [.int 0, .ref 153]) (fun _ _ => rfl) ?_
  obtain ⟨s5, es5, h⟩ := gb h
  refine gR_pfI (k := 152) rfl rfl rfl rfl es5 ?_
  refine gR_go 2 (pc1 := 17) (L1 := [some (.ref 153), some (.int x1), none, none]) (st1 := [.int 0, .ref 153]) (fun _ _ => rfl) ?_
  obtain ⟨s6, es6, h⟩ := gb h
  refine gR_pfI (k := 152) rfl rfl rfl rfl es6 ?_
  refine gR_go 2 (pc1 := 22) (L1 := [some (.ref 153), some (.int x1), some (.int 0), none]) (st1 := []) (fun _ _ => rfl) ?_
  obtain ⟨z19, ez19, h⟩ := gb h
  refine wX11_finds_t22 ?_  ez19
  · intro s20 w21 w22 w23 hz
    replace hz := hz.symm
    subst hz
    obtain rfl := gi1 h
    exact gR_rv rfl rfl
noncomputable def wX11_fewest (x1 : Int32) (x2 : Int32) (s : wS) : Option (Int32 × wS) := (wX11_canAsk x1 s).bind fun t1 => if t1 = 0 then (some ((-1), s)) else ((wX11_in ((x2 : Int32).toInt64) 0 2 s).bind fun t4 => if t4 = 0 then (some ((-1), s)) else ((wX11_finds x1 s).bind fun s8 => if x2 = 0 then (some ((s8.1 152 28), s8)) else (if x2 = 1 then (some ((s8.1 152 27), s8)) else (some ((s8.1 152 29), s8)))))
theorem wX11_fewest_s {x1 : Int32} {x2 : Int32} {s : wS} {rv : Int32} {rs : wS} (h : wX11_fewest x1 x2 s = some (rv, rs)) : gEv 6 244 [.ref 153, .int x1, .int x2] (wmk s) (some (.int rv), wmk rs, 0, 0) := by
  refine gEv_of (d := 5) (L := [some (.ref 153), some (.int x1), some (.int x2)]) rfl ?_
  unfold wX11_fewest at h
  refine gR_go 2 (pc1 := 2) (L1 := [some (.ref 153), some (.int x1), some (.int x2)]) (st1 := [.int x1, .ref 153]) (fun _ _ => rfl) ?_
  obtain ⟨t1, e2, h⟩ := gb h
  refine gR_cvI (wX11_canAsk_s e2) (Nat.le_of_ble_eq_true rfl) rfl rfl rfl rfl rfl ?_
  rcases gif h with ⟨c3, h⟩ | ⟨c3, h⟩
  · refine gR_iz_eq_j rfl c3 rfl ?_
    refine gR_go 1 (pc1 := 21) (L1 := [some (.ref 153), some (.int x1), some (.int x2)]) (st1 := [.int (-1)]) (fun _ _ => rfl) ?_
    obtain ⟨rfl, rfl⟩ := gi2 h
    exact gR_ri rfl rfl
  · refine gR_iz_eq_f rfl c3 ?_
    refine gR_go 4 (pc1 := 14) (L1 := [some (.ref 153), some (.int x1), some (.int x2)]) (st1 := [.long 2, .long 0, .long ((x2 : Int32).toInt64)]) (fun _ _ => rfl) ?_
    obtain ⟨t4, e5, h⟩ := gb h
    refine gR_csI (wX11_in_s e5) (Nat.le_of_ble_eq_true rfl) rfl rfl rfl rfl ?_
    rcases gif h with ⟨c6, h⟩ | ⟨c6, h⟩
    · refine gR_iz_ne_f rfl c6 ?_
      refine gR_go 1 (pc1 := 21) (L1 := [some (.ref 153), some (.int x1), some (.int x2)]) (st1 := [.int (-1)]) (fun _ _ => rfl) ?_
      obtain ⟨rfl, rfl⟩ := gi2 h
      exact gR_ri rfl rfl
    · refine gR_iz_ne_j rfl c6 rfl ?_
      refine gR_go 2 (pc1 := 24) (L1 := [some (.ref 153), some (.int x1), some (.int x2)]) (st1 := [.int x1, .ref 153]) (fun _ _ => rfl) ?_
      obtain ⟨s8, e9, h⟩ := gb h
      refine gR_cvV (wX11_finds_s e9) (Nat.le_of_ble_eq_true rfl) rfl rfl rfl rfl rfl ?_
      refine gR_go 1 (pc1 := 28) (L1 := [some (.ref 153), some (.int x1), some (.int x2)]) (st1 := [.int x2]) (fun _ _ => rfl) ?_
      rcases gif h with ⟨c10, h⟩ | ⟨c10, h⟩
      · refine gR_iz_ne_f rfl c10 ?_
        refine gR_go 1 (pc1 := 32) (L1 := [some (.ref 153), some (.int x1), some (.int x2)]) (st1 := [.ref 153]) (fun _ _ => rfl) ?_
        refine gR_gfI (k := 152) rfl rfl rfl ?_
        refine gR_go 1 (pc1 := 54) (L1 := [some (.ref 153), some (.int x1), some (.int x2)]) (st1 := [.int (s8.1 152 28)]) (fun _ _ => rfl) ?_
        obtain ⟨rfl, rfl⟩ := gi2 h
        exact gR_ri rfl rfl
      · refine gR_iz_ne_j rfl c10 rfl ?_
        refine gR_go 2 (pc1 := 40) (L1 := [some (.ref 153), some (.int x1), some (.int x2)]) (st1 := [.int 1, .int x2]) (fun _ _ => rfl) ?_
        rcases gif h with ⟨c11, h⟩ | ⟨c11, h⟩
        · refine gR_ic_ne_f rfl c11 ?_
          refine gR_go 1 (pc1 := 44) (L1 := [some (.ref 153), some (.int x1), some (.int x2)]) (st1 := [.ref 153]) (fun _ _ => rfl) ?_
          refine gR_gfI (k := 152) rfl rfl rfl ?_
          refine gR_go 1 (pc1 := 54) (L1 := [some (.ref 153), some (.int x1), some (.int x2)]) (st1 := [.int (s8.1 152 27)]) (fun _ _ => rfl) ?_
          obtain ⟨rfl, rfl⟩ := gi2 h
          exact gR_ri rfl rfl
        · refine gR_ic_ne_j rfl c11 rfl ?_
          refine gR_go 1 (pc1 := 51) (L1 := [some (.ref 153), some (.int x1), some (.int x2)]) (st1 := [.ref 153]) (fun _ _ => rfl) ?_
          refine gR_gfI (k := 152) rfl rfl rfl ?_
          obtain ⟨rfl, rfl⟩ := gi2 h
          exact gR_ri rfl rfl
noncomputable def wX11_falseOnes_j64 (qq : Int64 → Int32 → Option (Int64)) (x4 : Int32) (y0 : Int64) (y1 : Int64) (s : wS) : Option (Int64) := qq (y0 ||| y1) (x4 + 1)
theorem wX11_falseOnes_u64 {x4 : Int32} {y0 : Int64} {y1 : Int64} {s : wS} {w1 : Int32} {w2 : Int64} {qq : Int64 → Int32 → Option (Int64)} {x : Int64} {r : ri_R} (ih : ∀ {x2 : Int64} {x4 : Int32} {w1 : Int32} , qq x2 x4 = some x → gRun 5 245 22 [some (.ref 153), some (.int w1), some (.long x2), none, some (.int x4)] [] (wmk s) r) (he72 : ∀ (x2 : Int64) (w1 : Int32) (w4 : Int32) , x = x2 → gRun 5 245 72 [some (.ref 153), some (.int w1), some (.long x2), none, some (.int w4)] [] (wmk s) r) (h : wX11_falseOnes_j64 qq x4 y0 y1 s = some x) : gRun 5 245 64 [some (.ref 153), some (.int w1), some (.long w2), none, some (.int x4)] [.long y1, .long y0] (wmk s) r := by
  unfold wX11_falseOnes_j64 at h
  refine gR_go 4 (pc1 := 22) (L1 := [some (.ref 153), some (.int w1), some (.long (y0 ||| y1)), none, some (.int (x4 + 1))]) (st1 := []) (fun _ _ => rfl) ?_
  exact ih h
noncomputable def wX11_falseOnes_j63 (qq : Int64 → Int32 → Option (Int64)) (x4 : Int32) (y0 : Int64) (s : wS) : Option (Int64) := wX11_falseOnes_j64 qq x4 y0 0 s
theorem wX11_falseOnes_u63 {x4 : Int32} {y0 : Int64} {s : wS} {w1 : Int32} {w2 : Int64} {qq : Int64 → Int32 → Option (Int64)} {x : Int64} {r : ri_R} (ih : ∀ {x2 : Int64} {x4 : Int32} {w1 : Int32} , qq x2 x4 = some x → gRun 5 245 22 [some (.ref 153), some (.int w1), some (.long x2), none, some (.int x4)] [] (wmk s) r) (he72 : ∀ (x2 : Int64) (w1 : Int32) (w4 : Int32) , x = x2 → gRun 5 245 72 [some (.ref 153), some (.int w1), some (.long x2), none, some (.int w4)] [] (wmk s) r) (h : wX11_falseOnes_j63 qq x4 y0 s = some x) : gRun 5 245 63 [some (.ref 153), some (.int w1), some (.long w2), none, some (.int x4)] [.long y0] (wmk s) r := by
  unfold wX11_falseOnes_j63 at h
  refine gR_go 1 (pc1 := 64) (L1 := [some (.ref 153), some (.int w1), some (.long w2), none, some (.int x4)]) (st1 := [.long 0, .long y0]) (fun _ _ => rfl) ?_
  exact wX11_falseOnes_u64 ih he72 h
noncomputable def wX11_falseOnes_h22 (s : wS) : Nat → Int64 → Int32 → Option (Int64)
  | 0, _, _ => none
  | n + 1, x2, x4 => if x4 < (s.1 163 3) then ((wX11_isLookedAt x4 s).bind fun t9 => if t9 = 0 then (wX11_falseOnes_j63 (wX11_falseOnes_h22 s n) x4 x2 s) else ((wX11_isTrue x4 (s.1 152 27) s).bind fun t12 => if t12 = 0 then (wX11_falseOnes_j64 (wX11_falseOnes_h22 s n) x4 x2 (1 <<< ((x4 : Int32).toInt64 &&& 63)) s) else (wX11_falseOnes_j63 (wX11_falseOnes_h22 s n) x4 x2 s))) else (some x2)
theorem wX11_falseOnes_t22 {s : wS} {x : Int64} {r : ri_R} (he72 : ∀ (x2 : Int64) (w1 : Int32) (w4 : Int32) , x = x2 → gRun 5 245 72 [some (.ref 153), some (.int w1), some (.long x2), none, some (.int w4)] [] (wmk s) r) : ∀ {n : Nat} {x2 : Int64} {x4 : Int32} {w1 : Int32} , wX11_falseOnes_h22 s n x2 x4 = some x → gRun 5 245 22 [some (.ref 153), some (.int w1), some (.long x2), none, some (.int x4)] [] (wmk s) r := by
  intro n
  induction n with
  | zero => intro x2 x4 w1 h; cases (show (none : Option (Int64)) = some x from h)
  | succ n ih =>
    intro x2 x4 w1 h
    rw [wX11_falseOnes_h22] at h
    refine gR_go 2 (pc1 := 25) (L1 := [some (.ref 153), some (.int w1), some (.long x2), none, some (.int x4)]) (st1 := [.ref 153, .int x4]) (fun _ _ => rfl) ?_
    refine gR_gfR (k := 152) (k' := 163) rfl rfl rfl rfl ?_
    refine gR_go 1 (pc1 := 29) (L1 := [some (.ref 153), some (.int w1), some (.long x2), none, some (.int x4)]) (st1 := [.int 3, .ref 164, .int x4]) (fun _ _ => rfl) ?_
    refine gR_ialc (k := 163) (j := 3) rfl rfl rfl (by decide) rfl ?_
    rcases gif h with ⟨c8, h⟩ | ⟨c8, h⟩
    · refine gR_ic_ge_f rfl c8 ?_
      refine gR_go 3 (pc1 := 37) (L1 := [some (.ref 153), some (.int w1), some (.long x2), none, some (.int x4)]) (st1 := [.int x4, .ref 153, .long x2]) (fun _ _ => rfl) ?_
      obtain ⟨t9, e10, h⟩ := gb h
      refine gR_cvI (wX11_isLookedAt_s e10) (Nat.le_of_ble_eq_true rfl) rfl rfl rfl rfl rfl ?_
      rcases gif h with ⟨c11, h⟩ | ⟨c11, h⟩
      · refine gR_iz_eq_j rfl c11 rfl ?_
        exact wX11_falseOnes_u63 ih he72 h
      · refine gR_iz_eq_f rfl c11 ?_
        refine gR_go 3 (pc1 := 47) (L1 := [some (.ref 153), some (.int w1), some (.long x2), none, some (.int x4)]) (st1 := [.ref 153, .int x4, .ref 153, .long x2]) (fun _ _ => rfl) ?_
        refine gR_gfI (k := 152) rfl rfl rfl ?_
        obtain ⟨t12, e13, h⟩ := gb h
        refine gR_cvI (wX11_isTrue_s e13) (Nat.le_of_ble_eq_true rfl) rfl rfl rfl rfl rfl ?_
        rcases gif h with ⟨c14, h⟩ | ⟨c14, h⟩
        · refine gR_iz_ne_f rfl c14 ?_
          refine gR_go 4 (pc1 := 64) (L1 := [some (.ref 153), some (.int w1), some (.long x2), none, some (.int x4)]) (st1 := [.long (1 <<< ((x4 : Int32).toInt64 &&& 63)), .long x2]) (fun _ _ => rfl) ?_
          exact wX11_falseOnes_u64 ih he72 h
        · refine gR_iz_ne_j rfl c14 rfl ?_
          exact wX11_falseOnes_u63 ih he72 h
    · refine gR_ic_ge_j rfl c8 rfl ?_
      exact he72 _ _ _ (Option.some.inj h).symm
noncomputable def wX11_falseOnes (x1 : Int32) (s : wS) : Option (Int64 × wS) := (wX11_canAsk x1 s).bind fun t1 => if t1 = 0 then (some ((-1), s)) else ((wX11_finds x1 s).bind fun s5 => (wX11_falseOnes_h22 s5 wFuel 0 0).bind fun t16 => some (t16, s5))
theorem wX11_falseOnes_s {x1 : Int32} {s : wS} {rv : Int64} {rs : wS} (h : wX11_falseOnes x1 s = some (rv, rs)) : gEv 6 245 [.ref 153, .int x1] (wmk s) (some (.long rv), wmk rs, 0, 0) := by
  refine gEv_of (d := 5) (L := [some (.ref 153), some (.int x1), none, none, none]) rfl ?_
  unfold wX11_falseOnes at h
  refine gR_go 2 (pc1 := 2) (L1 := [some (.ref 153), some (.int x1), none, none, none]) (st1 := [.int x1, .ref 153]) (fun _ _ => rfl) ?_
  obtain ⟨t1, e2, h⟩ := gb h
  refine gR_cvI (wX11_canAsk_s e2) (Nat.le_of_ble_eq_true rfl) rfl rfl rfl rfl rfl ?_
  rcases gif h with ⟨c3, h⟩ | ⟨c3, h⟩
  · refine gR_iz_ne_f rfl c3 ?_
    refine gR_go 1 (pc1 := 11) (L1 := [some (.ref 153), some (.int x1), none, none, none]) (st1 := [.long (-1)]) (fun _ _ => rfl) ?_
    obtain ⟨rfl, rfl⟩ := gi2 h
    exact gR_rl rfl rfl
  · refine gR_iz_ne_j rfl c3 rfl ?_
    refine gR_go 2 (pc1 := 14) (L1 := [some (.ref 153), some (.int x1), none, none, none]) (st1 := [.int x1, .ref 153]) (fun _ _ => rfl) ?_
    obtain ⟨s5, e6, h⟩ := gb h
    refine gR_cvV (wX11_finds_s e6) (Nat.le_of_ble_eq_true rfl) rfl rfl rfl rfl rfl ?_
    refine gR_go 4 (pc1 := 22) (L1 := [some (.ref 153), some (.int x1), some (.long 0), none, some (.int 0)]) (st1 := []) (fun _ _ => rfl) ?_
    obtain ⟨z15, ez15, h⟩ := gb h
    refine wX11_falseOnes_t22 ?_  ez15
    · intro t16 w17 w18 hz
      replace hz := hz.symm
      subst hz
      refine gR_go 1 (pc1 := 73) (L1 := [some (.ref 153), some (.int w17), some (.long t16), none, some (.int w18)]) (st1 := [.long t16]) (fun _ _ => rfl) ?_
      obtain ⟨rfl, rfl⟩ := gi2 h
      exact gR_rl rfl rfl
noncomputable def wX11_liars_j78 (qq : Int32 → Int32 → Option (Int32)) (x2 : Int32) (x3 : Int32) (x5 : Int32) (y0 : Int32) (y1 : Int32) (s : wS) : Option (Int32) := qq (y0 ||| y1) (x5 + 1)
theorem wX11_liars_u78 {x2 : Int32} {x3 : Int32} {x5 : Int32} {y0 : Int32} {y1 : Int32} {s : wS} {w1 : Int32} {w4 : Int32} {qq : Int32 → Int32 → Option (Int32)} {x : Int32} {r : ri_R} (ih : ∀ {x4 : Int32} {x5 : Int32} {w1 : Int32} , qq x4 x5 = some x → gRun 4 246 33 [some (.ref 153), some (.int w1), some (.int x2), some (.int x3), some (.int x4), some (.int x5)] [] (wmk s) r) (he87 : ∀ (x4 : Int32) (w1 : Int32) (w5 : Int32) , x = x4 → gRun 4 246 87 [some (.ref 153), some (.int w1), some (.int x2), some (.int x3), some (.int x4), some (.int w5)] [] (wmk s) r) (h : wX11_liars_j78 qq x2 x3 x5 y0 y1 s = some x) : gRun 4 246 78 [some (.ref 153), some (.int w1), some (.int x2), some (.int x3), some (.int w4), some (.int x5)] [.int y1, .int y0] (wmk s) r := by
  unfold wX11_liars_j78 at h
  refine gR_go 4 (pc1 := 33) (L1 := [some (.ref 153), some (.int w1), some (.int x2), some (.int x3), some (.int (y0 ||| y1)), some (.int (x5 + 1))]) (st1 := []) (fun _ _ => rfl) ?_
  exact ih h
noncomputable def wX11_liars_j77 (qq : Int32 → Int32 → Option (Int32)) (x2 : Int32) (x3 : Int32) (x5 : Int32) (y0 : Int32) (s : wS) : Option (Int32) := wX11_liars_j78 qq x2 x3 x5 y0 0 s
theorem wX11_liars_u77 {x2 : Int32} {x3 : Int32} {x5 : Int32} {y0 : Int32} {s : wS} {w1 : Int32} {w4 : Int32} {qq : Int32 → Int32 → Option (Int32)} {x : Int32} {r : ri_R} (ih : ∀ {x4 : Int32} {x5 : Int32} {w1 : Int32} , qq x4 x5 = some x → gRun 4 246 33 [some (.ref 153), some (.int w1), some (.int x2), some (.int x3), some (.int x4), some (.int x5)] [] (wmk s) r) (he87 : ∀ (x4 : Int32) (w1 : Int32) (w5 : Int32) , x = x4 → gRun 4 246 87 [some (.ref 153), some (.int w1), some (.int x2), some (.int x3), some (.int x4), some (.int w5)] [] (wmk s) r) (h : wX11_liars_j77 qq x2 x3 x5 y0 s = some x) : gRun 4 246 77 [some (.ref 153), some (.int w1), some (.int x2), some (.int x3), some (.int w4), some (.int x5)] [.int y0] (wmk s) r := by
  unfold wX11_liars_j77 at h
  refine gR_go 1 (pc1 := 78) (L1 := [some (.ref 153), some (.int w1), some (.int x2), some (.int x3), some (.int w4), some (.int x5)]) (st1 := [.int 0, .int y0]) (fun _ _ => rfl) ?_
  exact wX11_liars_u78 ih he87 h
noncomputable def wX11_liars_h33 (x2 : Int32) (x3 : Int32) (s : wS) : Nat → Int32 → Int32 → Option (Int32)
  | 0, _, _ => none
  | n + 1, x4, x5 => if x5 < (s.1 163 3) then ((wX11_isLookedAt x5 s).bind fun t12 => if t12 = 0 then (wX11_liars_j77 (wX11_liars_h33 x2 x3 s n) x2 x3 x5 x4 s) else ((wX11_isTrue x5 x3 s).bind fun t15 => if t15 = 0 then ((wX11_answerOf x5 0 s).bind fun t18 => wX11_liars_j78 (wX11_liars_h33 x2 x3 s n) x2 x3 x5 x4 (1 <<< (t18 &&& 31)) s) else (wX11_liars_j77 (wX11_liars_h33 x2 x3 s n) x2 x3 x5 x4 s))) else (some x4)
theorem wX11_liars_t33 {x2 : Int32} {x3 : Int32} {s : wS} {x : Int32} {r : ri_R} (he87 : ∀ (x4 : Int32) (w1 : Int32) (w5 : Int32) , x = x4 → gRun 4 246 87 [some (.ref 153), some (.int w1), some (.int x2), some (.int x3), some (.int x4), some (.int w5)] [] (wmk s) r) : ∀ {n : Nat} {x4 : Int32} {x5 : Int32} {w1 : Int32} , wX11_liars_h33 x2 x3 s n x4 x5 = some x → gRun 4 246 33 [some (.ref 153), some (.int w1), some (.int x2), some (.int x3), some (.int x4), some (.int x5)] [] (wmk s) r := by
  intro n
  induction n with
  | zero => intro x4 x5 w1 h; cases (show (none : Option (Int32)) = some x from h)
  | succ n ih =>
    intro x4 x5 w1 h
    rw [wX11_liars_h33] at h
    refine gR_go 2 (pc1 := 36) (L1 := [some (.ref 153), some (.int w1), some (.int x2), some (.int x3), some (.int x4), some (.int x5)]) (st1 := [.ref 153, .int x5]) (fun _ _ => rfl) ?_
    refine gR_gfR (k := 152) (k' := 163) rfl rfl rfl rfl ?_
    refine gR_go 1 (pc1 := 40) (L1 := [some (.ref 153), some (.int w1), some (.int x2), some (.int x3), some (.int x4), some (.int x5)]) (st1 := [.int 3, .ref 164, .int x5]) (fun _ _ => rfl) ?_
    refine gR_ialc (k := 163) (j := 3) rfl rfl rfl (by decide) rfl ?_
    rcases gif h with ⟨c11, h⟩ | ⟨c11, h⟩
    · refine gR_ic_ge_f rfl c11 ?_
      refine gR_go 3 (pc1 := 49) (L1 := [some (.ref 153), some (.int w1), some (.int x2), some (.int x3), some (.int x4), some (.int x5)]) (st1 := [.int x5, .ref 153, .int x4]) (fun _ _ => rfl) ?_
      obtain ⟨t12, e13, h⟩ := gb h
      refine gR_cvI (wX11_isLookedAt_s e13) (Nat.le_of_ble_eq_true rfl) rfl rfl rfl rfl rfl ?_
      rcases gif h with ⟨c14, h⟩ | ⟨c14, h⟩
      · refine gR_iz_eq_j rfl c14 rfl ?_
        exact wX11_liars_u77 ih he87 h
      · refine gR_iz_eq_f rfl c14 ?_
        refine gR_go 3 (pc1 := 59) (L1 := [some (.ref 153), some (.int w1), some (.int x2), some (.int x3), some (.int x4), some (.int x5)]) (st1 := [.int x3, .int x5, .ref 153, .int x4]) (fun _ _ => rfl) ?_
        obtain ⟨t15, e16, h⟩ := gb h
        refine gR_cvI (wX11_isTrue_s e16) (Nat.le_of_ble_eq_true rfl) rfl rfl rfl rfl rfl ?_
        rcases gif h with ⟨c17, h⟩ | ⟨c17, h⟩
        · refine gR_iz_ne_f rfl c17 ?_
          refine gR_go 4 (pc1 := 70) (L1 := [some (.ref 153), some (.int w1), some (.int x2), some (.int x3), some (.int x4), some (.int x5)]) (st1 := [.int 0, .int x5, .ref 153, .int 1, .int x4]) (fun _ _ => rfl) ?_
          obtain ⟨t18, e19, h⟩ := gb h
          refine gR_cvI (wX11_answerOf_s e19) (Nat.le_of_ble_eq_true rfl) rfl rfl rfl rfl rfl ?_
          refine gR_go 2 (pc1 := 78) (L1 := [some (.ref 153), some (.int w1), some (.int x2), some (.int x3), some (.int x4), some (.int x5)]) (st1 := [.int (1 <<< (t18 &&& 31)), .int x4]) (fun _ _ => rfl) ?_
          exact wX11_liars_u78 ih he87 h
        · refine gR_iz_ne_j rfl c17 rfl ?_
          exact wX11_liars_u77 ih he87 h
    · refine gR_ic_ge_j rfl c11 rfl ?_
      exact he87 _ _ _ (Option.some.inj h).symm
noncomputable def wX11_liars_j128 (qq : Int32 → Int32 → Option (Int32)) (x2 : Int32) (x3 : Int32) (s : wS) : Option (Int32) := qq x2 (x3 + 1)
theorem wX11_liars_u128 {x2 : Int32} {x3 : Int32} {s : wS} {w1 : Int32} {w4 : Int32} {w5 : Int32} {qq : Int32 → Int32 → Option (Int32)} {x : Int32} {r : ri_R} (ih : ∀ {x2 : Int32} {x3 : Int32} {w1 : Int32} {w4 : Option Value} {w5 : Option Value} , qq x2 x3 = some x → gRun 4 246 19 [some (.ref 153), some (.int w1), some (.int x2), some (.int x3), w4, w5] [] (wmk s) r) (he134 : ∀ (x2 : Int32) (w1 : Int32) (w3 : Int32) (w4 : Option Value) (w5 : Option Value) , x = x2 → gRun 4 246 134 [some (.ref 153), some (.int w1), some (.int x2), some (.int w3), w4, w5] [] (wmk s) r) (h : wX11_liars_j128 qq x2 x3 s = some x) : gRun 4 246 128 [some (.ref 153), some (.int w1), some (.int x2), some (.int x3), some (.int w4), some (.int w5)] [] (wmk s) r := by
  unfold wX11_liars_j128 at h
  refine gR_go 2 (pc1 := 19) (L1 := [some (.ref 153), some (.int w1), some (.int x2), some (.int (x3 + 1)), some (.int w4), some (.int w5)]) (st1 := []) (fun _ _ => rfl) ?_
  exact ih h
noncomputable def wX11_liars_j125 (qq : Int32 → Int32 → Option (Int32)) (x3 : Int32) (x4 : Int32) (s : wS) : Option (Int32) := wX11_liars_j128 qq x4 x3 s
theorem wX11_liars_u125 {x3 : Int32} {x4 : Int32} {s : wS} {w1 : Int32} {w2 : Int32} {w5 : Int32} {qq : Int32 → Int32 → Option (Int32)} {x : Int32} {r : ri_R} (ih : ∀ {x2 : Int32} {x3 : Int32} {w1 : Int32} {w4 : Option Value} {w5 : Option Value} , qq x2 x3 = some x → gRun 4 246 19 [some (.ref 153), some (.int w1), some (.int x2), some (.int x3), w4, w5] [] (wmk s) r) (he134 : ∀ (x2 : Int32) (w1 : Int32) (w3 : Int32) (w4 : Option Value) (w5 : Option Value) , x = x2 → gRun 4 246 134 [some (.ref 153), some (.int w1), some (.int x2), some (.int w3), w4, w5] [] (wmk s) r) (h : wX11_liars_j125 qq x3 x4 s = some x) : gRun 4 246 125 [some (.ref 153), some (.int w1), some (.int w2), some (.int x3), some (.int x4), some (.int w5)] [] (wmk s) r := by
  unfold wX11_liars_j125 at h
  refine gR_go 2 (pc1 := 128) (L1 := [some (.ref 153), some (.int w1), some (.int x4), some (.int x3), some (.int x4), some (.int w5)]) (st1 := []) (fun _ _ => rfl) ?_
  exact wX11_liars_u128 ih he134 h
noncomputable def wX11_liars_h19 (s : wS) : Nat → Int32 → Int32 → Option (Int32)
  | 0, _, _ => none
  | n + 1, x2, x3 => (wX11_worlds s).bind fun t7 => if x3 < t7 then ((wX11_liars_h33 x2 x3 s wFuel 0 0).bind fun t21 => if x2 < 0 then (wX11_liars_j125 (wX11_liars_h19 s n) x3 t21 s) else ((wX11_bits ((t21 : Int32).toInt64) s).bind fun t25 => (wX11_bits ((x2 : Int32).toInt64) s).bind fun t27 => if t25 < t27 then (wX11_liars_j125 (wX11_liars_h19 s n) x3 t21 s) else ((wX11_bits ((t21 : Int32).toInt64) s).bind fun t30 => (wX11_bits ((x2 : Int32).toInt64) s).bind fun t32 => if t30 = t32 then (if t21 < x2 then (wX11_liars_j125 (wX11_liars_h19 s n) x3 t21 s) else (wX11_liars_j128 (wX11_liars_h19 s n) x2 x3 s)) else (wX11_liars_j128 (wX11_liars_h19 s n) x2 x3 s)))) else (some x2)
theorem wX11_liars_t19 {s : wS} {x : Int32} {r : ri_R} (he134 : ∀ (x2 : Int32) (w1 : Int32) (w3 : Int32) (w4 : Option Value) (w5 : Option Value) , x = x2 → gRun 4 246 134 [some (.ref 153), some (.int w1), some (.int x2), some (.int w3), w4, w5] [] (wmk s) r) : ∀ {n : Nat} {x2 : Int32} {x3 : Int32} {w1 : Int32} {w4 : Option Value} {w5 : Option Value} , wX11_liars_h19 s n x2 x3 = some x → gRun 4 246 19 [some (.ref 153), some (.int w1), some (.int x2), some (.int x3), w4, w5] [] (wmk s) r := by
  intro n
  induction n with
  | zero => intro x2 x3 w1 w4 w5 h; cases (show (none : Option (Int32)) = some x from h)
  | succ n ih =>
    intro x2 x3 w1 w4 w5 h
    rw [wX11_liars_h19] at h
    refine gR_go 2 (pc1 := 21) (L1 := [some (.ref 153), some (.int w1), some (.int x2), some (.int x3), w4, w5]) (st1 := [.ref 153, .int x3]) (fun _ _ => rfl) ?_
    obtain ⟨t7, e8, h⟩ := gb h
    refine gR_cvI (wX11_worlds_s e8) (Nat.le_of_ble_eq_true rfl) rfl rfl rfl rfl rfl ?_
    rcases gif h with ⟨c9, h⟩ | ⟨c9, h⟩
    · refine gR_ic_ge_f rfl c9 ?_
      refine gR_go 4 (pc1 := 33) (L1 := [some (.ref 153), some (.int w1), some (.int x2), some (.int x3), some (.int 0), some (.int 0)]) (st1 := []) (fun _ _ => rfl) ?_
      obtain ⟨z20, ez20, h⟩ := gb h
      refine wX11_liars_t33 ?_  ez20
      · intro t21 w22 w23 hz
        replace hz := hz.symm
        subst hz
        refine gR_go 1 (pc1 := 88) (L1 := [some (.ref 153), some (.int w22), some (.int x2), some (.int x3), some (.int t21), some (.int w23)]) (st1 := [.int x2]) (fun _ _ => rfl) ?_
        rcases gif h with ⟨c24, h⟩ | ⟨c24, h⟩
        · refine gR_iz_lt_j rfl c24 rfl ?_
          exact wX11_liars_u125 ih he134 h
        · refine gR_iz_lt_f rfl c24 ?_
          refine gR_go 2 (pc1 := 94) (L1 := [some (.ref 153), some (.int w22), some (.int x2), some (.int x3), some (.int t21), some (.int w23)]) (st1 := [.long ((t21 : Int32).toInt64)]) (fun _ _ => rfl) ?_
          obtain ⟨t25, e26, h⟩ := gb h
          refine gR_csI (wX11_bits_s e26) (Nat.le_of_ble_eq_true rfl) rfl rfl rfl rfl ?_
          refine gR_go 2 (pc1 := 99) (L1 := [some (.ref 153), some (.int w22), some (.int x2), some (.int x3), some (.int t21), some (.int w23)]) (st1 := [.long ((x2 : Int32).toInt64), .int t25]) (fun _ _ => rfl) ?_
          obtain ⟨t27, e28, h⟩ := gb h
          refine gR_csI (wX11_bits_s e28) (Nat.le_of_ble_eq_true rfl) rfl rfl rfl rfl ?_
          rcases gif h with ⟨c29, h⟩ | ⟨c29, h⟩
          · refine gR_ic_lt_j rfl c29 rfl ?_
            exact wX11_liars_u125 ih he134 h
          · refine gR_ic_lt_f rfl c29 ?_
            refine gR_go 2 (pc1 := 108) (L1 := [some (.ref 153), some (.int w22), some (.int x2), some (.int x3), some (.int t21), some (.int w23)]) (st1 := [.long ((t21 : Int32).toInt64)]) (fun _ _ => rfl) ?_
            obtain ⟨t30, e31, h⟩ := gb h
            refine gR_csI (wX11_bits_s e31) (Nat.le_of_ble_eq_true rfl) rfl rfl rfl rfl ?_
            refine gR_go 2 (pc1 := 113) (L1 := [some (.ref 153), some (.int w22), some (.int x2), some (.int x3), some (.int t21), some (.int w23)]) (st1 := [.long ((x2 : Int32).toInt64), .int t30]) (fun _ _ => rfl) ?_
            obtain ⟨t32, e33, h⟩ := gb h
            refine gR_csI (wX11_bits_s e33) (Nat.le_of_ble_eq_true rfl) rfl rfl rfl rfl ?_
            rcases gif h with ⟨c34, h⟩ | ⟨c34, h⟩
            · refine gR_ic_ne_f rfl c34 ?_
              refine gR_go 2 (pc1 := 122) (L1 := [some (.ref 153), some (.int w22), some (.int x2), some (.int x3), some (.int t21), some (.int w23)]) (st1 := [.int x2, .int t21]) (fun _ _ => rfl) ?_
              rcases gif h with ⟨c35, h⟩ | ⟨c35, h⟩
              · refine gR_ic_ge_f rfl c35 ?_
                exact wX11_liars_u125 ih he134 h
              · refine gR_ic_ge_j rfl c35 rfl ?_
                exact wX11_liars_u128 ih he134 h
            · refine gR_ic_ne_j rfl c34 rfl ?_
              exact wX11_liars_u128 ih he134 h
    · refine gR_ic_ge_j rfl c9 rfl ?_
      exact he134 _ _ _ _ _ (Option.some.inj h).symm
noncomputable def wX11_liars (x1 : Int32) (s : wS) : Option (Int32 × wS) := (wX11_canAsk x1 s).bind fun t1 => if t1 = 0 then (some ((-1), s)) else ((wX11_reaches x1 s).bind fun s5 => (wX11_liars_h19 s5 wFuel (-1) 0).bind fun t37 => some (t37, s5))
theorem wX11_liars_s {x1 : Int32} {s : wS} {rv : Int32} {rs : wS} (h : wX11_liars x1 s = some (rv, rs)) : gEv 5 246 [.ref 153, .int x1] (wmk s) (some (.int rv), wmk rs, 0, 0) := by
  refine gEv_of (d := 4) (L := [some (.ref 153), some (.int x1), none, none, none, none]) rfl ?_
  unfold wX11_liars at h
  refine gR_go 2 (pc1 := 2) (L1 := [some (.ref 153), some (.int x1), none, none, none, none]) (st1 := [.int x1, .ref 153]) (fun _ _ => rfl) ?_
  obtain ⟨t1, e2, h⟩ := gb h
  refine gR_cvI (wX11_canAsk_s e2) (Nat.le_of_ble_eq_true rfl) rfl rfl rfl rfl rfl ?_
  rcases gif h with ⟨c3, h⟩ | ⟨c3, h⟩
  · refine gR_iz_ne_f rfl c3 ?_
    refine gR_go 1 (pc1 := 9) (L1 := [some (.ref 153), some (.int x1), none, none, none, none]) (st1 := [.int (-1)]) (fun _ _ => rfl) ?_
    obtain ⟨rfl, rfl⟩ := gi2 h
    exact gR_ri rfl rfl
  · refine gR_iz_ne_j rfl c3 rfl ?_
    refine gR_go 2 (pc1 := 12) (L1 := [some (.ref 153), some (.int x1), none, none, none, none]) (st1 := [.int x1, .ref 153]) (fun _ _ => rfl) ?_
    obtain ⟨s5, e6, h⟩ := gb h
    refine gR_cvV (wX11_reaches_s e6) (Nat.le_of_ble_eq_true rfl) rfl rfl rfl rfl rfl ?_
    refine gR_go 4 (pc1 := 19) (L1 := [some (.ref 153), some (.int x1), some (.int (-1)), some (.int 0), none, none]) (st1 := []) (fun _ _ => rfl) ?_
    obtain ⟨z36, ez36, h⟩ := gb h
    refine wX11_liars_t19 ?_  ez36
    · intro t37 w38 w39 w40 w41 hz
      replace hz := hz.symm
      subst hz
      refine gR_go 1 (pc1 := 135) (L1 := [some (.ref 153), some (.int w38), some (.int t37), some (.int w39), w40, w41]) (st1 := [.int t37]) (fun _ _ => rfl) ?_
      obtain ⟨rfl, rfl⟩ := gi2 h
      exact gR_ri rfl rfl
noncomputable def wX11_areTrueTogether_j30 (qq : Int32 → Option ((Unit) ⊕ (Unit))) (x1 : Int32) (x2 : Int32) (x3 : Int32) (s : wS) : Option ((Unit) ⊕ (Unit)) := qq (x3 + 1)
theorem wX11_areTrueTogether_u30 {x1 : Int32} {x2 : Int32} {x3 : Int32} {s : wS} {qq : Int32 → Option ((Unit) ⊕ (Unit))} {x : (Unit) ⊕ (Unit)} {r : ri_R} (ih : ∀ {x3 : Int32} , qq x3 = some x → gRun 3 247 2 [some (.ref 153), some (.int x1), some (.int x2), some (.int x3)] [] (wmk s) r) (he36 : ∀ (w1 : Int32) (w2 : Int32) (w3 : Int32) , x = .inl () → gRun 3 247 36 [some (.ref 153), some (.int w1), some (.int w2), some (.int w3)] [] (wmk s) r) (he28 : ∀ (w1 : Int32) (w2 : Int32) (w3 : Int32) , x = .inr () → gRun 3 247 28 [some (.ref 153), some (.int w1), some (.int w2), some (.int w3)] [] (wmk s) r) (h : wX11_areTrueTogether_j30 qq x1 x2 x3 s = some x) : gRun 3 247 30 [some (.ref 153), some (.int x1), some (.int x2), some (.int x3)] [] (wmk s) r := by
  unfold wX11_areTrueTogether_j30 at h
  refine gR_go 2 (pc1 := 2) (L1 := [some (.ref 153), some (.int x1), some (.int x2), some (.int (x3 + 1))]) (st1 := []) (fun _ _ => rfl) ?_
  exact ih h
noncomputable def wX11_areTrueTogether_h2 (x1 : Int32) (x2 : Int32) (s : wS) : Nat → Int32 → Option ((Unit) ⊕ (Unit))
  | 0, _ => none
  | n + 1, x3 => (wX11_worlds s).bind fun t1 => if x3 < t1 then ((wX11_isTrue x1 x3 s).bind fun t4 => if t4 = 0 then (wX11_areTrueTogether_j30 (wX11_areTrueTogether_h2 x1 x2 s n) x1 x2 x3 s) else ((wX11_isTrue x2 x3 s).bind fun t7 => if t7 = 0 then (wX11_areTrueTogether_j30 (wX11_areTrueTogether_h2 x1 x2 s n) x1 x2 x3 s) else (some (.inr ())))) else (some (.inl ()))
theorem wX11_areTrueTogether_t2 {x1 : Int32} {x2 : Int32} {s : wS} {x : (Unit) ⊕ (Unit)} {r : ri_R} (he36 : ∀ (w1 : Int32) (w2 : Int32) (w3 : Int32) , x = .inl () → gRun 3 247 36 [some (.ref 153), some (.int w1), some (.int w2), some (.int w3)] [] (wmk s) r) (he28 : ∀ (w1 : Int32) (w2 : Int32) (w3 : Int32) , x = .inr () → gRun 3 247 28 [some (.ref 153), some (.int w1), some (.int w2), some (.int w3)] [] (wmk s) r) : ∀ {n : Nat} {x3 : Int32} , wX11_areTrueTogether_h2 x1 x2 s n x3 = some x → gRun 3 247 2 [some (.ref 153), some (.int x1), some (.int x2), some (.int x3)] [] (wmk s) r := by
  intro n
  induction n with
  | zero => intro x3 h; cases (show (none : Option ((Unit) ⊕ (Unit))) = some x from h)
  | succ n ih =>
    intro x3 h
    rw [wX11_areTrueTogether_h2] at h
    refine gR_go 2 (pc1 := 4) (L1 := [some (.ref 153), some (.int x1), some (.int x2), some (.int x3)]) (st1 := [.ref 153, .int x3]) (fun _ _ => rfl) ?_
    obtain ⟨t1, e2, h⟩ := gb h
    refine gR_cvI (wX11_worlds_s e2) (Nat.le_of_ble_eq_true rfl) rfl rfl rfl rfl rfl ?_
    rcases gif h with ⟨c3, h⟩ | ⟨c3, h⟩
    · refine gR_ic_ge_f rfl c3 ?_
      refine gR_go 3 (pc1 := 13) (L1 := [some (.ref 153), some (.int x1), some (.int x2), some (.int x3)]) (st1 := [.int x3, .int x1, .ref 153]) (fun _ _ => rfl) ?_
      obtain ⟨t4, e5, h⟩ := gb h
      refine gR_cvI (wX11_isTrue_s e5) (Nat.le_of_ble_eq_true rfl) rfl rfl rfl rfl rfl ?_
      rcases gif h with ⟨c6, h⟩ | ⟨c6, h⟩
      · refine gR_iz_eq_j rfl c6 rfl ?_
        exact wX11_areTrueTogether_u30 ih he36 he28 h
      · refine gR_iz_eq_f rfl c6 ?_
        refine gR_go 3 (pc1 := 22) (L1 := [some (.ref 153), some (.int x1), some (.int x2), some (.int x3)]) (st1 := [.int x3, .int x2, .ref 153]) (fun _ _ => rfl) ?_
        obtain ⟨t7, e8, h⟩ := gb h
        refine gR_cvI (wX11_isTrue_s e8) (Nat.le_of_ble_eq_true rfl) rfl rfl rfl rfl rfl ?_
        rcases gif h with ⟨c9, h⟩ | ⟨c9, h⟩
        · refine gR_iz_eq_j rfl c9 rfl ?_
          exact wX11_areTrueTogether_u30 ih he36 he28 h
        · refine gR_iz_eq_f rfl c9 ?_
          exact he28 _ _ _ (Option.some.inj h).symm
    · refine gR_ic_ge_j rfl c3 rfl ?_
      exact he36 _ _ _ (Option.some.inj h).symm
noncomputable def wX11_areTrueTogether (x1 : Int32) (x2 : Int32) (s : wS) : Option (Int32) := (wX11_areTrueTogether_h2 x1 x2 s wFuel 0).bind fun z10 => (match z10 with | .inl () => some 0 | .inr () => some 1)
theorem wX11_areTrueTogether_s {x1 : Int32} {x2 : Int32} {s : wS} {rv : Int32} (h : wX11_areTrueTogether x1 x2 s = some rv) : gEv 4 247 [.ref 153, .int x1, .int x2] (wmk s) (some (.int rv), wmk s, 0, 0) := by
  refine gEv_of (d := 3) (L := [some (.ref 153), some (.int x1), some (.int x2), none]) rfl ?_
  unfold wX11_areTrueTogether at h
  refine gR_go 2 (pc1 := 2) (L1 := [some (.ref 153), some (.int x1), some (.int x2), some (.int 0)]) (st1 := []) (fun _ _ => rfl) ?_
  obtain ⟨z10, ez10, h⟩ := gb h
  refine wX11_areTrueTogether_t2 ?_ ?_  ez10
  · intro w11 w12 w13 hz
    replace hz := hz.symm
    subst hz
    dsimp only at h
    refine gR_go 1 (pc1 := 37) (L1 := [some (.ref 153), some (.int w11), some (.int w12), some (.int w13)]) (st1 := [.int 0]) (fun _ _ => rfl) ?_
    obtain rfl := gi1 h
    exact gR_rzc rfl rfl rfl
  · intro w14 w15 w16 hz
    replace hz := hz.symm
    subst hz
    dsimp only at h
    refine gR_go 1 (pc1 := 29) (L1 := [some (.ref 153), some (.int w14), some (.int w15), some (.int w16)]) (st1 := [.int 1]) (fun _ _ => rfl) ?_
    obtain rfl := gi1 h
    exact gR_rzc rfl rfl rfl
noncomputable def wX11_quarrel_j73 (qq : Int32 → Option ((Unit) ⊕ (Int32))) (x2 : Int32) (x3 : Int32) (s : wS) : Option ((Unit) ⊕ (Int32)) := qq (x3 + 1)
theorem wX11_quarrel_u73 {x2 : Int32} {x3 : Int32} {s : wS} {w1 : Int32} {qq : Int32 → Option ((Unit) ⊕ (Int32))} {x : (Unit) ⊕ (Int32)} {r : ri_R} (ih : ∀ {x3 : Int32} {w1 : Int32} , qq x3 = some x → gRun 4 248 31 [some (.ref 153), some (.int w1), some (.int x2), some (.int x3)] [] (wmk s) r) (he79 : ∀ (w1 : Int32) (w3 : Int32) , x = .inl () → gRun 4 248 79 [some (.ref 153), some (.int w1), some (.int x2), some (.int w3)] [] (wmk s) r) (he66 : ∀ (x3 : Int32) (w1 : Int32) , x = .inr x3 → gRun 4 248 66 [some (.ref 153), some (.int w1), some (.int x2), some (.int x3)] [] (wmk s) r) (h : wX11_quarrel_j73 qq x2 x3 s = some x) : gRun 4 248 73 [some (.ref 153), some (.int w1), some (.int x2), some (.int x3)] [] (wmk s) r := by
  unfold wX11_quarrel_j73 at h
  refine gR_go 2 (pc1 := 31) (L1 := [some (.ref 153), some (.int w1), some (.int x2), some (.int (x3 + 1))]) (st1 := []) (fun _ _ => rfl) ?_
  exact ih h
noncomputable def wX11_quarrel_h31 (x2 : Int32) (s : wS) : Nat → Int32 → Option ((Unit) ⊕ (Int32))
  | 0, _ => none
  | n + 1, x3 => if x3 < (s.1 163 3) then ((wX11_isLookedAt x2 s).bind fun t11 => if t11 = 0 then (wX11_quarrel_j73 (wX11_quarrel_h31 x2 s n) x2 x3 s) else ((wX11_isLookedAt x3 s).bind fun t14 => if t14 = 0 then (wX11_quarrel_j73 (wX11_quarrel_h31 x2 s n) x2 x3 s) else ((wX11_areTrueTogether x2 x3 s).bind fun t17 => if t17 = 0 then (some (.inr x3)) else (wX11_quarrel_j73 (wX11_quarrel_h31 x2 s n) x2 x3 s)))) else (some (.inl ()))
theorem wX11_quarrel_t31 {x2 : Int32} {s : wS} {x : (Unit) ⊕ (Int32)} {r : ri_R} (he79 : ∀ (w1 : Int32) (w3 : Int32) , x = .inl () → gRun 4 248 79 [some (.ref 153), some (.int w1), some (.int x2), some (.int w3)] [] (wmk s) r) (he66 : ∀ (x3 : Int32) (w1 : Int32) , x = .inr x3 → gRun 4 248 66 [some (.ref 153), some (.int w1), some (.int x2), some (.int x3)] [] (wmk s) r) : ∀ {n : Nat} {x3 : Int32} {w1 : Int32} , wX11_quarrel_h31 x2 s n x3 = some x → gRun 4 248 31 [some (.ref 153), some (.int w1), some (.int x2), some (.int x3)] [] (wmk s) r := by
  intro n
  induction n with
  | zero => intro x3 w1 h; cases (show (none : Option ((Unit) ⊕ (Int32))) = some x from h)
  | succ n ih =>
    intro x3 w1 h
    rw [wX11_quarrel_h31] at h
    refine gR_go 2 (pc1 := 33) (L1 := [some (.ref 153), some (.int w1), some (.int x2), some (.int x3)]) (st1 := [.ref 153, .int x3]) (fun _ _ => rfl) ?_
    refine gR_gfR (k := 152) (k' := 163) rfl rfl rfl rfl ?_
    refine gR_go 1 (pc1 := 37) (L1 := [some (.ref 153), some (.int w1), some (.int x2), some (.int x3)]) (st1 := [.int 3, .ref 164, .int x3]) (fun _ _ => rfl) ?_
    refine gR_ialc (k := 163) (j := 3) rfl rfl rfl (by decide) rfl ?_
    rcases gif h with ⟨c10, h⟩ | ⟨c10, h⟩
    · refine gR_ic_ge_f rfl c10 ?_
      refine gR_go 2 (pc1 := 43) (L1 := [some (.ref 153), some (.int w1), some (.int x2), some (.int x3)]) (st1 := [.int x2, .ref 153]) (fun _ _ => rfl) ?_
      obtain ⟨t11, e12, h⟩ := gb h
      refine gR_cvI (wX11_isLookedAt_s e12) (Nat.le_of_ble_eq_true rfl) rfl rfl rfl rfl rfl ?_
      rcases gif h with ⟨c13, h⟩ | ⟨c13, h⟩
      · refine gR_iz_eq_j rfl c13 rfl ?_
        exact wX11_quarrel_u73 ih he79 he66 h
      · refine gR_iz_eq_f rfl c13 ?_
        refine gR_go 2 (pc1 := 51) (L1 := [some (.ref 153), some (.int w1), some (.int x2), some (.int x3)]) (st1 := [.int x3, .ref 153]) (fun _ _ => rfl) ?_
        obtain ⟨t14, e15, h⟩ := gb h
        refine gR_cvI (wX11_isLookedAt_s e15) (Nat.le_of_ble_eq_true rfl) rfl rfl rfl rfl rfl ?_
        rcases gif h with ⟨c16, h⟩ | ⟨c16, h⟩
        · refine gR_iz_eq_j rfl c16 rfl ?_
          exact wX11_quarrel_u73 ih he79 he66 h
        · refine gR_iz_eq_f rfl c16 ?_
          refine gR_go 3 (pc1 := 60) (L1 := [some (.ref 153), some (.int w1), some (.int x2), some (.int x3)]) (st1 := [.int x3, .int x2, .ref 153]) (fun _ _ => rfl) ?_
          obtain ⟨t17, e18, h⟩ := gb h
          refine gR_cvI (wX11_areTrueTogether_s e18) (Nat.le_of_ble_eq_true rfl) rfl rfl rfl rfl rfl ?_
          rcases gif h with ⟨c19, h⟩ | ⟨c19, h⟩
          · refine gR_iz_ne_f rfl c19 ?_
            exact he66 _ _ (Option.some.inj h).symm
          · refine gR_iz_ne_j rfl c19 rfl ?_
            exact wX11_quarrel_u73 ih he79 he66 h
    · refine gR_ic_ge_j rfl c10 rfl ?_
      exact he79 _ _ (Option.some.inj h).symm
noncomputable def wX11_quarrel_h17 (s : wS) : Nat → Int32 → Option ((Unit) ⊕ (Int32 × Int32))
  | 0, _ => none
  | n + 1, x2 => if x2 < (s.1 163 3) then ((wX11_quarrel_h31 x2 s wFuel (x2 + 1)).bind fun z20 => (match z20 with | .inl () => wX11_quarrel_h17 s n (x2 + 1) | .inr t23 => some (.inr (x2, t23)))) else (some (.inl ()))
theorem wX11_quarrel_t17 {s : wS} {x : (Unit) ⊕ (Int32 × Int32)} {r : ri_R} (he85 : ∀ (w1 : Int32) (w2 : Int32) (w3 : Option Value) , x = .inl () → gRun 4 248 85 [some (.ref 153), some (.int w1), some (.int w2), w3] [] (wmk s) r) (he66 : ∀ (x2 : Int32) (x3 : Int32) (w1 : Int32) , x = .inr (x2, x3) → gRun 4 248 66 [some (.ref 153), some (.int w1), some (.int x2), some (.int x3)] [] (wmk s) r) : ∀ {n : Nat} {x2 : Int32} {w1 : Int32} {w3 : Option Value} , wX11_quarrel_h17 s n x2 = some x → gRun 4 248 17 [some (.ref 153), some (.int w1), some (.int x2), w3] [] (wmk s) r := by
  intro n
  induction n with
  | zero => intro x2 w1 w3 h; cases (show (none : Option ((Unit) ⊕ (Int32 × Int32))) = some x from h)
  | succ n ih =>
    intro x2 w1 w3 h
    rw [wX11_quarrel_h17] at h
    refine gR_go 2 (pc1 := 19) (L1 := [some (.ref 153), some (.int w1), some (.int x2), w3]) (st1 := [.ref 153, .int x2]) (fun _ _ => rfl) ?_
    refine gR_gfR (k := 152) (k' := 163) rfl rfl rfl rfl ?_
    refine gR_go 1 (pc1 := 23) (L1 := [some (.ref 153), some (.int w1), some (.int x2), w3]) (st1 := [.int 3, .ref 164, .int x2]) (fun _ _ => rfl) ?_
    refine gR_ialc (k := 163) (j := 3) rfl rfl rfl (by decide) rfl ?_
    rcases gif h with ⟨c8, h⟩ | ⟨c8, h⟩
    · refine gR_ic_ge_f rfl c8 ?_
      refine gR_go 4 (pc1 := 31) (L1 := [some (.ref 153), some (.int w1), some (.int x2), some (.int (x2 + 1))]) (st1 := []) (fun _ _ => rfl) ?_
      obtain ⟨z20, ez20, h⟩ := gb h
      refine wX11_quarrel_t31 ?_ ?_  ez20
      · intro w21 w22 hz
        replace hz := hz.symm
        subst hz
        dsimp only at h
        refine gR_go 2 (pc1 := 17) (L1 := [some (.ref 153), some (.int w21), some (.int (x2 + 1)), some (.int w22)]) (st1 := []) (fun _ _ => rfl) ?_
        exact ih h
      · intro t23 w24 hz
        replace hz := hz.symm
        subst hz
        dsimp only at h
        exact he66 _ _ _ (Option.some.inj h).symm
    · refine gR_ic_ge_j rfl c8 rfl ?_
      exact he85 _ _ _ (Option.some.inj h).symm
noncomputable def wX11_quarrel (x1 : Int32) (s : wS) : Option (Int32 × wS) := (wX11_canAsk x1 s).bind fun t1 => if t1 = 0 then (some ((-1), s)) else ((wX11_reaches x1 s).bind fun s5 => (wX11_quarrel_h17 s5 wFuel 0).bind fun z25 => (match z25 with | .inl () => some (((Int8.ofInt (-2)).toInt32), s5) | .inr (t29, t30) => some (((64 * t29) + t30), s5)))
theorem wX11_quarrel_s {x1 : Int32} {s : wS} {rv : Int32} {rs : wS} (h : wX11_quarrel x1 s = some (rv, rs)) : gEv 5 248 [.ref 153, .int x1] (wmk s) (some (.int rv), wmk rs, 0, 0) := by
  refine gEv_of (d := 4) (L := [some (.ref 153), some (.int x1), none, none]) rfl ?_
  unfold wX11_quarrel at h
  refine gR_go 2 (pc1 := 2) (L1 := [some (.ref 153), some (.int x1), none, none]) (st1 := [.int x1, .ref 153]) (fun _ _ => rfl) ?_
  obtain ⟨t1, e2, h⟩ := gb h
  refine gR_cvI (wX11_canAsk_s e2) (Nat.le_of_ble_eq_true rfl) rfl rfl rfl rfl rfl ?_
  rcases gif h with ⟨c3, h⟩ | ⟨c3, h⟩
  · refine gR_iz_ne_f rfl c3 ?_
    refine gR_go 1 (pc1 := 9) (L1 := [some (.ref 153), some (.int x1), none, none]) (st1 := [.int (-1)]) (fun _ _ => rfl) ?_
    obtain ⟨rfl, rfl⟩ := gi2 h
    exact gR_ri rfl rfl
  · refine gR_iz_ne_j rfl c3 rfl ?_
    refine gR_go 2 (pc1 := 12) (L1 := [some (.ref 153), some (.int x1), none, none]) (st1 := [.int x1, .ref 153]) (fun _ _ => rfl) ?_
    obtain ⟨s5, e6, h⟩ := gb h
    refine gR_cvV (wX11_reaches_s e6) (Nat.le_of_ble_eq_true rfl) rfl rfl rfl rfl rfl ?_
    refine gR_go 2 (pc1 := 17) (L1 := [some (.ref 153), some (.int x1), some (.int 0), none]) (st1 := []) (fun _ _ => rfl) ?_
    obtain ⟨z25, ez25, h⟩ := gb h
    refine wX11_quarrel_t17 ?_ ?_  ez25
    · intro w26 w27 w28 hz
      replace hz := hz.symm
      subst hz
      dsimp only at h
      refine gR_go 1 (pc1 := 87) (L1 := [some (.ref 153), some (.int w26), some (.int w27), w28]) (st1 := [.int ((Int8.ofInt (-2)).toInt32)]) (fun _ _ => rfl) ?_
      obtain ⟨rfl, rfl⟩ := gi2 h
      exact gR_ri rfl rfl
    · intro t29 t30 w31 hz
      replace hz := hz.symm
      subst hz
      dsimp only at h
      refine gR_go 5 (pc1 := 72) (L1 := [some (.ref 153), some (.int w31), some (.int t29), some (.int t30)]) (st1 := [.int ((64 * t29) + t30)]) (fun _ _ => rfl) ?_
      obtain ⟨rfl, rfl⟩ := gi2 h
      exact gR_ri rfl rfl
noncomputable def wX11_twelve_h4 (x1 : Int32) : Nat → Int32 → wS → Option (wS)
  | 0, _, _ => none
  | n + 1, x2, s => (wX11_worlds s).bind fun t1 => if x2 < t1 then ((wstI s 166 512 x2 0).bind fun s4 => wX11_twelve_h4 x1 n (x2 + 1) s4) else (some s)
theorem wX11_twelve_t4 {x1 : Int32} {x : wS} {r : ri_R} (he25 : ∀ (s : wS) (w2 : Int32) (w3 : Option Value) , x = s → gRun 3 249 25 [some (.ref 153), some (.int x1), some (.int w2), w3] [] (wmk s) r) : ∀ {n : Nat} {x2 : Int32} {s : wS} {w3 : Option Value} , wX11_twelve_h4 x1 n x2 s = some x → gRun 3 249 4 [some (.ref 153), some (.int x1), some (.int x2), w3] [] (wmk s) r := by
  intro n
  induction n with
  | zero => intro x2 s w3 h; cases (show (none : Option (wS)) = some x from h)
  | succ n ih =>
    intro x2 s w3 h
    rw [wX11_twelve_h4] at h
    refine gR_go 2 (pc1 := 6) (L1 := [some (.ref 153), some (.int x1), some (.int x2), w3]) (st1 := [.ref 153, .int x2]) (fun _ _ => rfl) ?_
    obtain ⟨t1, e2, h⟩ := gb h
    refine gR_cvI (wX11_worlds_s e2) (Nat.le_of_ble_eq_true rfl) rfl rfl rfl rfl rfl ?_
    rcases gif h with ⟨c3, h⟩ | ⟨c3, h⟩
    · refine gR_ic_ge_f rfl c3 ?_
      refine gR_go 1 (pc1 := 13) (L1 := [some (.ref 153), some (.int x1), some (.int x2), w3]) (st1 := [.ref 153]) (fun _ _ => rfl) ?_
      refine gR_gfR (k := 152) (k' := 166) rfl rfl rfl rfl ?_
      refine gR_go 2 (pc1 := 18) (L1 := [some (.ref 153), some (.int x1), some (.int x2), w3]) (st1 := [.int 0, .int x2, .ref 167]) (fun _ _ => rfl) ?_
      obtain ⟨s4, es4, h⟩ := gb h
      refine gR_ias (k := 166) rfl rfl rfl es4 ?_
      refine gR_go 2 (pc1 := 4) (L1 := [some (.ref 153), some (.int x1), some (.int (x2 + 1)), w3]) (st1 := []) (fun _ _ => rfl) ?_
      exact ih h
    · refine gR_ic_ge_j rfl c3 rfl ?_
      exact he25 _ _ _ (Option.some.inj h).symm
noncomputable def wX11_twelve_j98 (qq : Int32 → Int32 → wS → Option (Int32 × wS)) (x1 : Int32) (x2 : Int32) (s : wS) : Option (Int32 × wS) := qq x1 (x2 + 1) s
theorem wX11_twelve_u98 {x1 : Int32} {x2 : Int32} {s : wS} {w3 : Option Value} {qq : Int32 → Int32 → wS → Option (Int32 × wS)} {x : Int32 × wS} {r : ri_R} (ih : ∀ {x1 : Int32} {x2 : Int32} {s : wS} {w3 : Option Value} , qq x1 x2 s = some x → gRun 3 249 27 [some (.ref 153), some (.int x1), some (.int x2), w3] [] (wmk s) r) (he104 : ∀ (x1 : Int32) (s : wS) (w2 : Int32) (w3 : Option Value) , x = (x1, s) → gRun 3 249 104 [some (.ref 153), some (.int x1), some (.int w2), w3] [] (wmk s) r) (h : wX11_twelve_j98 qq x1 x2 s = some x) : gRun 3 249 98 [some (.ref 153), some (.int x1), some (.int x2), w3] [] (wmk s) r := by
  unfold wX11_twelve_j98 at h
  refine gR_go 2 (pc1 := 27) (L1 := [some (.ref 153), some (.int x1), some (.int (x2 + 1)), w3]) (st1 := []) (fun _ _ => rfl) ?_
  exact ih h
noncomputable def wX11_twelve_j87 (qq : Int32 → wS → Option (wS)) (x1 : Int32) (x2 : Int32) (x3 : Int32) (y1 : Int32) (y2 : Int32) (y3 : Int32) (s : wS) : Option (wS) := (wstI s 166 512 y1 (y2 ||| y3)).bind fun s22 => qq (x3 + 1) s22
theorem wX11_twelve_u87 {x1 : Int32} {x2 : Int32} {x3 : Int32} {y1 : Int32} {y2 : Int32} {y3 : Int32} {s : wS} {qq : Int32 → wS → Option (wS)} {x : wS} {r : ri_R} (ih : ∀ {x3 : Int32} {s : wS} , qq x3 s = some x → gRun 3 249 56 [some (.ref 153), some (.int x1), some (.int x2), some (.int x3)] [] (wmk s) r) (he95 : ∀ (s : wS) (w3 : Int32) , x = s → gRun 3 249 95 [some (.ref 153), some (.int x1), some (.int x2), some (.int w3)] [] (wmk s) r) (h : wX11_twelve_j87 qq x1 x2 x3 y1 y2 y3 s = some x) : gRun 3 249 87 [some (.ref 153), some (.int x1), some (.int x2), some (.int x3)] [.int y3, .int y2, .int y1, .ref 167] (wmk s) r := by
  unfold wX11_twelve_j87 at h
  refine gR_go 1 (pc1 := 88) (L1 := [some (.ref 153), some (.int x1), some (.int x2), some (.int x3)]) (st1 := [.int (y2 ||| y3), .int y1, .ref 167]) (fun _ _ => rfl) ?_
  obtain ⟨s22, es22, h⟩ := gb h
  refine gR_ias (k := 166) rfl rfl rfl es22 ?_
  refine gR_go 2 (pc1 := 56) (L1 := [some (.ref 153), some (.int x1), some (.int x2), some (.int (x3 + 1))]) (st1 := []) (fun _ _ => rfl) ?_
  exact ih h
noncomputable def wX11_twelve_h56 (x1 : Int32) (x2 : Int32) : Nat → Int32 → wS → Option (wS)
  | 0, _, _ => none
  | n + 1, x3, s => (wX11_worlds s).bind fun t15 => if x3 < t15 then ((wldI s 166 512 x3).bind fun t18 => (wX11_isTrue x2 x3 s).bind fun t19 => if t19 = 0 then (wX11_twelve_j87 (wX11_twelve_h56 x1 x2 n) x1 x2 x3 x3 t18 0 s) else (wX11_twelve_j87 (wX11_twelve_h56 x1 x2 n) x1 x2 x3 x3 t18 (1 <<< (x1 &&& 31)) s)) else (some s)
theorem wX11_twelve_t56 {x1 : Int32} {x2 : Int32} {x : wS} {r : ri_R} (he95 : ∀ (s : wS) (w3 : Int32) , x = s → gRun 3 249 95 [some (.ref 153), some (.int x1), some (.int x2), some (.int w3)] [] (wmk s) r) : ∀ {n : Nat} {x3 : Int32} {s : wS} , wX11_twelve_h56 x1 x2 n x3 s = some x → gRun 3 249 56 [some (.ref 153), some (.int x1), some (.int x2), some (.int x3)] [] (wmk s) r := by
  intro n
  induction n with
  | zero => intro x3 s h; cases (show (none : Option (wS)) = some x from h)
  | succ n ih =>
    intro x3 s h
    rw [wX11_twelve_h56] at h
    refine gR_go 2 (pc1 := 58) (L1 := [some (.ref 153), some (.int x1), some (.int x2), some (.int x3)]) (st1 := [.ref 153, .int x3]) (fun _ _ => rfl) ?_
    obtain ⟨t15, e16, h⟩ := gb h
    refine gR_cvI (wX11_worlds_s e16) (Nat.le_of_ble_eq_true rfl) rfl rfl rfl rfl rfl ?_
    rcases gif h with ⟨c17, h⟩ | ⟨c17, h⟩
    · refine gR_ic_ge_f rfl c17 ?_
      refine gR_go 1 (pc1 := 65) (L1 := [some (.ref 153), some (.int x1), some (.int x2), some (.int x3)]) (st1 := [.ref 153]) (fun _ _ => rfl) ?_
      refine gR_gfR (k := 152) (k' := 166) rfl rfl rfl rfl ?_
      refine gR_go 2 (pc1 := 70) (L1 := [some (.ref 153), some (.int x1), some (.int x2), some (.int x3)]) (st1 := [.int x3, .ref 167, .int x3, .ref 167]) (fun _ _ => rfl) ?_
      obtain ⟨t18, et18, h⟩ := gb h
      refine gR_ial (k := 166) rfl rfl rfl et18 ?_
      refine gR_go 3 (pc1 := 74) (L1 := [some (.ref 153), some (.int x1), some (.int x2), some (.int x3)]) (st1 := [.int x3, .int x2, .ref 153, .int t18, .int x3, .ref 167]) (fun _ _ => rfl) ?_
      obtain ⟨t19, e20, h⟩ := gb h
      refine gR_cvI (wX11_isTrue_s e20) (Nat.le_of_ble_eq_true rfl) rfl rfl rfl rfl rfl ?_
      rcases gif h with ⟨c21, h⟩ | ⟨c21, h⟩
      · refine gR_iz_eq_j rfl c21 rfl ?_
        refine gR_go 1 (pc1 := 87) (L1 := [some (.ref 153), some (.int x1), some (.int x2), some (.int x3)]) (st1 := [.int 0, .int t18, .int x3, .ref 167]) (fun _ _ => rfl) ?_
        exact wX11_twelve_u87 ih he95 h
      · refine gR_iz_eq_f rfl c21 ?_
        refine gR_go 4 (pc1 := 87) (L1 := [some (.ref 153), some (.int x1), some (.int x2), some (.int x3)]) (st1 := [.int (1 <<< (x1 &&& 31)), .int t18, .int x3, .ref 167]) (fun _ _ => rfl) ?_
        exact wX11_twelve_u87 ih he95 h
    · refine gR_ic_ge_j rfl c17 rfl ?_
      exact he95 _ _ (Option.some.inj h).symm
noncomputable def wX11_twelve_h27 : Nat → Int32 → Int32 → wS → Option (Int32 × wS)
  | 0, _, _, _ => none
  | n + 1, x1, x2, s => if x2 < (s.1 163 3) then (if x1 < 12 then ((wX11_isLookedAt x2 s).bind fun t12 => if t12 = 0 then (wX11_twelve_j98 (wX11_twelve_h27 n) x1 x2 s) else ((wX11_twelve_h56 x1 x2 wFuel 0 s).bind fun s24 => wX11_twelve_j98 (wX11_twelve_h27 n) (x1 + 1) x2 s24)) else (some (x1, s))) else (some (x1, s))
theorem wX11_twelve_t27 {x : Int32 × wS} {r : ri_R} (he104 : ∀ (x1 : Int32) (s : wS) (w2 : Int32) (w3 : Option Value) , x = (x1, s) → gRun 3 249 104 [some (.ref 153), some (.int x1), some (.int w2), w3] [] (wmk s) r) : ∀ {n : Nat} {x1 : Int32} {x2 : Int32} {s : wS} {w3 : Option Value} , wX11_twelve_h27 n x1 x2 s = some x → gRun 3 249 27 [some (.ref 153), some (.int x1), some (.int x2), w3] [] (wmk s) r := by
  intro n
  induction n with
  | zero => intro x1 x2 s w3 h; cases (show (none : Option (Int32 × wS)) = some x from h)
  | succ n ih =>
    intro x1 x2 s w3 h
    rw [wX11_twelve_h27] at h
    refine gR_go 2 (pc1 := 29) (L1 := [some (.ref 153), some (.int x1), some (.int x2), w3]) (st1 := [.ref 153, .int x2]) (fun _ _ => rfl) ?_
    refine gR_gfR (k := 152) (k' := 163) rfl rfl rfl rfl ?_
    refine gR_go 1 (pc1 := 33) (L1 := [some (.ref 153), some (.int x1), some (.int x2), w3]) (st1 := [.int 3, .ref 164, .int x2]) (fun _ _ => rfl) ?_
    refine gR_ialc (k := 163) (j := 3) rfl rfl rfl (by decide) rfl ?_
    rcases gif h with ⟨c10, h⟩ | ⟨c10, h⟩
    · refine gR_ic_ge_f rfl c10 ?_
      refine gR_go 2 (pc1 := 40) (L1 := [some (.ref 153), some (.int x1), some (.int x2), w3]) (st1 := [.int 12, .int x1]) (fun _ _ => rfl) ?_
      rcases gif h with ⟨c11, h⟩ | ⟨c11, h⟩
      · refine gR_ic_ge_f rfl c11 ?_
        refine gR_go 2 (pc1 := 45) (L1 := [some (.ref 153), some (.int x1), some (.int x2), w3]) (st1 := [.int x2, .ref 153]) (fun _ _ => rfl) ?_
        obtain ⟨t12, e13, h⟩ := gb h
        refine gR_cvI (wX11_isLookedAt_s e13) (Nat.le_of_ble_eq_true rfl) rfl rfl rfl rfl rfl ?_
        rcases gif h with ⟨c14, h⟩ | ⟨c14, h⟩
        · refine gR_iz_ne_f rfl c14 ?_
          refine gR_go 1 (pc1 := 98) (L1 := [some (.ref 153), some (.int x1), some (.int x2), w3]) (st1 := []) (fun _ _ => rfl) ?_
          exact wX11_twelve_u98 ih he104 h
        · refine gR_iz_ne_j rfl c14 rfl ?_
          refine gR_go 2 (pc1 := 56) (L1 := [some (.ref 153), some (.int x1), some (.int x2), some (.int 0)]) (st1 := []) (fun _ _ => rfl) ?_
          obtain ⟨z23, ez23, h⟩ := gb h
          refine wX11_twelve_t56 ?_  ez23
          · intro s24 w25 hz
            replace hz := hz.symm
            subst hz
            refine gR_go 1 (pc1 := 98) (L1 := [some (.ref 153), some (.int (x1 + 1)), some (.int x2), some (.int w25)]) (st1 := []) (fun _ _ => rfl) ?_
            exact wX11_twelve_u98 ih he104 h
      · refine gR_ic_ge_j rfl c11 rfl ?_
        exact he104 _ _ _ _ (Option.some.inj h).symm
    · refine gR_ic_ge_j rfl c10 rfl ?_
      exact he104 _ _ _ _ (Option.some.inj h).symm
noncomputable def wX11_twelve (s : wS) : Option (Int32 × wS) := (wX11_twelve_h4 0 wFuel 0 s).bind fun s6 => (wX11_twelve_h27 wFuel 0 0 s6).bind fun (t27, s28) => some (t27, s28)
theorem wX11_twelve_s {s : wS} {rv : Int32} {rs : wS} (h : wX11_twelve s = some (rv, rs)) : gEv 4 249 [.ref 153] (wmk s) (some (.int rv), wmk rs, 0, 0) := by
  refine gEv_of (d := 3) (L := [some (.ref 153), none, none, none]) rfl ?_
  unfold wX11_twelve at h
  refine gR_go 4 (pc1 := 4) (L1 := [some (.ref 153), some (.int 0), some (.int 0), none]) (st1 := []) (fun _ _ => rfl) ?_
  obtain ⟨z5, ez5, h⟩ := gb h
  refine wX11_twelve_t4 ?_  ez5
  · intro s6 w7 w8 hz
    replace hz := hz.symm
    subst hz
    refine gR_go 2 (pc1 := 27) (L1 := [some (.ref 153), some (.int 0), some (.int 0), w8]) (st1 := []) (fun _ _ => rfl) ?_
    obtain ⟨z26, ez26, h⟩ := gb h
    refine wX11_twelve_t27 ?_  ez26
    · intro t27 s28 w29 w30 hz
      replace hz := hz.symm
      subst hz
      dsimp only at h
      refine gR_go 1 (pc1 := 105) (L1 := [some (.ref 153), some (.int t27), some (.int w29), w30]) (st1 := [.int t27]) (fun _ _ => rfl) ?_
      obtain ⟨rfl, rfl⟩ := gi2 h
      exact gR_ri rfl rfl
noncomputable def wX11_proves_j45 (qq : Int32 → Int32 → Option ((Int32) ⊕ (Unit))) (x1 : Int32) (x2 : Int32) (x3 : Int32) (x4 : Int32) (s : wS) : Option ((Int32) ⊕ (Unit)) := qq x3 (x4 + 1)
theorem wX11_proves_u45 {x1 : Int32} {x2 : Int32} {x3 : Int32} {x4 : Int32} {s : wS} {qq : Int32 → Int32 → Option ((Int32) ⊕ (Unit))} {x : (Int32) ⊕ (Unit)} {r : ri_R} (ih : ∀ {x3 : Int32} {x4 : Int32} , qq x3 x4 = some x → gRun 1 250 5 [some (.ref 153), some (.int x1), some (.int x2), some (.int x3), some (.int x4)] [] (wmk s) r) (he51 : ∀ (x3 : Int32) (w1 : Int32) (w2 : Int32) (w4 : Int32) , x = .inl x3 → gRun 1 250 51 [some (.ref 153), some (.int w1), some (.int w2), some (.int x3), some (.int w4)] [] (wmk s) r) (he41 : ∀ (w1 : Int32) (w2 : Int32) (w3 : Int32) (w4 : Int32) , x = .inr () → gRun 1 250 41 [some (.ref 153), some (.int w1), some (.int w2), some (.int w3), some (.int w4)] [] (wmk s) r) (h : wX11_proves_j45 qq x1 x2 x3 x4 s = some x) : gRun 1 250 45 [some (.ref 153), some (.int x1), some (.int x2), some (.int x3), some (.int x4)] [] (wmk s) r := by
  unfold wX11_proves_j45 at h
  refine gR_go 2 (pc1 := 5) (L1 := [some (.ref 153), some (.int x1), some (.int x2), some (.int x3), some (.int (x4 + 1))]) (st1 := []) (fun _ _ => rfl) ?_
  exact ih h
noncomputable def wX11_proves_h5 (x1 : Int32) (x2 : Int32) (s : wS) : Nat → Int32 → Int32 → Option ((Int32) ⊕ (Unit))
  | 0, _, _ => none
  | n + 1, x3, x4 => (wX11_worlds s).bind fun t1 => if x4 < t1 then ((wldI s 166 512 x4).bind fun t4 => if (t4 &&& x1) = x1 then ((wX11_thingOf x4 2 s).bind fun t6 => if t6 = x2 then (wX11_proves_j45 (wX11_proves_h5 x1 x2 s n) x1 x2 1 x4 s) else (some (.inr ()))) else (wX11_proves_j45 (wX11_proves_h5 x1 x2 s n) x1 x2 x3 x4 s)) else (some (.inl x3))
theorem wX11_proves_t5 {x1 : Int32} {x2 : Int32} {s : wS} {x : (Int32) ⊕ (Unit)} {r : ri_R} (he51 : ∀ (x3 : Int32) (w1 : Int32) (w2 : Int32) (w4 : Int32) , x = .inl x3 → gRun 1 250 51 [some (.ref 153), some (.int w1), some (.int w2), some (.int x3), some (.int w4)] [] (wmk s) r) (he41 : ∀ (w1 : Int32) (w2 : Int32) (w3 : Int32) (w4 : Int32) , x = .inr () → gRun 1 250 41 [some (.ref 153), some (.int w1), some (.int w2), some (.int w3), some (.int w4)] [] (wmk s) r) : ∀ {n : Nat} {x3 : Int32} {x4 : Int32} , wX11_proves_h5 x1 x2 s n x3 x4 = some x → gRun 1 250 5 [some (.ref 153), some (.int x1), some (.int x2), some (.int x3), some (.int x4)] [] (wmk s) r := by
  intro n
  induction n with
  | zero => intro x3 x4 h; cases (show (none : Option ((Int32) ⊕ (Unit))) = some x from h)
  | succ n ih =>
    intro x3 x4 h
    rw [wX11_proves_h5] at h
    refine gR_go 2 (pc1 := 8) (L1 := [some (.ref 153), some (.int x1), some (.int x2), some (.int x3), some (.int x4)]) (st1 := [.ref 153, .int x4]) (fun _ _ => rfl) ?_
    obtain ⟨t1, e2, h⟩ := gb h
    refine gR_cvI (wX11_worlds_s e2) (Nat.le_of_ble_eq_true rfl) rfl rfl rfl rfl rfl ?_
    rcases gif h with ⟨c3, h⟩ | ⟨c3, h⟩
    · refine gR_ic_ge_f rfl c3 ?_
      refine gR_go 1 (pc1 := 15) (L1 := [some (.ref 153), some (.int x1), some (.int x2), some (.int x3), some (.int x4)]) (st1 := [.ref 153]) (fun _ _ => rfl) ?_
      refine gR_gfR (k := 152) (k' := 166) rfl rfl rfl rfl ?_
      refine gR_go 1 (pc1 := 20) (L1 := [some (.ref 153), some (.int x1), some (.int x2), some (.int x3), some (.int x4)]) (st1 := [.int x4, .ref 167]) (fun _ _ => rfl) ?_
      obtain ⟨t4, et4, h⟩ := gb h
      refine gR_ial (k := 166) rfl rfl rfl et4 ?_
      refine gR_go 3 (pc1 := 24) (L1 := [some (.ref 153), some (.int x1), some (.int x2), some (.int x3), some (.int x4)]) (st1 := [.int x1, .int (t4 &&& x1)]) (fun _ _ => rfl) ?_
      rcases gif h with ⟨c5, h⟩ | ⟨c5, h⟩
      · refine gR_ic_eq_j rfl c5 rfl ?_
        refine gR_go 3 (pc1 := 34) (L1 := [some (.ref 153), some (.int x1), some (.int x2), some (.int x3), some (.int x4)]) (st1 := [.int 2, .int x4, .ref 153]) (fun _ _ => rfl) ?_
        obtain ⟨t6, e7, h⟩ := gb h
        refine gR_cvI (wX11_thingOf_s e7) (Nat.le_of_ble_eq_true rfl) rfl rfl rfl rfl rfl ?_
        refine gR_go 1 (pc1 := 38) (L1 := [some (.ref 153), some (.int x1), some (.int x2), some (.int x3), some (.int x4)]) (st1 := [.int x2, .int t6]) (fun _ _ => rfl) ?_
        rcases gif h with ⟨c8, h⟩ | ⟨c8, h⟩
        · refine gR_ic_eq_j rfl c8 rfl ?_
          refine gR_go 2 (pc1 := 45) (L1 := [some (.ref 153), some (.int x1), some (.int x2), some (.int 1), some (.int x4)]) (st1 := []) (fun _ _ => rfl) ?_
          exact wX11_proves_u45 ih he51 he41 h
        · refine gR_ic_eq_f rfl c8 ?_
          exact he41 _ _ _ _ (Option.some.inj h).symm
      · refine gR_ic_eq_f rfl c5 ?_
        refine gR_go 1 (pc1 := 45) (L1 := [some (.ref 153), some (.int x1), some (.int x2), some (.int x3), some (.int x4)]) (st1 := []) (fun _ _ => rfl) ?_
        exact wX11_proves_u45 ih he51 he41 h
    · refine gR_ic_ge_j rfl c3 rfl ?_
      exact he51 _ _ _ _ (Option.some.inj h).symm
noncomputable def wX11_proves (x1 : Int32) (x2 : Int32) (s : wS) : Option (Int32) := (wX11_proves_h5 x1 x2 s wFuel 0 0).bind fun z9 => (match z9 with | .inl t10 => wrtZ t10 | .inr () => some 0)
theorem wX11_proves_s {x1 : Int32} {x2 : Int32} {s : wS} {rv : Int32} (h : wX11_proves x1 x2 s = some rv) : gEv 2 250 [.ref 153, .int x1, .int x2] (wmk s) (some (.int rv), wmk s, 0, 0) := by
  refine gEv_of (d := 1) (L := [some (.ref 153), some (.int x1), some (.int x2), none, none]) rfl ?_
  unfold wX11_proves at h
  refine gR_go 4 (pc1 := 5) (L1 := [some (.ref 153), some (.int x1), some (.int x2), some (.int 0), some (.int 0)]) (st1 := []) (fun _ _ => rfl) ?_
  obtain ⟨z9, ez9, h⟩ := gb h
  refine wX11_proves_t5 ?_ ?_  ez9
  · intro t10 w11 w12 w13 hz
    replace hz := hz.symm
    subst hz
    dsimp only at h
    refine gR_go 1 (pc1 := 52) (L1 := [some (.ref 153), some (.int w11), some (.int w12), some (.int t10), some (.int w13)]) (st1 := [.int t10]) (fun _ _ => rfl) ?_
    exact gR_rz rfl rfl h
  · intro w14 w15 w16 w17 hz
    replace hz := hz.symm
    subst hz
    dsimp only at h
    refine gR_go 1 (pc1 := 42) (L1 := [some (.ref 153), some (.int w14), some (.int w15), some (.int w16), some (.int w17)]) (st1 := [.int 0]) (fun _ _ => rfl) ?_
    obtain rfl := gi1 h
    exact gR_rzc rfl rfl rfl
noncomputable def wX11_proof_j78 (qq : Int32 → Int32 → Option (Int32)) (x2 : Int32) (x3 : Int32) (x4 : Int32) (x5 : Int32) (s : wS) : Option (Int32) := qq x4 (x5 + 1)
theorem wX11_proof_u78 {x2 : Int32} {x3 : Int32} {x4 : Int32} {x5 : Int32} {s : wS} {w1 : Int32} {qq : Int32 → Int32 → Option (Int32)} {x : Int32} {r : ri_R} (ih : ∀ {x4 : Int32} {x5 : Int32} {w1 : Int32} , qq x4 x5 = some x → gRun 4 251 36 [some (.ref 153), some (.int w1), some (.int x2), some (.int x3), some (.int x4), some (.int x5)] [] (wmk s) r) (he84 : ∀ (x4 : Int32) (w1 : Int32) (w2 : Int32) (w3 : Int32) (w5 : Int32) , x = x4 → gRun 4 251 84 [some (.ref 153), some (.int w1), some (.int w2), some (.int w3), some (.int x4), some (.int w5)] [] (wmk s) r) (h : wX11_proof_j78 qq x2 x3 x4 x5 s = some x) : gRun 4 251 78 [some (.ref 153), some (.int w1), some (.int x2), some (.int x3), some (.int x4), some (.int x5)] [] (wmk s) r := by
  unfold wX11_proof_j78 at h
  refine gR_go 2 (pc1 := 36) (L1 := [some (.ref 153), some (.int w1), some (.int x2), some (.int x3), some (.int x4), some (.int (x5 + 1))]) (st1 := []) (fun _ _ => rfl) ?_
  exact ih h
noncomputable def wX11_proof_j64 (qq : Int32 → Int32 → Option (Int32)) (x2 : Int32) (x3 : Int32) (x4 : Int32) (x5 : Int32) (s : wS) : Option (Int32) := (wX11_proves x5 x2 s).bind fun t15 => if t15 = 0 then (wX11_proof_j78 qq x2 x3 x4 x5 s) else (wX11_proof_j78 qq x2 x3 x5 x5 s)
theorem wX11_proof_u64 {x2 : Int32} {x3 : Int32} {x4 : Int32} {x5 : Int32} {s : wS} {w1 : Int32} {qq : Int32 → Int32 → Option (Int32)} {x : Int32} {r : ri_R} (ih : ∀ {x4 : Int32} {x5 : Int32} {w1 : Int32} , qq x4 x5 = some x → gRun 4 251 36 [some (.ref 153), some (.int w1), some (.int x2), some (.int x3), some (.int x4), some (.int x5)] [] (wmk s) r) (he84 : ∀ (x4 : Int32) (w1 : Int32) (w2 : Int32) (w3 : Int32) (w5 : Int32) , x = x4 → gRun 4 251 84 [some (.ref 153), some (.int w1), some (.int w2), some (.int w3), some (.int x4), some (.int w5)] [] (wmk s) r) (h : wX11_proof_j64 qq x2 x3 x4 x5 s = some x) : gRun 4 251 64 [some (.ref 153), some (.int w1), some (.int x2), some (.int x3), some (.int x4), some (.int x5)] [] (wmk s) r := by
  unfold wX11_proof_j64 at h
  refine gR_go 3 (pc1 := 68) (L1 := [some (.ref 153), some (.int w1), some (.int x2), some (.int x3), some (.int x4), some (.int x5)]) (st1 := [.int x2, .int x5, .ref 153]) (fun _ _ => rfl) ?_
  obtain ⟨t15, e16, h⟩ := gb h
  refine gR_cvI (wX11_proves_s e16) (Nat.le_of_ble_eq_true rfl) rfl rfl rfl rfl rfl ?_
  rcases gif h with ⟨c17, h⟩ | ⟨c17, h⟩
  · refine gR_iz_eq_j rfl c17 rfl ?_
    exact wX11_proof_u78 ih he84 h
  · refine gR_iz_eq_f rfl c17 ?_
    refine gR_go 2 (pc1 := 78) (L1 := [some (.ref 153), some (.int w1), some (.int x2), some (.int x3), some (.int x5), some (.int x5)]) (st1 := []) (fun _ _ => rfl) ?_
    exact wX11_proof_u78 ih he84 h
noncomputable def wX11_proof_h36 (x2 : Int32) (x3 : Int32) (s : wS) : Nat → Int32 → Int32 → Option (Int32)
  | 0, _, _ => none
  | n + 1, x4, x5 => if x5 < (1 <<< (x3 &&& 31)) then (if x4 < 0 then (wX11_proof_j64 (wX11_proof_h36 x2 x3 s n) x2 x3 x4 x5 s) else ((wX11_bits ((x5 : Int32).toInt64) s).bind fun t18 => (wX11_bits ((x4 : Int32).toInt64) s).bind fun t20 => if t18 < t20 then (wX11_proof_j64 (wX11_proof_h36 x2 x3 s n) x2 x3 x4 x5 s) else (wX11_proof_j78 (wX11_proof_h36 x2 x3 s n) x2 x3 x4 x5 s))) else (some x4)
theorem wX11_proof_t36 {x2 : Int32} {x3 : Int32} {s : wS} {x : Int32} {r : ri_R} (he84 : ∀ (x4 : Int32) (w1 : Int32) (w2 : Int32) (w3 : Int32) (w5 : Int32) , x = x4 → gRun 4 251 84 [some (.ref 153), some (.int w1), some (.int w2), some (.int w3), some (.int x4), some (.int w5)] [] (wmk s) r) : ∀ {n : Nat} {x4 : Int32} {x5 : Int32} {w1 : Int32} , wX11_proof_h36 x2 x3 s n x4 x5 = some x → gRun 4 251 36 [some (.ref 153), some (.int w1), some (.int x2), some (.int x3), some (.int x4), some (.int x5)] [] (wmk s) r := by
  intro n
  induction n with
  | zero => intro x4 x5 w1 h; cases (show (none : Option (Int32)) = some x from h)
  | succ n ih =>
    intro x4 x5 w1 h
    rw [wX11_proof_h36] at h
    refine gR_go 4 (pc1 := 41) (L1 := [some (.ref 153), some (.int w1), some (.int x2), some (.int x3), some (.int x4), some (.int x5)]) (st1 := [.int (1 <<< (x3 &&& 31)), .int x5]) (fun _ _ => rfl) ?_
    rcases gif h with ⟨c13, h⟩ | ⟨c13, h⟩
    · refine gR_ic_ge_f rfl c13 ?_
      refine gR_go 1 (pc1 := 46) (L1 := [some (.ref 153), some (.int w1), some (.int x2), some (.int x3), some (.int x4), some (.int x5)]) (st1 := [.int x4]) (fun _ _ => rfl) ?_
      rcases gif h with ⟨c14, h⟩ | ⟨c14, h⟩
      · refine gR_iz_lt_j rfl c14 rfl ?_
        exact wX11_proof_u64 ih he84 h
      · refine gR_iz_lt_f rfl c14 ?_
        refine gR_go 2 (pc1 := 52) (L1 := [some (.ref 153), some (.int w1), some (.int x2), some (.int x3), some (.int x4), some (.int x5)]) (st1 := [.long ((x5 : Int32).toInt64)]) (fun _ _ => rfl) ?_
        obtain ⟨t18, e19, h⟩ := gb h
        refine gR_csI (wX11_bits_s e19) (Nat.le_of_ble_eq_true rfl) rfl rfl rfl rfl ?_
        refine gR_go 2 (pc1 := 58) (L1 := [some (.ref 153), some (.int w1), some (.int x2), some (.int x3), some (.int x4), some (.int x5)]) (st1 := [.long ((x4 : Int32).toInt64), .int t18]) (fun _ _ => rfl) ?_
        obtain ⟨t20, e21, h⟩ := gb h
        refine gR_csI (wX11_bits_s e21) (Nat.le_of_ble_eq_true rfl) rfl rfl rfl rfl ?_
        rcases gif h with ⟨c22, h⟩ | ⟨c22, h⟩
        · refine gR_ic_ge_f rfl c22 ?_
          exact wX11_proof_u64 ih he84 h
        · refine gR_ic_ge_j rfl c22 rfl ?_
          exact wX11_proof_u78 ih he84 h
    · refine gR_ic_ge_j rfl c13 rfl ?_
      exact he84 _ _ _ _ _ (Option.some.inj h).symm
noncomputable def wX11_proof (x1 : Int32) (x2 : Int32) (s : wS) : Option (Int32 × wS) := (wX11_canAsk x1 s).bind fun t1 => if t1 = 0 then (some ((-1), s)) else ((wX11_isThing 2 x2 s).bind fun t4 => if t4 = 0 then (some ((-1), s)) else ((wX11_reaches x1 s).bind fun s8 => (wX11_twelve s8).bind fun (t10, s11) => (wX11_proof_h36 x2 t10 s11 wFuel ((Int8.ofInt (-2)).toInt32) 0).bind fun t24 => some (t24, s11)))
theorem wX11_proof_s {x1 : Int32} {x2 : Int32} {s : wS} {rv : Int32} {rs : wS} (h : wX11_proof x1 x2 s = some (rv, rs)) : gEv 5 251 [.ref 153, .int x1, .int x2] (wmk s) (some (.int rv), wmk rs, 0, 0) := by
  refine gEv_of (d := 4) (L := [some (.ref 153), some (.int x1), some (.int x2), none, none, none]) rfl ?_
  unfold wX11_proof at h
  refine gR_go 2 (pc1 := 2) (L1 := [some (.ref 153), some (.int x1), some (.int x2), none, none, none]) (st1 := [.int x1, .ref 153]) (fun _ _ => rfl) ?_
  obtain ⟨t1, e2, h⟩ := gb h
  refine gR_cvI (wX11_canAsk_s e2) (Nat.le_of_ble_eq_true rfl) rfl rfl rfl rfl rfl ?_
  rcases gif h with ⟨c3, h⟩ | ⟨c3, h⟩
  · refine gR_iz_eq_j rfl c3 rfl ?_
    refine gR_go 1 (pc1 := 18) (L1 := [some (.ref 153), some (.int x1), some (.int x2), none, none, none]) (st1 := [.int (-1)]) (fun _ _ => rfl) ?_
    obtain ⟨rfl, rfl⟩ := gi2 h
    exact gR_ri rfl rfl
  · refine gR_iz_eq_f rfl c3 ?_
    refine gR_go 3 (pc1 := 11) (L1 := [some (.ref 153), some (.int x1), some (.int x2), none, none, none]) (st1 := [.int x2, .int 2, .ref 153]) (fun _ _ => rfl) ?_
    obtain ⟨t4, e5, h⟩ := gb h
    refine gR_cvI (wX11_isThing_s e5) (Nat.le_of_ble_eq_true rfl) rfl rfl rfl rfl rfl ?_
    rcases gif h with ⟨c6, h⟩ | ⟨c6, h⟩
    · refine gR_iz_ne_f rfl c6 ?_
      refine gR_go 1 (pc1 := 18) (L1 := [some (.ref 153), some (.int x1), some (.int x2), none, none, none]) (st1 := [.int (-1)]) (fun _ _ => rfl) ?_
      obtain ⟨rfl, rfl⟩ := gi2 h
      exact gR_ri rfl rfl
    · refine gR_iz_ne_j rfl c6 rfl ?_
      refine gR_go 2 (pc1 := 21) (L1 := [some (.ref 153), some (.int x1), some (.int x2), none, none, none]) (st1 := [.int x1, .ref 153]) (fun _ _ => rfl) ?_
      obtain ⟨s8, e9, h⟩ := gb h
      refine gR_cvV (wX11_reaches_s e9) (Nat.le_of_ble_eq_true rfl) rfl rfl rfl rfl rfl ?_
      refine gR_go 1 (pc1 := 25) (L1 := [some (.ref 153), some (.int x1), some (.int x2), none, none, none]) (st1 := [.ref 153]) (fun _ _ => rfl) ?_
      obtain ⟨⟨t10, s11⟩, e12, h⟩ := gb h
      dsimp only at h
      refine gR_cvI (wX11_twelve_s e12) (Nat.le_of_ble_eq_true rfl) rfl rfl rfl rfl rfl ?_
      refine gR_go 5 (pc1 := 36) (L1 := [some (.ref 153), some (.int x1), some (.int x2), some (.int t10), some (.int ((Int8.ofInt (-2)).toInt32)), some (.int 0)]) (st1 := []) (fun _ _ => rfl) ?_
      obtain ⟨z23, ez23, h⟩ := gb h
      refine wX11_proof_t36 ?_  ez23
      · intro t24 w25 w26 w27 w28 hz
        replace hz := hz.symm
        subst hz
        refine gR_go 1 (pc1 := 86) (L1 := [some (.ref 153), some (.int w25), some (.int w26), some (.int w27), some (.int t24), some (.int w28)]) (st1 := [.int t24]) (fun _ _ => rfl) ?_
        obtain ⟨rfl, rfl⟩ := gi2 h
        exact gR_ri rfl rfl
noncomputable def wX11_byLaws_h47 (x1 : Int32) (x2 : Int32) (x3 : Int32) : Nat → Int32 → wS → Option (wS)
  | 0, _, _ => none
  | n + 1, x4, s => (wX11_worlds s).bind fun t13 => if x4 < t13 then ((wstI s 167 512 x4 0).bind fun s16 => wX11_byLaws_h47 x1 x2 x3 n (x4 + 1) s16) else (some s)
theorem wX11_byLaws_t47 {x1 : Int32} {x2 : Int32} {x3 : Int32} {x : wS} {r : ri_R} (he70 : ∀ (s : wS) (w4 : Int32) (w5 : Option Value) , x = s → gRun 5 252 70 [some (.ref 153), some (.int x1), some (.int x2), some (.int x3), some (.int w4), w5] [] (wmk s) r) : ∀ {n : Nat} {x4 : Int32} {s : wS} {w5 : Option Value} , wX11_byLaws_h47 x1 x2 x3 n x4 s = some x → gRun 5 252 47 [some (.ref 153), some (.int x1), some (.int x2), some (.int x3), some (.int x4), w5] [] (wmk s) r := by
  intro n
  induction n with
  | zero => intro x4 s w5 h; cases (show (none : Option (wS)) = some x from h)
  | succ n ih =>
    intro x4 s w5 h
    rw [wX11_byLaws_h47] at h
    refine gR_go 2 (pc1 := 50) (L1 := [some (.ref 153), some (.int x1), some (.int x2), some (.int x3), some (.int x4), w5]) (st1 := [.ref 153, .int x4]) (fun _ _ => rfl) ?_
    obtain ⟨t13, e14, h⟩ := gb h
    refine gR_cvI (wX11_worlds_s e14) (Nat.le_of_ble_eq_true rfl) rfl rfl rfl rfl rfl ?_
    rcases gif h with ⟨c15, h⟩ | ⟨c15, h⟩
    · refine gR_ic_ge_f rfl c15 ?_
      refine gR_go 1 (pc1 := 57) (L1 := [some (.ref 153), some (.int x1), some (.int x2), some (.int x3), some (.int x4), w5]) (st1 := [.ref 153]) (fun _ _ => rfl) ?_
      refine gR_gfR (k := 152) (k' := 167) rfl rfl rfl rfl ?_
      refine gR_go 2 (pc1 := 63) (L1 := [some (.ref 153), some (.int x1), some (.int x2), some (.int x3), some (.int x4), w5]) (st1 := [.int 0, .int x4, .ref 168]) (fun _ _ => rfl) ?_
      obtain ⟨s16, es16, h⟩ := gb h
      refine gR_ias (k := 167) rfl rfl rfl es16 ?_
      refine gR_go 2 (pc1 := 47) (L1 := [some (.ref 153), some (.int x1), some (.int x2), some (.int x3), some (.int (x4 + 1)), w5]) (st1 := []) (fun _ _ => rfl) ?_
      exact ih h
    · refine gR_ic_ge_j rfl c15 rfl ?_
      exact he70 _ _ _ (Option.some.inj h).symm
noncomputable def wX11_byLaws_j146 (qq : Int32 → wS → Option (wS)) (x1 : Int32) (x2 : Int32) (x3 : Int32) (x4 : Int32) (s : wS) : Option (wS) := qq (x4 + 1) s
theorem wX11_byLaws_u146 {x1 : Int32} {x2 : Int32} {x3 : Int32} {x4 : Int32} {s : wS} {w5 : Option Value} {qq : Int32 → wS → Option (wS)} {x : wS} {r : ri_R} (ih : ∀ {x4 : Int32} {s : wS} {w5 : Option Value} , qq x4 s = some x → gRun 5 252 73 [some (.ref 153), some (.int x1), some (.int x2), some (.int x3), some (.int x4), w5] [] (wmk s) r) (he152 : ∀ (s : wS) (w2 : Int32) (w4 : Int32) (w5 : Option Value) , x = s → gRun 5 252 152 [some (.ref 153), some (.int x1), some (.int w2), some (.int x3), some (.int w4), w5] [] (wmk s) r) (h : wX11_byLaws_j146 qq x1 x2 x3 x4 s = some x) : gRun 5 252 146 [some (.ref 153), some (.int x1), some (.int x2), some (.int x3), some (.int x4), w5] [] (wmk s) r := by
  unfold wX11_byLaws_j146 at h
  refine gR_go 2 (pc1 := 73) (L1 := [some (.ref 153), some (.int x1), some (.int x2), some (.int x3), some (.int (x4 + 1)), w5]) (st1 := []) (fun _ _ => rfl) ?_
  exact ih h
noncomputable def wX11_byLaws_j138 (qq : Int32 → wS → Option (wS)) (x1 : Int32) (x2 : Int32) (x3 : Int32) (x4 : Int32) (x5 : Int32) (y1 : Int32) (y2 : Int32) (y3 : Int32) (s : wS) : Option (wS) := (wstI s 167 512 y1 (y2 + y3)).bind fun s32 => qq (x5 + 1) s32
theorem wX11_byLaws_u138 {x1 : Int32} {x2 : Int32} {x3 : Int32} {x4 : Int32} {x5 : Int32} {y1 : Int32} {y2 : Int32} {y3 : Int32} {s : wS} {qq : Int32 → wS → Option (wS)} {x : wS} {r : ri_R} (ih : ∀ {x5 : Int32} {s : wS} , qq x5 s = some x → gRun 5 252 106 [some (.ref 153), some (.int x1), some (.int x2), some (.int x3), some (.int x4), some (.int x5)] [] (wmk s) r) (he146 : ∀ (s : wS) (w5 : Option Value) , x = s → gRun 5 252 146 [some (.ref 153), some (.int x1), some (.int x2), some (.int x3), some (.int x4), w5] [] (wmk s) r) (h : wX11_byLaws_j138 qq x1 x2 x3 x4 x5 y1 y2 y3 s = some x) : gRun 5 252 138 [some (.ref 153), some (.int x1), some (.int x2), some (.int x3), some (.int x4), some (.int x5)] [.int y3, .int y2, .int y1, .ref 168] (wmk s) r := by
  unfold wX11_byLaws_j138 at h
  refine gR_go 1 (pc1 := 139) (L1 := [some (.ref 153), some (.int x1), some (.int x2), some (.int x3), some (.int x4), some (.int x5)]) (st1 := [.int (y2 + y3), .int y1, .ref 168]) (fun _ _ => rfl) ?_
  obtain ⟨s32, es32, h⟩ := gb h
  refine gR_ias (k := 167) rfl rfl rfl es32 ?_
  refine gR_go 2 (pc1 := 106) (L1 := [some (.ref 153), some (.int x1), some (.int x2), some (.int x3), some (.int x4), some (.int (x5 + 1))]) (st1 := []) (fun _ _ => rfl) ?_
  exact ih h
noncomputable def wX11_byLaws_h106 (x1 : Int32) (x2 : Int32) (x3 : Int32) (x4 : Int32) : Nat → Int32 → wS → Option (wS)
  | 0, _, _ => none
  | n + 1, x5, s => (wX11_worlds s).bind fun t26 => if x5 < t26 then ((wldI s 167 512 x5).bind fun t29 => (wldI s 165 512 x5).bind fun t30 => if t30 = 0 then (wX11_byLaws_j138 (wX11_byLaws_h106 x1 x2 x3 x4 n) x1 x2 x3 x4 x5 x5 t29 0 s) else (wX11_byLaws_j138 (wX11_byLaws_h106 x1 x2 x3 x4 n) x1 x2 x3 x4 x5 x5 t29 1 s)) else (some s)
theorem wX11_byLaws_t106 {x1 : Int32} {x2 : Int32} {x3 : Int32} {x4 : Int32} {x : wS} {r : ri_R} (he146 : ∀ (s : wS) (w5 : Option Value) , x = s → gRun 5 252 146 [some (.ref 153), some (.int x1), some (.int x2), some (.int x3), some (.int x4), w5] [] (wmk s) r) : ∀ {n : Nat} {x5 : Int32} {s : wS} , wX11_byLaws_h106 x1 x2 x3 x4 n x5 s = some x → gRun 5 252 106 [some (.ref 153), some (.int x1), some (.int x2), some (.int x3), some (.int x4), some (.int x5)] [] (wmk s) r := by
  intro n
  induction n with
  | zero => intro x5 s h; cases (show (none : Option (wS)) = some x from h)
  | succ n ih =>
    intro x5 s h
    rw [wX11_byLaws_h106] at h
    refine gR_go 2 (pc1 := 109) (L1 := [some (.ref 153), some (.int x1), some (.int x2), some (.int x3), some (.int x4), some (.int x5)]) (st1 := [.ref 153, .int x5]) (fun _ _ => rfl) ?_
    obtain ⟨t26, e27, h⟩ := gb h
    refine gR_cvI (wX11_worlds_s e27) (Nat.le_of_ble_eq_true rfl) rfl rfl rfl rfl rfl ?_
    rcases gif h with ⟨c28, h⟩ | ⟨c28, h⟩
    · refine gR_ic_ge_f rfl c28 ?_
      refine gR_go 1 (pc1 := 116) (L1 := [some (.ref 153), some (.int x1), some (.int x2), some (.int x3), some (.int x4), some (.int x5)]) (st1 := [.ref 153]) (fun _ _ => rfl) ?_
      refine gR_gfR (k := 152) (k' := 167) rfl rfl rfl rfl ?_
      refine gR_go 2 (pc1 := 122) (L1 := [some (.ref 153), some (.int x1), some (.int x2), some (.int x3), some (.int x4), some (.int x5)]) (st1 := [.int x5, .ref 168, .int x5, .ref 168]) (fun _ _ => rfl) ?_
      obtain ⟨t29, et29, h⟩ := gb h
      refine gR_ial (k := 167) rfl rfl rfl et29 ?_
      refine gR_go 1 (pc1 := 124) (L1 := [some (.ref 153), some (.int x1), some (.int x2), some (.int x3), some (.int x4), some (.int x5)]) (st1 := [.ref 153, .int t29, .int x5, .ref 168]) (fun _ _ => rfl) ?_
      refine gR_gfR (k := 152) (k' := 165) rfl rfl rfl rfl ?_
      refine gR_go 1 (pc1 := 129) (L1 := [some (.ref 153), some (.int x1), some (.int x2), some (.int x3), some (.int x4), some (.int x5)]) (st1 := [.int x5, .ref 166, .int t29, .int x5, .ref 168]) (fun _ _ => rfl) ?_
      obtain ⟨t30, et30, h⟩ := gb h
      refine gR_zal (k := 165) rfl rfl rfl et30 ?_
      rcases gif h with ⟨c31, h⟩ | ⟨c31, h⟩
      · refine gR_iz_eq_j rfl c31 rfl ?_
        refine gR_go 1 (pc1 := 138) (L1 := [some (.ref 153), some (.int x1), some (.int x2), some (.int x3), some (.int x4), some (.int x5)]) (st1 := [.int 0, .int t29, .int x5, .ref 168]) (fun _ _ => rfl) ?_
        exact wX11_byLaws_u138 ih he146 h
      · refine gR_iz_eq_f rfl c31 ?_
        refine gR_go 2 (pc1 := 138) (L1 := [some (.ref 153), some (.int x1), some (.int x2), some (.int x3), some (.int x4), some (.int x5)]) (st1 := [.int 1, .int t29, .int x5, .ref 168]) (fun _ _ => rfl) ?_
        exact wX11_byLaws_u138 ih he146 h
    · refine gR_ic_ge_j rfl c28 rfl ?_
      exact he146 _ _ (Option.some.inj h).symm
noncomputable def wX11_byLaws_h73 (x1 : Int32) (x2 : Int32) (x3 : Int32) : Nat → Int32 → wS → Option (wS)
  | 0, _, _ => none
  | n + 1, x4, s => if x4 < (s.1 152 2) then (if ((x1 >>> (x4 &&& 31)) &&& 1) = 0 then (wX11_byLaws_j146 (wX11_byLaws_h73 x1 x2 x3 n) x1 x2 x3 x4 s) else ((wX11_keeps x4 x2 (-1) s).bind fun (t23, s24) => (wX11_byLaws_h106 x1 x2 x3 x4 wFuel 0 s24).bind fun s34 => wX11_byLaws_j146 (wX11_byLaws_h73 x1 x2 x3 n) x1 x2 x3 x4 s34)) else (some s)
theorem wX11_byLaws_t73 {x1 : Int32} {x2 : Int32} {x3 : Int32} {x : wS} {r : ri_R} (he152 : ∀ (s : wS) (w2 : Int32) (w4 : Int32) (w5 : Option Value) , x = s → gRun 5 252 152 [some (.ref 153), some (.int x1), some (.int w2), some (.int x3), some (.int w4), w5] [] (wmk s) r) : ∀ {n : Nat} {x4 : Int32} {s : wS} {w5 : Option Value} , wX11_byLaws_h73 x1 x2 x3 n x4 s = some x → gRun 5 252 73 [some (.ref 153), some (.int x1), some (.int x2), some (.int x3), some (.int x4), w5] [] (wmk s) r := by
  intro n
  induction n with
  | zero => intro x4 s w5 h; cases (show (none : Option (wS)) = some x from h)
  | succ n ih =>
    intro x4 s w5 h
    rw [wX11_byLaws_h73] at h
    refine gR_go 2 (pc1 := 76) (L1 := [some (.ref 153), some (.int x1), some (.int x2), some (.int x3), some (.int x4), w5]) (st1 := [.ref 153, .int x4]) (fun _ _ => rfl) ?_
    refine gR_gfI (k := 152) rfl rfl rfl ?_
    rcases gif h with ⟨c21, h⟩ | ⟨c21, h⟩
    · refine gR_ic_ge_f rfl c21 ?_
      refine gR_go 5 (pc1 := 88) (L1 := [some (.ref 153), some (.int x1), some (.int x2), some (.int x3), some (.int x4), w5]) (st1 := [.int ((x1 >>> (x4 &&& 31)) &&& 1)]) (fun _ _ => rfl) ?_
      rcases gif h with ⟨c22, h⟩ | ⟨c22, h⟩
      · refine gR_iz_ne_f rfl c22 ?_
        refine gR_go 1 (pc1 := 146) (L1 := [some (.ref 153), some (.int x1), some (.int x2), some (.int x3), some (.int x4), w5]) (st1 := []) (fun _ _ => rfl) ?_
        exact wX11_byLaws_u146 ih he152 h
      · refine gR_iz_ne_j rfl c22 rfl ?_
        refine gR_go 4 (pc1 := 99) (L1 := [some (.ref 153), some (.int x1), some (.int x2), some (.int x3), some (.int x4), w5]) (st1 := [.int (-1), .int x2, .int x4, .ref 153]) (fun _ _ => rfl) ?_
        obtain ⟨⟨t23, s24⟩, e25, h⟩ := gb h
        dsimp only at h
        refine gR_cvI (wX11_keeps_s e25) (Nat.le_of_ble_eq_true rfl) rfl rfl rfl rfl rfl ?_
        refine gR_go 3 (pc1 := 106) (L1 := [some (.ref 153), some (.int x1), some (.int x2), some (.int x3), some (.int x4), some (.int 0)]) (st1 := []) (fun _ _ => rfl) ?_
        obtain ⟨z33, ez33, h⟩ := gb h
        refine wX11_byLaws_t106 ?_  ez33
        · intro s34 w35 hz
          replace hz := hz.symm
          subst hz
          exact wX11_byLaws_u146 ih he152 h
    · refine gR_ic_ge_j rfl c21 rfl ?_
      exact he152 _ _ _ _ (Option.some.inj h).symm
noncomputable def wX11_byLaws_j197 (qq : Int32 → Int32 → Option (Int32)) (x1 : Int32) (x3 : Int32) (x5 : Int32) (y0 : Int32) (y1 : Int32) (s : wS) : Option (Int32) := qq (y0 + y1) (x5 + 1)
theorem wX11_byLaws_u197 {x1 : Int32} {x3 : Int32} {x5 : Int32} {y0 : Int32} {y1 : Int32} {s : wS} {w2 : Int32} {w4 : Int32} {qq : Int32 → Int32 → Option (Int32)} {x : Int32} {r : ri_R} (ih : ∀ {x4 : Int32} {x5 : Int32} {w2 : Int32} , qq x4 x5 = some x → gRun 5 252 158 [some (.ref 153), some (.int x1), some (.int w2), some (.int x3), some (.int x4), some (.int x5)] [] (wmk s) r) (he206 : ∀ (x4 : Int32) (w1 : Int32) (w2 : Int32) (w3 : Int32) (w5 : Int32) , x = x4 → gRun 5 252 206 [some (.ref 153), some (.int w1), some (.int w2), some (.int w3), some (.int x4), some (.int w5)] [] (wmk s) r) (h : wX11_byLaws_j197 qq x1 x3 x5 y0 y1 s = some x) : gRun 5 252 197 [some (.ref 153), some (.int x1), some (.int w2), some (.int x3), some (.int w4), some (.int x5)] [.int y1, .int y0] (wmk s) r := by
  unfold wX11_byLaws_j197 at h
  refine gR_go 4 (pc1 := 158) (L1 := [some (.ref 153), some (.int x1), some (.int w2), some (.int x3), some (.int (y0 + y1)), some (.int (x5 + 1))]) (st1 := []) (fun _ _ => rfl) ?_
  exact ih h
noncomputable def wX11_byLaws_j189 (qq : Int32 → Int32 → Option (Int32)) (x1 : Int32) (x3 : Int32) (x5 : Int32) (y0 : Int32) (y1 : Int32) (y2 : Int32) (s : wS) : Option (Int32) := if y1 < y2 then (wX11_byLaws_j197 qq x1 x3 x5 y0 0 s) else (wX11_byLaws_j197 qq x1 x3 x5 y0 1 s)
theorem wX11_byLaws_u189 {x1 : Int32} {x3 : Int32} {x5 : Int32} {y0 : Int32} {y1 : Int32} {y2 : Int32} {s : wS} {w2 : Int32} {w4 : Int32} {qq : Int32 → Int32 → Option (Int32)} {x : Int32} {r : ri_R} (ih : ∀ {x4 : Int32} {x5 : Int32} {w2 : Int32} , qq x4 x5 = some x → gRun 5 252 158 [some (.ref 153), some (.int x1), some (.int w2), some (.int x3), some (.int x4), some (.int x5)] [] (wmk s) r) (he206 : ∀ (x4 : Int32) (w1 : Int32) (w2 : Int32) (w3 : Int32) (w5 : Int32) , x = x4 → gRun 5 252 206 [some (.ref 153), some (.int w1), some (.int w2), some (.int w3), some (.int x4), some (.int w5)] [] (wmk s) r) (h : wX11_byLaws_j189 qq x1 x3 x5 y0 y1 y2 s = some x) : gRun 5 252 189 [some (.ref 153), some (.int x1), some (.int w2), some (.int x3), some (.int w4), some (.int x5)] [.int y2, .int y1, .int y0] (wmk s) r := by
  unfold wX11_byLaws_j189 at h
  rcases gif h with ⟨c48, h⟩ | ⟨c48, h⟩
  · refine gR_ic_lt_j rfl c48 rfl ?_
    refine gR_go 1 (pc1 := 197) (L1 := [some (.ref 153), some (.int x1), some (.int w2), some (.int x3), some (.int w4), some (.int x5)]) (st1 := [.int 0, .int y0]) (fun _ _ => rfl) ?_
    exact wX11_byLaws_u197 ih he206 h
  · refine gR_ic_lt_f rfl c48 ?_
    refine gR_go 2 (pc1 := 197) (L1 := [some (.ref 153), some (.int x1), some (.int w2), some (.int x3), some (.int w4), some (.int x5)]) (st1 := [.int 1, .int y0]) (fun _ _ => rfl) ?_
    exact wX11_byLaws_u197 ih he206 h
noncomputable def wX11_byLaws_h158 (x1 : Int32) (x3 : Int32) (s : wS) : Nat → Int32 → Int32 → Option (Int32)
  | 0, _, _ => none
  | n + 1, x4, x5 => (wX11_worlds s).bind fun t41 => if x5 < t41 then ((wldI s 167 512 x5).bind fun t44 => if x3 = 0 then ((wX11_bits ((x1 : Int32).toInt64) s).bind fun t46 => wX11_byLaws_j189 (wX11_byLaws_h158 x1 x3 s n) x1 x3 x5 x4 t44 t46 s) else (wX11_byLaws_j189 (wX11_byLaws_h158 x1 x3 s n) x1 x3 x5 x4 t44 1 s)) else (some x4)
theorem wX11_byLaws_t158 {x1 : Int32} {x3 : Int32} {s : wS} {x : Int32} {r : ri_R} (he206 : ∀ (x4 : Int32) (w1 : Int32) (w2 : Int32) (w3 : Int32) (w5 : Int32) , x = x4 → gRun 5 252 206 [some (.ref 153), some (.int w1), some (.int w2), some (.int w3), some (.int x4), some (.int w5)] [] (wmk s) r) : ∀ {n : Nat} {x4 : Int32} {x5 : Int32} {w2 : Int32} , wX11_byLaws_h158 x1 x3 s n x4 x5 = some x → gRun 5 252 158 [some (.ref 153), some (.int x1), some (.int w2), some (.int x3), some (.int x4), some (.int x5)] [] (wmk s) r := by
  intro n
  induction n with
  | zero => intro x4 x5 w2 h; cases (show (none : Option (Int32)) = some x from h)
  | succ n ih =>
    intro x4 x5 w2 h
    rw [wX11_byLaws_h158] at h
    refine gR_go 2 (pc1 := 161) (L1 := [some (.ref 153), some (.int x1), some (.int w2), some (.int x3), some (.int x4), some (.int x5)]) (st1 := [.ref 153, .int x5]) (fun _ _ => rfl) ?_
    obtain ⟨t41, e42, h⟩ := gb h
    refine gR_cvI (wX11_worlds_s e42) (Nat.le_of_ble_eq_true rfl) rfl rfl rfl rfl rfl ?_
    rcases gif h with ⟨c43, h⟩ | ⟨c43, h⟩
    · refine gR_ic_ge_f rfl c43 ?_
      refine gR_go 2 (pc1 := 170) (L1 := [some (.ref 153), some (.int x1), some (.int w2), some (.int x3), some (.int x4), some (.int x5)]) (st1 := [.ref 153, .int x4]) (fun _ _ => rfl) ?_
      refine gR_gfR (k := 152) (k' := 167) rfl rfl rfl rfl ?_
      refine gR_go 1 (pc1 := 175) (L1 := [some (.ref 153), some (.int x1), some (.int w2), some (.int x3), some (.int x4), some (.int x5)]) (st1 := [.int x5, .ref 168, .int x4]) (fun _ _ => rfl) ?_
      obtain ⟨t44, et44, h⟩ := gb h
      refine gR_ial (k := 167) rfl rfl rfl et44 ?_
      refine gR_go 1 (pc1 := 177) (L1 := [some (.ref 153), some (.int x1), some (.int w2), some (.int x3), some (.int x4), some (.int x5)]) (st1 := [.int x3, .int t44, .int x4]) (fun _ _ => rfl) ?_
      rcases gif h with ⟨c45, h⟩ | ⟨c45, h⟩
      · refine gR_iz_ne_f rfl c45 ?_
        refine gR_go 2 (pc1 := 182) (L1 := [some (.ref 153), some (.int x1), some (.int w2), some (.int x3), some (.int x4), some (.int x5)]) (st1 := [.long ((x1 : Int32).toInt64), .int t44, .int x4]) (fun _ _ => rfl) ?_
        obtain ⟨t46, e47, h⟩ := gb h
        refine gR_csI (wX11_bits_s e47) (Nat.le_of_ble_eq_true rfl) rfl rfl rfl rfl ?_
        refine gR_go 1 (pc1 := 189) (L1 := [some (.ref 153), some (.int x1), some (.int w2), some (.int x3), some (.int x4), some (.int x5)]) (st1 := [.int t46, .int t44, .int x4]) (fun _ _ => rfl) ?_
        exact wX11_byLaws_u189 ih he206 h
      · refine gR_iz_ne_j rfl c45 rfl ?_
        refine gR_go 1 (pc1 := 189) (L1 := [some (.ref 153), some (.int x1), some (.int w2), some (.int x3), some (.int x4), some (.int x5)]) (st1 := [.int 1, .int t44, .int x4]) (fun _ _ => rfl) ?_
        exact wX11_byLaws_u189 ih he206 h
    · refine gR_ic_ge_j rfl c43 rfl ?_
      exact he206 _ _ _ _ _ (Option.some.inj h).symm
noncomputable def wX11_byLaws (x1 : Int32) (x2 : Int32) (x3 : Int32) (s : wS) : Option (Int32 × wS) := (wX11_isCourt s).bind fun t1 => if t1 = 0 then (some ((-1), s)) else ((wX11_in ((x1 : Int32).toInt64) 1 ((((1 <<< ((s.1 152 2) &&& 31)) - 1) : Int32).toInt64) s).bind fun t4 => if t4 = 0 then (some ((-1), s)) else ((wX11_isMany x2 s).bind fun t7 => if t7 = 0 then (some ((-1), s)) else ((wX11_in ((x3 : Int32).toInt64) 0 1 s).bind fun t10 => if t10 = 0 then (some ((-1), s)) else ((wX11_byLaws_h47 x1 x2 x3 wFuel 0 s).bind fun s18 => (wX11_byLaws_h73 x1 x2 x3 wFuel 0 s18).bind fun s37 => (wX11_byLaws_h158 x1 x3 s37 wFuel 0 0).bind fun t50 => some (t50, s37)))))
theorem wX11_byLaws_s {x1 : Int32} {x2 : Int32} {x3 : Int32} {s : wS} {rv : Int32} {rs : wS} (h : wX11_byLaws x1 x2 x3 s = some (rv, rs)) : gEv 6 252 [.ref 153, .int x1, .int x2, .int x3] (wmk s) (some (.int rv), wmk rs, 0, 0) := by
  refine gEv_of (d := 5) (L := [some (.ref 153), some (.int x1), some (.int x2), some (.int x3), none, none]) rfl ?_
  unfold wX11_byLaws at h
  refine gR_go 1 (pc1 := 1) (L1 := [some (.ref 153), some (.int x1), some (.int x2), some (.int x3), none, none]) (st1 := [.ref 153]) (fun _ _ => rfl) ?_
  obtain ⟨t1, e2, h⟩ := gb h
  refine gR_cvI (wX11_isCourt_s e2) (Nat.le_of_ble_eq_true rfl) rfl rfl rfl rfl rfl ?_
  rcases gif h with ⟨c3, h⟩ | ⟨c3, h⟩
  · refine gR_iz_eq_j rfl c3 rfl ?_
    refine gR_go 1 (pc1 := 43) (L1 := [some (.ref 153), some (.int x1), some (.int x2), some (.int x3), none, none]) (st1 := [.int (-1)]) (fun _ _ => rfl) ?_
    obtain ⟨rfl, rfl⟩ := gi2 h
    exact gR_ri rfl rfl
  · refine gR_iz_eq_f rfl c3 ?_
    refine gR_go 5 (pc1 := 12) (L1 := [some (.ref 153), some (.int x1), some (.int x2), some (.int x3), none, none]) (st1 := [.ref 153, .int 1, .long 1, .long ((x1 : Int32).toInt64)]) (fun _ _ => rfl) ?_
    refine gR_gfI (k := 152) rfl rfl rfl ?_
    refine gR_go 4 (pc1 := 19) (L1 := [some (.ref 153), some (.int x1), some (.int x2), some (.int x3), none, none]) (st1 := [.long ((((1 <<< ((s.1 152 2) &&& 31)) - 1) : Int32).toInt64), .long 1, .long ((x1 : Int32).toInt64)]) (fun _ _ => rfl) ?_
    obtain ⟨t4, e5, h⟩ := gb h
    refine gR_csI (wX11_in_s e5) (Nat.le_of_ble_eq_true rfl) rfl rfl rfl rfl ?_
    rcases gif h with ⟨c6, h⟩ | ⟨c6, h⟩
    · refine gR_iz_eq_j rfl c6 rfl ?_
      refine gR_go 1 (pc1 := 43) (L1 := [some (.ref 153), some (.int x1), some (.int x2), some (.int x3), none, none]) (st1 := [.int (-1)]) (fun _ _ => rfl) ?_
      obtain ⟨rfl, rfl⟩ := gi2 h
      exact gR_ri rfl rfl
    · refine gR_iz_eq_f rfl c6 ?_
      refine gR_go 1 (pc1 := 26) (L1 := [some (.ref 153), some (.int x1), some (.int x2), some (.int x3), none, none]) (st1 := [.int x2]) (fun _ _ => rfl) ?_
      obtain ⟨t7, e8, h⟩ := gb h
      refine gR_csI (wX11_isMany_s e8) (Nat.le_of_ble_eq_true rfl) rfl rfl rfl rfl ?_
      rcases gif h with ⟨c9, h⟩ | ⟨c9, h⟩
      · refine gR_iz_eq_j rfl c9 rfl ?_
        refine gR_go 1 (pc1 := 43) (L1 := [some (.ref 153), some (.int x1), some (.int x2), some (.int x3), none, none]) (st1 := [.int (-1)]) (fun _ _ => rfl) ?_
        obtain ⟨rfl, rfl⟩ := gi2 h
        exact gR_ri rfl rfl
      · refine gR_iz_eq_f rfl c9 ?_
        refine gR_go 4 (pc1 := 36) (L1 := [some (.ref 153), some (.int x1), some (.int x2), some (.int x3), none, none]) (st1 := [.long 1, .long 0, .long ((x3 : Int32).toInt64)]) (fun _ _ => rfl) ?_
        obtain ⟨t10, e11, h⟩ := gb h
        refine gR_csI (wX11_in_s e11) (Nat.le_of_ble_eq_true rfl) rfl rfl rfl rfl ?_
        rcases gif h with ⟨c12, h⟩ | ⟨c12, h⟩
        · refine gR_iz_ne_f rfl c12 ?_
          refine gR_go 1 (pc1 := 43) (L1 := [some (.ref 153), some (.int x1), some (.int x2), some (.int x3), none, none]) (st1 := [.int (-1)]) (fun _ _ => rfl) ?_
          obtain ⟨rfl, rfl⟩ := gi2 h
          exact gR_ri rfl rfl
        · refine gR_iz_ne_j rfl c12 rfl ?_
          refine gR_go 2 (pc1 := 47) (L1 := [some (.ref 153), some (.int x1), some (.int x2), some (.int x3), some (.int 0), none]) (st1 := []) (fun _ _ => rfl) ?_
          obtain ⟨z17, ez17, h⟩ := gb h
          refine wX11_byLaws_t47 ?_  ez17
          · intro s18 w19 w20 hz
            replace hz := hz.symm
            subst hz
            refine gR_go 2 (pc1 := 73) (L1 := [some (.ref 153), some (.int x1), some (.int x2), some (.int x3), some (.int 0), w20]) (st1 := []) (fun _ _ => rfl) ?_
            obtain ⟨z36, ez36, h⟩ := gb h
            refine wX11_byLaws_t73 ?_  ez36
            · intro s37 w38 w39 w40 hz
              replace hz := hz.symm
              subst hz
              refine gR_go 4 (pc1 := 158) (L1 := [some (.ref 153), some (.int x1), some (.int w38), some (.int x3), some (.int 0), some (.int 0)]) (st1 := []) (fun _ _ => rfl) ?_
              obtain ⟨z49, ez49, h⟩ := gb h
              refine wX11_byLaws_t158 ?_  ez49
              · intro t50 w51 w52 w53 w54 hz
                replace hz := hz.symm
                subst hz
                refine gR_go 1 (pc1 := 208) (L1 := [some (.ref 153), some (.int w51), some (.int w52), some (.int w53), some (.int t50), some (.int w54)]) (st1 := [.int t50]) (fun _ _ => rfl) ?_
                obtain ⟨rfl, rfl⟩ := gi2 h
                exact gR_ri rfl rfl
noncomputable def wX11_looks_j75 (qq : Int32 → Int32 → Option (Int32)) (x3 : Int32) (x5 : Int32) (y0 : Int32) (y1 : Int32) (s : wS) : Option (Int32) := qq (y0 + y1) (x5 + 1)
theorem wX11_looks_u75 {x3 : Int32} {x5 : Int32} {y0 : Int32} {y1 : Int32} {s : wS} {w1 : Int32} {w2 : Int32} {w4 : Int32} {qq : Int32 → Int32 → Option (Int32)} {x : Int32} {r : ri_R} (ih : ∀ {x4 : Int32} {x5 : Int32} {w1 : Int32} {w2 : Int32} , qq x4 x5 = some x → gRun 5 253 39 [some (.ref 153), some (.int w1), some (.int w2), some (.int x3), some (.int x4), some (.int x5)] [] (wmk s) r) (he84 : ∀ (x4 : Int32) (w1 : Int32) (w2 : Int32) (w3 : Int32) (w5 : Int32) , x = x4 → gRun 5 253 84 [some (.ref 153), some (.int w1), some (.int w2), some (.int w3), some (.int x4), some (.int w5)] [] (wmk s) r) (h : wX11_looks_j75 qq x3 x5 y0 y1 s = some x) : gRun 5 253 75 [some (.ref 153), some (.int w1), some (.int w2), some (.int x3), some (.int w4), some (.int x5)] [.int y1, .int y0] (wmk s) r := by
  unfold wX11_looks_j75 at h
  refine gR_go 4 (pc1 := 39) (L1 := [some (.ref 153), some (.int w1), some (.int w2), some (.int x3), some (.int (y0 + y1)), some (.int (x5 + 1))]) (st1 := []) (fun _ _ => rfl) ?_
  exact ih h
noncomputable def wX11_looks_j74 (qq : Int32 → Int32 → Option (Int32)) (x3 : Int32) (x5 : Int32) (y0 : Int32) (s : wS) : Option (Int32) := wX11_looks_j75 qq x3 x5 y0 0 s
theorem wX11_looks_u74 {x3 : Int32} {x5 : Int32} {y0 : Int32} {s : wS} {w1 : Int32} {w2 : Int32} {w4 : Int32} {qq : Int32 → Int32 → Option (Int32)} {x : Int32} {r : ri_R} (ih : ∀ {x4 : Int32} {x5 : Int32} {w1 : Int32} {w2 : Int32} , qq x4 x5 = some x → gRun 5 253 39 [some (.ref 153), some (.int w1), some (.int w2), some (.int x3), some (.int x4), some (.int x5)] [] (wmk s) r) (he84 : ∀ (x4 : Int32) (w1 : Int32) (w2 : Int32) (w3 : Int32) (w5 : Int32) , x = x4 → gRun 5 253 84 [some (.ref 153), some (.int w1), some (.int w2), some (.int w3), some (.int x4), some (.int w5)] [] (wmk s) r) (h : wX11_looks_j74 qq x3 x5 y0 s = some x) : gRun 5 253 74 [some (.ref 153), some (.int w1), some (.int w2), some (.int x3), some (.int w4), some (.int x5)] [.int y0] (wmk s) r := by
  unfold wX11_looks_j74 at h
  refine gR_go 1 (pc1 := 75) (L1 := [some (.ref 153), some (.int w1), some (.int w2), some (.int x3), some (.int w4), some (.int x5)]) (st1 := [.int 0, .int y0]) (fun _ _ => rfl) ?_
  exact wX11_looks_u75 ih he84 h
noncomputable def wX11_looks_h39 (x3 : Int32) (s : wS) : Nat → Int32 → Int32 → Option (Int32)
  | 0, _, _ => none
  | n + 1, x4, x5 => (wX11_worlds s).bind fun t13 => if x5 < t13 then ((wldI s 165 512 x5).bind fun t16 => if t16 = 0 then (wX11_looks_j74 (wX11_looks_h39 x3 s n) x3 x5 x4 s) else ((wX11_isTrue x3 x5 s).bind fun t18 => if t18 = 0 then (wX11_looks_j75 (wX11_looks_h39 x3 s n) x3 x5 x4 1 s) else (wX11_looks_j74 (wX11_looks_h39 x3 s n) x3 x5 x4 s))) else (some x4)
theorem wX11_looks_t39 {x3 : Int32} {s : wS} {x : Int32} {r : ri_R} (he84 : ∀ (x4 : Int32) (w1 : Int32) (w2 : Int32) (w3 : Int32) (w5 : Int32) , x = x4 → gRun 5 253 84 [some (.ref 153), some (.int w1), some (.int w2), some (.int w3), some (.int x4), some (.int w5)] [] (wmk s) r) : ∀ {n : Nat} {x4 : Int32} {x5 : Int32} {w1 : Int32} {w2 : Int32} , wX11_looks_h39 x3 s n x4 x5 = some x → gRun 5 253 39 [some (.ref 153), some (.int w1), some (.int w2), some (.int x3), some (.int x4), some (.int x5)] [] (wmk s) r := by
  intro n
  induction n with
  | zero => intro x4 x5 w1 w2 h; cases (show (none : Option (Int32)) = some x from h)
  | succ n ih =>
    intro x4 x5 w1 w2 h
    rw [wX11_looks_h39] at h
    refine gR_go 2 (pc1 := 42) (L1 := [some (.ref 153), some (.int w1), some (.int w2), some (.int x3), some (.int x4), some (.int x5)]) (st1 := [.ref 153, .int x5]) (fun _ _ => rfl) ?_
    obtain ⟨t13, e14, h⟩ := gb h
    refine gR_cvI (wX11_worlds_s e14) (Nat.le_of_ble_eq_true rfl) rfl rfl rfl rfl rfl ?_
    rcases gif h with ⟨c15, h⟩ | ⟨c15, h⟩
    · refine gR_ic_ge_f rfl c15 ?_
      refine gR_go 2 (pc1 := 51) (L1 := [some (.ref 153), some (.int w1), some (.int w2), some (.int x3), some (.int x4), some (.int x5)]) (st1 := [.ref 153, .int x4]) (fun _ _ => rfl) ?_
      refine gR_gfR (k := 152) (k' := 165) rfl rfl rfl rfl ?_
      refine gR_go 1 (pc1 := 56) (L1 := [some (.ref 153), some (.int w1), some (.int w2), some (.int x3), some (.int x4), some (.int x5)]) (st1 := [.int x5, .ref 166, .int x4]) (fun _ _ => rfl) ?_
      obtain ⟨t16, et16, h⟩ := gb h
      refine gR_zal (k := 165) rfl rfl rfl et16 ?_
      rcases gif h with ⟨c17, h⟩ | ⟨c17, h⟩
      · refine gR_iz_eq_j rfl c17 rfl ?_
        exact wX11_looks_u74 ih he84 h
      · refine gR_iz_eq_f rfl c17 ?_
        refine gR_go 3 (pc1 := 64) (L1 := [some (.ref 153), some (.int w1), some (.int w2), some (.int x3), some (.int x4), some (.int x5)]) (st1 := [.int x5, .int x3, .ref 153, .int x4]) (fun _ _ => rfl) ?_
        obtain ⟨t18, e19, h⟩ := gb h
        refine gR_cvI (wX11_isTrue_s e19) (Nat.le_of_ble_eq_true rfl) rfl rfl rfl rfl rfl ?_
        rcases gif h with ⟨c20, h⟩ | ⟨c20, h⟩
        · refine gR_iz_ne_f rfl c20 ?_
          refine gR_go 2 (pc1 := 75) (L1 := [some (.ref 153), some (.int w1), some (.int w2), some (.int x3), some (.int x4), some (.int x5)]) (st1 := [.int 1, .int x4]) (fun _ _ => rfl) ?_
          exact wX11_looks_u75 ih he84 h
        · refine gR_iz_ne_j rfl c20 rfl ?_
          exact wX11_looks_u74 ih he84 h
    · refine gR_ic_ge_j rfl c15 rfl ?_
      exact he84 _ _ _ _ _ (Option.some.inj h).symm
noncomputable def wX11_looks (x1 : Int32) (x2 : Int32) (x3 : Int32) (s : wS) : Option (Int32 × wS) := (wX11_canAsk x1 s).bind fun t1 => if t1 = 0 then (some ((-1), s)) else ((wX11_isMany x2 s).bind fun t4 => if t4 = 0 then (some ((-1), s)) else ((wX11_isAnswer x3 s).bind fun t7 => if t7 = 0 then (some ((-1), s)) else ((wX11_keeps x1 x2 (-1) s).bind fun (t10, s11) => (wX11_looks_h39 x3 s11 wFuel 0 0).bind fun t22 => some (t22, s11))))
theorem wX11_looks_s {x1 : Int32} {x2 : Int32} {x3 : Int32} {s : wS} {rv : Int32} {rs : wS} (h : wX11_looks x1 x2 x3 s = some (rv, rs)) : gEv 6 253 [.ref 153, .int x1, .int x2, .int x3] (wmk s) (some (.int rv), wmk rs, 0, 0) := by
  refine gEv_of (d := 5) (L := [some (.ref 153), some (.int x1), some (.int x2), some (.int x3), none, none]) rfl ?_
  unfold wX11_looks at h
  refine gR_go 2 (pc1 := 2) (L1 := [some (.ref 153), some (.int x1), some (.int x2), some (.int x3), none, none]) (st1 := [.int x1, .ref 153]) (fun _ _ => rfl) ?_
  obtain ⟨t1, e2, h⟩ := gb h
  refine gR_cvI (wX11_canAsk_s e2) (Nat.le_of_ble_eq_true rfl) rfl rfl rfl rfl rfl ?_
  rcases gif h with ⟨c3, h⟩ | ⟨c3, h⟩
  · refine gR_iz_eq_j rfl c3 rfl ?_
    refine gR_go 1 (pc1 := 24) (L1 := [some (.ref 153), some (.int x1), some (.int x2), some (.int x3), none, none]) (st1 := [.int (-1)]) (fun _ _ => rfl) ?_
    obtain ⟨rfl, rfl⟩ := gi2 h
    exact gR_ri rfl rfl
  · refine gR_iz_eq_f rfl c3 ?_
    refine gR_go 1 (pc1 := 9) (L1 := [some (.ref 153), some (.int x1), some (.int x2), some (.int x3), none, none]) (st1 := [.int x2]) (fun _ _ => rfl) ?_
    obtain ⟨t4, e5, h⟩ := gb h
    refine gR_csI (wX11_isMany_s e5) (Nat.le_of_ble_eq_true rfl) rfl rfl rfl rfl ?_
    rcases gif h with ⟨c6, h⟩ | ⟨c6, h⟩
    · refine gR_iz_eq_j rfl c6 rfl ?_
      refine gR_go 1 (pc1 := 24) (L1 := [some (.ref 153), some (.int x1), some (.int x2), some (.int x3), none, none]) (st1 := [.int (-1)]) (fun _ _ => rfl) ?_
      obtain ⟨rfl, rfl⟩ := gi2 h
      exact gR_ri rfl rfl
    · refine gR_iz_eq_f rfl c6 ?_
      refine gR_go 2 (pc1 := 17) (L1 := [some (.ref 153), some (.int x1), some (.int x2), some (.int x3), none, none]) (st1 := [.int x3, .ref 153]) (fun _ _ => rfl) ?_
      obtain ⟨t7, e8, h⟩ := gb h
      refine gR_cvI (wX11_isAnswer_s e8) (Nat.le_of_ble_eq_true rfl) rfl rfl rfl rfl rfl ?_
      rcases gif h with ⟨c9, h⟩ | ⟨c9, h⟩
      · refine gR_iz_ne_f rfl c9 ?_
        refine gR_go 1 (pc1 := 24) (L1 := [some (.ref 153), some (.int x1), some (.int x2), some (.int x3), none, none]) (st1 := [.int (-1)]) (fun _ _ => rfl) ?_
        obtain ⟨rfl, rfl⟩ := gi2 h
        exact gR_ri rfl rfl
      · refine gR_iz_ne_j rfl c9 rfl ?_
        refine gR_go 4 (pc1 := 29) (L1 := [some (.ref 153), some (.int x1), some (.int x2), some (.int x3), none, none]) (st1 := [.int (-1), .int x2, .int x1, .ref 153]) (fun _ _ => rfl) ?_
        obtain ⟨⟨t10, s11⟩, e12, h⟩ := gb h
        dsimp only at h
        refine gR_cvI (wX11_keeps_s e12) (Nat.le_of_ble_eq_true rfl) rfl rfl rfl rfl rfl ?_
        refine gR_go 5 (pc1 := 39) (L1 := [some (.ref 153), some (.int x1), some (.int x2), some (.int x3), some (.int 0), some (.int 0)]) (st1 := []) (fun _ _ => rfl) ?_
        obtain ⟨z21, ez21, h⟩ := gb h
        refine wX11_looks_t39 ?_  ez21
        · intro t22 w23 w24 w25 w26 hz
          replace hz := hz.symm
          subst hz
          refine gR_go 1 (pc1 := 86) (L1 := [some (.ref 153), some (.int w23), some (.int w24), some (.int w25), some (.int t22), some (.int w26)]) (st1 := [.int t22]) (fun _ _ => rfl) ?_
          obtain ⟨rfl, rfl⟩ := gi2 h
          exact gR_ri rfl rfl
end
